/-- the tables that LEVELS' tokens need -/
theorem cdM_facts : cdM 0 = 62 ∧ cdM 1 = 62 ∧ cdM 2 = 62 ∧ cdM 3 = 14 ∧ (∀ t, t ≤ 15 → 1 ≤ t → 16 - t < cdM (3 + t)) ∧ (∀ t, t ≤ 3 → 1 ≤ t → 4 - t < cdM (18 + t)) ∧ (∀ z, z ≤ 6 → 1 ≤ z → z < cdM (21 + z)) ∧ 14 < cdM 28 := by decide +kernel
theorem tkn_b {t o : Nat} (ho : o ≤ 3) (ho2 : o ≤ t) : (t ≤ 16 → tkn t o < 62) ∧ (t ≤ 4 → tkn t o < 14) := by
  unfold tkn
  by_cases h : 3 ≤ t
  · rw [if_pos h]; omega
  · rw [if_neg h]
    have : t = 0 ∨ t = 1 ∨ t = 2 := by omega
    rcases this with rfl | rfl | rfl <;> omega
theorem bsum_b {c : Nat → Int} {n : Nat} {l : LV} (h : Row c n 0 l) : bsum l + l.length ≤ n := by
  have := h.1
  rw [wd_eq] at this
  omega
set_option maxHeartbeats 8000000 in
/-- the zeros before each -/
theorem rnloop_ok {G : GG} {M N0 : DD} {a u0 t u sz bf : Nat} {f0 f : Nat → Nat} {n0 n : Nat} {S : SS} {T0 : List Tok} {l : LV} {L0 : NN} {x2 : Int32} (h : CN G a u0 t f0 n0 S T0 (xt G L0) N0 u f n) (hk : KP G M a u0 t sz bf l N0) (ha : a < G.1) (hau : a ≠ u0) (hat : a ≠ t) (hsz : sz < G.1 ∧ sz ≠ u0 ∧ sz ≠ t ∧ sz ≠ a) (hbf : bf < G.1 ∧ bf ≠ u0 ∧ bf ≠ t ∧ bf ≠ a) (hbk : G.2.1 bf = 13 ∧ G.2.2 bf = 16)
    (hl16 : l.length ≤ 16) (hz16 : bsum l + l.length ≤ 16) (hx2 : x2.toInt = l.length) (hB : Bd (runs T0 S) + 8 * 1700 ≤ 700000) (h16 : (N0.1 a 16).toInt = bsum l) :
    OK (itrA (fun (s21 : NN × Int32 × DD) => ((ltt ((s21.2.1 + ((1 : Int32)))) fun x30 =>
  if x2 ≤ x30 then (some ([], .inr ((s21.2.1, s21.2.2)))) else
  (ltt (s21.2.2.1 a 16) fun x32 =>
  if x32 ≤ ((0 : Int32)) then (some ([], .inr ((s21.2.1, s21.2.2)))) else
  (ltt (s21.2.2.1 a 16) fun x34 =>
  bnd (if ((7 : Int32)) ≤ x34 then (some ((7 : Int32))) else
  (ltt (s21.2.2.1 a 16) fun x56 =>
  some (x56))) fun (y35 : Int32) =>
  ltt ((((21 : Int32)) + y35)) fun x36 =>
  dr (xt G s21.1) 13 ((s21.2.2.2 a 15)) fun b37 =>
  chk (¬ (s21.2.1 < 0 ∨ (xt G s21.1).2.2 b37 ≤ s21.2.1.toNatClampNeg)) <|
  ltt (s21.2.2.1 b37 s21.2.1.toNatClampNeg) fun x38 =>
  bnd (FX5_valueOf (xt G s21.1) s21.2.2 x36 x38) fun y39 =>
  ltt (y39.2.toInt64) fun x40 =>
  dr (xt G s21.1) 13 ((y39.1.2 a 15)) fun b41 =>
  chk (¬ (s21.2.1 < 0 ∨ (xt G s21.1).2.2 b41 ≤ s21.2.1.toNatClampNeg)) <|
  ltt (y39.1.1 b41 s21.2.1.toNatClampNeg) fun x42 =>
  bnd (FX5_lengthOf (xt G s21.1) y39.1 x36 x42) fun y43 =>
  bnd (FX10_code (xt G s21.1) y43.1 a ((16 : Int32)) x40 y43.2) fun y44 =>
  app y44.1 <|
  ltt (s21.1 ++ y44.1) fun L46 =>
  ltt (y44.2.1 a 16) fun x49 =>
  dr (xt G L46) 13 ((y44.2.2 a 15)) fun b50 =>
  chk (¬ (s21.2.1 < 0 ∨ (xt G L46).2.2 b50 ≤ s21.2.1.toNatClampNeg)) <|
  ltt (y44.2.1 b50 s21.2.1.toNatClampNeg) fun x51 =>
  ltt ((x49 - x51)) fun x52 =>
  ltt (uI y44.2 a 16 x52) fun M53 =>
  ltt (s21.2.1 + (1 : Int32)) fun x54 =>
  some ([], .inl (L46, (x54, M53)))))) : Option (NN × ((NN × Int32 × DD) ⊕ (Int32 × DD))))) 1000000 (L0, ((0 : Int32), N0)))
    (fun y => (∃ v g k, CN G a u0 t f0 n0 S (T0 ++ rnT (bsum l) l) (xt G (L0 ++ y.1)) y.2.2 v g k) ∧ KP G M a u0 t sz bf l y.2.2) := by
  have e0 : (0 : Int32).toInt = 0 := rfl
  have e1 : (1 : Int32).toInt = 1 := rfl
  have e7 : (7 : Int32).toInt = 7 := rfl
  have e21 : (21 : Int32).toInt = 21 := rfl
  have e16 : (16 : Int32).toInt = ((16 : Nat) : Int) := rfl
  have hsok : SOk (runs T0 S) := h.2.1.sok
  obtain ⟨tl1, tl2⟩ := rnT_len l (bsum l)
  obtain ⟨-, -, -, -, -, -, cz6, cz7⟩ := cdM_facts
  refine ok_itrB (fun (L : NN) (s : Int32 × DD) => ∃ (i z : Nat) (D : List Tok), s.1.toInt = i ∧ i ≤ l.length ∧ (s.2.1 a 16).toInt = z ∧ z = bsum (l.drop i) ∧ D ++ rnT z (l.drop i) = rnT (bsum l) l ∧ (∃ v g k, CN G a u0 t f0 n0 S (T0 ++ D) (xt G L) s.2 v g k) ∧ KP G M a u0 t sz bf l s.2) (fun (s : Int32 × DD) => ((l.length : Int) + 1 - s.1.toInt).toNat) (fun (L : NN) (y : Int32 × DD) => (∃ v g k, CN G a u0 t f0 n0 S (T0 ++ rnT (bsum l) l) (xt G L) y.2 v g k) ∧ KP G M a u0 t sz bf l y.2) ?_ 1000000 L0 ((0 : Int32), N0) ?_ ?_
  · intro L s hI
    obtain ⟨ii, N⟩ := s
    obtain ⟨i, z, D, i1, i2, i3, i4, i5, ⟨v, g, k, i6⟩, i7⟩ := hI
    dsimp only at i1 i3 i6 i7 ⊢
    have hx30 : (ii + (1 : Int32)).toInt = i + 1 := by rw [ti_add (by omega) (by omega), i1, e1]
    have hbs : bsum (l.drop i) + (l.drop i).length ≤ 16 := by
      have : ∀ (m : LV) (j : Nat), bsum (m.drop j) ≤ bsum m := by
        intro m
        induction m with
        | nil => intro j; rw [List.drop_nil]; exact Nat.le_refl _
        | cons p m ih =>
          intro j
          cases j with
          | zero => exact Nat.le_refl _
          | succ j =>
            show bsum (m.drop j) ≤ p.2 + bsum m
            have := ih j
            omega
      have h1 := this l i
      rw [List.length_drop]
      omega
    refine ok_lt (ok_if (fun c => ok_some ?_) (fun c => ok_lt (ok_if (fun c2 => ok_some ?_) (fun c2 => ok_lt ?_))))
    · have := pz_le.mp c
      have hr : rnT z (l.drop i) = [] := by
        have hlen : (l.drop i).length ≤ 1 := by rw [List.length_drop]; omega
        generalize l.drop i = m at hlen
        match m, hlen with
        | [], _ => rfl
        | [q], _ => rfl
        | q :: p :: m, hlen => exact absurd hlen (by simp)
      rw [hr, List.append_nil] at i5
      dsimp only
      rw [List.append_nil, ← i5]
      exact ⟨⟨v, g, k, i6⟩, i7⟩
    · have := pz_le.mp c2
      have hz0 : z = 0 := by omega
      have hr : rnT z (l.drop i) = [] := by
        rw [hz0]
        generalize l.drop i = m
        match m with
        | [] => rfl
        | [q] => rfl
        | q :: p :: m => rfl
      rw [hr, List.append_nil] at i5
      dsimp only
      rw [List.append_nil, ← i5]
      exact ⟨⟨v, g, k, i6⟩, i7⟩
    · have c3 : ¬ x2.toInt ≤ (ii + (1 : Int32)).toInt := fun q => c (pz_le.mpr q)
      have c4 : ¬ (N.1 a 16).toInt ≤ (0 : Int32).toInt := fun q => c2 (pz_le.mpr q)
      have hil : i + 1 < l.length := by omega
      have hil0 : i < l.length := by omega
      have hdr : l.drop i = l[i] :: l[i + 1] :: l.drop (i + 2) := by
        rw [drop_cons hil0, drop_cons hil]
      have hdr1 : l.drop (i + 1) = l[i + 1] :: l.drop (i + 2) := drop_cons hil
      have hrn : rnT z (l.drop i) = toks 16 (cdV (21 + min z 7) l[i].2) (cdN (21 + min z 7) l[i].2) ++ rnT (z - l[i].2) (l.drop (i + 1)) := by
        rw [hdr, hdr1]
        show (if z = 0 then [] else _) = _
        rw [if_neg (by omega)]
      have hzs : z = l[i].2 + bsum (l.drop (i + 1)) := by
        rw [i4, drop_cons hil0]
        rfl
      rw [List.length_drop] at hbs
      have hz14 : z ≤ 14 := by omega
      have hbk2 : l[i].2 < cdM (21 + min z 7) := by
        by_cases hz6 : z ≤ 6
        · have := cz6 z hz6 (by omega)
          rw [Nat.min_eq_left (by omega)]
          omega
        · rw [Nat.min_eq_right (by omega)]
          show l[i].2 < cdM 28
          omega
      have hin : ii.toNatClampNeg = i := by
        have := pz_nat (x := ii) (by omega)
        omega
      have hix : ∀ L', ¬ (ii < 0 ∨ (xt G L').2.2 bf ≤ ii.toNatClampNeg) := fun L' => by
        rw [xt_nn L' hbf.1]
        exact pz_ix (by omega) (by omega)
      obtain ⟨kp1, kp2, kp3, kp4⟩ := i7
      have hki : KP G M a u0 t sz bf l N := ⟨kp1, kp2, kp3, kp4⟩
      obtain ⟨-, si2⟩ := kp3 i l[i] (List.getElem?_eq_getElem hil0)
      refine ok_bnd (Q := fun y : Int32 => y.toInt = ((min z 7 : Nat) : Int)) (ok_if (fun c5 => ok_some ?_) (fun c5 => ok_lt (ok_some ?_))) (fun y35 h35 => ok_lt ?_)
      · have := pz_le.mp c5
        rw [Nat.min_eq_right (by omega)]; exact e7
      · have c6 : ¬ (7 : Int32).toInt ≤ (N.1 a 16).toInt := fun q => c5 (pz_le.mpr q)
        rw [Nat.min_eq_left (by omega)]; exact i3
      have hmn : min z 7 ≤ 7 := Nat.min_le_right _ _
      have hx36 : ((21 : Int32) + y35).toInt = ((21 + min z 7 : Nat) : Int) := by
        rw [ti_add (by omega) (by omega), e21, h35]
        omega
      generalize (21 : Int32) + y35 = x36 at hx36
      refine ok_dr (b := bf) kp2 (xt_lt L hbf.1) ((xt_kk L hbf.1).trans hbk.1) (ok_chk (hix L) (ok_lt ?_))
      rw [hin]
      refine ok_bnd (valueOf_ok hx36 (by omega) si2 hbk2) (fun y39 h39 => ok_lt ?_)
      obtain ⟨y39a, y39b⟩ := y39
      obtain ⟨q1, q2⟩ := h39
      dsimp only at q1 q2 ⊢
      subst q1
      have hix2 := hix L
      rw [hin] at hix2
      refine ok_dr (b := bf) kp2 (xt_lt L hbf.1) ((xt_kk L hbf.1).trans hbk.1) (ok_chk hix2 (ok_lt ?_))
      refine ok_bnd (lengthOf_ok hx36 (by omega) si2 hbk2) (fun y43 h43 => ?_)
      obtain ⟨y43a, y43b⟩ := y43
      obtain ⟨q3, q4⟩ := h43
      dsimp only at q3 q4 ⊢
      subst q3
      obtain ⟨tb1, tb2, -⟩ := tab_at (t := 21 + min z 7) (k := l[i].2) (by omega) hbk2
      have hDl : all0 D ∧ D.length ≤ 1600 := by
        have h1 : D.length ≤ (rnT (bsum l) l).length := by rw [← i5, List.length_append]; omega
        refine ⟨fun T hT => tl2 T ?_, by omega⟩
        rw [← i5]
        exact List.mem_append.mpr (Or.inl hT)
      refine ok_bnd (lvcode_ok (V := cdV (21 + min z 7) l[i].2) i6 hki ha hau hat hsz hbf e16 (by decide) (by rw [Int32.toInt_toInt64]; exact q2) q4 (by omega) (by
        rw [runs_app]
        have := (Bd_runs D (runs T0 S) hDl.1 hsok).1
        omega)) (fun y44 h44 => ok_app (ok_lt (ok_lt ?_)))
      obtain ⟨⟨v3, g3, k3, r1⟩, r2, r3⟩ := h44
      rw [List.append_assoc] at r1
      obtain ⟨rk1, rk2, rk3, rk4⟩ := r2
      have hrk : KP G M a u0 t sz bf l y44.2 := ⟨rk1, rk2, rk3, rk4⟩
      obtain ⟨-, ri2⟩ := rk3 i l[i] (List.getElem?_eq_getElem hil0)
      have hix3 := hix (L ++ y44.1)
      rw [hin] at hix3
      refine ok_dr (b := bf) rk2 (xt_lt _ hbf.1) ((xt_kk _ hbf.1).trans hbk.1) (ok_chk hix3 (ok_lt (ok_lt (ok_lt (ok_lt (ok_some ?_))))))
      have hsub : (y44.2.1 a 16 - y44.2.1 bf i).toInt = ((z - l[i].2 : Nat) : Int) := by
        have h16b := r3 16 (by decide)
        rw [ti_sub (by rw [h16b]; omega) (by rw [h16b]; omega), h16b, ri2, i3]
        omega
      dsimp only
      rw [List.append_nil]
      have hv3 : v3 = u0 ∨ G.1 ≤ v3 := r1.1
      have hv3a : v3 ≠ a := fun q => by
        rcases hv3 with w | w
        · exact hau (q.symm.trans w)
        · omega
      refine ⟨rfl, ⟨i + 1, z - l[i].2, D ++ toks 16 (cdV (21 + min z 7) l[i].2) (cdN (21 + min z 7) l[i].2), by rw [hx30]; omega, by omega, ?_, by omega, ?_, ⟨v3, g3, k3, ?_⟩, ?_⟩, by omega⟩
      · rw [uI_s]; exact hsub
      · rw [List.append_assoc, ← hrn, i5]
      · exact r1.by rfl (fun x j hx => uI_n _ _ (fun q => by
          rcases hx with ⟨w1, w2, w3⟩ | w | w
          · omega
          · exact hv3a (w.symm.trans q.1)
          · exact hat (q.1.symm.trans w)))
      · refine ⟨rk1, rk2, fun j q hj => ?_, fun x j hx hxu hxt hxs hxb hxk => ?_⟩
        · rw [uI_n _ _ (fun w => hsz.2.2.2 w.1), uI_n _ _ (fun w => hbf.2.2.2 w.1)]
          exact rk3 j q hj
        · rw [uI_n _ _ (fun w => hxk ⟨w.1, Or.inr (by omega)⟩)]
          exact rk4 x j hx hxu hxt hxs hxb hxk
  · refine ⟨0, bsum l, [], e0, Nat.zero_le _, h16, rfl, rfl, ⟨u, f, n, ?_⟩, hk⟩
    rw [List.append_nil]
    exact h
  · dsimp only
    omega
