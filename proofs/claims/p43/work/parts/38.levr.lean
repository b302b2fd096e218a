/-! Reader: LEVELS -/
theorem val_step {f : Nat → Nat} {X : Tok} {D : List Tok} {S : SS} (h : Val f (X :: D) S) : Val f D (nxt X S) := by
  obtain ⟨k, i, b⟩ := X
  match k, h with
  | 0, h =>
    have h : (if S.1 = 0 then f S.2.1 = b ∧ Val f D (0, S.2.1 + 1, S.2.2) else b ≤ 1 ∧ Val f D (1, S.2.1, enc1 S.2.2 i b)) := h
    unfold nxt
    rw [if_pos rfl]
    split at h
    · rename_i h1; rw [if_pos h1]; exact h.2
    · rename_i h1; rw [if_neg h1]; exact h.2
  | 1, h =>
    have h : S.1 ≠ 0 ∧ (if b = 0 then Val f D (1, S.2.1, ren (endd S.2.2)) else Cons f S.2.1 (S.2.2.1 + (S.2.2.2.1 - 2), 2, S.2.2.2.2) ∧ Val f D (0, S.2.1 + 9 + S.2.2.2.2.1, S.2.2)) := h
    unfold nxt
    rw [if_neg (by simp), if_pos rfl]
    have h2 := h.2
    split at h2
    · rename_i h1; rw [if_pos h1]; exact h2
    · rename_i h1; rw [if_neg h1]; exact h2.2
  | 2, h =>
    have h : S.1 = 0 ∧ Val f D (1, S.2.1, A0 S.2.2.2.2.2) := h
    unfold nxt
    rw [if_neg (by simp), if_neg (by simp), if_pos rfl]
    exact h.2
  | k + 3, h =>
    have h : S.1 = 0 ∧ Val f D (1, S.2.1, A0 (fun _ => 0)) := h
    unfold nxt
    rw [if_neg (by simp), if_neg (by simp), if_neg (by simp)]
    exact h.2
theorem val_app {f : Nat → Nat} {B : List Tok} : ∀ (A : List Tok) (S : SS), Val f (A ++ B) S → Val f B (runs A S) := by
  intro A
  induction A with
  | nil => intro S h; exact h
  | cons X A ih => intro S h; exact ih _ (val_step h)
theorem VT.skip {f : Nat → Nat} {T : Nat} {A B : List Tok} {S : SS} (h : VT f T (A ++ B) S) : VT f T B (runs A S) ∧ pos (runs A S) ≤ T := by
  have h1 := val_app A S h.1
  have h2 : pos (runs B (runs A S)) ≤ T := by
    rw [← runs_app]
    exact h.2
  exact ⟨⟨h1, h2⟩, Nat.le_trans (val_pos B _ h1) h2⟩
theorem exl_drop : ∀ (l : LV) (i k : Nat), k < wd (l.drop i) → exl l k = exl (l.drop i) k := by
  intro l
  induction l with
  | nil => intro i k h; rw [List.drop_nil]
  | cons p l ih =>
    intro i k h
    cases i with
    | zero => rfl
    | succ i =>
      have h : k < wd (l.drop i) := h
      have hw : ∀ (m : LV) (j : Nat), wd (m.drop j) ≤ wd m := by
        intro m
        induction m with
        | nil => intro j; rw [List.drop_nil]; exact Nat.le_refl _
        | cons q m ih2 =>
          intro j
          cases j with
          | zero => exact Nat.le_refl _
          | succ j =>
            show wd (m.drop j) ≤ q.2 + 1 + wd m
            have := ih2 j
            omega
      have := hw l i
      show (if k = p.2 + wd l then p.1 else exl l k) = exl (l.drop i) k
      rw [if_neg (by omega)]
      exact ih i k h
theorem wd_drop {l : LV} {i : Nat} (h : i < l.length) : wd (l.drop i) = l[i].2 + 1 + wd (l.drop (i + 1)) := by
  rw [drop_cons h]
  rfl
theorem bs_drop {l : LV} {i : Nat} (h : i < l.length) : bsum (l.drop i) = l[i].2 + bsum (l.drop (i + 1)) := by
  rw [drop_cons h]
  rfl
theorem wd_drop_le : ∀ (m : LV) (j : Nat), wd (m.drop j) ≤ wd m := by
  intro m
  induction m with
  | nil => intro j; rw [List.drop_nil]; exact Nat.le_refl _
  | cons q m ih2 =>
    intro j
    cases j with
    | zero => exact Nat.le_refl _
    | succ j =>
      show wd (m.drop j) ≤ q.2 + 1 + wd m
      have := ih2 j
      omega
/-- apart (said so that omega doesn't split on it) -/
def NE (a b : Nat) : Prop := a ≠ b
/-- the cells by which LEVELS are read, apart -/
def RS (G : GG) (M : DD) (r d t el tr sr row : Nat) : Prop := (M.2 r 14 = some sr ∧ sr < G.1 ∧ G.2.1 sr = 13 ∧ G.2.2 sr = 16) ∧ (row < G.1 ∧ G.2.1 row = 13) ∧ sr ≠ t ∧ sr ≠ el ∧ sr ≠ tr ∧ sr ≠ row ∧ row ≠ t ∧ row ≠ el ∧ row ≠ tr ∧ tr ≠ t ∧ tr ≠ el ∧ el ≠ d
/-- what else stands as it stood -/
def RZ (M : DD) (r t el sr row : Nat) (N : DD) : Prop := N.2 = M.2 ∧ ∀ x k, x ≠ t → x ≠ el → x ≠ sr → x ≠ row → ¬ (x = r ∧ (k = 2 ∨ k = 4 ∨ k = 5 ∨ k = 8 ∨ k = 9 ∨ k = 12)) → N.1 x k = M.1 x k
set_option maxHeartbeats 16000000 in
theorem spread_ok {G : GG} {M : DD} {r d t el tr sr row fr n : Nat} {f : Nat → Nat} {T : Nat} {S : SS} {D : List Tok} {l : LV} {p0 p1 p3 : Int32} (h : RD G M r d t f T S) (hE : RE G M r el t S) (hR : TR G M r tr) (hS : RS G M r d t el tr sr row) (hn : n = 4 ∨ n = 15 ∨ n = 16) (hln : bsum l + l.length ≤ n) (hp0 : p0.toInt = n) (hp1 : p1.toInt = l.length) (hp3 : p3.toInt = fr) (hrow : (if n = 15 then fr + 1 else fr) + n ≤ G.2.2 row ∧ G.2.2 row ≤ 100000) (hz : ∀ k, k < n → (M.1 row ((if n = 15 then fr + 1 else fr) + k)).toInt = 0) (hsz : ∀ j q, l[j]? = some q → (M.1 sr j).toInt = q.1) (hv : VT f T (zrT n l ++ (rnT (bsum l) l ++ D)) S) :
    OK (FX5_spread G M r p0 p1 (some row) p3) (fun y => RD G y r d t f T (runs (rnT (bsum l) l) (runs (zrT n l) S)) ∧ RE G y r el t (runs (rnT (bsum l) l) (runs (zrT n l) S)) ∧ VT f T D (runs (rnT (bsum l) l) (runs (zrT n l) S)) ∧ RZ M r t el sr row y ∧ (∀ j, y.1 sr j = M.1 sr j) ∧ (∀ k, k < n → (y.1 row ((if n = 15 then fr + 1 else fr) + k)).toInt = exl l k) ∧ (∀ j, ¬ ((if n = 15 then fr + 1 else fr) ≤ j ∧ j < (if n = 15 then fr + 1 else fr) + n) → y.1 row j = M.1 row j)) := by
  have e0 : (0 : Int32).toInt = 0 := rfl
  have e1 : (1 : Int32).toInt = 1 := rfl
  have e3 : (3 : Int32).toInt = 3 := rfl
  have e4 : (4 : Int32).toInt = 4 := rfl
  have e7 : (7 : Int32).toInt = 7 := rfl
  have e15 : (15 : Int32).toInt = 15 := rfl
  have e18 : (18 : Int32).toInt = 18 := rfl
  have e21 : (21 : Int32).toInt = 21 := rfl
  have e15n : (15 : Int32).toInt = ((15 : Nat) : Int) := rfl
  have e16n : (16 : Int32).toInt = ((16 : Nat) : Int) := rfl
  obtain ⟨-, -, -, -, cmz, cm4, cz6, cz7⟩ := cdM_facts
  have hT6 : T ≤ 600000 := h.1.2.2.2.2.2.2.2
  obtain ⟨sr1, sr2, sr3, sr4⟩ := hS.1
  obtain ⟨rw1, rw2⟩ := hS.2.1
  have hkr : G.2.1 r = 5 := h.1.2.1
  have hsrr : NE sr r := fun e => by rw [e] at sr3; omega
  have hrwr : NE row r := fun e => by rw [e] at rw2; omega
  have hdk : G.2.1 d = 12 := h.1.2.2.2.2.1
  have hrwd : NE row d := fun e => by rw [e] at rw2; omega
  generalize hfe : (if n = 15 then fr + 1 else fr) = fe at hrow hz ⊢
  have hfef : (fe : Int) = fr + (if n = 15 then 1 else 0) := by
    rw [← hfe]
    split <;> omega
  unfold FX5_spread
  -- zeros
  refine ok_bnd (Q := fun y : Int32 × DD => (0 < l.length → y.1.toInt = bsum l) ∧ (l.length = 0 → y.1.toInt = 0) ∧ RD G y.2 r d t f T (runs (zrT n l) S) ∧ RE G y.2 r el t (runs (zrT n l) S) ∧ VT f T (rnT (bsum l) l ++ D) (runs (zrT n l) S) ∧ RY M r t el y.2) (ok_if (fun c => ok_some ?_) (fun c => ok_bi (ok_if (fun c2 => ok_some (ok_some ?_)) (fun c2 => ?_)))) (fun y1 hy1 => ok_lt (ok_lt ?_))
  · have := pz_le.mp c
    have hzr : zrT n l = [] := if_neg (by omega)
    rw [hzr] at hv ⊢
    exact ⟨fun q => by omega, fun _ => e0, h, hE, hv, RY.rf _ _ _ _⟩
  · have := pz_le.mp c2
    have c1 : ¬ p1.toInt ≤ (0 : Int32).toInt := fun q => c (pz_le.mpr q)
    have hzr : zrT n l = [] := if_neg (by omega)
    rw [hzr] at hv ⊢
    exact ⟨fun _ => by dsimp only; omega, fun _ => e0, h, hE, hv, RY.rf _ _ _ _⟩
  · have c3 : ¬ p1.toInt ≤ (0 : Int32).toInt := fun q => c (pz_le.mpr q)
    have c4 : ¬ p0.toInt ≤ p1.toInt := fun q => c2 (pz_le.mpr q)
    have hzr : zrT n l = toks 15 (cdV ((if n = 4 then 18 else 3) + l.length) (bsum l)) (cdN ((if n = 4 then 18 else 3) + l.length) (bsum l)) := if_pos (by omega)
    rw [hzr] at hv ⊢
    refine ok_bnd (Q := fun y : Int32 => y.toInt = ((if n = 4 then 18 else 3 : Nat) : Int)) (ok_if (fun c5 => ok_some ?_) (fun c5 => ok_some ?_)) (fun y34 hy34 => ok_lt ?_)
    · have := pz_eq.mp c5
      rw [if_pos (by omega)]; exact e18
    · have c6 : ¬ p0.toInt = (4 : Int32).toInt := fun q => c5 (pz_eq.mpr q)
      rw [if_neg (by omega)]; exact e3
    have hx35 : (y34 + p1).toInt = (((if n = 4 then 18 else 3) + l.length : Nat) : Int) := by
      have : (if n = 4 then 18 else 3) ≤ 18 := by split <;> omega
      rw [ti_add (by omega) (by omega), hy34, hp1]
      omega
    generalize y34 + p1 = x35 at hx35
    have hzt : bsum l < cdM ((if n = 4 then 18 else 3) + l.length) ∧ (if n = 4 then 18 else 3) + l.length < 29 ∧ 4 ≤ (if n = 4 then 18 else 3) + l.length := by
      by_cases q : n = 4
      · rw [if_pos q]
        have := cm4 l.length (by omega) (by omega)
        omega
      · rw [if_neg q]
        have := cmz l.length (by omega) (by omega)
        omega
    obtain ⟨-, hps⟩ := hv.skip
    refine ok_bnd (codeR_ok h hE hS.2.2.2.2.2.2.2.2.2.2.2 hR hS.2.2.2.2.2.2.2.2.2.1 hzt.2.1 hzt.1 hv (by omega) e15n (by decide) hx35) (fun y36 hy36 => ok_lt ?_)
    obtain ⟨ya, yb⟩ := y36
    obtain ⟨q1, q2, q3, q4, q5⟩ := hy36
    dsimp only at q1 q2 q3 q5 ⊢
    rw [if_neg (by omega)] at q1
    have hx37 : (yb + p1).toInt = ((bsum l + l.length : Nat) : Int) := by
      rw [ti_add (by omega) (by omega), q1, hp1]
      omega
    refine ok_bnd (Q := fun y : DD => y = ya) (ok_if (fun _ => ok_some rfl) (fun c5 => absurd (pz_le.mpr (by omega)) c5)) (fun y38 hy38 => ok_some (ok_some ?_))
    subst hy38
    exact ⟨fun _ => q1, fun q => by omega, q2, q3, q4, q5⟩
  obtain ⟨z0, M1⟩ := y1
  obtain ⟨u1, u2, u3, u4, u5, u6⟩ := hy1
  dsimp only at u1 u2 u3 u4 u6 ⊢
  have hz0 : 0 ≤ z0.toInt ∧ z0.toInt ≤ 16 := by
    by_cases q : 0 < l.length
    · have := u1 q; omega
    · have := u2 (by omega); omega
  have hx3 : (p3 + z0 + p1).toInt = (fr : Int) + z0.toInt + l.length := by
    rw [ti_add (by rw [ti_add (by omega) (by omega)]; omega) (by rw [ti_add (by omega) (by omega)]; omega), ti_add (by omega) (by omega), hp3, hp1]
  generalize p3 + z0 + p1 = x3 at hx3
  refine ok_bnd (Q := fun y : Int32 => y.toInt = 1 - (if n = 15 then 1 else 0 : Int)) (ok_if (fun c5 => ok_some ?_) (fun c5 => ok_some ?_)) (fun y4 hy4 => ok_lt ?_)
  · have := pz_eq.mp c5
    rw [if_pos (by omega)]; exact e0
  · have c6 : ¬ p0.toInt = (15 : Int32).toInt := fun q => c5 (pz_eq.mpr q)
    rw [if_neg (by omega)]; exact e1
  have hy4b : 0 ≤ y4.toInt ∧ y4.toInt ≤ 1 := by
    rw [hy4]
    split <;> omega
  have hx5 : (x3 - y4).toInt = (fe : Int) + z0.toInt + l.length - 1 := by
    rw [ti_sub (by omega) (by omega), hx3, hy4]
    omega
  generalize x3 - y4 = x5 at hx5
  have hE0 := u6
  refine ok_bnd (ok_itr (fun s : Int32 × Int32 × Int32 × DD => ∃ (i : Nat) (Sc : SS), s.2.2.1.toInt = i ∧ i ≤ l.length ∧ (i < l.length → s.1.toInt = bsum (l.drop i) ∧ s.2.1.toInt = (fe : Int) + wd (l.drop i) - 1) ∧ RD G s.2.2.2 r d t f T Sc ∧ RE G s.2.2.2 r el t Sc ∧ VT f T (rnT (bsum (l.drop i)) (l.drop i) ++ D) Sc ∧ runs (rnT (bsum (l.drop i)) (l.drop i)) Sc = runs (rnT (bsum l) l) (runs (zrT n l) S) ∧ RZ M r t el sr row s.2.2.2 ∧ (∀ j, s.2.2.2.1 sr j = M.1 sr j) ∧ (∀ k, k < n → (s.2.2.2.1 row (fe + k)).toInt = (if k < wd (l.drop i) then 0 else exl l k)) ∧ (∀ j, ¬ (fe ≤ j ∧ j < fe + n) → s.2.2.2.1 row j = M.1 row j) ∧ TR G s.2.2.2 r tr) (fun s => ((l.length : Int) - s.2.2.1.toInt).toNat) (P := fun y : Int32 × Int32 × Int32 × DD => RD G y.2.2.2 r d t f T (runs (rnT (bsum l) l) (runs (zrT n l) S)) ∧ RE G y.2.2.2 r el t (runs (rnT (bsum l) l) (runs (zrT n l) S)) ∧ VT f T D (runs (rnT (bsum l) l) (runs (zrT n l) S)) ∧ RZ M r t el sr row y.2.2.2 ∧ (∀ j, y.2.2.2.1 sr j = M.1 sr j) ∧ (∀ k, k < n → (y.2.2.2.1 row (fe + k)).toInt = exl l k) ∧ (∀ j, ¬ (fe ≤ j ∧ j < fe + n) → y.2.2.2.1 row j = M.1 row j)) ?_ 1000000 _ ?_ ?_) (fun y6 hy6 => ok_some hy6)
  · intro s hs
    obtain ⟨zz, to, ii, N⟩ := s
    obtain ⟨i, Sc, i1, i2, i3, i4, i5, i6, i7, i8, i9, i10, i11, i12⟩ := hs
    dsimp only at i1 i3 i4 i5 i8 i9 i10 i11 i12 ⊢
    refine ok_if (fun c => ok_some ?_) (fun c => ?_)
    · have := pz_le.mp c
      have ei : i = l.length := by omega
      subst ei
      rw [List.drop_length] at i6 i7 i10
      have hr0 : rnT (bsum ([] : LV)) [] = [] := rfl
      rw [hr0] at i6 i7
      have i7 : Sc = runs (rnT (bsum l) l) (runs (zrT n l) S) := i7
      rw [← i7]
      exact ⟨i4, i5, i6, i8, i9, fun k hk => by rw [i10 k hk, if_neg (by show ¬ k < 0; omega)], i11⟩
    · have c3 : ¬ p1.toInt ≤ ii.toInt := fun q => c (pz_le.mpr q)
      have hil : i < l.length := by omega
      obtain ⟨i3a, i3b⟩ := i3 hil
      have hwd := wd_drop hil
      have hbd := bs_drop hil
      have hwl := wd_drop_le l i
      have hweq := wd_eq l
      have hin : ii.toNatClampNeg = i := by
        have := pz_nat (x := ii) (by omega)
        omega
      have hton : to.toNatClampNeg = fe + (wd (l.drop i) - 1) := by
        have := pz_nat (x := to) (by omega)
        omega
      have hii1 : (ii + (1 : Int32)).toInt = i + 1 := by rw [ti_add (by omega) (by omega), i1, e1]
      refine ok_dr (b := sr) (by rw [i8.1]; exact sr1) sr2 sr3 (ok_chk (pz_ix (by omega) (by omega)) (ok_lt (ok_dr (b := row) rfl rw1 rw2 (ok_chk (pz_ix (by omega) (by omega)) (ok_lt (ok_lt ?_))))))
      rw [hin, hton]
      have hsv : (N.1 sr i).toInt = l[i].1 := by
        rw [i9]
        exact hsz i l[i] (List.getElem?_eq_getElem hil)
      -- the state with the LEVEL in its place
      generalize hN1 : uI N row (fe + (wd (l.drop i) - 1)) (N.1 sr i) = N1
      have a1 : ∀ x k, x ≠ row → N1.1 x k = N.1 x k := fun x k hx => by rw [← hN1, uI_n _ _ (fun q => hx q.1)]
      have a2 : N1.2 = N.2 := by rw [← hN1]; rfl
      have b4 : RD G N1 r d t f T Sc := i4.by a2 (fun x k hx => a1 x k (fun q => by
        rcases hx with ⟨w, -⟩ | w | w
        · exact hrwr (q.symm.trans w)
        · exact hrwd (q.symm.trans w)
        · exact hS.2.2.2.2.2.2.1 (q.symm.trans w)))
      have b5 : RE G N1 r el t Sc := i5.by a2 (a1 r 12 (fun q => hrwr q.symm)) (a1 r 7 (fun q => hrwr q.symm)) (Nat.le_refl _) id
      have b12 : TR G N1 r tr := by
        obtain ⟨w1, w2, w3, w4, w5⟩ := i12
        exact ⟨by rw [a2]; exact w1, w2, w3, w4, fun j hj => by rw [a1 tr j hS.2.2.2.2.2.2.2.2.1.symm]; exact w5 j hj⟩
      have b8 : RZ M r t el sr row N1 := ⟨a2.trans i8.1, fun x k h1 h2 h3 h4 h5 => (a1 x k h4).trans (i8.2 x k h1 h2 h3 h4 h5)⟩
      have b9 : ∀ j, N1.1 sr j = M.1 sr j := fun j => (a1 sr j hS.2.2.2.2.2.1).trans (i9 j)
      have b10 : ∀ k, k < n → (N1.1 row (fe + k)).toInt = (if k < wd (l.drop (i + 1)) then 0 else exl l k) := by
        intro k hk
        by_cases q : k = wd (l.drop i) - 1
        · rw [q, ← hN1, uI_s, hsv, if_neg (by omega), exl_drop l i _ (by omega)]
          generalize hw0 : wd (l.drop i) - 1 = w0
          rw [drop_cons hil]
          show _ = (if w0 = l[i].2 + wd (l.drop (i + 1)) then l[i].1 else _)
          rw [if_pos (by omega)]
        · rw [← hN1, uI_n _ _ (fun w => q (by have := w.2; omega)), i10 k hk]
          by_cases q2 : k < wd (l.drop (i + 1))
          · rw [if_pos (by omega), if_pos q2]
          · rw [if_neg q2]
            by_cases q3 : k < wd (l.drop i)
            · rw [if_pos q3, exl_drop l i k q3, drop_cons hil]
              show _ = (if k = l[i].2 + wd (l.drop (i + 1)) then l[i].1 else exl (l.drop (i + 1)) k)
              rw [if_neg (by omega), exl_hi _ _ (by omega)]
            · rw [if_neg q3]
      have b11 : ∀ j, ¬ (fe ≤ j ∧ j < fe + n) → N1.1 row j = M.1 row j := fun j hj => by
        rw [← hN1, uI_n _ _ (fun w => hj (by have := w.2; omega))]
        exact i11 j hj
      have hx15 : (ii + (1 : Int32)).toInt = i + 1 := hii1
      refine ok_bnd (Q := fun y : Int32 × Int32 × DD => ∃ Sd : SS, (i + 1 < l.length → y.1.toInt = bsum (l.drop (i + 1)) ∧ y.2.1.toInt = (fe : Int) + wd (l.drop (i + 1))) ∧ -100 ≤ y.2.1.toInt ∧ y.2.1.toInt ≤ 200000 ∧ RD G y.2.2 r d t f T Sd ∧ RE G y.2.2 r el t Sd ∧ VT f T (rnT (bsum (l.drop (i + 1))) (l.drop (i + 1)) ++ D) Sd ∧ runs (rnT (bsum (l.drop (i + 1))) (l.drop (i + 1))) Sd = runs (rnT (bsum l) l) (runs (zrT n l) S) ∧ RY N1 r t el y.2.2) (ok_if (fun c2 => ok_some ?_) (fun c2 => ok_bi (ok_if (fun c4 => ok_some (ok_some ?_)) (fun c4 => ?_)))) (fun y16 hy16 => ok_ltt (fun to17 hto17 => ok_lt (ok_some ?_)))
      · have hlast : i + 1 = l.length := by have := pz_le.mp c2; omega
        have hd1 : l.drop (i + 1) = [] := by rw [hlast, List.drop_length]
        have hr1 : rnT (bsum (l.drop i)) (l.drop i) = [] := by
          rw [drop_cons hil, hd1]
          rfl
        rw [hr1] at i6 i7
        rw [hd1]
        exact ⟨Sc, fun q => by omega, by dsimp only; omega, by dsimp only; omega, b4, b5, i6, i7, RY.rf _ _ _ _⟩
      · have hz0' := pz_le.mp c4
        have hb0 : bsum (l.drop i) = 0 := by omega
        have hr1 : rnT (bsum (l.drop i)) (l.drop i) = [] := by
          rw [hb0]
          generalize l.drop i = m
          match m with
          | [] => rfl
          | [q] => rfl
          | q :: p :: m => rfl
        have hr2 : rnT (bsum (l.drop (i + 1))) (l.drop (i + 1)) = [] := by
          rw [show bsum (l.drop (i + 1)) = 0 by omega]
          generalize l.drop (i + 1) = m
          match m with
          | [] => rfl
          | [q] => rfl
          | q :: p :: m => rfl
        rw [hr1] at i6 i7
        rw [hr2]
        exact ⟨Sc, fun _ => ⟨by dsimp only; omega, by dsimp only; omega⟩, by dsimp only; omega, by dsimp only; omega, b4, b5, i6, i7, RY.rf _ _ _ _⟩
      · have c5 : ¬ p1.toInt ≤ (ii + (1 : Int32)).toInt := fun q => c2 (pz_le.mpr q)
        have c6 : ¬ zz.toInt ≤ (0 : Int32).toInt := fun q => c4 (pz_le.mpr q)
        have hil1 : i + 1 < l.length := by omega
        have hbl : bsum (l.drop i) ≤ 14 := by
          have hw2 := wd_eq (l.drop i)
          rw [List.length_drop] at hw2
          omega
        have hbk2 : l[i].2 < cdM (21 + min (bsum (l.drop i)) 7) := by
          by_cases hz6 : bsum (l.drop i) ≤ 6
          · have := cz6 (bsum (l.drop i)) hz6 (by omega)
            rw [Nat.min_eq_left (by omega)]
            omega
          · rw [Nat.min_eq_right (by omega)]
            show l[i].2 < cdM 28
            omega
        have hrn : rnT (bsum (l.drop i)) (l.drop i) = toks 16 (cdV (21 + min (bsum (l.drop i)) 7) l[i].2) (cdN (21 + min (bsum (l.drop i)) 7) l[i].2) ++ rnT (bsum (l.drop (i + 1))) (l.drop (i + 1)) := by
          have hd2 : l.drop i = l[i] :: l[i + 1] :: l.drop (i + 2) := by rw [drop_cons hil, drop_cons hil1]
          have hd3 : l.drop (i + 1) = l[i + 1] :: l.drop (i + 2) := drop_cons hil1
          have hsub : bsum (l.drop (i + 1)) = bsum (l.drop i) - l[i].2 := by omega
          rw [hsub]
          generalize bsum (l.drop i) = B at *
          rw [hd2, hd3]
          show (if B = 0 then [] else _) = _
          rw [if_neg (by omega)]
        refine ok_bnd (Q := fun y : Int32 => y.toInt = ((min (bsum (l.drop i)) 7 : Nat) : Int)) (ok_if (fun c7 => ok_some ?_) (fun c7 => ok_some ?_)) (fun y22 hy22 => ok_lt ?_)
        · have := pz_le.mp c7
          rw [Nat.min_eq_right (by omega)]; exact e7
        · have c8 : ¬ (7 : Int32).toInt ≤ zz.toInt := fun q => c7 (pz_le.mpr q)
          rw [Nat.min_eq_left (by omega)]; exact i3a
        have hmn : min (bsum (l.drop i)) 7 ≤ 7 := Nat.min_le_right _ _
        have hx23 : ((21 : Int32) + y22).toInt = ((21 + min (bsum (l.drop i)) 7 : Nat) : Int) := by
          rw [ti_add (by omega) (by omega), e21, hy22]
          omega
        generalize (21 : Int32) + y22 = x23 at hx23
        rw [hrn] at i6 i7
        rw [List.append_assoc] at i6
        rw [runs_app] at i7
        obtain ⟨-, hps⟩ := i6.skip
        refine ok_bnd (codeR_ok b4 b5 hS.2.2.2.2.2.2.2.2.2.2.2 b12 hS.2.2.2.2.2.2.2.2.2.1 (by omega) hbk2 i6 (by omega) e16n (by decide) hx23) (fun y24 hy24 => ?_)
        obtain ⟨ya, yb⟩ := y24
        obtain ⟨q1, q2, q3, q4, q5⟩ := hy24
        dsimp only at q1 q2 q3 q5 ⊢
        rw [if_neg (by omega)] at q1
        refine ok_bnd (Q := fun y : DD => y = ya) (ok_if (fun _ => ok_some rfl) (fun c9 => absurd (pz_le.mpr (by omega)) c9)) (fun y25 hy25 => ok_lt (ok_lt (ok_some (ok_some ?_))))
        subst hy25
        dsimp only
        have hs1 : (zz - yb).toInt = zz.toInt - yb.toInt := ti_sub (by omega) (by omega)
        have hs2 : (to - yb).toInt = to.toInt - yb.toInt := ti_sub (by omega) (by omega)
        exact ⟨_, fun _ => ⟨by omega, by omega⟩, by omega, by omega, q2, q3, q4, i7, q5⟩
      · obtain ⟨z1, to1, N2⟩ := y16
        obtain ⟨Sd, w1, w2, w3, w4, w5, w6, w7, w8⟩ := hy16
        dsimp only at w1 w2 w3 w4 w5 w8 ⊢
        dsimp only at hto17
        have hx17 : to17.toInt = to1.toInt - 1 := by
          have em1 : (-1 : Int32).toInt = -1 := rfl
          rw [hto17, ti_add (by omega) (by omega), em1]
          omega
        clear hto17
        refine ⟨⟨i + 1, Sd, by rw [hii1]; omega, by omega, fun q => ⟨(w1 q).1, by rw [hx17, (w1 q).2]⟩, w4, w5, w6, w7, ⟨w8.1.trans b8.1, fun x k h1 h2 h3 h4 h5 => (w8.2 x k h1 h2 h5).trans (b8.2 x k h1 h2 h3 h4 h5)⟩, fun j => (w8.2 sr j hS.2.2.1 hS.2.2.2.1 (fun q => hsrr q.1)).trans (b9 j), fun k hk => by rw [w8.2 row _ hS.2.2.2.2.2.2.1 hS.2.2.2.2.2.2.2.1 (fun q => hrwr q.1)]; exact b10 k hk, fun j hj => (w8.2 row j hS.2.2.2.2.2.2.1 hS.2.2.2.2.2.2.2.1 (fun q => hrwr q.1)).trans (b11 j hj), ?_⟩, by omega⟩
        obtain ⟨v1, v2, v3, v4, v5⟩ := b12
        have htrr : NE tr r := fun e => by rw [e] at v3; omega
        exact ⟨by rw [w8.1]; exact v1, v2, v3, v4, fun j hj => by rw [w8.2 tr j hS.2.2.2.2.2.2.2.2.2.1 hS.2.2.2.2.2.2.2.2.2.2.1 (fun q => htrr q.1)]; exact v5 j hj⟩
  · have hw0 := wd_eq l
    have htrr : NE tr r := fun e => by have := hR.2.2.1; rw [e] at this; omega
    refine ⟨0, runs (zrT n l) S, e0, Nat.zero_le _, fun q => ⟨u1 q, ?_⟩, u3, u4, u5, rfl, ⟨u6.1, fun x k h1 h2 _ _ h5 => u6.2 x k h1 h2 h5⟩, fun j => u6.2 sr j hS.2.2.1 hS.2.2.2.1 (fun q => hsrr q.1), fun k hk => ?_, fun j _ => u6.2 row j hS.2.2.2.2.2.2.1 hS.2.2.2.2.2.2.2.1 (fun q => hrwr q.1), ?_⟩
    · show x5.toInt = (fe : Int) + wd l - 1
      have := u1 q
      rw [hw0]
      omega
    · show (M1.1 row (fe + k)).toInt = (if k < wd l then 0 else exl l k)
      rw [u6.2 row _ hS.2.2.2.2.2.2.1 hS.2.2.2.2.2.2.2.1 (fun q => hrwr q.1), hz k hk]
      by_cases q : k < wd l
      · rw [if_pos q]
      · rw [if_neg q, exl_hi l k (by omega)]
    · obtain ⟨v1, v2, v3, v4, v5⟩ := hR
      exact ⟨by rw [u6.1]; exact v1, v2, v3, v4, fun j hj => by rw [u6.2 tr j hS.2.2.2.2.2.2.2.2.2.1 hS.2.2.2.2.2.2.2.2.2.2.1 (fun q => htrr q.1)]; exact v5 j hj⟩
  · dsimp only
    omega
