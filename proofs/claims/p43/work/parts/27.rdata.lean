/-! Reader: beginData -/
theorem VT.rep {f : Nat → Nat} {T b : Nat} {D : List Tok} : ∀ (k : Nat) (S : SS), S.1 = 0 → VT f T (List.replicate k (0, 0, b) ++ D) S → VT f T D (0, S.2.1 + k, S.2.2) ∧ ∀ i, i < k → f (S.2.1 + i) = b := by
  intro k
  induction k with
  | zero =>
    intro S h0 h
    obtain ⟨S1, S2, S3⟩ := S
    dsimp only at h0
    subst h0
    exact ⟨h, fun i hi => by omega⟩
  | succ k ih =>
    intro S h0 h
    obtain ⟨v1, v2, v3, v4⟩ := VT.dec (D := List.replicate k (0, 0, b) ++ D) h
    have hn : nxt (0, 0, b) S = (0, S.2.1 + 1, S.2.2) := by
      unfold nxt
      rw [if_pos rfl, if_pos h0]
    rw [hn] at v1
    obtain ⟨w1, w2⟩ := ih (0, S.2.1 + 1, S.2.2) rfl v1
    dsimp only at w1 w2
    refine ⟨by rw [show S.2.1 + (k + 1) = S.2.1 + 1 + k by omega]; exact w1, fun i hi => ?_⟩
    by_cases q : i = 0
    · rw [q]; exact v3 h0
    · have := w2 (i - 1) (by omega)
      rw [show S.2.1 + 1 + (i - 1) = S.2.1 + i by omega] at this
      exact this
theorem VT.st0 {f : Nat → Nat} {T : Nat} {D : List Tok} {S : SS} (h : VT f T ((3, 0, 0) :: D) S) : VT f T D (1, S.2.1, A0 (fun _ => 0)) := by
  obtain ⟨h1, h2⟩ := h
  have h1 : S.1 = 0 ∧ Val f D (1, S.2.1, A0 (fun _ => 0)) := h1
  exact ⟨h1.2, h2⟩
theorem VT.st1 {f : Nat → Nat} {T : Nat} {D : List Tok} {S : SS} (h : VT f T ((2, 0, 0) :: D) S) : VT f T D (1, S.2.1, A0 S.2.2.2.2.2) ∧ S.1 = 0 := by
  obtain ⟨h1, h2⟩ := h
  have h1 : S.1 = 0 ∧ Val f D (1, S.2.1, A0 S.2.2.2.2.2) := h1
  exact ⟨⟨h1.2, h2⟩, h1.1⟩
set_option maxHeartbeats 2000000 in
theorem beginDataR_ok {G : GG} {M : DD} {r d t : Nat} {f : Nat → Nat} {T : Nat} {S : SS} {D : List Tok} (h : RD G M r d t f T S) (h0 : S.1 = 0) (hv : VT f T (dataT S.2.1 ++ D) S) : OK (FX5_beginData G M r) (fun y => RD G y r d t f T (1, S.2.1 + (8 - S.2.1 % 8) % 8, A0 (fun _ => 0)) ∧ VT f T D (1, S.2.1 + (8 - S.2.1 % 8) % 8, A0 (fun _ => 0)) ∧ y.1 r 7 = 1 ∧ y.2 = M.2 ∧ (∀ x k, x ≠ t → ¬ (x = r ∧ (k = 2 ∨ k = 6 ∨ k = 7 ∨ k = 8 ∨ k = 9)) → y.1 x k = M.1 x k)) := by
  have e0 : (0 : Int32).toInt = 0 := rfl
  have e1 : (1 : Int32).toInt = 1 := rfl
  have e7 : (7 : Int32).toInt = 7 := rfl
  have e8 : (8 : Int32).toInt = 8 := rfl
  unfold dataT fillT at hv
  rw [List.append_assoc] at hv
  obtain ⟨v1, v2⟩ := VT.rep _ S h0 hv
  have v3 : VT f T D (1, S.2.1 + (8 - S.2.1 % 8) % 8, A0 (fun _ => 0)) := VT.st0 v1
  have hpv : S.2.1 + (8 - S.2.1 % 8) % 8 + 9 ≤ T := by
    have h1 := Nat.le_trans (val_pos D _ v3.1) v3.2
    have : pos ((1, S.2.1 + (8 - S.2.1 % 8) % 8, A0 (fun _ => 0)) : SS) = S.2.1 + (8 - S.2.1 % 8) % 8 + 9 + 0 := by
      unfold pos
      rw [if_neg (Nat.succ_ne_zero 0)]
      rfl
    omega
  obtain ⟨hdr, htr, hdt⟩ := h.lt
  have hrb := h.rb
  have hT6 : T ≤ 600000 := h.1.2.2.2.2.2.2.2
  obtain ⟨-, hf, hT, hb, ⟨s1, s2, s3, s4, s5⟩, s6, hpl, hm⟩ := h
  have hpos : pos S = S.2.1 := by unfold pos; rw [if_pos h0]
  generalize hK : (8 - S.2.1 % 8) % 8 = K at *
  unfold FX5_beginData
  refine ok_chk (Or.inr rfl) (ok_lt (ok_bnd (ok_itr (fun s : Int32 × DD => ∃ j : Nat, s.1.toInt = j ∧ j ≤ K ∧ (s.2.1 r 2).toInt = ((S.2.1 + j : Nat) : Int) ∧ (∀ x k, ¬ (x = r ∧ k = 2) → s.2.1 x k = (uI M r 7 1).1 x k) ∧ s.2.2 = M.2) (fun s => (8 - s.1.toInt).toNat) (P := fun y : Int32 × DD => (y.2.1 r 2).toInt = ((S.2.1 + K : Nat) : Int) ∧ (∀ x k, ¬ (x = r ∧ k = 2) → y.2.1 x k = (uI M r 7 1).1 x k) ∧ y.2.2 = M.2) ?_ 1000000 _ ?_ ?_) (fun y2 h2 => ?_)))
  · intro s hs
    obtain ⟨k, N⟩ := s
    obtain ⟨j, q1, q2, q3, q4, q5⟩ := hs
    dsimp only at q1 q3 q4 q5 ⊢
    refine ok_if (fun c => ?_) (fun c => ok_lt (ok_lt ?_))
    · have := pz_le.mp c
      exfalso
      omega
    · have ha := pz_and7 (N.1 r 2)
      refine ok_if (fun c2 => ok_some ?_) (fun c2 => ?_)
      · have := pz_eq.mp c2
        have ej : j = K := by omega
        subst ej
        exact ⟨q3, q4, q5⟩
      · have c3 : ¬ (N.1 r 2 &&& (7 : Int32)).toInt = (0 : Int32).toInt := fun z => c2 (pz_eq.mpr z)
        have hjl : j < K := by
          by_cases q : j = K
          · exfalso
            subst q
            omega
          · omega
        have hRB : RB G N r d f T := by
          obtain ⟨⟨u1, u2, u3, u4⟩, v2, v3, v4⟩ := hrb.fld (k := 7) (by decide) 1
          exact ⟨⟨u1, u2, by rw [q5]; exact u3, u4⟩, v2, by rw [q4 r 1 (by simp)]; exact v3, fun i hi => by rw [q4 d _ (fun z => hdr z.1)]; exact v4 i hi⟩
        refine ok_bnd (plain_ok hRB q3 (by omega)) (fun y10 h10 => ?_)
        obtain ⟨y1, nb⟩ := y10
        obtain ⟨z1, hbit⟩ := h10
        dsimp only at z1 hbit ⊢
        subst z1
        rw [v2 j hjl] at hbit
        refine ok_bnd (Q := fun y : DD => y = uI N r 2 (N.1 r 2 + 1)) (ok_if (fun c4 => ?_) (fun _ => ok_some rfl)) (fun y13 h13 => ok_lt (ok_some ?_))
        · have := pz_eq.mp c4
          omega
        · subst h13
          have hk1 : (k + 1).toInt = j + 1 := by rw [ti_add (by omega) (by omega), q1, e1]
          dsimp only
          refine ⟨⟨j + 1, by rw [hk1]; omega, by omega, ?_, fun x k2 hk => ?_, q5⟩, by omega⟩
          · rw [uI_s, ti_add (by omega) (by omega), e1]
            omega
          · rw [uI_n _ _ hk]; exact q4 x k2 hk
  · exact ⟨0, e0, Nat.zero_le _, by rw [uI_n _ _ (by simp), hpl, hpos]; rfl, fun _ _ _ => rfl, rfl⟩
  · dsimp only
    omega
  · obtain ⟨k, N⟩ := y2
    obtain ⟨z1, z2, z3⟩ := h2
    dsimp only at z1 z2 z3 ⊢
    rw [show N.2 r 10 = some t from by rw [z3]; exact s1]
    refine ok_bnd (fillA_ok (v := 0) s2 s3 (by omega)) (fun y5 h5 => ?_)
    obtain ⟨w1, w2, w3, w4⟩ := h5
    have hRB : RB G y5 r d f T := by
      obtain ⟨⟨u1, u2, u3, u4⟩, v2, v3, v4⟩ := hrb.fld (k := 7) (by decide) 1
      exact ⟨⟨u1, u2, by rw [w1, z3]; exact u3, u4⟩, v2, by rw [w2 r 1 (fun e => htr e.symm), z2 r 1 (by simp)]; exact v3, fun i hi => by rw [w2 d _ hdt, z2 d _ (fun z => hdr z.1)]; exact v4 i hi⟩
    refine ok_bnd (beginR_ok (t := t) (st := fun _ => 0) hRB ⟨by rw [w1, z3]; exact s1, s2, s3, s4, fun i hi => by rw [w3 i (by omega)]; rfl⟩ (fun _ => by decide) (by rw [w2 r 2 (fun e => htr e.symm), z1]) v3) (fun y6 h6 => ok_some ?_)
    obtain ⟨x1, x2, x3⟩ := h6
    refine ⟨x1, v3, ?_, x2.trans (w1.trans z3), fun x k2 hx hk => ?_⟩
    · rw [x3 r 7 (by simp), w2 r 7 (fun e => htr e.symm), z2 r 7 (by simp), uI_s]
    · rw [x3 x k2 (fun z => hk ⟨z.1, by rcases z.2 with y | y | y | y <;> simp [y]⟩), w2 x k2 hx, z2 x k2 (fun z => hk ⟨z.1, by simp [z.2]⟩), uI_n _ _ (fun z => hk ⟨z.1, by simp [z.2]⟩)]
