set_option maxHeartbeats 2000000 in
theorem isLast0_ok {G : GG} {M : DD} {r d t : Nat} {f : Nat → Nat} {T : Nat} {S : SS} {D : List Tok} (h : RD G M r d t f T S) (hv : VT f T ((1, 0, 0) :: D) S) : OK (FX5_isLast G M r) (fun y => y.2.toInt = 0 ∧ RD G y.1 r d t f T (1, S.2.1, ren (endd S.2.2)) ∧ VT f T D (1, S.2.1, ren (endd S.2.2)) ∧ RX M r t y.1) := by
  have e2 : (2 : Int32).toInt = 2 := rfl
  obtain ⟨v1, m0⟩ := hv.end0
  obtain ⟨hdr, htr, hdt⟩ := h.lt
  have hh := h
  have hrb := h.rb
  obtain ⟨⟨a1, a2, a3, a4, a5, a6, a7, a8⟩, hf, hT, hb, ⟨s1, s2, s3, s4, s5⟩, s6, hpl, hm⟩ := h
  rcases hm with ⟨m1, -⟩ | ⟨m1, m2, mA, m8, m9⟩
  · exact absurd m1 m0
  have hpos : pos S = S.2.1 + 9 + S.2.2.2.2.1 := by unfold pos; rw [if_neg m0]
  have ho' := ok_endd mA
  have hcons := val_cons hf D _ v1.1 (Nat.succ_ne_zero 0) ho'
  obtain ⟨hcA, hlt⟩ := cons_endd hf mA hcons
  have hpv := Nat.le_trans (val_pos D _ v1.1) v1.2
  have mA' := mA
  obtain ⟨A1, A2, A3, A4⟩ := mA
  have hpv2 : S.2.1 + 9 + S.2.2.2.2.1 + shn 9 (S.2.2.2.1 - 2) ≤ T := by
    have : pos ((1, S.2.1, ren (endd S.2.2)) : SS) = S.2.1 + 9 + (S.2.2.2.2.1 + shn 9 (S.2.2.2.1 - 2)) := by
      unfold pos
      rw [if_neg (Nat.succ_ne_zero 0)]
      rfl
    omega
  have hoff : 0 ≤ (M.1 r 9).toInt ∧ (M.1 r 9).toInt < ((S.2.2.2.1 - 2 : Nat) : Int) := by
    obtain ⟨c1, c2⟩ := hcA
    generalize pv f S.2.1 (9 + S.2.2.2.2.1) = V at m9 c1 c2 hlt
    omega
  have hx2 : (M.1 r 8 - (2 : Int32)).toInt = ((S.2.2.2.1 - 2 : Nat) : Int) := by
    rw [ti_sub (by omega) (by omega), m8, e2]
    omega
  unfold FX5_isLast
  refine ok_lt (ok_lt (ok_lt (ok_lt (ok_lt ?_))))
  have f9 : (uI M r 8 (M.1 r 8 - 2)).1 r 9 = M.1 r 9 := by simp [uI]
  have f8 : (uI M r 8 (M.1 r 8 - 2)).1 r 8 = M.1 r 8 - 2 := by simp [uI]
  rw [f9, f8]
  refine ok_if (fun _ => ?_) (fun c => absurd (pz_lt.mpr (by omega)) c)
  refine ok_bnd (widenR_ok (p := S.2.1) (n := S.2.2.2.2.1) (R := S.2.2.2.1 - 2) (Lo := S.2.2.1) (hrb.fld (by decide) _) (by omega) (by omega) (by rw [f8]; exact hx2) (by rw [f9]; exact m9) (by rw [f9]; omega) (by rw [f9]; omega) (by rw [uI_n _ _ (by simp), hpl, hpos]) hpv2) (fun y7 h7 => ok_chk (Or.inl rfl) (ok_some ?_))
  obtain ⟨z1, z2, z3, z4, z5⟩ := h7
  have hfr : ∀ x k, ¬ (x = r ∧ (k = 2 ∨ k = 8 ∨ k = 9)) → y7.1 x k = M.1 x k := fun x k hk => (z4 x k hk).trans (uI_n _ _ (fun q => hk ⟨q.1, Or.inr (Or.inl q.2)⟩))
  refine ⟨rfl, ⟨⟨a1, a2, by rw [z5]; exact a3, a4, a5, a6, a7, a8⟩, hf, ?_, fun q hq => ?_, ⟨by rw [z5]; exact s1, s2, s3, s4, fun q hq => ?_⟩, s6, ?_, Or.inr ⟨rfl, ?_, ho', ?_, ?_⟩⟩, v1, z5, fun x k _ h2 => hfr x k h2⟩
  · rw [hfr r 1 (by simp)]; exact hT
  · rw [hfr d _ (fun z => hdr z.1)]; exact hb q hq
  · rw [hfr t q (fun z => htr z.1)]; exact s5 q hq
  · rw [z3]
    show _ = ((S.2.1 + 9 + (S.2.2.2.2.1 + shn 9 (S.2.2.2.1 - 2)) : Nat) : Int)
    omega
  · rw [hfr r 6 (by simp)]; exact m2
  · rw [z1]; rfl
  · rw [z2]
    show _ = (pv f S.2.1 (9 + (S.2.2.2.2.1 + shn 9 (S.2.2.2.1 - 2))) : Int) - _
    rw [← Nat.add_assoc]
    rfl
theorem isLast1_ok {G : GG} {M : DD} {r d t : Nat} {f : Nat → Nat} {T : Nat} {S : SS} {D : List Tok} (h : RD G M r d t f T S) (hv : VT f T ((1, 0, 1) :: D) S) : OK (FX5_isLast G M r) (fun y => y.2.toInt = 1 ∧ y.1 = uI M r 8 (M.1 r 8 - 2)) := by
  have e2 : (2 : Int32).toInt = 2 := rfl
  obtain ⟨v1, m0, hc⟩ := hv.end1
  obtain ⟨⟨a1, a2, a3, a4, a5, a6, a7, a8⟩, hf, hT, hb, ⟨s1, s2, s3, s4, s5⟩, s6, hpl, hm⟩ := h
  rcases hm with ⟨m1, -⟩ | ⟨m1, m2, mA, m8, m9⟩
  · exact absurd m1 m0
  obtain ⟨A1, A2, A3, A4⟩ := mA
  unfold Cons at hc
  dsimp only at hc
  have hx2 : (M.1 r 8 - (2 : Int32)).toInt = ((S.2.2.2.1 - 2 : Nat) : Int) := by
    rw [ti_sub (by omega) (by omega), m8, e2]
    omega
  unfold FX5_isLast
  refine ok_lt (ok_lt (ok_lt (ok_lt (ok_lt ?_))))
  have f9 : (uI M r 8 (M.1 r 8 - 2)).1 r 9 = M.1 r 9 := by simp [uI]
  have f8 : (uI M r 8 (M.1 r 8 - 2)).1 r 8 = M.1 r 8 - 2 := by simp [uI]
  rw [f9, f8]
  refine ok_if (fun c => ?_) (fun _ => ok_chk (Or.inr rfl) (ok_some ⟨rfl, rfl⟩))
  have := pz_lt.mp c
  omega
set_option maxHeartbeats 2000000 in
/-- ARITH begins at a place of plain bits: nine bits are taken -/
theorem beginR_ok {G : GG} {M : DD} {r d t : Nat} {f : Nat → Nat} {T q : Nat} {st : Nat → Nat} {D : List Tok} (h : RB G M r d f T) (hst : M.2 r 10 = some t ∧ t < G.1 ∧ G.2.1 t = 13 ∧ G.2.2 t = 272 ∧ (∀ i, i < 272 → (M.1 t i).toInt = st i)) (hst2 : ∀ i, st i < 126) (hpl : (M.1 r 2).toInt = q) (hv : VT f T D (1, q, A0 st)) : OK (FX5_beginArith G M r) (fun y => RD G y r d t f T (1, q, A0 st) ∧ y.2 = M.2 ∧ (∀ x k, ¬ (x = r ∧ (k = 2 ∨ k = 6 ∨ k = 8 ∨ k = 9)) → y.1 x k = M.1 x k)) := by
  have e0 : (0 : Int32).toInt = 0 := rfl
  have e1 : (1 : Int32).toInt = 1 := rfl
  have e9 : (9 : Int32).toInt = 9 := rfl
  have hpv : q + 9 ≤ T := by
    have h1 := Nat.le_trans (val_pos D _ hv.1) hv.2
    have : pos ((1, q, A0 st) : SS) = q + 9 + 0 := by
      unfold pos
      rw [if_neg (Nat.succ_ne_zero 0)]
      rfl
    omega
  have hT6 : T ≤ 600000 := h.1.2.2.2.2.2.2.2
  have hf := h.2.1
  have hdr := h.ne
  obtain ⟨s1, s2, s3, s4, s5⟩ := hst
  have htr : t ≠ r := fun e => by
    have h1 := h.1.2.1
    rw [e] at s3
    omega
  have hAok : AOk (A0 st) := ⟨show 256 ≤ 510 by decide, show 510 ≤ 510 by decide, hst2, show 0 + 510 ≤ 2 ^ (9 + 0) by decide⟩
  unfold FX5_beginArith
  refine ok_lt (ok_lt (ok_bnd (ok_itr (fun s : Int32 × DD => ∃ jj : Nat, s.1.toInt = jj ∧ jj ≤ 9 ∧ (s.2.1 r 9).toInt = pv f q jj ∧ (s.2.1 r 2).toInt = ((q + jj : Nat) : Int) ∧ (s.2.1 r 8).toInt = 510 ∧ (∀ x k, ¬ (x = r ∧ (k = 2 ∨ k = 8 ∨ k = 9)) → s.2.1 x k = M.1 x k) ∧ s.2.2 = M.2) (fun s => (9 - s.1.toInt).toNat) (P := fun y : Int32 × DD => (y.2.1 r 9).toInt = pv f q 9 ∧ (y.2.1 r 2).toInt = ((q + 9 : Nat) : Int) ∧ (y.2.1 r 8).toInt = 510 ∧ (∀ x k, ¬ (x = r ∧ (k = 2 ∨ k = 8 ∨ k = 9)) → y.2.1 x k = M.1 x k) ∧ y.2.2 = M.2) ?_ 1000000 _ ?_ ?_) (fun y3 h3 => ok_chk (Or.inr rfl) (ok_lt (ok_some ?_)))))
  · intro s hs
    obtain ⟨k, N⟩ := s
    obtain ⟨jj, q1, q2, q3, q4, q5, q6, q7⟩ := hs
    dsimp only at q1 q3 q4 q5 q6 q7 ⊢
    refine ok_if (fun c => ok_some ?_) (fun c => ok_lt (ok_lt ?_))
    · have := pz_le.mp c
      have ej : jj = 9 := by omega
      subst ej
      exact ⟨q3, q4, q5, q6, q7⟩
    · have c3 : ¬ (9 : Int32).toInt ≤ k.toInt := fun z => c (pz_le.mpr z)
      have hjl : jj < 9 := by omega
      have hRB : RB G N r d f T := by
        obtain ⟨⟨u1, u2, u3, u4⟩, v2, v3, v4⟩ := h
        exact ⟨⟨u1, u2, by rw [q7]; exact u3, u4⟩, v2, by rw [q6 r 1 (by simp)]; exact v3, fun i hi => by rw [q6 d _ (fun z => hdr z.1)]; exact v4 i hi⟩
      refine ok_bnd (plain_ok hRB q4 (by omega)) (fun y10 h10 => ?_)
      obtain ⟨y1, nb⟩ := y10
      obtain ⟨z1, hbit⟩ := h10
      dsimp only at z1 hbit ⊢
      subst z1
      have hfb := hf (q + jj)
      have hpb := pv_lt hf (p := q) jj
      have hp9 : (2 : Nat) ^ jj ≤ 2 ^ 9 := Nat.pow_le_pow_right (by decide) (by omega)
      have hp9' : (2 : Nat) ^ 9 = 512 := rfl
      have h21 := pz_shl1 (N.1 r 9) (by omega) (by omega)
      have hor := pz_or1 (N.1 r 9 <<< ((1 : Int32) &&& 31)) nb (by omega) (by omega) (by omega) (by omega)
      refine ok_lt (ok_lt (ok_lt (ok_some ?_)))
      generalize (N.1 r 9 <<< ((1 : Int32) &&& 31)) ||| nb = x11 at hor
      have hk1 : (k + 1).toInt = jj + 1 := by rw [ti_add (by omega) (by omega), q1, e1]
      dsimp only
      refine ⟨⟨jj + 1, by rw [hk1]; omega, by omega, ?_, ?_, ?_, fun x k2 hk => ?_, q7⟩, by omega⟩
      · rw [uI_s, hor, h21, q3, hbit]
        show _ = ((2 * pv f q jj + f (q + jj) : Nat) : Int)
        omega
      · rw [uI_n _ _ (by simp), uI_s, ti_add (by omega) (by omega), e1]
        omega
      · rw [uI_n _ _ (by simp), uI_n _ _ (by simp)]; exact q5
      · rw [uI_n _ _ (fun z => hk ⟨z.1, Or.inr (Or.inr z.2)⟩), uI_n _ _ (fun z => hk ⟨z.1, Or.inl z.2⟩)]
        exact q6 x k2 hk
  · refine ⟨0, e0, Nat.zero_le _, ?_, ?_, ?_, fun x k hk => ?_, rfl⟩
    · rw [uI_s]; rfl
    · rw [uI_n _ _ (by simp), uI_n _ _ (by simp)]; exact hpl
    · rw [uI_n _ _ (by simp), uI_s]; rfl
    · rw [uI_n _ _ (fun z => hk ⟨z.1, Or.inr (Or.inr z.2)⟩), uI_n _ _ (fun z => hk ⟨z.1, Or.inr (Or.inl z.2)⟩)]
  · dsimp only
    omega
  · obtain ⟨k, N⟩ := y3
    obtain ⟨z1, z2, z3, z4, z5⟩ := h3
    dsimp only at z1 z2 z3 z4 z5 ⊢
    have hfr : ∀ x k, ¬ (x = r ∧ (k = 2 ∨ k = 6 ∨ k = 8 ∨ k = 9)) → (uI N r 6 1).1 x k = M.1 x k := fun x k hk => (uI_n _ _ (fun z => hk ⟨z.1, Or.inr (Or.inl z.2)⟩)).trans (z4 x k (fun z => hk ⟨z.1, by rcases z.2 with w | w | w <;> simp [w]⟩))
    obtain ⟨⟨a1, a2, a3, a4⟩, b2, b3, b4⟩ := h
    refine ⟨⟨⟨a1, a2, by show N.2 r 0 = _; rw [z5]; exact a3, a4⟩, hf, ?_, fun i hi => ?_, ⟨by show N.2 r 10 = _; rw [z5]; exact s1, s2, s3, s4, fun i hi => ?_⟩, hst2, ?_, Or.inr ⟨rfl, ?_, hAok, ?_, ?_⟩⟩, z5, hfr⟩
    · rw [hfr r 1 (by simp)]; exact b3
    · rw [hfr d _ (fun z => hdr z.1)]; exact b4 i hi
    · rw [hfr t i (fun z => htr z.1)]; exact s5 i hi
    · rw [uI_n _ _ (by simp), z2]; rfl
    · rw [uI_s]; exact e1
    · rw [uI_n _ _ (by simp), z3]; rfl
    · rw [uI_n _ _ (by simp), z1]
      show _ = (pv f q (9 + 0) : Int) - (0 : Nat)
      rw [Nat.add_zero]
      omega
