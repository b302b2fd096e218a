/-! RAW samples read -/
theorem vt_fix {f : Nat → Nat} {T e : Nat} {D : List Tok} : ∀ (K n : Nat) (S : SS), S.1 = 0 → VT f T (List.replicate K (0, 0, 0) ++ D) S → VT f T ((List.range' n K).map (fun j => ((0, 16 * e + (if j < 15 then j else 15), 0) : Tok)) ++ D) S ∧ runs ((List.range' n K).map (fun j => ((0, 16 * e + (if j < 15 then j else 15), 0) : Tok))) S = (0, S.2.1 + K, S.2.2) := by
  intro K
  induction K with
  | zero =>
    intro n S h0 h
    obtain ⟨S1, S2, S3⟩ := S
    dsimp only at h0
    subst h0
    exact ⟨h, rfl⟩
  | succ K ih =>
    intro n S h0 h
    obtain ⟨v1, v2, v3, v4⟩ := VT.dec (D := List.replicate K (0, 0, 0) ++ D) h
    have hn : ∀ i, nxt (0, i, 0) S = (0, S.2.1 + 1, S.2.2) := fun i => nxt_0 i 0 h0
    rw [hn] at v1
    obtain ⟨w1, w2⟩ := ih (n + 1) (0, S.2.1 + 1, S.2.2) rfl v1
    rw [List.range'_succ, List.map_cons]
    refine ⟨⟨?_, ?_⟩, ?_⟩
    · show Val f ((0, 16 * e + (if n < 15 then n else 15), 0) :: (_ ++ D)) S
      show (if S.1 = 0 then f S.2.1 = 0 ∧ Val f _ (0, S.2.1 + 1, S.2.2) else _)
      rw [if_pos h0]
      exact ⟨v3 h0, w1.1⟩
    · show pos (runs (_ ++ D) (nxt (0, _, 0) S)) ≤ T
      rw [hn]
      exact w1.2
    · show runs _ (nxt (0, _, 0) S) = _
      rw [hn, w2]
      dsimp only
      rw [show S.2.1 + 1 + K = S.2.1 + (K + 1) by omega]
theorem toks_00 (K : Nat) : toks 0 0 K = (List.range' 0 K).map (fun j => ((0, 16 * 0 + (if j < 15 then j else 15), 0) : Tok)) := by
  unfold toks
  rw [List.range_eq_range']
  apply List.map_congr_left
  intro j _
  rw [Nat.zero_div]
theorem rw_split (v : Nat → Nat) : ∀ n j, j ≤ n → ∃ R, rwT v n = rwT v j ++ R := by
  intro n
  induction n with
  | zero => intro j hj; exact ⟨[], by rw [show j = 0 by omega, List.append_nil]⟩
  | succ n ih =>
    intro j hj
    by_cases q : j = n + 1
    · exact ⟨[], by rw [q, List.append_nil]⟩
    · obtain ⟨R, hR⟩ := ih j (by omega)
      exact ⟨R ++ toks 0 (v n) 8, by rw [rwT_s, hR, List.append_assoc]⟩
def RW (M : DD) (r t el sm : Nat) (N : DD) : Prop := N.2 = M.2 ∧ ∀ x k, x ≠ t → x ≠ el → x ≠ sm → ¬ (x = r ∧ (k = 2 ∨ k = 4 ∨ k = 5 ∨ k = 6 ∨ k = 8 ∨ k = 9 ∨ k = 12)) → N.1 x k = M.1 x k
theorem RW.tr {M N O : DD} {r t el sm : Nat} (h : RW M r t el sm N) (h2 : RW N r t el sm O) : RW M r t el sm O := ⟨h2.1.trans h.1, fun x k h3 h4 h5 h6 => (h2.2 x k h3 h4 h5 h6).trans (h.2 x k h3 h4 h5 h6)⟩
theorem RY.rw {M N : DD} {r t el : Nat} (sm : Nat) (h : RY M r t el N) : RW M r t el sm N := ⟨h.1, fun x k h3 h4 _ h6 => h.2 x k h3 h4 (fun q => h6 ⟨q.1, by omega⟩)⟩
/-- the 384 samples -/
theorem rawl_ok {G : GG} {M : DD} {r d t el sm : Nat} {f : Nat → Nat} {T : Nat} {S : SS} {D : List Tok} {v : Nat → Nat} (h : RD G M r d t f T S) (hE : RE G M r el t S) (hd : el ≠ d) (h0 : S.1 = 0) (hv : VT f T (rwT v 384 ++ D) S) (hsm : sm < G.1 ∧ G.2.1 sm = 13 ∧ G.2.2 sm = 384) (hst : sm ≠ t) (hse : sm ≠ el) (hv8 : ∀ i, i < 384 → v i < 256) :
    OK (itr (fun (s9 : Int32 × DD) => ((if ((384 : Int32)) ≤ s9.1 then (some (.inr (s9.1, s9.2))) else
  (dr G 13 (some sm) fun b16 =>
  ltt (Int32.ofNat (G.2.2 b16)) fun x17 =>
  if x17 ≤ s9.1 then (some (.inr (s9.1, s9.2))) else
  (bnd (FX5_fixed G s9.2 r ((0 : Int32)) ((8 : Int32))) fun y19 =>
  chk (¬ (s9.1 < 0 ∨ G.2.2 b16 ≤ s9.1.toNatClampNeg)) <|
  ltt (uI y19.1 b16 s9.1.toNatClampNeg y19.2) fun M20 =>
  ltt (s9.1 + (1 : Int32)) fun x21 =>
  some (.inl (x21, M20))))) : Option ((Int32 × DD) ⊕ (Int32 × DD)))) 1000000 ((0 : Int32), M)) (fun y => (∀ i, i < 384 → (y.2.1 sm i).toInt = v i) ∧ RD G y.2 r d t f T (runs (rwT v 384) S) ∧ RE G y.2 r el t (runs (rwT v 384) S) ∧ VT f T D (runs (rwT v 384) S) ∧ RW M r t el sm y.2) := by
  have e1 : (1 : Int32).toInt = 1 := rfl
  have e384 : (384 : Int32).toInt = 384 := rfl
  have hT6 : T ≤ 600000 := h.1.2.2.2.2.2.2.2
  have hsd : sm ≠ d := fun e => by have := h.1.2.2.2.2.1; rw [← e] at this; omega
  have hsr : sm ≠ r := fun e => by have := h.1.2.1; rw [← e] at this; omega
  refine ok_itr (fun (s : Int32 × DD) => ∃ j : Nat, s.1.toInt = j ∧ j ≤ 384 ∧ (∀ i, i < j → (s.2.1 sm i).toInt = v i) ∧ RD G s.2 r d t f T (runs (rwT v j) S) ∧ RE G s.2 r el t (runs (rwT v j) S) ∧ RW M r t el sm s.2) (fun (s : Int32 × DD) => (384 - s.1.toInt).toNat) ?_ 1000000 _ ?_ ?_
  · rintro ⟨x, N⟩ ⟨j, j1, j2, j3, j4, j5, j6⟩
    dsimp only at j1 j3 j4 j5 j6 ⊢
    refine ok_if (fun c => ok_some ?_) (fun c => ?_)
    · have := pz_le.mp c
      have hj : j = 384 := by omega
      subst hj
      exact ⟨j3, j4, j5, VT.skip hv |>.1, j6⟩
    · have hlt : j < 384 := by
        have : ¬ (384 : Int32).toInt ≤ x.toInt := fun q => c (pz_le.mpr q)
        omega
      have hjx : x.toNatClampNeg = j := by have := nat_of (x := x) (by omega); omega
      refine ok_dr rfl hsm.1 hsm.2.1 (ok_ltt (fun x17 e17 => ?_))
      have i17 : x17.toInt = 384 := by rw [e17, hsm.2.2]; exact pz_ofn (by decide)
      refine ok_if (fun c2 => ?_) (fun _ => ?_)
      · exfalso
        have := pz_le.mp c2
        omega
      obtain ⟨R, hR⟩ := rw_split v 384 (j + 1) (by omega)
      have hv2 : VT f T (rwT v j ++ (toks 0 (v j) 8 ++ (R ++ D))) S := by
        rw [hR, rwT_s] at hv
        simpa only [List.append_assoc] using hv
      have hv3 := (VT.skip hv2).1
      have hp := (VT.skip hv3).2
      have hr1 : runs (rwT v (j + 1)) S = runs (toks 0 (v j) 8) (runs (rwT v j) S) := by rw [rwT_s, runs_app]
      refine ok_bnd (fixed_ok (V := v j) (n := 8) (e := 0) j4 j5 hd hv3 (by omega) rfl (by omega) rfl (by omega) (by omega) (by have := hv8 j hlt; omega)) ?_
      rintro ⟨N2, x2⟩ ⟨p1, p2, p3, p4, p5⟩
      dsimp only at p1 p2 p3 p4 p5 ⊢
      refine ok_chk (pz_ix (by omega) (by rw [hsm.2.2]; omega)) (ok_ltt (fun M20 e20 => ok_ltt (fun x21 e21 => ok_some ?_)))
      rw [hjx] at e20
      have i21 : x21.toInt = j + 1 := by rw [e21, ti_add (by omega) (by omega)]; omega
      refine ⟨⟨j + 1, by dsimp only; omega, by omega, fun i hi => ?_, ?_, ?_, ?_⟩, by dsimp only; omega⟩
      · dsimp only
        rw [e20]
        by_cases q : i = j
        · rw [q, uI_s]; exact p1
        · rw [uI_n _ _ (fun z => q z.2), p5.2 sm i hst hse (fun z => hsr z.1)]
          exact j3 i (by omega)
      · dsimp only
        rw [hr1, e20]
        refine p2.by rfl (fun x k hx => uI_n _ _ ?_)
        rintro ⟨z, -⟩
        rcases hx with q | q | q
        · exact hsr (z.symm.trans q.1)
        · exact hsd (z.symm.trans q)
        · exact hst (z.symm.trans q)
      · dsimp only
        rw [hr1, e20]
        exact p3.by rfl (uI_n _ _ (fun z => hsr z.1.symm)) (uI_n _ _ (fun z => hsr z.1.symm)) (Nat.le_refl _) (fun z => z)
      · dsimp only
        rw [e20]
        refine (j6.tr (p5.rw sm)).tr ⟨rfl, fun x k _ _ h5 _ => uI_n _ _ (fun z => h5 z.1)⟩
  · exact ⟨0, rfl, by omega, fun i hi => by omega, h, hE, rfl, fun _ _ _ _ _ _ => rfl⟩
  · dsimp only
    have : (0 : Int32).toInt = 0 := rfl
    omega
set_option maxHeartbeats 2000000 in
theorem rawr_ok {G : GG} {M : DD} {r d t el sm : Nat} {f : Nat → Nat} {T : Nat} {S : SS} {D : List Tok} {v : Nat → Nat} (h : RD G M r d t f T S) (hE : RE G M r el t S) (hd : el ≠ d) (her : el ≠ r) (hv : VT f T (rawT S v ++ D) S) (hsm : sm < G.1 ∧ G.2.1 sm = 13 ∧ G.2.2 sm = 384) (hst : sm ≠ t) (hse : sm ≠ el) (hv8 : ∀ i, i < 384 → v i < 256) :
    OK (FX5_rawSamples G M r (some sm)) (fun y => (∀ i, i < 384 → (y.1 sm i).toInt = v i) ∧ RD G y r d t f T (runs (rawT S v) S) ∧ RE G y r el t (runs (rawT S v) S) ∧ VT f T D (runs (rawT S v) S) ∧ RW M r t el sm y) := by
  have e0 : (0 : Int32).toInt = 0 := rfl
  have hT6 : T ≤ 600000 := h.1.2.2.2.2.2.2.2
  obtain ⟨hdr, htr, hdt⟩ := h.lt
  have hsd : sm ≠ d := fun e => by have := h.1.2.2.2.2.1; rw [← e] at this; omega
  have hsr : sm ≠ r := fun e => by have := h.1.2.1; rw [← e] at this; omega
  obtain ⟨D0, hD0⟩ : ∃ D0, D0 = (if S.1 = 0 then [] else [((1, 0, 1) : Tok)]) := ⟨_, rfl⟩
  obtain ⟨S0, hS0⟩ : ∃ S0, S0 = runs D0 S := ⟨_, rfl⟩
  obtain ⟨DZ, hDZ⟩ : ∃ DZ, DZ = (if S.1 = 0 then [] else [((2, 0, 0) : Tok)]) := ⟨_, rfl⟩
  have hraw : rawT S v = D0 ++ (fillT S0.2.1 0 ++ (rwT v 384 ++ DZ)) := by unfold rawT; rw [← hD0, ← hS0, ← hDZ]
  have hv0 : VT f T (D0 ++ (fillT S0.2.1 0 ++ (rwT v 384 ++ (DZ ++ D)))) S := by
    rw [hraw] at hv
    simpa only [List.append_assoc] using hv
  have hv1 := (VT.skip hv0).1
  rw [← hS0] at hv1
  have hs0 : S0.1 = 0 ∧ S0.2.1 = pos S ∧ S0.2.2 = S.2.2 := by
    rw [hS0, hD0]
    by_cases q : S.1 = 0
    · rw [if_pos q]
      unfold pos
      rw [if_pos q]
      exact ⟨q, rfl, rfl⟩
    · rw [if_neg q]
      unfold pos
      rw [if_neg q]
      have e : runs [((1, 0, 1) : Tok)] S = nxt (1, 0, 1) S := rfl
      rw [e]
      unfold nxt
      simp
  obtain ⟨s01, s02, s03⟩ := hs0
  have hp0 : pos S0 = pos S := by unfold pos; rw [if_pos s01, s02]; rfl
  unfold FX5_rawSamples
  refine ok_ltt (fun x1 ex1 => ?_)
  refine ok_bnd (Q := fun (y : DD) => y.2 = M.2 ∧ ∀ x k, ¬ (x = r ∧ k = 8) → y.1 x k = M.1 x k) ?_ ?_
  · refine ok_if (fun c => ok_some ⟨rfl, fun _ _ _ => rfl⟩) (fun c => ?_)
    have hn0 : S.1 ≠ 0 := by
      rcases h.2.2.2.2.2.2.2 with ⟨-, q⟩ | ⟨q, -⟩
      · exfalso
        exact c (pz_eq.mpr (by rw [ex1, q]; rfl))
      · omega
    rw [hD0, if_neg hn0] at hv0
    refine ok_bnd (isLast1_ok h hv0) ?_
    rintro ⟨N, x⟩ ⟨p1, p2⟩
    dsimp only at p1 p2 ⊢
    refine ok_bnd (Q := fun (y : DD) => y = N) ?_ ?_
    · refine ok_if (fun c2 => ?_) (fun _ => ok_some rfl)
      have := pz_eq.mp c2
      omega
    · rintro y29 rfl
      exact ok_some ⟨by rw [p2]; rfl, fun x k hx => by rw [p2, uI_n _ _ hx]⟩
  · rintro N ⟨n1, n2⟩
    refine ok_chk (Or.inl rfl) (ok_ltt (fun M3 e3 => ok_ltt (fun x4 e4 => ok_ltt (fun x5 e5 => ok_ltt (fun x6 e6 => ?_)))))
    have m2 : M3.2 = M.2 := by rw [e3]; exact n1
    have m1 : ∀ x k, ¬ (x = r ∧ (k = 6 ∨ k = 8)) → M3.1 x k = M.1 x k := fun x k hx => by
      rw [e3, uI_n _ _ (fun q => hx ⟨q.1, Or.inl q.2⟩), n2 x k (fun q => hx ⟨q.1, Or.inr q.2⟩)]
    have m6 : M3.1 r 6 = 0 := by rw [e3, uI_s]
    have hR3 : RD G M3 r d t f T S0 := by
      obtain ⟨⟨a1, a2, a3, a4, a5, a6⟩, hf, hT, hb, ⟨s1, s2, s3, s4, s5⟩, s6, hpl, hm⟩ := h
      refine ⟨⟨a1, a2, by rw [m2]; exact a3, a4, a5, a6⟩, hf, by rw [m1 r 1 (by omega)]; exact hT, fun i hi => by rw [m1 d _ (fun q => hdr q.1)]; exact hb i hi, ⟨by rw [m2]; exact s1, s2, s3, s4, fun i hi => by rw [m1 t i (fun q => htr q.1), s03]; exact s5 i hi⟩, by rw [s03]; exact s6, by rw [m1 r 2 (by omega), hp0]; exact hpl, Or.inl ⟨s01, by rw [m6]; rfl⟩⟩
    have hE3 : RE G M3 r el t S0 := hE.by m2 (m1 r 12 (by omega)) (m1 r 7 (by omega)) (Nat.le_of_eq hp0.symm) (fun q => absurd s01 q)
    have hW3 : RW M r t el sm M3 := ⟨m2, fun x k _ _ _ hk => m1 x k (fun q => hk ⟨q.1, by omega⟩)⟩
    have hq : (M3.1 r 2).toInt = ((S0.2.1 : Nat) : Int) := by
      rw [hR3.2.2.2.2.2.2.1]
      unfold pos
      rw [if_pos s01]
    have hS06 : S0.2.1 ≤ 600000 := by
      have h1 := Nat.le_trans (val_pos _ _ hv1.1) hv1.2
      unfold pos at h1
      rw [if_pos s01] at h1
      omega
    have i5 : x5.toInt = -((S0.2.1 : Nat) : Int) := by
      rw [e5, Int32.toInt_neg, e4, hq]
      exact Int.bmod_eq_of_le (by omega) (by omega)
    obtain ⟨K, hK⟩ : ∃ K, K = (8 - S0.2.1 % 8) % 8 := ⟨_, rfl⟩
    have i6 : x6.toInt = (K : Int) := by
      rw [e6, pz_and7, i5]
      omega
    have hv1' : VT f T (List.replicate K (0, 0, 0) ++ (rwT v 384 ++ (DZ ++ D))) S0 := by
      unfold fillT at hv1
      rw [← hK] at hv1
      exact hv1
    obtain ⟨hv2, hr2⟩ := vt_fix (e := 0) K 0 S0 s01 hv1'
    rw [← toks_00] at hv2 hr2
    have hfl : runs (fillT S0.2.1 0) S0 = (0, S0.2.1 + K, S0.2.2) := by
      unfold fillT
      rw [← hK, runs_rep _ _ _ s01]
    obtain ⟨S1, hS1⟩ : ∃ S1, S1 = runs (fillT S0.2.1 0) S0 := ⟨_, rfl⟩
    rw [hfl] at hS1
    have hv3 := (VT.skip hv2).1
    have hp3 := (VT.skip hv2).2
    refine ok_bnd (Q := fun (y : DD) => RD G y r d t f T S1 ∧ RE G y r el t S1 ∧ RY M3 r t el y) ?_ ?_
    · refine ok_if (fun c => ok_some ?_) (fun c => ?_)
      · have := pz_le.mp c
        have hK0 : K = 0 := by omega
        have e : S1 = S0 := by
          rw [hS1, hK0]
          obtain ⟨S00, S01, S02⟩ := S0
          dsimp only at s01
          rw [s01]
          rfl
        rw [e]
        exact ⟨hR3, hE3, RY.rf _ _ _ _⟩
      · have hK1 : 1 ≤ K := by
          by_cases z : K = 0
          · exact absurd (pz_le.mpr (by rw [i6, z]; exact Int.le_refl 0)) c
          · omega
        refine ok_bnd (fixed_ok (V := 0) (n := K) (e := 0) hR3 hE3 hd hv2 (by omega) rfl (by omega) i6 hK1 (by omega) (Nat.pow_pos (by omega))) ?_
        rintro ⟨N2, x2⟩ ⟨p1, p2, p3, p4, p5⟩
        dsimp only at p1 p2 p3 p4 p5 ⊢
        refine ok_bnd (Q := fun (y : DD) => y = N2) ?_ ?_
        · refine ok_if (fun _ => ok_some rfl) (fun c2 => ?_)
          exact absurd (pz_eq.mpr (by rw [p1]; rfl)) c2
        · rintro y24 rfl
          rw [hr2, ← hS1] at p2 p3
          exact ok_some ⟨p2, p3, p5⟩
    · rintro y7 ⟨p2, p3, p5⟩
      rw [hr2, ← hS1] at hv3
      have s11 : S1.1 = 0 := by rw [hS1]
      refine ok_bnd (rawl_ok p2 p3 hd s11 hv3 hsm hst hse hv8) ?_
      rintro ⟨x8, N8⟩ ⟨q1, q2, q3, q4, q5⟩
      dsimp only at q1 q2 q3 q4 q5 ⊢
      obtain ⟨w1, w2, w3⟩ := runs_rwT v s11 384
      obtain ⟨S2, hS2⟩ : ∃ S2, S2 = runs (rwT v 384) S1 := ⟨_, rfl⟩
      have hend : runs (rawT S v) S = runs DZ S2 := by
        rw [hraw, runs_app, ← hS0, runs_app, hfl, ← hS1, runs_app, ← hS2]
      rw [← hS2] at q2 q3 q4 w1 w2 w3
      have hW := (hW3.tr (p5.rw sm)).tr q5
      by_cases z : S.1 = 0
      · rw [if_pos (pz_eq.mpr (by rw [ex1]; rcases h.2.2.2.2.2.2.2 with ⟨-, q⟩ | ⟨q, -⟩; exact q; omega))]
        rw [hDZ, if_pos z] at hend q4
        refine ok_bnd (ok_some rfl) ?_
        rintro _ rfl
        rw [hend]
        exact ok_some ⟨q1, q2, q3, q4, hW⟩
      · have z6 : (M.1 r 6).toInt = 1 := by
          rcases h.2.2.2.2.2.2.2 with ⟨q, -⟩ | ⟨-, q, -⟩
          · exact absurd q z
          · exact q
        rw [if_neg (fun c => by have := pz_eq.mp c; rw [ex1, z6] at this; exact absurd this (by decide))]
        rw [hDZ, if_neg z] at hend q4
        obtain ⟨v5, -⟩ := VT.st1 q4
        have he : runs [((2, 0, 0) : Tok)] S2 = (1, S2.2.1, A0 S2.2.2.2.2.2) := by
          show nxt (2, 0, 0) S2 = _
          unfold nxt
          simp
        rw [he] at hend
        rw [hend]
        refine ok_bnd (Q := fun (y : DD) => RD G y r d t f T (1, S2.2.1, A0 S2.2.2.2.2.2) ∧ y.2 = N8.2 ∧ (∀ x k, ¬ (x = r ∧ (k = 2 ∨ k = 6 ∨ k = 8 ∨ k = 9)) → y.1 x k = N8.1 x k)) ?_ ?_
        · refine ok_bnd (beginR_ok q2.rb q2.2.2.2.2.1 q2.2.2.2.2.2.1 (by rw [q2.2.2.2.2.2.2.1]; unfold pos; rw [if_pos w1]) v5) (fun y19 h19 => ok_some h19)
        · rintro y11 ⟨r1, r2, r3⟩
          have hWy : RW M r t el sm y11 := hW.tr ⟨r2, fun x k _ _ _ hk => r3 x k (fun q => hk ⟨q.1, by omega⟩)⟩
          refine ok_some ⟨fun i hi => by rw [r3 sm i (fun q => hsr q.1)]; exact q1 i hi, r1, ?_, v5, hWy⟩
          obtain ⟨b1, b2, b3, b4, b5, b6, b7, b8⟩ := q3
          refine ⟨by rw [r2]; exact b1, b2, b3, b4, b5, by rw [r3 r 12 (by omega)]; exact b6, ?_, fun _ => ?_⟩
          · rw [r3 r 12 (by omega)]
            have : pos S2 ≤ pos ((1, S2.2.1, A0 S2.2.2.2.2.2) : SS) := by
              unfold pos
              rw [if_pos w1, if_neg (Nat.succ_ne_zero 0)]
              dsimp only
              omega
            omega
          · rw [hWy.2 r 7 (fun q => htr q.symm) (fun q => her q.symm) (fun q => hsr q.symm) (by omega)]
            exact hE.2.2.2.2.2.2.2 z
