theorem runs_toks (e V n : Nat) {S : SS} (hS : S.1 = 0 ∨ S.1 = 1) : (runs (toks e V n) S).1 = S.1 ∧ pos S + (if S.1 = 0 then n else 0) ≤ pos (runs (toks e V n) S) := by
  rw [← runs_n]
  have hrk : ∀ k, (runs ((List.range' 0 k).map (tokj e V n)) S).1 = S.1 ∧ pos S + (if S.1 = 0 then k else 0) ≤ pos (runs ((List.range' 0 k).map (tokj e V n)) S) := by
    intro k
    induction k with
    | zero => exact ⟨rfl, by split <;> exact Nat.le_refl _⟩
    | succ k ih =>
      obtain ⟨i1, i2⟩ := ih
      rw [runs_s]
      generalize runs ((List.range' 0 k).map (tokj e V n)) S = S1 at i1 i2
      have hS1 : S1.1 = 0 ∨ S1.1 = 1 := by omega
      have hpd := pos_dec (i := 16 * e + (if k < 15 then k else 15)) (b := V / 2 ^ (n - 1 - k) % 2) hS1
      unfold nxt at hpd ⊢
      rw [if_pos rfl] at hpd ⊢
      by_cases hz : S1.1 = 0
      · rw [if_pos hz] at hpd ⊢
        refine ⟨by dsimp only; omega, ?_⟩
        rw [if_pos (by omega)] at i2 ⊢
        unfold pos at i2 ⊢
        rw [if_pos hz] at i2
        rw [if_pos rfl]
        dsimp only
        omega
      · rw [if_neg hz] at hpd ⊢
        refine ⟨by dsimp only; omega, ?_⟩
        rw [if_neg (by omega)] at i2 ⊢
        omega
  exact hrk n
theorem RD.s01 {G : GG} {M : DD} {r d t : Nat} {f : Nat → Nat} {T : Nat} {S : SS} (h : RD G M r d t f T S) : S.1 = 0 ∨ S.1 = 1 := by
  rcases h.2.2.2.2.2.2.2 with ⟨q, -⟩ | ⟨q, -⟩
  · exact Or.inl q
  · exact Or.inr q
theorem RD.f4 {G : GG} {M : DD} {r d t : Nat} {f : Nat → Nat} {T : Nat} {S : SS} (h : RD G M r d t f T S) (v : Int32) : RD G (uI M r 4 v) r d t f T S := by
  obtain ⟨hdr, htr, hdt⟩ := h.lt
  exact h.by rfl (fun x k hx => uI_n _ _ (fun q => by
    rcases hx with ⟨-, z | z | z | z | z⟩ | z | z
    · omega
    · omega
    · omega
    · omega
    · omega
    · exact hdr (z.symm.trans q.1)
    · exact htr (z.symm.trans q.1)))
theorem numV_b (kind v : Nat) (h : v < 1000000000) : -1000000000 < numV kind v ∧ numV kind v < 1000000000 := by
  unfold numV
  split
  · split <;> omega
  · omega
theorem t64_32 {x : Int64} {z : Int} (hx : x.toInt = z) (h0 : -1000000000 < z) (h1 : z < 1000000000) : x.toInt32.toInt = z := by
  rw [Int64.toInt_toInt32, hx]
  apply Int.bmod_eq_of_le
  · omega
  · omega
/-- what is noted of a number that was read, and what stands behind it -/
theorem rec_ok {G : GG} {M N : DD} {r d t el e V n : Nat} {f : Nat → Nat} {T : Nat} {S : SS} {p0 : Int32} (h : RD G N r d t f T (runs (toks e V n) S)) (hS : S.1 = 0 ∨ S.1 = 1) (hE : RE G M r el t S) (hd : el ≠ d) (hn : 1 ≤ n) (hp : pos (runs (toks e V n) S) ≤ 600000) (htr : t ≠ r) (her : el ≠ r) (hF : RX (uI M r 4 (M.1 r 2)) r t N) : OK (FX5_record G N r p0) (fun y => RD G y r d t f T (runs (toks e V n) S) ∧ RE G y r el t (runs (toks e V n) S) ∧ RY M r t el y) := by
  have hfin := runs_toks e V n hS
  have hE' := hE
  obtain ⟨q1, q2, q3, q4, q5, q6, q7, q8⟩ := hE
  have h7 : N.1 r 7 = M.1 r 7 := (hF.2 r 7 (fun q => htr q.symm) (by simp)).trans (uI_n _ _ (by simp))
  have hE2 : RE G N r el t S := hE'.by hF.1 ((hF.2 r 12 (fun q => htr q.symm) (by simp)).trans (uI_n _ _ (by simp))) h7 (Nat.le_refl _) id
  refine (record_ok (p0 := p0) h hE2 hd ?_ (by rw [hfin.1]; exact id) hp).mono (fun y6 h6 => ⟨h6.1, h6.2.1, ?_⟩)
  · rcases hS with q | q
    · right
      rw [if_pos q] at hfin
      omega
    · left
      rw [if_neg (by omega)] at hfin
      exact ⟨by rw [h7]; exact q8 (by omega), by omega⟩
  · refine RY.tr ?_ h6.2.2
    exact ⟨hF.1, fun x k h1 h2 h3 => (hF.2 x k h1 (fun q => h3 ⟨q.1, by rcases q.2 with z | z | z <;> simp [z]⟩)).trans (uI_n _ _ (fun q => h3 ⟨q.1, by simp [q.2]⟩))⟩
set_option maxHeartbeats 2000000 in
theorem number_ok {G : GG} {M : DD} {r d t el : Nat} {f : Nat → Nat} {T : Nat} {S : SS} {D : List Tok} {e v kind : Nat} {p0 p1 : Int32} {p2 p3 : Int64} (h : RD G M r d t f T S) (hE : RE G M r el t S) (hd : el ≠ d) (hv : VT f T (ueT e v ++ D) S) (hp : pos (runs (ueT e v) S) ≤ 600000) (he : p0.toInt = e) (he2 : e ≤ 16) (hv2 : v < 1000000000) (hk : p1.toInt = kind) (hte : kind = 2 → p3.toInt ≠ 1) (hlo : p2.toInt ≤ numV kind v) (hhi : numV kind v ≤ p3.toInt) : OK (FX5_number G M r p0 p1 p2 p3) (fun y => y.2.toInt = numV kind v ∧ RD G y.1 r d t f T (runs (ueT e v) S) ∧ RE G y.1 r el t (runs (ueT e v) S) ∧ VT f T D (runs (ueT e v) S) ∧ RY M r t el y.1) := by
  have her : el ≠ r := fun e => by
    have h1 := h.1.2.1
    have h2 := hE.2.2.1
    rw [← e] at h1
    omega
  obtain ⟨hdr, htr, hdt⟩ := h.lt
  have h0 := ueread_ok (D := D) (h.f4 (M.1 r 2)) hv he he2 hv2 hk
  obtain ⟨n1, n2⟩ := numV_b kind v hv2
  unfold FX5_number
  refine ok_lt (ok_lt (ok_bnd (Q := fun y : Int64 × DD => y.1.toInt = numV kind v ∧ RD G y.2 r d t f T (runs (ueT e v) S) ∧ VT f T D (runs (ueT e v) S) ∧ RX (uI M r 4 (M.1 r 2)) r t y.2) ?_ (fun y3 h3 => ?_)))
  · refine ok_if (fun c => ok_lt (ok_bnd (Q := fun y : Int64 × DD => y.1.toInt = numV kind v ∧ RD G y.2 r d t f T (runs (ueT e v) S) ∧ VT f T D (runs (ueT e v) S) ∧ RX (uI M r 4 (M.1 r 2)) r t y.2) ?_ (fun y53 h53 => ok_some h53))) (fun c => h0)
    have hk2 : kind = 2 := by
      have := pz_eq.mp c
      have e2 : (2 : Int32).toInt = 2 := rfl
      omega
    refine ok_if (fun c2 => absurd (cmp_eq.mp c2) ?_) (fun c2 => h0)
    exact hte hk2
  · obtain ⟨y1, N⟩ := y3
    obtain ⟨z1, z2, z3, z4⟩ := h3
    dsimp only at z1 z2 z4 ⊢
    refine ok_lt (ok_bnd (Q := fun y : DD => y = N) (ok_if (fun c => absurd (cmp_lt.mp c) (by omega)) (fun _ => ok_some rfl)) (fun y5 h5 => ?_))
    subst h5
    refine ok_lt (ok_bnd (Q := fun y : DD => y = y5) (ok_if (fun _ => ok_some rfl) (fun c => absurd (cmp_le.mpr (by omega)) c)) (fun y7 h7 => ?_))
    subst h7
    refine ok_lt (ok_bnd (rec_ok (p0 := y1.toInt32) z2 h.s01 hE hd (by omega) hp htr her z4) (fun y9 h9 => ok_lt (ok_some ?_)))
    exact ⟨t64_32 z1 n1 n2, h9.1, h9.2.1, z3, h9.2.2⟩
/-- te of a range of two -/
theorem te1_ok {G : GG} {M : DD} {r d t el : Nat} {f : Nat → Nat} {T : Nat} {S : SS} {D : List Tok} {e v : Nat} {p0 p1 : Int32} {p2 p3 : Int64} (h : RD G M r d t f T S) (hE : RE G M r el t S) (hd : el ≠ d) (hv1 : v ≤ 1) (hv : VT f T (toks e (1 - v) 1 ++ D) S) (hp : pos (runs (toks e (1 - v) 1) S) ≤ 600000) (he : p0.toInt = e) (he2 : e ≤ 16) (hk : p1.toInt = 2) (hlo : p2.toInt = 0) (hhi : p3.toInt = 1) : OK (FX5_number G M r p0 p1 p2 p3) (fun y => y.2.toInt = v ∧ RD G y.1 r d t f T (runs (toks e (1 - v) 1) S) ∧ RE G y.1 r el t (runs (toks e (1 - v) 1) S) ∧ VT f T D (runs (toks e (1 - v) 1) S) ∧ RY M r t el y.1) := by
  have her : el ≠ r := fun e => by
    have h1 := h.1.2.1
    have h2 := hE.2.2.1
    rw [← e] at h1
    omega
  obtain ⟨hdr, htr, hdt⟩ := h.lt
  have e1 : (1 : Int32).toInt = 1 := rfl
  have e2 : (2 : Int32).toInt = 2 := rfl
  have l1 : (1 : Int64).toInt = 1 := rfl
  have hb := bit_ok (D := D) (j := 0) (b := (1 - v) / 2 ^ (1 - 1 - 0) % 2) (h.f4 (M.1 r 2)) hv he he2 (show (0 : Int32).toInt = ((0 : Nat) : Int) from rfl)
  have hbv : (1 - v) / 2 ^ (1 - 1 - 0) % 2 = 1 - v := by
    show (1 - v) / 1 % 2 = 1 - v
    omega
  have hru : runs (toks e (1 - v) 1) S = nxt (0, 16 * e + (if 0 < 15 then 0 else 15), (1 - v) / 2 ^ (1 - 1 - 0) % 2) S := rfl
  rw [← hru] at hb
  unfold FX5_number
  refine ok_lt (ok_lt (ok_bnd (Q := fun y : Int64 × DD => y.1.toInt = v ∧ RD G y.2 r d t f T (runs (toks e (1 - v) 1) S) ∧ VT f T D (runs (toks e (1 - v) 1) S) ∧ RX (uI M r 4 (M.1 r 2)) r t y.2) ?_ (fun y3 h3 => ?_)))
  · refine ok_if (fun c => ok_lt (ok_bnd (Q := fun y : Int64 × DD => y.1.toInt = v ∧ RD G y.2 r d t f T (runs (toks e (1 - v) 1) S) ∧ VT f T D (runs (toks e (1 - v) 1) S) ∧ RX (uI M r 4 (M.1 r 2)) r t y.2) ?_ (fun y53 h53 => ok_some h53))) (fun c => absurd (pz_eq.mpr (by omega)) c)
    refine ok_if (fun c2 => ?_) (fun c2 => absurd (cmp_eq.mpr (by omega)) c2)
    refine ok_bnd hb (fun y91 h91 => ok_lt (ok_lt (ok_some ?_)))
    obtain ⟨z1, z2, z3, z4⟩ := h91
    dsimp only
    refine ⟨?_, z2, z3, z4⟩
    rw [Int32.toInt_toInt64, ti_sub (by omega) (by omega), e1, z1, hbv]
    omega
  · obtain ⟨y1, N⟩ := y3
    obtain ⟨z1, z2, z3, z4⟩ := h3
    dsimp only at z1 z2 z4 ⊢
    refine ok_lt (ok_bnd (Q := fun y : DD => y = N) (ok_if (fun c => absurd (cmp_lt.mp c) (by omega)) (fun _ => ok_some rfl)) (fun y5 h5 => ?_))
    subst h5
    refine ok_lt (ok_bnd (Q := fun y : DD => y = y5) (ok_if (fun _ => ok_some rfl) (fun c => absurd (cmp_le.mpr (by omega)) c)) (fun y7 h7 => ?_))
    subst h7
    refine ok_lt (ok_bnd (rec_ok (p0 := y1.toInt32) z2 h.s01 hE hd (by omega) hp htr her z4) (fun y9 h9 => ok_lt (ok_some ?_)))
    exact ⟨t64_32 z1 (by omega) (by omega), h9.1, h9.2.1, z3, h9.2.2⟩
