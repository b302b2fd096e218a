/-! Reader: fixed, record -/
def RE (G : GG) (M : DD) (r el t : Nat) (S : SS) : Prop := M.2 r 11 = some el ∧ el < G.1 ∧ G.2.1 el = 13 ∧ G.2.2 el = 12000 ∧ el ≠ t ∧ 0 ≤ (M.1 r 12).toInt ∧ (M.1 r 12).toInt ≤ pos S ∧ (S.1 ≠ 0 → ¬ M.1 r 7 = 0)
/-- what else stands as it stood -/
def RY (M : DD) (r t el : Nat) (N : DD) : Prop := N.2 = M.2 ∧ ∀ x k, x ≠ t → x ≠ el → ¬ (x = r ∧ (k = 2 ∨ k = 4 ∨ k = 5 ∨ k = 8 ∨ k = 9 ∨ k = 12)) → N.1 x k = M.1 x k
theorem RY.rf (M : DD) (r t el : Nat) : RY M r t el M := ⟨rfl, fun _ _ _ _ _ => rfl⟩
theorem RY.tr {M N O : DD} {r t el : Nat} (h : RY M r t el N) (h2 : RY N r t el O) : RY M r t el O := ⟨h2.1.trans h.1, fun x k h3 h4 h5 => (h2.2 x k h3 h4 h5).trans (h.2 x k h3 h4 h5)⟩
theorem RX.ry {M N : DD} {r t : Nat} (el : Nat) (h : RX M r t N) : RY M r t el N := ⟨h.1, fun x k h3 _ h5 => h.2 x k h3 (fun q => h5 ⟨q.1, by rcases q.2 with z | z | z <;> simp [z]⟩)⟩
/-- a write that reading doesn't mind -/
theorem RD.by {G : GG} {M N : DD} {r d t : Nat} {f : Nat → Nat} {T : Nat} {S : SS} (h : RD G M r d t f T S) (h2 : N.2 = M.2) (h1 : ∀ x k, (x = r ∧ (k = 1 ∨ k = 2 ∨ k = 6 ∨ k = 8 ∨ k = 9)) ∨ x = d ∨ x = t → N.1 x k = M.1 x k) : RD G N r d t f T S := by
  obtain ⟨⟨a1, a2, a3, a4, a5, a6⟩, hf, hT, hb, ⟨s1, s2, s3, s4, s5⟩, s6, hpl, hm⟩ := h
  refine ⟨⟨a1, a2, by rw [h2]; exact a3, a4, a5, a6⟩, hf, by rw [h1 r 1 (by simp)]; exact hT, fun i hi => by rw [h1 d _ (by simp)]; exact hb i hi, ⟨by rw [h2]; exact s1, s2, s3, s4, fun i hi => by rw [h1 t i (by simp)]; exact s5 i hi⟩, s6, by rw [h1 r 2 (by simp)]; exact hpl, ?_⟩
  rw [h1 r 6 (by simp), h1 r 8 (by simp), h1 r 9 (by simp)]
  exact hm
theorem RE.by {G : GG} {M N : DD} {r el t : Nat} {S S' : SS} (h : RE G M r el t S) (h2 : N.2 = M.2) (h1 : N.1 r 12 = M.1 r 12) (h7 : N.1 r 7 = M.1 r 7) (hp : pos S ≤ pos S') (hs : S'.1 ≠ 0 → S.1 ≠ 0) : RE G N r el t S' := by
  obtain ⟨q1, q2, q3, q4, q5, q6, q7, q8⟩ := h
  exact ⟨by rw [h2]; exact q1, q2, q3, q4, q5, by rw [h1]; exact q6, by rw [h1]; omega, fun z => by rw [h7]; exact q8 (hs z)⟩
set_option maxHeartbeats 1000000 in
theorem record_ok {G : GG} {M : DD} {r d t el : Nat} {f : Nat → Nat} {T : Nat} {S0 S : SS} {p0 : Int32} (h : RD G M r d t f T S) (hE : RE G M r el t S0) (hd : el ≠ d) (hp : (¬ M.1 r 7 = 0 ∧ pos S0 ≤ pos S) ∨ pos S0 + 1 ≤ pos S) (hs : S.1 ≠ 0 → S0.1 ≠ 0) (hT6 : pos S ≤ 600000) : OK (FX5_record G M r p0) (fun y => RD G y r d t f T S ∧ RE G y r el t S ∧ RY M r t el y) := by
  have e1 : (1 : Int32).toInt = 1 := rfl
  have e2 : (2 : Int32).toInt = 2 := rfl
  have e3 : (3 : Int32).toInt = 3 := rfl
  have e4000 : (4000 : Int32).toInt = 4000 := rfl
  obtain ⟨hdr, htr, hdt⟩ := h.lt
  have hE' := hE
  obtain ⟨q1, q2, q3, q4, q5, q6, q7, q8⟩ := hE
  have her : el ≠ r := fun e => by
    have := h.1.2.1
    rw [← e] at this
    omega
  unfold FX5_record
  refine ok_lt (ok_lt (ok_lt ?_))
  have hin : (uI M r 5 (M.1 r 4)).1 r 7 = M.1 r 7 := by simp [uI]
  rw [hin]
  have hRD5 : RD G (uI M r 5 (M.1 r 4)) r d t f T S := h.by rfl (fun x k hx => uI_n _ _ (fun q => by
    rcases hx with ⟨-, z | z | z | z | z⟩ | z | z
    · omega
    · omega
    · omega
    · omega
    · omega
    · exact hdr (z.symm.trans q.1)
    · exact htr (z.symm.trans q.1)))
  refine ok_if (fun c => ok_lt ?_) (fun c => ok_some ?_)
  · have hp2 : pos S0 + 1 ≤ pos S := hp.resolve_left (fun q => q.1 c)
    have h12 : (uI M r 5 (M.1 r 4)).1 r 12 = M.1 r 12 := by simp [uI]
    rw [h12]
    refine ok_bnd (Q := fun y : DD => y.2 = M.2 ∧ (∀ x k, x ≠ el → ¬ (x = r ∧ k = 5) → y.1 x k = M.1 x k)) ?_ (fun y6 h6 => ?_)
    · refine ok_if (fun c2 => ok_some ⟨rfl, fun x k _ hk => uI_n _ _ hk⟩) (fun c2 => ok_lt (ok_lt (ok_lt ?_)))
      have c3 : ¬ (4000 : Int32).toInt ≤ (M.1 r 12).toInt := fun q => c2 (pz_le.mpr q)
      have hx12 := pz_mulc (x := M.1 r 12) e3 (by omega) (by omega)
      refine ok_dr (b := el) q1 q2 q3 (ok_chk (pz_ix (by omega) (by omega)) (ok_lt (ok_lt ?_)))
      have hc2 : ∀ v, (uI (uI M r 5 (M.1 r 4)) el ((3 : Int32) * M.1 r 12).toNatClampNeg v).1 r 12 = M.1 r 12 := fun v => by
        rw [uI_n _ _ (fun q => her q.1.symm), h12]
      rw [hc2]
      refine ok_lt (ok_lt (ok_lt (ok_lt (ok_lt (ok_dr (b := el) q1 q2 q3 (ok_chk (pz_ix ?_ ?_) (ok_lt (ok_lt ?_))))))))
      · rw [ti_add (by omega) (by omega)]; omega
      · rw [ti_add (by omega) (by omega)]; omega
      · have hc3 : ∀ k v w, (uI (uI (uI M r 5 (M.1 r 4)) el ((3 : Int32) * M.1 r 12).toNatClampNeg v) el k w).1 r 12 = M.1 r 12 := fun k v w => by
          rw [uI_n _ _ (fun q => her q.1.symm), hc2]
        rw [hc3]
        refine ok_lt (ok_lt (ok_dr (b := el) q1 q2 q3 (ok_chk (pz_ix ?_ ?_) (ok_lt (ok_some ⟨rfl, fun x k hx hk => ?_⟩)))))
        · rw [ti_add (by omega) (by omega)]; omega
        · rw [ti_add (by omega) (by omega)]; omega
        · rw [uI_n _ _ (fun q => hx q.1), uI_n _ _ (fun q => hx q.1), uI_n _ _ (fun q => hx q.1), uI_n _ _ hk]
    · obtain ⟨z1, z2⟩ := h6
      have h12b : y6.1 r 12 = M.1 r 12 := z2 r 12 (fun e => her e.symm) (by simp)
      refine ok_lt (ok_lt (ok_lt (ok_some ⟨?_, ?_, z1, fun x k h1 h2 h3 => ?_⟩)))
      · refine h.by z1 (fun x k hx => ?_)
        have hxe : x ≠ el := fun e => by
          rcases hx with ⟨z, -⟩ | z | z
          · exact her (e.symm.trans z)
          · exact hd (e.symm.trans z)
          · exact q5 (e.symm.trans z)
        have h9 : ¬ (x = r ∧ k = 12) := fun q => by
          rcases hx with ⟨-, z | z | z | z | z⟩ | z | z
          · omega
          · omega
          · omega
          · omega
          · omega
          · exact hdr (z.symm.trans q.1)
          · exact htr (z.symm.trans q.1)
        rw [uI_n _ _ h9]
        refine z2 x k hxe (fun q => ?_)
        rcases hx with ⟨-, z | z | z | z | z⟩ | z | z
        · omega
        · omega
        · omega
        · omega
        · omega
        · exact hdr (z.symm.trans q.1)
        · exact htr (z.symm.trans q.1)
      · refine ⟨by show y6.2 r 11 = _; rw [z1]; exact q1, q2, q3, q4, q5, ?_, ?_, fun z => ?_⟩
        · rw [uI_s, h12b, ti_add (by omega) (by omega)]; omega
        · rw [uI_s, h12b, ti_add (by omega) (by omega)]; omega
        · rw [uI_n _ _ (by simp), z2 r 7 (fun e => her e.symm) (by simp)]
          exact q8 (hs z)
      · rw [uI_n _ _ (fun q => h3 ⟨q.1, by simp [q.2]⟩)]
        exact z2 x k h2 (fun q => h3 ⟨q.1, by simp [q.2]⟩)
  · exact ⟨hRD5, hE'.by rfl (by simp [uI]) hin (by omega) hs, rfl, fun x k h1 h2 h3 => uI_n _ _ (fun q => h3 ⟨q.1, by simp [q.2]⟩)⟩
theorem pos_dec {S : SS} {i b : Nat} (h : S.1 = 0 ∨ S.1 = 1) : pos S ≤ pos (nxt (0, i, b) S) := (pos_nxt (0, i, b) S).resolve_right (fun q => q.2.1 rfl)
/-- pieces of a number's bits, from the j-th on -/
def tkr (e V n : Nat) : Nat → List Tok
  | 0 => []
  | k + 1 => tokj e V n (n - (k + 1)) :: tkr e V n k
theorem tkr_r (e V n : Nat) : ∀ k, k ≤ n → tkr e V n k = (List.range' (n - k) k).map (tokj e V n) := by
  intro k
  induction k with
  | zero => intro _; rfl
  | succ k ih =>
    intro h
    show tokj e V n (n - (k + 1)) :: tkr e V n k = _
    rw [ih (by omega), List.range'_succ, List.map_cons, show n - (k + 1) + 1 = n - k by omega]
theorem toks_r (e V n : Nat) : toks e V n = tkr e V n n := by
  rw [tkr_r e V n n (Nat.le_refl _), Nat.sub_self, ← List.range_eq_range']
  rfl
theorem runs_pos (e V n : Nat) : ∀ k S, (S.1 = 0 ∨ S.1 = 1) → pos S ≤ pos (runs (tkr e V n k) S) := by
  intro k
  induction k with
  | zero => intro S _; exact Nat.le_refl _
  | succ k ih =>
    intro S h
    refine Nat.le_trans (pos_dec h) (ih _ ?_)
    show (nxt (0, _, _) S).1 = 0 ∨ _
    unfold nxt
    rw [if_pos rfl]
    split
    · exact Or.inl rfl
    · exact Or.inr rfl
set_option maxHeartbeats 2000000 in
theorem fixed_ok {G : GG} {M : DD} {r d t el : Nat} {f : Nat → Nat} {T : Nat} {S : SS} {D : List Tok} {e V n : Nat} {p0 p1 : Int32} (h : RD G M r d t f T S) (hE : RE G M r el t S) (hd : el ≠ d) (hv : VT f T (toks e V n ++ D) S) (hp : pos (runs (toks e V n) S) ≤ 600000) (he : p0.toInt = e) (he2 : e ≤ 16) (hn : p1.toInt = n) (hn1 : 1 ≤ n) (hn2 : n ≤ 30) (hV : V < 2 ^ n) : OK (FX5_fixed G M r p0 p1) (fun y => y.2.toInt = V ∧ RD G y.1 r d t f T (runs (toks e V n) S) ∧ RE G y.1 r el t (runs (toks e V n) S) ∧ VT f T D (runs (toks e V n) S) ∧ RY M r t el y.1) := by
  have e0 : (0 : Int32).toInt = 0 := rfl
  have e1 : (1 : Int32).toInt = 1 := rfl
  have hS : S.1 = 0 ∨ S.1 = 1 := by
    rcases h.2.2.2.2.2.2.2 with ⟨q, -⟩ | ⟨q, -⟩
    · exact Or.inl q
    · exact Or.inr q
  have hE' := hE
  obtain ⟨q1, q2, q3, q4, q5, q6, q7, q8⟩ := hE
  have her : el ≠ r := fun e => by
    have := h.1.2.1
    rw [← e] at this
    omega
  obtain ⟨hdr, htr, hdt⟩ := h.lt
  unfold FX5_fixed
  refine ok_lt (ok_lt ?_)
  rw [toks_r] at hv hp ⊢
  have hrk : ∀ k, k ≤ n → (runs ((List.range' 0 k).map (tokj e V n)) S).1 = S.1 ∧ pos S + (if S.1 = 0 then k else 0) ≤ pos (runs ((List.range' 0 k).map (tokj e V n)) S) := by
    intro k
    induction k with
    | zero => intro _; exact ⟨rfl, by split <;> exact Nat.le_refl _⟩
    | succ k ih =>
      intro hk
      obtain ⟨i1, i2⟩ := ih (by omega)
      rw [List.range'_concat, List.map_append, runs_app]
      generalize runs ((List.range' 0 k).map (tokj e V n)) S = S1 at i1 i2
      have hS1 : S1.1 = 0 ∨ S1.1 = 1 := by omega
      have hpd := pos_dec (i := 16 * e + (if k < 15 then k else 15)) (b := V / 2 ^ (n - 1 - k) % 2) hS1
      have hl : (List.map (tokj e V n) [0 + 1 * k]) = [tokj e V n k] := by
        rw [Nat.zero_add, Nat.one_mul]
        rfl
      rw [hl]
      show (nxt (0, 16 * e + (if k < 15 then k else 15), V / 2 ^ (n - 1 - k) % 2) S1).1 = S.1 ∧ _ ≤ pos (nxt (0, 16 * e + (if k < 15 then k else 15), V / 2 ^ (n - 1 - k) % 2) S1)
      unfold nxt at hpd ⊢
      rw [if_pos rfl] at hpd ⊢
      by_cases hz : S1.1 = 0
      · rw [if_pos hz] at hpd ⊢
        refine ⟨by dsimp only; omega, ?_⟩
        rw [if_pos (by omega)] at i2 ⊢
        unfold pos at i2 ⊢
        rw [if_pos hz] at i2
        rw [if_pos rfl]
        dsimp only
        omega
      · rw [if_neg hz] at hpd ⊢
        refine ⟨by dsimp only; omega, ?_⟩
        rw [if_neg (by omega)] at i2 ⊢
        omega
  have hR5 : ∀ v, RD G (uI M r 4 v) r d t f T S := fun v => h.by rfl (fun x k hx => uI_n _ _ (fun q => by
    rcases hx with ⟨-, z | z | z | z | z⟩ | z | z
    · omega
    · omega
    · omega
    · omega
    · omega
    · exact hdr (z.symm.trans q.1)
    · exact htr (z.symm.trans q.1)))
  refine ok_bnd (ok_itr (fun s : Int32 × Int32 × DD => ∃ j : Nat, s.2.1.toInt = j ∧ j ≤ n ∧ s.1.toInt = (V / 2 ^ (n - j) : Nat) ∧ RD G s.2.2 r d t f T (runs ((List.range' 0 j).map (tokj e V n)) S) ∧ VT f T (tkr e V n (n - j) ++ D) (runs ((List.range' 0 j).map (tokj e V n)) S) ∧ RX (uI M r 4 (M.1 r 2)) r t s.2.2) (fun s => ((n : Int) - s.2.1.toInt).toNat) (P := fun y : Int32 × Int32 × DD => y.1.toInt = V ∧ RD G y.2.2 r d t f T (runs (tkr e V n n) S) ∧ VT f T D (runs (tkr e V n n) S) ∧ RX (uI M r 4 (M.1 r 2)) r t y.2.2) ?_ 1000000 _ ?_ ?_) (fun y3 h3 => ?_)
  · intro s hs
    obtain ⟨w, k, N⟩ := s
    obtain ⟨j, j1, j2, j3, j4, j5, j6⟩ := hs
    dsimp only at j1 j3 j4 j6 ⊢
    refine ok_if (fun c => ok_some ?_) (fun c => ok_lt ?_)
    · have := pz_le.mp c
      have ej : j = n := by omega
      subst ej
      dsimp only
      rw [Nat.sub_self] at j3 j5
      rw [tkr_r e V j j (Nat.le_refl _), Nat.sub_self]
      refine ⟨by rw [j3]; simp, j4, j5, j6⟩
    · have c3 : ¬ p1.toInt ≤ k.toInt := fun q => c (pz_le.mpr q)
      have hjn : j < n := by omega
      rw [show n - j = (n - j - 1) + 1 by omega] at j5
      have htk : tkr e V n (n - j - 1 + 1) = (0, 16 * e + (if j < 15 then j else 15), V / 2 ^ (n - 1 - j) % 2) :: tkr e V n (n - j - 1) := by
        show tokj e V n (n - (n - j - 1 + 1)) :: _ = _
        rw [show n - (n - j - 1 + 1) = j by omega]
        rfl
      rw [htk] at j5
      refine ok_bnd (bit_ok j4 j5 he he2 j1) (fun y10 h10 => ok_lt (ok_lt (ok_some ?_)))
      obtain ⟨y1, y2⟩ := y10
      obtain ⟨z1, z2, z3, z4⟩ := h10
      dsimp only at z1 z2 z3 z4 ⊢
      have hb1 : V / 2 ^ (n - 1 - j) % 2 ≤ 1 := by omega
      have hwl : V / 2 ^ (n - j) < 2 ^ 29 := by
        have h1 : V < 2 ^ (n - j) * 2 ^ j := by
          rw [← Nat.pow_add, show n - j + j = n by omega]
          exact hV
        have h2 : V / 2 ^ (n - j) < 2 ^ j := (Nat.div_lt_iff_lt_mul (Nat.two_pow_pos _)).mpr (by rw [Nat.mul_comm]; exact h1)
        exact Nat.lt_of_lt_of_le h2 (Nat.pow_le_pow_right (by decide) (by omega))
      have hst : V / 2 ^ (n - (j + 1)) = 2 * (V / 2 ^ (n - j)) + V / 2 ^ (n - 1 - j) % 2 := by
        rw [show n - (j + 1) = n - 1 - j by omega, show n - j = (n - 1 - j) + 1 by omega, Nat.pow_succ, ← Nat.div_div_eq_div_mul]
        omega
      generalize V / 2 ^ (n - j) = W at j3 hwl hst
      generalize hB : V / 2 ^ (n - 1 - j) % 2 = B at z1 hb1 hst z2 z3
      have h29 : (2 : Nat) ^ 29 = 536870912 := rfl
      have hsh := pz_shl1 w (by omega) (by omega)
      have hor := pz_or1 (w <<< ((1 : Int32) &&& 31)) y2 (by omega) (by omega) (by omega) (by omega)
      have hrc : runs ((List.range' 0 (j + 1)).map (tokj e V n)) S = nxt (0, 16 * e + (if j < 15 then j else 15), B) (runs ((List.range' 0 j).map (tokj e V n)) S) := by
        rw [List.range'_concat, List.map_append, runs_app, Nat.zero_add, Nat.one_mul, ← hB]
        rfl
      have hk1 : (k + 1).toInt = j + 1 := by rw [ti_add (by omega) (by omega), j1, e1]
      rw [← hrc] at z2 z3
      rw [show n - j - 1 = n - (j + 1) by omega] at z3
      refine ⟨⟨j + 1, by rw [hk1]; omega, by omega, ?_, z2, z3, z4.1.trans j6.1, fun x k2 h1 h2 => (z4.2 x k2 h1 h2).trans (j6.2 x k2 h1 h2)⟩, by omega⟩
      rw [hor, hsh, j3, z1, hst]
      omega
  · refine ⟨0, rfl, Nat.zero_le _, ?_, hR5 _, ?_, rfl, fun _ _ _ _ => rfl⟩
    · rw [Nat.sub_zero, Nat.div_eq_of_lt hV]
      rfl
    · rw [Nat.sub_zero]
      exact hv
  · dsimp only
    omega
  · obtain ⟨y31, y32, N⟩ := y3
    obtain ⟨z1, z2, z3, z4⟩ := h3
    dsimp only at z1 z2 z4 ⊢
    have hfin := hrk n (Nat.le_refl _)
    have hee : (List.range' 0 n).map (tokj e V n) = tkr e V n n := by rw [tkr_r e V n n (Nat.le_refl _), Nat.sub_self]
    rw [hee] at hfin
    have hE2 : RE G N r el t S := hE'.by z4.1 ((z4.2 r 12 (fun q => htr q.symm) (by simp)).trans (uI_n _ _ (by simp))) ((z4.2 r 7 (fun q => htr q.symm) (by simp)).trans (uI_n _ _ (by simp))) (Nat.le_refl _) id
    have h7 : N.1 r 7 = M.1 r 7 := (z4.2 r 7 (fun q => htr q.symm) (by simp)).trans (uI_n _ _ (by simp))
    refine ok_bnd (record_ok (p0 := y31) z2 hE2 hd ?_ (by rw [hfin.1]; exact id) hp) (fun y6 h6 => ok_some ⟨z1, h6.1, h6.2.1, z3, ?_⟩)
    · rcases hS with q | q
      · right
        rw [if_pos q] at hfin
        omega
      · left
        rw [if_neg (by omega)] at hfin
        exact ⟨by rw [h7]; exact q8 (by omega), by omega⟩
    · refine RY.tr ?_ h6.2.2
      exact ⟨z4.1, fun x k h1 h2 h3 => (z4.2 x k h1 (fun q => h3 ⟨q.1, by rcases q.2 with z | z | z <;> simp [z]⟩)).trans (uI_n _ _ (fun q => h3 ⟨q.1, by simp [q.2]⟩))⟩
