/-! Reader: plain bits, widen, END, ARITH's beginning -/
def RB (G : GG) (M : DD) (r d : Nat) (f : Nat → Nat) (T : Nat) : Prop :=
  (r < G.1 ∧ G.2.1 r = 5 ∧ M.2 r 0 = some d ∧ d < G.1 ∧ G.2.1 d = 12 ∧ T ≤ 8 * (G.2.2 d - 1) ∧ 1 ≤ G.2.2 d ∧ T ≤ 600000) ∧ (∀ i, f i ≤ 1) ∧ (M.1 r 1).toInt = T ∧ (∀ i, i < T → (M.1 d (1 + i / 8)).toInt / ((2 ^ (7 - i % 8) : Nat) : Int) % 2 = f i)
theorem RD.rb {G : GG} {M : DD} {r d t : Nat} {f : Nat → Nat} {T : Nat} {S : SS} (h : RD G M r d t f T S) : RB G M r d f T := ⟨h.1, h.2.1, h.2.2.1, h.2.2.2.1⟩
theorem RB.ne {G : GG} {M : DD} {r d : Nat} {f : Nat → Nat} {T : Nat} (h : RB G M r d f T) : d ≠ r := fun e => by
  have h1 := h.1.2.1
  have h2 := h.1.2.2.2.2.1
  rw [e] at h2
  omega
theorem RB.fld {G : GG} {M : DD} {r d : Nat} {f : Nat → Nat} {T : Nat} (h : RB G M r d f T) {k : Nat} (hk : k ≠ 1) (v : Int32) : RB G (uI M r k v) r d f T := by
  have hne := h.ne
  obtain ⟨h1, h2, h3, h4⟩ := h
  refine ⟨h1, h2, ?_, fun i hi => ?_⟩
  · rw [uI_n _ _ (fun q => hk q.2.symm)]; exact h3
  · rw [uI_n _ _ (fun q => hne q.1)]; exact h4 i hi
theorem plain_ok {G : GG} {M : DD} {r d : Nat} {f : Nat → Nat} {T i : Nat} (h : RB G M r d f T) (hi : (M.1 r 2).toInt = i) (hT : i < T) : OK (FX5_plainBit G M r) (fun y => y.1 = uI M r 2 (M.1 r 2 + 1) ∧ y.2.toInt = f i) := by
  have e1 : (1 : Int32).toInt = 1 := rfl
  have e7 : (7 : Int32).toInt = 7 := rfl
  obtain ⟨⟨a1, a2, a3, a4, a5, a6, a7, a8⟩, hf, hT1, hb⟩ := h
  unfold FX5_plainBit
  refine ok_lt (ok_lt (ok_bnd (Q := fun y : DD => y = M) (ok_if (fun _ => ok_some rfl) (fun c => absurd (pz_lt.mpr (by omega)) c)) (fun y3 h3 => ?_)))
  subst h3
  have h3 : (y3.1 r 2 >>> ((3 : Int32) &&& 31)).toInt = (i / 8 : Nat) := by
    rw [pz_sar3, hi]
    omega
  have h4 : ((1 : Int32) + (y3.1 r 2 >>> ((3 : Int32) &&& 31))).toInt = ((1 + i / 8 : Nat) : Int) := by
    rw [ti_add (by omega) (by omega), e1, h3]
    omega
  have h5 : ((1 : Int32) + (y3.1 r 2 >>> ((3 : Int32) &&& 31))).toNatClampNeg = 1 + i / 8 := by
    have := pz_nat (x := (1 : Int32) + (y3.1 r 2 >>> ((3 : Int32) &&& 31))) (by omega)
    omega
  refine ok_lt (ok_lt (ok_lt (ok_dr (b := d) a3 a4 a5 (ok_chk (pz_ix (by omega) (by omega)) (ok_lt (ok_lt (ok_lt (ok_lt (ok_lt (ok_lt (ok_lt (ok_lt (ok_lt (ok_some ⟨rfl, ?_⟩))))))))))))))
  rw [h5]
  have hxa : (y3.1 r 2 &&& (7 : Int32)).toInt = (i % 8 : Nat) := by
    rw [pz_and7, hi]
    omega
  have hs : ((7 : Int32) - (y3.1 r 2 &&& (7 : Int32))).toInt = ((7 - i % 8 : Nat) : Int) := by
    rw [ti_sub (by omega) (by omega), e7, hxa]
    omega
  rw [pz_and1, pz_sarv _ _ (7 - i % 8) hs (by omega)]
  exact hb i hT
set_option maxHeartbeats 4000000 in
theorem widenR_ok {G : GG} {M : DD} {r d p n R Lo : Nat} {f : Nat → Nat} {T : Nat} (h : RB G M r d f T) (h1 : 1 ≤ R) (h2 : R ≤ 510) (h8 : (M.1 r 8).toInt = R) (h9 : (M.1 r 9).toInt = (pv f p (9 + n) : Int) - Lo) (h90 : 0 ≤ (M.1 r 9).toInt) (h91 : (M.1 r 9).toInt < R) (hpl : (M.1 r 2).toInt = ((p + 9 + n : Nat) : Int)) (hT : p + 9 + n + shn 9 R ≤ T) : OK (FX5_widen G M r) (fun y => (y.1 r 8).toInt = (R * 2 ^ shn 9 R : Nat) ∧ (y.1 r 9).toInt = (pv f p (9 + n + shn 9 R) : Int) - (Lo * 2 ^ shn 9 R : Nat) ∧ (y.1 r 2).toInt = ((p + 9 + n + shn 9 R : Nat) : Int) ∧ (∀ x k, ¬ (x = r ∧ (k = 2 ∨ k = 8 ∨ k = 9)) → y.1 x k = M.1 x k) ∧ y.2 = M.2) := by
  have e0 : (0 : Int32).toInt = 0 := rfl
  have e1 : (1 : Int32).toInt = 1 := rfl
  have e9 : (9 : Int32).toInt = 9 := rfl
  have e256 : (256 : Int32).toInt = 256 := rfl
  obtain ⟨b1, b2, b3, b4⟩ := shn_b R (by omega) h1
  have hf := h.2.1
  have hdr := h.ne
  have hT6 : T ≤ 600000 := h.1.2.2.2.2.2.2.2
  unfold FX5_widen
  refine ok_bnd (ok_itr (fun s : Int32 × DD => ∃ jj : Nat, s.1.toInt = jj ∧ jj ≤ shn 9 R ∧ shn (9 - jj) (R * 2 ^ jj) + jj = shn 9 R ∧ (s.2.1 r 8).toInt = (R * 2 ^ jj : Nat) ∧ (s.2.1 r 9).toInt = (pv f p (9 + n + jj) : Int) - (Lo * 2 ^ jj : Nat) ∧ 0 ≤ (s.2.1 r 9).toInt ∧ (s.2.1 r 9).toInt < (R * 2 ^ jj : Nat) ∧ (s.2.1 r 2).toInt = ((p + 9 + n + jj : Nat) : Int) ∧ (∀ x k, ¬ (x = r ∧ (k = 2 ∨ k = 8 ∨ k = 9)) → s.2.1 x k = M.1 x k) ∧ s.2.2 = M.2) (fun s => (9 - s.1.toInt).toNat) (P := fun y : Int32 × DD => (y.2.1 r 8).toInt = (R * 2 ^ shn 9 R : Nat) ∧ (y.2.1 r 9).toInt = (pv f p (9 + n + shn 9 R) : Int) - (Lo * 2 ^ shn 9 R : Nat) ∧ (y.2.1 r 2).toInt = ((p + 9 + n + shn 9 R : Nat) : Int) ∧ (∀ x k, ¬ (x = r ∧ (k = 2 ∨ k = 8 ∨ k = 9)) → y.2.1 x k = M.1 x k) ∧ y.2.2 = M.2) ?_ 1000000 _ ?_ ?_) (fun y3 h3 => ok_some h3)
  · intro s hs
    obtain ⟨k, N⟩ := s
    obtain ⟨jj, q1, q2, q3, q5, q6, q7, q8, q9, q10, q11⟩ := hs
    dsimp only at q1 q5 q6 q7 q8 q9 q10 q11 ⊢
    refine ok_if (fun c => ?_) (fun c => ok_lt ?_)
    · have := pz_le.mp c
      exfalso
      omega
    · refine ok_if (fun c2 => ok_some ?_) (fun c2 => ok_lt (ok_lt ?_))
      · have hr := pz_le.mp c2
        have hz : shn (9 - jj) (R * 2 ^ jj) = 0 := shn_z _ _ (by omega)
        have ej : jj = shn 9 R := by omega
        dsimp only
        rw [← ej]
        exact ⟨q5, q6, q9, q10, q11⟩
      · have hR2 : R * 2 ^ jj < 256 := by
          have : ¬ (256 : Int32).toInt ≤ (N.1 r 8).toInt := fun q => c2 (pz_le.mpr q)
          omega
        have hs9 := shn_s (R * 2 ^ jj) (9 - jj - 1) hR2
        rw [show 9 - jj - 1 + 1 = 9 - jj by omega] at hs9
        have hRB : RB G N r d f T := by
          obtain ⟨⟨u1, u2, u3, u4⟩, v2, v3, v4⟩ := h
          exact ⟨⟨u1, u2, by rw [q11]; exact u3, u4⟩, v2, by rw [q10 r 1 (by simp)]; exact v3, fun i hi => by rw [q10 d _ (fun q => hdr q.1)]; exact v4 i hi⟩
        refine ok_bnd (plain_ok hRB q9 (by omega)) (fun y10 h10 => ?_)
        obtain ⟨y1, nb⟩ := y10
        obtain ⟨z1, hbit⟩ := h10
        dsimp only at z1 hbit ⊢
        subst z1
        have hfb := hf (p + 9 + n + jj)
        have h21 := pz_shl1 (N.1 r 9) (by omega) (by omega)
        have hor := pz_or1 (N.1 r 9 <<< ((1 : Int32) &&& 31)) nb (by omega) (by omega) (by omega) (by omega)
        refine ok_lt (ok_lt (ok_lt (ok_lt (ok_lt (ok_lt (ok_some ?_))))))
        generalize (N.1 r 9 <<< ((1 : Int32) &&& 31)) ||| nb = x11 at hor
        have k8 : (uI (uI N r 2 (N.1 r 2 + 1)) r 9 x11).1 r 8 = N.1 r 8 := by simp [uI]
        rw [k8]
        have h20 := pz_shl1 (N.1 r 8) (by omega) (by omega)
        generalize N.1 r 8 <<< ((1 : Int32) &&& 31) = x14 at h20
        have hk1 : (k + 1).toInt = jj + 1 := by rw [ti_add (by omega) (by omega), q1, e1]
        have hpe : pv f p (9 + n + (jj + 1)) = 2 * pv f p (9 + n + jj) + f (p + 9 + n + jj) := by
          show 2 * pv f p (9 + n + jj) + f (p + (9 + n + jj)) = _
          rw [show p + (9 + n + jj) = p + 9 + n + jj by omega]
        have f8 : (uI (uI (uI N r 2 (N.1 r 2 + 1)) r 9 x11) r 8 x14).1 r 8 = x14 := uI_s _ _ _ _
        have f9 : (uI (uI (uI N r 2 (N.1 r 2 + 1)) r 9 x11) r 8 x14).1 r 9 = x11 := by simp [uI]
        have f2 : (uI (uI (uI N r 2 (N.1 r 2 + 1)) r 9 x11) r 8 x14).1 r 2 = N.1 r 2 + 1 := by simp [uI]
        dsimp only
        rw [f8, f9, f2]
        refine ⟨⟨jj + 1, by rw [hk1]; omega, by omega, ?_, ?_, ?_, by omega, ?_, ?_, fun x k2 hk => ?_, q11⟩, by omega⟩
        · rw [show 9 - (jj + 1) = 9 - jj - 1 by omega, Nat.pow_succ, ← Nat.mul_assoc, Nat.mul_comm _ 2]
          omega
        · rw [h20, q5, Nat.pow_succ, ← Nat.mul_assoc]
          omega
        · rw [hor, h21, hpe, q6, Nat.pow_succ, ← Nat.mul_assoc, hbit]
          omega
        · rw [hor, h21, Nat.pow_succ, ← Nat.mul_assoc, hbit]
          omega
        · rw [ti_add (by omega) (by omega), e1]
          omega
        · rw [uI_n _ _ (fun q => hk ⟨q.1, Or.inr (Or.inl q.2)⟩), uI_n _ _ (fun q => hk ⟨q.1, Or.inr (Or.inr q.2)⟩), uI_n _ _ (fun q => hk ⟨q.1, Or.inl q.2⟩)]
          exact q10 x k2 hk
  · refine ⟨0, e0, Nat.zero_le _, by simp, by rw [h8]; simp, ?_, h90, by simp; omega, by rw [hpl]; rfl, fun _ _ _ => rfl, rfl⟩
    rw [h9, Nat.add_zero]
    simp
  · dsimp only
    omega
theorem VT.end0 {f : Nat → Nat} {T : Nat} {D : List Tok} {S : SS} (h : VT f T ((1, 0, 0) :: D) S) : VT f T D (1, S.2.1, ren (endd S.2.2)) ∧ S.1 ≠ 0 := by
  obtain ⟨h1, h2⟩ := h
  have h1 : S.1 ≠ 0 ∧ (if (0 : Nat) = 0 then Val f D (1, S.2.1, ren (endd S.2.2)) else _) := h1
  rw [if_pos rfl] at h1
  have hn : nxt (1, 0, 0) S = (1, S.2.1, ren (endd S.2.2)) := by
    unfold nxt
    rw [if_neg (by simp), if_pos rfl, if_pos rfl]
  have h2 : pos (runs D (nxt (1, 0, 0) S)) ≤ T := h2
  rw [hn] at h2
  exact ⟨⟨h1.2, h2⟩, h1.1⟩
theorem VT.end1 {f : Nat → Nat} {T : Nat} {D : List Tok} {S : SS} (h : VT f T ((1, 0, 1) :: D) S) : VT f T D (0, S.2.1 + 9 + S.2.2.2.2.1, S.2.2) ∧ S.1 ≠ 0 ∧ Cons f S.2.1 (S.2.2.1 + (S.2.2.2.1 - 2), 2, S.2.2.2.2) := by
  obtain ⟨h1, h2⟩ := h
  have h1 : S.1 ≠ 0 ∧ (if (1 : Nat) = 0 then _ else Cons f S.2.1 (S.2.2.1 + (S.2.2.2.1 - 2), 2, S.2.2.2.2) ∧ Val f D (0, S.2.1 + 9 + S.2.2.2.2.1, S.2.2)) := h1
  rw [if_neg (by decide)] at h1
  have hn : nxt (1, 0, 1) S = (0, S.2.1 + 9 + S.2.2.2.2.1, S.2.2) := by
    unfold nxt
    rw [if_neg (by simp), if_pos rfl, if_neg (by simp)]
  have h2 : pos (runs D (nxt (1, 0, 1) S)) ≤ T := h2
  rw [hn] at h2
  exact ⟨⟨h1.2.2, h2⟩, h1.1, h1.2.1⟩
