/-! Reader: number -/
theorem t64_cond (x : Int64) : x.toInt = if 2 * x.toBitVec.toNat < 18446744073709551616 then (x.toBitVec.toNat : Int) else (x.toBitVec.toNat : Int) - 18446744073709551616 := BitVec.toInt_eq_toNat_cond x.toBitVec
theorem t64_shl {x : Int64} {s : Int32} {n : Nat} (hs : s.toInt = n) (hn : n < 62) (h0 : 0 ≤ x.toInt) (h1 : x.toInt * ((2 ^ n : Nat) : Int) < 4611686018427387904) : (x <<< (s.toInt64 &&& 63)).toInt = x.toInt * ((2 ^ n : Nat) : Int) := by
  have hb : (s.toInt64 &&& (63 : Int64)).toInt = n := by
    rw [pz_and63, Int32.toInt_toInt64, hs]
    omega
  generalize s.toInt64 &&& (63 : Int64) = b at hb
  have hsm : (b.toBitVec.smod 64).toNat = n := by
    have h1 : (b.toBitVec.smod 64).toInt = n := by
      rw [BitVec.toInt_smod]
      have e : (64 : BitVec 64).toInt = 64 := by decide
      have eb : b.toBitVec.toInt = n := hb
      rw [e, eb, Int.fmod_eq_emod_of_nonneg _ (by decide)]
      omega
    have h2 := BitVec.toInt_eq_toNat_cond (b.toBitVec.smod 64)
    have := (b.toBitVec.smod 64).isLt
    rw [h1] at h2
    split at h2 <;> omega
  have h2 : (x <<< b).toBitVec.toNat = (x.toBitVec.toNat * 2 ^ n) % 18446744073709551616 := by
    rw [Int64.toBitVec_shiftLeft]
    show (x.toBitVec <<< (b.toBitVec.smod 64).toNat).toNat = _
    rw [hsm, BitVec.toNat_shiftLeft, Nat.shiftLeft_eq]
  have h4 := t64_cond x
  have hl := x.toBitVec.isLt
  have hx : x.toInt = x.toBitVec.toNat := by
    split at h4 <;> omega
  rw [hx] at h1 ⊢
  have h1' : x.toBitVec.toNat * 2 ^ n < 4611686018427387904 := by
    have : ((x.toBitVec.toNat * 2 ^ n : Nat) : Int) < 4611686018427387904 := by
      rw [Int.natCast_mul]
      exact h1
    omega
  rw [Nat.mod_eq_of_lt (by omega)] at h2
  have h3 := t64_cond (x <<< b)
  rw [h2] at h3
  rw [h3, if_pos (by omega), Int.natCast_mul]
theorem t64_or1 {x b : Int64} (h0 : 0 ≤ x.toInt) (hx : x.toInt % 2 = 0) (hb0 : 0 ≤ b.toInt) (hb1 : b.toInt ≤ 1) : (x ||| b).toInt = x.toInt + b.toInt := by
  have h4 := t64_cond x
  have h5 := t64_cond b
  have l4 := x.toBitVec.isLt
  have l5 := b.toBitVec.isLt
  have h2 : (x ||| b).toBitVec.toNat = x.toBitVec.toNat + b.toBitVec.toNat := by
    rw [Int64.toBitVec_or, BitVec.toNat_or]
    have e1 : x.toBitVec.toNat = 2 ^ 1 * (x.toBitVec.toNat / 2) := by
      split at h4 <;> omega
    have e2 : b.toBitVec.toNat < 2 ^ 1 := by
      split at h5 <;> omega
    rw [e1]
    have := Nat.two_pow_add_eq_or_of_lt e2 (x.toBitVec.toNat / 2)
    omega
  have h3 := t64_cond (x ||| b)
  rw [h2] at h3
  rw [h3]
  split at h4 <;> split at h5 <;> split <;> omega
theorem t64_and1 (x : Int64) : (x &&& (1 : Int64)).toInt = x.toInt % 2 := by
  have h1 : (x &&& (1 : Int64)).toBitVec.toNat = x.toBitVec.toNat % 2 := by
    rw [Int64.toBitVec_and, BitVec.toNat_and]
    exact Nat.and_two_pow_sub_one_eq_mod x.toBitVec.toNat 1
  have h2 := t64_cond (x &&& (1 : Int64))
  have h3 := t64_cond x
  have := x.toBitVec.isLt
  rw [h1] at h2
  rw [h2, h3]
  split <;> split <;> omega
theorem t64_half {x : Int64} (h0 : 0 ≤ x.toInt) : (x / (2 : Int64)).toInt = x.toInt / 2 := by
  have e2 : (2 : Int64).toInt = 2 := rfl
  have hl := Int64.toInt_lt x
  rw [Int64.toInt_div, e2, Int.tdiv_eq_ediv_of_nonneg h0]
  apply Int.bmod_eq_of_le
  · omega
  · omega
theorem t64_neg {x : Int64} (h0 : 0 ≤ x.toInt) : (-x).toInt = -x.toInt := by
  have hl := Int64.toInt_lt x
  rw [Int64.toInt_neg]
  apply Int.bmod_eq_of_le
  · omega
  · omega
/-- what a code by ue says: kind 1 by se -/
def numV (kind v : Nat) : Int := if kind = 1 then (if v % 2 = 1 then (((v + 1) / 2 : Nat) : Int) else -((v / 2 : Nat) : Int)) else (v : Int)
def ueread (G : GG) (M : DD) (a : Nat) (p0 : Int32) (p1 : Int32) : Option (Int64 × DD) :=
  bnd (itr (fun (s17 : Int32 × DD) => ((if ((32 : Int32)) ≤ s17.1 then (some (.inr (s17.1, s17.2))) else
  (bnd (FX5_bit G s17.2 a p0 s17.1) fun y49 =>
  if y49.2 = ((0 : Int32)) then (ltt (s17.1 + (1 : Int32)) fun x51 =>
  some (.inl (x51, y49.1))) else
  (some (.inr (s17.1, y49.1))))) : Option ((Int32 × DD) ⊕ (Int32 × DD)))) 1000000 ((0 : Int32), M)) fun (y16 : Int32 × DD) =>
  bnd (if y16.1 ≤ ((31 : Int32)) then (some (y16.2)) else
  (ltt (y16.2.1 a 4) fun x46 =>
  none)) fun (y19 : DD) =>
  bnd (itr (fun (s21 : Int64 × Int32 × DD) => ((if y16.1 ≤ s21.2.1 then (some (.inr (s21.1, s21.2.1, s21.2.2))) else
  (ltt (s21.1 <<< (((1 : Int32)).toInt64 &&& 63)) fun x38 =>
  ltt ((y16.1 + ((1 : Int32)))) fun x39 =>
  ltt ((x39 + s21.2.1)) fun x40 =>
  bnd (FX5_bit G s21.2.2 a p0 x40) fun y41 =>
  ltt (y41.2.toInt64) fun x42 =>
  ltt (x38 ||| x42) fun x43 =>
  ltt (s21.2.1 + (1 : Int32)) fun x44 =>
  some (.inl (x43, x44, y41.1)))) : Option ((Int64 × Int32 × DD) ⊕ (Int64 × Int32 × DD)))) 1000000 ((0 : Int64), (0 : Int32), y19)) fun (y20 : Int64 × Int32 × DD) =>
  ltt (((1 : Int64)) <<< (y16.1.toInt64 &&& 63)) fun x23 =>
  ltt (x23 - ((1 : Int64))) fun x24 =>
  ltt (x24 + y20.1) fun x25 =>
  bnd (if p1 = ((1 : Int32)) then (ltt (x25 &&& ((1 : Int64))) fun x28 =>
  ltt (lg_cmp x28 ((1 : Int64))) fun x29 =>
  bnd (if x29 = ((0 : Int32)) then (ltt (x25 + ((1 : Int64))) fun x34 =>
  chk (¬ ((2 : Int64)) = 0) <|
  ltt (x34 / ((2 : Int64))) fun x35 =>
  some (x35)) else
  (chk (¬ ((2 : Int64)) = 0) <|
  ltt (x25 / ((2 : Int64))) fun x32 =>
  ltt (-x32) fun x33 =>
  some (x33))) fun (y30 : Int64) =>
  some (y30)) else
  (some (x25))) fun (y26 : Int64) =>
  some (y26, y20.2.2)
theorem tkr_cons (e V n : Nat) {j : Nat} (h : j < n) : tkr e V n (n - j) = (0, 16 * e + (if j < 15 then j else 15), V / 2 ^ (n - 1 - j) % 2) :: tkr e V n (n - (j + 1)) := by
  rw [show n - j = (n - (j + 1)) + 1 by omega]
  show tokj e V n (n - (n - (j + 1) + 1)) :: _ = _
  rw [show n - (n - (j + 1) + 1) = j by omega]
  rfl
theorem runs_s (e V n j : Nat) (S : SS) : runs ((List.range' 0 (j + 1)).map (tokj e V n)) S = nxt (0, 16 * e + (if j < 15 then j else 15), V / 2 ^ (n - 1 - j) % 2) (runs ((List.range' 0 j).map (tokj e V n)) S) := by
  rw [List.range'_concat, List.map_append, runs_app, Nat.zero_add, Nat.one_mul]
  rfl
theorem runs_n (e V n : Nat) (S : SS) : runs ((List.range' 0 n).map (tokj e V n)) S = runs (toks e V n) S := by
  rw [toks_r, tkr_r e V n n (Nat.le_refl _), Nat.sub_self]
theorem ue_hi {v j : Nat} (h : j < lgv v) : (v + 1) / 2 ^ (2 * lgv v + 1 - 1 - j) % 2 = 0 := by
  have : (v + 1) / 2 ^ (2 * lgv v + 1 - 1 - j) = 0 := Nat.div_eq_of_lt (Nat.lt_of_lt_of_le (lgv_b v).2 (Nat.pow_le_pow_right (by decide) (by omega)))
  rw [this]
theorem ue_one (v : Nat) : (v + 1) / 2 ^ (2 * lgv v + 1 - 1 - lgv v) = 1 := by
  obtain ⟨h1, h2⟩ := lgv_b v
  rw [show 2 * lgv v + 1 - 1 - lgv v = lgv v by omega]
  rw [Nat.pow_succ] at h2
  exact Nat.div_eq_of_lt_le (by omega) (by omega)
set_option maxHeartbeats 4000000 in
theorem ueread_ok {G : GG} {M : DD} {r d t : Nat} {f : Nat → Nat} {T : Nat} {S : SS} {D : List Tok} {e v kind : Nat} {p0 p1 : Int32} (h : RD G M r d t f T S) (hv : VT f T (ueT e v ++ D) S) (he : p0.toInt = e) (he2 : e ≤ 16) (hv2 : v < 1000000000) (hk : p1.toInt = kind) : OK (ueread G M r p0 p1) (fun y => y.1.toInt = numV kind v ∧ RD G y.2 r d t f T (runs (ueT e v) S) ∧ VT f T D (runs (ueT e v) S) ∧ RX M r t y.2) := by
  have e0 : (0 : Int32).toInt = 0 := rfl
  have e1 : (1 : Int32).toInt = 1 := rfl
  have e31 : (31 : Int32).toInt = 31 := rfl
  have e32 : (32 : Int32).toInt = 32 := rfl
  have l0 : (0 : Int64).toInt = 0 := rfl
  have l1 : (1 : Int64).toInt = 1 := rfl
  have hlb := lgv_b v
  have hz30 : lgv v ≤ 29 := by
    have : lgv v < 30 := (Nat.pow_lt_pow_iff_right (by decide : 1 < 2)).mp (Nat.lt_of_le_of_lt hlb.1 (show v + 1 < 2 ^ 30 from by have : (2 : Nat) ^ 30 = 1073741824 := rfl; omega))
    omega
  unfold ueT at hv ⊢
  rw [toks_r] at hv
  unfold ueread
  refine ok_bnd (ok_itr (fun s : Int32 × DD => ∃ j : Nat, s.1.toInt = j ∧ j ≤ lgv v ∧ RD G s.2 r d t f T (runs ((List.range' 0 j).map (tokj e (v + 1) (2 * lgv v + 1))) S) ∧ VT f T (tkr e (v + 1) (2 * lgv v + 1) (2 * lgv v + 1 - j) ++ D) (runs ((List.range' 0 j).map (tokj e (v + 1) (2 * lgv v + 1))) S) ∧ RX M r t s.2) (fun s => (32 - s.1.toInt).toNat) (P := fun y : Int32 × DD => y.1.toInt = lgv v ∧ RD G y.2 r d t f T (runs ((List.range' 0 (lgv v + 1)).map (tokj e (v + 1) (2 * lgv v + 1))) S) ∧ VT f T (tkr e (v + 1) (2 * lgv v + 1) (2 * lgv v + 1 - (lgv v + 1)) ++ D) (runs ((List.range' 0 (lgv v + 1)).map (tokj e (v + 1) (2 * lgv v + 1))) S) ∧ RX M r t y.2) ?_ 1000000 _ ?_ ?_) (fun y16 h16 => ?_)
  · intro s hs
    obtain ⟨k, N⟩ := s
    obtain ⟨j, j1, j2, j3, j4, j5⟩ := hs
    dsimp only at j1 j3 j5 ⊢
    refine ok_if (fun c => ?_) (fun c => ?_)
    · have := pz_le.mp c
      exfalso
      omega
    · rw [tkr_cons e (v + 1) (2 * lgv v + 1) (by omega)] at j4
      refine ok_bnd (bit_ok j3 j4 he he2 j1) (fun y49 h49 => ?_)
      obtain ⟨y1, y2⟩ := y49
      obtain ⟨z1, z2, z3, z4⟩ := h49
      dsimp only at z1 z2 z3 z4 ⊢
      rw [← runs_s] at z2 z3
      have hfr : RX M r t y1 := ⟨z4.1.trans j5.1, fun x k2 h1 h2 => (z4.2 x k2 h1 h2).trans (j5.2 x k2 h1 h2)⟩
      refine ok_if (fun c2 => ok_lt (ok_some ?_)) (fun c2 => ok_some ?_)
      · have c3 := pz_eq.mp c2
        have hjl : j < lgv v := by
          by_cases q : j = lgv v
          · rw [q, ue_one] at z1
            omega
          · omega
        have hk1 : (k + 1).toInt = j + 1 := by rw [ti_add (by omega) (by omega), j1, e1]
        dsimp only
        exact ⟨⟨j + 1, by rw [hk1]; omega, by omega, z2, z3, hfr⟩, by omega⟩
      · have hjl : j = lgv v := by
          by_cases q : j < lgv v
          · rw [ue_hi q] at z1
            exact absurd (pz_eq.mpr (by rw [z1]; rfl)) c2
          · omega
        subst hjl
        dsimp only
        exact ⟨j1, z2, z3, hfr⟩
  · refine ⟨0, rfl, Nat.zero_le _, h, hv, rfl, fun _ _ _ _ => rfl⟩
  · dsimp only
    omega
  · obtain ⟨z, N⟩ := y16
    obtain ⟨n1, n2, n3, n4⟩ := h16
    dsimp only at n1 n2 n3 n4 ⊢
    refine ok_bnd (Q := fun y : DD => y = N) (ok_if (fun _ => ok_some rfl) (fun c => absurd (pz_le.mpr (by omega)) c)) (fun y19 h19 => ?_)
    subst h19
    refine ok_bnd (ok_itr (fun s : Int64 × Int32 × DD => ∃ j : Nat, s.2.1.toInt = j ∧ j ≤ lgv v ∧ s.1.toInt = ((v + 1) / 2 ^ (lgv v - j) : Nat) - (2 ^ j : Nat) ∧ 0 ≤ s.1.toInt ∧ s.1.toInt < (2 ^ j : Nat) ∧ RD G s.2.2 r d t f T (runs ((List.range' 0 (lgv v + 1 + j)).map (tokj e (v + 1) (2 * lgv v + 1))) S) ∧ VT f T (tkr e (v + 1) (2 * lgv v + 1) (2 * lgv v + 1 - (lgv v + 1 + j)) ++ D) (runs ((List.range' 0 (lgv v + 1 + j)).map (tokj e (v + 1) (2 * lgv v + 1))) S) ∧ RX M r t s.2.2) (fun s => (32 - s.2.1.toInt).toNat) (P := fun y : Int64 × Int32 × DD => y.1.toInt = (v + 1 : Int) - (2 ^ lgv v : Nat) ∧ RD G y.2.2 r d t f T (runs ((List.range' 0 (2 * lgv v + 1)).map (tokj e (v + 1) (2 * lgv v + 1))) S) ∧ VT f T D (runs ((List.range' 0 (2 * lgv v + 1)).map (tokj e (v + 1) (2 * lgv v + 1))) S) ∧ RX M r t y.2.2) ?_ 1000000 _ ?_ ?_) (fun y20 h20 => ?_)
    · intro s hs
      obtain ⟨w, k, N2⟩ := s
      obtain ⟨j, j1, j2, j3, j3a, j3b, j4, j5, j6⟩ := hs
      dsimp only at j1 j3 j3a j3b j4 j6 ⊢
      refine ok_if (fun c => ok_some ?_) (fun c => ok_lt (ok_lt (ok_lt ?_)))
      · have := pz_le.mp c
        have ej : j = lgv v := by omega
        subst ej
        dsimp only
        rw [show lgv v + 1 + lgv v = 2 * lgv v + 1 by omega] at j4 j5
        rw [Nat.sub_self] at j5
        refine ⟨?_, j4, j5, j6⟩
        rw [j3, Nat.sub_self]
        simp
      · have c3 : ¬ z.toInt ≤ k.toInt := fun q => c (pz_le.mpr q)
        have hjl : j < lgv v := by omega
        have hx40 : (z + (1 : Int32) + k).toInt = ((lgv v + 1 + j : Nat) : Int) := by
          rw [ti_add (by rw [ti_add (by omega) (by omega)]; omega) (by rw [ti_add (by omega) (by omega)]; omega), ti_add (by omega) (by omega)]
          omega
        rw [tkr_cons e (v + 1) (2 * lgv v + 1) (by omega)] at j5
        refine ok_bnd (bit_ok j4 j5 he he2 hx40) (fun y41 h41 => ok_lt (ok_lt (ok_lt (ok_some ?_))))
        obtain ⟨y1, y2⟩ := y41
        obtain ⟨z1, z2, z3, z4⟩ := h41
        dsimp only at z1 z2 z3 z4 ⊢
        rw [← runs_s] at z2 z3
        have hst : (v + 1) / 2 ^ (lgv v - (j + 1)) = 2 * ((v + 1) / 2 ^ (lgv v - j)) + (v + 1) / 2 ^ (2 * lgv v + 1 - 1 - (lgv v + 1 + j)) % 2 := by
          rw [show 2 * lgv v + 1 - 1 - (lgv v + 1 + j) = lgv v - (j + 1) by omega, show lgv v - j = (lgv v - (j + 1)) + 1 by omega, Nat.pow_succ 2 (lgv v - (j + 1)), ← Nat.div_div_eq_div_mul]
          omega
        have hb1 : (v + 1) / 2 ^ (2 * lgv v + 1 - 1 - (lgv v + 1 + j)) % 2 ≤ 1 := by omega
        generalize (v + 1) / 2 ^ (2 * lgv v + 1 - 1 - (lgv v + 1 + j)) % 2 = B at z1 hst hb1
        generalize (v + 1) / 2 ^ (lgv v - j) = W at j3 hst
        have hpj : (2 : Nat) ^ (j + 1) = 2 * 2 ^ j := by rw [Nat.pow_succ, Nat.mul_comm]
        have hpb : (2 : Nat) ^ j ≤ 2 ^ 30 := Nat.pow_le_pow_right (by decide) (by omega)
        have hp30 : (2 : Nat) ^ 30 = 1073741824 := rfl
        generalize hP : (2 : Nat) ^ j = P at j3 j3b hpj hpb
        have hsh := t64_shl (x := w) (s := (1 : Int32)) (n := 1) e1 (by decide) j3a (by omega)
        have hor := t64_or1 (x := w <<< ((1 : Int32).toInt64 &&& 63)) (b := y2.toInt64) (by omega) (by omega) (by rw [Int32.toInt_toInt64]; omega) (by rw [Int32.toInt_toInt64]; omega)
        rw [Int32.toInt_toInt64] at hor
        have hk1 : (k + 1).toInt = j + 1 := by rw [ti_add (by omega) (by omega), j1, e1]
        have hsh2 : (w <<< ((1 : Int32).toInt64 &&& 63)).toInt = 2 * w.toInt := by
          rw [hsh]
          show w.toInt * 2 = _
          omega
        refine ⟨⟨j + 1, by rw [hk1]; omega, by omega, ?_, by omega, ?_, z2, ?_, z4.1.trans j6.1, fun x k2 h1 h2 => (z4.2 x k2 h1 h2).trans (j6.2 x k2 h1 h2)⟩, by omega⟩
        · rw [hor, hsh2, hst, hpj]
          omega
        · rw [hor, hsh2, hpj]
          omega
        · exact z3
    · refine ⟨0, rfl, Nat.zero_le _, ?_, by rw [l0]; omega, by rw [l0]; simp, n2, n3, n4⟩
      have := ue_one v
      rw [show 2 * lgv v + 1 - 1 - lgv v = lgv v - 0 by omega] at this
      rw [this, l0]
      rfl
    · dsimp only
      omega
    · obtain ⟨w, k, N2⟩ := y20
      obtain ⟨m1, m2, m3, m4⟩ := h20
      rw [runs_n] at m2 m3
      dsimp only at m1 m2 m4 ⊢
      have hp30 : (2 : Nat) ^ lgv v ≤ 2 ^ 30 := Nat.pow_le_pow_right (by decide) (by omega)
      have hp31 : (2 : Nat) ^ 30 = 1073741824 := rfl
      have hsh := t64_shl (x := (1 : Int64)) (s := z) n1 (by omega) (by decide) (by rw [l1]; omega)
      rw [l1] at hsh
      generalize (2 : Nat) ^ lgv v = P at m1 hsh hp30 hlb
      have hx25 : ((1 : Int64) <<< (z.toInt64 &&& 63) - (1 : Int64) + w).toInt = v := by
        rw [t64_add (by rw [t64_sub (by omega) (by omega)]; omega) (by rw [t64_sub (by omega) (by omega)]; omega), t64_sub (by omega) (by omega), hsh, l1, m1]
        omega
      refine ok_lt (ok_lt (ok_lt ?_))
      generalize (1 : Int64) <<< (z.toInt64 &&& 63) - (1 : Int64) + w = x25 at hx25
      refine ok_bnd (Q := fun y : Int64 => y.toInt = numV kind v) ?_ (fun y26 h26 => ok_some ⟨h26, m2, m3, m4⟩)
      unfold numV
      refine ok_if (fun c => ok_lt (ok_lt (ok_bnd (Q := fun y : Int64 => y.toInt = (if v % 2 = 1 then (((v + 1) / 2 : Nat) : Int) else -((v / 2 : Nat) : Int))) ?_ (fun y30 h30 => ok_some ?_)))) (fun c => ok_some ?_)
      · have ha := t64_and1 x25
        refine ok_if (fun c2 => ok_lt (ok_chk (by decide) (ok_lt (ok_some ?_)))) (fun c2 => ok_chk (by decide) (ok_lt (ok_lt (ok_some ?_))))
        · have c3 := cmp_eq.mp c2
          have hx26 : (x25 + (1 : Int64)).toInt = v + 1 := by rw [t64_add (by omega) (by omega), hx25, l1]
          rw [t64_half (by omega), hx26, if_pos (by omega)]
          omega
        · have c3 : ¬ (x25 &&& (1 : Int64)).toInt = (1 : Int64).toInt := fun q => c2 (cmp_eq.mpr q)
          have hh : (x25 / (2 : Int64)).toInt = v / 2 := by rw [t64_half (by omega), hx25]
          rw [t64_neg (by omega), hh, if_neg (by omega)]
          omega
      · have := pz_eq.mp c
        rw [if_pos (by omega)]
        exact h30
      · have : ¬ p1.toInt = (1 : Int32).toInt := fun q => c (pz_eq.mpr q)
        rw [if_neg (by omega)]
        exact hx25
