/-! one LEVEL: cut, and read -/
theorem pz_shlv {x s : Int32} {n : Nat} (hs : s.toInt = n) (hn : n < 31) (h0 : 0 ≤ x.toInt) (h1 : x.toInt * ((2 ^ n : Nat) : Int) < 2147483648) : (x <<< (s &&& 31)).toInt = x.toInt * ((2 ^ n : Nat) : Int) := by
  have hb : (s &&& (31 : Int32)).toInt = n := by
    rw [pz_and31, hs]
    omega
  generalize s &&& (31 : Int32) = b at hb
  have hsm : (b.toBitVec.smod 32).toNat = n := by
    have h1 : (b.toBitVec.smod 32).toInt = n := by
      rw [BitVec.toInt_smod]
      have e : (32 : BitVec 32).toInt = 32 := by decide
      have eb : b.toBitVec.toInt = n := hb
      rw [e, eb, Int.fmod_eq_emod_of_nonneg _ (by decide)]
      omega
    have h2 := BitVec.toInt_eq_toNat_cond (b.toBitVec.smod 32)
    have := (b.toBitVec.smod 32).isLt
    rw [h1] at h2
    split at h2 <;> omega
  have h2 : (x <<< b).toBitVec.toNat = (x.toBitVec.toNat * 2 ^ n) % 4294967296 := by
    rw [Int32.toBitVec_shiftLeft]
    show (x.toBitVec <<< (b.toBitVec.smod 32).toNat).toNat = _
    rw [hsm, BitVec.toNat_shiftLeft, Nat.shiftLeft_eq]
  have h4 := pz_cond x
  have hl := x.toBitVec.isLt
  have hx : x.toInt = x.toBitVec.toNat := by
    split at h4 <;> omega
  rw [hx] at h1 ⊢
  have h1' : x.toBitVec.toNat * 2 ^ n < 2147483648 := by
    have : ((x.toBitVec.toNat * 2 ^ n : Nat) : Int) < 2147483648 := by
      rw [Int.natCast_mul]
      exact h1
    omega
  rw [Nat.mod_eq_of_lt (by omega)] at h2
  have h3 := pz_cond (x <<< b)
  rw [h2] at h3
  rw [h3, if_pos (by omega), Int.natCast_mul]
theorem pz_andv {x m : Int32} {k : Nat} (hm : m.toInt = ((2 ^ k - 1 : Nat) : Int)) (hk : k ≤ 20) (h0 : 0 ≤ x.toInt) : (x &&& m).toInt = x.toInt % ((2 ^ k : Nat) : Int) := by
  have hp := Nat.two_pow_pos k
  have hp2 : (2 : Nat) ^ k ≤ 2 ^ 20 := Nat.pow_le_pow_right (by decide) hk
  have hp3 : (2 : Nat) ^ 20 = 1048576 := rfl
  have h4 := pz_cond x
  have h5 := pz_cond m
  have l4 := x.toBitVec.isLt
  have l5 := m.toBitVec.isLt
  have hmn : m.toBitVec.toNat = 2 ^ k - 1 := by
    split at h5 <;> omega
  have h1 : (x &&& m).toBitVec.toNat = x.toBitVec.toNat % 2 ^ k := by
    rw [Int32.toBitVec_and, BitVec.toNat_and, hmn, Nat.and_two_pow_sub_one_eq_mod]
  have hx : x.toInt = x.toBitVec.toNat := by
    split at h4 <;> omega
  have hml : x.toBitVec.toNat % 2 ^ k < 2 ^ k := Nat.mod_lt _ hp
  have h2 := pz_cond (x &&& m)
  rw [h1] at h2
  rw [h2, if_pos (by omega), hx, Int.natCast_emod]
/-- what a LEVEL is as a number, before it is cut -/
def lvV (x : Int) (more : Nat) : Int := (if 0 < x then 2 * x - 2 else -2 * x - 1) - (if more = 0 then 0 else 2)
def lpf (s v : Nat) : Nat := if s = 0 then (if v < 14 then v else if v < 30 then 14 else 15) else if v < 15 * 2 ^ s then v / 2 ^ s else 15
def lsb (s v : Nat) : Nat := if s = 0 then (if v < 14 then 0 else if v < 30 then 4 else 12) else if v < 15 * 2 ^ s then s else 12
def lsf (s v : Nat) : Nat := if s = 0 then (if v < 14 then 0 else if v < 30 then v - 14 else v - 30) else if v < 15 * 2 ^ s then v % 2 ^ s else v - 15 * 2 ^ s
theorem lsf_b {s v : Nat} (hs : s ≤ 6) (hv : v < 4096) : lsf s v < 2 ^ lsb s v ∧ lpf s v ≤ 15 ∧ lsb s v ≤ 12 := by
  have hp := Nat.two_pow_pos s
  unfold lsf lsb lpf
  by_cases h0 : s = 0
  · rw [if_pos h0, if_pos h0, if_pos h0]
    by_cases h1 : v < 14
    · rw [if_pos h1, if_pos h1, if_pos h1]
      exact ⟨by decide, by omega, by decide⟩
    · rw [if_neg h1, if_neg h1, if_neg h1]
      by_cases h2 : v < 30
      · rw [if_pos h2, if_pos h2, if_pos h2]
        exact ⟨by show v - 14 < 16; omega, by decide, by decide⟩
      · rw [if_neg h2, if_neg h2, if_neg h2]
        exact ⟨by show v - 30 < 4096; omega, by decide, by decide⟩
  · rw [if_neg h0, if_neg h0, if_neg h0]
    by_cases h1 : v < 15 * 2 ^ s
    · rw [if_pos h1, if_pos h1, if_pos h1]
      refine ⟨Nat.mod_lt _ hp, ?_, by omega⟩
      have : v / 2 ^ s < 15 := (Nat.div_lt_iff_lt_mul hp).mpr h1
      omega
    · rw [if_neg h1, if_neg h1, if_neg h1]
      exact ⟨by show v - 15 * 2 ^ s < 4096; omega, by decide, by decide⟩
set_option maxHeartbeats 4000000 in
theorem cut_ok {G : GG} {M : DD} {a s v more : Nat} {p0 p1 p2 : Int32} (hs : p0.toInt = s) (hs6 : s ≤ 6) (hx0 : -2000 ≤ p1.toInt) (hx1 : p1.toInt ≤ 2000) (hm : p2.toInt = more) (hm1 : more ≤ 1) (hv : (v : Int) = lvV p1.toInt more) : OK (FX10_cut G M a p0 p1 p2) (fun y => y.2 = M.2 ∧ (y.1 a 17).toInt = lpf s v ∧ (y.1 a 18).toInt = lsf s v ∧ (y.1 a 19).toInt = lsb s v ∧ (∀ x k, ¬ (x = a ∧ (k = 17 ∨ k = 18 ∨ k = 19)) → y.1 x k = M.1 x k)) := by
  have e0 : (0 : Int32).toInt = 0 := rfl
  have e1 : (1 : Int32).toInt = 1 := rfl
  have e2 : (2 : Int32).toInt = 2 := rfl
  have em2 : (-2 : Int32).toInt = -2 := rfl
  have e4 : (4 : Int32).toInt = 4 := rfl
  have e12 : (12 : Int32).toInt = 12 := rfl
  have e14 : (14 : Int32).toInt = 14 := rfl
  have e15 : (15 : Int32).toInt = 15 := rfl
  have e30 : (30 : Int32).toInt = 30 := rfl
  have hp := Nat.two_pow_pos s
  have hp6 : (2 : Nat) ^ s ≤ 2 ^ 6 := Nat.pow_le_pow_right (by decide) hs6
  have hp64 : (2 : Nat) ^ 6 = 64 := rfl
  unfold lvV at hv
  unfold FX10_cut
  refine ok_bnd (Q := fun y : Int32 => y.toInt = (if 0 < p1.toInt then 2 * p1.toInt - 2 else -2 * p1.toInt - 1)) (ok_if (fun c => ok_lt (ok_lt (ok_some ?_))) (fun c => ok_lt (ok_lt (ok_some ?_)))) (fun y1 h1 => ?_)
  · have := pz_le.mp c
    have hq := pz_mulc (x := p1) em2 (by omega) (by omega)
    rw [ti_sub (by omega) (by omega), hq, if_neg (by omega)]
    omega
  · have : ¬ p1.toInt ≤ (0 : Int32).toInt := fun q => c (pz_le.mpr q)
    have hq := pz_mulc (x := p1) e2 (by omega) (by omega)
    rw [ti_sub (by omega) (by omega), hq, if_pos (by omega)]
    omega
  refine ok_bnd (Q := fun y : Int32 => y.toInt = (if more = 0 then 0 else 2)) (ok_if (fun c => ok_some ?_) (fun c => ok_some ?_)) (fun y2 h2 => ?_)
  · have := pz_eq.mp c
    rw [if_pos (by omega)]; exact e0
  · have : ¬ p2.toInt = (0 : Int32).toInt := fun q => c (pz_eq.mpr q)
    rw [if_neg (by omega)]; exact e2
  have hvb : v < 4096 := by
    split at hv <;> split at hv <;> omega
  have hx3 : (y1 - y2).toInt = v := by
    rw [ti_sub (by rw [h1, h2]; split <;> split <;> omega) (by rw [h1, h2]; split <;> split <;> omega), h1, h2, hv]
  refine ok_lt (ok_lt (ok_lt ?_))
  generalize y1 - y2 = x3 at hx3
  refine ok_bnd (Q := fun y : Int32 => y.toInt = ((if s = 0 then 30 else 15 * 2 ^ s : Nat) : Int)) (ok_if (fun c => ok_some ?_) (fun c => ok_lt (ok_some ?_))) (fun y6 h6 => ok_lt (ok_lt ?_))
  · have := pz_eq.mp c
    rw [if_pos (by omega)]; exact e30
  · have : ¬ p0.toInt = (0 : Int32).toInt := fun q => c (pz_eq.mpr q)
    rw [if_neg (by omega), pz_shlv hs (by omega) (by omega) (by rw [e15]; omega), e15, Int.natCast_mul]
    rfl
  have hx7 : (x3 - y6).toInt = (v : Int) - ((if s = 0 then 30 else 15 * 2 ^ s : Nat) : Int) := by
    have : (if s = 0 then 30 else 15 * 2 ^ s) ≤ 960 := by split <;> omega
    rw [ti_sub (by omega) (by omega), hx3, h6]
  generalize x3 - y6 = x7 at hx7
  have hM8 : (uI (uI (uI M a 17 15) a 19 12) a 18 x7).1 a 17 = 15 ∧ (uI (uI (uI M a 17 15) a 19 12) a 18 x7).1 a 18 = x7 ∧ (uI (uI (uI M a 17 15) a 19 12) a 18 x7).1 a 19 = 12 := by
    refine ⟨?_, ?_, ?_⟩ <;> simp [uI]
  have hM8o : ∀ x k, ¬ (x = a ∧ (k = 17 ∨ k = 18 ∨ k = 19)) → (uI (uI (uI M a 17 15) a 19 12) a 18 x7).1 x k = M.1 x k := fun x k hk => by
    rw [uI_n _ _ (fun q => hk ⟨q.1, by simp [q.2]⟩), uI_n _ _ (fun q => hk ⟨q.1, by simp [q.2]⟩), uI_n _ _ (fun q => hk ⟨q.1, by simp [q.2]⟩)]
  have hM8p : (uI (uI (uI M a 17 15) a 19 12) a 18 x7).2 = M.2 := rfl
  generalize uI (uI (uI M a 17 15) a 19 12) a 18 x7 = M8 at hM8 hM8o hM8p
  obtain ⟨m17, m18, m19⟩ := hM8
  refine ok_bnd (Q := fun y : DD => y.2 = M.2 ∧ (y.1 a 17).toInt = lpf s v ∧ (y.1 a 18).toInt = lsf s v ∧ (y.1 a 19).toInt = lsb s v ∧ (∀ x k, ¬ (x = a ∧ (k = 17 ∨ k = 18 ∨ k = 19)) → y.1 x k = M.1 x k)) (ok_if (fun c => ?_) (fun c => ?_)) (fun y9 h9 => ok_some h9)
  · have hs0 : s = 0 := by
      have := pz_eq.mp c
      omega
    unfold lpf lsf lsb
    rw [if_pos hs0] at hx7
    rw [if_pos hs0, if_pos hs0, if_pos hs0]
    refine ok_bi (ok_if (fun c2 => ok_bi (ok_if (fun _ => ok_some (ok_some (ok_some ?_))) (fun c3 => absurd (pz_le.mpr (by omega)) c3))) (fun c2 => ?_))
    · have := pz_le.mp c2
      rw [if_neg (by omega), if_neg (by omega), if_neg (by omega), if_neg (by omega), if_neg (by omega), if_neg (by omega)]
      exact ⟨hM8p, by rw [m17]; exact e15, by rw [m18, hx7]; omega, by rw [m19]; exact e12, hM8o⟩
    · have c3 : ¬ (30 : Int32).toInt ≤ x3.toInt := fun q => c2 (pz_le.mpr q)
      have hout : ∀ z1 z2 z3 x k, ¬ (x = a ∧ (k = 17 ∨ k = 18 ∨ k = 19)) → (uI (uI (uI M8 a 17 z1) a 19 z2) a 18 z3).1 x k = M.1 x k := fun z1 z2 z3 x k hk => by
        rw [uI_n _ _ (fun q => hk ⟨q.1, by simp [q.2]⟩), uI_n _ _ (fun q => hk ⟨q.1, by simp [q.2]⟩), uI_n _ _ (fun q => hk ⟨q.1, by simp [q.2]⟩)]
        exact hM8o x k hk
      by_cases hv14 : v < 14
      · have c4 : ¬ (14 : Int32) ≤ x3 := fun q => by have := pz_le.mp q; omega
        rw [if_neg c4, if_neg c4, if_neg c4, if_pos hv14, if_pos hv14, if_pos hv14]
        refine ok_bnd (Q := fun y : Int32 => y = x3) (ok_some rfl) (fun y37 h37 => ok_lt (ok_bnd (Q := fun y : Int32 => y = 0) (ok_some rfl) (fun y39 h39 => ok_lt (ok_bnd (Q := fun y : Int32 => y = 0) (ok_some rfl) (fun y41 h41 => ok_lt (ok_some (ok_some ?_)))))))
        subst h37
        subst h39
        subst h41
        refine ⟨hM8p, ?_, ?_, ?_, hout _ _ _⟩
        · rw [uI_n _ _ (by simp), uI_n _ _ (by simp), uI_s]; exact hx3
        · rw [uI_s]; exact e0
        · rw [uI_n _ _ (by simp), uI_s]; exact e0
      · have c4 : (14 : Int32) ≤ x3 := pz_le.mpr (by omega)
        rw [if_pos c4, if_pos c4, if_pos c4, if_neg hv14, if_neg hv14, if_neg hv14, if_pos (by omega), if_pos (by omega), if_pos (by omega)]
        refine ok_bnd (Q := fun y : Int32 => y = 14) (ok_some rfl) (fun y37 h37 => ok_lt (ok_bnd (Q := fun y : Int32 => y = 4) (ok_some rfl) (fun y39 h39 => ok_lt (ok_bnd (Q := fun y : Int32 => y = x3 - 14) (ok_lt (ok_some rfl)) (fun y41 h41 => ok_lt (ok_some (ok_some ?_)))))))
        subst h37
        subst h39
        subst h41
        refine ⟨hM8p, ?_, ?_, ?_, hout _ _ _⟩
        · rw [uI_n _ _ (by simp), uI_n _ _ (by simp), uI_s]; exact e14
        · rw [uI_s, ti_sub (by omega) (by omega), hx3, e14]; omega
        · rw [uI_n _ _ (by simp), uI_s]; exact e4
  · have hs0 : ¬ s = 0 := fun q => c (pz_eq.mpr (by omega))
    unfold lpf lsf lsb
    rw [if_neg hs0] at hx7
    rw [if_neg hs0, if_neg hs0, if_neg hs0]
    have hsh := pz_shlv (x := (15 : Int32)) hs (by omega) (by omega) (by rw [e15]; omega)
    rw [e15] at hsh
    refine ok_bi (ok_if (fun c2 => absurd (pz_le.mp c2) (by omega)) (fun _ => ok_lt (ok_bi (ok_if (fun c2 => ok_some (ok_some (ok_some ?_))) (fun c2 => ok_lt (ok_lt (ok_lt (ok_lt (ok_lt (ok_lt (ok_lt (ok_some (ok_some (ok_some ?_)))))))))))))) 
    · have := pz_le.mp c2
      rw [hsh, hx3] at this
      rw [if_neg (by omega), if_neg (by omega), if_neg (by omega)]
      exact ⟨hM8p, by rw [m17]; exact e15, by rw [m18, hx7]; omega, by rw [m19]; exact e12, hM8o⟩
    · have c3 : ¬ ((15 : Int32) <<< (p0 &&& 31)).toInt ≤ x3.toInt := fun q => c2 (pz_le.mpr q)
      rw [hsh, hx3] at c3
      rw [if_pos (by omega), if_pos (by omega), if_pos (by omega)]
      have h1s := pz_shlv (x := (1 : Int32)) hs (by omega) (by omega) (by rw [e1]; omega)
      rw [e1, Int.one_mul] at h1s
      have hmk : ((1 : Int32) <<< (p0 &&& 31) - (1 : Int32)).toInt = ((2 ^ s - 1 : Nat) : Int) := by
        rw [ti_sub (by omega) (by omega), h1s, e1]
        omega
      have han := pz_andv (x := x3) hmk (by omega) (by omega)
      have hsr := pz_sarv x3 p0 s hs (by omega)
      refine ⟨hM8p, ?_, ?_, ?_, fun x k hk => ?_⟩
      · rw [uI_n _ _ (by simp), uI_n _ _ (by simp), uI_s, hsr, hx3, ← Int.natCast_ediv]
      · rw [uI_s, han, hx3, ← Int.natCast_emod]
      · rw [uI_n _ _ (by simp), uI_s]; exact hs
      · rw [uI_n _ _ (fun q => hk ⟨q.1, by simp [q.2]⟩), uI_n _ _ (fun q => hk ⟨q.1, by simp [q.2]⟩), uI_n _ _ (fun q => hk ⟨q.1, by simp [q.2]⟩)]
        exact hM8o x k hk
