/-! the tokens of a row of LEVELS -/
def oneC : Nat → LV → Nat
  | 0, _ => 0
  | _ + 1, [] => 0
  | m + 1, q :: l => if q.1 = 1 ∨ q.1 = -1 then oneC m l + 1 else 0
def onesL (l : LV) : Nat := oneC 3 l
theorem oneC_b : ∀ (m : Nat) (l : LV), oneC m l ≤ m ∧ oneC m l ≤ l.length := by
  intro m
  induction m with
  | zero => intro l; exact ⟨Nat.zero_le _, Nat.zero_le _⟩
  | succ m ih =>
    intro l
    cases l with
    | nil => exact ⟨Nat.zero_le _, Nat.le_refl _⟩
    | cons q l =>
      show (if q.1 = 1 ∨ q.1 = -1 then oneC m l + 1 else 0) ≤ m + 1 ∧ (if q.1 = 1 ∨ q.1 = -1 then oneC m l + 1 else 0) ≤ l.length + 1
      have := ih l
      split <;> omega
/-- the first ones are 1 or -1, what stands behind fewer than three isn't -/
theorem oneC_at : ∀ (m : Nat) (l : LV), (∀ j q, j < oneC m l → l[j]? = some q → q.1 = 1 ∨ q.1 = -1) ∧ (∀ q, oneC m l < m → l[oneC m l]? = some q → ¬ (q.1 = 1 ∨ q.1 = -1)) := by
  intro m
  induction m with
  | zero => intro l; exact ⟨fun j q h => by simp [oneC] at h, fun q h => by simp [oneC] at h⟩
  | succ m ih =>
    intro l
    cases l with
    | nil => exact ⟨fun j q _ h => by simp at h, fun q _ h => by simp at h⟩
    | cons p l =>
      obtain ⟨i1, i2⟩ := ih l
      by_cases hp : p.1 = 1 ∨ p.1 = -1
      · have e : oneC (m + 1) (p :: l) = oneC m l + 1 := if_pos hp
        rw [e]
        refine ⟨fun j q h hj => ?_, fun q h hj => ?_⟩
        · cases j with
          | zero =>
            have : p = q := by simpa using hj
            rw [← this]; exact hp
          | succ j => exact i1 j q (by omega) (by simpa using hj)
        · exact i2 q (by omega) (by simpa using hj)
      · have e : oneC (m + 1) (p :: l) = 0 := if_neg hp
        rw [e]
        refine ⟨fun j q h => by omega, fun q _ hj => ?_⟩
        have : p = q := by simpa using hj
        rw [← this]; exact hp
theorem oneC_u {m k : Nat} {l : LV} (hk : k ≤ m) (h1 : ∀ j q, j < k → l[j]? = some q → q.1 = 1 ∨ q.1 = -1) (hl : k ≤ l.length) (h2 : k = m ∨ k = l.length ∨ ∃ q, l[k]? = some q ∧ ¬ (q.1 = 1 ∨ q.1 = -1)) : oneC m l = k := by
  obtain ⟨b1, b2⟩ := oneC_b m l
  obtain ⟨a1, a2⟩ := oneC_at m l
  by_cases h : oneC m l < k
  · exfalso
    have hlt : oneC m l < l.length := by omega
    exact a2 _ (by omega) (List.getElem?_eq_getElem hlt) (h1 _ _ h (List.getElem?_eq_getElem hlt))
  · by_cases h3 : k < oneC m l
    · exfalso
      rcases h2 with q | q | ⟨q, q1, q2⟩
      · omega
      · omega
      · exact q2 (a1 k q h3 q1)
    · omega
theorem abs32 {x : Int32} (h0 : -2147483647 ≤ x.toInt) : (if (0 : Int32) ≤ x then x else 0 - x).toInt = x.toInt.natAbs := by
  have e0 : (0 : Int32).toInt = 0 := rfl
  have hl := Int32.toInt_lt x
  by_cases h : (0 : Int32) ≤ x
  · rw [if_pos h]
    have := pz_le.mp h
    omega
  · rw [if_neg h]
    have : ¬ (0 : Int32).toInt ≤ x.toInt := fun q => h (pz_le.mpr q)
    rw [ti_sub (by omega) (by omega), e0]
    omega
set_option maxHeartbeats 2000000 in
theorem countOnes_ok {G : GG} {M : DD} {a sz bf : Nat} {l : LV} {p0 : Int32} (ha : M.2 a 14 = some sz ∧ sz < G.1 ∧ G.2.1 sz = 13 ∧ G.2.2 sz = 16) (hl : LH M sz bf l) (hl16 : l.length ≤ 16) (hp : p0.toInt = l.length) : OK (FX10_countOnes G M a p0) (fun y => y.1 = M ∧ y.2.toInt = onesL l) := by
  have e0 : (0 : Int32).toInt = 0 := rfl
  have e1 : (1 : Int32).toInt = 1 := rfl
  have e3 : (3 : Int32).toInt = 3 := rfl
  obtain ⟨a1, a2, a3, a4⟩ := ha
  unfold FX10_countOnes
  refine ok_bnd (ok_itr (fun s : Int32 × DD => ∃ k : Nat, s.1.toInt = k ∧ k ≤ 3 ∧ k ≤ l.length ∧ (∀ j q, j < k → l[j]? = some q → q.1 = 1 ∨ q.1 = -1) ∧ s.2 = M) (fun s => (3 - s.1.toInt).toNat) (P := fun y : Int32 × DD => y.2 = M ∧ y.1.toInt = onesL l) ?_ 1000000 _ ?_ ?_) (fun y1 h1 => ok_some h1)
  · intro s hs
    obtain ⟨x, N⟩ := s
    obtain ⟨k, k1, k2, k3, k4, k5⟩ := hs
    dsimp only at k1 k5 ⊢
    subst k5
    refine ok_if (fun c => ok_some ?_) (fun c => ok_if (fun c2 => ok_some ?_) (fun c2 => ?_))
    · have := pz_le.mp c
      exact ⟨rfl, by rw [k1]; unfold onesL; rw [oneC_u k2 k4 k3 (Or.inl (by omega))]⟩
    · have := pz_le.mp c2
      exact ⟨rfl, by rw [k1]; unfold onesL; rw [oneC_u k2 k4 k3 (Or.inr (Or.inl (by omega)))]⟩
    · have c3 : ¬ (3 : Int32).toInt ≤ x.toInt := fun q => c (pz_le.mpr q)
      have c4 : ¬ p0.toInt ≤ x.toInt := fun q => c2 (pz_le.mpr q)
      have hkl : k < l.length := by omega
      have hxn : x.toNatClampNeg = k := by
        have := pz_nat (x := x) (by omega)
        omega
      obtain ⟨s1, s2⟩ := hl k l[k] (List.getElem?_eq_getElem hkl)
      refine ok_dr (b := sz) a1 a2 a3 (ok_chk (pz_ix (by omega) (by omega)) (ok_lt (ok_lt ?_)))
      rw [hxn]
      refine ok_if (fun c5 => ok_lt (ok_some ?_)) (fun c5 => ok_some ?_)
      · have hk1 : (x + 1).toInt = k + 1 := by rw [ti_add (by omega) (by omega), k1, e1]
        have h5 := pz_eq.mp c5
        have hlow : -2147483647 ≤ (N.1 sz k).toInt := by
          by_cases q : (0 : Int32) ≤ N.1 sz k
          · have := pz_le.mp q; omega
          · rw [if_neg q] at h5
            have q2 : ¬ (0 : Int32).toInt ≤ (N.1 sz k).toInt := fun z => q (pz_le.mpr z)
            have hge := Int32.le_toInt (N.1 sz k)
            by_cases q3 : (N.1 sz k).toInt = -2147483648
            · exfalso
              have : N.1 sz k = (-2147483648 : Int32) := pz_eq.mpr (by rw [q3]; rfl)
              rw [this] at h5
              exact absurd h5 (by decide)
            · omega
        rw [abs32 hlow] at h5
        dsimp only
        refine ⟨⟨k + 1, by rw [hk1]; omega, by omega, by omega, fun j q hj hq => ?_, rfl⟩, by omega⟩
        by_cases hjk : j = k
        · rw [hjk, List.getElem?_eq_getElem hkl] at hq
          have : l[k] = q := by simpa using hq
          rw [← this]
          omega
        · exact k4 j q (by omega) hq
      · refine ⟨rfl, ?_⟩
        rw [k1]
        unfold onesL
        rw [oneC_u k2 k4 k3 (Or.inr (Or.inr ⟨l[k], List.getElem?_eq_getElem hkl, fun h => c5 (pz_eq.mpr ?_)⟩))]
        rw [abs32 (by rcases h with h | h <;> omega)]
        rcases h with h | h <;> omega
  · exact ⟨0, e0, by decide, Nat.zero_le _, fun j q hj => by omega, rfl⟩
  · dsimp only
    omega
def nxs (s : Nat) (x : Int) : Nat := if 6 ≤ (if s = 0 then 1 else s) then (if s = 0 then 1 else s) else if x.natAbs ≤ 3 * 2 ^ ((if s = 0 then 1 else s) - 1) then (if s = 0 then 1 else s) else (if s = 0 then 1 else s) + 1
def mor (ones i : Nat) : Nat := if i = ones then (if ones < 3 then 1 else 0) else 0
def szT (ones : Nat) : Nat → Nat → LV → List Tok
  | _, _, [] => []
  | i, s, q :: l => if i < ones then toks 12 (if q.1 < 0 then 1 else 0) 1 ++ szT ones (i + 1) s l else oneT s (lvV q.1 (mor ones i)).toNat ++ szT ones (i + 1) (nxs s q.1) l
def rnT : Nat → LV → List Tok
  | z, q :: p :: l => if z = 0 then [] else toks 16 (cdV (21 + min z 7) q.2) (cdN (21 + min z 7) q.2) ++ rnT (z - q.2) (p :: l)
  | _, _ => []
def tkn (t ones : Nat) : Nat := if 3 ≤ t then 4 * t - 6 + ones else t * (t + 1) / 2 + ones
def tokT (tb : Nat) (l : LV) : List Tok := if tb = 3 then toks 11 (if l.length = 0 then 3 else 4 * (l.length - 1) + onesL l) 6 else toks 11 (cdV (if tb = 4 then 3 else tb) (tkn l.length (onesL l))) (cdN (if tb = 4 then 3 else tb) (tkn l.length (onesL l)))
def s0L (l : LV) : Nat := if 10 < l.length ∧ onesL l < 3 then 1 else 0
def zrT (n : Nat) (l : LV) : List Tok := if 0 < l.length ∧ l.length < n then toks 15 (cdV ((if n = 4 then 18 else 3) + l.length) (bsum l)) (cdN ((if n = 4 then 18 else 3) + l.length) (bsum l)) else []
def levT (tb n : Nat) (l : LV) : List Tok := tokT tb l ++ (szT (onesL l) 0 (s0L l) l ++ (zrT n l ++ rnT (bsum l) l))
