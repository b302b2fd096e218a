/-! the stream: what a row of bits says, piece by piece -/
/-- (0, i, b): a decision; (1, 0, b): END; (2, 0, _): ARITH begins; (3, i, _): ARITH begins, states at first -/
abbrev Tok : Type := Nat × Nat × Nat
/-- (0, q, A): plain from place q on, states kept; (1, p, A): ARITH that began at p -/
abbrev SS : Type := Nat × Nat × AS
def A0 (st : Nat → Nat) : AS := (0, 510, 0, st)
def Val (f : Nat → Nat) : List Tok → SS → Prop
  | [], S => S.1 = 0
  | (0, i, b) :: D, S => if S.1 = 0 then f S.2.1 = b ∧ Val f D (0, S.2.1 + 1, S.2.2) else b ≤ 1 ∧ Val f D (1, S.2.1, enc1 S.2.2 i b)
  | (1, _, b) :: D, S => S.1 ≠ 0 ∧ (if b = 0 then Val f D (1, S.2.1, ren (endd S.2.2)) else Cons f S.2.1 (S.2.2.1 + (S.2.2.2.1 - 2), 2, S.2.2.2.2) ∧ Val f D (0, S.2.1 + 9 + S.2.2.2.2.1, S.2.2))
  | (2, _, _) :: D, S => S.1 = 0 ∧ Val f D (1, S.2.1, A0 S.2.2.2.2.2)
  | (_, _, _) :: D, S => S.1 = 0 ∧ Val f D (1, S.2.1, A0 (fun _ => 0))
theorem val_cons {f : Nat → Nat} (hf : ∀ i, f i ≤ 1) : ∀ (D : List Tok) (S : SS), Val f D S → S.1 ≠ 0 → AOk S.2.2 → Cons f S.2.1 S.2.2 := by
  intro D
  induction D with
  | nil => intro S h h1; exact absurd h h1
  | cons t D ih =>
    intro S h h1 hA
    obtain ⟨k, i, b⟩ := t
    match k, h with
    | 0, h =>
      have h : (if S.1 = 0 then f S.2.1 = b ∧ Val f D (0, S.2.1 + 1, S.2.2) else b ≤ 1 ∧ Val f D (1, S.2.1, enc1 S.2.2 i b)) := h
      rw [if_neg h1] at h
      have := ih _ h.2 (Nat.succ_ne_zero 0) (ok_enc hA i h.1)
      exact (cons_enc hf hA this).1
    | 1, h =>
      have h : S.1 ≠ 0 ∧ (if b = 0 then Val f D (1, S.2.1, ren (endd S.2.2)) else Cons f S.2.1 (S.2.2.1 + (S.2.2.2.1 - 2), 2, S.2.2.2.2) ∧ Val f D (0, S.2.1 + 9 + S.2.2.2.2.1, S.2.2)) := h
      have h2 := h.2
      by_cases hb : b = 0
      · rw [if_pos hb] at h2
        exact (cons_endd hf hA (ih _ h2 (Nat.succ_ne_zero 0) (ok_endd hA))).1
      · rw [if_neg hb] at h2
        obtain ⟨h3, -⟩ := h2
        obtain ⟨a1, a2, -⟩ := hA
        unfold Cons at h3 ⊢
        dsimp only at h3
        omega
    | 2, h =>
      have h : S.1 = 0 ∧ Val f D (1, S.2.1, A0 S.2.2.2.2.2) := h
      exact absurd h.1 h1
    | k + 3, h =>
      have h : S.1 = 0 ∧ Val f D (1, S.2.1, A0 (fun _ => 0)) := h
      exact absurd h.1 h1
/-- the decisions of the lowest n bits of a number, as ELEMENT number e -/
def toks (e V n : Nat) : List Tok := (List.range n).map (fun j => (0, 16 * e + (if j < 15 then j else 15), V / 2 ^ (n - 1 - j) % 2))
theorem pz_and63 (x : Int64) : (x &&& (63 : Int64)).toInt = x.toInt % 64 := by
  have h1 : (x &&& (63 : Int64)).toBitVec.toNat = x.toBitVec.toNat % 64 := by
    rw [Int64.toBitVec_and, BitVec.toNat_and]
    exact Nat.and_two_pow_sub_one_eq_mod x.toBitVec.toNat 6
  have h2 : (x &&& (63 : Int64)).toInt = if 2 * (x &&& (63 : Int64)).toBitVec.toNat < 18446744073709551616 then ((x &&& (63 : Int64)).toBitVec.toNat : Int) else ((x &&& (63 : Int64)).toBitVec.toNat : Int) - 18446744073709551616 := BitVec.toInt_eq_toNat_cond (x &&& (63 : Int64)).toBitVec
  have h3 : x.toInt = if 2 * x.toBitVec.toNat < 18446744073709551616 then (x.toBitVec.toNat : Int) else (x.toBitVec.toNat : Int) - 18446744073709551616 := BitVec.toInt_eq_toNat_cond x.toBitVec
  have := x.toBitVec.isLt
  rw [h1] at h2
  rw [h2, h3]
  split <;> split <;> omega
theorem pz_sar64 (x b : Int64) (n : Nat) (hb : b.toInt = n) (hn : n < 64) : (x >>> b).toInt = x.toInt / ((2 ^ n : Nat) : Int) := by
  have hs : (b.toBitVec.smod 64).toNat = n := by
    have h1 : (b.toBitVec.smod 64).toInt = n := by
      rw [BitVec.toInt_smod]
      have e : (64 : BitVec 64).toInt = 64 := by decide
      have eb : b.toBitVec.toInt = n := hb
      rw [e, eb, Int.fmod_eq_emod_of_nonneg _ (by decide)]
      omega
    have h2 := BitVec.toInt_eq_toNat_cond (b.toBitVec.smod 64)
    have := (b.toBitVec.smod 64).isLt
    rw [h1] at h2
    split at h2 <;> omega
  show (x >>> b).toBitVec.toInt = x.toBitVec.toInt / ((2 ^ n : Nat) : Int)
  rw [Int64.toBitVec_shiftRight]
  unfold BitVec.sshiftRight'
  rw [hs, BitVec.toInt_sshiftRight, Int.shiftRight_eq_div_pow]
theorem pz_bit64 {v : Int64} {x : Int32} {V s : Nat} (hv : v.toInt = V) (hx : x.toInt = s) (hs : s < 64) : ((v >>> (x.toInt64 &&& 63)).toInt32 &&& (1 : Int32)).toInt = (V / 2 ^ s % 2 : Nat) := by
  have h1 : (x.toInt64 &&& (63 : Int64)).toInt = s := by
    rw [pz_and63, Int32.toInt_toInt64, hx]
    omega
  rw [pz_and1, Int64.toInt_toInt32, pz_sar64 v _ s h1 hs, hv]
  rw [← Int.natCast_ediv]
  generalize V / 2 ^ s = W
  simp only [Int.bmod_def]
  split <;> omega
