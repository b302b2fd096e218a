/-! the coder of decisions, in numbers: low (all its bits), range, shifts, states -/
def aL (s q : Nat) : Nat := ((sT 8).getD (4 * s + q) 0).toInt.toNat
def aD (s : Nat) : Nat := ((sT 7).getD s 0).toInt.toNat
def shn : Nat → Nat → Nat
  | 0, _ => 0
  | k + 1, r => if 256 ≤ r then 0 else shn k (2 * r) + 1
abbrev AS : Type := Nat × Nat × Nat × (Nat → Nat)
def nup (s : Nat) : Nat := if 62 ≤ s then 62 else s + 1
def stu (st : Nat → Nat) (i v : Nat) : Nat → Nat := fun j => if j = i then v else st j
def ren (A : AS) : AS := (A.1 * 2 ^ shn 9 A.2.1, A.2.1 * 2 ^ shn 9 A.2.1, A.2.2.1 + shn 9 A.2.1, A.2.2.2)
def bin (A : AS) (i b : Nat) : AS :=
  if b = A.2.2.2 i % 2 then (A.1, A.2.1 - aL (A.2.2.2 i / 2) (A.2.1 / 64 % 4), A.2.2.1, stu A.2.2.2 i (2 * nup (A.2.2.2 i / 2) + A.2.2.2 i % 2))
  else (A.1 + (A.2.1 - aL (A.2.2.2 i / 2) (A.2.1 / 64 % 4)), aL (A.2.2.2 i / 2) (A.2.1 / 64 % 4), A.2.2.1, stu A.2.2.2 i (2 * aD (A.2.2.2 i / 2) + (if A.2.2.2 i / 2 = 0 then b else A.2.2.2 i % 2)))
def enc1 (A : AS) (i b : Nat) : AS := ren (bin A i b)
/-- the END decision: 0 goes on -/
def endd (A : AS) : AS := (A.1, A.2.1 - 2, A.2.2.1, A.2.2.2)
def Cons (f : Nat → Nat) (p : Nat) (A : AS) : Prop := A.1 ≤ pv f p (9 + A.2.2.1) ∧ pv f p (9 + A.2.2.1) < A.1 + A.2.1
def AOk (A : AS) : Prop := 256 ≤ A.2.1 ∧ A.2.1 ≤ 510 ∧ (∀ i, A.2.2.2 i < 126) ∧ A.1 + A.2.1 ≤ 2 ^ (9 + A.2.2.1)
theorem aL_b : ∀ s, s < 64 → ∀ q, q < 4 → 2 ≤ aL s q ∧ aL s q + 128 ≤ 64 * (4 + q) ∧ aL s q ≤ 240 := by decide +kernel
theorem aD_b : ∀ s, s < 63 → aD s < 63 := by decide +kernel
theorem shn_b : ∀ r, r < 512 → 1 ≤ r → 256 ≤ r * 2 ^ shn 9 r ∧ r * 2 ^ shn 9 r < 512 ∧ shn 9 r ≤ 8 ∧ (r < 256 ∨ shn 9 r = 0) := by decide +kernel
theorem aL_r {A : AS} (h : AOk A) (i : Nat) : 2 ≤ aL (A.2.2.2 i / 2) (A.2.1 / 64 % 4) ∧ aL (A.2.2.2 i / 2) (A.2.1 / 64 % 4) + 128 ≤ A.2.1 ∧ aL (A.2.2.2 i / 2) (A.2.1 / 64 % 4) < 256 := by
  obtain ⟨h1, h2, h3, -⟩ := h
  have := h3 i
  obtain ⟨h4, h5, h6⟩ := aL_b (A.2.2.2 i / 2) (by omega) (A.2.1 / 64 % 4) (by omega)
  omega
theorem cons_ren {f : Nat → Nat} (hf : ∀ i, f i ≤ 1) {p : Nat} {A : AS} (h : Cons f p (ren A)) : Cons f p A := by
  obtain ⟨h1, h2⟩ := h
  simp only [ren] at h1 h2
  rw [← Nat.add_assoc, pv_add] at h1 h2
  have hw := pv_lt hf (p := p + (9 + A.2.2.1)) (shn 9 A.2.1)
  generalize pv f (p + (9 + A.2.2.1)) (shn 9 A.2.1) = w at *
  generalize hP : (2 : Nat) ^ shn 9 A.2.1 = P at *
  have hP0 : 0 < P := by rw [← hP]; exact Nat.two_pow_pos _
  constructor
  · have : A.1 * P < (pv f p (9 + A.2.2.1) + 1) * P := by rw [Nat.add_mul]; omega
    exact Nat.lt_succ_iff.mp (Nat.lt_of_mul_lt_mul_right this)
  · have : pv f p (9 + A.2.2.1) * P < (A.1 + A.2.1) * P := by rw [Nat.add_mul]; omega
    exact Nat.lt_of_mul_lt_mul_right this
theorem cons_bin {f : Nat → Nat} {p : Nat} {A : AS} {i b : Nat} (hA : AOk A) (h : Cons f p (bin A i b)) : Cons f p A ∧ (b = A.2.2.2 i % 2 ↔ pv f p (9 + A.2.2.1) < A.1 + (A.2.1 - aL (A.2.2.2 i / 2) (A.2.1 / 64 % 4))) := by
  obtain ⟨h4, h5, -⟩ := aL_r hA i
  unfold bin Cons at h
  unfold Cons
  by_cases hb : b = A.2.2.2 i % 2
  · simp only [hb, if_true] at h
    refine ⟨by omega, fun _ => by omega, fun _ => hb⟩
  · simp only [hb, if_false] at h
    refine ⟨by omega, fun q => absurd q hb, fun q => by omega⟩
theorem cons_enc {f : Nat → Nat} (hf : ∀ i, f i ≤ 1) {p : Nat} {A : AS} {i b : Nat} (hA : AOk A) (h : Cons f p (enc1 A i b)) : Cons f p A ∧ (b = A.2.2.2 i % 2 ↔ pv f p (9 + A.2.2.1) < A.1 + (A.2.1 - aL (A.2.2.2 i / 2) (A.2.1 / 64 % 4))) := cons_bin hA (cons_ren hf h)
theorem cons_endd {f : Nat → Nat} (hf : ∀ i, f i ≤ 1) {p : Nat} {A : AS} (hA : AOk A) (h : Cons f p (ren (endd A))) : Cons f p A ∧ pv f p (9 + A.2.2.1) < A.1 + (A.2.1 - 2) := by
  have h1 := cons_ren hf h
  unfold endd Cons at h1
  obtain ⟨h2, h3, -⟩ := hA
  unfold Cons
  dsimp only at h1
  omega
theorem ok_ren {A : AS} (h1 : 1 ≤ A.2.1) (h2 : A.2.1 ≤ 510) (h3 : ∀ i, A.2.2.2 i < 126) (h4 : A.1 + A.2.1 ≤ 2 ^ (9 + A.2.2.1)) : AOk (ren A) := by
  obtain ⟨q1, q2, q3, q4⟩ := shn_b A.2.1 (by omega) h1
  refine ⟨q1, ?_, h3, ?_⟩
  · show A.2.1 * 2 ^ shn 9 A.2.1 ≤ 510
    rcases q4 with q | q
    · have e : A.2.1 * 2 ^ shn 9 A.2.1 % 2 = 0 := by
        have : shn 9 A.2.1 ≠ 0 := by
          intro z
          rw [z] at q1
          omega
        obtain ⟨m, hm⟩ := Nat.exists_eq_succ_of_ne_zero this
        rw [hm, Nat.pow_succ, ← Nat.mul_assoc, Nat.mul_mod_left]
      omega
    · rw [q]
      omega
  · show A.1 * 2 ^ shn 9 A.2.1 + A.2.1 * 2 ^ shn 9 A.2.1 ≤ 2 ^ (9 + (A.2.2.1 + shn 9 A.2.1))
    rw [← Nat.add_mul, ← Nat.add_assoc, Nat.pow_add 2 (9 + A.2.2.1)]
    exact Nat.mul_le_mul_right _ h4
theorem ok_enc {A : AS} (hA : AOk A) (i : Nat) {b : Nat} (hb : b ≤ 1) : AOk (enc1 A i b) := by
  obtain ⟨h4, h5, h6⟩ := aL_r hA i
  obtain ⟨h1, h2, h3, h7⟩ := hA
  have hi := h3 i
  unfold enc1
  have hs : ∀ v, v < 126 → ∀ j, stu A.2.2.2 i v j < 126 := by
    intro v hv j
    unfold stu
    split
    · exact hv
    · exact h3 j
  unfold bin
  by_cases hq : b = A.2.2.2 i % 2
  · rw [if_pos hq]
    refine ok_ren (by dsimp only; omega) (by dsimp only; omega) (hs _ ?_) (by dsimp only; omega)
    unfold nup
    split <;> omega
  · rw [if_neg hq]
    refine ok_ren (by dsimp only; omega) (by dsimp only; omega) (hs _ ?_) (by dsimp only; omega)
    have := aD_b (A.2.2.2 i / 2) (by omega)
    split <;> omega
theorem ok_endd {A : AS} (hA : AOk A) : AOk (ren (endd A)) := by
  obtain ⟨h1, h2, h3, h7⟩ := hA
  exact ok_ren (by show 1 ≤ A.2.1 - 2; omega) (by show A.2.1 - 2 ≤ 510; omega) h3 (by show A.1 + (A.2.1 - 2) ≤ _; exact Nat.le_trans (by omega) h7)
/-! what stands in the unit, in what is owed and in low, together -/
def AW (f : Nat → Nat) (p k o fi low L n : Nat) : Prop := L = pv f p k * 2 ^ (10 + o) + 512 * (2 ^ o - 1) + low ∧ n + fi = k + o + 1 ∧ fi ≤ 1 ∧ (fi = 1 → k = 0)
