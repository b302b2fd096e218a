/-! bytes between marks -/
def emu : Nat → List Nat → List Nat
  | _, [] => []
  | z, x :: xs => if 2 ≤ z ∧ x < 4 then 3 :: x :: emu (if x = 0 then 1 else 0) xs else x :: emu (if x = 0 then z + 1 else 0) xs
def dem : Nat → List Nat → List Nat
  | _, [] => []
  | z, x :: xs => if z < 2 then x :: dem (if x = 0 then z + 1 else 0) xs else if x = 3 then dem 0 xs else x :: dem (if x = 0 then z + 1 else 0) xs
theorem dem_emu : ∀ (xs : List Nat) (z : Nat), dem z (emu z xs) = xs := by
  intro xs
  induction xs with
  | nil => intro z; rfl
  | cons x xs ih =>
    intro z
    by_cases h : 2 ≤ z ∧ x < 4
    · have e : emu z (x :: xs) = 3 :: x :: emu (if x = 0 then 1 else 0) xs := if_pos h
      rw [e]
      show (if z < 2 then _ else if 3 = 3 then dem 0 (x :: emu (if x = 0 then 1 else 0) xs) else _) = _
      rw [if_neg (by omega), if_pos rfl]
      show (if 0 < 2 then x :: dem (if x = 0 then 0 + 1 else 0) (emu (if x = 0 then 1 else 0) xs) else _) = _
      rw [if_pos (by decide), Nat.zero_add, ih]
    · have e : emu z (x :: xs) = x :: emu (if x = 0 then z + 1 else 0) xs := if_neg h
      rw [e]
      show (if z < 2 then x :: dem (if x = 0 then z + 1 else 0) (emu (if x = 0 then z + 1 else 0) xs) else if x = 3 then _ else x :: dem (if x = 0 then z + 1 else 0) (emu (if x = 0 then z + 1 else 0) xs)) = _
      rw [ih]
      by_cases h2 : z < 2
      · rw [if_pos h2]
      · rw [if_neg h2, if_neg (by omega)]
def nm : Nat → List Nat → Prop
  | _, [] => True
  | z, x :: xs => (2 ≤ z → 3 ≤ x) ∧ nm (if x = 0 then z + 1 else 0) xs
theorem nm_emu : ∀ (xs : List Nat) (z : Nat), nm z (emu z xs) := by
  intro xs
  induction xs with
  | nil => intro z; exact True.intro
  | cons x xs ih =>
    intro z
    by_cases h : 2 ≤ z ∧ x < 4
    · have e : emu z (x :: xs) = 3 :: x :: emu (if x = 0 then 1 else 0) xs := if_pos h
      rw [e]
      refine ⟨fun _ => Nat.le_refl _, fun q => absurd q (by simp), ?_⟩
      exact ih _
    · have e : emu z (x :: xs) = x :: emu (if x = 0 then z + 1 else 0) xs := if_neg h
      rw [e]
      exact ⟨fun q => by omega, ih _⟩
theorem nm_at : ∀ (B : List Nat) (z i x : Nat), nm z B → B[i]? = some 0 → B[i + 1]? = some 0 → B[i + 2]? = some x → 3 ≤ x := by
  intro B
  induction B with
  | nil => intro z i x _ h; simp at h
  | cons b B ih =>
    intro z i x h h0 h1 h2
    cases i with
    | succ i => exact ih _ i x h.2 (by simpa using h0) (by simpa using h1) (by simpa using h2)
    | zero =>
      match B, h, h1, h2 with
      | c :: d :: B, h, h1, h2 =>
        have hb : b = 0 := by simpa using h0
        have hc : c = 0 := by simpa using h1
        have hd : d = x := by simpa using h2
        obtain ⟨-, -, h3, -⟩ := h
        rw [hb, hc] at h3
        rw [← hd]
        exact h3 (by simp)
theorem emu_len : ∀ (xs : List Nat) (z : Nat), 2 * (emu z xs).length ≤ 3 * xs.length + (if 2 ≤ z then 2 else z) := by
  intro xs
  induction xs with
  | nil => intro z; exact Nat.zero_le _
  | cons x xs ih =>
    intro z
    rw [List.length_cons]
    by_cases h : 2 ≤ z ∧ x < 4
    · have e : emu z (x :: xs) = 3 :: x :: emu (if x = 0 then 1 else 0) xs := if_pos h
      rw [e, List.length_cons, List.length_cons, if_pos h.1]
      by_cases hx : x = 0
      · rw [if_pos hx]
        have := ih 1
        rw [if_neg (by decide)] at this
        omega
      · rw [if_neg hx]
        have := ih 0
        rw [if_neg (by decide)] at this
        omega
    · have e : emu z (x :: xs) = x :: emu (if x = 0 then z + 1 else 0) xs := if_neg h
      rw [e, List.length_cons]
      by_cases hx : x = 0
      · rw [if_pos hx]
        have := ih (z + 1)
        split at this <;> split <;> omega
      · rw [if_neg hx]
        have := ih 0
        rw [if_neg (by decide)] at this
        omega
theorem emu_mem : ∀ (xs : List Nat) (z x : Nat), x ∈ emu z xs → x = 3 ∨ x ∈ xs := by
  intro xs
  induction xs with
  | nil => intro z x h; cases h
  | cons y xs ih =>
    intro z x h
    by_cases q : 2 ≤ z ∧ y < 4
    · have e : emu z (y :: xs) = 3 :: y :: emu (if y = 0 then 1 else 0) xs := if_pos q
      rw [e] at h
      rcases List.mem_cons.mp h with w | w
      · exact Or.inl w
      · rcases List.mem_cons.mp w with w | w
        · exact Or.inr (by rw [w]; exact List.mem_cons_self)
        · rcases ih _ _ w with w | w
          · exact Or.inl w
          · exact Or.inr (List.mem_cons_of_mem _ w)
    · have e : emu z (y :: xs) = y :: emu (if y = 0 then z + 1 else 0) xs := if_neg q
      rw [e] at h
      rcases List.mem_cons.mp h with w | w
      · exact Or.inr (by rw [w]; exact List.mem_cons_self)
      · rcases ih _ _ w with w | w
        · exact Or.inl w
        · exact Or.inr (List.mem_cons_of_mem _ w)
/-- behind xs, with z zeros ahead -/
def zer : Nat → List Nat → Nat
  | z, [] => z
  | z, x :: xs => zer (if 2 ≤ z ∧ x < 4 then (if x = 0 then 1 else 0) else (if x = 0 then z + 1 else 0)) xs
theorem emu_app : ∀ (xs ys : List Nat) (z : Nat), emu z (xs ++ ys) = emu z xs ++ emu (zer z xs) ys := by
  intro xs
  induction xs with
  | nil => intro ys z; rfl
  | cons x xs ih =>
    intro ys z
    by_cases h : 2 ≤ z ∧ x < 4
    · show (if 2 ≤ z ∧ x < 4 then 3 :: x :: emu (if x = 0 then 1 else 0) (xs ++ ys) else _) = (if 2 ≤ z ∧ x < 4 then 3 :: x :: emu (if x = 0 then 1 else 0) xs else _) ++ emu (zer (if 2 ≤ z ∧ x < 4 then _ else _) xs) ys
      rw [if_pos h, if_pos h, if_pos h, ih]
      rfl
    · show (if 2 ≤ z ∧ x < 4 then _ else x :: emu (if x = 0 then z + 1 else 0) (xs ++ ys)) = (if 2 ≤ z ∧ x < 4 then _ else x :: emu (if x = 0 then z + 1 else 0) xs) ++ emu (zer (if 2 ≤ z ∧ x < 4 then _ else _) xs) ys
      rw [if_neg h, if_neg h, if_neg h, ih]
      rfl
