/-! What endUnit made is a file of units -/
theorem mks_snoc (Es : List (List Nat)) (E : List Nat) : mks (Es ++ [E]) = mks Es ++ [0, 0, 0, 1] ++ E := by
  rw [mks_app]
  show mks Es ++ ([0, 0, 0, 1] ++ E ++ []) = _
  rw [List.append_nil, List.append_assoc]
theorem emu_ne : ∀ (xs : List Nat) (z : Nat), xs.length ≤ (emu z xs).length := by
  intro xs
  induction xs with
  | nil => intro z; exact Nat.le_refl _
  | cons x xs ih =>
    intro z
    by_cases c : 2 ≤ z ∧ x < 4
    · have e : emu z (x :: xs) = 3 :: x :: emu (if x = 0 then 1 else 0) xs := if_pos c
      rw [e]
      have := ih (if x = 0 then 1 else 0)
      simp only [List.length_cons]
      omega
    · have e : emu z (x :: xs) = x :: emu (if x = 0 then z + 1 else 0) xs := if_neg c
      rw [e]
      have := ih (if x = 0 then z + 1 else 0)
      simp only [List.length_cons]
      omega
theorem GE_emu {X : List Nat} (h1 : 1 ≤ X.length) (hl : ∀ x, X[X.length - 1]? = some x → x ≠ 0) : GE (emu 0 X) := by
  refine ⟨nm_emu X 0, Nat.le_trans h1 (emu_ne X 0), fun x hx => ?_⟩
  obtain ⟨y, hy⟩ : ∃ y, X[X.length - 1]? = some y := ⟨X[X.length - 1]'(by omega), by rw [List.getElem?_eq_getElem]⟩
  have := emu_last X 0 y hy
  rw [this] at hx
  injection hx with hx
  rw [← hx]
  exact hl y hy
theorem pv_pos {f : Nat → Nat} {p : Nat} : ∀ {n i : Nat}, i < n → 1 ≤ f (p + i) → 1 ≤ pv f p n := by
  intro n
  induction n with
  | zero => intro i h; omega
  | succ n ih =>
    intro i h hf
    show 1 ≤ 2 * pv f p n + f (p + n)
    by_cases q : i = n
    · rw [q] at hf; omega
    · have := ih (i := i) (by omega) hf
      omega
/-- a unit whose bits have their stop bit in its last byte -/
theorem GE_UB {c j P : Nat} {f : Nat → Nat} (h1 : 8 * (j - 1) ≤ P) (h2 : P < 8 * j) (hP : f P = 1) : GE (emu 0 (UB c f j)) := by
  refine GE_emu (by rw [UB_len]; omega) (fun x hx => ?_)
  rcases UB_get hx with ⟨q, -⟩ | ⟨k, q, q', q''⟩
  · rw [UB_len] at q; omega
  · rw [UB_len] at q
    have hk : k = j - 1 := by omega
    have := pv_pos (f := f) (p := 8 * k) (n := 8) (i := P - 8 * k) (by omega) (by rw [show 8 * k + (P - 8 * k) = P by omega, hP]; exact Nat.le_refl 1)
    omega
/-- the stop bit stands where it was put -/
theorem ET_stop {ff : Nat → Nat} {S : SS} {D : List Tok} (h0 : S.1 = 0) (h : Val ff (ET S.2.1 0 ++ D) S) : ff S.2.1 = 1 := by
  have e : ET S.2.1 0 = (0, 0, 1) :: fillT (S.2.1 + 1) 0 := if_pos rfl
  rw [e] at h
  have h : (if S.1 = 0 then ff S.2.1 = 1 ∧ Val ff (fillT (S.2.1 + 1) 0 ++ D) (0, S.2.1 + 1, S.2.2) else _) := h
  rw [if_pos h0] at h
  exact h.1
/-- the bits behind: 0 up to the byte -/
theorem fill_zero {f : Nat → Nat} {D : List Tok} {S : SS} (h0 : S.1 = 0) : ∀ (k : Nat), Val f (List.replicate k (0, 0, 0) ++ D) S → ∀ i, i < k → f (S.2.1 + i) = 0 := by
  intro k
  induction k generalizing S with
  | zero => intro _ i hi; omega
  | succ k ih =>
    intro h i hi
    have h : (if S.1 = 0 then f S.2.1 = 0 ∧ Val f (List.replicate k (0, 0, 0) ++ D) (0, S.2.1 + 1, S.2.2) else _) := h
    rw [if_pos h0] at h
    by_cases q : i = 0
    · rw [q]; exact h.1
    · have := ih (S := (0, S.2.1 + 1, S.2.2)) rfl h.2 (i - 1) (by omega)
      dsimp only at this
      rw [show S.2.1 + 1 + (i - 1) = S.2.1 + i by omega] at this
      exact this
