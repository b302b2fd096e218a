/-! LEVELS of a row: from the highest on, each with the zeros below it -/
abbrev LV : Type := List (Int × Nat)
def wd : LV → Nat
  | [] => 0
  | q :: l => q.2 + 1 + wd l
def exl : LV → Nat → Int
  | [], _ => 0
  | q :: l, k => if k = q.2 + wd l then q.1 else exl l k
def bsum : LV → Nat
  | [] => 0
  | q :: l => q.2 + bsum l
theorem wd_eq : ∀ l : LV, wd l = bsum l + l.length := by
  intro l
  induction l with
  | nil => rfl
  | cons q l ih =>
    show q.2 + 1 + wd l = q.2 + bsum l + (l.length + 1)
    omega
theorem exl_hi : ∀ (l : LV) (k : Nat), wd l ≤ k → exl l k = 0 := by
  intro l
  induction l with
  | nil => intro k _; rfl
  | cons q l ih =>
    intro k h
    have h : q.2 + 1 + wd l ≤ k := h
    show (if k = q.2 + wd l then q.1 else exl l k) = 0
    rw [if_neg (by omega)]
    exact ih k (by omega)
theorem wd_app : ∀ (l : LV) (q : Int × Nat), wd (l ++ [q]) = wd l + (q.2 + 1) := by
  intro l q
  induction l with
  | nil => show q.2 + 1 + 0 = 0 + (q.2 + 1); omega
  | cons p l ih =>
    show p.2 + 1 + wd (l ++ [q]) = p.2 + 1 + wd l + (q.2 + 1)
    omega
theorem exl_app : ∀ (l : LV) (q : Int × Nat) (k : Nat), exl (l ++ [q]) k = if k < q.2 + 1 then (if k = q.2 then q.1 else 0) else exl l (k - (q.2 + 1)) := by
  intro l q
  induction l with
  | nil =>
    intro k
    show (if k = q.2 + 0 then q.1 else 0) = if k < q.2 + 1 then (if k = q.2 then q.1 else 0) else 0
    by_cases h : k = q.2
    · rw [if_pos (by omega), if_pos (by omega), if_pos h]
    · rw [if_neg (by omega)]
      split <;> first | rfl | rw [if_neg h]
  | cons p l ih =>
    intro k
    show (if k = p.2 + wd (l ++ [q]) then p.1 else exl (l ++ [q]) k) = if k < q.2 + 1 then (if k = q.2 then q.1 else 0) else (if k - (q.2 + 1) = p.2 + wd l then p.1 else exl l (k - (q.2 + 1)))
    rw [wd_app, ih]
    by_cases h : k < q.2 + 1
    · rw [if_pos h, if_pos h, if_neg (by omega)]
    · rw [if_neg h, if_neg h]
      by_cases h2 : k = p.2 + (wd l + (q.2 + 1))
      · rw [if_pos h2, if_pos (by omega)]
      · rw [if_neg h2, if_neg (by omega)]
theorem bsum_app : ∀ (l : LV) (q : Int × Nat), bsum (l ++ [q]) = bsum l + q.2 := by
  intro l q
  induction l with
  | nil => show q.2 + 0 = 0 + q.2; omega
  | cons p l ih => show p.2 + bsum (l ++ [q]) = p.2 + bsum l + q.2; omega
/-- what the row holds from a place i on: the coder's list of it -/
def Row (c : Nat → Int) (n i : Nat) (l : LV) : Prop := wd l ≤ n - i ∧ (∀ k, k < n - i → c (i + k) = exl l k) ∧ (∀ q, q ∈ l → q.1 ≠ 0)
/-- how the writer's rows hold a list -/
def LH (M : DD) (sz bf : Nat) (l : LV) : Prop := ∀ (j : Nat) (q : Int × Nat), l[j]? = some q → (M.1 sz j).toInt = q.1 ∧ (M.1 bf j).toInt = q.2
