/-! what is pure: a function of the printed ones comes to an answer with a property -/
def OK {α : Type} (o : Option α) (P : α → Prop) : Prop := ∃ y, o = some y ∧ P y
theorem OK.mono {α : Type} {o : Option α} {P Q : α → Prop} (h : OK o P) (hq : ∀ y, P y → Q y) : OK o Q := by
  obtain ⟨y, h1, h2⟩ := h
  exact ⟨y, h1, hq y h2⟩
theorem ok_some {α : Type} {x : α} {P : α → Prop} (h : P x) : OK (some x) P := ⟨x, rfl, h⟩
theorem ok_chk {α : Type} {c : Prop} [Decidable c] {k : Option α} {P : α → Prop} (hc : c) (h : OK k P) : OK (chk c k) P := by
  unfold chk
  rw [if_pos hc]
  exact h
theorem ok_chkP {α : Type} {c : Prop} {k : Option α} {P : α → Prop} (hc : c) (h : OK k P) : OK (chkP c k) P := by
  unfold chkP
  rw [if_pos hc]
  exact h
theorem ok_ltt {α β : Type} {x : α} {k : α → Option β} {P : β → Prop} (h : ∀ v, v = x → OK (k v) P) : OK (ltt x k) P := h x rfl
theorem ok_bnd {α β : Type} {o : Option α} {k : α → Option β} {Q : α → Prop} {P : β → Prop} (ho : OK o Q) (h : ∀ x, Q x → OK (k x) P) : OK (bnd o k) P := by
  obtain ⟨x, h1, h2⟩ := ho
  subst h1
  exact h x h2
theorem ok_if {α : Type} {c : Prop} [Decidable c] {a b : Option α} {P : α → Prop} (h1 : c → OK a P) (h2 : ¬ c → OK b P) : OK (if c then a else b) P := by
  by_cases hc : c
  · rw [if_pos hc]; exact h1 hc
  · rw [if_neg hc]; exact h2 hc
theorem ok_dr {α : Type} {G : GG} {κ b : Nat} {o : Option Nat} {k : Nat → Option α} {P : α → Prop} (ho : o = some b) (hb : b < G.1) (hk : G.2.1 b = κ) (h : OK (k b) P) : OK (dr G κ o k) P := by
  subst ho
  unfold dr
  dsimp only
  rw [if_pos ⟨hb, hk⟩]
  exact h
theorem ok_app {β : Type} {l : NN} {o : Option (NN × β)} {P : NN × β → Prop} (h : OK o (fun y => P (l ++ y.1, y.2))) : OK (app l o) P := by
  obtain ⟨y, h1, h2⟩ := h
  subst h1
  exact ⟨_, rfl, h2⟩
/-- a loop: an invariant, a measure below the fuel -/
theorem ok_itr {σ ρ : Type} {b : σ → Option (σ ⊕ ρ)} (I : σ → Prop) (μ : σ → Nat) {P : ρ → Prop} (hs : ∀ s, I s → OK (b s) (fun z => match z with
  | .inl t => I t ∧ μ t < μ s
  | .inr r => P r)) : ∀ (n : Nat) (s : σ), I s → μ s < n → OK (itr b n s) P := by
  intro n
  induction n with
  | zero => intro s _ h; exact absurd h (Nat.not_lt_zero _)
  | succ n ih =>
    intro s hI hm
    obtain ⟨z, hz, hp⟩ := hs s hI
    unfold itr
    rw [hz]
    cases z with
    | inl t => exact ih t hp.1 (by have := hp.2; omega)
    | inr r => exact ⟨r, rfl, hp⟩
theorem ok_itrA {σ ρ : Type} {b : σ → Option (NN × (σ ⊕ ρ))} (I : σ → Prop) (μ : σ → Nat) (P : σ → NN → ρ → Prop) (hs : ∀ s, I s → OK (b s) (fun z => match z.2 with
  | .inl t => I t ∧ μ t < μ s ∧ ∀ r y, P t r y → P s (z.1 ++ r) y
  | .inr r => P s z.1 r)) : ∀ (n : Nat) (s : σ), I s → μ s < n → OK (itrA b n s) (fun y => P s y.1 y.2) := by
  intro n
  induction n with
  | zero => intro s _ h; exact absurd h (Nat.not_lt_zero _)
  | succ n ih =>
    intro s hI hm
    obtain ⟨z, hz, hp⟩ := hs s hI
    unfold itrA
    rw [hz]
    obtain ⟨z1, z2⟩ := z
    cases z2 with
    | inl t =>
      obtain ⟨y, h1, h2⟩ := ih t hp.1 (by have := hp.2.1; omega)
      refine ok_app ⟨y, h1, ?_⟩
      exact hp.2.2 _ _ h2
    | inr r => exact ⟨_, rfl, hp⟩
/-! ints within bounds -/
def ib (a b : Int) (x : Int32) : Prop := a ≤ x.toInt ∧ x.toInt ≤ b
theorem ib_any (x : Int32) : ib (-2147483648) 2147483647 x := ⟨Int32.le_toInt x, by have := Int32.toInt_lt x; omega⟩
theorem ib_w {a b c d : Int} {x : Int32} (h : ib a b x) (h1 : c ≤ a) (h2 : b ≤ d) : ib c d x := ⟨Int.le_trans h1 h.1, Int.le_trans h.2 h2⟩
theorem bm_in {x : Int} (h1 : -2147483648 ≤ x) (h2 : x ≤ 2147483647) : x.bmod (2 ^ 32) = x := by
  apply Int.bmod_eq_of_le
  · omega
  · omega
theorem ti_add {x y : Int32} (h1 : -2147483648 ≤ x.toInt + y.toInt) (h2 : x.toInt + y.toInt ≤ 2147483647) : (x + y).toInt = x.toInt + y.toInt := by
  rw [Int32.toInt_add]
  exact bm_in h1 h2
theorem ti_sub {x y : Int32} (h1 : -2147483648 ≤ x.toInt - y.toInt) (h2 : x.toInt - y.toInt ≤ 2147483647) : (x - y).toInt = x.toInt - y.toInt := by
  rw [Int32.toInt_sub]
  exact bm_in h1 h2
theorem ti_mul {x y : Int32} (h1 : -2147483648 ≤ x.toInt * y.toInt) (h2 : x.toInt * y.toInt ≤ 2147483647) : (x * y).toInt = x.toInt * y.toInt := by
  rw [Int32.toInt_mul]
  exact bm_in h1 h2
theorem ib_add {a b c d : Int} {x y : Int32} (hx : ib a b x) (hy : ib c d y) (h1 : -2147483648 ≤ a + c) (h2 : b + d ≤ 2147483647) : ib (a + c) (b + d) (x + y) := by
  obtain ⟨p, q⟩ := hx
  obtain ⟨r, s⟩ := hy
  unfold ib
  rw [ti_add (by omega) (by omega)]
  omega
theorem ib_sub {a b c d : Int} {x y : Int32} (hx : ib a b x) (hy : ib c d y) (h1 : -2147483648 ≤ a - d) (h2 : b - c ≤ 2147483647) : ib (a - d) (b - c) (x - y) := by
  obtain ⟨p, q⟩ := hx
  obtain ⟨r, s⟩ := hy
  unfold ib
  rw [ti_sub (by omega) (by omega)]
  omega
theorem nat_of {x : Int32} (h : 0 ≤ x.toInt) : (x.toNatClampNeg : Int) = x.toInt := by
  show ((x.toInt.toNat : Nat) : Int) = x.toInt
  omega
theorem lt_z {x : Int32} (h : 0 ≤ x.toInt) : ¬ x < 0 := fun q => by
  have := Int32.lt_iff_toInt_lt.mp q
  have e : (0 : Int32).toInt = 0 := rfl
  omega
/-- an index that is in its row -/
theorem ix {a b : Int} {x : Int32} {n : Nat} (h : ib a b x) (h0 : 0 ≤ a) (hn : b < n) : ¬ (x < 0 ∨ n ≤ x.toNatClampNeg) := by
  intro q
  rcases q with q | q
  · exact lt_z (Int.le_trans h0 h.1) q
  · have := nat_of (x := x) (Int.le_trans h0 h.1)
    have := h.2
    omega
