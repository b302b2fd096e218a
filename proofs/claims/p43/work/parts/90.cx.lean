/-! where all is agreed upon, each family is -/
theorem fg_i {mu : Nat → Nat} {G H : GG} {M N : DD} {p : Nat} {L : List Nat} {mb : Int} (t : CX mu G H M N p L) : FG mu M N 129 (CI mb) := by
  intro k hk
  refine t.2.2.1 129 k ?_
  simpa [BAC] using hk.2
theorem fg_p6 {mu : Nat → Nat} {G H : GG} {M N : DD} {p : Nat} {L : List Nat} {mb lim : Int} (t : CX mu G H M N p L) : FG mu M N (p + 6) (CRo mb lim) := fun k _ => cx_qj t (cx_p t) (by decide) k
theorem fg_p8 {mu : Nat → Nat} {G H : GG} {M N : DD} {p : Nat} {L : List Nat} {mb lim : Int} (t : CX mu G H M N p L) : FG mu M N (p + 8) (CVo mb lim) := fun k _ => cx_qj t (cx_p t) (by decide) k
/-- the rows of one part, of one group -/
def CPp (a : Int) : Nat → Prop := fun k => 5 * a ≤ (k : Int) ∧ (k : Int) ≤ 5 * a + 4
def CGp (a : Int) : Nat → Prop := fun k => 4 * a ≤ (k : Int) ∧ (k : Int) ≤ 4 * a + 3
theorem rl_wV {mu : Nat → Nat} {κ : Nat} {G H : GG} {M N : DD} {α β : Type} {b k : Nat} {v : Int32} {k1 : DD → Option α} {k2 : DD → Option β} {P : α → β → Prop} (U : MU mu G H) (hb : b ≠ 216 ∧ b ≠ 220 ∧ b ≠ κ) (h : ∀ M' N', Up mu κ M N M' N' → Ag mu M' N' b k → (∀ c j, ¬ (c = b ∧ j = k) → M'.1 c j = M.1 c j) → M'.1 b k = v → LKS (k1 M') (k2 N') P) : LKS (ltt (uI M b k v) k1) (ltt (uI N (mu b) k v) k2) P := by
  refine rl_wE (κ := κ) U hb (fun M' N' e1 e2 u A => ?_)
  refine h M' N' u A ?_ ?_
  · intro c j hc
    rw [e1]
    exact uI_n M v hc
  · rw [e1]
    exact uI_s M b k v
/-- parts and groups that are told alike on both sides -/
def LT (n : Int) : Nat → Prop := fun k => (k : Int) < n
def TPL (mu : Nat → Nat) (M N : DD) : Prop := Ag mu M N 125 14 ∧ Ag mu M N 125 16 ∧ FG mu M N 136 (LT (4 * (M.1 125 16).toInt)) ∧ FG mu M N 135 (LT (5 * (M.1 125 14).toInt)) ∧ (0 ≤ (M.1 125 16).toInt ∧ (M.1 125 16).toInt ≤ 4) ∧ 0 ≤ (M.1 125 14).toInt ∧ (M.1 125 14).toInt ≤ 16
theorem tp_0 {mu : Nat → Nat} {M N : DD} (A : Ag mu M N 125 14) (B : Ag mu M N 125 16) (e1 : M.1 125 14 = 0) (e2 : M.1 125 16 = 0) : TPL mu M N := by
  have z : (0 : Int32).toInt = 0 := rfl
  refine ⟨A, B, ?_, ?_, ?_, ?_⟩
  · rw [e2]; intro k hk; exact absurd hk (by unfold LT; omega)
  · rw [e1]; intro k hk; exact absurd hk (by unfold LT; omega)
  · rw [e2, z]; omega
  · rw [e1, z]; omega
theorem lt_chk {x : Int32} {a : Int} {n m : Nat} (hx : TI x a) (hn : n = m) (h : ¬ (x < 0 ∨ n ≤ x.toNatClampNeg)) : 0 ≤ a ∧ a < m := by
  have e : x.toInt = a := hx
  have := nx_of h
  omega
theorem tp_g {mu : Nat → Nat} {M N M' N' : DD} {κ : Nat} (u : Up mu κ M N M' N') (h : TPL mu M N) {g : Int} (eg : (M.1 125 16).toInt = g) (A : Ag mu M' N' 125 16) (ev : (M'.1 125 16).toInt = g + 1) (e14 : M'.1 125 14 = M.1 125 14) (hg : g ≤ 3) {x2 x5 x8 x11 : Int32} (i2 : TI x2 (4 * g)) (i5 : TI x5 (4 * g + 1)) (i8 : TI x8 (4 * g + 2)) (i11 : TI x11 (4 * g + 3)) (A2 : Ag mu M' N' 136 x2.toNatClampNeg) (A5 : Ag mu M' N' 136 x5.toNatClampNeg) (A8 : Ag mu M' N' 136 x8.toNatClampNeg) (A11 : Ag mu M' N' 136 x11.toNatClampNeg) : TPL mu M' N' := by
  obtain ⟨h1, h2, h3, h4, h5, h6⟩ := h
  refine ⟨ag_up u h1, A, ?_, ?_, ?_, ?_⟩
  · rw [ev]
    intro k hk
    unfold LT at hk
    have n2 := ti_n i2
    have n5 := ti_n i5
    have n8 := ti_n i8
    have n11 := ti_n i11
    by_cases q : (k : Int) < 4 * g
    · exact ag_up u (h3 k (by unfold LT; omega))
    · have q2 : k = x2.toNatClampNeg ∨ k = x5.toNatClampNeg ∨ k = x8.toNatClampNeg ∨ k = x11.toNatClampNeg := by omega
      rcases q2 with q2 | q2 | q2 | q2
      · rw [q2]; exact A2
      · rw [q2]; exact A5
      · rw [q2]; exact A8
      · rw [q2]; exact A11
  · rw [e14]
    exact fg_up u h4
  · rw [ev]; omega
  · rw [e14]; exact h6
theorem tp_p {mu : Nat → Nat} {M N M' N' : DD} {κ : Nat} (u : Up mu κ M N M' N') (h : TPL mu M N) {g : Int} (eg : (M.1 125 14).toInt = g) (A : Ag mu M' N' 125 14) (ev : (M'.1 125 14).toInt = g + 1) (e16 : M'.1 125 16 = M.1 125 16) (hg : g ≤ 15) {x2 x5 x8 x11 x19 : Int32} (i2 : TI x2 (5 * g)) (i5 : TI x5 (5 * g + 1)) (i8 : TI x8 (5 * g + 2)) (i11 : TI x11 (5 * g + 3)) (i19 : TI x19 (5 * g + 4)) (A2 : Ag mu M' N' 135 x2.toNatClampNeg) (A5 : Ag mu M' N' 135 x5.toNatClampNeg) (A8 : Ag mu M' N' 135 x8.toNatClampNeg) (A11 : Ag mu M' N' 135 x11.toNatClampNeg) (A19 : Ag mu M' N' 135 x19.toNatClampNeg) : TPL mu M' N' := by
  obtain ⟨h1, h2, h3, h4, h5, h6⟩ := h
  refine ⟨A, ag_up u h2, ?_, ?_, ?_, ?_⟩
  · rw [e16]
    exact fg_up u h3
  · rw [ev]
    intro k hk
    unfold LT at hk
    have n2 := ti_n i2
    have n5 := ti_n i5
    have n8 := ti_n i8
    have n11 := ti_n i11
    have n19 := ti_n i19
    by_cases q : (k : Int) < 5 * g
    · exact ag_up u (h4 k (by unfold LT; omega))
    · have q2 : k = x2.toNatClampNeg ∨ k = x5.toNatClampNeg ∨ k = x8.toNatClampNeg ∨ k = x11.toNatClampNeg ∨ k = x19.toNatClampNeg := by omega
      rcases q2 with q2 | q2 | q2 | q2 | q2
      · rw [q2]; exact A2
      · rw [q2]; exact A5
      · rw [q2]; exact A8
      · rw [q2]; exact A11
      · rw [q2]; exact A19
  · rw [e16]; exact h5
  · rw [ev]; omega
