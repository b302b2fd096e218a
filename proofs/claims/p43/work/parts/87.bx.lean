/-! the same with less agreed: for what is read while a BLOCK is under way -/
def BBC (c k : Nat) : Bool := if c = 125 then k == 11 else if c = 216 then (k == 1 || k == 8 || k == 9 || k == 10 || k == 13 || k == 14 || k == 15 || k == 22 || k == 23) else if c = 220 then decide (k ≤ 10) else false
def BBQ (j k : Nat) : Bool := j == 0 && (k == 0 || k == 1 || k == 2 || k == 9 || k == 10 || k == 14)
def BX (mu : Nat → Nat) (G H : GG) (M N : DD) (p : Nat) (L : List Nat) : Prop := MU mu G H ∧ RFS mu M N p L ∧ (∀ c k, BBC c k = true → Ag mu M N c k) ∧ (∀ q j k, q ∈ L → BBQ j k = true → Ag mu M N (q + j) k) ∧ (∀ q j k, q ∈ L → q ≠ p → (j = 6 ∨ j = 7 ∨ j = 8) → Ag mu M N (q + j) k)
theorem by_up {mu : Nat → Nat} {κ : Nat} {G H : GG} {M N M' N' : DD} {p : Nat} {L : List Nat} (t : BX mu G H M N p L) (u : Up mu κ M N M' N') : BX mu G H M' N' p L := by
  obtain ⟨h1, h2, h3, h4, h5⟩ := t
  exact ⟨h1, rs_up h2 u, fun c k g => ag_up u (h3 c k g), fun q j k a b => ag_up u (h4 q j k a b), fun q j k a b c => ag_up u (h5 q j k a b c)⟩
theorem by_U {mu : Nat → Nat} {G H : GG} {M N : DD} {p : Nat} {L : List Nat} (t : BX mu G H M N p L) : MU mu G H := t.1
theorem bz_c {mu : Nat → Nat} {G H : GG} {M N : DD} {p : Nat} {L : List Nat} (t : BX mu G H M N p L) {a k b : Nat} (ha : a = 125 ∨ a = 138 ∨ a = 148 ∨ a = 215) (h : fT a k = b) (hb : 0 < b) : M.2 a k = some b ∧ N.2 (mu a) k = some (mu b) := by
  subst h
  exact t.2.1.1 a k ha hb
theorem bz_p {mu : Nat → Nat} {G H : GG} {M N : DD} {p : Nat} {L : List Nat} (t : BX mu G H M N p L) : M.2 125 0 = some p ∧ N.2 (mu 125) 0 = some (mu p) := ⟨t.2.1.2.1.1, t.2.1.2.1.2.1⟩
theorem by_p {mu : Nat → Nat} {G H : GG} {M N : DD} {p : Nat} {L : List Nat} (t : BX mu G H M N p L) : p ∈ L := t.2.1.2.1.2.2
theorem by_q0 {mu : Nat → Nat} {G H : GG} {M N : DD} {p : Nat} {L : List Nat} (t : BX mu G H M N p L) {q : Nat} (hq : q ∈ L) : 234 ≤ q := (t.2.1.2.2.1 q hq).1
theorem bz_3 {mu : Nat → Nat} {G H : GG} {M N : DD} {p : Nat} {L : List Nat} (t : BX mu G H M N p L) {q : Nat} (hq : q ∈ L) : M.2 q 3 = some (q + 1) ∧ N.2 (mu q) 3 = some (mu (q + 1)) := (t.2.1.2.2.1 q hq).2.1
theorem bz_4 {mu : Nat → Nat} {G H : GG} {M N : DD} {p : Nat} {L : List Nat} (t : BX mu G H M N p L) {q : Nat} (hq : q ∈ L) : M.2 q 4 = some (q + 2) ∧ N.2 (mu q) 4 = some (mu (q + 2)) := (t.2.1.2.2.1 q hq).2.2.1
theorem bz_5 {mu : Nat → Nat} {G H : GG} {M N : DD} {p : Nat} {L : List Nat} (t : BX mu G H M N p L) {q : Nat} (hq : q ∈ L) : M.2 q 5 = some (q + 6) ∧ N.2 (mu q) 5 = some (mu (q + 6)) := (t.2.1.2.2.1 q hq).2.2.2.1
theorem bz_6 {mu : Nat → Nat} {G H : GG} {M N : DD} {p : Nat} {L : List Nat} (t : BX mu G H M N p L) {q : Nat} (hq : q ∈ L) : M.2 q 6 = some (q + 7) ∧ N.2 (mu q) 6 = some (mu (q + 7)) := (t.2.1.2.2.1 q hq).2.2.2.2.1
theorem bz_7 {mu : Nat → Nat} {G H : GG} {M N : DD} {p : Nat} {L : List Nat} (t : BX mu G H M N p L) {q : Nat} (hq : q ∈ L) : M.2 q 7 = some (q + 8) ∧ N.2 (mu q) 7 = some (mu (q + 8)) := (t.2.1.2.2.1 q hq).2.2.2.2.2.1
theorem bz_d0 {mu : Nat → Nat} {G H : GG} {M N : DD} {p : Nat} {L : List Nat} (t : BX mu G H M N p L) {q : Nat} (hq : q ∈ L) : M.2 (q + 2) 0 = some (q + 9) ∧ N.2 (mu (q + 2)) 0 = some (mu (q + 9)) := (t.2.1.2.2.1 q hq).2.2.2.2.2.2.1
theorem bz_d1 {mu : Nat → Nat} {G H : GG} {M N : DD} {p : Nat} {L : List Nat} (t : BX mu G H M N p L) {q : Nat} (hq : q ∈ L) : M.2 (q + 2) 1 = some (q + 10) ∧ N.2 (mu (q + 2)) 1 = some (mu (q + 10)) := (t.2.1.2.2.1 q hq).2.2.2.2.2.2.2.1
theorem bz_d2 {mu : Nat → Nat} {G H : GG} {M N : DD} {p : Nat} {L : List Nat} (t : BX mu G H M N p L) {q : Nat} (hq : q ∈ L) : M.2 (q + 2) 2 = some (q + 11) ∧ N.2 (mu (q + 2)) 2 = some (mu (q + 11)) := (t.2.1.2.2.1 q hq).2.2.2.2.2.2.2.2
theorem bz_dv {mu : Nat → Nat} {G H : GG} {M N : DD} {p : Nat} {L : List Nat} (t : BX mu G H M N p L) {q : Nat} (hq : q ∈ L) {x : Int32} {a : Int} (hx : TI x a) (h0 : 0 ≤ a) (h1 : a ≤ 2) : ∃ j, (j = 9 ∨ j = 10 ∨ j = 11) ∧ (M.2 (q + 2) x.toNatClampNeg = some (q + j) ∧ N.2 (mu (q + 2)) x.toNatClampNeg = some (mu (q + j))) := by
  have e : x.toInt = a := hx
  have e2 := nat_of (x := x) (by omega)
  have h : x.toNatClampNeg = 0 ∨ x.toNatClampNeg = 1 ∨ x.toNatClampNeg = 2 := by omega
  rcases h with h | h | h
  · rw [h]; exact ⟨9, Or.inl rfl, bz_d0 t hq⟩
  · rw [h]; exact ⟨10, Or.inr (Or.inl rfl), bz_d1 t hq⟩
  · rw [h]; exact ⟨11, Or.inr (Or.inr rfl), bz_d2 t hq⟩
theorem bz_l {mu : Nat → Nat} {G H : GG} {M N : DD} {p : Nat} {L : List Nat} (t : BX mu G H M N p L) (k : Nat) : OR mu L (M.2 126 k) (N.2 (mu 126) k) := t.2.1.2.2.2 k
theorem by_k {mu : Nat → Nat} {G H : GG} {M N : DD} {p : Nat} {L : List Nat} (t : BX mu G H M N p L) {c k : Nat} (h : BBC c k = true) : Ag mu M N c k := t.2.2.1 c k h
theorem by_s {mu : Nat → Nat} {G H : GG} {M N : DD} {p : Nat} {L : List Nat} (t : BX mu G H M N p L) {x : Int32} {a : Int} (hx : TI x a) (h : a = 22 ∨ a = 23) : Ag mu M N 216 x.toNatClampNeg := by
  have e := ti_n hx
  rcases h with rfl | rfl
  · rw [e]; exact by_k t rfl
  · rw [e]; exact by_k t rfl
theorem by_q {mu : Nat → Nat} {G H : GG} {M N : DD} {p : Nat} {L : List Nat} (t : BX mu G H M N p L) {q j k : Nat} (hq : q ∈ L) (h : BBQ j k = true) : Ag mu M N (q + j) k := t.2.2.2.1 q j k hq h
theorem by_qj {mu : Nat → Nat} {G H : GG} {M N : DD} {p : Nat} {L : List Nat} (t : BX mu G H M N p L) {q j : Nat} (hq : q ∈ L) (n : q ≠ p) (hj : j = 6 ∨ j = 7 ∨ j = 8) (k : Nat) : Ag mu M N (q + j) k := t.2.2.2.2 q j k hq n hj
theorem bx_of {mu : Nat → Nat} {G H : GG} {M N : DD} {p : Nat} {L : List Nat} (t : CX mu G H M N p L) : BX mu G H M N p L := by
  refine ⟨t.1, t.2.1, ?_, ?_, ?_⟩
  · intro c k h
    refine t.2.2.1 c k ?_
    unfold BBC at h
    unfold BAC
    by_cases h1 : c = 125
    · subst h1; simpa using h
    · by_cases h2 : c = 216
      · subst h2; simpa using h
      · by_cases h3 : c = 220
        · subst h3; simpa using h
        · simp [h1, h2, h3] at h
  · intro q j k hq h
    refine t.2.2.2.1 q j k hq ?_
    simp only [BBQ, Bool.and_eq_true, beq_iff_eq] at h
    simp only [BAQ, h.1, if_pos]
    exact h.2
  · intro q j k hq _ hj
    exact cx_qj t hq (by omega) k
/-- a family of places of a row -/
def FG (mu : Nat → Nat) (M N : DD) (c : Nat) (C : Nat → Prop) : Prop := ∀ k, C k → Ag mu M N c k
theorem fg_up {mu : Nat → Nat} {κ : Nat} {M N M' N' : DD} {c : Nat} {C : Nat → Prop} (u : Up mu κ M N M' N') (h : FG mu M N c C) : FG mu M' N' c C := fun k hk => ag_up u (h k hk)
theorem fg_use {mu : Nat → Nat} {M N : DD} {c : Nat} {C : Nat → Prop} (h : FG mu M N c C) {x : Int32} {a : Int} (hx : TI x a) (h0 : 0 ≤ a) (hc : ∀ k : Nat, (k : Int) = a → C k) : Ag mu M N c x.toNatClampNeg := by
  have e := ti_n hx
  exact h _ (hc _ (by omega))
theorem fg_sub {mu : Nat → Nat} {M N : DD} {c : Nat} {C D : Nat → Prop} (h : FG mu M N c C) (e : ∀ k, D k → C k) : FG mu M N c D := fun k hk => h k (e k hk)
/-- INFO of other BLOCKS than one -/
abbrev CI (mb : Int) : Nat → Prop := fun k => (k : Int) / 8 ≠ mb ∧ k % 8 ≠ 1
theorem i32_eq {x : Int32} {v : Int} (h : x.toInt = v) : v ≤ x.toInt ∧ x.toInt ≤ v := by omega
/-- modes, TOTALS, references and VECTORS of pieces that are read already, or of other BLOCKS -/
def CMo (mb lim : Int) : Nat → Prop := fun k => (k : Int) / 16 < mb ∨ ((k : Int) / 16 = mb ∧ (k : Int) % 16 < lim)
def CTo (mb lim : Int) : Nat → Prop := fun k => (k : Int) / 24 ≠ mb ∨ (k : Int) % 24 < lim
def CRo (mb lim : Int) : Nat → Prop := fun k => (k : Int) % 512 / 16 ≠ mb ∨ (k : Int) % 16 < lim
def CVo (mb lim : Int) : Nat → Prop := fun k => (k : Int) / 2 % 512 / 16 ≠ mb ∨ (k : Int) / 2 % 16 < lim
theorem fg_usk {mu : Nat → Nat} {M N : DD} {c n : Nat} {C : Nat → Prop} (h : FG mu M N c C) {x : Int32} {a : Int} (hx : TI x a) (hk : ¬ (x < 0 ∨ n ≤ x.toNatClampNeg)) (hc : ∀ k : Nat, (k : Int) = a → C k) : Ag mu M N c x.toNatClampNeg := by
  have e : x.toInt = a := hx
  have := (nx_of hk).1
  exact fg_use h hx (by omega) hc
theorem ag_ki {mu : Nat → Nat} {M N : DD} {mb : Int} (h : FG mu M N 129 (CI mb)) (hK : Ag mu M N 129 (8 * mb).toNat) {x : Int32} {a : Int} (hx : TI x a) (h0 : 0 ≤ a) (h8 : a % 8 = 0) : Ag mu M N 129 x.toNatClampNeg := by
  have e := ti_n hx
  by_cases hq : a / 8 = mb
  · have e2 : x.toNatClampNeg = (8 * mb).toNat := by omega
    rw [e2]
    exact hK
  · exact h _ ⟨by omega, by omega⟩
theorem pa_f {y u z a : Int} {P : Prop} (h : y = -1 ∨ (u < a ∧ y = 16 * u + z)) (h0 : 0 ≤ u) (hz : 0 ≤ z ∧ z ≤ 15) (ha : a ≤ 3) : (-1 ≤ y ∧ y ≤ 63) ∧ (0 ≤ y → y / 16 < a ∨ P) := by
  refine ⟨by omega, fun h2 => Or.inl ?_⟩
  omega
theorem pk_of {y a a1 a2 a3 : Int} (h : (-1 ≤ y ∧ y ≤ 63) ∧ (0 ≤ y → y / 16 < a ∨ (y = 16 * a + (a2 / 8 % 2 * 8 + a1 / 8 % 2 * 4 + a2 / 4 % 2 * 2 + a1 / 4 % 2) ∧ (a2 / 8 % 2 * 8 + a1 / 8 % 2 * 4 + a2 / 4 % 2 * 2 + a1 / 4 % 2) < a3 ∧ 0 ≤ a1 ∧ a1 ≤ 15 ∧ 0 ≤ a2))) : (-1 ≤ y ∧ y ≤ 63) ∧ (0 ≤ y → y / 16 ≠ a ∨ y % 16 < a3) := by
  obtain ⟨h1, h2⟩ := h
  refine ⟨h1, fun h3 => ?_⟩
  have hz : 0 ≤ a2 / 8 % 2 * 8 + a1 / 8 % 2 * 4 + a2 / 4 % 2 * 2 + a1 / 4 % 2 ∧ a2 / 8 % 2 * 8 + a1 / 8 % 2 * 4 + a2 / 4 % 2 * 2 + a1 / 4 % 2 ≤ 15 := by omega
  generalize a2 / 8 % 2 * 8 + a1 / 8 % 2 * 4 + a2 / 4 % 2 * 2 + a1 / 4 % 2 = z at h2 hz
  rcases h2 h3 with h | ⟨h, h4, _⟩
  · exact Or.inl (by omega)
  · exact Or.inr (by omega)
