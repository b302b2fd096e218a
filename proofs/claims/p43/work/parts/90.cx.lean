/-! where all is agreed upon, each family is -/
theorem fg_i {mu : Nat → Nat} {G H : GG} {M N : DD} {p : Nat} {L : List Nat} {mb : Int} (t : CX mu G H M N p L) : FG mu M N 129 (CI mb) := by
  intro k hk
  refine t.2.2.1 129 k ?_
  simpa [BAC] using hk.2
theorem fg_p6 {mu : Nat → Nat} {G H : GG} {M N : DD} {p : Nat} {L : List Nat} {mb lim : Int} (t : CX mu G H M N p L) : FG mu M N (p + 6) (CRo mb lim) := fun k _ => cx_qj t (cx_p t) (by decide) k
theorem fg_p8 {mu : Nat → Nat} {G H : GG} {M N : DD} {p : Nat} {L : List Nat} {mb lim : Int} (t : CX mu G H M N p L) : FG mu M N (p + 8) (CVo mb lim) := fun k _ => cx_qj t (cx_p t) (by decide) k
/-- the rows of one part, of one group -/
def CPp (a : Int) : Nat → Prop := fun k => 5 * a ≤ (k : Int) ∧ (k : Int) ≤ 5 * a + 4
def CGp (a : Int) : Nat → Prop := fun k => 4 * a ≤ (k : Int) ∧ (k : Int) ≤ 4 * a + 3
