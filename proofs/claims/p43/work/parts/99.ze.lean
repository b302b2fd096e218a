/-! modes, read -/
theorem rl_refl {α : Type} (o : Option α) : LKS o o (fun y z => y = z) := fun y h => ⟨y, h, rfl⟩
theorem k_sidesOf {G H : GG} {M N : DD} {p0 p1 : Int32} : LKS (FX9_sidesOf G M p0 p1) (FX9_sidesOf H N p0 p1) (fun y z => M = y.1 ∧ N = z.1 ∧ y.2 = z.2) := by
  unfold FX9_sidesOf
  refine rl_bnd (Q := fun y z => M = y.1 ∧ N = z.1 ∧ y.2 = z.2) (by unfold FX9_pieceX; exact rl_some ⟨rfl, rfl, rfl⟩) ?_
  rintro ⟨y, v⟩ ⟨z, v'⟩ ⟨e1, e2, e3⟩
  dsimp only at e1 e2 e3
  subst e1; subst e2; subst e3
  refine rl_bnd (Q := fun y z => M = y.1 ∧ N = z.1 ∧ y.2 = z.2) (by unfold FX9_pieceY; exact rl_some ⟨rfl, rfl, rfl⟩) ?_
  rintro ⟨y, v2⟩ ⟨z, v2'⟩ ⟨e1, e2, e3⟩
  dsimp only at e1 e2 e3
  subst e1; subst e2; subst e3
  dsimp only
  repeat' (first | exact rl_some ⟨rfl, rfl, rfl⟩ | (refine rl_bnd (rl_refl _) ?_; rintro y z rfl) | refine rl_ltt ?_)
theorem k_mayBeFour {G H : GG} {M N : DD} {p0 p1 : Int32} : LKS (FX9_mayBeFour G M p0 p1) (FX9_mayBeFour H N p0 p1) (fun y z => M = y.1 ∧ N = z.1 ∧ y.2 = z.2) := by
  unfold FX9_mayBeFour
  refine rl_bnd (rl_refl _) ?_
  rintro y z rfl
  refine rl_ltt ?_
  refine rl_bnd (rl_refl _) ?_
  rintro y z rfl
  exact rl_chk (fun q => q) (fun _ => rl_some ⟨rfl, rfl, rfl⟩)
/-- what stands around a BLOCK while its modes are read -/
def RSB (mu : Nat → Nat) (G : GG) (N N' : DD) : Prop := ∀ c k, DOM G c → ¬ (129 ≤ c ∧ c ≤ 133) → N'.1 (mu c) k = N.1 (mu c) k ∧ N'.2 (mu c) k = N.2 (mu c) k
theorem bx_rsb {mu : Nat → Nat} {G H : GG} {M N N' : DD} {p : Nat} {L : List Nat} (D : DG G L) (g : RSB mu G N N') (t : BX mu G H M N p L) : BX mu G H M N' p L := by
  obtain ⟨t1, ⟨r1, r2, r3, r4⟩, t3, t4, t5⟩ := t
  have d5 : DOM G 125 := dg_n D rfl
  have d6 : DOM G 126 := dg_n D rfl
  refine ⟨t1, ⟨?_, ⟨r2.1, (g _ _ d5 (by omega)).2.trans r2.2.1, r2.2.2⟩, ?_, ?_⟩, ?_, ?_, ?_⟩
  · intro a k ha hk
    have da : DOM G a ∧ ¬ (129 ≤ a ∧ a ≤ 133) := by
      rcases ha with q | q | q | q <;> rw [q] <;> exact ⟨dg_n D rfl, by omega⟩
    exact ⟨(r1 a k ha hk).1, (g _ _ da.1 da.2).2.trans (r1 a k ha hk).2⟩
  · intro q hq
    obtain ⟨h0, a1, a2, a3, a4, a5, a6, a7, a8⟩ := r3 q hq
    have d0 : DOM G q := D.2.2 q hq 0 (by omega)
    have d2 : DOM G (q + 2) := D.2.2 q hq 2 (by omega)
    have e0 : ∀ k, N'.2 (mu q) k = N.2 (mu q) k := fun k => (g q k d0 (by omega)).2
    have e2 : ∀ k, N'.2 (mu (q + 2)) k = N.2 (mu (q + 2)) k := fun k => (g (q + 2) k d2 (by omega)).2
    exact ⟨h0, ⟨a1.1, (e0 _).trans a1.2⟩, ⟨a2.1, (e0 _).trans a2.2⟩, ⟨a3.1, (e0 _).trans a3.2⟩, ⟨a4.1, (e0 _).trans a4.2⟩, ⟨a5.1, (e0 _).trans a5.2⟩, ⟨a6.1, (e2 _).trans a6.2⟩, ⟨a7.1, (e2 _).trans a7.2⟩, ⟨a8.1, (e2 _).trans a8.2⟩⟩
  · intro k
    rcases r4 k with q | ⟨q, h1, h2, h3⟩
    · exact Or.inl ⟨q.1, (g _ _ d6 (by omega)).2.trans q.2⟩
    · exact Or.inr ⟨q, h1, h2, (g _ _ d6 (by omega)).2.trans h3⟩
  · intro c k hc
    have dc : DOM G c ∧ ¬ (129 ≤ c ∧ c ≤ 133) := by
      rcases bbc_d hc with q | q | q <;> rw [q] <;> exact ⟨dg_n D rfl, by omega⟩
    exact Eq.trans (g _ _ dc.1 dc.2).1 (t3 c k hc)
  · intro q j k hq hj
    have hj0 : j = 0 := by
      unfold BBQ at hj
      simp only [Bool.and_eq_true, beq_iff_eq] at hj
      exact hj.1
    have hq0 := (r3 q hq).1
    exact Eq.trans (g _ _ (D.2.2 q hq j (by omega)) (by omega)).1 (t4 q j k hq hj)
  · intro q j k hq hp hj
    have hq0 := (r3 q hq).1
    exact Eq.trans (g _ _ (D.2.2 q hq j (by omega)) (by omega)).1 (t5 q j k hq hp hj)
/-- the tokens of n modes from the j-th on -/
def moS (G : GG) (M : DD) (p0 : Int32) (mb : Nat) : Nat → Nat → List Tok
  | 0, _ => []
  | n + 1, j => moT G M p0 mb j ++ moS G M p0 mb n (j + 1)
theorem moL_S (G : GG) (M : DD) (p0 : Int32) (mb : Nat) : ∀ n j, moL G M p0 mb j ++ moS G M p0 mb n j = moL G M p0 mb (j + n)
  | 0, j => by show moL G M p0 mb j ++ [] = _; rw [List.append_nil]; rfl
  | n + 1, j => by
    show moL G M p0 mb j ++ (moT G M p0 mb j ++ moS G M p0 mb n (j + 1)) = _
    rw [← List.append_assoc]
    show moL G M p0 mb (j + 1) ++ _ = _
    rw [moL_S G M p0 mb n (j + 1), Nat.add_right_comm]
    rfl
