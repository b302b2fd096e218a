/-! references that are there before VECTORS are guessed -/
def HRl (M : DD) (p : Nat) (mb lI : Int) (l : Int32) : Prop := ∀ k : Nat, (k : Int) < (M.1 125 14).toInt → ¬ ((M.1 135 (5 * k + 3)) >>> (l &&& 31)) &&& (1 : Int32) = 0 → ∀ j : Nat, (j : Int) = 512 * lI + (16 * mb + (M.1 135 (5 * k)).toInt) → 0 ≤ (M.1 (p + 6) j).toInt
theorem hr_use {G : GG} {M K N : DD} {p : Nat} {w : Int} {L S : List Nat} (t : TT G N p w L) {mb lI : Int} {l : Int32} (hr : HRl M p mb lI l) (fK : Fr p S M K) (fN : Fr p S M N) (hS : S.contains 9 = false ∧ S.contains 17 = false ∧ S.contains 21 = false) {x8 x10 x11 x13 x14 x15 x21 v : Int32} {s : Int} (d0 : 0 ≤ s) (d : s < x8.toInt) (d1 : x8.toInt ≤ 16) (e8 : x8 = K.1 125 14) (i10 : TI x10 (5 * s)) (i11 : TI x11 (5 * s + 3)) (e13 : x13 = K.1 135 x11.toNatClampNeg) (e14 : x14 = x13 >>> (l &&& 31)) (e15 : x15 = x14 &&& (1 : Int32)) (c : ¬ x15 = 0) (e21 : x21 = K.1 135 x10.toNatClampNeg) (i23 : TI v (512 * lI + (16 * mb + x21.toInt))) (hv : 0 ≤ 512 * lI + (16 * mb + x21.toInt)) : 0 ≤ (N.1 (p + 6) v.toNatClampNeg).toInt ∧ (N.1 (p + 6) v.toNatClampNeg).toInt ≤ 7 := by
  obtain ⟨n, hn⟩ : ∃ n : Nat, (n : Int) = s := ⟨s.toNat, by omega⟩
  have n10 : x10.toNatClampNeg = 5 * n := sh_nat i10 (by omega)
  have n11 : x11.toNatClampNeg = 5 * n + 3 := sh_nat i11 (by omega)
  have k14 : K.1 125 14 = M.1 125 14 := fK.2 125 14 hS.1
  have k135 : ∀ j, K.1 135 j = M.1 135 j := fun j => fK.2 135 j hS.2.2
  have hp := pc_6 (p := p) (k := v.toNatClampNeg) (tt_p0 t)
  have k6 : N.1 (p + 6) v.toNatClampNeg = M.1 (p + 6) v.toNatClampNeg := fN.2 _ _ (by rw [hp]; exact hS.2.1)
  refine ⟨?_, (ib_6 t (tt_p t) _).2⟩
  rw [k6]
  refine hr n (by rw [← k14, ← e8]; omega) ?_ _ ?_
  · rw [← k135, ← n11, ← e13, ← e14, ← e15]
    exact c
  · have e : v.toInt = _ := i23
    have := nat_of (x := v) (by omega)
    rw [this, e, e21, n10, k135]
theorem hr_tr {M N : DD} {p : Nat} {S : List Nat} {mb lI : Int} {l : Int32} (h0 : 234 ≤ p) (hr : HRl M p mb lI l) (f : Fr p S M N) (hS : S.contains 9 = false ∧ S.contains 17 = false ∧ S.contains 21 = false) : HRl N p mb lI l := by
  have k14 : N.1 125 14 = M.1 125 14 := f.2 125 14 hS.1
  have k135 : ∀ j, N.1 135 j = M.1 135 j := fun j => f.2 135 j hS.2.2
  have k6 : ∀ j, N.1 (p + 6) j = M.1 (p + 6) j := fun j => f.2 _ _ (by rw [pc_6 h0]; exact hS.2.1)
  intro k hk hb j hj
  rw [k6]
  rw [k14] at hk
  rw [k135] at hb hj
  exact hr k hk hb j hj
theorem and01 (x : Int32) : x &&& (1 : Int32) = 0 ∨ x &&& (1 : Int32) = 1 := by
  have h := pz_and1 x
  have h0 : (0 : Int32).toInt = 0 := rfl
  have h1 : (1 : Int32).toInt = 1 := rfl
  by_cases c : x.toInt % 2 = 0
  · exact Or.inl (pz_eq.mpr (by omega))
  · exact Or.inr (pz_eq.mpr (by omega))
/-- references of the groups before one -/
def GRl (M : DD) (p : Nat) (mb lI : Int) (l : Int32) (n : Nat) : Prop := ∀ g, g < n → ¬ ((M.1 136 (4 * g + 3)) >>> (l &&& 31)) &&& (1 : Int32) = 0 → ∀ i : Nat, INs i (M.1 136 (4 * g)).toInt (M.1 136 (4 * g + 1)).toInt (M.1 136 (4 * g + 2)).toInt → ∀ j : Nat, (j : Int) = 512 * lI + 16 * mb + i → 0 ≤ (M.1 (p + 6) j).toInt
theorem gr_hr {M : DD} {p np ng : Nat} {mb lI : Int} {l : Int32} (h : PGS M np ng) (g : GRl M p mb lI l ng) : HRl M p mb lI l := by
  intro k hk hb j hj
  rw [h.1] at hk
  obtain ⟨q, q1, q2, q3⟩ := h.2.2.2.2 k (by omega)
  rw [q2] at hb
  have q4 := q3.1
  refine g q q1 hb (M.1 135 (5 * k)).toInt.toNat ?_ j ?_
  · have : (((M.1 135 (5 * k)).toInt.toNat : Nat) : Int) = (M.1 135 (5 * k)).toInt := by omega
    rw [this]
    exact q3
  · omega
theorem gr_keep {M N : DD} {p g : Nat} {mb lI l2 mb2 : Int} {l r : Int32} {n : Nat} (h : GRl M p mb lI l n) (f : SR M p l2 mb2 g r 16 N) (h0 : 234 ≤ p) (hr : 0 ≤ r.toInt) : GRl N p mb lI l n := by
  obtain ⟨s1, s2, s3, s4⟩ := f
  have k136 : ∀ j, N.1 136 j = M.1 136 j := fun j => s2 136 j (by omega) (by omega)
  intro g hg hb i hi j hj
  rw [k136] at hb
  rw [k136, k136, k136] at hi
  rcases s3 j with e | e
  · rw [e]; exact h g hg hb i hi j hj
  · rw [e]; exact hr
theorem gr_next {M N : DD} {p g : Nat} {mb lI : Int} {l r : Int32} (h : GRl M p mb lI l g) (f : SR M p lI mb g r 16 N) (h0 : 234 ≤ p) (hr : 0 ≤ r.toInt) : GRl N p mb lI l (g + 1) := by
  have hk := gr_keep h f h0 hr
  obtain ⟨s1, s2, s3, s4⟩ := f
  have k136 : ∀ j, N.1 136 j = M.1 136 j := fun j => s2 136 j (by omega) (by omega)
  intro g' hg hb i hi j hj
  by_cases e : g' = g
  · subst e
    rw [k136, k136, k136] at hi
    rw [s4 j i (by have := hi.1.2; omega) hi hj]
    exact hr
  · exact hk g' (by omega) hb i hi j hj
theorem pgs_keep {M N : DD} {p g np ng : Nat} {l mb : Int} {r : Int32} (h : PGS M np ng) (f : SR M p l mb g r 16 N) (h0 : 234 ≤ p) : PGS N np ng := by
  obtain ⟨s1, s2, _, _⟩ := f
  have k : ∀ c j, c < 234 → N.1 c j = M.1 c j := fun c j hc => s2 c j (by omega) (by omega)
  obtain ⟨h1, h2, h3, h4, h5⟩ := h
  refine ⟨by rw [k _ _ (by decide)]; exact h1, by rw [k _ _ (by decide)]; exact h2, h3, h4, ?_⟩
  intro q hq
  obtain ⟨g, g1, g2, g3⟩ := h5 q hq
  refine ⟨g, g1, by rw [k _ _ (by decide), k _ _ (by decide)]; exact g2, ?_⟩
  rw [k _ _ (by decide), k _ _ (by decide), k _ _ (by decide), k _ _ (by decide)]
  exact g3
theorem fr_pgs {M N : DD} {p np ng : Nat} {S : List Nat} (h : PGS M np ng) (f : Fr p S M N) (hS : S.contains 9 = false ∧ S.contains 21 = false) : PGS N np ng := by
  have k1 : N.1 125 14 = M.1 125 14 := f.2 125 14 hS.1
  have k2 : N.1 125 16 = M.1 125 16 := f.2 125 16 hS.1
  have k3 : ∀ j, N.1 135 j = M.1 135 j := fun j => f.2 135 j hS.2
  have k4 : ∀ j, N.1 136 j = M.1 136 j := fun j => f.2 136 j hS.2
  obtain ⟨h1, h2, h3, h4, h5⟩ := h
  refine ⟨by rw [k1]; exact h1, by rw [k2]; exact h2, h3, h4, ?_⟩
  intro q hq
  obtain ⟨g, g1, g2, g3⟩ := h5 q hq
  refine ⟨g, g1, by rw [k3, k4]; exact g2, ?_⟩
  rw [k3, k4, k4, k4]
  exact g3
theorem fr_gr {M N : DD} {p n : Nat} {mb lI : Int} {l : Int32} {S : List Nat} (h : GRl M p mb lI l n) (h0 : 234 ≤ p) (f : Fr p S M N) (hS : S.contains 17 = false ∧ S.contains 21 = false) : GRl N p mb lI l n := by
  have k4 : ∀ j, N.1 136 j = M.1 136 j := fun j => f.2 136 j hS.2
  have k6 : ∀ j, N.1 (p + 6) j = M.1 (p + 6) j := fun j => f.2 _ _ (by rw [pc_6 h0]; exact hS.1)
  intro g hg hb i hi j hj
  rw [k4] at hb
  rw [k4, k4, k4] at hi
  rw [k6]
  exact h g hg hb i hi j hj
