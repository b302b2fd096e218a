/-! what the coder reads while it writes: as at the snapshot M -/
theorem wu_bx {G : GG} {M N : DD} {u fr : Nat} {st : Nat → Nat} {B : List Nat} {c : Nat} {D : List Tok} {L : NN} {p : Nat} {w : Int} {Ls : List Nat} (h : WU G M u fr st B c D L N) (t : TT G M p w Ls) : BX (fun c => c) G (xt G L) M N p Ls := by
  have hK := h.2.2.2.1
  have e : ∀ x k, x < G.1 → G.2.1 x ≠ 12 → x ≠ 119 → x ≠ 122 → N.1 x k = M.1 x k ∧ N.2 x k = M.2 x k := fun x k a b d f => wu_keep h a b d f k
  have e2 : ∀ x k, (decide (125 ≤ x) && decide (x < 222) && !(kdL.getD x 0 == 12)) = true → N.1 x k = M.1 x k ∧ N.2 x k = M.2 x k := by
    intro x k q
    simp only [Bool.and_eq_true, decide_eq_true_eq, Bool.not_eq_true', beq_eq_false_iff_ne] at q
    exact e x k (by have := hK.1; omega) (by rw [gk_k hK q.1.2 rfl]; exact q.2) (by omega) (by omega)
  obtain ⟨t1, t2, t3, t4, t5, t6, t7, -⟩ := t
  have ek : ∀ q j, q ∈ Ls → (j = 0 ∨ j = 2 ∨ j = 6 ∨ j = 7 ∨ j = 8) → ∀ k, N.1 (q + j) k = M.1 (q + j) k ∧ N.2 (q + j) k = M.2 (q + j) k := by
    intro q j hq hj k
    obtain ⟨p1, p2, p3, p4, -⟩ := t5 q hq
    refine e (q + j) k (by omega) ?_ (by omega) (by omega)
    rcases hj with z | z | z | z | z <;> rw [z]
    · show G.2.1 q ≠ 12
      rw [p2.1]; decide
    · rw [p2.2.2.2.1]; decide
    · rw [p3.1]; decide
    · rw [p3.2.2.1]; decide
    · rw [p3.2.2.2.2.1]; decide
  refine ⟨⟨fun a b q => q, fun b hb => ?_⟩, ⟨?_, ⟨t4.2, (e2 125 0 rfl).2.trans t4.2, t4.1⟩, ?_, ?_⟩, ?_, ?_, ?_⟩
  · have z := xtw_k (L := L) hb
    exact ⟨z.2.2, z.1, z.2.1⟩
  · intro a k ha hk
    refine ⟨t2 a k hk, Eq.trans ?_ (t2 a k hk)⟩
    rcases ha with q | q | q | q <;> subst q
    · exact (e2 125 k rfl).2
    · exact (e2 138 k rfl).2
    · exact (e2 148 k rfl).2
    · exact (e2 215 k rfl).2
  · intro q hq
    obtain ⟨p1, p2, p3, p4, ⟨r1, r2, r3, r4, r5, r6, r7, r8⟩, -⟩ := t5 q hq
    have e0 : ∀ k, N.2 q k = M.2 q k := fun k => (ek q 0 hq (Or.inl rfl) k).2
    have e3 : ∀ k, N.2 (q + 2) k = M.2 (q + 2) k := fun k => (ek q 2 hq (Or.inr (Or.inl rfl)) k).2
    exact ⟨p1.1, ⟨r1, (e0 3).trans r1⟩, ⟨r2, (e0 4).trans r2⟩, ⟨r3, (e0 5).trans r3⟩, ⟨r4, (e0 6).trans r4⟩, ⟨r5, (e0 7).trans r5⟩, ⟨r6, (e3 0).trans r6⟩, ⟨r7, (e3 1).trans r7⟩, ⟨r8, (e3 2).trans r8⟩⟩
  · intro k
    have e6 := (e2 126 k rfl).2
    rcases t7 k with q | ⟨q, hq, h3⟩
    · exact Or.inl ⟨q, e6.trans q⟩
    · exact Or.inr ⟨q, hq, h3, e6.trans h3⟩
  · intro b k hb
    show N.1 b k = M.1 b k
    rcases bbc_d hb with q | q | q <;> subst q
    · exact (e2 125 k rfl).1
    · exact (e2 216 k rfl).1
    · exact (e2 220 k rfl).1
  · intro q j k hq hj
    have hj0 : j = 0 := by
      unfold BBQ at hj
      simp only [Bool.and_eq_true, beq_iff_eq] at hj
      exact hj.1
    subst hj0
    exact (ek q 0 hq (Or.inl rfl) k).1
  · intro q j k hq _ hj
    exact (ek q j hq (by omega) k).1
theorem wu_ag {G : GG} {M N : DD} {u fr : Nat} {st : Nat → Nat} {B : List Nat} {c : Nat} {D : List Tok} {L : NN} (h : WU G M u fr st B c D L N) {x : Nat} (hx : (decide (125 ≤ x) && decide (x < 222) && !(kdL.getD x 0 == 12)) = true) (k : Nat) : N.1 x k = M.1 x k := by
  have hK := h.2.2.2.1
  simp only [Bool.and_eq_true, decide_eq_true_eq, Bool.not_eq_true', beq_eq_false_iff_ne] at hx
  exact (wu_keep h (x := x) (by have := hK.1; omega) (by rw [gk_k hK hx.1.2 rfl]; exact hx.2) (by omega) (by omega) k).1
/-- the guess of a mode at the snapshot -/
def gmd (G : GG) (M : DD) (p0 p1 : Int32) : Int32 := ((FX9_guessMode G M 125 p0 p1).getD (M, 0)).2
theorem wu_guessMode {G : GG} {M N : DD} {u fr : Nat} {st : Nat → Nat} {B : List Nat} {c : Nat} {D : List Tok} {L : NN} {p : Nat} {w : Int} {Ls : List Nat} (h : WU G M u fr st B c D L N) (t : TT G M p w Ls) {p0 : Int32} {a0 : Int} (i0 : TI p0 a0) {p1 : Int32} {a1 : Int} (i1 : TI p1 a1) (h0 : 0 ≤ a0) (h1 : a0 < 2 * w) (h2 : 0 ≤ a1) (h3 : a1 ≤ 15) : OK (FX9_guessMode (xt G L) N 125 p0 p1) (fun y => y.1 = N ∧ y.2 = gmd G M p0 p1 ∧ 0 ≤ y.2.toInt ∧ y.2.toInt ≤ 8) := by
  obtain ⟨y, hy, -, -, hb⟩ := s_guessMode t i0 i1 h0 h1 h2 h3
  have hw : w = 1 ∨ w = 2 := t.2.2.1
  have hpw : (M.1 p 1).toInt = w := (t.2.2.2.2.1 p t.2.2.2.1.1).2.2.2.2.2.1
  obtain ⟨z, hz, e1, e2, e3⟩ := b_guessMode (wu_bx h t) i0 i1 h0 (by omega) (by omega) (by omega) (fun k _ => wu_ag h rfl k) (wu_ag h rfl _) (fun k _ => wu_ag h rfl k) y hy
  refine ⟨z, hz, e2.symm, ?_, ?_⟩
  · unfold gmd
    rw [hy]
    exact e3.symm
  · rw [← e3]; exact hb
/-- the decoder guesses the same -/
theorem rd_guessMode {mu : Nat → Nat} {G H : GG} {M N : DD} {p : Nat} {w : Int} {L Ls : List Nat} (t : BX mu G H M N p L) (tt : TT G M p w Ls) {p0 : Int32} {a0 : Int} (i0 : TI p0 a0) {p1 : Int32} {a1 : Int} (i1 : TI p1 a1) (h0 : 0 ≤ a0) (h1 : a0 < 2 * w) (h2 : 0 ≤ a1) (h3 : a1 ≤ 15) (hI : FG mu M N 129 (CI a0)) (hK : Ag mu M N 129 (8 * a0).toNat) (hM : FG mu M N 130 (CMo a0 a1)) : OK (FX9_guessMode H N (mu 125) p0 p1) (fun z => z.1 = N ∧ z.2 = gmd G M p0 p1 ∧ 0 ≤ z.2.toInt ∧ z.2.toInt ≤ 8) := by
  obtain ⟨y, hy, -, -, hb⟩ := s_guessMode tt i0 i1 h0 h1 h2 h3
  have hw : w = 1 ∨ w = 2 := tt.2.2.1
  have hpw : (M.1 p 1).toInt = w := (tt.2.2.2.2.1 p tt.2.2.2.1.1).2.2.2.2.2.1
  obtain ⟨z, hz, e1, e2, e3⟩ := b_guessMode t i0 i1 h0 (by omega) (by omega) (by omega) hI hK hM y hy
  refine ⟨z, hz, e2.symm, ?_, ?_⟩
  · unfold gmd
    rw [hy]
    exact e3.symm
  · rw [← e3]; exact hb
