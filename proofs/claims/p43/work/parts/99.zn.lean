/-! a unit goes on behind steps that change places which are none of the writer's -/
noncomputable def mixP (X : Nat → Nat → Prop) (M N : DD) : DD := (fun x k => @ite _ (X x k) (Classical.propDecidable (X x k)) (N.1 x k) (M.1 x k), M.2)
theorem mip_y {X : Nat → Nat → Prop} {M N : DD} {x k : Nat} (h : X x k) : (mixP X M N).1 x k = N.1 x k := by
  unfold mixP
  exact if_pos h
theorem mip_n {X : Nat → Nat → Prop} {M N : DD} {x k : Nat} (h : ¬ X x k) : (mixP X M N).1 x k = M.1 x k := by
  unfold mixP
  exact if_neg h
/-- places that the writer's facts don't speak of -/
def NWP (G : GG) (X : Nat → Nat → Prop) : Prop := ∀ x k, X x k → x < G.1 ∧ G.2.1 x ≠ 12 ∧ x ≠ 122 ∧ ¬ (x = 119 ∧ (k ≤ 2 ∨ (4 ≤ k ∧ k ≤ 12)))
theorem wu_chp {G : GG} {M N N2 : DD} {u fr : Nat} {st : Nat → Nat} {B : List Nat} {c : Nat} {D : List Tok} {L : NN} (h : WU G M u fr st B c D L N) (X : Nat → Nat → Prop) (hX : NWP G X) (h2 : N2.2 = N.2) (h1 : ∀ x k, ¬ X x k → N2.1 x k = N.1 x k) : WU G (mixP X M N2) u fr st B c D L N2 := by
  obtain ⟨⟨⟨a1, a2, a3, a4, a5⟩, b, d, ⟨e1, e2, e3, e4, e5⟩, f, g⟩, hB, hn, hK, c32, h7, K, hWY, ⟨u', f', n', hCR⟩, hU⟩ := h
  have x9 : ∀ k, (k ≤ 2 ∨ (4 ≤ k ∧ k ≤ 12)) → ¬ X 119 k := fun k z q => (hX _ _ q).2.2.2 ⟨rfl, z⟩
  have x2 : ∀ k, ¬ X 122 k := fun k q => (hX _ _ q).2.2.1 rfl
  have xu : ∀ k, ¬ X u k := fun k q => (hX _ _ q).2.1 e5
  have xf : ∀ k, ¬ X fr k := fun k q => (hX _ _ q).2.1 hB.1.2.2.2.2
  have xu' : ∀ k, ¬ X u' k := fun k q => by
    rcases hCR.1 with z | z
    · rw [z] at q; exact xu k q
    · have := (hX _ _ q).1; omega
  refine ⟨⟨⟨a1, a2, a3, a4, fun i hi => by rw [mip_n (x2 i)]; exact a5 i hi⟩, b, d, ⟨e1, e2, e3, e4, e5⟩, f, fun j => by rw [mip_n (xu j)]; exact g j⟩, ?_, hn, ⟨hK.1, hK.2.1, hK.2.2⟩, c32, h7, mixP X K N2, ?_, ⟨u', f', n', ?_⟩, ?_⟩
  · obtain ⟨q1, q2, q3, q4, q5, q6⟩ := hB
    exact ⟨q1, q2, by rw [mip_n (x9 1 (by omega))]; exact q3, fun i x hi => by rw [mip_n (xf i)]; exact q4 i x hi, q5, fun k => by rw [mip_n (xf k)]; exact q6 k⟩
  · intro x k q1 q2 q3 q4
    refine ⟨?_, (hWY x k q1 q2 q3 q4).2⟩
    by_cases z : X x k
    · rw [mip_y z, mip_y z]
    · rw [mip_n z, mip_n z]
      exact (hWY x k q1 q2 q3 q4).1
  · obtain ⟨r1, r2, r3, r4, r5, r6⟩ := hCR
    refine ⟨r1, r2.by h2 ?_, r3, r4, ?_, r6⟩
    · intro x k q
      refine h1 x k ?_
      rcases q with ⟨q, q2, q3⟩ | q | q
      · rw [q]; exact x9 k (Or.inr ⟨q2, q3⟩)
      · rw [q]; exact xu' k
      · rw [q]; exact x2 k
    · intro x k q1 q2 q3 q4
      refine ⟨?_, by rw [h2]; exact (r5 x k q1 q2 q3 q4).2⟩
      by_cases z : X x k
      · rw [mip_y z]
      · rw [mip_n z, h1 x k z]
        exact (r5 x k q1 q2 q3 q4).1
  · obtain ⟨v, v1, v2, v3, v4, v5⟩ := hU
    have xv : ¬ X v 0 := fun q => by
      by_cases z : v < G.1
      · have z2 := v2.2.2
        rw [xt_kk L z] at z2
        exact (hX _ _ q).2.1 z2
      · exact z (hX _ _ q).1
    exact ⟨v, v1, by rw [h2]; exact v2, v3, by rw [h1 v 0 xv]; exact v4, by rw [h1 119 5 (x9 5 (by omega))]; exact v5⟩
/-- one place, also one of the writer's own that its facts don't speak of (the number of BLOCKS passed over) -/
theorem wu_plc {G : GG} {M N : DD} {u fr c : Nat} {st : Nat → Nat} {B : List Nat} {D : List Tok} {L : NN} (h : WU G M u fr st B c D L N) {b k : Nat} {v : Int32} (hb : (decide (b < 222) && !(kdL.getD b 0 == 12) && !(b == 122) && !(b == 119 && (decide (k ≤ 2) || (decide (4 ≤ k) && decide (k ≤ 12))))) = true) : ∃ M', WU G M' u fr st B c D L (uI N b k v) ∧ M'.2 = M.2 ∧ (∀ x j, ¬ (x = b ∧ j = k) → M'.1 x j = M.1 x j) ∧ M'.1 b k = v := by
  have hK := h.2.2.2.1
  have hb2 : (b < 222 ∧ kdL.getD b 0 ≠ 12 ∧ b ≠ 122) ∧ ¬ (b = 119 ∧ (k ≤ 2 ∨ (4 ≤ k ∧ k ≤ 12))) := by
    simp only [Bool.and_eq_true, decide_eq_true_eq, Bool.not_eq_true', beq_eq_false_iff_ne, Bool.and_eq_false_iff, Bool.or_eq_false_iff, decide_eq_false_iff_not] at hb
    omega
  refine ⟨mixP (fun x j => x = b ∧ j = k) M (uI N b k v), wu_chp h (fun x j => x = b ∧ j = k) ?_ rfl (fun x j q => uI_n _ _ q), rfl, fun x j q => mip_n (X := fun x j => x = b ∧ j = k) q, ?_⟩
  · rintro x j ⟨rfl, rfl⟩
    exact ⟨by have := hK.1; omega, by rw [gk_k hK hb2.1.1 rfl]; exact hb2.1.2.1, hb2.1.2.2, hb2.2⟩
  · rw [mip_y (X := fun x j => x = b ∧ j = k) ⟨rfl, rfl⟩, uI_s]
