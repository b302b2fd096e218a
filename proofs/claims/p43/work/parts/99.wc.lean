/-! a unit goes on behind a step that isn't the writer's -/
noncomputable def mixM (X : Nat → Prop) (M N : DD) : DD := (fun x k => @ite _ (X x) (Classical.propDecidable (X x)) (N.1 x k) (M.1 x k), M.2)
theorem mix_y {X : Nat → Prop} {M N : DD} {x : Nat} (h : X x) (k : Nat) : (mixM X M N).1 x k = N.1 x k := by
  unfold mixM
  exact if_pos h
theorem mix_n {X : Nat → Prop} {M N : DD} {x : Nat} (h : ¬ X x) (k : Nat) : (mixM X M N).1 x k = M.1 x k := by
  unfold mixM
  exact if_neg h
/-- rows that are none of the writer's -/
def NWR (G : GG) (X : Nat → Prop) : Prop := ∀ x, X x → x < G.1 ∧ G.2.1 x ≠ 12 ∧ x ≠ 119 ∧ x ≠ 122
theorem wu_chg {G : GG} {M N N2 : DD} {u fr : Nat} {st : Nat → Nat} {B : List Nat} {c : Nat} {D : List Tok} {L : NN} (h : WU G M u fr st B c D L N) (X : Nat → Prop) (hX : NWR G X) (h2 : N2.2 = N.2) (h1 : ∀ x k, ¬ X x → N2.1 x k = N.1 x k) : WU G (mixM X M N2) u fr st B c D L N2 := by
  obtain ⟨⟨⟨a1, a2, a3, a4, a5⟩, b, d, ⟨e1, e2, e3, e4, e5⟩, f, g⟩, hB, hn, hK, c32, h7, K, hWY, ⟨u', f', n', hCR⟩, hU⟩ := h
  have x9 : ¬ X 119 := fun q => (hX _ q).2.2.1 rfl
  have x2 : ¬ X 122 := fun q => (hX _ q).2.2.2 rfl
  have xu : ¬ X u := fun q => (hX _ q).2.1 e5
  have xf : ¬ X fr := fun q => (hX _ q).2.1 hB.1.2.2.2.2
  have xu' : ¬ X u' := fun q => by
    rcases hCR.1 with z | z
    · rw [z] at q; exact xu q
    · have := (hX _ q).1; omega
  refine ⟨⟨⟨a1, a2, a3, a4, fun i hi => by rw [mix_n x2]; exact a5 i hi⟩, b, d, ⟨e1, e2, e3, e4, e5⟩, f, fun j => by rw [mix_n xu]; exact g j⟩, ?_, hn, ⟨hK.1, hK.2.1, hK.2.2⟩, c32, h7, mixM X K N2, ?_, ⟨u', f', n', ?_⟩, ?_⟩
  · obtain ⟨q1, q2, q3, q4, q5, q6⟩ := hB
    exact ⟨q1, q2, by rw [mix_n x9]; exact q3, fun i x hi => by rw [mix_n xf]; exact q4 i x hi, q5, fun k => by rw [mix_n xf]; exact q6 k⟩
  · intro x k q1 q2 q3 q4
    refine ⟨?_, (hWY x k q1 q2 q3 q4).2⟩
    by_cases z : X x
    · rw [mix_y z, mix_y z]
    · rw [mix_n z, mix_n z]
      exact (hWY x k q1 q2 q3 q4).1
  · obtain ⟨r1, r2, r3, r4, r5, r6⟩ := hCR
    refine ⟨r1, r2.by h2 ?_, r3, r4, ?_, r6⟩
    · intro x k q
      refine h1 x k ?_
      rcases q with q | q | q
      · rw [q.1]; exact x9
      · rw [q]; exact xu'
      · rw [q]; exact x2
    · intro x k q1 q2 q3 q4
      refine ⟨?_, by rw [h2]; exact (r5 x k q1 q2 q3 q4).2⟩
      by_cases z : X x
      · rw [mix_y z]
      · rw [mix_n z, h1 x k z]
        exact (r5 x k q1 q2 q3 q4).1
  · obtain ⟨v, v1, v2, v3, v4, v5⟩ := hU
    have xv : ¬ X v := fun q => by
      by_cases z : v < G.1
      · have z2 := v2.2.2
        rw [xt_kk L z] at z2
        exact (hX _ q).2.1 z2
      · exact z (hX _ q).1
    exact ⟨v, v1, by rw [h2]; exact v2, v3, by rw [h1 v 0 xv]; exact v4, by rw [h1 119 5 x9]; exact v5⟩
theorem wv_chg {G : GG} {M N N2 : DD} {u fr : Nat} {st : Nat → Nat} {B : List Nat} {c n : Nat} {D : List Tok} {L : NN} (h : WV G M u fr st B c D n L N) (X : Nat → Prop) (hX : NWR G X) (h2 : N2.2 = N.2) (h1 : ∀ x k, ¬ X x → N2.1 x k = N.1 x k) : WV G (mixM X M N2) u fr st B c D n L N2 := ⟨wu_chg h.1 X hX h2 h1, h.2⟩
