/-! a unit that was written, as its reader finds it -/
/-- plain up to its end, or up to where decisions begin from states 0 -/
def PL3 : List Tok → Prop
  | [] => True
  | T :: D => (T.1 = 0 ∧ PL3 D) ∨ 3 ≤ T.1
theorem PL3.of0 : ∀ {D : List Tok}, all0 D → PL3 D
  | [], _ => trivial
  | T :: D, h => Or.inl ⟨(h T List.mem_cons_self).1, PL3.of0 (fun T h2 => h T (List.mem_cons_of_mem _ h2))⟩
theorem PL3.app : ∀ {D E : List Tok}, all0 D → PL3 E → PL3 (D ++ E)
  | [], _, _, h => h
  | T :: D, _, h, g => Or.inl ⟨(h T List.mem_cons_self).1, PL3.app (fun T h2 => h T (List.mem_cons_of_mem _ h2)) g⟩
/-- the states that the coder had before don't matter -/
theorem vt_st {f : Nat → Nat} {T : Nat} : ∀ {D : List Tok} {q : Nat} {A : AS} (A2 : AS), PL3 D → VT f T D (0, q, A) → VT f T D (0, q, A2)
  | [], _, _, _, _, h => ⟨rfl, h.2⟩
  | (0, i, b) :: D, q, A, A2, hp, h => by
    have h1 : f q = b ∧ Val f D (0, q + 1, A) := h.1
    have hp2 : PL3 D := by
      rcases hp with z | z
      · exact z.2
      · exact absurd z (by show ¬ 3 ≤ 0; decide)
    have h2 := vt_st A2 hp2 ⟨h1.2, h.2⟩
    exact ⟨⟨h1.1, h2.1⟩, h2.2⟩
  | (1, i, b) :: D, q, A, A2, hp, h => by
    rcases hp with z | z
    · exact absurd z.1 (by show ¬ 1 = 0; decide)
    · exact absurd z (by show ¬ 3 ≤ 1; decide)
  | (2, i, b) :: D, q, A, A2, hp, h => by
    rcases hp with z | z
    · exact absurd z.1 (by show ¬ 2 = 0; decide)
    · exact absurd z (by show ¬ 3 ≤ 2; decide)
  | (k + 3, i, b) :: D, q, A, A2, hp, h => by
    have h1 : (0 : Nat) = 0 ∧ Val f D (1, q, A0 (fun _ => 0)) := h.1
    have e : ∀ Z : AS, runs ((k + 3, i, b) :: D) (0, q, Z) = runs D (1, q, A0 (fun _ => 0)) := by
      intro Z
      show runs D (nxt (k + 3, i, b) (0, q, Z)) = _
      have : nxt (k + 3, i, b) (0, q, Z) = (1, q, A0 (fun _ => 0)) := by
        unfold nxt
        rw [if_neg (by show ¬ k + 3 = 0; omega), if_neg (by show ¬ k + 3 = 1; omega), if_neg (by show ¬ k + 3 = 2; omega)]
      rw [this]
    refine ⟨⟨rfl, h1.2⟩, ?_⟩
    have h2 := h.2
    rw [e A] at h2
    rw [e A2]
    exact h2
theorem all0_fill (q : Nat) {b : Nat} (hb : b ≤ 1) : all0 (fillT q b) := fun T h => by
  unfold fillT at h
  rw [List.eq_of_mem_replicate h]
  exact ⟨rfl, hb⟩
/-- a unit of raw bits: what lies in the file, and what a reader of it meets -/
theorem uq_raw {G G2 : GG} {M N : DD} {u fr : Nat} {st : Nat → Nat} {B : List Nat} {c n : Nat} {D : List Tok} (h : UQ G M u fr st B c D n 0 G2 N) : ∃ u1 v f1 j, (u1 = u ∨ G.1 ≤ u1) ∧ (v = fr ∨ G.1 ≤ v) ∧ u1 ≠ v ∧ j = (D.length + 8) / 8 ∧ WI G2 N 119 u1 122 st ∧ BF G2 N 119 v (B ++ [0, 0, 0, 1] ++ emu 0 (UB c f1 j)) ∧ N.1 119 2 = M.1 119 2 + 1 ∧ (∀ i, f1 i ≤ 1) ∧ GE (emu 0 (UB c f1 j)) ∧ D.length < 8 * j ∧ f1 D.length = 1 ∧ (∀ i, D.length < i → i < 8 * j → f1 i = 0) ∧ (∀ A : AS, VT f1 (8 * j) (D ++ ET D.length 0) (0, 0, A)) ∧ (∀ x k, x < G.1 → x ≠ u → x ≠ 122 → x ≠ fr → ¬ (x = 119 ∧ (k ≤ 2 ∨ 4 ≤ k ∧ k ≤ 12)) → N.1 x k = M.1 x k ∧ N.2 x k = M.2 x k) := by
  obtain ⟨⟨u1, v, f1, j, h1, h2, h3, h4, h5, h6, h7, h8, h9, h10⟩, h11, h12⟩ := h
  have e : runs D (SU st) = (0, D.length, (SU st).2.2) := by
    rw [runs0 D (SU st) h11 rfl]
    show (0, 0 + D.length, _) = _
    rw [Nat.zero_add]
  rw [e] at h4 h5 h9
  have h4' : j = (D.length + 8) / 8 := h4
  have hcl : ∀ ff D2, (∀ i, ff i ≤ 1) → (∀ i, i < 8 * j → ff i = f1 i) → Val ff D2 (0, 8 * j, ((0, D.length, (SU st).2.2) : SS).2.2) → Val ff (ET ((0, D.length, (SU st).2.2) : SS).2.1 0 ++ D2) (0, D.length, (SU st).2.2) := by
    intro ff D2 a1 a2 a3
    have z := h9 ff D2 a1 a2 a3
    have : ∀ (X Y : List Tok) (S : SS), all0 X → S.1 = 0 → Val ff (X ++ Y) S → Val ff Y (runs X S) := by
      intro X
      induction X with
      | nil => intro Y S _ _ q; exact q
      | cons T X ih =>
        intro Y S q1 q2 q3
        obtain ⟨t1, t2, t3⟩ := T
        have t0 : t1 = 0 := (q1 _ List.mem_cons_self).1
        subst t0
        have q4 : if S.1 = 0 then ff S.2.1 = t3 ∧ Val ff (X ++ Y) (0, S.2.1 + 1, S.2.2) else t3 ≤ 1 ∧ Val ff (X ++ Y) (1, S.2.1, enc1 S.2.2 t2 t3) := q3
        rw [if_pos q2] at q4
        have q5 := ih Y _ (fun T h2 => q1 T (List.mem_cons_of_mem _ h2)) rfl q4.2
        have q6 : nxt (0, t2, t3) S = (0, S.2.1 + 1, S.2.2) := by
          unfold nxt
          rw [if_pos rfl, if_pos q2]
        show Val ff Y (runs X (nxt (0, t2, t3) S))
        rw [q6]
        exact q5
    have z2 := this D _ (SU st) h11 rfl z
    rw [e] at z2
    exact z2
  obtain ⟨s1, s2, s3, s4⟩ := eu_stop (c := c) (p0 := 0) (S := (0, D.length, (SU st).2.2)) rfl rfl h4 h8 hcl
  refine ⟨u1, v, f1, j, h1, h2, h3, h4', h5, h6, h7, h8, s3, s1, s2, s4, ?_, h10⟩
  intro A
  have h0E : all0 (ET D.length 0) := by
    unfold ET
    rw [if_pos rfl]
    intro T hT
    rcases List.mem_cons.1 hT with q | q
    · rw [q]; exact ⟨rfl, Nat.le_refl _⟩
    · exact all0_fill _ (Nat.zero_le _) T q
  have z := h9 f1 [] h8 (fun _ _ => rfl) rfl
  rw [List.append_nil] at z
  refine vt_st (A := (SU st).2.2) A (PL3.of0 (all0_app h11 h0E)) ⟨z, ?_⟩
  rw [runs0 _ _ (all0_app h11 h0E) rfl]
  show 0 + (D ++ ET D.length 0).length ≤ 8 * j
  rw [List.length_append, Nat.zero_add]
  unfold ET
  rw [if_pos rfl]
  unfold fillT
  rw [List.length_cons, List.length_replicate]
  omega
