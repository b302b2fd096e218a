/-! steps that only one of the two takes -/
/-- where coder and decoder are compared -/
def DOM (G : GG) (c : Nat) : Prop := 125 ≤ c ∧ c < G.1 ∧ G.2.1 c ≠ 12
/-- the coder's step that doesn't touch what is compared -/
def LS1 (G : GG) (M M' : DD) : Prop := ∀ c k, DOM G c → M'.1 c k = M.1 c k ∧ M'.2 c k = M.2 c k
/-- the decoder's -/
def RS1 (mu : Nat → Nat) (G : GG) (N N' : DD) : Prop := ∀ c k, DOM G c → N'.1 (mu c) k = N.1 (mu c) k ∧ N'.2 (mu c) k = N.2 (mu c) k
theorem ls_rf (G : GG) (M : DD) : LS1 G M M := fun _ _ _ => ⟨rfl, rfl⟩
theorem ls_tr {G : GG} {M M1 M2 : DD} (h : LS1 G M M1) (g : LS1 G M1 M2) : LS1 G M M2 := fun c k d => ⟨(g c k d).1.trans (h c k d).1, (g c k d).2.trans (h c k d).2⟩
theorem rs1_rf (mu : Nat → Nat) (G : GG) (N : DD) : RS1 mu G N N := fun _ _ _ => ⟨rfl, rfl⟩
theorem rs1_tr {mu : Nat → Nat} {G : GG} {N N1 N2 : DD} (h : RS1 mu G N N1) (g : RS1 mu G N1 N2) : RS1 mu G N N2 := fun c k d => ⟨(g c k d).1.trans (h c k d).1, (g c k d).2.trans (h c k d).2⟩
theorem ag_ls {mu : Nat → Nat} {G : GG} {M M' N N' : DD} (h : LS1 G M M') (g : RS1 mu G N N') {c k : Nat} (d : DOM G c) (A : Ag mu M N c k) : Ag mu M' N' c k := by
  show N'.1 (mu c) k = M'.1 c k
  rw [(h c k d).1, (g c k d).1]
  exact A
/-- cells by number and pictures lie where is compared -/
def DG (G : GG) (L : List Nat) : Prop := 222 ≤ G.1 ∧ (∀ i, i < 222 → G.2.1 i = kdL.getD i 0) ∧ ∀ q, q ∈ L → ∀ j, j ≤ 11 → DOM G (q + j)
theorem dg_n {G : GG} {L : List Nat} (h : DG G L) {c : Nat} (hc : (decide (125 ≤ c) && decide (c < 222) && !(kdL.getD c 0 == 12)) = true) : DOM G c := by
  simp only [Bool.and_eq_true, decide_eq_true_eq, Bool.not_eq_true', beq_eq_false_iff_ne] at hc
  exact ⟨hc.1.1, by have := h.1; omega, by rw [h.2.1 c hc.1.2]; exact hc.2⟩
theorem rfs_ls {mu : Nat → Nat} {G : GG} {M M' N N' : DD} {p : Nat} {L : List Nat} (D : DG G L) (h : LS1 G M M') (g : RS1 mu G N N') (r : RFS mu M N p L) : RFS mu M' N' p L := by
  have e : ∀ c k, DOM G c → M'.2 c k = M.2 c k ∧ N'.2 (mu c) k = N.2 (mu c) k := fun c k d => ⟨(h c k d).2, (g c k d).2⟩
  obtain ⟨r1, r2, r3, r4⟩ := r
  have d5 : DOM G 125 := dg_n D rfl
  have d6 : DOM G 126 := dg_n D rfl
  refine ⟨?_, ⟨(e _ _ d5).1.trans r2.1, (e _ _ d5).2.trans r2.2.1, r2.2.2⟩, ?_, ?_⟩
  · intro a k ha hk
    have da : DOM G a := by
      rcases ha with q | q | q | q <;> rw [q] <;> exact dg_n D rfl
    exact ⟨(e _ _ da).1.trans (r1 a k ha hk).1, (e _ _ da).2.trans (r1 a k ha hk).2⟩
  · intro q hq
    obtain ⟨h0, a1, a2, a3, a4, a5, a6, a7, a8⟩ := r3 q hq
    have d0 : DOM G q := D.2.2 q hq 0 (by omega)
    have d2 : DOM G (q + 2) := D.2.2 q hq 2 (by omega)
    exact ⟨h0, ⟨(e _ _ d0).1.trans a1.1, (e _ _ d0).2.trans a1.2⟩, ⟨(e _ _ d0).1.trans a2.1, (e _ _ d0).2.trans a2.2⟩, ⟨(e _ _ d0).1.trans a3.1, (e _ _ d0).2.trans a3.2⟩, ⟨(e _ _ d0).1.trans a4.1, (e _ _ d0).2.trans a4.2⟩, ⟨(e _ _ d0).1.trans a5.1, (e _ _ d0).2.trans a5.2⟩, ⟨(e _ _ d2).1.trans a6.1, (e _ _ d2).2.trans a6.2⟩, ⟨(e _ _ d2).1.trans a7.1, (e _ _ d2).2.trans a7.2⟩, ⟨(e _ _ d2).1.trans a8.1, (e _ _ d2).2.trans a8.2⟩⟩
  · intro k
    rcases r4 k with q | ⟨q, h1, h2, h3⟩
    · exact Or.inl ⟨(e _ _ d6).1.trans q.1, (e _ _ d6).2.trans q.2⟩
    · exact Or.inr ⟨q, h1, (e _ _ d6).1.trans h2, (e _ _ d6).2.trans h3⟩
theorem bac_d {c k : Nat} (h : BAC c k = true) : c = 125 ∨ c = 129 ∨ c = 130 ∨ c = 131 ∨ c = 132 ∨ c = 133 ∨ c = 216 ∨ c = 220 := by
  unfold BAC at h
  by_cases a : c = 129
  · omega
  by_cases b : c = 130
  · omega
  by_cases d : c = 131
  · omega
  by_cases e : c = 132
  · omega
  by_cases f : c = 133
  · omega
  by_cases g : c = 125
  · omega
  by_cases i : c = 216
  · omega
  by_cases j : c = 220
  · omega
  rw [if_neg a, if_neg b, if_neg d, if_neg e, if_neg f, if_neg g, if_neg i, if_neg j] at h
  exact absurd h (by decide)
theorem baq_d {j k : Nat} (h : BAQ j k = true) : j ≤ 11 := by
  unfold BAQ at h
  by_cases a : j = 0
  · omega
  rw [if_neg a] at h
  simp only [Bool.and_eq_true, decide_eq_true_eq] at h
  exact h.2
theorem cx_ls {mu : Nat → Nat} {G H : GG} {M M' N N' : DD} {p : Nat} {L : List Nat} (D : DG G L) (h : LS1 G M M') (g : RS1 mu G N N') (t : CX mu G H M N p L) : CX mu G H M' N' p L := by
  obtain ⟨t1, t2, t3, t4, t5, t6⟩ := t
  have e : ∀ c k, DOM G c → M'.1 c k = M.1 c k := fun c k d => (h c k d).1
  refine ⟨t1, rfs_ls D h g t2, ?_, ?_, ?_, ?_⟩
  · intro c k hc
    refine ag_ls h g ?_ (t3 c k hc)
    rcases bac_d hc with q | q | q | q | q | q | q | q <;> rw [q] <;> exact dg_n D rfl
  · intro q j k hq hj
    exact ag_ls h g (D.2.2 q hq j (baq_d hj)) (t4 q j k hq hj)
  · rw [e 220 6 (dg_n D rfl)]; exact t5
  · intro a b k
    rw [e 216 1 (dg_n D rfl)] at a
    rw [e 220 5 (dg_n D rfl)] at b
    exact ag_ls h g (dg_n D rfl) (t6 a b k)
theorem fg_ls {mu : Nat → Nat} {G : GG} {M M' N N' : DD} {c : Nat} {C : Nat → Prop} (h : LS1 G M M') (g : RS1 mu G N N') (d : DOM G c) (F : FG mu M N c C) : FG mu M' N' c C := fun k hk => ag_ls h g d (F k hk)
theorem tp_ls {mu : Nat → Nat} {G : GG} {L : List Nat} {M M' N N' : DD} (D : DG G L) (h : LS1 G M M') (g : RS1 mu G N N') (t : TPL mu M N) : TPL mu M' N' := by
  obtain ⟨t1, t2, t3, t4, t5, t6⟩ := t
  have d5 : DOM G 125 := dg_n D rfl
  unfold TPL
  rw [(h 125 16 d5).1, (h 125 14 d5).1]
  exact ⟨ag_ls h g d5 t1, ag_ls h g d5 t2, fg_ls h g (dg_n D rfl) t3, fg_ls h g (dg_n D rfl) t4, t5, t6⟩
/-- the cells of the reader are no image of what is compared -/
def MS (mu : Nat → Nat) (G : GG) (d : Nat) : Prop := ∀ c, DOM G c → mu c ≠ 13 ∧ mu c ≠ 14 ∧ mu c ≠ 15 ∧ mu c ≠ d
theorem ry_rs {mu : Nat → Nat} {G : GG} {d : Nat} {N N' : DD} (h : MS mu G d) (g : RY N 13 14 15 N') : RS1 mu G N N' := by
  intro c k hc
  obtain ⟨a, b, e, -⟩ := h c hc
  exact ⟨g.2 (mu c) k b e (fun q => a q.1), by rw [g.1]⟩
/-- the reader stands in a unit, D is to come -/
def RAt (G : GG) (N : DD) (d : Nat) (f : Nat → Nat) (T : Nat) (D : List Tok) : Prop := ∃ S : SS, RD G N 13 d 14 f T S ∧ RE G N 13 15 14 S ∧ VT f T D S
theorem ra_fixed {G : GG} {N : DD} {d : Nat} {f : Nat → Nat} {T : Nat} {D : List Tok} {e V m : Nat} {p0 p1 : Int32} (h : RAt G N d f T (toks e V m ++ D)) (he : p0.toInt = e) (he2 : e ≤ 16) (hm : p1.toInt = m) (h1 : 1 ≤ m) (h2 : m ≤ 30) (hV : V < 2 ^ m) : OK (FX5_fixed G N 13 p0 p1) (fun y => y.2.toInt = V ∧ RAt G y.1 d f T D ∧ RY N 13 14 15 y.1) := by
  obtain ⟨S, a1, a2, a3⟩ := h
  refine (fixed_ok a1 a2 (rd_ne a1 a2) a3 (Nat.le_trans (VT.skip a3).2 a1.1.2.2.2.2.2.2.2) he he2 hm h1 h2 hV).mono ?_
  rintro y ⟨b1, b2, b3, b4, b5⟩
  exact ⟨b1, ⟨_, b2, b3, b4⟩, b5⟩
theorem ra_number {G : GG} {N : DD} {d : Nat} {f : Nat → Nat} {T : Nat} {D : List Tok} {e v kind : Nat} {p0 p1 : Int32} {p2 p3 : Int64} (h : RAt G N d f T (ueT e v ++ D)) (he : p0.toInt = e) (he2 : e ≤ 16) (hv2 : v < 1000000000) (hk : p1.toInt = kind) (hte : kind = 2 → p3.toInt ≠ 1) (hlo : p2.toInt ≤ numV kind v) (hhi : numV kind v ≤ p3.toInt) : OK (FX5_number G N 13 p0 p1 p2 p3) (fun y => y.2.toInt = numV kind v ∧ RAt G y.1 d f T D ∧ RY N 13 14 15 y.1) := by
  obtain ⟨S, a1, a2, a3⟩ := h
  refine (number_ok a1 a2 (rd_ne a1 a2) a3 (Nat.le_trans (VT.skip a3).2 a1.1.2.2.2.2.2.2.2) he he2 hv2 hk hte hlo hhi).mono ?_
  rintro y ⟨b1, b2, b3, b4, b5⟩
  exact ⟨b1, ⟨_, b2, b3, b4⟩, b5⟩
/-- others' steps -/
theorem ra_by {G : GG} {N N' : DD} {d : Nat} {f : Nat → Nat} {T : Nat} {D : List Tok} (h : RAt G N d f T D) (h2 : N'.2 = N.2) (h1 : ∀ x k, x = 13 ∨ x = d ∨ x = 14 → N'.1 x k = N.1 x k) : RAt G N' d f T D := by
  obtain ⟨S, a1, a2, a3⟩ := h
  refine ⟨S, a1.by h2 ?_, a2.by h2 (h1 13 12 (Or.inl rfl)) (h1 13 7 (Or.inl rfl)) (Nat.le_refl _) (fun q => q), a3⟩
  intro x k q
  rcases q with q | q | q
  · exact h1 x k (Or.inl q.1)
  · exact h1 x k (Or.inr (Or.inl q))
  · exact h1 x k (Or.inr (Or.inr q))
theorem bbc_d {c k : Nat} (h : BBC c k = true) : c = 125 ∨ c = 216 ∨ c = 220 := by
  unfold BBC at h
  by_cases g : c = 125
  · omega
  by_cases i : c = 216
  · omega
  by_cases j : c = 220
  · omega
  rw [if_neg g, if_neg i, if_neg j] at h
  exact absurd h (by decide)
theorem bx_ls {mu : Nat → Nat} {G H : GG} {M M' N N' : DD} {p : Nat} {L : List Nat} (D : DG G L) (h : LS1 G M M') (g : RS1 mu G N N') (t : BX mu G H M N p L) : BX mu G H M' N' p L := by
  obtain ⟨t1, t2, t3, t4, t5⟩ := t
  refine ⟨t1, rfs_ls D h g t2, ?_, ?_, ?_⟩
  · intro c k hc
    refine ag_ls h g ?_ (t3 c k hc)
    rcases bbc_d hc with q | q | q <;> rw [q] <;> exact dg_n D rfl
  · intro q j k hq hj
    have hj0 : j = 0 := by
      unfold BBQ at hj
      simp only [Bool.and_eq_true, beq_iff_eq] at hj
      exact hj.1
    exact ag_ls h g (D.2.2 q hq j (by omega)) (t4 q j k hq hj)
  · intro q j k hq hp hj
    exact ag_ls h g (D.2.2 q hq j (by omega)) (t5 q j k hq hp hj)
