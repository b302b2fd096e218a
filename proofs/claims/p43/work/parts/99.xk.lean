/-! a BLOCK that is passed over, on both sides -/
theorem pc_plan0 {G : GG} {M : DD} (hR : FR M) (hG : G.2.2 136 = 16 ∧ G.2.2 135 = 80) : PC (FX9_plan G M 125 0 0) (fun y => (y.1 125 14).toInt = 1 ∧ (y.1 125 16).toInt = 1) := by
  unfold FX9_plan
  refine pc_ltt (fun M1 e1 => pc_ltt (fun M2 e2 => ?_))
  have hR2 : FR M2 := by rw [e2, e1]; exact hR
  have h14 : M2.1 125 14 = 0 := by rw [e2, uI_n _ _ (by omega), e1, uI_s]
  have h16 : M2.1 125 16 = 0 := by rw [e2, uI_s]
  rw [if_pos rfl, if_pos (show (0 : Int32) ≤ 2 by decide)]
  refine pc_bnd (Q := fun y => y = 0) (pc_if (fun _ => pc_some rfl) (fun q => absurd rfl q)) ?_
  intro y46 e46
  refine pc_ltt (fun x47 _ => pc_ltt (fun x48 _ => ?_))
  refine pc_bnd (Q := fun _ => True) (fun _ _ => trivial) ?_
  intro y49 _
  refine pc_bnd (Q := fun _ => True) (fun _ _ => trivial) ?_
  intro y50 _
  rw [if_pos e46]
  refine pc_bnd (Q := fun y => (y.1 125 14).toInt = 1 ∧ (y.1 125 16).toInt = 1) ?_ (fun y h => pc_some h)
  refine pc_bnd (pc_addGroup hR2 hG.1 (g := 0) (by rw [h16]; rfl) (by decide)) ?_
  rintro y63 ⟨v, hv, -, ey⟩
  have h16' : (y63.1 125 16).toInt = 1 := by
    rw [ey]
    have : (aG M2 0 0 16 16 y49 v).1 125 16 = v := by simp [aG, uI]
    rw [this, hv]; rfl
  have h14' : y63.1 125 14 = 0 := by
    rw [ey]
    have : (aG M2 0 0 16 16 y49 v).1 125 14 = M2.1 125 14 := by simp [aG, uI]
    rw [this, h14]
  have hR3 : FR y63 := by rw [ey]; exact hR2
  refine pc_bnd (pc_addPart hR3 hG.2 (k := 0) (by rw [h14']; rfl) (by decide) (g := 0) (by rw [h16']; rfl) (by decide)) ?_
  rintro y64 ⟨v2, hv2, -, ey2⟩
  refine pc_some ⟨?_, ?_⟩
  · rw [ey2]
    have : (aP y63 0 0 16 16 (y63.1 136 (4 * 0 + 3)) 0 v2).1 125 14 = v2 := by simp [aP, uI]
    rw [this, hv2]; rfl
  · rw [ey2]
    have : (aP y63 0 0 16 16 (y63.1 136 (4 * 0 + 3)) 0 v2).1 125 16 = y63.1 125 16 := by simp [aP, uI]
    rw [this]; exact h16'
theorem c_skip {mu : Nat → Nat} {G H : GG} {M N : DD} {p : Nat} {L : List Nat} (t : CX mu G H M N p L) (hR : FR M) {p0 : Int32} {a0 : Int} (i0 : TI p0 a0) (h0 : 0 ≤ a0) (h1 : a0 ≤ 3) (hw : (M.1 p 1).toInt = 1 ∨ (M.1 p 1).toInt = 2) (hl : G.2.2 135 = 80 ∧ G.2.2 136 = 16) : LKS (FX9_skip G M 125 p0) (FX9_skip H N (mu 125) p0) (fun y z => Up mu p M N y z) := by
  unfold FX9_skip
  refine rl_bnd (c_guessSkipped t i0 h0 h1 hw) ?_
  rintro y1 z1 ⟨u1, A18, A19⟩
  have hR1 : FR y1 := by
    intro a k h
    rw [u1.1.1]
    exact hR a k h
  refine rl_bnd (rl_and (pc_plan0 hR1 ⟨hl.2, hl.1⟩) (c_plan (cx_up t u1) (p0 := 0) (p1 := 0) hl (fun q => by
    rcases q with q | q
    · exact absurd q.2 (by decide)
    · exact absurd q.2 (by decide)))) ?_
  rintro y2 z2 ⟨⟨g14, g16⟩, u2, tp⟩
  have u12 := up_tr u1 u2
  refine rl_bnd (c_setReference (cx_up t u12) (a1 := 0) tn_0 (a2 := 0) tn_0 (a3 := 0) tn_0 (by decide) (by decide) (by decide) (by decide) (by decide) (by decide) ?_) ?_
  · intro k hk
    refine tp.2.2.1 k ?_
    have : (k : Int) ≤ 4 * 0 + 3 := hk.2
    show (k : Int) < 4 * (y2.1 125 16).toInt
    omega
  intro y3 z3 u3
  refine rl_rd (ag_up u3 (ag_up u2 A18)) (fun x4 => rl_rd (ag_up u3 (ag_up u2 A19)) (fun x5 => ?_))
  refine rl_bnd (c_setMove (cx_up t (up_tr u12 u3)) (a2 := 0) tn_0 (by decide) (by decide) ?_) ?_
  · intro k hk
    refine ag_up u3 (tp.2.2.2.1 k ?_)
    have : (k : Int) ≤ 5 * 0 + 4 := hk.2
    show (k : Int) < 5 * (y2.1 125 14).toInt
    omega
  intro y6 z6 u6
  exact rl_some (up_tr (up_tr u12 u3) u6)
