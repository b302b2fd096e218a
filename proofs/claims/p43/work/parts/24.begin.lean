/-- ARITH begins, the states as they are -/
theorem beginArith_ok {G : GG} {M : DD} {a u t : Nat} {f : Nat → Nat} {n : Nat} {S : SS} (h : CW G M a u t f n S) (h0 : S.1 = 0) : OK (FX10_beginArith G M a) (fun y => CS G M a u t f n S [(2, 0, 0)] G y) := by
  have e0 : (0 : Int32).toInt = 0 := rfl
  have e1 : (1 : Int32).toInt = 1 := rfl
  have e510 : (510 : Int32).toInt = 510 := rfl
  obtain ⟨g1, g2, g3, g4, g5⟩ := h.lt
  have hwb := h.wb
  obtain ⟨⟨s1, s2, s3, s4, s5⟩, s6, s7, s8⟩ := h
  have hn : n = S.2.1 := by
    rcases s8 with ⟨-, q, -⟩ | ⟨q, -⟩
    · exact q
    · omega
  unfold FX10_beginArith
  refine ok_lt (ok_lt (ok_lt (ok_chk (Or.inr rfl) (ok_lt (ok_chk (Or.inr rfl) (ok_lt (ok_some ?_)))))))
  have hrun : runs [((2, 0, 0) : Tok)] S = (1, S.2.1, A0 S.2.2.2.2.2) := by
    show nxt (2, 0, 0) S = _
    unfold nxt
    rw [if_neg (by simp), if_neg (by simp), if_pos rfl]
  have hAok : AOk (A0 S.2.2.2.2.2) := ⟨show 256 ≤ 510 by decide, show 510 ≤ 510 by decide, s6, show 0 + 510 ≤ 2 ^ (9 + 0) by decide⟩
  have hta : ¬ t = a := g4
  refine ⟨u, f, n, Or.inl rfl, ⟨⟨s1, s2, s3, s4, fun j hj => ?_⟩, ?_, s7, Or.inr ⟨?_, ?_, ?_, 0, 0, 1, 0, ?_, ?_⟩⟩, fun _ _ => rfl, Nat.le_refl _, ?_, ?_⟩
  · rw [hrun]
    have : (uI (uI (uI (uI (uI M a 9 0) a 10 510) a 11 0) a 12 1) a 8 1).1 t j = M.1 t j := by simp [uI, hta]
    rw [this]
    exact s5 j hj
  · rw [hrun]; exact s6
  · rw [hrun]
  · rw [hrun]; exact hAok
  · rw [uI_s]; exact e1
  · rw [hrun, hn]; rfl
  · rw [hrun]
    refine ⟨?_, ⟨by simp [A0, pv], rfl, Nat.le_refl _, fun _ => rfl⟩, ?_, ?_, ?_, ?_, show 0 + 510 ≤ 1024 by decide, show 0 + 510 ≤ 2 ^ (9 + 0) by decide⟩
    · dsimp only
      rw [Nat.add_zero, ← hn]
      exact ((((hwb.fld (by decide) _).fld (by decide) _).fld (by decide) _).fld (by decide) _).fld (by decide) _
    · simp [uI]
    · simp [uI, A0]
    · simp [uI]
    · simp [uI]
  · intro x j hx hxu hxt hxk
    refine ⟨?_, rfl⟩
    rw [uI_n _ _ (fun q => hxk ⟨q.1, by simp [q.2]⟩), uI_n _ _ (fun q => hxk ⟨q.1, by simp [q.2]⟩), uI_n _ _ (fun q => hxk ⟨q.1, by simp [q.2]⟩), uI_n _ _ (fun q => hxk ⟨q.1, by simp [q.2]⟩), uI_n _ _ (fun q => hxk ⟨q.1, by simp [q.2]⟩)]
  · intro ff D2 hff hfe hv
    rw [hrun] at hv
    exact ⟨h0, hv⟩
/-- bits 1 up to a byte, the states at first, ARITH -/
def dataT (q : Nat) : List Tok := fillT q 1 ++ [(3, 0, 0)]
set_option maxHeartbeats 2000000 in
theorem beginData_ok {G : GG} {M : DD} {a u t : Nat} {f : Nat → Nat} {n : Nat} {S : SS} (h : CW G M a u t f n S) (h0 : S.1 = 0) (hn : S.2.1 ≤ 700000) : OK (FX10_beginData G M a) (fun y => CS G M a u t f n S (dataT S.2.1) (xt G y.1) y.2) := by
  have e0 : (0 : Int32).toInt = 0 := rfl
  have e1 : (1 : Int32).toInt = 1 := rfl
  unfold FX10_beginData
  refine ok_bnd (fill_ok (bb := 1) (h.xt0 [] h.2.2.1) h0 hn e1 (Nat.le_refl 1)) (fun y1 h1 => ok_app (ok_lt ?_))
  rw [xt_xt, List.nil_append] at h1
  have h1 : CS G M a u t f n S (fillT S.2.1 1) (xt G y1.1) y1.2 := h1
  obtain ⟨u1, f1, n1, hCR⟩ := h1
  have hCW := hCR.2.1
  have hrr := runs_rep 1 ((8 - S.2.1 % 8) % 8) S h0
  have hS1 : (runs (fillT S.2.1 1) S).1 = 0 := by
    unfold fillT
    rw [hrr]
  obtain ⟨g1, g2, g3, g4, g5⟩ := hCW.lt
  have hC2 := hCW
  obtain ⟨⟨s1, s2, s3, s4, s5⟩, s6, s7, s8⟩ := hCW
  rw [List.nil_append]
  rw [s1]
  refine ok_bnd (fillA_ok (v := 0) s2 s3 (by omega)) (fun y6 h6 => ?_)
  obtain ⟨r1, r2, r3, r4⟩ := h6
  have hwb : WB (xt G y1.1) y6 a u1 f1 n1 := by
    have hw := hC2.wb
    obtain ⟨⟨v1, v2, v3, v4, v5⟩, v6, v7, v8, v9, v10, v11, v12⟩ := hw
    have hat : a ≠ t := fun e => g4 e.symm
    refine ⟨⟨v1, v2, by rw [r1]; exact v3, v4, v5⟩, v6, ?_, ?_, ?_, fun j hj => ?_, v11, fun j => ?_⟩
    · rw [r2 a 5 hat]; exact v7
    · rw [r2 a 7 hat]; exact v8
    · rw [r2 a 6 hat]; exact v9
    · rw [r2 u1 _ g5]; exact v10 j hj
    · rw [r2 u1 _ g5]; exact v12 j
  -- the state with the states at first, as a plain one
  have hP : (runs (fillT S.2.1 1) S).1 = 0 ∧ n1 = (runs (fillT S.2.1 1) S).2.1 ∧ WB (xt G y1.1) y1.2 a u1 f1 n1 ∧ (y1.2.1 a 8).toInt = 0 ∧ (y1.2.1 a 11).toInt = 0 ∧ (y1.2.1 a 12).toInt = 0 := by
    rcases s8 with q | ⟨q, -⟩
    · exact q
    · omega
  obtain ⟨-, p2, -, p4, p5, p6⟩ := hP
  have hat : a ≠ t := fun e => g4 e.symm
  have hCz : CW (xt G y1.1) y6 a u1 t f1 n1 (0, (runs (fillT S.2.1 1) S).2.1, A0 (fun _ => 0)) := by
    refine ⟨⟨by rw [r1]; exact s1, s2, s3, s4, fun j hj => ?_⟩, fun _ => by show (0 : Nat) < 126; decide, ?_, Or.inl ⟨rfl, p2, hwb, ?_, ?_, ?_⟩⟩
    · rw [r3 j (by omega)]; rfl
    · intro x hx j c hc
      rw [r1] at hc
      exact s7 x hx j c hc
    · rw [r2 a 8 hat]; exact p4
    · rw [r2 a 11 hat]; exact p5
    · rw [r2 a 12 hat]; exact p6
  refine ok_bnd (beginArith_ok hCz rfl) (fun y7 h7 => ok_some ?_)
  dsimp only
  rw [List.append_nil]
  unfold dataT
  refine hCR.tr (xt_ge G _) ?_
  obtain ⟨v, g, mm, z1, z2, z3, z4, z5, z6⟩ := h7
  have hr1 : runs [((2, 0, 0) : Tok)] (0, (runs (fillT S.2.1 1) S).2.1, A0 (fun _ => 0)) = (1, (runs (fillT S.2.1 1) S).2.1, A0 (fun _ => 0)) := rfl
  have hr2 : runs [((3, 0, 0) : Tok)] (runs (fillT S.2.1 1) S) = (1, (runs (fillT S.2.1 1) S).2.1, A0 (fun _ => 0)) := rfl
  rw [hr1] at z2 z6
  refine ⟨v, g, mm, z1, by rw [hr2]; exact z2, z3, z4, ?_, ?_⟩
  · intro x k hx hxu hxt hxk
    obtain ⟨q1, q2⟩ := z5 x k hx hxu hxt hxk
    exact ⟨q1.trans (r2 x k hxt), q2.trans (by rw [r1])⟩
  · intro ff D2 hff hfe hv
    rw [hr2] at hv
    exact ⟨hS1, hv⟩
