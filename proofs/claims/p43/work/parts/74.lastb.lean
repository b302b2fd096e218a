/-! The last bit that END with flush puts is 1 -/
set_option maxHeartbeats 4000000 in
theorem last1b_ok {G : GG} {M : DD} {a u t : Nat} {f : Nat → Nat} {m : Nat} {S : SS} {p0 : Int32} (h : CW G M a u t f m S) (h1 : S.1 = 1) (hp : ¬ p0.toInt = 0) (hB : Bd S ≤ 800000) : OK (FX10_last G M a p0) (fun y => ∃ v w n, CR G M a u t f m S [(1, 0, 1)] (xt G y.1) y.2 v w n ∧ 1 ≤ n ∧ w (n - 1) = 1) := by
  have e2 : (2 : Int32).toInt = 2 := rfl
  have e1 : (1 : Int32).toInt = 1 := rfl
  have e0 : (0 : Int32).toInt = 0 := rfl
  obtain ⟨g1, g2, g3, g4, g5⟩ := h.lt
  obtain ⟨⟨s1, s2, s3, s4, s5⟩, s6, s7, s8⟩ := h
  have hA : AOk S.2.2 ∧ (M.1 a 8).toInt = 1 ∧ ∃ k o fi low, m = S.2.1 + k ∧ WA G M a u f S.2.1 k o fi low S.2.2 := by
    rcases s8 with ⟨q, -⟩ | ⟨-, q1, q2, q3⟩
    · omega
    · exact ⟨q1, q2, q3⟩
  obtain ⟨hAo, h8, k, o, fi, low, hn, w1, w2, w3, w4, w5, w6, w7, w8⟩ := hA
  obtain ⟨a1, a2, a3, a4⟩ := hAo
  have hpz : ¬ p0 = 0 := fun q => hp (by rw [q]; rfl)
  unfold FX10_last
  have hx2 : (M.1 a 10 - (2 : Int32)).toInt = ((S.2.2.2.1 - 2 : Nat) : Int) := by
    rw [ti_sub (by omega) (by omega), w4, e2]
    omega
  refine ok_lt (ok_lt (ok_lt (ok_bnd (Q := fun y : DD => y.2 = M.2 ∧ (∀ x j, ¬ (x = a ∧ (j = 9 ∨ j = 10)) → y.1 x j = M.1 x j) ∧ (y.1 a 9).toInt = ((low + (S.2.2.2.1 - 2) : Nat) : Int) ∧ (y.1 a 10).toInt = 2) (ok_if (fun c => absurd c hpz) (fun _ => ok_lt (ok_lt (ok_lt (ok_lt (ok_lt (ok_some ?_))))))) (fun y4 h4 => ?_))))
  · refine ⟨rfl, fun x j hx => ?_, ?_, ?_⟩
    · rw [uI_n _ _ (fun q => hx ⟨q.1, Or.inr q.2⟩), uI_n _ _ (fun q => hx ⟨q.1, Or.inl q.2⟩), uI_n _ _ (fun q => hx ⟨q.1, Or.inr q.2⟩)]
    · rw [uI_n _ _ (by simp), uI_s, uI_s, uI_n _ _ (by simp), ti_add (by omega) (by omega), w3, hx2]
      omega
    · rw [uI_s]; exact e2
  obtain ⟨r1, r2, r3, r4⟩ := h4
  -- L1 with range 2
  generalize hL1 : S.2.2.1 + (S.2.2.2.1 - 2) = L1
  have hAW1 : AW f S.2.1 k o fi (low + (S.2.2.2.1 - 2)) L1 S.2.2.2.2.1 := by
    obtain ⟨b1, b2⟩ := w2
    exact ⟨by omega, b2⟩
  have hWA : WA (xt G []) y4 a u f S.2.1 k o fi (low + (S.2.2.2.1 - 2)) (L1, 2, S.2.2.2.2.1, S.2.2.2.2.2) := by
    have hw := w1.xt []
    obtain ⟨⟨v1, v2, v3, v4, v5⟩, v6, v7, v8, v9, v10, v11, v12⟩ := hw
    refine ⟨⟨⟨v1, v2, by rw [r1]; exact v3, v4, v5⟩, v6, ?_, ?_, ?_, fun j hj => ?_, v11, fun j => ?_⟩, hAW1, r3, r4, ?_, ?_, ?_, ?_⟩
    · rw [r2 a 5 (by simp)]; exact v7
    · rw [r2 a 7 (by simp)]; exact v8
    · rw [r2 a 6 (by simp)]; exact v9
    · rw [r2 u _ (fun q => g3 q.1)]; exact v10 j hj
    · rw [r2 u _ (fun q => g3 q.1)]; exact v12 j
    · rw [r2 a 11 (by simp)]; exact w5
    · rw [r2 a 12 (by simp)]; exact w6
    · show low + (S.2.2.2.1 - 2) + 2 ≤ 1024; omega
    · show L1 + 2 ≤ _; exact Nat.le_trans (by omega) a4
  have hC4 : Clo (xt G []) y4 := by
    intro x hx j c hc
    rw [r1] at hc
    exact s7 x hx j c hc
  have hB2 : S.2.1 + S.2.2.2.2.1 ≤ 800000 := by
    have : Bd S = S.2.1 + S.2.2.2.2.1 := by unfold Bd; rw [if_neg (by omega)]
    omega
  refine ok_bnd (widen_ok hWA hC4 (by show 1 ≤ 2; omega) (by show 2 ≤ 510; omega) (by show S.2.1 + S.2.2.2.2.1 ≤ 900000; omega)) (fun y5 h5 => ok_app (ok_lt ?_))
  obtain ⟨u2, k2, o2, f2, l2, g, q1, ⟨x1, x2, x3, x4, x5, x6, x7, x8⟩, q3, q4, q5, q6⟩ := h5
  have hrA : ren (L1, 2, S.2.2.2.2.1, S.2.2.2.2.2) = (L1 * 128, 256, S.2.2.2.2.1 + 7, S.2.2.2.2.2) := by
    unfold ren
    rw [shn_2]
    rfl
  rw [hrA] at x2 x4 x7 x8
  dsimp only at x2 x4 x7 x8
  rw [xt_xt, List.nil_append] at x1 q5
  have q1 : u2 = u ∨ G.1 ≤ u2 := q1
  have q6 : WX G y4 a u y5.2 := q6
  obtain ⟨c1, c2, c3, c4⟩ := x2
  have x2 : AW g S.2.1 k2 o2 f2 l2 (L1 * 128) (S.2.2.2.2.1 + 7) := ⟨c1, c2, c3, c4⟩
  have hg1 := x1.2.2.2.2.2.2.1
  -- the three bits
  have hb9 : ((y5.2.1 a 9 >>> ((9 : Int32) &&& 31)) &&& (1 : Int32)).toInt = (l2 / 512 % 2 : Nat) := by
    rw [pz_and1, pz_sar9, x3]
    omega
  refine ok_bnd (Q := fun y : NN × DD => ∃ v w, (v = u ∨ G.1 ≤ v) ∧ WB (xt G (y5.1 ++ y.1)) y.2 a v w (S.2.1 + (S.2.2.2.2.1 + 9)) ∧ pv w S.2.1 (S.2.2.2.2.1 + 9) = 2 * (L1 / 2) + 1 ∧ (∀ i, i < S.2.1 + k → w i = f i) ∧ (y.2.1 a 8).toInt = 0 ∧ (y.2.1 a 11).toInt = 0 ∧ (y.2.1 a 12).toInt = 0 ∧ Clo (xt G (y5.1 ++ y.1)) y.2 ∧ WY G M a u t y.2 ∧ (∀ j, y.2.1 t j = M.1 t j) ∧ y.2.2 a 13 = M.2 a 13) (ok_if (fun c => absurd c hpz) (fun _ => ok_lt (ok_lt (ok_lt ?_)))) (fun y10 h10 => ?_)
  · refine ok_bnd (put_ok (G := xt G ([] ++ y5.1)) (bb := l2 / 512 % 2) (by rw [List.nil_append]; exact x1) (by rw [List.nil_append]; exact q5) (by omega) x5 x6 c3 hb9 (by omega)) (fun y19 h19 => ok_app (ok_lt (ok_lt (ok_lt (ok_lt ?_)))))
    obtain ⟨ua, A1, A2, A3, A4, A5, A6⟩ := h19
    rw [List.nil_append] at A1 A2 A5 A6
    rw [show S.2.1 + k2 + o2 + 1 - f2 = S.2.1 + (S.2.2.2.2.1 + 7) by omega] at A2
    have h19l : (y19.2.1 a 9).toInt = l2 := by rw [(A6 a 9 x1.1.1 (fun e => x1.ne e.symm) (by simp)).1]; exact x3
    have hb8 : ((y19.2.1 a 9 >>> ((8 : Int32) &&& 31)) &&& (1 : Int32)).toInt = (l2 / 256 % 2 : Nat) := by
      rw [pz_and1, pz_sar8, h19l]
      omega
    rw [xt_xt] at A2 A5
    refine ok_bnd (put_ok (G := xt G ([] ++ y5.1 ++ y19.1)) (o := 0) (fi := 0) (bb := l2 / 256 % 2) (by rw [List.nil_append]; exact A2) (by rw [List.nil_append]; exact A5) (by omega) A3 A4 (by omega) hb8 (by omega)) (fun y27 h27 => ok_app (ok_lt ?_))
    obtain ⟨ub, B1, B2, B3, B4, B5, B6⟩ := h27
    rw [List.nil_append] at B1 B2 B5 B6
    rw [show S.2.1 + (S.2.2.2.2.1 + 7) + 0 + 1 - 0 = S.2.1 + (S.2.2.2.2.1 + 8) by omega] at B2
    rw [xt_xt] at B2 B5
    refine ok_bnd (put_ok (G := xt G ([] ++ y5.1 ++ y19.1 ++ y27.1)) (o := 0) (fi := 0) (bb := 1) (by rw [List.nil_append]; exact B2) (by rw [List.nil_append]; exact B5) (by omega) B3 B4 (by omega) e1 (by omega)) (fun y32 h32 => ok_app (ok_lt (ok_chk (Or.inl rfl) (ok_lt (ok_some ?_)))))
    obtain ⟨uc, C1, C2, C3, C4, C5, C6⟩ := h32
    rw [List.nil_append] at C1 C2 C5 C6
    rw [show S.2.1 + (S.2.2.2.2.1 + 8) + 0 + 1 - 0 = S.2.1 + (S.2.2.2.2.1 + 9) by omega] at C2
    rw [xt_xt] at C2 C5
    dsimp only
    rw [List.append_nil, ← List.append_assoc, ← List.append_assoc]
    have hG1 : G.1 ≤ (xt G y5.1).1 := xt_ge G _
    have hua : ua = u ∨ G.1 ≤ ua := by
      rcases A1 with r | r
      · rw [r]; exact q1
      · exact Or.inr (Nat.le_trans hG1 r)
    have hub : ub = u ∨ G.1 ≤ ub := by
      rcases B1 with r | r
      · rw [r]; exact hua
      · exact Or.inr (Nat.le_trans (xt_ge G _) r)
    have huc : uc = u ∨ G.1 ≤ uc := by
      rcases C1 with r | r
      · rw [r]; exact hub
      · exact Or.inr (Nat.le_trans (xt_ge G _) r)
    have hW1 : WX G y4 a u y19.2 := q6.tr q1 A6.wx
    have hW2 : WX G y4 a u y27.2 := by
      rw [← xt_xt] at B6
      exact hW1.tr hua (by rw [xt_xt] at B6; exact B6.wx)
    have hW3 : WX G y4 a u y32.2 := hW2.tr hub C6.wx
    have hWM : ∀ x j, x < G.1 → x ≠ u → ¬ (x = a ∧ (j = 4 ∨ j = 5 ∨ j = 6 ∨ j = 7 ∨ j = 8 ∨ j = 9 ∨ j = 10 ∨ j = 11 ∨ j = 12)) → (uI y32.2 a 8 0).1 x j = M.1 x j ∧ (uI y32.2 a 8 0).2 x j = M.2 x j := by
      intro x j hx hxu hxk
      obtain ⟨p1, p2⟩ := hW3 x j hx hxu (fun q => hxk ⟨q.1, by rcases q.2 with z | z | z | z | z | z | z | z <;> simp [z]⟩)
      refine ⟨?_, ?_⟩
      · rw [uI_n _ _ (fun q => hxk ⟨q.1, by simp [q.2]⟩), p1, r2 x j (fun q => hxk ⟨q.1, by rcases q.2 with z | z <;> simp [z]⟩)]
      · rw [uI_p, p2, r1]
    refine ⟨uc, _, huc, C2.fld (by decide) _, aw_end x2 (by omega) (by rw [show 9 + (S.2.2.2.2.1 + 7) = 9 + (S.2.2.2.2.1 + 7) from rfl]; exact x8) rfl rfl rfl, fun i hi => ?_, ?_, ?_, ?_, C5, fun x j hx hxu _ hxk => hWM x j hx hxu hxk, fun j => (hWM t j s2 (fun e => g5 e.symm) (fun q => g4 q.1)).1, (hWM a 13 g1 (fun e => g3 e.symm) (by simp)).2⟩
    · rw [puts_lt (by omega), puts_lt (by omega), puts_lt (by omega)]
      exact q3 i hi
    · rw [uI_s]; exact e0
    · rw [uI_n _ _ (by simp)]; exact C3
    · rw [uI_n _ _ (by simp)]; exact C4
  · obtain ⟨v, w, d1, d2, d3, d4, d5, d6, d7, d8, d9, d10, d11⟩ := h10
    refine ok_app (ok_lt (ok_some ?_))
    dsimp only
    rw [List.append_nil]
    have hrun : runs [((1, 0, 1) : Tok)] S = (0, S.2.1 + 9 + S.2.2.2.2.1, S.2.2) := by
      show nxt (1, 0, 1) S = _
      unfold nxt
      rw [if_neg (by simp), if_pos rfl, if_neg (by simp)]
    have hpe : S.2.1 + (S.2.2.2.2.1 + 9) = S.2.1 + 9 + S.2.2.2.2.1 := by omega
    refine ⟨v, w, S.2.1 + (S.2.2.2.2.1 + 9), ⟨d1, ⟨⟨d11.trans s1, xt_lt _ s2, (xt_kk _ s2).trans s3, (xt_nn _ s2).trans s4, fun j hj => ?_⟩, ?_, d8, Or.inl ⟨?_, ?_, d2, d5, d6, d7⟩⟩, fun i hi => d4 i (by omega), by omega, d9, ?_⟩, by omega, ?_⟩
    · rw [hrun, d10]; exact s5 j hj
    · rw [hrun]; exact s6
    · rw [hrun]
    · rw [hrun]; exact hpe
    · intro ff D2 hff hfe hv
      rw [hrun] at hv
      show S.1 ≠ 0 ∧ (if (1 : Nat) = 0 then _ else Cons ff S.2.1 (S.2.2.1 + (S.2.2.2.1 - 2), 2, S.2.2.2.2) ∧ Val ff D2 (0, S.2.1 + 9 + S.2.2.2.2.1, S.2.2))
      rw [if_neg (by decide)]
      refine ⟨by omega, ?_, hv⟩
      unfold Cons
      dsimp only
      rw [show 9 + S.2.2.2.2.1 = S.2.2.2.2.1 + 9 by omega, pv_cong (g := w) (fun i _ hi => hfe i hi), d3, hL1]
      omega
    · have hw1 := d2.2.2.2.2.2.2.1 (S.2.1 + (S.2.2.2.2.1 + 8))
      have d3' : 2 * pv w S.2.1 (S.2.2.2.2.1 + 8) + w (S.2.1 + (S.2.2.2.2.1 + 8)) = 2 * (L1 / 2) + 1 := d3
      rw [show S.2.1 + (S.2.2.2.2.1 + 9) - 1 = S.2.1 + (S.2.2.2.2.1 + 8) by omega]
      omega
