/-! rows filled; Writer: fill, ARITH's beginning -/
theorem fillA_ok {G : GG} {M : DD} {b : Nat} {v : Int32} (hb : b < G.1) (hk : G.2.1 b = 13) (hl : G.2.2 b ≤ 900000) : OK (FJ7_fill_53178 G M (some b) v) (fun y => y.2 = M.2 ∧ (∀ x k, x ≠ b → y.1 x k = M.1 x k) ∧ (∀ k, k < G.2.2 b → y.1 b k = v) ∧ (∀ k, G.2.2 b ≤ k → y.1 b k = M.1 b k)) := by
  have e0 : (0 : Int32).toInt = 0 := rfl
  have e1 : (1 : Int32).toInt = 1 := rfl
  unfold FJ7_fill_53178
  refine ok_dr (b := b) rfl hb hk (ok_lt ?_)
  have hx2 : (Int32.ofNat (G.2.2 b)).toInt = G.2.2 b := pz_ofn (by omega)
  generalize Int32.ofNat (G.2.2 b) = x2 at hx2
  refine ok_bnd (ok_itr (fun s : Int32 × DD => ∃ j : Nat, s.1.toInt = j ∧ j ≤ G.2.2 b ∧ s.2.2 = M.2 ∧ (∀ x k, x ≠ b → s.2.1 x k = M.1 x k) ∧ (∀ k, k < j → s.2.1 b k = v) ∧ (∀ k, j ≤ k → s.2.1 b k = M.1 b k)) (fun s => ((G.2.2 b : Int) - s.1.toInt).toNat) (P := fun y : Int32 × DD => y.2.2 = M.2 ∧ (∀ x k, x ≠ b → y.2.1 x k = M.1 x k) ∧ (∀ k, k < G.2.2 b → y.2.1 b k = v) ∧ (∀ k, G.2.2 b ≤ k → y.2.1 b k = M.1 b k)) ?_ 1000000 _ ?_ ?_) (fun y3 h3 => ok_some h3)
  · intro s hs
    obtain ⟨k, N⟩ := s
    obtain ⟨j, j1, j2, j3, j4, j5, j6⟩ := hs
    dsimp only at j1 j3 j4 j5 j6 ⊢
    refine ok_if (fun c => ok_some ?_) (fun c => ?_)
    · have := pz_le.mp c
      have ej : j = G.2.2 b := by omega
      subst ej
      exact ⟨j3, j4, j5, j6⟩
    · have c3 : ¬ x2.toInt ≤ k.toInt := fun q => c (pz_le.mpr q)
      have hkn : k.toNatClampNeg = j := by
        have := pz_nat (x := k) (by omega)
        omega
      refine ok_chk (pz_ix (by omega) (by omega)) (ok_lt (ok_lt (ok_some ?_)))
      have hk1 : (k + 1).toInt = j + 1 := by rw [ti_add (by omega) (by omega), j1, e1]
      dsimp only
      rw [hkn]
      refine ⟨⟨j + 1, by rw [hk1]; omega, by omega, j3, fun x i hx => ?_, fun i hi => ?_, fun i hi => ?_⟩, by omega⟩
      · rw [uI_n _ _ (fun q => hx q.1)]; exact j4 x i hx
      · by_cases q : i = j
        · rw [q, uI_s]
        · rw [uI_n _ _ (fun z => q z.2)]; exact j5 i (by omega)
      · rw [uI_n _ _ (fun z => by have := z.2; omega)]; exact j6 i (by omega)
  · exact ⟨0, rfl, Nat.zero_le _, rfl, fun _ _ _ => rfl, fun k hk => by omega, fun _ _ => rfl⟩
  · show ((G.2.2 b : Int) - (0 : Int32).toInt).toNat < 1000000
    omega
theorem put_cs {G : GG} {M : DD} {a u t : Nat} {f : Nat → Nat} {n bb : Nat} {S : SS} {b : Int32} (h : CW G M a u t f n S) (h0 : S.1 = 0) (hn : S.2.1 ≤ 800000) (hb : b.toInt = bb) (hb1 : bb ≤ 1) (i : Nat) : OK (FX10_put G M a b) (fun y => CS G M a u t f n S [(0, i, bb)] (xt G y.1) y.2) := by
  obtain ⟨g1, g2, g3, g4, g5⟩ := h.lt
  obtain ⟨⟨s1, s2, s3, s4, s5⟩, s6, s7, s8⟩ := h
  have hP : S.1 = 0 ∧ n = S.2.1 ∧ WB G M a u f n ∧ (M.1 a 8).toInt = 0 ∧ (M.1 a 11).toInt = 0 ∧ (M.1 a 12).toInt = 0 := by
    rcases s8 with q | ⟨q, -⟩
    · exact q
    · omega
  obtain ⟨p1', p2', p3, p4, p5, p6⟩ := hP
  refine (put_ok (o := 0) (fi := 0) (bb := bb) p3 s7 (by omega) p5 p6 (by omega) hb hb1).mono (fun y65 h65 => ?_)
  obtain ⟨u2, r1, r2, r3, r4, r5, r6⟩ := h65
  have hrun : runs [((0, i, bb) : Tok)] S = (0, S.2.1 + 1, S.2.2) := by
    show nxt (0, i, bb) S = _
    unfold nxt
    rw [if_pos rfl, if_pos p1']
  have hut : u2 ≠ t := fun q => by
    rcases r1 with r | r
    · exact g5 (r.symm.trans q)
    · omega
  refine ⟨u2, puts f n bb 0, n + 1, r1, ⟨⟨?_, xt_lt _ s2, (xt_kk _ s2).trans s3, (xt_nn _ s2).trans s4, fun k hk => ?_⟩, ?_, r5, Or.inl ⟨?_, ?_, ?_, ?_, r3, r4⟩⟩, fun k hk => puts_lt hk, by omega, ?_, ?_⟩
  · rw [(r6 a 13 g1 (fun q => g3 q.symm) (by simp)).2]; exact s1
  · rw [hrun, (r6 t k s2 (fun q => g5 q.symm) (fun q => g4 q.1)).1]; exact s5 k hk
  · rw [hrun]; exact s6
  · rw [hrun]
  · rw [hrun, p2']
  · have := r2
    rw [show n + 0 + 1 - 0 = n + 1 by omega] at this
    exact this
  · rw [(r6 a 8 g1 (fun q => g3 q.symm) (by simp)).1]; exact p4
  · intro y k hy hyu hyt hyk
    exact r6 y k hy hyu (fun q => hyk ⟨q.1, by rcases q.2 with z | z | z | z | z | z <;> simp [z]⟩)
  · intro ff D2 hff hfe hval
    rw [hrun] at hval
    show (if S.1 = 0 then ff S.2.1 = bb ∧ Val ff D2 (0, S.2.1 + 1, S.2.2) else _)
    rw [if_pos p1']
    refine ⟨?_, hval⟩
    rw [← p2', hfe n (by omega)]
    unfold puts
    rw [if_neg (by omega), if_pos ⟨rfl, rfl⟩]
theorem CS.rf0 {G : GG} {M : DD} {a u t : Nat} {f : Nat → Nat} {n : Nat} {S : SS} (h : CW G M a u t f n S) : CS G M a u t f n S [] (xt G []) M := ⟨u, f, n, Or.inl rfl, h.xt0 [] h.2.2.1, fun _ _ => rfl, Nat.le_refl _, fun _ _ _ _ _ _ => ⟨rfl, rfl⟩, fun _ _ _ _ h => h⟩
def fillT (q b : Nat) : List Tok := List.replicate ((8 - q % 8) % 8) (0, 0, b)
theorem runs_rep (b : Nat) : ∀ k S, S.1 = 0 → runs (List.replicate k ((0, 0, b) : Tok)) S = (0, S.2.1 + k, S.2.2) := by
  intro k
  induction k with
  | zero =>
    intro S h
    obtain ⟨S1, S2, S3⟩ := S
    dsimp only at h
    subst h
    rfl
  | succ k ih =>
    intro S h
    show runs (List.replicate k (0, 0, b)) (nxt (0, 0, b) S) = _
    unfold nxt
    rw [if_pos rfl, if_pos h, ih _ rfl]
    show (0, S.2.1 + 1 + k, S.2.2) = _
    rw [show S.2.1 + 1 + k = S.2.1 + (k + 1) by omega]
set_option maxHeartbeats 2000000 in
theorem fill_ok {G : GG} {M : DD} {a u t : Nat} {f : Nat → Nat} {n bb : Nat} {S : SS} {b : Int32} (h : CW G M a u t f n S) (h0 : S.1 = 0) (hn : S.2.1 ≤ 700000) (hb : b.toInt = bb) (hb1 : bb ≤ 1) : OK (FX10_fill G M a b) (fun y => CS G M a u t f n S (fillT S.2.1 bb) (xt G y.1) y.2) := by
  have e0 : (0 : Int32).toInt = 0 := rfl
  have e1 : (1 : Int32).toInt = 1 := rfl
  have e8 : (8 : Int32).toInt = 8 := rfl
  unfold FX10_fill
  refine ok_bnd (ok_itrB (fun (L : NN) (s : Int32 × DD) => ∃ j : Nat, s.1.toInt = j ∧ j ≤ (8 - S.2.1 % 8) % 8 ∧ CS G M a u t f n S (List.replicate j (0, 0, bb)) (xt G L) s.2) (fun (s : Int32 × DD) => (8 - s.1.toInt).toNat) (fun (L : NN) (y : Int32 × DD) => CS G M a u t f n S (fillT S.2.1 bb) (xt G L) y.2) ?_ 1000000 [] ((0 : Int32), M) ?_ ?_) (fun y1 hy => ?_)
  · intro L s hI
    obtain ⟨x, N⟩ := s
    obtain ⟨j, hj0, hj1, ⟨u1, f1, m1, hCR⟩⟩ := hI
    dsimp only at hj0 hCR ⊢
    have hCW := hCR.2.1
    have hrr := runs_rep bb j S h0
    refine ok_if (fun c => ?_) (fun c => ok_lt ?_)
    · have := pz_le.mp c
      exfalso
      omega
    · have h7 := hCW.wb.2.2.2.1
      have hm1 : m1 = S.2.1 + j := by
        rcases hCW.2.2.2 with ⟨-, q, -⟩ | ⟨q, -⟩
        · rw [hrr] at q; exact q
        · rw [hrr] at q; exact absurd q (by simp)
      refine ok_if (fun c2 => ok_some ?_) (fun c2 => ?_)
      · have := pz_le.mp c2
        have ej : j = (8 - S.2.1 % 8) % 8 := by omega
        dsimp only
        rw [List.append_nil]
        unfold fillT
        rw [← ej]
        exact ⟨u1, f1, m1, hCR⟩
      · have c3 : ¬ (N.1 a 7).toInt ≤ (0 : Int32).toInt := fun q => c2 (pz_le.mpr q)
        have hjl : j < (8 - S.2.1 % 8) % 8 := by omega
        refine ok_bnd (put_cs (bb := bb) hCW (by rw [hrr]) (by rw [hrr]; dsimp only; omega) hb hb1 0) (fun y14 h14 => ok_app (ok_lt (ok_lt (ok_some ?_))))
        have hxx : (x + 1).toInt = j + 1 := by
          rw [ti_add (by omega) (by omega), hj0, e1]
        dsimp only
        rw [List.append_nil]
        refine ⟨rfl, ⟨j + 1, by rw [hxx]; omega, by omega, ?_⟩, by omega⟩
        rw [List.replicate_succ', ← xt_xt]
        exact hCR.tr (xt_ge G L) h14
  · exact ⟨0, rfl, Nat.zero_le _, CS.rf0 h⟩
  · dsimp only
    omega
  · refine ok_app (ok_lt (ok_some ?_))
    dsimp only
    rw [List.append_nil]
    rw [List.nil_append] at hy
    exact hy
