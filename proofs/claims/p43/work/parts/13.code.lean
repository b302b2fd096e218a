set_option maxHeartbeats 8000000 in
theorem code_ok {G : GG} {M : DD} {a u t : Nat} {f : Nat → Nat} {m : Nat} {S : SS} {e V n : Nat} {p0 p2 : Int32} {p1 : Int64} (h : CW G M a u t f m S) (he : p0.toInt = e) (he2 : e ≤ 16) (hv : p1.toInt = V) (hn : p2.toInt = n) (hn2 : n ≤ 61) (hB : Bd S + 8 * n ≤ 800000) : OK (FX10_code G M a p0 p1 p2) (fun y => CS G M a u t f m S (toks e V n) (xt G y.1) y.2) := by
  have e0 : (0 : Int32).toInt = 0 := rfl
  have e1 : (1 : Int32).toInt = 1 := rfl
  have e3 : (3 : Int32).toInt = 3 := rfl
  have e4 : (4 : Int32).toInt = 4 := rfl
  have e15 : (15 : Int32).toInt = 15 := rfl
  have e16 : (16 : Int32).toInt = 16 := rfl
  have e62 : (62 : Int32).toInt = 62 := rfl
  unfold FX10_code
  refine ok_bnd (ok_itrB (fun (L : NN) (s : Int32 × DD) => ∃ j : Nat, s.1.toInt = j ∧ j ≤ n ∧ CS G M a u t f m S ((List.range j).map (tokj e V n)) (xt G L) s.2 ∧ Bd (runs ((List.range j).map (tokj e V n)) S) ≤ Bd S + 8 * j) (fun (s : Int32 × DD) => ((n : Int) - s.1.toInt).toNat) (fun (L : NN) (y : Int32 × DD) => CS G M a u t f m S (toks e V n) (xt G L) y.2) ?_ 1000000 [] ((0 : Int32), M) ?_ ?_) ?_
  · intro L s hI
    obtain ⟨x, N⟩ := s
    obtain ⟨j, hj0, hj1, ⟨u1, f1, m1, hCR⟩, hj3⟩ := hI
    dsimp only at hj0 hCR ⊢
    have hG : G.1 ≤ (xt G L).1 := xt_ge G L
    have hCW := hCR.2.1
    obtain ⟨g1, g2, g3, g4, g5⟩ := hCW.lt
    refine ok_if (fun c => ok_some ?_) (fun c => ?_)
    · have := pz_le.mp c
      have ej : j = n := by omega
      dsimp only
      rw [List.append_nil]
      rw [ej] at hCR
      exact ⟨u1, f1, m1, hCR⟩
    · have c1 : ¬ p2.toInt ≤ x.toInt := fun q => c (pz_le.mpr q)
      have hjn : j < n := by omega
      refine ok_lt (ok_lt (ok_lt (ok_lt (ok_lt ?_))))
      have hx13 : (p2 - (1 : Int32) - x).toInt = ((n - 1 - j : Nat) : Int) := by
        rw [ti_sub (by rw [ti_sub (by omega) (by omega)]; omega) (by rw [ti_sub (by omega) (by omega)]; omega), ti_sub (by omega) (by omega)]
        omega
      have hx16 : ((p1 >>> ((p2 - (1 : Int32) - x).toInt64 &&& 63)).toInt32 &&& (1 : Int32)).toInt = (V / 2 ^ (n - 1 - j) % 2 : Nat) := pz_bit64 hv hx13 (by omega)
      generalize (p1 >>> ((p2 - (1 : Int32) - x).toInt64 &&& 63)).toInt32 &&& (1 : Int32) = x16 at hx16
      have hb1 : V / 2 ^ (n - 1 - j) % 2 ≤ 1 := by omega
      generalize hbe : V / 2 ^ (n - 1 - j) % 2 = b at hx16 hb1
      have hi2 : 16 * e + (if j < 15 then j else 15) < 272 := by split <;> omega
      have htok : tokj e V n j = (0, 16 * e + (if j < 15 then j else 15), b) := by
        unfold tokj
        rw [hbe]
      have hbd : Bd (runs ((List.range (j + 1)).map (tokj e V n)) S) ≤ Bd S + 8 * (j + 1) := by
        rw [toks_s, runs_app]
        have := Bd_nxt (S := runs ((List.range j).map (tokj e V n)) S) (T := tokj e V n j) rfl (by
          rcases hCW.2.2.2 with ⟨q, -⟩ | ⟨q1, q2, -⟩
          · exact Or.inl q
          · exact Or.inr ⟨q1, q2⟩)
        show Bd (nxt (tokj e V n j) (runs ((List.range j).map (tokj e V n)) S)) ≤ _
        omega
      have hxx : (x + 1).toInt = j + 1 := by
        rw [ti_add (by omega) (by omega), hj0, e1]
      generalize hi0 : 16 * e + (if j < 15 then j else 15) = i at hi2 htok
      generalize hS1 : runs ((List.range j).map (tokj e V n)) S = S1 at hCW hj3
      refine ok_lt (ok_bnd (Q := fun y : NN × DD => CS (xt G L) N a u1 t f1 m1 S1 [(0, i, b)] (xt (xt G L) y.1) y.2) ?_ (fun y18 h18 => ?_))
      · refine ok_if (fun c2 => ok_bi ?_) (fun c2 => ok_lt ?_)
        · have c3 := pz_eq.mp c2
          obtain ⟨⟨s1, s2, s3, s4, s5⟩, s6, s7, s8⟩ := hCW
          have hP : S1.1 = 0 ∧ m1 = S1.2.1 ∧ WB (xt G L) N a u1 f1 m1 ∧ (N.1 a 8).toInt = 0 ∧ (N.1 a 11).toInt = 0 ∧ (N.1 a 12).toInt = 0 := by
            rcases s8 with q | ⟨-, -, q, -⟩
            · exact q
            · omega
          obtain ⟨p1', p2', p3, p4, p5, p6⟩ := hP
          have hm1 : m1 ≤ 800000 := by
            have : Bd S1 = S1.2.1 := by
              unfold Bd
              rw [if_pos p1']
            omega
          refine (put_ok (o := 0) (fi := 0) (bb := b) p3 s7 (by omega) p5 p6 (by omega) hx16 hb1).mono (fun y65 h65 => ?_)
          obtain ⟨u2, r1, r2, r3, r4, r5, r6⟩ := h65
          refine ok_app (ok_lt (ok_some ?_))
          dsimp only
          rw [List.append_nil]
          have hrun : runs [((0, i, b) : Tok)] S1 = (0, S1.2.1 + 1, S1.2.2) := by
            show nxt (0, i, b) S1 = _
            unfold nxt
            rw [if_pos rfl, if_pos p1']
          have hut : u2 ≠ t := fun q => by
            rcases r1 with r | r
            · exact g5 (r.symm.trans q)
            · omega
          refine ⟨u2, puts f1 m1 b 0, m1 + 1, r1, ⟨⟨?_, xt_lt _ s2, (xt_kk _ s2).trans s3, (xt_nn _ s2).trans s4, fun k hk => ?_⟩, ?_, r5, Or.inl ⟨?_, ?_, ?_, ?_, r3, r4⟩⟩, fun k hk => puts_lt hk, by omega, ?_, ?_⟩
          · rw [(r6 a 13 g1 (fun q => g3 q.symm) (by simp)).2]; exact s1
          · rw [hrun, (r6 t k s2 (fun q => g5 q.symm) (fun q => g4 q.1)).1]; exact s5 k hk
          · rw [hrun]; exact s6
          · rw [hrun]
          · rw [hrun, p2']
          · have := r2
            rw [show m1 + 0 + 1 - 0 = m1 + 1 by omega] at this
            exact this
          · rw [(r6 a 8 g1 (fun q => g3 q.symm) (by simp)).1]; exact p4
          · intro y k hy hyu hyt hyk
            exact r6 y k hy hyu (fun q => hyk ⟨q.1, by rcases q.2 with z | z | z | z | z | z <;> simp [z]⟩)
          · intro ff D2 hff hfe hval
            rw [hrun] at hval
            show (if S1.1 = 0 then ff S1.2.1 = b ∧ Val ff D2 (0, S1.2.1 + 1, S1.2.2) else _)
            rw [if_pos p1']
            refine ⟨?_, hval⟩
            rw [← p2', hfe m1 (by omega)]
            unfold puts
            rw [if_neg (by omega), if_pos ⟨rfl, rfl⟩]
        · have hsh := hCW
          obtain ⟨⟨s1, s2, s3, s4, s5⟩, s6, s7, s8⟩ := hCW
          have hP : S1.1 = 1 ∧ AOk S1.2.2 ∧ (N.1 a 8).toInt = 1 ∧ ∃ k o fi low, m1 = S1.2.1 + k ∧ WA (xt G L) N a u1 f1 S1.2.1 k o fi low S1.2.2 := by
            rcases s8 with ⟨-, -, -, q, -⟩ | q
            · exact absurd (pz_eq.mpr q) c2
            · exact q
          obtain ⟨p1', pA, p8, k, o, fi, low, hm1, w1, w2, w3, w4, w5, w6, w7, w8⟩ := hP
          obtain ⟨r1, r2, r3⟩ := aL_r pA i
          have pA' := pA
          obtain ⟨a1, a2, a3, a4⟩ := pA
          have hsi := a3 i
          refine ok_bnd (Q := fun y : Int32 => y.toInt = ((if j < 15 then j else 15 : Nat) : Int)) ?_ (fun y26 h26 => ?_)
          · refine ok_if (fun c3 => ok_some ?_) (fun c3 => ok_some ?_)
            · have := pz_le.mp c3
              rw [if_neg (by omega)]
              exact e15
            · have : ¬ (15 : Int32).toInt ≤ x.toInt := fun q => c3 (pz_le.mpr q)
              rw [if_pos (by omega)]
              exact hj0
          have hx25 : ((16 : Int32) * p0).toInt = 16 * e := by
            rw [pz_mulc e16 (by omega) (by omega), he]
          refine ok_lt ?_
          have hx27 : ((16 : Int32) * p0 + y26).toInt = i := by
            have : (if j < 15 then j else 15) ≤ 15 := by split <;> omega
            rw [ti_add (by omega) (by omega), hx25, h26]
            omega
          generalize (16 : Int32) * p0 + y26 = x27 at hx27
          have hxn : x27.toNatClampNeg = i := by
            have := pz_nat (x := x27) (by omega)
            omega
          have hix : ¬ (x27 < 0 ∨ (xt G L).2.2 t ≤ x27.toNatClampNeg) := pz_ix (by omega) (by omega)
          refine ok_dr (b := t) s1 s2 s3 (ok_chk hix (ok_lt (ok_lt (ok_chk hix (ok_lt (ok_lt (ok_lt (ok_lt (ok_lt (ok_lt (ok_lt ?_)))))))))))
          rw [hxn]
          have hst := s5 i hi2
          have hx30 : (N.1 t i >>> ((1 : Int32) &&& 31)).toInt = (S1.2.2.2.2.2 i / 2 : Nat) := by
            rw [pz_sar1, hst]
            omega
          generalize N.1 t i >>> ((1 : Int32) &&& 31) = x30 at hx30
          have hx32 : (N.1 t i &&& (1 : Int32)).toInt = (S1.2.2.2.2.2 i % 2 : Nat) := by
            rw [pz_and1, hst]
            omega
          generalize N.1 t i &&& (1 : Int32) = x32 at hx32
          have hx33 : ((4 : Int32) * x30).toInt = 4 * (S1.2.2.2.2.2 i / 2 : Nat) := by
            rw [pz_mulc e4 (by omega) (by omega), hx30]
          have hx35 : (N.1 a 10 >>> ((6 : Int32) &&& 31)).toInt = (S1.2.2.2.1 / 64 : Nat) := by
            rw [pz_sar6, w4]
            omega
          have hx36 : ((N.1 a 10 >>> ((6 : Int32) &&& 31)) &&& (3 : Int32)).toInt = (S1.2.2.2.1 / 64 % 4 : Nat) := by
            rw [pz_and3, hx35]
            omega
          have hx37 : ((4 : Int32) * x30 + ((N.1 a 10 >>> ((6 : Int32) &&& 31)) &&& (3 : Int32))).toInt = ((4 * (S1.2.2.2.2.2 i / 2) + S1.2.2.2.1 / 64 % 4 : Nat) : Int) := by
            rw [ti_add (by omega) (by omega), hx33, hx36]
            omega
          generalize (4 : Int32) * x30 + ((N.1 a 10 >>> ((6 : Int32) &&& 31)) &&& (3 : Int32)) = x37 at hx37
          have hxn37 : x37.toNatClampNeg = 4 * (S1.2.2.2.2.2 i / 2) + S1.2.2.2.1 / 64 % 4 := by
            have := pz_nat (x := x37) (by omega)
            omega
          refine ok_chk (pz_ix (by omega) (by omega)) (ok_lt (ok_lt (ok_lt (ok_lt ?_))))
          rw [hxn37]
          have hx38 : ((sT 8).getD (4 * (S1.2.2.2.2.2 i / 2) + S1.2.2.2.1 / 64 % 4) 0).toInt = (aL (S1.2.2.2.2.2 i / 2) (S1.2.2.2.1 / 64 % 4) : Nat) := tab_nat (by
            have : aL (S1.2.2.2.2.2 i / 2) (S1.2.2.2.1 / 64 % 4) = ((sT 8).getD (4 * (S1.2.2.2.2.2 i / 2) + S1.2.2.2.1 / 64 % 4) 0).toInt.toNat := rfl
            omega)
          generalize (sT 8).getD (4 * (S1.2.2.2.2.2 i / 2) + S1.2.2.2.1 / 64 % 4) 0 = x38 at hx38
          have hx40 : (N.1 a 10 - x38).toInt = ((S1.2.2.2.1 - aL (S1.2.2.2.2.2 i / 2) (S1.2.2.2.1 / 64 % 4) : Nat) : Int) := by
            rw [ti_sub (by omega) (by omega), w4, hx38]
            omega
          generalize N.1 a 10 - x38 = x40 at hx40
          refine ok_bnd (Q := fun y : Int32 × Int32 × DD => 2 * y.1.toInt + y.2.1.toInt = ((if b = S1.2.2.2.2.2 i % 2 then 2 * nup (S1.2.2.2.2.2 i / 2) + S1.2.2.2.2.2 i % 2 else 2 * aD (S1.2.2.2.2.2 i / 2) + (if S1.2.2.2.2.2 i / 2 = 0 then b else S1.2.2.2.2.2 i % 2) : Nat) : Int) ∧ 0 ≤ y.1.toInt ∧ y.1.toInt < 100 ∧ 0 ≤ y.2.1.toInt ∧ y.2.1.toInt ≤ 1 ∧ (y.2.2.1 a 9).toInt = (if b = S1.2.2.2.2.2 i % 2 then (N.1 a 9).toInt else (N.1 a 9).toInt + (S1.2.2.2.1 - aL (S1.2.2.2.2.2 i / 2) (S1.2.2.2.1 / 64 % 4) : Nat)) ∧ (y.2.2.1 a 10).toInt = (bin S1.2.2 i b).2.1 ∧ (∀ x k, ¬ (x = a ∧ (k = 9 ∨ k = 10)) → y.2.2.1 x k = N.1 x k) ∧ y.2.2.2 = N.2) ?_ (fun y42 h42 => ?_)
          · refine ok_if (fun c3 => ?_) (fun c3 => ?_)
            · have hbq : b = S1.2.2.2.2.2 i % 2 := by
                have := pz_eq.mp c3
                omega
              refine ok_bnd (Q := fun y : Int32 => y.toInt = (nup (S1.2.2.2.2.2 i / 2) : Nat)) ?_ (fun y61 h61 => ok_some ?_)
              · unfold nup
                refine ok_if (fun c4 => ok_some ?_) (fun c4 => ok_lt (ok_some ?_))
                · have := pz_le.mp c4
                  rw [if_pos (by omega)]
                  exact e62
                · have : ¬ (62 : Int32).toInt ≤ x30.toInt := fun q => c4 (pz_le.mpr q)
                  rw [if_neg (by omega), ti_add (by omega) (by omega), hx30, e1]
                  omega
              · dsimp only
                have hnu : nup (S1.2.2.2.2.2 i / 2) ≤ 62 := by
                  unfold nup
                  split <;> omega
                rw [if_pos hbq, if_pos hbq]
                refine ⟨by omega, by omega, by omega, by omega, by omega, ?_, ?_, fun y k hk => ?_, rfl⟩
                · rw [uI_n _ _ (by simp)]
                · rw [uI_s, hx40]
                  unfold bin
                  rw [if_pos hbq]
                · rw [uI_n _ _ (fun q => hk ⟨q.1, Or.inr q.2⟩)]
            · have hbq : ¬ b = S1.2.2.2.2.2 i % 2 := fun q => c3 (pz_eq.mpr (by omega))
              refine ok_lt (ok_lt (ok_lt (ok_lt (ok_lt (ok_bnd (Q := fun y : Int32 => y.toInt = ((if S1.2.2.2.2.2 i / 2 = 0 then b else S1.2.2.2.2.2 i % 2 : Nat) : Int)) ?_ (fun y58 h58 => ?_))))))
              · refine ok_if (fun c4 => ok_some ?_) (fun c4 => ok_some ?_)
                · have := pz_eq.mp c4
                  rw [if_pos (by omega)]
                  exact hx16
                · have : ¬ x30.toInt = (0 : Int32).toInt := fun q => c4 (pz_eq.mpr q)
                  rw [if_neg (by omega)]
                  exact hx32
              · have hxn30 : x30.toNatClampNeg = S1.2.2.2.2.2 i / 2 := by
                  have := pz_nat (x := x30) (by omega)
                  omega
                refine ok_chk (pz_ix (by omega) (by omega)) (ok_lt (ok_some ?_))
                dsimp only
                rw [hxn30, if_neg hbq, if_neg hbq]
                have hd0 := aD_n (S1.2.2.2.2.2 i / 2) (by omega)
                have hd1 := aD_b (S1.2.2.2.2.2 i / 2) (by omega)
                have hd2 : aD (S1.2.2.2.2.2 i / 2) = ((sT 7).getD (S1.2.2.2.2.2 i / 2) 0).toInt.toNat := rfl
                have hbl : (if S1.2.2.2.2.2 i / 2 = 0 then b else S1.2.2.2.2.2 i % 2) ≤ 1 := by split <;> omega
                have e9 : (uI N a 10 x40).1 a 9 = N.1 a 9 := by simp [uI]
                have e10 : (uI N a 10 x40).1 a 10 = x40 := by simp [uI]
                rw [e9, e10]
                refine ⟨by omega, by omega, by omega, by omega, by omega, ?_, ?_, fun y k hk => ?_, rfl⟩
                · rw [uI_n _ _ (by simp), uI_s, ti_add (by omega) (by omega), hx40]
                · rw [uI_s, hx38]
                  unfold bin
                  rw [if_neg hbq]
                · rw [uI_n _ _ (fun q => hk ⟨q.1, Or.inr q.2⟩), uI_n _ _ (fun q => hk ⟨q.1, Or.inl q.2⟩), uI_n _ _ (fun q => hk ⟨q.1, Or.inr q.2⟩)]
          · obtain ⟨y1, y2, N4⟩ := y42
            obtain ⟨z1, z2, z3, z4, z5, z6, z7, z8, z9⟩ := h42
            dsimp only at z1 z2 z3 z4 z5 z6 z7 z8 z9 ⊢
            refine ok_lt (ok_lt ?_)
            have hx44 : ((y1 <<< ((1 : Int32) &&& 31)) ||| y2).toInt = 2 * y1.toInt + y2.toInt := by
              have q := pz_shl1 y1 (by omega) (by omega)
              rw [pz_or1 _ _ (by omega) (by omega) z4 z5, q]
            generalize (y1 <<< ((1 : Int32) &&& 31)) ||| y2 = x44 at hx44
            have hix2 := hix
            rw [hxn] at hix2
            refine ok_dr (b := t) (by rw [z9]; exact s1) s2 s3 (ok_chk hix2 (ok_lt ?_))
            refine ok_bi ?_
            refine (code_step hsh p1' hx27 hi2 hx16 hb1 (by omega) N4 x44 (by omega) z6 z7 z8 z9).mono (fun y47 h47 => ?_)
            refine ok_app (ok_lt (ok_some ?_))
            dsimp only
            rw [List.append_nil]
            exact h47
      · obtain ⟨y1, N5⟩ := y18
        refine ok_app (ok_lt (ok_lt (ok_some ?_)))
        dsimp only at h18 ⊢
        rw [List.append_nil]
        refine ⟨rfl, ⟨j + 1, by rw [hxx]; omega, by omega, ?_, hbd⟩, by omega⟩
        rw [toks_s, htok, ← xt_xt]
        have hCR2 := hCR
        rw [← hS1] at h18
        exact hCR2.tr hG h18
  · exact ⟨0, e0, Nat.zero_le _, ⟨u, f, m, Or.inl rfl, by
      obtain ⟨⟨s1, s2, s3, s4, s5⟩, s6, s7, s8⟩ := h
      refine ⟨⟨s1, s2, (xt_kk [] s2).trans s3, (xt_nn [] s2).trans s4, s5⟩, s6, s7, ?_⟩
      rcases s8 with ⟨q1, q2, q3, q4⟩ | ⟨q1, q2, q3, k, o, fi, low, q4, q5, q6⟩
      · exact Or.inl ⟨q1, q2, q3.xt [], q4⟩
      · exact Or.inr ⟨q1, q2, q3, k, o, fi, low, q4, q5.xt [], q6⟩, fun _ _ => rfl, Nat.le_refl _, fun _ _ _ _ _ _ => ⟨rfl, rfl⟩, fun _ _ _ _ h => h⟩, Nat.le_refl _⟩
  · dsimp only
    omega
  · intro y1 hy
    refine ok_app (ok_lt (ok_some ?_))
    dsimp only
    rw [List.append_nil]
    rw [List.nil_append] at hy
    exact hy
