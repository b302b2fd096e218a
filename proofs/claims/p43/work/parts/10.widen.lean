/-- the writer amid decisions: what stands in the unit, owed, low, range -/
def WA (G : GG) (M : DD) (a u : Nat) (f : Nat → Nat) (p k o fi low : Nat) (A : AS) : Prop :=
  WB G M a u f (p + k) ∧ AW f p k o fi low A.1 A.2.2.1 ∧ (M.1 a 9).toInt = low ∧ (M.1 a 10).toInt = A.2.1 ∧ (M.1 a 11).toInt = o ∧ (M.1 a 12).toInt = fi ∧ low + A.2.1 ≤ 1024 ∧ A.1 + A.2.1 ≤ 2 ^ (9 + A.2.2.1)
/-- what else stands as it stood -/
def WX (G : GG) (M : DD) (a u : Nat) (N : DD) : Prop := ∀ x k, x < G.1 → x ≠ u → ¬ (x = a ∧ (k = 4 ∨ k = 5 ∨ k = 6 ∨ k = 7 ∨ k = 9 ∨ k = 10 ∨ k = 11 ∨ k = 12)) → N.1 x k = M.1 x k ∧ N.2 x k = M.2 x k
theorem WX.rf (G : GG) (M : DD) (a u : Nat) : WX G M a u M := fun _ _ _ _ _ => ⟨rfl, rfl⟩
theorem WX.uI {G : GG} {M N : DD} {a u : Nat} (h : WX G M a u N) {k : Nat} (hk : k = 4 ∨ k = 5 ∨ k = 6 ∨ k = 7 ∨ k = 9 ∨ k = 10 ∨ k = 11 ∨ k = 12) (v : Int32) : WX G M a u (uI N a k v) := by
  intro x j hx hu hj
  obtain ⟨h1, h2⟩ := h x j hx hu hj
  refine ⟨?_, h2⟩
  have hn : ¬ (x = a ∧ j = k) := fun q => hj ⟨q.1, by rw [q.2]; exact hk⟩
  rw [uI_n _ _ hn]
  exact h1
theorem WX.tr {G : GG} {M N O : DD} {a u v : Nat} {L : NN} (h : WX G M a u N) (hv : v = u ∨ G.1 ≤ v) (h2 : WX (xt G L) N a v O) : WX G M a u O := by
  intro x j hx hu hj
  obtain ⟨q1, q2⟩ := h x j hx hu hj
  have hxv : x ≠ v := fun e => by
    rcases hv with q | q
    · exact hu (e.trans q)
    · omega
  obtain ⟨r1, r2⟩ := h2 x j (xt_lt L hx) hxv hj
  exact ⟨r1.trans q1, r2.trans q2⟩
theorem WF.wx {G : GG} {M N : DD} {a u : Nat} (h : WF G M a u N) : WX G M a u N := by
  intro x k hx hu hk
  refine h x k hx hu (fun q => hk ⟨q.1, ?_⟩)
  rcases q.2 with q | q | q | q | q | q <;> simp [q]
/-- the writer since a start: M0, its unit u0, its first n0 bits f0 -/
def WS (G0 : GG) (M0 : DD) (a u0 : Nat) (f0 : Nat → Nat) (n0 : Nat) (G : GG) (M : DD) (p : Nat) (A : AS) : Prop :=
  ∃ u k o fi low f, (u = u0 ∨ G0.1 ≤ u) ∧ WA G M a u f p k o fi low A ∧ (∀ i, i < n0 → f i = f0 i) ∧ n0 ≤ p + k ∧ Clo G M ∧ WX G0 M0 a u0 M
theorem WB.ne {G : GG} {M : DD} {a u : Nat} {f : Nat → Nat} {n : Nat} (h : WB G M a u f n) : u ≠ a := fun e => by
  have e1 := h.1.2.2.2.2
  have e2 := h.1.2.1
  rw [e] at e1
  omega
theorem WB.fld {G : GG} {M : DD} {a u : Nat} {f : Nat → Nat} {n : Nat} (h : WB G M a u f n) {k : Nat} (hk : k ≠ 4 ∧ k ≠ 5 ∧ k ≠ 6 ∧ k ≠ 7) (v : Int32) : WB G (uI M a k v) a u f n := by
  have hne := h.ne
  obtain ⟨⟨g1, g2, g3, g4, g5⟩, g6, g9, g10, g11, g12, g13, g14⟩ := h
  have h5 : ¬ (5 : Nat) = k := fun e => hk.2.1 e.symm
  have h6 : ¬ (6 : Nat) = k := fun e => hk.2.2.1 e.symm
  have h7 : ¬ (7 : Nat) = k := fun e => hk.2.2.2 e.symm
  refine ⟨⟨g1, g2, g3, g4, g5⟩, g6, ?_, ?_, ?_, fun j hj => ?_, g13, fun j => ?_⟩
  · rw [uI_n _ _ (fun q => h5 q.2)]; exact g9
  · rw [uI_n _ _ (fun q => h7 q.2)]; exact g10
  · rw [uI_n _ _ (fun q => h6 q.2)]; exact g11
  · rw [uI_n _ _ (fun q => hne q.1)]; exact g12 j hj
  · rw [uI_n _ _ (fun q => hne q.1)]; exact g14 j
theorem WB.cong {G : GG} {M : DD} {a u : Nat} {f g : Nat → Nat} {n : Nat} (h : WB G M a u f n) (hg : ∀ i, g i ≤ 1) (he : ∀ i, i < n → g i = f i) : WB G M a u g n := by
  obtain ⟨w1, w2, w3, w4, w5, w6, w7, w8⟩ := h
  refine ⟨w1, w2, w3, w4, ?_, fun j hj => ?_, hg, w8⟩
  · rw [w5, pv_cong (f := f) (g := g) (fun i _ hi => (he i (by omega)).symm)]
  · rw [w6 j hj, pv_cong (f := f) (g := g) (fun i _ hi => (he i (by omega)).symm)]
def dbl (A : AS) : AS := (A.1 * 2, A.2.1 * 2, A.2.2.1 + 1, A.2.2.2)
theorem shn_s (r : Nat) (k : Nat) (h : r < 256) : shn (k + 1) r = shn k (2 * r) + 1 := by
  show (if 256 ≤ r then 0 else shn k (2 * r) + 1) = _
  rw [if_neg (by omega)]
theorem shn_z (r : Nat) (k : Nat) (h : 256 ≤ r) : shn k r = 0 := by
  cases k with
  | zero => rfl
  | succ k =>
    show (if 256 ≤ r then 0 else shn k (2 * r) + 1) = _
    rw [if_pos h]
set_option maxHeartbeats 4000000 in
theorem widen_ok {G : GG} {M : DD} {a u p k o fi low : Nat} {f : Nat → Nat} {A : AS} (h : WA G M a u f p k o fi low A) (hC : Clo G M) (h1 : 1 ≤ A.2.1) (h2 : A.2.1 ≤ 510) (hn : p + A.2.2.1 ≤ 900000) : OK (FX10_widen G M a) (fun y => WS G M a u f (p + k) (xt G y.1) y.2 p (ren A)) := by
  unfold FX10_widen
  obtain ⟨b1, b2, b3, b4⟩ := shn_b A.2.1 (by omega) h1
  refine ok_bnd (ok_itrB (fun (L : NN) (s : Int32 × DD) => ∃ j : Nat, s.1.toInt = j ∧ j ≤ shn 9 A.2.1 ∧ shn (9 - j) (A.2.1 * 2 ^ j) + j = shn 9 A.2.1 ∧ WS G M a u f (p + k) (xt G L) s.2 p (A.1 * 2 ^ j, A.2.1 * 2 ^ j, A.2.2.1 + j, A.2.2.2)) (fun (s : Int32 × DD) => (9 - s.1.toInt).toNat) (fun (L : NN) (y : Int32 × DD) => WS G M a u f (p + k) (xt G L) y.2 p (ren A)) ?_ 1000000 [] ((0 : Int32), M) ?_ ?_) ?_
  · intro L s hI
    obtain ⟨x, N⟩ := s
    obtain ⟨j, hj0, hj1, hj2, hW⟩ := hI
    dsimp only at hj0 hW ⊢
    have e9 : (9 : Int32).toInt = 9 := rfl
    have e1 : (1 : Int32).toInt = 1 := rfl
    have e256 : (256 : Int32).toInt = 256 := rfl
    have e512 : (512 : Int32).toInt = 512 := rfl
    refine ok_if (fun c => ?_) (fun c => ok_lt (ok_if (fun c2 => ok_some ?_) (fun c2 => ok_lt ?_)))
    · exfalso
      have := pz_le.mp c
      omega
    · have hr := pz_le.mp c2
      obtain ⟨u1, k1, o1, f1, l1, g1, q1, q2, q3⟩ := hW
      have hz : shn (9 - j) (A.2.1 * 2 ^ j) = 0 := shn_z _ _ (by have := q2.2.2.2.1; dsimp only at this; omega)
      dsimp only
      rw [List.append_nil]
      have ej : j = shn 9 A.2.1 := by omega
      rw [ej] at q2
      exact ⟨u1, k1, o1, f1, l1, g1, q1, q2, q3⟩
    · obtain ⟨u1, k1, o1, f1, l1, g, q1, ⟨w1, w2, w3, w4, w5, w6, w7, w8⟩, q3, q4, q5, q6⟩ := hW
      dsimp only at w4 w7 w8
      have hR : A.2.1 * 2 ^ j < 256 := by
        have : ¬ (256 : Int32).toInt ≤ (N.1 a 10).toInt := fun q => c2 (pz_le.mpr q)
        omega
      have hR1 : 1 ≤ A.2.1 * 2 ^ j := Nat.mul_pos h1 (Nat.two_pow_pos j)
      have hne := w1.ne
      have hj9 : j < 9 := by omega
      have hn2 : A.2.2.1 + j + f1 = k1 + o1 + 1 := w2.2.1
      have hf1 : f1 ≤ 1 := w2.2.2.1
      refine ok_bnd (Q := fun y : NN × DD => ∃ u2 k2 o2 f2 l2 g2, (u2 = u ∨ G.1 ≤ u2) ∧ WB (xt G (L ++ y.1)) y.2 a u2 g2 (p + k2) ∧ AW g2 p k2 o2 f2 (2 * l2) (2 * (A.1 * 2 ^ j)) (A.2.2.1 + j + 1) ∧ (y.2.1 a 9).toInt = l2 ∧ (y.2.1 a 10).toInt = (A.2.1 * 2 ^ j : Nat) ∧ (y.2.1 a 11).toInt = o2 ∧ (y.2.1 a 12).toInt = f2 ∧ 2 * l2 + 2 * (A.2.1 * 2 ^ j) ≤ 1024 ∧ (∀ i, i < p + k → g2 i = f i) ∧ p + k ≤ p + k2 ∧ Clo (xt G (L ++ y.1)) y.2 ∧ WX G M a u y.2) ?_ (fun y15 h15 => ?_)
      · refine ok_if (fun c3 => ok_lt (ok_bi ?_)) (fun c3 => ?_)
        · refine ok_if (fun c4 => ?_) (fun c4 => ?_)
          · refine ok_lt (ok_lt (ok_lt (ok_lt (ok_lt (ok_lt (ok_some ?_))))))
            refine ok_app (ok_lt (ok_some ?_))
            have hl := pz_le.mp c3
            have hl2 := pz_lt.mp c4
            dsimp only
            rw [List.append_nil, List.append_nil]
            have e11 : (N.1 a 11 + 1).toInt = o1 + 1 := by
              rw [ti_add (by omega) (by omega), w5, e1]
            have e9' : (uI N a 11 (N.1 a 11 + 1)).1 a 9 = N.1 a 9 := by simp [uI]
            rw [e9']
            have e90 : (N.1 a 9 - 256).toInt = ((l1 - 256 : Nat) : Int) := by
              rw [ti_sub (by omega) (by omega), w3, e256]
              omega
            refine ⟨u1, k1, o1 + 1, f1, l1 - 256, g, q1, (w1.fld (by decide) _).fld (by decide) _, aw_mid w2 (by omega), ?_, ?_, ?_, ?_, by omega, q3, q4, q5, (q6.uI (by decide) _).uI (by decide) _⟩
            · rw [uI_s]; exact e90
            · rw [show (uI (uI N a 11 (N.1 a 11 + 1)) a 9 (N.1 a 9 - 256)).1 a 10 = N.1 a 10 by simp [uI]]; exact w4
            · rw [show (uI (uI N a 11 (N.1 a 11 + 1)) a 9 (N.1 a 9 - 256)).1 a 11 = N.1 a 11 + 1 by simp [uI]]; exact e11
            · rw [show (uI (uI N a 11 (N.1 a 11 + 1)) a 9 (N.1 a 9 - 256)).1 a 12 = N.1 a 12 by simp [uI]]; exact w6
          · have hl2 : ¬ (N.1 a 9).toInt < (512 : Int32).toInt := fun q => c4 (pz_lt.mpr q)
            obtain ⟨hf0, hA⟩ := aw_high w2 (by omega) hR1 w8
            refine ok_bi ?_
            refine (put_ok (bb := 1) w1 q5 (by omega) w5 w6 hf1 e1 (Nat.le_refl 1)).mono (fun y41 h41 => ?_)
            obtain ⟨u2, r1, r2, r3, r4, r5, r6⟩ := h41
            refine ok_app (ok_lt (ok_lt (ok_lt (ok_lt (ok_some (ok_app (ok_lt (ok_some ?_))))))))
            dsimp only
            rw [List.append_nil, List.append_nil]
            rw [xt_xt] at r2 r5
            have ha1 : a < (xt G L).1 := w1.1.1
            have hu1 : a ≠ u1 := fun e => hne e.symm
            obtain ⟨p9, -⟩ := r6 a 9 ha1 hu1 (by simp)
            obtain ⟨p10, -⟩ := r6 a 10 ha1 hu1 (by simp)
            have e90 : (y41.2.1 a 9 - 512).toInt = ((l1 - 512 : Nat) : Int) := by
              rw [p9, ti_sub (by omega) (by omega), w3, e512]
              omega
            rw [show p + k1 + o1 + 1 - f1 = p + (k1 + o1 + 1 - f1) by omega] at r2
            refine ⟨u2, k1 + o1 + 1 - f1, 0, 0, l1 - 512, puts g (p + k1) 1 f1, ?_, r2.fld (by decide) _, hA, ?_, ?_, ?_, ?_, by omega, fun i hi => ?_, by omega, r5, ?_⟩
            · rcases r1 with r | r
              · rw [r]; exact q1
              · exact Or.inr (Nat.le_trans (xt_ge G L) r)
            · rw [uI_s]; exact e90
            · rw [uI_n _ _ (by simp), p10]; exact w4
            · rw [uI_n _ _ (by simp)]; exact r3
            · rw [uI_n _ _ (by simp)]; exact r4
            · rw [puts_lt (by omega)]; exact q3 i hi
            · exact (q6.tr q1 r6.wx).uI (by decide) _
        · have hl : ¬ (256 : Int32).toInt ≤ (N.1 a 9).toInt := fun q => c3 (pz_le.mpr q)
          have hA := aw_low w2 (by omega)
          refine ok_bi ?_
          refine (put_ok (bb := 0) w1 q5 (by omega) w5 w6 hf1 (show (0 : Int32).toInt = 0 from rfl) (Nat.zero_le 1)).mono (fun y41 h41 => ?_)
          obtain ⟨u2, r1, r2, r3, r4, r5, r6⟩ := h41
          refine ok_app (ok_lt (ok_some ?_))
          dsimp only
          rw [List.append_nil]
          rw [xt_xt] at r2 r5
          have ha1 : a < (xt G L).1 := w1.1.1
          have hu1 : a ≠ u1 := fun e => hne e.symm
          obtain ⟨p9, -⟩ := r6 a 9 ha1 hu1 (by simp)
          obtain ⟨p10, -⟩ := r6 a 10 ha1 hu1 (by simp)
          rw [show p + k1 + o1 + 1 - f1 = p + (k1 + o1 + 1 - f1) by omega] at r2
          refine ⟨u2, k1 + o1 + 1 - f1, 0, 0, l1, puts g (p + k1) 0 f1, ?_, r2, hA, ?_, ?_, r3, r4, by omega, fun i hi => ?_, by omega, r5, ?_⟩
          · rcases r1 with r | r
            · rw [r]; exact q1
            · exact Or.inr (Nat.le_trans (xt_ge G L) r)
          · rw [p9]; exact w3
          · rw [p10]; exact w4
          · rw [puts_lt (by omega)]; exact q3 i hi
          · exact q6.tr q1 r6.wx
      · obtain ⟨y1, N2⟩ := y15
        obtain ⟨u2, k2, o2, f2, l2, g2, r1, r2, r3, r4, r5, r6, r7, r8, r9, r10, r11, r12⟩ := h15
        dsimp only at r2 r4 r5 r6 r7 r11 r12
        refine ok_app (ok_lt (ok_lt (ok_lt (ok_lt (ok_lt (ok_lt (ok_lt (ok_lt (ok_some ?_)))))))))
        dsimp only
        have e10 : (N2.1 a 10 <<< ((1 : Int32) &&& 31)).toInt = 2 * (A.2.1 * 2 ^ j : Nat) := by
          rw [pz_shl1 _ (by omega) (by omega), r5]
        generalize N2.1 a 10 <<< ((1 : Int32) &&& 31) = x20 at e10
        have e22 : (uI N2 a 10 x20).1 a 9 = N2.1 a 9 := by simp [uI]
        rw [e22]
        have e23 : (N2.1 a 9 <<< ((1 : Int32) &&& 31)).toInt = 2 * l2 := by
          rw [pz_shl1 _ (by omega) (by omega), r4]
        generalize N2.1 a 9 <<< ((1 : Int32) &&& 31) = x23 at e23
        have ex : (x + 1).toInt = j + 1 := by
          rw [ti_add (by omega) (by omega), hj0, e1]
        rw [List.append_nil]
        refine ⟨rfl, ⟨j + 1, by rw [ex]; omega, ?_, ?_, u2, k2, o2, f2, 2 * l2, g2, r1, ⟨(r2.fld (by decide) _).fld (by decide) _, ?_, ?_, ?_, ?_, ?_, ?_, ?_⟩, r9, r10, r11, (r12.uI (by decide) _).uI (by decide) _⟩, by omega⟩
        · have := shn_s (A.2.1 * 2 ^ j) (9 - j - 1) hR
          rw [show 9 - j - 1 + 1 = 9 - j by omega] at this
          omega
        · have := shn_s (A.2.1 * 2 ^ j) (9 - j - 1) hR
          rw [show 9 - j - 1 + 1 = 9 - j by omega] at this
          rw [show 9 - (j + 1) = 9 - j - 1 by omega, Nat.pow_succ, ← Nat.mul_assoc, Nat.mul_comm _ 2]
          omega
        · dsimp only
          rw [Nat.pow_succ, ← Nat.mul_assoc, Nat.mul_comm _ 2]
          exact r3
        · rw [uI_s, e23]; omega
        · dsimp only
          rw [uI_n _ _ (by simp), uI_s, e10, Nat.pow_succ, ← Nat.mul_assoc]; omega
        · rw [uI_n _ _ (by simp), uI_n _ _ (by simp)]; exact r6
        · rw [uI_n _ _ (by simp), uI_n _ _ (by simp)]; exact r7
        · dsimp only
          rw [Nat.pow_succ, ← Nat.mul_assoc]
          omega
        · dsimp only
          rw [show 9 + (A.2.2.1 + (j + 1)) = (9 + (A.2.2.1 + j)) + 1 by omega, Nat.pow_succ 2 (9 + (A.2.2.1 + j)), Nat.pow_succ, ← Nat.mul_assoc, ← Nat.mul_assoc, ← Nat.add_mul]
          exact Nat.mul_le_mul_right 2 w8
  · refine ⟨0, rfl, Nat.zero_le _, ?_, u, k, o, fi, low, f, Or.inl rfl, ?_, fun _ _ => rfl, Nat.le_refl _, hC, WX.rf _ _ _ _⟩
    · simp
    · obtain ⟨w1, w2, w3⟩ := h
      have e : ((A.1 * 2 ^ 0, A.2.1 * 2 ^ 0, A.2.2.1 + 0, A.2.2.2) : AS) = A := by simp
      rw [e]
      exact ⟨w1.xt [], w2, w3⟩
  · have e0 : (0 : Int32).toInt = 0 := rfl
    dsimp only
    omega
  · intro y1 hy
    refine ok_app (ok_lt (ok_some ?_))
    dsimp only
    rw [List.append_nil]
    rw [List.nil_append] at hy
    exact hy
