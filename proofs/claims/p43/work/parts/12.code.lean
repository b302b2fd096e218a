/-! Writer: code -/
def nxt (T : Tok) (S : SS) : SS :=
  if T.1 = 0 then (if S.1 = 0 then (0, S.2.1 + 1, S.2.2) else (1, S.2.1, enc1 S.2.2 T.2.1 T.2.2))
  else if T.1 = 1 then (if T.2.2 = 0 then (1, S.2.1, ren (endd S.2.2)) else (0, S.2.1 + 9 + S.2.2.2.2.1, S.2.2))
  else if T.1 = 2 then (1, S.2.1, A0 S.2.2.2.2.2)
  else (1, S.2.1, A0 (fun _ => 0))
def runs : List Tok → SS → SS
  | [], S => S
  | T :: D, S => runs D (nxt T S)
theorem runs_app (D E : List Tok) : ∀ S, runs (D ++ E) S = runs E (runs D S) := by
  induction D with
  | nil => intro S; rfl
  | cons T D ih => intro S; exact ih _
/-- how many bits are sure to be there -/
def Bd (S : SS) : Nat := if S.1 = 0 then S.2.1 else S.2.1 + S.2.2.2.2.1
/-- the writer at a state of the stream, n bits f so far -/
def CW (G : GG) (M : DD) (a u t : Nat) (f : Nat → Nat) (n : Nat) (S : SS) : Prop :=
  (M.2 a 13 = some t ∧ t < G.1 ∧ G.2.1 t = 13 ∧ G.2.2 t = 272 ∧ (∀ i, i < 272 → (M.1 t i).toInt = S.2.2.2.2.2 i)) ∧ (∀ i, S.2.2.2.2.2 i < 126) ∧ Clo G M ∧
  ((S.1 = 0 ∧ n = S.2.1 ∧ WB G M a u f n ∧ (M.1 a 8).toInt = 0 ∧ (M.1 a 11).toInt = 0 ∧ (M.1 a 12).toInt = 0) ∨
   (S.1 = 1 ∧ AOk S.2.2 ∧ (M.1 a 8).toInt = 1 ∧ ∃ k o fi low, n = S.2.1 + k ∧ WA G M a u f S.2.1 k o fi low S.2.2))
/-- what else stands as it stood -/
def WY (G : GG) (M : DD) (a u t : Nat) (N : DD) : Prop := ∀ x k, x < G.1 → x ≠ u → x ≠ t → ¬ (x = a ∧ (k = 4 ∨ k = 5 ∨ k = 6 ∨ k = 7 ∨ k = 8 ∨ k = 9 ∨ k = 10 ∨ k = 11 ∨ k = 12)) → N.1 x k = M.1 x k ∧ N.2 x k = M.2 x k
/-- the writer came from M0, S0 by D -/
def CR (G0 : GG) (M0 : DD) (a u0 t : Nat) (f0 : Nat → Nat) (n0 : Nat) (S0 : SS) (D : List Tok) (G : GG) (M : DD) (u : Nat) (f : Nat → Nat) (n : Nat) : Prop :=
  (u = u0 ∨ G0.1 ≤ u) ∧ CW G M a u t f n (runs D S0) ∧ (∀ i, i < n0 → f i = f0 i) ∧ n0 ≤ n ∧ WY G0 M0 a u0 t M ∧ (∀ ff D2, (∀ i, ff i ≤ 1) → (∀ i, i < n → ff i = f i) → Val ff D2 (runs D S0) → Val ff (D ++ D2) S0)
def CS (G0 : GG) (M0 : DD) (a u0 t : Nat) (f0 : Nat → Nat) (n0 : Nat) (S0 : SS) (D : List Tok) (G : GG) (M : DD) : Prop :=
  ∃ u f n, CR G0 M0 a u0 t f0 n0 S0 D G M u f n
theorem CS.rf {G : GG} {M : DD} {a u t : Nat} {f : Nat → Nat} {n : Nat} {S : SS} (h : CW G M a u t f n S) : CS G M a u t f n S [] G M := ⟨u, f, n, Or.inl rfl, h, fun _ _ => rfl, Nat.le_refl _, fun _ _ _ _ _ _ => ⟨rfl, rfl⟩, fun _ _ _ _ h => h⟩
theorem CR.tr {G0 G1 G2 : GG} {M0 M1 M2 : DD} {a u0 t u : Nat} {f0 f : Nat → Nat} {n0 n : Nat} {S0 : SS} {D E : List Tok} (hG : G0.1 ≤ G1.1) (h : CR G0 M0 a u0 t f0 n0 S0 D G1 M1 u f n) (h2 : CS G1 M1 a u t f n (runs D S0) E G2 M2) : CS G0 M0 a u0 t f0 n0 S0 (D ++ E) G2 M2 := by
  obtain ⟨q1, q2, q3, q4, q5, q6⟩ := h
  obtain ⟨v, g, m, r1, r2, r3, r4, r5, r6⟩ := h2
  rw [← runs_app] at r2 r6
  refine ⟨v, g, m, ?_, r2, fun i hi => (r3 i (by omega)).trans (q3 i hi), Nat.le_trans q4 r4, ?_, fun ff D2 hf he hv => ?_⟩
  · rcases r1 with r | r
    · rw [r]; exact q1
    · exact Or.inr (Nat.le_trans hG r)
  · intro x k hx hu ht hk
    obtain ⟨p1, p2⟩ := q5 x k hx hu ht hk
    have hxu : x ≠ u := fun e => by
      rcases q1 with q | q
      · exact hu (e.trans q)
      · omega
    obtain ⟨p3, p4⟩ := r5 x k (Nat.lt_of_lt_of_le hx hG) hxu ht hk
    exact ⟨p3.trans p1, p4.trans p2⟩
  · rw [List.append_assoc]
    refine q6 ff (E ++ D2) hf (fun i hi => (he i (by omega)).trans (r3 i hi)) ?_
    exact r6 ff D2 hf he hv
theorem WX.wy {G : GG} {M N : DD} {a u t : Nat} (h : WX G M a u N) : WY G M a u t N := by
  intro x k hx hu _ hk
  refine h x k hx hu (fun q => hk ⟨q.1, ?_⟩)
  rcases q.2 with q | q | q | q | q | q | q | q <;> simp [q]
theorem tab_nat {i k : Nat} (h : 1 ≤ ((sT i).getD k 0).toInt.toNat) : ((sT i).getD k 0).toInt = ((sT i).getD k 0).toInt.toNat := by omega
theorem shn_8 {r : Nat} (h1 : 1 ≤ r) (h2 : r ≤ 510) : shn 9 r ≤ 8 := (shn_b r (by omega) h1).2.2.1
theorem aD_n : ∀ s, s < 63 → 0 ≤ ((sT 7).getD s 0).toInt := by decide +kernel
theorem CW.lt {G : GG} {M : DD} {a u t : Nat} {f : Nat → Nat} {n : Nat} {S : SS} (h : CW G M a u t f n S) : a < G.1 ∧ G.2.1 a = 10 ∧ u ≠ a ∧ t ≠ a ∧ u ≠ t := by
  obtain ⟨⟨-, h2, h3, -⟩, -, -, h4⟩ := h
  have hw : WB G M a u f n := by
    rcases h4 with ⟨-, -, h, -⟩ | ⟨-, -, -, k, o, fi, low, e, h, -⟩
    · exact h
    · rw [e]; exact h
  obtain ⟨⟨g1, g2, g3, g4, g5⟩, -⟩ := hw
  refine ⟨g1, g2, fun e => ?_, fun e => ?_, fun e => ?_⟩
  · rw [e] at g5; omega
  · rw [e] at h3; omega
  · rw [e] at g5; omega
/-- one decision, or one plain bit -/
def tokj (e V n j : Nat) : Tok := (0, 16 * e + (if j < 15 then j else 15), V / 2 ^ (n - 1 - j) % 2)
theorem toks_s (e V n j : Nat) : (List.range (j + 1)).map (tokj e V n) = (List.range j).map (tokj e V n) ++ [tokj e V n j] := by
  rw [List.range_succ, List.map_append]
  rfl
theorem Bd_nxt {S : SS} {T : Tok} (hT : T.1 = 0) (h : S.1 = 0 ∨ (S.1 = 1 ∧ AOk S.2.2)) : Bd (nxt T S) ≤ Bd S + 8 := by
  unfold Bd nxt
  rw [if_pos hT]
  rcases h with h | ⟨h, hA⟩
  · rw [if_pos h, if_pos h, if_pos rfl]
    dsimp only
    omega
  · have h0 : S.1 ≠ 0 := by omega
    rw [if_neg h0, if_neg h0, if_neg (Nat.succ_ne_zero 0)]
    dsimp only
    obtain ⟨h4, h5, h6⟩ := aL_r hA T.2.1
    obtain ⟨a1, a2, -⟩ := hA
    unfold enc1 bin ren
    split
    · dsimp only
      have := shn_8 (r := S.2.2.2.1 - aL (S.2.2.2.2.2 T.2.1 / 2) (S.2.2.2.1 / 64 % 4)) (by omega) (by omega)
      omega
    · dsimp only
      have := shn_8 (r := aL (S.2.2.2.2.2 T.2.1 / 2) (S.2.2.2.1 / 64 % 4)) (by omega) (by omega)
      omega
set_option maxHeartbeats 8000000 in
theorem code_step {G : GG} {M : DD} {a u t : Nat} {f : Nat → Nat} {n : Nat} {S : SS} {i b : Nat} {xi xb : Int32} (h : CW G M a u t f n S) (h1 : S.1 = 1) (hi : xi.toInt = i) (hi2 : i < 272) (hb : xb.toInt = b) (hb1 : b ≤ 1) (hB : Bd S ≤ 800000) (M57 : DD) (v : Int32)
    (hM : v.toInt = (if b = S.2.2.2.2.2 i % 2 then 2 * nup (S.2.2.2.2.2 i / 2) + S.2.2.2.2.2 i % 2 else 2 * aD (S.2.2.2.2.2 i / 2) + (if S.2.2.2.2.2 i / 2 = 0 then b else S.2.2.2.2.2 i % 2) : Nat))
    (h9 : (M57.1 a 9).toInt = (if b = S.2.2.2.2.2 i % 2 then (M.1 a 9).toInt else (M.1 a 9).toInt + (S.2.2.2.1 - aL (S.2.2.2.2.2 i / 2) (S.2.2.2.1 / 64 % 4) : Nat)))
    (h10 : (M57.1 a 10).toInt = (bin S.2.2 i b).2.1)
    (ho : ∀ x k, ¬ (x = a ∧ (k = 9 ∨ k = 10)) → M57.1 x k = M.1 x k) (hp : M57.2 = M.2) : OK (FX10_widen G (uI M57 t i v) a) (fun y => CS G M a u t f n S [(0, i, b)] (xt G y.1) y.2) := by
  obtain ⟨g1, g2, g3, g4, g5⟩ := h.lt
  obtain ⟨⟨s1, s2, s3, s4, s5⟩, s6, s7, s8⟩ := h
  have hA : AOk S.2.2 ∧ (M.1 a 8).toInt = 1 ∧ ∃ k o fi low, n = S.2.1 + k ∧ WA G M a u f S.2.1 k o fi low S.2.2 := by
    rcases s8 with ⟨q, -⟩ | ⟨-, q1, q2, q3⟩
    · omega
    · exact ⟨q1, q2, q3⟩
  obtain ⟨hAo, h8, k, o, fi, low, hn, w1, w2, w3, w4, w5, w6, w7, w8⟩ := hA
  obtain ⟨r1, r2, r3⟩ := aL_r hAo i
  have hAo' := hAo
  obtain ⟨a1, a2, a3, a4⟩ := hAo
  have ho' := ok_enc hAo' i hb1
  have eN : ∀ x j, x ≠ t → (uI M57 t i v).1 x j = M57.1 x j := fun x j hx => uI_n _ _ (fun q => hx q.1)
  have hta : a ≠ t := fun e => g4 e.symm
  -- the state before widen
  have hWA : WA G (uI M57 t i v) a u f S.2.1 k o fi (if b = S.2.2.2.2.2 i % 2 then low else low + (S.2.2.2.1 - aL (S.2.2.2.2.2 i / 2) (S.2.2.2.1 / 64 % 4))) (bin S.2.2 i b) := by
    obtain ⟨⟨v1, v2, v3, v4, v5⟩, v6, v7, v8, v9, v10, v11, v12⟩ := w1
    refine ⟨⟨⟨v1, v2, by show M57.2 a 4 = _; rw [hp]; exact v3, v4, v5⟩, v6, ?_, ?_, ?_, fun j hj => ?_, v11, fun j => ?_⟩, ?_, ?_, ?_, ?_, ?_, ?_, ?_⟩
    · rw [eN a 5 hta, ho a 5 (by simp)]; exact v7
    · rw [eN a 7 hta, ho a 7 (by simp)]; exact v8
    · rw [eN a 6 hta, ho a 6 (by simp)]; exact v9
    · rw [eN u _ g5, ho u _ (fun q => g3 q.1)]; exact v10 j hj
    · rw [eN u _ g5, ho u _ (fun q => g3 q.1)]; exact v12 j
    · obtain ⟨b1, b2, b3, b4⟩ := w2
      unfold bin
      split
      · exact ⟨b1, b2, b3, b4⟩
      · refine ⟨?_, b2, b3, b4⟩
        dsimp only
        omega
    · rw [eN a 9 hta, h9]
      split <;> omega
    · rw [eN a 10 hta, h10]
    · rw [eN a 11 hta, ho a 11 (by simp)]; exact w5
    · rw [eN a 12 hta, ho a 12 (by simp)]; exact w6
    · unfold bin
      split
      · dsimp only; omega
      · dsimp only; omega
    · unfold bin
      split
      · dsimp only; omega
      · dsimp only; omega
  have hC : Clo G (uI M57 t i v) := by
    intro x hx j c hc
    have hc2 : M57.2 x j = some c := hc
    rw [hp] at hc2
    exact s7 x hx j c hc2
  have hbn : 1 ≤ (bin S.2.2 i b).2.1 ∧ (bin S.2.2 i b).2.1 ≤ 510 := by
    unfold bin
    split
    · dsimp only; omega
    · dsimp only; omega
  have hn1 : (bin S.2.2 i b).2.2.1 = S.2.2.2.2.1 := by
    unfold bin
    split <;> rfl
  have hB2 : S.2.1 + S.2.2.2.2.1 ≤ 800000 := by
    unfold Bd at hB
    rw [if_neg (by omega)] at hB
    exact hB
  refine (widen_ok hWA hC hbn.1 hbn.2 (by omega)).mono (fun y hy => ?_)
  obtain ⟨u2, k2, o2, f2, l2, g, q1, q2, q3, q4, q5, q6⟩ := hy
  have hut : u2 ≠ t := fun e => by
    rcases q1 with q | q
    · exact g5 (q.symm.trans e)
    · omega
  have eT : ∀ j, y.2.1 t j = (uI M57 t i v).1 t j := fun j => (q6 t j s2 (fun e => g5 e.symm) (fun q => g4 q.1)).1
  have hst : (enc1 S.2.2 i b).2.2.2 = stu S.2.2.2.2.2 i (if b = S.2.2.2.2.2 i % 2 then 2 * nup (S.2.2.2.2.2 i / 2) + S.2.2.2.2.2 i % 2 else 2 * aD (S.2.2.2.2.2 i / 2) + (if S.2.2.2.2.2 i / 2 = 0 then b else S.2.2.2.2.2 i % 2)) := by
    unfold enc1 bin
    split <;> rfl
  have hrun : runs [((0, i, b) : Tok)] S = (1, S.2.1, enc1 S.2.2 i b) := by
    show nxt (0, i, b) S = _
    unfold nxt
    rw [if_pos rfl, if_neg (by omega)]
  refine ⟨u2, g, S.2.1 + k2, q1, ⟨⟨?_, xt_lt _ s2, (xt_kk _ s2).trans s3, (xt_nn _ s2).trans s4, fun j hj => ?_⟩, ?_, q5, Or.inr ⟨?_, ?_, ?_, k2, o2, f2, l2, ?_, ?_⟩⟩, fun j hj => q3 j (by omega), by omega, ?_, ?_⟩
  · have e := (q6 a 13 g1 (fun e => g3 e.symm) (by simp)).2
    rw [e]
    show M57.2 a 13 = some t
    rw [hp]
    exact s1
  · rw [hrun, eT, hst]
    unfold stu
    by_cases hji : j = i
    · rw [if_pos hji, hji, uI_s, hM]
    · rw [if_neg hji, uI_n _ _ (fun q => hji q.2), ho t j (fun q => g4 q.1)]
      exact s5 j hj
  · rw [hrun]
    exact ho'.2.2.1
  · rw [hrun]
  · rw [hrun]; exact ho'
  · have e := (q6 a 8 g1 (fun e => g3 e.symm) (by simp)).1
    rw [e, eN a 8 hta, ho a 8 (by simp)]
    exact h8
  · rw [hrun]
  · rw [hrun]; exact q2
  · intro x j hx hxu hxt hxk
    have e := q6 x j hx hxu (fun q => hxk ⟨q.1, by rcases q.2 with z | z | z | z | z | z | z | z <;> simp [z]⟩)
    refine ⟨?_, ?_⟩
    · rw [e.1, eN x j hxt, ho x j (fun q => hxk ⟨q.1, by rcases q.2 with z | z <;> simp [z]⟩)]
    · rw [e.2]
      show M57.2 x j = _
      rw [hp]
  · intro ff D2 hff he hv
    rw [hrun] at hv
    show (if S.1 = 0 then _ else b ≤ 1 ∧ Val ff D2 (1, S.2.1, enc1 S.2.2 i b))
    rw [if_neg (by omega)]
    exact ⟨hb1, hv⟩
