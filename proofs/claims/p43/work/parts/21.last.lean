/-! Writer: END -/
theorem CW.wb {G : GG} {M : DD} {a u t : Nat} {f : Nat → Nat} {n : Nat} {S : SS} (h : CW G M a u t f n S) : WB G M a u f n := by
  rcases h.2.2.2 with ⟨-, -, h, -⟩ | ⟨-, -, -, k, o, fi, low, e, h, -⟩
  · exact h
  · rw [e]; exact h
set_option maxHeartbeats 4000000 in
theorem last0_ok {G : GG} {M : DD} {a u t : Nat} {f : Nat → Nat} {m : Nat} {S : SS} {p0 : Int32} (h : CW G M a u t f m S) (h1 : S.1 = 1) (hp : p0.toInt = 0) (hB : Bd S ≤ 800000) : OK (FX10_last G M a p0) (fun y => CS G M a u t f m S [(1, 0, 0)] (xt G y.1) y.2) := by
  have e2 : (2 : Int32).toInt = 2 := rfl
  have e0 : (0 : Int32).toInt = 0 := rfl
  obtain ⟨g1, g2, g3, g4, g5⟩ := h.lt
  obtain ⟨⟨s1, s2, s3, s4, s5⟩, s6, s7, s8⟩ := h
  have hA : AOk S.2.2 ∧ (M.1 a 8).toInt = 1 ∧ ∃ k o fi low, m = S.2.1 + k ∧ WA G M a u f S.2.1 k o fi low S.2.2 := by
    rcases s8 with ⟨q, -⟩ | ⟨-, q1, q2, q3⟩
    · omega
    · exact ⟨q1, q2, q3⟩
  obtain ⟨hAo, h8, k, o, fi, low, hn, w1, w2, w3, w4, w5, w6, w7, w8⟩ := hA
  have hAo' := hAo
  obtain ⟨a1, a2, a3, a4⟩ := hAo
  have ho' := ok_endd hAo'
  have hpz : p0 = 0 := pz_eq.mpr (by omega)
  unfold FX10_last
  refine ok_lt (ok_lt (ok_lt (ok_bnd (Q := fun y : DD => y = uI M a 10 (M.1 a 10 - 2)) (ok_if (fun _ => ok_some rfl) (fun c => absurd hpz c)) (fun y4 h4 => ?_))))
  subst h4
  have hx2 : (M.1 a 10 - (2 : Int32)).toInt = ((S.2.2.2.1 - 2 : Nat) : Int) := by
    rw [ti_sub (by omega) (by omega), w4, e2]
    omega
  have hWA : WA (xt G []) (uI M a 10 (M.1 a 10 - 2)) a u f S.2.1 k o fi low (endd S.2.2) := by
    refine ⟨(w1.xt []).fld (by decide) _, w2, ?_, ?_, ?_, ?_, ?_, ?_⟩
    · rw [uI_n _ _ (by simp)]; exact w3
    · rw [uI_s]; exact hx2
    · rw [uI_n _ _ (by simp)]; exact w5
    · rw [uI_n _ _ (by simp)]; exact w6
    · show low + (S.2.2.2.1 - 2) ≤ 1024; omega
    · show S.2.2.1 + (S.2.2.2.1 - 2) ≤ _; exact Nat.le_trans (by omega) a4
  have hB2 : S.2.1 + S.2.2.2.2.1 ≤ 800000 := by
    have : Bd S = S.2.1 + S.2.2.2.2.1 := by unfold Bd; rw [if_neg (by omega)]
    omega
  refine ok_bnd (widen_ok hWA s7 (by show 1 ≤ S.2.2.2.1 - 2; omega) (by show S.2.2.2.1 - 2 ≤ 510; omega) (by show S.2.1 + S.2.2.2.2.1 ≤ 900000; omega)) (fun y5 h5 => ok_app (ok_lt ?_))
  obtain ⟨u2, k2, o2, f2, l2, g, q1, q2, q3, q4, q5, q6⟩ := h5
  refine ok_bnd (Q := fun y : NN × DD => y = ([], y5.2)) (ok_if (fun _ => ok_some rfl) (fun c => absurd hpz c)) (fun y10 h10 => ?_)
  subst h10
  refine ok_app (ok_lt (ok_some ?_))
  dsimp only
  rw [List.append_nil, List.append_nil]
  rw [xt_xt, List.nil_append] at q2 q5
  have q1 : u2 = u ∨ G.1 ≤ u2 := q1
  have q6 : WX G (uI M a 10 (M.1 a 10 - 2)) a u y5.2 := q6
  have hut : u2 ≠ t := fun e => by
    rcases q1 with q | q
    · exact g5 (q.symm.trans e)
    · omega
  have eT : ∀ j, y5.2.1 t j = M.1 t j := fun j => ((q6 t j s2 (fun e => g5 e.symm) (fun q => g4 q.1)).1).trans (uI_n _ _ (fun q => g4 q.1))
  have hrun : runs [((1, 0, 0) : Tok)] S = (1, S.2.1, ren (endd S.2.2)) := by
    show nxt (1, 0, 0) S = _
    unfold nxt
    rw [if_neg (by simp), if_pos rfl, if_pos rfl]
  refine ⟨u2, g, S.2.1 + k2, q1, ⟨⟨?_, xt_lt _ s2, (xt_kk _ s2).trans s3, (xt_nn _ s2).trans s4, fun j hj => ?_⟩, ?_, q5, Or.inr ⟨?_, ?_, ?_, k2, o2, f2, l2, ?_, ?_⟩⟩, fun j hj => q3 j (by omega), by omega, ?_, ?_⟩
  · exact (q6 a 13 g1 (fun e => g3 e.symm) (by simp)).2.trans s1
  · rw [hrun, eT]
    exact s5 j hj
  · rw [hrun]
    exact ho'.2.2.1
  · rw [hrun]
  · rw [hrun]; exact ho'
  · exact ((congrArg Int32.toInt ((q6 a 8 g1 (fun e => g3 e.symm) (by simp)).1)).trans (by rw [uI_n _ _ (by simp)])).trans h8
  · rw [hrun]
  · rw [hrun]; exact q2
  · intro x j hx hxu hxt hxk
    have e := q6 x j hx hxu (fun q => hxk ⟨q.1, by rcases q.2 with z | z | z | z | z | z | z | z <;> simp [z]⟩)
    refine ⟨?_, e.2⟩
    rw [e.1, uI_n _ _ (fun q => hxk ⟨q.1, by simp [q.2]⟩)]
  · intro ff D2 hff he hv
    rw [hrun] at hv
    show S.1 ≠ 0 ∧ (if (0 : Nat) = 0 then Val ff D2 (1, S.2.1, ren (endd S.2.2)) else _)
    rw [if_pos rfl]
    exact ⟨by omega, hv⟩
theorem shn_2 : shn 9 2 = 7 := by decide
/-- the bits of the end: the value is within the last two -/
theorem aw_end {f f1 f2 f3 : Nat → Nat} {p k o fi low L1 n : Nat} (h : AW f p k o fi low (L1 * 128) (n + 7)) (hl : low + 256 ≤ 1024) (hb : L1 * 128 + 256 ≤ 2 ^ (9 + (n + 7)))
    (h1 : f1 = puts f (p + k) (low / 512 % 2) fi) (h2 : f2 = puts f1 (p + (n + 7)) (low / 256 % 2) 0) (h3 : f3 = puts f2 (p + (n + 8)) 1 0) : pv f3 p (n + 9) = 2 * (L1 / 2) + 1 := by
  obtain ⟨a1, a2, a3, a4⟩ := h
  have hp := Nat.two_pow_pos o
  have e0 : (2 : Nat) ^ 0 = 1 := rfl
  -- the first
  have hv1 : pv f1 p (n + 7) = L1 * 128 / 512 := by
    rw [h1]
    by_cases hlo : 512 ≤ low
    · have hA : AW f p k o fi low (L1 * 128) (n + 7) := ⟨a1, a2, a3, a4⟩
      obtain ⟨hf0, -⟩ := aw_high hA hlo (R := 256) (by omega) hb
      subst hf0
      rw [show low / 512 % 2 = 1 by omega, show n + 7 = k + (1 + o) by omega, pv_put (Nat.le_refl 1), a1, Nat.pow_add 2 10 o, Nat.pow_add 2 1 o, show (2 : Nat) ^ 10 = 1024 from rfl, show (2 : Nat) ^ 1 = 2 from rfl]
      generalize 2 ^ o = P at *
      have : pv f p k * (1024 * P) = 512 * (pv f p k * (2 * P)) := by
        rw [Nat.mul_left_comm, Nat.mul_left_comm (pv f p k) 2 P]
        omega
      omega
    · rw [show low / 512 % 2 = 0 by omega]
      rcases Nat.le_one_iff_eq_zero_or_eq_one.mp a3 with rfl | rfl
      · rw [show n + 7 = k + (1 + o) by omega, pv_put (Nat.zero_le 1), a1, Nat.pow_add 2 10 o, Nat.pow_add 2 1 o, show (2 : Nat) ^ 10 = 1024 from rfl, show (2 : Nat) ^ 1 = 2 from rfl]
        generalize 2 ^ o = P at *
        have : pv f p k * (1024 * P) = 512 * (pv f p k * (2 * P)) := by
          rw [Nat.mul_left_comm, Nat.mul_left_comm (pv f p k) 2 P]
          omega
        omega
      · have hk := a4 rfl
        subst hk
        rw [show p + 0 = p from rfl, show n + 7 = o by omega, pv_put1, a1]
        have : pv f p 0 = 0 := rfl
        rw [this]
        omega
  have hv2 : pv f2 p (n + 8) = 2 * (L1 * 128 / 512) + low / 256 % 2 := by
    rw [h2]
    show 2 * pv _ p (n + 7) + puts f1 (p + (n + 7)) (low / 256 % 2) 0 (p + (n + 7)) = _
    rw [pv_cong (g := f1) (fun i _ hi => puts_lt hi), hv1]
    unfold puts
    rw [if_neg (by omega), if_pos ⟨rfl, rfl⟩]
  have hv3 : pv f3 p (n + 9) = 2 * (2 * (L1 * 128 / 512) + low / 256 % 2) + 1 := by
    rw [h3]
    show 2 * pv _ p (n + 8) + puts f2 (p + (n + 8)) 1 0 (p + (n + 8)) = _
    rw [pv_cong (g := f2) (fun i _ hi => puts_lt hi), hv2]
    unfold puts
    rw [if_neg (by omega), if_pos ⟨rfl, rfl⟩]
  rw [hv3]
  have hmod : ∃ z, L1 * 128 = 512 * z + low := by
    refine ⟨pv f p k * (2 * 2 ^ o) + (2 ^ o - 1), ?_⟩
    rw [a1, Nat.pow_add 2 10 o, show (2 : Nat) ^ 10 = 1024 from rfl]
    have : pv f p k * (1024 * 2 ^ o) = 512 * (pv f p k * (2 * 2 ^ o)) := by
      rw [Nat.mul_left_comm, Nat.mul_left_comm (pv f p k) 2 (2 ^ o)]
      omega
    omega
  obtain ⟨z, hz⟩ := hmod
  omega
