/-! Writer: numbers by ue, se, te -/
def lgv (v : Nat) : Nat := Nat.log2 (v + 1)
def ueT (e v : Nat) : List Tok := toks e (v + 1) (2 * lgv v + 1)
theorem lgv_b (v : Nat) : 2 ^ lgv v ≤ v + 1 ∧ v + 1 < 2 ^ (lgv v + 1) := ⟨Nat.log2_self_le (Nat.succ_ne_zero v), Nat.lt_log2_self⟩
theorem lgv_u {v z : Nat} (h1 : 2 ^ z ≤ v + 1) (h2 : v + 1 < 2 ^ (z + 1)) : z = lgv v := by
  obtain ⟨h3, h4⟩ := lgv_b v
  have a1 : z < lgv v + 1 := (Nat.pow_lt_pow_iff_right (by decide : 1 < 2)).mp (Nat.lt_of_le_of_lt h1 h4)
  have a2 : lgv v < z + 1 := (Nat.pow_lt_pow_iff_right (by decide : 1 < 2)).mp (Nat.lt_of_le_of_lt h3 h2)
  omega
theorem t64_add {x y : Int64} (h1 : -9223372036854775808 ≤ x.toInt + y.toInt) (h2 : x.toInt + y.toInt ≤ 9223372036854775807) : (x + y).toInt = x.toInt + y.toInt := by
  rw [Int64.toInt_add]
  apply Int.bmod_eq_of_le
  · omega
  · omega
theorem t64_sub {x y : Int64} (h1 : -9223372036854775808 ≤ x.toInt - y.toInt) (h2 : x.toInt - y.toInt ≤ 9223372036854775807) : (x - y).toInt = x.toInt - y.toInt := by
  rw [Int64.toInt_sub]
  apply Int.bmod_eq_of_le
  · omega
  · omega
theorem t64_sar {v : Int64} {x : Int32} {s : Nat} (hx : x.toInt = s) (hs : s < 64) : (v >>> (x.toInt64 &&& 63)).toInt = v.toInt / ((2 ^ s : Nat) : Int) := by
  refine pz_sar64 v _ s ?_ hs
  rw [pz_and63, Int32.toInt_toInt64, hx]
  omega
theorem cmp_le {x y : Int64} : lg_cmp x y ≤ 0 ↔ x.toInt ≤ y.toInt := (lg_cmp_le x y).trans Int64.le_iff_toInt_le
theorem cmp_lt {x y : Int64} : lg_cmp x y < 0 ↔ x.toInt < y.toInt := (lg_cmp_lt x y).trans Int64.lt_iff_toInt_lt
theorem cmp_eq {x y : Int64} : lg_cmp x y = 0 ↔ x.toInt = y.toInt := by
  constructor
  · intro h
    have h1 := cmp_le.mp (Int32.le_of_eq h)
    have h2 : ¬ lg_cmp x y < 0 := fun q => by rw [h] at q; exact absurd q (by decide)
    have h3 : ¬ x.toInt < y.toInt := fun q => h2 (cmp_lt.mpr q)
    omega
  · intro h
    have h1 : lg_cmp x y ≤ 0 := cmp_le.mpr (Int.le_of_eq h)
    have h2 : ¬ lg_cmp x y < 0 := fun q => by have := cmp_lt.mp q; omega
    have h3 := pz_le.mp h1
    have h4 : ¬ (lg_cmp x y).toInt < (0 : Int32).toInt := fun q => h2 (pz_lt.mpr q)
    exact pz_eq.mpr (by omega)
set_option maxHeartbeats 1000000 in
theorem bitsUe_ok {G : GG} {M : DD} {p0 : Int32} {v : Nat} (hv : p0.toInt = v) (hv2 : v < 2147483647) : OK (FX10_bitsOfUe G M p0) (fun y => y.1 = M ∧ y.2.toInt = 2 * lgv v + 1 ∧ lgv v ≤ 30) := by
  have e1 : (1 : Int32).toInt = 1 := rfl
  have e2 : (2 : Int32).toInt = 2 := rfl
  have e31 : (31 : Int32).toInt = 31 := rfl
  have e0 : (0 : Int32).toInt = 0 := rfl
  have l1 : (1 : Int64).toInt = 1 := rfl
  have l0 : (0 : Int64).toInt = 0 := rfl
  have h30 : lgv v ≤ 30 := by
    have h := (lgv_b v).1
    have : lgv v < 31 := (Nat.pow_lt_pow_iff_right (by decide : 1 < 2)).mp (Nat.lt_of_le_of_lt h (show v + 1 < 2 ^ 31 from by have : (2 : Nat) ^ 31 = 2147483648 := rfl; omega))
    omega
  unfold FX10_bitsOfUe
  refine ok_bnd (ok_itr (fun s : Int32 => ∃ z : Nat, s.toInt = z ∧ z ≤ 30 ∧ 2 ^ z ≤ v + 1) (fun s => (31 - s.toInt).toNat) (P := fun y : Int32 => y.toInt = lgv v) ?_ 1000000 _ ?_ ?_) (fun y1 h1 => ok_lt (ok_lt (ok_some ?_)))
  · intro s hs
    obtain ⟨z, q1, q2, q3⟩ := hs
    refine ok_if (fun c => ?_) (fun c => ok_lt (ok_lt (ok_lt (ok_lt (ok_lt ?_)))))
    · have := pz_le.mp c
      exfalso
      omega
    · have hx : (p0.toInt64 + (1 : Int64)).toInt = ((v + 1 : Nat) : Int) := by
        rw [t64_add (by rw [Int32.toInt_toInt64]; omega) (by rw [Int32.toInt_toInt64]; omega), Int32.toInt_toInt64, hv, l1]
        omega
      have hz : (s + (1 : Int32)).toInt = ((z + 1 : Nat) : Int) := by
        rw [ti_add (by omega) (by omega)]
        omega
      have hsh := t64_sar (v := p0.toInt64 + (1 : Int64)) hz (by omega)
      rw [hx, ← Int.natCast_ediv] at hsh
      generalize hw : (v + 1) / 2 ^ (z + 1) = w at hsh
      refine ok_if (fun c2 => ok_some ?_) (fun c2 => ok_lt (ok_some ?_))
      · have c3 := cmp_le.mp c2
        rw [hsh, l0] at c3
        have h0 : (v + 1) / 2 ^ (z + 1) = 0 := by rw [hw]; omega
        dsimp only
        rw [q1]
        have : v + 1 < 2 ^ (z + 1) := by
          rcases Nat.div_eq_zero_iff.mp h0 with q | q
          · exact absurd q (Nat.pos_iff_ne_zero.mp (Nat.two_pow_pos _))
          · exact q
        rw [← lgv_u q3 this]
      · have c3 : ¬ ((p0.toInt64 + (1 : Int64)) >>> ((s + (1 : Int32)).toInt64 &&& 63)).toInt ≤ (0 : Int64).toInt := fun q => c2 (cmp_le.mpr q)
        rw [hsh, l0] at c3
        have h0 : 1 ≤ (v + 1) / 2 ^ (z + 1) := by rw [hw]; omega
        have h2 : 2 ^ (z + 1) ≤ v + 1 := by
          have := (Nat.le_div_iff_mul_le (Nat.two_pow_pos (z + 1))).mp h0
          omega
        have h3 : z + 1 ≤ 30 := by
          have : z + 1 < 31 := (Nat.pow_lt_pow_iff_right (by decide : 1 < 2)).mp (Nat.lt_of_le_of_lt h2 (show v + 1 < 2 ^ 31 from by have : (2 : Nat) ^ 31 = 2147483648 := rfl; omega))
          omega
        dsimp only
        exact ⟨⟨z + 1, hz, h3, h2⟩, by omega⟩
  · exact ⟨0, rfl, Nat.zero_le _, by simp⟩
  · show (31 - (0 : Int32).toInt).toNat < 1000000
    omega
  · refine ⟨rfl, ?_, h30⟩
    dsimp only
    rw [ti_add (by rw [pz_mulc e2 (by omega) (by omega)]; omega) (by rw [pz_mulc e2 (by omega) (by omega)]; omega), pz_mulc e2 (by omega) (by omega), h1, e1]
theorem CW.xt0 {G : GG} {M : DD} {a u t : Nat} {f : Nat → Nat} {n : Nat} {S : SS} (h : CW G M a u t f n S) (L : NN) (hC : Clo (xt G L) M) : CW (xt G L) M a u t f n S := by
  obtain ⟨⟨s1, s2, s3, s4, s5⟩, s6, s7, s8⟩ := h
  refine ⟨⟨s1, xt_lt L s2, (xt_kk L s2).trans s3, (xt_nn L s2).trans s4, s5⟩, s6, hC, ?_⟩
  rcases s8 with ⟨q1, q2, q3, q4⟩ | ⟨q1, q2, q3, k, o, fi, low, q4, q5, q6⟩
  · exact Or.inl ⟨q1, q2, q3.xt L, q4⟩
  · exact Or.inr ⟨q1, q2, q3, k, o, fi, low, q4, q5.xt L, q6⟩
theorem CS.x0 {G0 G : GG} {M0 M : DD} {a u0 t : Nat} {f0 : Nat → Nat} {n0 : Nat} {S0 : SS} {D : List Tok} (h : CS (xt G0 []) M0 a u0 t f0 n0 S0 D G M) : CS G0 M0 a u0 t f0 n0 S0 D G M := h
theorem ue_ok {G : GG} {M : DD} {a u t : Nat} {f : Nat → Nat} {m : Nat} {S : SS} {e v : Nat} {p0 p1 : Int32} (h : CW G M a u t f m S) (he : p0.toInt = e) (he2 : e ≤ 16) (hv : p1.toInt = v) (hv2 : v < 1000000000) (hB : Bd S + 500 ≤ 800000) : OK (FX10_ue G M a p0 p1) (fun y => CS G M a u t f m S (ueT e v) (xt G y.1) y.2) := by
  unfold FX10_ue
  refine ok_lt (ok_lt (ok_bnd (bitsUe_ok hv (by omega)) (fun y3 h3 => ?_)))
  obtain ⟨y1, y2⟩ := y3
  obtain ⟨q1, q2, q3⟩ := h3
  dsimp only at q1 q2
  subst q1
  have l1 : (1 : Int64).toInt = 1 := rfl
  have hx : (p1.toInt64 + (1 : Int64)).toInt = ((v + 1 : Nat) : Int) := by
    rw [t64_add (by rw [Int32.toInt_toInt64]; omega) (by rw [Int32.toInt_toInt64]; omega), Int32.toInt_toInt64, hv, l1]
    omega
  have hn : y2.toInt = ((2 * lgv v + 1 : Nat) : Int) := by omega
  have hn2 : 2 * lgv v + 1 ≤ 61 := by omega
  refine ok_bnd (code_ok (h.xt0 [] h.2.2.1) he he2 hx hn (by omega) (by omega)) (fun y4 h4 => ok_app (ok_lt (ok_some ?_)))
  dsimp only
  rw [List.append_nil]
  rw [xt_xt, List.nil_append] at h4
  exact h4
