theorem lsb_eq {s v : Nat} (hv : v < 4096) : lsb s v = (if lpf s v = 15 then 12 else if lpf s v = 14 then (if s = 0 then 4 else s) else s) := by
  have hp := Nat.two_pow_pos s
  unfold lsb lpf
  by_cases h0 : s = 0
  · rw [if_pos h0, if_pos h0, if_pos h0]
    by_cases h1 : v < 14
    · rw [if_pos h1, if_pos h1, if_neg (by omega), if_neg (by omega), h0]
    · rw [if_neg h1, if_neg h1]
      by_cases h2 : v < 30
      · rw [if_pos h2, if_pos h2, if_neg (by omega), if_pos rfl]
      · rw [if_neg h2, if_neg h2, if_pos rfl]
  · rw [if_neg h0, if_neg h0, if_neg h0]
    by_cases h1 : v < 15 * 2 ^ s
    · have : v / 2 ^ s < 15 := (Nat.div_lt_iff_lt_mul hp).mpr h1
      rw [if_pos h1, if_pos h1, if_neg (by omega)]
      split <;> rfl
    · rw [if_neg h1, if_neg h1, if_pos rfl]
theorem lv_re {s v : Nat} : lpf s v * 2 ^ s + lsf s v + (if lpf s v = 15 then (if s = 0 then 15 else 0) else 0) = v := by
  have hp := Nat.two_pow_pos s
  unfold lsf lpf
  by_cases h0 : s = 0
  · rw [if_pos h0, if_pos h0, if_pos h0]
    have e : 2 ^ s = 1 := by rw [h0]
    rw [e]
    by_cases h1 : v < 14
    · rw [if_pos h1, if_pos h1, if_neg (by omega)]; omega
    · rw [if_neg h1, if_neg h1]
      by_cases h2 : v < 30
      · rw [if_pos h2, if_pos h2, if_neg (by omega)]; omega
      · rw [if_neg h2, if_neg h2, if_pos rfl]; omega
  · rw [if_neg h0, if_neg h0, if_neg h0]
    by_cases h1 : v < 15 * 2 ^ s
    · have : v / 2 ^ s < 15 := (Nat.div_lt_iff_lt_mul hp).mpr h1
      rw [if_pos h1, if_pos h1, if_neg (by omega)]
      have := Nat.div_add_mod v (2 ^ s)
      rw [Nat.mul_comm] at this
      omega
    · rw [if_neg h1, if_neg h1, if_pos rfl]; omega
def oneT (s v : Nat) : List Tok := toks 13 1 (lpf s v + 1) ++ toks 14 (lsf s v) (lsb s v)
theorem one_bit {P j : Nat} (h : j < P) : 1 / 2 ^ (P + 1 - 1 - j) % 2 = 0 := by
  have : 1 / 2 ^ (P + 1 - 1 - j) = 0 := Nat.div_eq_of_lt (Nat.one_lt_two_pow (by omega))
  rw [this]
theorem one_end (P : Nat) : 1 / 2 ^ (P + 1 - 1 - P) % 2 = 1 := by
  rw [show P + 1 - 1 - P = 0 by omega]
theorem VT.app {f : Nat → Nat} {T e V n : Nat} {D : List Tok} {S : SS} {G : GG} {M : DD} {r d t : Nat} (_h : RD G M r d t f T S) (hv : VT f T (toks e V n ++ D) S) : pos (runs (toks e V n) S) ≤ T ∨ True := Or.inr trivial
set_option maxHeartbeats 4000000 in
theorem oneLevel_ok {G : GG} {M : DD} {r d t el : Nat} {f : Nat → Nat} {T : Nat} {S : SS} {D : List Tok} {s v more : Nat} {x : Int} {p0 p1 : Int32} (h : RD G M r d t f T S) (hE : RE G M r el t S) (hd : el ≠ d) (hs6 : s ≤ 6) (hx0 : -2000 ≤ x) (hx1 : x ≤ 2000) (hxn : x ≠ 0) (hm1 : more ≤ 1) (hlv : (v : Int) = lvV x more) (hv : VT f T (oneT s v ++ D) S) (hp : pos (runs (toks 13 1 (lpf s v + 1)) S) ≤ 600000) (hp2 : pos (runs (oneT s v) S) ≤ 600000) (hs : p0.toInt = s) (hm : p1.toInt = more) : OK (FX5_oneLevel G M r p0 p1) (fun y => y.2.toInt = x ∧ RD G y.1 r d t f T (runs (oneT s v) S) ∧ RE G y.1 r el t (runs (oneT s v) S) ∧ VT f T D (runs (oneT s v) S) ∧ RY M r t el y.1) := by
  have e0 : (0 : Int32).toInt = 0 := rfl
  have e1 : (1 : Int32).toInt = 1 := rfl
  have e2 : (2 : Int32).toInt = 2 := rfl
  have e4 : (4 : Int32).toInt = 4 := rfl
  have e12 : (12 : Int32).toInt = 12 := rfl
  have e13 : (13 : Int32).toInt = ((13 : Nat) : Int) := rfl
  have e14 : (14 : Int32).toInt = ((14 : Nat) : Int) := rfl
  have e15 : (15 : Int32).toInt = 15 := rfl
  have e16 : (16 : Int32).toInt = 16 := rfl
  have hvb : v < 4096 := by
    unfold lvV at hlv
    split at hlv <;> split at hlv <;> omega
  obtain ⟨b1, b2, b3⟩ := lsf_b hs6 hvb
  have hre := lv_re (s := s) (v := v)
  have hsb := lsb_eq (s := s) hvb
  have her : el ≠ r := fun e => by
    have h1 := h.1.2.1
    have h2 := hE.2.2.1
    rw [← e] at h1
    omega
  obtain ⟨hdr, htr, hdt⟩ := h.lt
  unfold oneT at hv hp2 ⊢
  rw [List.append_assoc] at hv
  rw [runs_app] at hp2 ⊢
  generalize hP : lpf s v = P at *
  generalize hB : lsb s v = B at *
  generalize hF : lsf s v = F at *
  have hv0 := hv
  rw [toks_r 13 1 (P + 1)] at hv
  unfold FX5_oneLevel
  refine ok_lt (ok_lt (ok_bnd (ok_itr (fun s : Int32 × DD => ∃ j : Nat, s.1.toInt = j ∧ j ≤ P ∧ RD G s.2 r d t f T (runs ((List.range' 0 j).map (tokj 13 1 (P + 1))) S) ∧ VT f T (tkr 13 1 (P + 1) (P + 1 - j) ++ (toks 14 F B ++ D)) (runs ((List.range' 0 j).map (tokj 13 1 (P + 1))) S) ∧ RX (uI M r 4 (M.1 r 2)) r t s.2) (fun s => (16 - s.1.toInt).toNat) (P := fun y : Int32 × DD => y.1.toInt = P ∧ RD G y.2 r d t f T (runs (toks 13 1 (P + 1)) S) ∧ VT f T (toks 14 F B ++ D) (runs (toks 13 1 (P + 1)) S) ∧ RX (uI M r 4 (M.1 r 2)) r t y.2) ?_ 1000000 _ ?_ ?_) (fun y3 h3 => ?_)))
  · intro s2 hs2
    obtain ⟨k, N⟩ := s2
    obtain ⟨j, j1, j2, j3, j4, j5⟩ := hs2
    dsimp only at j1 j3 j5 ⊢
    refine ok_if (fun c => ?_) (fun c => ?_)
    · have := pz_le.mp c
      exfalso
      omega
    · rw [tkr_cons 13 1 (P + 1) (by omega)] at j4
      refine ok_bnd (bit_ok j3 j4 e13 (by omega) j1) (fun y49 h49 => ?_)
      obtain ⟨y1, y2⟩ := y49
      obtain ⟨z1, z2, z3, z4⟩ := h49
      dsimp only at z1 z2 z3 z4 ⊢
      rw [← runs_s] at z2 z3
      have hfr : RX (uI M r 4 (M.1 r 2)) r t y1 := ⟨z4.1.trans j5.1, fun x k2 h1 h2 => (z4.2 x k2 h1 h2).trans (j5.2 x k2 h1 h2)⟩
      refine ok_if (fun c2 => ok_lt (ok_some ?_)) (fun c2 => ok_some ?_)
      · have c3 := pz_eq.mp c2
        have hjl : j < P := by
          by_cases q : j = P
          · rw [q, one_end] at z1
            omega
          · omega
        have hk1 : (k + 1).toInt = j + 1 := by rw [ti_add (by omega) (by omega), j1, e1]
        dsimp only
        exact ⟨⟨j + 1, by rw [hk1]; omega, by omega, z2, z3, hfr⟩, by omega⟩
      · have hjl : j = P := by
          by_cases q : j < P
          · rw [one_bit q] at z1
            exact absurd (pz_eq.mpr (by rw [z1]; rfl)) c2
          · omega
        subst hjl
        dsimp only
        rw [runs_n] at z2 z3
        rw [Nat.sub_self] at z3
        exact ⟨j1, z2, z3, hfr⟩
  · exact ⟨0, rfl, Nat.zero_le _, h.f4 _, hv, rfl, fun _ _ _ _ => rfl⟩
  · dsimp only
    omega
  · obtain ⟨z, N⟩ := y3
    obtain ⟨n1, n2, n3, n4⟩ := h3
    dsimp only at n1 n2 n3 n4 ⊢
    refine ok_bnd (Q := fun y : DD => y = N) (ok_if (fun _ => ok_some rfl) (fun c => absurd (pz_le.mpr (by omega)) c)) (fun y6 h6 => ?_)
    subst h6
    refine ok_bnd (rec_ok (p0 := z) n2 h.s01 hE hd (by omega) hp htr her n4) (fun y7 h7 => ?_)
    obtain ⟨g1, g2, g3⟩ := h7
    refine ok_bnd (Q := fun y : Int32 => y.toInt = B) ?_ (fun y8 h8 => ?_)
    · rw [hsb]
      refine ok_if (fun c => ok_some ?_) (fun c => ok_bi (ok_if (fun c2 => ok_bi (ok_if (fun c3 => ok_some (ok_some (ok_some ?_))) (fun c3 => ok_some (ok_some (ok_some ?_))))) (fun c2 => ok_some (ok_some ?_))))
      · have := pz_eq.mp c
        have q : (if P = 15 then 12 else if P = 14 then (if s = 0 then 4 else s) else s) = 12 := if_pos (by omega)
        rw [q]; exact e12
      · have c9 : ¬ z.toInt = (15 : Int32).toInt := fun q => c (pz_eq.mpr q)
        have := pz_eq.mp c2
        have := pz_eq.mp c3
        have q : (if P = 15 then 12 else if P = 14 then (if s = 0 then 4 else s) else s) = 4 := by
          rw [if_neg (by omega), if_pos (by omega), if_pos (by omega)]
        rw [q]; exact e4
      · have c9 : ¬ z.toInt = (15 : Int32).toInt := fun q => c (pz_eq.mpr q)
        have := pz_eq.mp c2
        have c8 : ¬ p0.toInt = (0 : Int32).toInt := fun q => c3 (pz_eq.mpr q)
        have q : (if P = 15 then 12 else if P = 14 then (if s = 0 then 4 else s) else s) = s := by
          rw [if_neg (by omega), if_pos (by omega), if_neg (by omega)]
        rw [q]; exact hs
      · have c9 : ¬ z.toInt = (15 : Int32).toInt := fun q => c (pz_eq.mpr q)
        have c8 : ¬ z.toInt = (14 : Int32).toInt := fun q => c2 (pz_eq.mpr q)
        have q : (if P = 15 then 12 else if P = 14 then (if s = 0 then 4 else s) else s) = s := by
          rw [if_neg (by omega), if_neg (by omega)]
        rw [q]; exact hs
    refine ok_bnd (Q := fun y : Int32 => y = z) (ok_if (fun c => ok_some ?_) (fun _ => ok_some rfl)) (fun y9 h9 => ok_lt ?_)
    · have := pz_le.mp c
      exact pz_eq.mpr (by omega)
    subst h9
    have hp2s := Nat.two_pow_pos s
    have hp6 : (2 : Nat) ^ s ≤ 2 ^ 6 := Nat.pow_le_pow_right (by decide) hs6
    have hp64 : (2 : Nat) ^ 6 = 64 := rfl
    have hPm : P * 2 ^ s ≤ 15 * 64 := Nat.mul_le_mul b2 (by omega)
    have hx10 : (y9 <<< (p0 &&& 31)).toInt = ((P * 2 ^ s : Nat) : Int) := by
      have hc : y9.toInt * ((2 ^ s : Nat) : Int) = ((P * 2 ^ s : Nat) : Int) := by rw [n1, Int.natCast_mul]
      rw [pz_shlv hs (by omega) (by omega) (by rw [hc]; omega), hc]
    generalize y9 <<< (p0 &&& 31) = x10 at hx10
    have hFb : F < 4096 := Nat.lt_of_lt_of_le b1 (Nat.pow_le_pow_right (n := 2) (by decide) b3)
    generalize hQ : P * 2 ^ s = Q at *
    refine ok_bnd (Q := fun y : Int32 × DD => y.1.toInt = ((Q + F : Nat) : Int) ∧ RD G y.2 r d t f T (runs (toks 14 F B) (runs (toks 13 1 (P + 1)) S)) ∧ RE G y.2 r el t (runs (toks 14 F B) (runs (toks 13 1 (P + 1)) S)) ∧ VT f T D (runs (toks 14 F B) (runs (toks 13 1 (P + 1)) S)) ∧ RY M r t el y.2) ?_ (fun y11 h11 => ?_)
    · refine ok_if (fun c => ok_some ?_) (fun c => ?_)
      · have := pz_le.mp c
        have hB0 : B = 0 := by omega
        have hF0 : F = 0 := by
          rw [hB0] at b1
          have : (2 : Nat) ^ 0 = 1 := rfl
          omega
        dsimp only
        rw [hB0] at n3 ⊢
        have ht0 : toks 14 F 0 = [] := rfl
        rw [ht0] at n3 ⊢
        exact ⟨by rw [hx10, hF0]; rfl, g1, g2, n3, g3⟩
      · have c3 : ¬ y8.toInt ≤ (0 : Int32).toInt := fun q => c (pz_le.mpr q)
        refine ok_bnd (fixed_ok g1 g2 hd n3 hp2 e14 (by omega) h8 (by omega) (by omega) b1) (fun y29 h29 => ok_lt (ok_some ?_))
        obtain ⟨w1, w2, w3, w4, w5⟩ := h29
        dsimp only
        refine ⟨?_, w2, w3, w4, g3.tr w5⟩
        rw [ti_add (by omega) (by omega), hx10, w1]
        omega
    · obtain ⟨x11, N11⟩ := y11
      obtain ⟨w1, w2, w3, w4, w5⟩ := h11
      dsimp only at w1 w2 w3 w5 ⊢
      refine ok_bnd (Q := fun y : Int32 => y.toInt = ((if P = 15 then (if s = 0 then 15 else 0) else 0 : Nat) : Int)) ?_ (fun y12 h12 => ok_lt ?_)
      · refine ok_if (fun c => ok_bi (ok_if (fun c2 => ok_some (ok_some ?_)) (fun c2 => ok_some (ok_some ?_)))) (fun c => ok_some ?_)
        · have := pz_eq.mp c
          have := pz_eq.mp c2
          rw [if_pos (by omega), if_pos (by omega)]; exact e15
        · have := pz_eq.mp c
          have c8 : ¬ p0.toInt = (0 : Int32).toInt := fun q => c2 (pz_eq.mpr q)
          rw [if_pos (by omega), if_neg (by omega)]; exact e0
        · have c8 : ¬ y9.toInt = (15 : Int32).toInt := fun q => c (pz_eq.mpr q)
          rw [if_neg (by omega)]; exact e0
      have hx13 : (x11 + y12).toInt = v := by
        have : (if P = 15 then (if s = 0 then 15 else 0) else 0) ≤ 15 := by
          split
          · split <;> omega
          · omega
        rw [ti_add (by omega) (by omega), w1, h12]
        omega
      generalize x11 + y12 = x13 at hx13
      refine ok_bnd (Q := fun y : Int32 => y.toInt = (if more = 0 then 0 else 2)) (ok_if (fun c => ok_some ?_) (fun c => ok_some ?_)) (fun y14 h14 => ok_lt ?_)
      · have := pz_eq.mp c
        rw [if_pos (by omega)]; exact e0
      · have : ¬ p1.toInt = (0 : Int32).toInt := fun q => c (pz_eq.mpr q)
        rw [if_neg (by omega)]; exact e2
      have hx15 : (x13 + y14).toInt = (if 0 < x then 2 * x - 2 else -2 * x - 1) := by
        unfold lvV at hlv
        rw [ti_add (by rw [h14]; split <;> omega) (by rw [h14]; split <;> omega), hx13, h14, hlv]
        omega
      generalize x13 + y14 = x15 at hx15
      have han := pz_and1 x15
      refine ok_lt (ok_bnd (Q := fun y : Int32 => y.toInt = x) (ok_if (fun c => ok_lt (ok_lt (ok_some ?_))) (fun c => ok_lt (ok_lt (ok_lt (ok_some ?_))))) (fun y17 h17 => ok_some ⟨h17, w2, w3, w4, w5⟩))
      · have := pz_eq.mp c
        have hpos : 0 < x := by
          by_cases q : 0 < x
          · exact q
          · rw [if_neg q] at hx15
            omega
        rw [if_pos hpos] at hx15
        have hx22 : (x15 + (2 : Int32)).toInt = 2 * x := by
          rw [ti_add (by omega) (by omega), hx15, e2]
          omega
        rw [Int32.toInt_div, hx22, e2, Int.tdiv_eq_ediv_of_nonneg (by omega)]
        rw [show 2 * x / 2 = x by omega]
        exact bm_in (by omega) (by omega)
      · have c3 : ¬ (x15 &&& (1 : Int32)).toInt = (0 : Int32).toInt := fun q => c (pz_eq.mpr q)
        have hneg : ¬ 0 < x := fun q => by
          rw [if_pos q] at hx15
          omega
        rw [if_neg hneg] at hx15
        have hx19 : (x15 + (1 : Int32)).toInt = -2 * x := by
          rw [ti_add (by omega) (by omega), hx15, e1]
          omega
        have hx20 : (-(x15 + (1 : Int32))).toInt = 2 * x := by
          rw [Int32.toInt_neg, hx19]
          exact bm_in (by omega) (by omega) |>.trans (by omega)
        rw [Int32.toInt_div, hx20, e2]
        have htd : (2 * x).tdiv 2 = x := by
          rw [Int.mul_comm]
          exact Int.mul_tdiv_cancel x (by decide)
        rw [htd]
        exact bm_in (by omega) (by omega)
