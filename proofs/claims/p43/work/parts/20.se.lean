/-! Writer: se, te; fill, last, ARITH's beginning -/
def sei (x : Int) : Nat := if 0 < x then (2 * x - 1).toNat else (-2 * x).toNat
theorem numV_sei (x : Int) : numV 1 (sei x) = x := by
  unfold numV sei
  rw [if_pos rfl]
  by_cases h : 0 < x
  · rw [if_pos h, if_pos (by omega)]
    omega
  · rw [if_neg h, if_neg (by omega)]
    omega
theorem sei_b {x : Int} (h0 : -400000000 < x) (h1 : x < 400000000) : sei x < 1000000000 := by
  unfold sei
  split <;> omega
theorem idxSe_ok {G : GG} {M : DD} {p0 : Int32} (h0 : -400000000 < p0.toInt) (h1 : p0.toInt < 400000000) : OK (FX10_indexOfSe G M p0) (fun y => y.1 = M ∧ y.2.toInt = sei p0.toInt) := by
  have e2 : (2 : Int32).toInt = 2 := rfl
  have em2 : (-2 : Int32).toInt = -2 := rfl
  have e1 : (1 : Int32).toInt = 1 := rfl
  have e0 : (0 : Int32).toInt = 0 := rfl
  unfold FX10_indexOfSe
  refine ok_bnd (Q := fun y : Int32 => y.toInt = sei p0.toInt) ?_ (fun y1 h1 => ok_some ⟨rfl, h1⟩)
  unfold sei
  refine ok_if (fun c => ok_lt (ok_some ?_)) (fun c => ok_lt (ok_lt (ok_some ?_)))
  · have := pz_le.mp c
    rw [pz_mulc em2 (by omega) (by omega), if_neg (by omega)]
    omega
  · have : ¬ p0.toInt ≤ (0 : Int32).toInt := fun q => c (pz_le.mpr q)
    have hm := pz_mulc (x := p0) e2 (by omega) (by omega)
    rw [ti_sub (by omega) (by omega), hm, if_pos (by omega)]
    omega
theorem se_ok {G : GG} {M : DD} {a u t : Nat} {f : Nat → Nat} {m : Nat} {S : SS} {e : Nat} {p0 p1 : Int32} (h : CW G M a u t f m S) (he : p0.toInt = e) (he2 : e ≤ 16) (h0 : -400000000 < p1.toInt) (h1 : p1.toInt < 400000000) (hB : Bd S + 500 ≤ 800000) : OK (FX10_se G M a p0 p1) (fun y => CS G M a u t f m S (ueT e (sei p1.toInt)) (xt G y.1) y.2) := by
  have hb := sei_b h0 h1
  unfold FX10_se
  refine ok_bnd (idxSe_ok h0 h1) (fun y1 q1 => ?_)
  obtain ⟨y1a, y1b⟩ := y1
  obtain ⟨q1a, q1b⟩ := q1
  dsimp only at q1a q1b ⊢
  subst q1a
  refine ok_lt (ok_lt (ok_bnd (bitsUe_ok q1b (by omega)) (fun y4 h4 => ?_)))
  obtain ⟨y4a, y4b⟩ := y4
  obtain ⟨r1, r2, r3⟩ := h4
  dsimp only at r1 r2 ⊢
  subst r1
  have l1 : (1 : Int64).toInt = 1 := rfl
  have hx : (y1b.toInt64 + (1 : Int64)).toInt = ((sei p1.toInt + 1 : Nat) : Int) := by
    rw [t64_add (by rw [Int32.toInt_toInt64]; omega) (by rw [Int32.toInt_toInt64]; omega), Int32.toInt_toInt64, q1b, l1]
    omega
  have hn : y4b.toInt = ((2 * lgv (sei p1.toInt) + 1 : Nat) : Int) := by omega
  refine ok_bnd (code_ok (h.xt0 [] h.2.2.1) he he2 hx hn (by omega) (by omega)) (fun y5 h5 => ok_app (ok_lt (ok_some ?_)))
  dsimp only
  rw [List.append_nil]
  rw [xt_xt, List.nil_append] at h5
  exact h5
/-- te: of a range of two a bit, else ue -/
def teT (e most v : Nat) : List Tok := if most = 1 then toks e (1 - v) 1 else ueT e v
theorem te_ok {G : GG} {M : DD} {a u t : Nat} {f : Nat → Nat} {m : Nat} {S : SS} {e most v : Nat} {p0 p1 p2 : Int32} (h : CW G M a u t f m S) (he : p0.toInt = e) (he2 : e ≤ 16) (hm : p1.toInt = most) (hv : p2.toInt = v) (hvm : v ≤ most) (hv2 : v < 1000000000) (hB : Bd S + 500 ≤ 800000) : OK (FX10_te G M a p0 p1 p2) (fun y => CS G M a u t f m S (teT e most v) (xt G y.1) y.2) := by
  have e1 : (1 : Int32).toInt = 1 := rfl
  have l1 : (1 : Int64).toInt = 1 := rfl
  unfold FX10_te teT
  refine ok_bi (ok_if (fun c => ?_) (fun c => ?_))
  · have := pz_eq.mp c
    have hx : ((1 : Int32) - p2).toInt64.toInt = ((1 - v : Nat) : Int) := by
      rw [Int32.toInt_toInt64, ti_sub (by omega) (by omega), e1, hv]
      omega
    refine ok_lt (ok_lt (ok_bnd (code_ok (n := 1) (h.xt0 [] h.2.2.1) he he2 hx e1 (by omega) (by omega)) (fun y5 h5 => ok_app (ok_lt (ok_some (ok_app (ok_lt (ok_some ?_))))))))
    dsimp only
    rw [List.append_nil, List.append_nil, if_pos (by omega)]
    rw [xt_xt, List.nil_append] at h5
    exact h5
  · have : ¬ p1.toInt = (1 : Int32).toInt := fun q => c (pz_eq.mpr q)
    refine ok_lt (ok_lt (ok_bnd (bitsUe_ok hv (by omega)) (fun y4 h4 => ?_)))
    obtain ⟨y4a, y4b⟩ := y4
    obtain ⟨r1, r2, r3⟩ := h4
    dsimp only at r1 r2 ⊢
    subst r1
    have hx : (p2.toInt64 + (1 : Int64)).toInt = ((v + 1 : Nat) : Int) := by
      rw [t64_add (by rw [Int32.toInt_toInt64]; omega) (by rw [Int32.toInt_toInt64]; omega), Int32.toInt_toInt64, hv, l1]
      omega
    have hn : y4b.toInt = ((2 * lgv v + 1 : Nat) : Int) := by omega
    refine ok_bnd (code_ok (h.xt0 [] h.2.2.1) he he2 hx hn (by omega) (by omega)) (fun y5 h5 => ok_app (ok_lt (ok_some (ok_app (ok_lt (ok_some ?_))))))
    dsimp only
    rw [List.append_nil, List.append_nil, if_neg (by omega)]
    rw [xt_xt, List.nil_append] at h5
    exact h5
