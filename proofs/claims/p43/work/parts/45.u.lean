/-! bits, rows filled -/
theorem tyl_b {b : Nat} {l h : Int} (hT : (b, l, h) ∈ TYL) : (b == 134 || b == 135 || b == 136 || b == 130 || b == 149) = true := by
  simp only [TYL, List.mem_cons, List.not_mem_nil, or_false, Prod.mk.injEq] at hT
  simp
  omega
theorem av_bit {x m : Int32} {a : Int} (k : Nat) (hx : TI x a) (h0 : 0 ≤ a) (hm : m.toBitVec.toNat = 2 ^ k) (hk : k ≤ 30) : TI (x &&& m) (((2 ^ k : Nat) : Int) * (a / ((2 ^ k : Nat) : Int) % 2)) := by
  have e1 : x.toInt = a := hx
  have h1 : (x &&& m).toBitVec.toNat = (x.toBitVec.toNat.testBit k).toNat * 2 ^ k := by
    rw [Int32.toBitVec_and, BitVec.toNat_and, hm]
    apply Nat.eq_of_testBit_eq
    intro j
    rw [Nat.testBit_and, Nat.testBit_two_pow]
    cases hb : x.toBitVec.toNat.testBit k with
    | false =>
      rw [show (false.toNat * 2 ^ k) = 0 by simp, Nat.zero_testBit]
      by_cases hj : k = j
      · subst hj; rw [hb]; rfl
      · simp [hj]
    | true =>
      rw [show (true.toNat * 2 ^ k) = 2 ^ k by simp, Nat.testBit_two_pow]
      by_cases hj : k = j
      · subst hj; rw [hb]; simp
      · simp [hj]
  have h2 := pz_cond (x &&& m)
  have h3 := pz_cond x
  have h5 : (2 : Nat) ^ k ≤ 2 ^ 30 := Nat.pow_le_pow_right (by omega) hk
  have h4 := x.toBitVec.isLt
  have h6 : (x.toBitVec.toNat.testBit k).toNat = x.toBitVec.toNat / 2 ^ k % 2 := by
    rw [Nat.testBit_eq_decide_div_mod_eq]
    have : x.toBitVec.toNat / 2 ^ k % 2 < 2 := Nat.mod_lt _ (by omega)
    rcases Nat.lt_or_ge (x.toBitVec.toNat / 2 ^ k % 2) 1 with h | h
    · have e : x.toBitVec.toNat / 2 ^ k % 2 = 0 := by omega
      rw [e]; rfl
    · have e : x.toBitVec.toNat / 2 ^ k % 2 = 1 := by omega
      rw [e]; rfl
  have h7 : x.toBitVec.toNat / 2 ^ k % 2 ≤ 1 := by
    have : x.toBitVec.toNat / 2 ^ k % 2 < 2 := Nat.mod_lt _ (by omega)
    omega
  have h8 : x.toBitVec.toNat / 2 ^ k % 2 * 2 ^ k ≤ 1 * 2 ^ k := Nat.mul_le_mul_right _ h7
  have h9 : (x.toBitVec.toNat : Int) = a := by
    rw [← e1, h3]
    split
    · rfl
    · exfalso
      rw [h3] at e1
      split at e1 <;> omega
  show (x &&& m).toInt = _
  rw [h1, h6] at h2
  rw [h2, if_pos (by omega), ← h9]
  rw [Int.natCast_mul, Int.mul_comm, Int.natCast_emod, Int.natCast_ediv]
  rfl
theorem av_or {x y : Int32} {a b : Int} (k : Nat) (hx : TI x a) (hy : TI y b) (h0 : 0 ≤ a) (h1 : a < ((2 ^ k : Nat) : Int)) (h2 : 0 ≤ b) (h3 : b % ((2 ^ k : Nat) : Int) = 0) : TI (x ||| y) (a + b) := by
  have e1 : x.toInt = a := hx
  have e2 : y.toInt = b := hy
  have g1 := pz_cond x
  have g2 := pz_cond y
  have g3 := pz_cond (x ||| y)
  have l1 := x.toBitVec.isLt
  have l2 := y.toBitVec.isLt
  have b1 : (x.toBitVec.toNat : Int) = a := by
    rw [e1] at g1
    split at g1 <;> omega
  have b2 : (y.toBitVec.toNat : Int) = b := by
    rw [e2] at g2
    split at g2 <;> omega
  have l3 : 2 * x.toBitVec.toNat < 4294967296 := by
    rw [e1] at g1
    split at g1
    · assumption
    · omega
  have l4 : 2 * y.toBitVec.toNat < 4294967296 := by
    rw [e2] at g2
    split at g2
    · assumption
    · omega
  have c1 : x.toBitVec.toNat < 2 ^ k := by omega
  have c2 : y.toBitVec.toNat % 2 ^ k = 0 := by
    have : ((y.toBitVec.toNat % 2 ^ k : Nat) : Int) = 0 := by rw [Int.natCast_emod, b2]; exact h3
    omega
  have c3 : y.toBitVec.toNat = 2 ^ k * (y.toBitVec.toNat / 2 ^ k) := by
    have := Nat.div_add_mod y.toBitVec.toNat (2 ^ k)
    omega
  have c4 : (x ||| y).toBitVec.toNat = x.toBitVec.toNat + y.toBitVec.toNat := by
    rw [Int32.toBitVec_or, BitVec.toNat_or, Nat.or_comm, c3, ← Nat.two_pow_add_eq_or_of_lt c1]
    omega
  have l5 : (x ||| y).toBitVec.toNat < 2147483648 := by
    rw [Int32.toBitVec_or, BitVec.toNat_or]
    exact Nat.or_lt_two_pow (n := 31) (by omega) (by omega)
  show (x ||| y).toInt = a + b
  rw [g3, if_pos (by omega), c4]
  omega
theorem fill_go {G : GG} {c n : Nat} {v : Int32} (hn : (G.2.2 c : Nat) = n) (hi : Int32) (b : Int) (hb : TI hi b) (hb1 : 0 ≤ b ∧ b ≤ n) {lo : Int32} {a : Int} (ha : TI lo a) (ha0 : 0 ≤ a ∧ a ≤ b) (hn2 : n < 1000000) (M : DD) (R : DD → Prop) (h0 : R M) (hs : ∀ N k, R N → R (uI N c k v)) : OK (itr (fun (s6 : Int32 × DD) => ((if hi ≤ s6.1 then (some (.inr (s6.1, s6.2))) else
  (chk (¬ (s6.1 < 0 ∨ G.2.2 c ≤ s6.1.toNatClampNeg)) <|
  ltt (uI s6.2 c s6.1.toNatClampNeg v) fun M10 =>
  ltt (s6.1 + (1 : Int32)) fun x11 =>
  some (.inl (x11, M10)))) : Option ((Int32 × DD) ⊕ (Int32 × DD)))) 1000000 (lo, M)) (fun y => R y.2) := by
  have eb : hi.toInt = b := hb
  have ea : lo.toInt = a := ha
  refine ok_itr (fun (z : Int32 × DD) => (0 ≤ z.1.toInt ∧ z.1.toInt ≤ b) ∧ R z.2) (fun z => (b - z.1.toInt).toNat) ?_ _ _ ?_ ?_
  · intro s hs6
    obtain ⟨l6, r6⟩ := hs6
    refine ok_if (fun c1 => ?_) (fun c1 => ?_)
    · exact ok_some r6
    · have d1 := tl_nle hb (rfl : TI s.1 s.1.toInt) c1
      refine ok_chk (nxg hn (rfl : TI s.1 s.1.toInt) (by omega) (by omega)) ?_
      refine ok_ltt (fun M10 e10 => ?_)
      refine ok_ltI (av_add (rfl : TI s.1 s.1.toInt) tn_1 (by omega) (by omega)) (fun x11 i11 => ?_)
      refine ok_some ⟨⟨ti_bd i11 (by omega) (by omega), ?_⟩, mu_up i11 (by omega) (by omega)⟩
      show R M10
      rw [e10]
      exact hs _ _ r6
  · exact ⟨ti_bd ha (by omega) (by omega), h0⟩
  · exact mu_0 ha (by omega)
theorem s_fillAf {S : List Nat} {M0 : DD} {b n : Nat} {G : GG} {M : DD} {p : Nat} {w : Int} {L : List Nat} (t : TT G M p w L) {o : Option Nat} {v : Int32} (e : o = some b) (hf : (decide (b < 234) && !(b == 134 || b == 135 || b == 136 || b == 130 || b == 149 || b == 148 || b == 144 || b == 214 || b == 216 || b == 118 || b == 220 || b == 125)) = true) (hn : (decide (b < 222) && kdL.getD b 0 == 13 && lnL.getD b 0 == n && decide (n < 100000)) = true) (f : Fr p S M0 M) (hs : ∀ k, S.contains (pc p b k) = true) : OK (FJ7_fill_53178 G M o v) (fun y => TT G y p w L ∧ Fr p S M0 y) := by
  subst e
  have hb : b < 222 ∧ kdL.getD b 0 = 13 ∧ lnL.getD b 0 = n ∧ n < 100000 := by
    simp only [Bool.and_eq_true, decide_eq_true_eq, beq_iff_eq] at hn
    exact ⟨hn.1.1.1, hn.1.1.2, hn.1.2, hn.2⟩
  have hlen : G.2.2 b = n := g_n t hb.1 hb.2.2.1
  have hkd : G.2.1 b = 13 := g_k t hb.1 hb.2.1
  have hlt : b < G.1 := g_lt t (by omega)
  have hnn : n < 100000 := hb.2.2.2
  unfold FJ7_fill_53178
  refine ok_dr rfl hlt hkd ?_
  refine ok_ltI (a := (n : Nat)) (by rw [hlen]; exact pz_ofn (by omega)) (fun X iX => ?_)
  refine ok_bnd (fill_go (v := v) hlen X ((n : Nat) : Int) iX ⟨by omega, by omega⟩ tn_0 ⟨by omega, by omega⟩ (by omega) _ (fun N => TT G N p w L ∧ Fr p S M0 N) ⟨t, f⟩ ?_) (fun y hy => ok_some hy)
  intro N k hN
  exact ⟨tt_w0 hN.1 (by simp only [fre]; simp at hf ⊢; omega), fr_w hN.2 (hs k)⟩
theorem s_fillBf {S : List Nat} {M0 : DD} {b n : Nat} {G : GG} {M : DD} {p : Nat} {w : Int} {L : List Nat} (t : TT G M p w L) {o : Option Nat} {v : Int32} (e : o = some b) (hf : (decide (b < 234) && !(b == 134 || b == 135 || b == 136 || b == 130 || b == 149 || b == 148 || b == 144 || b == 214 || b == 216 || b == 118 || b == 220 || b == 125)) = true) (hn : (decide (b < 222) && kdL.getD b 0 == 13 && lnL.getD b 0 == n && decide (n < 100000)) = true) {lo hi : Int32} {x y : Int} (hx : TI lo x) (hy : TI hi y) (h1 : 0 ≤ x) (h2 : x ≤ y) (h3 : y ≤ n) (f : Fr p S M0 M) (hs : ∀ k, S.contains (pc p b k) = true) : OK (FJ7_fill_fda19 G M o lo hi v) (fun y => TT G y p w L ∧ Fr p S M0 y) := by
  subst e
  have hb : b < 222 ∧ kdL.getD b 0 = 13 ∧ lnL.getD b 0 = n ∧ n < 100000 := by
    simp only [Bool.and_eq_true, decide_eq_true_eq, beq_iff_eq] at hn
    exact ⟨hn.1.1.1, hn.1.1.2, hn.1.2, hn.2⟩
  have hlen : G.2.2 b = n := g_n t hb.1 hb.2.2.1
  have hkd : G.2.1 b = 13 := g_k t hb.1 hb.2.1
  have hlt : b < G.1 := g_lt t (by omega)
  have hnn : n < 100000 := hb.2.2.2
  unfold FJ7_fill_fda19
  refine ok_dr rfl hlt hkd ?_
  refine ok_ltI (a := (n : Nat)) (by rw [hlen]; exact pz_ofn (by omega)) (fun X iX => ?_)
  refine ok_bnd (Q := fun N => N = M) ?_ ?_
  · unfold FJ7_rangeCheck_23922
    refine ok_bnd (Q := fun _ => True) (ok_if (fun _ => ok_some trivial) (fun c1 => ?_)) (fun _ _ => ?_)
    · exfalso
      have := tl_nle hx hy c1
      omega
    refine ok_bnd (Q := fun _ => True) (ok_if (fun _ => ok_some trivial) (fun c1 => ?_)) (fun _ _ => ?_)
    · exfalso
      have := tl_nle tn_0 hx c1
      omega
    refine ok_bnd (Q := fun _ => True) (ok_if (fun _ => ok_some trivial) (fun c1 => ?_)) (fun _ _ => ok_some rfl)
    · exfalso
      have := tl_nle hy iX c1
      omega
  · intro N hN
    subst hN
    refine ok_bnd (fill_go (v := v) hlen hi y hy ⟨by omega, by omega⟩ hx ⟨by omega, by omega⟩ (by omega) _ (fun N => TT G N p w L ∧ Fr p S M0 N) ⟨t, f⟩ ?_) (fun y hy => ok_some hy)
    intro N k hN
    exact ⟨tt_w0 hN.1 (by simp only [fre]; simp at hf ⊢; omega), fr_w hN.2 (hs k)⟩
theorem s_fillAt {S : List Nat} {M0 : DD} {b n : Nat} {G : GG} {M : DD} {p : Nat} {w : Int} {L : List Nat} (t : TT G M p w L) {o : Option Nat} {v : Int32} (e : o = some b) (l h : Int) (hT : (b, l, h) ∈ TYL) (hv : ib l h v) (hn : (decide (b < 222) && kdL.getD b 0 == 13 && lnL.getD b 0 == n && decide (n < 100000)) = true) (f : Fr p S M0 M) (hs : ∀ k, S.contains (pc p b k) = true) : OK (FJ7_fill_53178 G M o v) (fun y => TT G y p w L ∧ Fr p S M0 y) := by
  subst e
  have hb : b < 222 ∧ kdL.getD b 0 = 13 ∧ lnL.getD b 0 = n ∧ n < 100000 := by
    simp only [Bool.and_eq_true, decide_eq_true_eq, beq_iff_eq] at hn
    exact ⟨hn.1.1.1, hn.1.1.2, hn.1.2, hn.2⟩
  have hlen : G.2.2 b = n := g_n t hb.1 hb.2.2.1
  have hkd : G.2.1 b = 13 := g_k t hb.1 hb.2.1
  have hlt : b < G.1 := g_lt t (by omega)
  have hnn : n < 100000 := hb.2.2.2
  unfold FJ7_fill_53178
  refine ok_dr rfl hlt hkd ?_
  refine ok_ltI (a := (n : Nat)) (by rw [hlen]; exact pz_ofn (by omega)) (fun X iX => ?_)
  refine ok_bnd (fill_go (v := v) hlen X ((n : Nat) : Int) iX ⟨by omega, by omega⟩ tn_0 ⟨by omega, by omega⟩ (by omega) _ (fun N => TT G N p w L ∧ Fr p S M0 N) ⟨t, f⟩ ?_) (fun y hy => ok_some hy)
  intro N k hN
  exact ⟨tt_wt hN.1 l h (tyl_b hT) hT hv, fr_w hN.2 (hs k)⟩
theorem s_fillBt {S : List Nat} {M0 : DD} {b n : Nat} {G : GG} {M : DD} {p : Nat} {w : Int} {L : List Nat} (t : TT G M p w L) {o : Option Nat} {v : Int32} (e : o = some b) (l h : Int) (hT : (b, l, h) ∈ TYL) (hv : ib l h v) (hn : (decide (b < 222) && kdL.getD b 0 == 13 && lnL.getD b 0 == n && decide (n < 100000)) = true) {lo hi : Int32} {x y : Int} (hx : TI lo x) (hy : TI hi y) (h1 : 0 ≤ x) (h2 : x ≤ y) (h3 : y ≤ n) (f : Fr p S M0 M) (hs : ∀ k, S.contains (pc p b k) = true) : OK (FJ7_fill_fda19 G M o lo hi v) (fun y => TT G y p w L ∧ Fr p S M0 y) := by
  subst e
  have hb : b < 222 ∧ kdL.getD b 0 = 13 ∧ lnL.getD b 0 = n ∧ n < 100000 := by
    simp only [Bool.and_eq_true, decide_eq_true_eq, beq_iff_eq] at hn
    exact ⟨hn.1.1.1, hn.1.1.2, hn.1.2, hn.2⟩
  have hlen : G.2.2 b = n := g_n t hb.1 hb.2.2.1
  have hkd : G.2.1 b = 13 := g_k t hb.1 hb.2.1
  have hlt : b < G.1 := g_lt t (by omega)
  have hnn : n < 100000 := hb.2.2.2
  unfold FJ7_fill_fda19
  refine ok_dr rfl hlt hkd ?_
  refine ok_ltI (a := (n : Nat)) (by rw [hlen]; exact pz_ofn (by omega)) (fun X iX => ?_)
  refine ok_bnd (Q := fun N => N = M) ?_ ?_
  · unfold FJ7_rangeCheck_23922
    refine ok_bnd (Q := fun _ => True) (ok_if (fun _ => ok_some trivial) (fun c1 => ?_)) (fun _ _ => ?_)
    · exfalso
      have := tl_nle hx hy c1
      omega
    refine ok_bnd (Q := fun _ => True) (ok_if (fun _ => ok_some trivial) (fun c1 => ?_)) (fun _ _ => ?_)
    · exfalso
      have := tl_nle tn_0 hx c1
      omega
    refine ok_bnd (Q := fun _ => True) (ok_if (fun _ => ok_some trivial) (fun c1 => ?_)) (fun _ _ => ok_some rfl)
    · exfalso
      have := tl_nle hy iX c1
      omega
  · intro N hN
    subst hN
    refine ok_bnd (fill_go (v := v) hlen hi y hy ⟨by omega, by omega⟩ hx ⟨by omega, by omega⟩ (by omega) _ (fun N => TT G N p w L ∧ Fr p S M0 N) ⟨t, f⟩ ?_) (fun y hy => ok_some hy)
    intro N k hN
    exact ⟨tt_wt hN.1 l h (tyl_b hT) hT hv, fr_w hN.2 (hs k)⟩
theorem s_fillAq6 {S : List Nat} {M0 : DD} {G : GG} {M : DD} {p : Nat} {w : Int} {L : List Nat} (t : TT G M p w L) {o : Option Nat} {v : Int32} (e : o = some (p + 6)) (hv : ib (-1) 7 v) (f : Fr p S M0 M) (hs : S.contains 17 = true) : OK (FJ7_fill_53178 G M o v) (fun y => TT G y p w L ∧ Fr p S M0 y) := by
  subst e
  have hlen : G.2.2 (p + 6) = 1024 := gl_6 t (tt_p t)
  have hkd : G.2.1 (p + 6) = 13 := gk_6 t (tt_p t)
  have hlt : p + 6 < G.1 := by have q := (tt_q0b t (tt_p t)).2; omega
  unfold FJ7_fill_53178
  refine ok_dr rfl hlt hkd ?_
  refine ok_ltI (a := (1024 : Nat)) (by rw [hlen]; exact pz_ofn (by omega)) (fun X iX => ?_)
  refine ok_bnd (fill_go (v := v) hlen X ((1024 : Nat) : Int) iX ⟨by omega, by omega⟩ tn_0 ⟨by omega, by omega⟩ (by omega) _ (fun N => TT G N p w L ∧ Fr p S M0 N) ⟨t, f⟩ ?_) (fun y hy => ok_some hy)
  intro N k hN
  exact ⟨tt_w6 hN.1 hv, fr_w6 hN.2 (tt_p0 hN.1) hs⟩
theorem s_fillBq6 {S : List Nat} {M0 : DD} {G : GG} {M : DD} {p : Nat} {w : Int} {L : List Nat} (t : TT G M p w L) {o : Option Nat} {v : Int32} (e : o = some (p + 6)) (hv : ib (-1) 7 v) {lo hi : Int32} {x y : Int} (hx : TI lo x) (hy : TI hi y) (h1 : 0 ≤ x) (h2 : x ≤ y) (h3 : y ≤ 1024) (f : Fr p S M0 M) (hs : S.contains 17 = true) : OK (FJ7_fill_fda19 G M o lo hi v) (fun y => TT G y p w L ∧ Fr p S M0 y) := by
  subst e
  have hlen : G.2.2 (p + 6) = 1024 := gl_6 t (tt_p t)
  have hkd : G.2.1 (p + 6) = 13 := gk_6 t (tt_p t)
  have hlt : p + 6 < G.1 := by have q := (tt_q0b t (tt_p t)).2; omega
  unfold FJ7_fill_fda19
  refine ok_dr rfl hlt hkd ?_
  refine ok_ltI (a := (1024 : Nat)) (by rw [hlen]; exact pz_ofn (by omega)) (fun X iX => ?_)
  refine ok_bnd (Q := fun N => N = M) ?_ ?_
  · unfold FJ7_rangeCheck_23922
    refine ok_bnd (Q := fun _ => True) (ok_if (fun _ => ok_some trivial) (fun c1 => ?_)) (fun _ _ => ?_)
    · exfalso
      have := tl_nle hx hy c1
      omega
    refine ok_bnd (Q := fun _ => True) (ok_if (fun _ => ok_some trivial) (fun c1 => ?_)) (fun _ _ => ?_)
    · exfalso
      have := tl_nle tn_0 hx c1
      omega
    refine ok_bnd (Q := fun _ => True) (ok_if (fun _ => ok_some trivial) (fun c1 => ?_)) (fun _ _ => ok_some rfl)
    · exfalso
      have := tl_nle hy iX c1
      omega
  · intro N hN
    subst hN
    refine ok_bnd (fill_go (v := v) hlen hi y hy ⟨by omega, by omega⟩ hx ⟨by omega, by omega⟩ (by omega) _ (fun N => TT G N p w L ∧ Fr p S M0 N) ⟨t, f⟩ ?_) (fun y hy => ok_some hy)
    intro N k hN
    exact ⟨tt_w6 hN.1 hv, fr_w6 hN.2 (tt_p0 hN.1) hs⟩
theorem s_fillAq7 {S : List Nat} {M0 : DD} {G : GG} {M : DD} {p : Nat} {w : Int} {L : List Nat} (t : TT G M p w L) {o : Option Nat} {v : Int32} (e : o = some (p + 7))  (f : Fr p S M0 M) (hs : S.contains 19 = true) : OK (FJ7_fill_53178 G M o v) (fun y => TT G y p w L ∧ Fr p S M0 y) := by
  subst e
  have hlen : G.2.2 (p + 7) = 1024 := gl_7 t (tt_p t)
  have hkd : G.2.1 (p + 7) = 13 := gk_7 t (tt_p t)
  have hlt : p + 7 < G.1 := by have q := (tt_q0b t (tt_p t)).2; omega
  unfold FJ7_fill_53178
  refine ok_dr rfl hlt hkd ?_
  refine ok_ltI (a := (1024 : Nat)) (by rw [hlen]; exact pz_ofn (by omega)) (fun X iX => ?_)
  refine ok_bnd (fill_go (v := v) hlen X ((1024 : Nat) : Int) iX ⟨by omega, by omega⟩ tn_0 ⟨by omega, by omega⟩ (by omega) _ (fun N => TT G N p w L ∧ Fr p S M0 N) ⟨t, f⟩ ?_) (fun y hy => ok_some hy)
  intro N k hN
  exact ⟨tt_w7 hN.1, fr_w7 hN.2 (tt_p0 hN.1) hs⟩
theorem s_fillBq7 {S : List Nat} {M0 : DD} {G : GG} {M : DD} {p : Nat} {w : Int} {L : List Nat} (t : TT G M p w L) {o : Option Nat} {v : Int32} (e : o = some (p + 7))  {lo hi : Int32} {x y : Int} (hx : TI lo x) (hy : TI hi y) (h1 : 0 ≤ x) (h2 : x ≤ y) (h3 : y ≤ 1024) (f : Fr p S M0 M) (hs : S.contains 19 = true) : OK (FJ7_fill_fda19 G M o lo hi v) (fun y => TT G y p w L ∧ Fr p S M0 y) := by
  subst e
  have hlen : G.2.2 (p + 7) = 1024 := gl_7 t (tt_p t)
  have hkd : G.2.1 (p + 7) = 13 := gk_7 t (tt_p t)
  have hlt : p + 7 < G.1 := by have q := (tt_q0b t (tt_p t)).2; omega
  unfold FJ7_fill_fda19
  refine ok_dr rfl hlt hkd ?_
  refine ok_ltI (a := (1024 : Nat)) (by rw [hlen]; exact pz_ofn (by omega)) (fun X iX => ?_)
  refine ok_bnd (Q := fun N => N = M) ?_ ?_
  · unfold FJ7_rangeCheck_23922
    refine ok_bnd (Q := fun _ => True) (ok_if (fun _ => ok_some trivial) (fun c1 => ?_)) (fun _ _ => ?_)
    · exfalso
      have := tl_nle hx hy c1
      omega
    refine ok_bnd (Q := fun _ => True) (ok_if (fun _ => ok_some trivial) (fun c1 => ?_)) (fun _ _ => ?_)
    · exfalso
      have := tl_nle tn_0 hx c1
      omega
    refine ok_bnd (Q := fun _ => True) (ok_if (fun _ => ok_some trivial) (fun c1 => ?_)) (fun _ _ => ok_some rfl)
    · exfalso
      have := tl_nle hy iX c1
      omega
  · intro N hN
    subst hN
    refine ok_bnd (fill_go (v := v) hlen hi y hy ⟨by omega, by omega⟩ hx ⟨by omega, by omega⟩ (by omega) _ (fun N => TT G N p w L ∧ Fr p S M0 N) ⟨t, f⟩ ?_) (fun y hy => ok_some hy)
    intro N k hN
    exact ⟨tt_w7 hN.1, fr_w7 hN.2 (tt_p0 hN.1) hs⟩
theorem s_fillAq8 {S : List Nat} {M0 : DD} {G : GG} {M : DD} {p : Nat} {w : Int} {L : List Nat} (t : TT G M p w L) {o : Option Nat} {v : Int32} (e : o = some (p + 8)) (hv : ib (-2048) 2047 v) (f : Fr p S M0 M) (hs : S.contains 20 = true) : OK (FJ7_fill_53178 G M o v) (fun y => TT G y p w L ∧ Fr p S M0 y) := by
  subst e
  have hlen : G.2.2 (p + 8) = 2048 := gl_8 t (tt_p t)
  have hkd : G.2.1 (p + 8) = 13 := gk_8 t (tt_p t)
  have hlt : p + 8 < G.1 := by have q := (tt_q0b t (tt_p t)).2; omega
  unfold FJ7_fill_53178
  refine ok_dr rfl hlt hkd ?_
  refine ok_ltI (a := (2048 : Nat)) (by rw [hlen]; exact pz_ofn (by omega)) (fun X iX => ?_)
  refine ok_bnd (fill_go (v := v) hlen X ((2048 : Nat) : Int) iX ⟨by omega, by omega⟩ tn_0 ⟨by omega, by omega⟩ (by omega) _ (fun N => TT G N p w L ∧ Fr p S M0 N) ⟨t, f⟩ ?_) (fun y hy => ok_some hy)
  intro N k hN
  exact ⟨tt_w8 hN.1 hv, fr_w8 hN.2 (tt_p0 hN.1) hs⟩
theorem s_fillBq8 {S : List Nat} {M0 : DD} {G : GG} {M : DD} {p : Nat} {w : Int} {L : List Nat} (t : TT G M p w L) {o : Option Nat} {v : Int32} (e : o = some (p + 8)) (hv : ib (-2048) 2047 v) {lo hi : Int32} {x y : Int} (hx : TI lo x) (hy : TI hi y) (h1 : 0 ≤ x) (h2 : x ≤ y) (h3 : y ≤ 2048) (f : Fr p S M0 M) (hs : S.contains 20 = true) : OK (FJ7_fill_fda19 G M o lo hi v) (fun y => TT G y p w L ∧ Fr p S M0 y) := by
  subst e
  have hlen : G.2.2 (p + 8) = 2048 := gl_8 t (tt_p t)
  have hkd : G.2.1 (p + 8) = 13 := gk_8 t (tt_p t)
  have hlt : p + 8 < G.1 := by have q := (tt_q0b t (tt_p t)).2; omega
  unfold FJ7_fill_fda19
  refine ok_dr rfl hlt hkd ?_
  refine ok_ltI (a := (2048 : Nat)) (by rw [hlen]; exact pz_ofn (by omega)) (fun X iX => ?_)
  refine ok_bnd (Q := fun N => N = M) ?_ ?_
  · unfold FJ7_rangeCheck_23922
    refine ok_bnd (Q := fun _ => True) (ok_if (fun _ => ok_some trivial) (fun c1 => ?_)) (fun _ _ => ?_)
    · exfalso
      have := tl_nle hx hy c1
      omega
    refine ok_bnd (Q := fun _ => True) (ok_if (fun _ => ok_some trivial) (fun c1 => ?_)) (fun _ _ => ?_)
    · exfalso
      have := tl_nle tn_0 hx c1
      omega
    refine ok_bnd (Q := fun _ => True) (ok_if (fun _ => ok_some trivial) (fun c1 => ?_)) (fun _ _ => ok_some rfl)
    · exfalso
      have := tl_nle hy iX c1
      omega
  · intro N hN
    subst hN
    refine ok_bnd (fill_go (v := v) hlen hi y hy ⟨by omega, by omega⟩ hx ⟨by omega, by omega⟩ (by omega) _ (fun N => TT G N p w L ∧ Fr p S M0 N) ⟨t, f⟩ ?_) (fun y hy => ok_some hy)
    intro N k hN
    exact ⟨tt_w8 hN.1 hv, fr_w8 hN.2 (tt_p0 hN.1) hs⟩
theorem pp_v {G : GG} {M : DD} {p : Nat} {w : Int} {L : List Nat} (t : TT G M p w L) {q : Nat} {x : Int32} {a : Int} (hq : q ∈ L) (hx : TI x a) (h0 : 1 ≤ a) (h1 : a ≤ 2) : ∃ j, (j = 10 ∨ j = 11) ∧ (G.2.2 (q + j) : Int) = 128 * w ∧ M.2 (q + 2) x.toNatClampNeg = some (q + j) := by
  have e : x.toInt = a := hx
  have e1 := nat_of (x := x) (by omega)
  have e2 : x.toNatClampNeg = 1 ∨ x.toNatClampNeg = 2 := by omega
  rcases e2 with e2 | e2 <;> rw [e2]
  · exact ⟨10, Or.inl rfl, gl_10 t hq, pp_1 t hq⟩
  · exact ⟨11, Or.inr rfl, gl_11 t hq, pp_2 t hq⟩
theorem ps_0 {G : GG} {M : DD} {p : Nat} {w : Int} {L : List Nat} (t : TT G M p w L) : ∃ c, (222 ≤ c ∧ c < 234) ∧ (G.2.2 c : Int) = 512 * w ∧ M.2 209 0 = some c := by
  obtain ⟨s, h1, h2, h3, h4⟩ := t.2.2.2.2.2.2.2.1
  refine ⟨_, ⟨by omega, by omega⟩, ?_, h2⟩
  rw [(t.1.2.2 (222 + 3 * s) (by omega) (by omega)).2, if_pos (by omega)]
theorem ps_v {G : GG} {M : DD} {p : Nat} {w : Int} {L : List Nat} (t : TT G M p w L) {x : Int32} {a : Int} (hx : TI x a) (h0 : 1 ≤ a) (h1 : a ≤ 2) : ∃ c, (222 ≤ c ∧ c < 234) ∧ (G.2.2 c : Int) = 128 * w ∧ M.2 209 x.toNatClampNeg = some c := by
  obtain ⟨s, g1, g2, g3, g4⟩ := t.2.2.2.2.2.2.2.1
  have e : x.toInt = a := hx
  have e1 := nat_of (x := x) (by omega)
  have e2 : x.toNatClampNeg = 1 ∨ x.toNatClampNeg = 2 := by omega
  rcases e2 with e2 | e2 <;> rw [e2]
  · refine ⟨_, ⟨by omega, by omega⟩, ?_, g3⟩
    rw [(t.1.2.2 (223 + 3 * s) (by omega) (by omega)).2, if_neg (by omega)]
  · refine ⟨_, ⟨by omega, by omega⟩, ?_, g4⟩
    rw [(t.1.2.2 (224 + 3 * s) (by omega) (by omega)).2, if_neg (by omega)]
theorem oj_ne {L : List Nat} {o : Option Nat} (h : o = none ∨ ∃ q, q ∈ L ∧ o = some q) (c : ¬ o = none) : ∃ q, q ∈ L ∧ o = some q := by
  rcases h with h | h
  · exact absurd h c
  · exact h
theorem tt_l7 {G : GG} {M : DD} {p : Nat} {w : Int} {L : List Nat} (t : TT G M p w L) (k : Nat) : M.2 126 k = none ∨ ∃ q, q ∈ L ∧ M.2 126 k = some q := t.2.2.2.2.2.2.1 k
theorem gl_two {G : GG} {M : DD} {p : Nat} {w : Int} {L : List Nat} (t : TT G M p w L) {c : Nat} (h : (c == 140 || c == 141) = true) : G.2.2 c = 384 := by
  rcases pl_2 h with rfl | rfl
  · exact g_n t (by decide) rfl
  · exact g_n t (by decide) rfl
theorem gk_two {G : GG} {M : DD} {p : Nat} {w : Int} {L : List Nat} (t : TT G M p w L) {c : Nat} (h : (c == 140 || c == 141) = true) : G.2.1 c = 13 := by
  rcases pl_2 h with rfl | rfl
  · exact g_k t (by decide) rfl
  · exact g_k t (by decide) rfl
theorem two_lt {c : Nat} (h : (c == 140 || c == 141) = true) : c < 234 := by
  rcases pl_2 h with rfl | rfl <;> decide
theorem tt_two {G : GG} {M : DD} {p : Nat} {w : Int} {L : List Nat} (t : TT G M p w L) {c k : Nat} {v : Int32} (h : (c == 140 || c == 141) = true) : TT G (uI M c k v) p w L := by
  rcases pl_2 h with rfl | rfl
  · exact tt_w0 t rfl
  · exact tt_w0 t rfl
theorem pc_two {p : Nat} {c k : Nat} {S : List Nat} (h : (c == 140 || c == 141) = true) (hs : S.contains 1 = true) : S.contains (pc p c k) = true := by
  rcases pl_2 h with rfl | rfl
  · exact hs
  · exact hs
theorem i32_b {x : Int32} {a : Int} (h : TI x a) : -2147483648 ≤ a ∧ a ≤ 2147483647 := by
  have e : x.toInt = a := h
  have := Int32.le_toInt x
  have := Int32.toInt_lt x
  omega
theorem av_m2a : ∀ n : Fin 23, ((Int32.ofInt ((n.val : Int) - 4)) &&& (-2 : Int32)).toInt = ((n.val : Int) - 4) - ((n.val : Int) - 4) % 2 := by decide
theorem av_m2 {x : Int32} {a : Int} (h : TI x a) (h0 : -4 ≤ a) (h1 : a ≤ 18) : TI (x &&& (-2 : Int32)) (a - a % 2) := by
  have e : x.toInt = a := h
  obtain ⟨n, hn⟩ : ∃ n : Nat, (n : Int) = a + 4 := ⟨(a + 4).toNat, by omega⟩
  have h2 := av_m2a ⟨n, by omega⟩
  have h3 : x = Int32.ofInt ((n : Int) - 4) := by
    apply Int32.toInt_inj.mp
    rw [Int32.toInt_ofInt_of_le (by omega) (by omega)]
    omega
  rw [h3]
  show _ = _
  rw [show a = (n : Int) - 4 by omega]
  exact h2
theorem pc_f {G : GG} {M : DD} {p : Nat} {w : Int} {L : List Nat} (t : TT G M p w L) {q k : Nat} (hq : q ∈ L) (hk : k ≠ 14) : pc p q k = 0 := by
  have h0 := tt_q0 t hq
  have hd := t.2.2.2.2.2.1 q p hq (tt_p t)
  unfold pc
  rw [if_neg (by omega)]
  by_cases e : q = p
  · rw [if_pos e, if_neg hk]
  · rw [if_neg e, if_neg (by omega), if_neg (by omega), if_neg (by omega), if_neg (by omega), if_neg (by omega), if_neg (by omega)]
theorem q9 {G : GG} {M N : DD} {p : Nat} {w : Int} {L S : List Nat} (t : TT G N p w L) {q : Nat} (hq : q ∈ L) (f : Fr p S M N) (hs : S.contains 0 = false) : TI (N.1 q 9) (M.1 q 9).toInt := by
  show (N.1 q 9).toInt = _
  rw [f.2 q 9 (by rw [pc_f t hq (by decide)]; exact hs)]
theorem k9 {x : Int32} {a : Int} (h : TI x a) (h0 : 0 ≤ a) (h1 : a < 9) : x.toNatClampNeg < 9 := by
  have e : x.toInt = a := h
  have := nat_of (x := x) (by omega)
  omega
/-- orders in a picture between two others -/
def HOS (M : DD) (p : Nat) : Prop := (∀ k q, k < 9 → M.2 126 k = some q → (M.1 q 9).toInt = 0 ∨ (M.1 q 9).toInt = 4) ∧ (M.1 p 9).toInt = 2 ∧ (∀ q, M.2 126 9 = some q → (M.1 q 9).toInt = 4)
theorem ho_tr {G : GG} {M N : DD} {p : Nat} {w : Int} {L S : List Nat} (t : TT G N p w L) (f : Fr p S M N) (h : HOS M p) (hs : S.contains 0 = false) : HOS N p := by
  obtain ⟨h1, h2, h3⟩ := h
  have hq : ∀ k q, N.2 126 k = some q → q ∈ L := by
    intro k q e
    rcases tt_l7 t k with h | ⟨r, hr, er⟩
    · rw [e] at h; cases h
    · rw [e] at er
      injection er with er
      rw [er]; exact hr
  refine ⟨?_, ?_, ?_⟩
  · intro k q hk e
    rw [f.2 q 9 (by rw [pc_f t (hq k q e) (by decide)]; exact hs)]
    exact h1 k q hk (by rw [← f.1]; exact e)
  · rw [f.2 p 9 (by rw [pc_f t (tt_p t) (by decide)]; exact hs)]
    exact h2
  · intro q e
    rw [f.2 q 9 (by rw [pc_f t (hq 9 q e) (by decide)]; exact hs)]
    exact h3 q (by rw [← f.1]; exact e)
theorem tt_mot {G : GG} {M : DD} {p : Nat} {w : Int} {L : List Nat} (t : TT G M p w L) {x y : Int32} {a b : Int} (hx : TI x a) (hy : TI y b) (h : a = 1 ∧ b = 0 ∨ a = 6 ∧ b = 3) : TT G (rI M 144 (va_cpy (M.1 214) (M.1 144) x.toNatClampNeg y.toNatClampNeg ((3 : Int32)).toNatClampNeg)) p w L := by
  have ex : x.toInt = a := hx
  have ey : y.toInt = b := hy
  have nx := nat_of (x := x) (by omega)
  have ny := nat_of (x := y) (by omega)
  have n3 : ((3 : Int32)).toNatClampNeg = 3 := by decide
  refine tt_r t ?_ ?_ ?_ ?_ ?_
  · intro q hq e
    have := tt_q0 t hq
    omega
  · intro q hq e
    have := tt_q0 t hq
    omega
  · intro q hq e
    have := tt_q0 t hq
    omega
  · intro e he e1
    exfalso
    simp only [TYL, List.mem_cons, List.not_mem_nil, or_false] at he
    rcases he with rfl | rfl | rfl | rfl | rfl <;> (dsimp only at e1; omega)
  · intro e he e1
    have key : ∀ k, (k = 0 ∨ k = 3) → ib (-1) 7 (va_cpy (M.1 214) (M.1 144) x.toNatClampNeg y.toNatClampNeg ((3 : Int32)).toNatClampNeg k) := by
      intro k hk
      unfold va_cpy
      rw [n3]
      by_cases c : y.toNatClampNeg ≤ k ∧ k < y.toNatClampNeg + 3
      · rw [if_pos c]
        have hh : x.toNatClampNeg + (k - y.toNatClampNeg) = 1 ∨ x.toNatClampNeg + (k - y.toNatClampNeg) = 6 := by omega
        rcases hh with hh | hh <;> rw [hh]
        · have := ib_p t (by simp [PYL] : (214, 1, 0, 7) ∈ PYL)
          unfold ib
          omega
        · have := ib_p t (by simp [PYL] : (214, 6, 0, 7) ∈ PYL)
          unfold ib
          omega
      · rw [if_neg c]
        rcases hk with rfl | rfl
        · exact ib_p t (by simp [PYL] : (144, 0, -1, 7) ∈ PYL)
        · exact ib_p t (by simp [PYL] : (144, 3, -1, 7) ∈ PYL)
    simp only [PYL, List.mem_cons, List.not_mem_nil, or_false] at he
    rcases he with rfl | rfl | rfl | rfl | rfl | rfl | rfl | rfl | rfl | rfl | rfl | rfl | rfl | rfl | rfl | rfl | rfl | rfl | rfl | rfl | rfl | rfl | rfl | rfl | rfl | rfl | rfl | rfl | rfl | rfl | rfl | rfl | rfl | rfl | rfl | rfl | rfl
    · exact key 0 (Or.inl rfl)
    · exact key 3 (Or.inr rfl)
    all_goals (exfalso; dsimp only at e1; omega)
theorem sq9 {x y : Int32} {a b : Int} (hx : TI x a) (hy : TI y b) (h : (a = 1 ∨ a = 2 ∨ a = 3) ∧ a = b) : 1 ≤ (x * y).toInt ∧ (x * y).toInt ≤ 9 := by
  obtain ⟨h1, rfl⟩ := h
  rcases h1 with rfl | rfl | rfl
  · exact ti_bd (av_mul hx hy (by omega) (by omega)) (by omega) (by omega)
  · exact ti_bd (av_mul hx hy (by omega) (by omega)) (by omega) (by omega)
  · exact ti_bd (av_mul hx hy (by omega) (by omega)) (by omega) (by omega)
theorem md3 {x y : Int32} {a b : Int} (hx : TI x a) (hy : TI y b) (h0 : 0 ≤ a) (h1 : 1 ≤ b) (h2 : b ≤ 3) : 0 ≤ (x - x / y * y).toInt ∧ (x - x / y * y).toInt ≤ 2 := by
  have h := av_mod hx hy h0 (by omega)
  have h3 := Int.emod_nonneg a (show b ≠ 0 by omega)
  have h4 := Int.emod_lt_of_pos a (show 0 < b by omega)
  exact ti_bd h (by omega) (by omega)
theorem dv9 {x y : Int32} {a b : Int} (hx : TI x a) (hy : TI y b) (h0 : 0 ≤ a) (h1 : 1 ≤ b) (h2 : a ≤ 9) : 0 ≤ (x / y).toInt ∧ (x / y).toInt ≤ 9 := by
  have h := av_div hx hy h0 (by omega)
  have h3 : a / b ≤ a := Int.ediv_le_self _ h0
  have h4 : 0 ≤ a / b := Int.ediv_nonneg h0 (by omega)
  exact ti_bd h (by omega) (by omega)
theorem pp_z {G : GG} {M : DD} {p : Nat} {w : Int} {L : List Nat} (t : TT G M p w L) {q : Nat} {x : Int32} {a : Int} (hq : q ∈ L) (hx : TI x a) (h0 : a = 0) : ∃ j, (j = 9 ∨ j = 10 ∨ j = 11) ∧ (G.2.2 (q + j) : Int) = 512 * w ∧ M.2 (q + 2) x.toNatClampNeg = some (q + j) := by
  have e : x.toInt = a := hx
  have e1 := nat_of (x := x) (by omega)
  have e2 : x.toNatClampNeg = 0 := by omega
  rw [e2]
  exact ⟨9, Or.inl rfl, gl_9 t hq, pp_0 t hq⟩
theorem av_neg {x : Int32} {a : Int} (h : TI x a) (h0 : -2147483647 ≤ a) : TI (-x) (-a) := by
  have e : x.toInt = a := h
  show (-x).toInt = -a
  rw [Int32.toInt_neg, e]
  have := Int32.toInt_lt x
  exact bm_in (by omega) (by omega)
theorem ti_c {x : Int32} {c : Int} (h : c ≤ x.toInt ∧ x.toInt ≤ c) : TI x c := by
  show x.toInt = c
  omega
