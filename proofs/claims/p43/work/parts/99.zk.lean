/-! pattern and step of a BLOCK, written -/
theorem pkT_b (off : Nat) (c : Int32) : ∀ n, n ≤ 48 → all0 (pkT off c n) ∧ (pkT off c n).length ≤ 59 * n
  | 0, _ => ⟨fun T h => by simp [pkT] at h, by simp [pkT]⟩
  | n + 1, hn => by
    obtain ⟨h1, h2⟩ := pkT_b off c n (by omega)
    show all0 (pkT off c n ++ (if (sT 9).getD (off + n) 0 = c then ueT 9 n else [])) ∧ (pkT off c n ++ (if (sT 9).getD (off + n) 0 = c then ueT 9 n else [])).length ≤ _
    have h3 := ueT_len (e := 9) (v := n) (by omega)
    split
    · exact ⟨all0_app h1 h3.2, by rw [List.length_append]; omega⟩
    · exact ⟨by rw [List.append_nil]; exact h1, by rw [List.append_nil]; omega⟩
theorem w_isSkipped {G : GG} {M N : DD} {u fr c mb : Nat} {st : Nat → Nat} {B : List Nat} {D : List Tok} {L : NN} (h : WU G M u fr st B c D L N) {p0 : Int32} (i0 : TI p0 mb) (hmb : mb ≤ 3) (hs : M.1 129 (8 * mb) = 3 → 0 ≤ (M.1 129 (8 * mb + 1)).toInt) : OK (FX0_isSkipped (xt G L) N 116 p0) (fun y => y.1 = N ∧ y.2 = 0) := by
  unfold FX0_isSkipped
  refine ok_drW (b := 125) h (by decide) rfl rfl (by decide) rfl ?_
  refine ok_ltI (a := 8 * (mb : Int)) (av_mul tn_8 i0 (by omega) (by omega)) (fun x2 i2 => ?_)
  refine ok_ltI (a := 8 * (mb : Int) + 0) (av_add i2 tn_0 (by omega) (by omega)) (fun x3 i3 => ?_)
  refine ok_drW (b := 129) h (by decide) rfl rfl (by decide) rfl ?_
  refine ok_chk (by rw [wu_len h (b := 129) (n := 256) (by decide) rfl]; exact nx i3 (by omega) (by show _ < ((256 : Nat) : Int); omega)) ?_
  rw [show x3.toNatClampNeg = 8 * mb by rw [ti_n i3]; omega]
  refine ok_ltt (fun x5 e5 => ?_)
  rw [wu_ag h rfl] at e5
  refine ok_bnd (Q := fun y => y = 0) (ok_if (fun q => ?_) (fun _ => ok_some rfl)) ?_
  · refine ok_ltI (a := 8 * (mb : Int)) (av_mul tn_8 i0 (by omega) (by omega)) (fun x8 i8 => ?_)
    refine ok_ltI (a := 8 * (mb : Int) + 1) (av_add i8 tn_1 (by omega) (by omega)) (fun x9 i9 => ?_)
    refine ok_chk (by rw [wu_len h (b := 129) (n := 256) (by decide) rfl]; exact nx i9 (by omega) (by show _ < ((256 : Nat) : Int); omega)) ?_
    rw [show x9.toNatClampNeg = 8 * mb + 1 by rw [ti_n i9]; omega]
    refine ok_ltt (fun x10 e10 => ?_)
    rw [wu_ag h rfl] at e10
    have h10 := hs (e5.symm.trans q)
    rw [← e10] at h10
    exact ok_bnd (Q := fun y => y = 0) (ok_if (fun _ => ok_some rfl) (fun z => absurd (pz_le.mpr (show (0 : Int32).toInt ≤ x10.toInt from h10)) z)) (fun y hy => ok_some hy)
  · intro y hy
    exact ok_chk (Or.inl hy) (ok_some ⟨rfl, hy⟩)
/-- one row changed by a step of the coder's own -/
theorem wu_row {G : GG} {M N : DD} {u fr c : Nat} {st : Nat → Nat} {B : List Nat} {D : List Tok} {L : NN} (h : WU G M u fr st B c D L N) {b k : Nat} {v : Int32} (hb : (decide (b < 222) && !(kdL.getD b 0 == 12) && !(b == 119) && !(b == 122)) = true) : ∃ M', WU G M' u fr st B c D L (uI N b k v) ∧ M'.2 = M.2 ∧ (∀ x j, ¬ (x = b ∧ j = k) → M'.1 x j = M.1 x j) ∧ M'.1 b k = v := by
  have hK := h.2.2.2.1
  simp only [Bool.and_eq_true, decide_eq_true_eq, Bool.not_eq_true', beq_eq_false_iff_ne] at hb
  have hk2 : (kdL.getD b 0 == 12) = false := by
    rw [beq_eq_false_iff_ne]; exact hb.1.1.2
  refine ⟨mixM (fun x => x = b) M (uI N b k v), wu_chg h (fun x => x = b) ?_ rfl (fun x j q => uI_n _ _ (fun z => q z.1)), rfl, ?_, ?_⟩
  · intro x hx
    subst hx
    exact ⟨by have := hK.1; omega, by rw [gk_k hK hb.1.1.1 rfl]; exact hb.1.1.2, hb.1.2, hb.2⟩
  · intro x j q
    by_cases z : x = b
    · rw [mix_y (X := fun x => x = b) z, uI_n _ _ q, z]
      exact wu_rd h ⟨hb.1.1.1, hb.1.2, hb.2⟩ hk2 j
    · rw [mix_n (X := fun x => x = b) z]
  · rw [mix_y (X := fun x => x = b) rfl, uI_s]
theorem w_pat0 {G : GG} {M N : DD} {u fr c mb k0 pt cl : Nat} {st : Nat → Nat} {B : List Nat} {D : List Tok} {L : NN} (h : WU G M u fr st B c D L N) {p0 p1 ty : Int32} {q0 q : Int} (i0 : TI p0 mb) (hmb : mb ≤ 3) (hty : M.1 129 (8 * mb) = ty) (ht : ty = 0 ∨ ty = 3) (hs : M.1 129 (8 * mb) = 3 → 0 ≤ (M.1 129 (8 * mb + 1)).toInt) (h3 : (M.1 129 (8 * mb + 3)).toInt = pt) (h4 : (M.1 129 (8 * mb + 4)).toInt = cl) (hpt : pt ≤ 15) (hcl : cl ≤ 2) (hk : k0 < 48) (hk1 : (sT 9).getD ((if ty = 0 then 0 else 48) + k0) 0 = Int32.ofNat (pt + 16 * cl)) (hu : ∀ i, i < 48 → (sT 9).getD ((if ty = 0 then 0 else 48) + i) 0 = Int32.ofNat (pt + 16 * cl) → i = k0) (hq0 : (M.1 116 19).toInt = q0) (ip1 : TI p1 q) (b0 : 0 ≤ q0 ∧ q0 ≤ 51) (b1 : 0 ≤ q ∧ q ≤ 51) (hq : pt + cl = 0 → q = q0) (hS : SOk (runs D (SU st))) (hB : Bd (runs D (SU st)) + 40000 ≤ 800000) : OK (FX0_writePattern (xt G L) N 116 p0 p1) (fun y => ∃ M', WU G M' u fr st B c (D ++ (ueT 9 k0 ++ (if pt + cl = 0 then [] else ueT 10 (sei (q - q0))))) (L ++ y.1) y.2 ∧ M'.2 = M.2 ∧ (∀ x k, ¬ (x = 116 ∧ k = 19) → ¬ (x = 129 ∧ k = 8 * mb + 2) → M'.1 x k = M.1 x k) ∧ (M'.1 116 19).toInt = q ∧ (M'.1 129 (8 * mb + 2)).toInt = q) := by
  have ht1 : ¬ ty = 1 := by rcases ht with z | z <;> rw [z] <;> decide
  have ht2 : ¬ ty = 2 := by rcases ht with z | z <;> rw [z] <;> decide
  have e48 : (48 : Int32).toInt = 48 := rfl
  unfold FX0_writePattern
  simp only [xt_xt, List.append_nil]
  refine ok_ltI (a := 8 * (mb : Int)) (av_mul tn_8 i0 (by omega) (by omega)) (fun x1 i1 => ?_)
  refine ok_drW (b := 125) h (by decide) rfl rfl (by decide) rfl ?_
  refine ok_ltI (a := 8 * (mb : Int) + 0) (av_add i1 tn_0 (by omega) (by omega)) (fun x3 i3 => ?_)
  refine ok_drW (b := 129) h (by decide) rfl rfl (by decide) rfl ?_
  refine ok_chk (by rw [wu_len h (b := 129) (n := 256) (by decide) rfl]; exact nx i3 (by omega) (by show _ < ((256 : Nat) : Int); omega)) ?_
  rw [show x3.toNatClampNeg = 8 * mb by rw [ti_n i3]; omega]
  refine ok_ltt (fun x5 e5 => ?_)
  rw [wu_ag h rfl, hty] at e5
  subst e5
  rw [if_neg ht2]
  refine ok_ltI (a := 8 * (mb : Int) + 3) (av_add i1 tn_3 (by omega) (by omega)) (fun x7 i7 => ?_)
  refine ok_chk (by rw [wu_len h (b := 129) (n := 256) (by decide) rfl]; exact nx i7 (by omega) (by show _ < ((256 : Nat) : Int); omega)) ?_
  rw [show x7.toNatClampNeg = 8 * mb + 3 by rw [ti_n i7]; omega]
  refine ok_ltI (a := (pt : Int)) (by rw [wu_ag h rfl]; exact h3) (fun x8 i8 => ?_)
  refine ok_ltI (a := 8 * (mb : Int) + 4) (av_add i1 tn_4 (by omega) (by omega)) (fun x9 i9 => ?_)
  refine ok_chk (by rw [wu_len h (b := 129) (n := 256) (by decide) rfl]; exact nx i9 (by omega) (by show _ < ((256 : Nat) : Int); omega)) ?_
  rw [show x9.toNatClampNeg = 8 * mb + 4 by rw [ti_n i9]; omega]
  refine ok_ltI (a := (cl : Int)) (by rw [wu_ag h rfl]; exact h4) (fun x10 i10 => ?_)
  refine ok_ltI (a := 16 * (cl : Int)) (av_mul tn_16 i10 (by omega) (by omega)) (fun x11 i11 => ?_)
  refine ok_ltI (a := (pt : Int) + 16 * cl) (av_add i8 i11 (by omega) (by omega)) (fun x12 i12 => ?_)
  have ex12 : x12 = Int32.ofNat (pt + 16 * cl) := by
    apply Int32.toInt_inj.1
    have e1 : x12.toInt = (pt : Int) + 16 * cl := i12
    have e2 : (Int32.ofNat (pt + 16 * cl)).toInt = ((pt + 16 * cl : Nat) : Int) := pz_ofn (by omega)
    rw [e1, e2]
    omega
  have hE : pkT (if x5 = 0 then 0 else 48) x12 48 = ueT 9 k0 := by
    rw [ex12]
    exact pkT_one hk1 hu 48 (Nat.le_refl _) hk
  refine ok_bnd (Q := fun y => WU G M u fr st B c (D ++ ueT 9 k0) (L ++ y.1) y.2) (ok_if (fun z => absurd z ht1) (fun _ => ?_)) ?_
  · refine ok_bnd (w_isSkipped h i0 hmb hs) ?_
    rintro ⟨y54, s54⟩ ⟨ey, es⟩
    dsimp only at ey es ⊢
    subst ey; subst es
    rw [if_pos rfl]
    refine ok_bnd (Q := fun y => WU G M u fr st B c (D ++ ueT 9 k0) (L ++ y.1) y.2) ?_ ?_
    · refine ok_bnd (Q := fun y => TI y ((if x5 = 0 then 0 else 48 : Nat) : Int)) (ok_if (fun z => ok_some (by rw [if_pos z]; rfl)) (fun z => ok_some (by rw [if_neg z]; rfl))) ?_
      intro y61 i61
      refine ok_bnd (ok_itrB (fun (K : NN) (s : Int32 × DD) => ∃ j : Nat, s.1.toInt = j ∧ j ≤ 48 ∧ WU G M u fr st B c (D ++ pkT (if x5 = 0 then 0 else 48) x12 j) (L ++ K) s.2) (fun (s : Int32 × DD) => (48 - s.1.toInt).toNat) (fun (K : NN) (y : Int32 × DD) => WU G M u fr st B c (D ++ ueT 9 k0) (L ++ K) y.2) ?_ 1000000 [] ((0 : Int32), y54) ⟨0, rfl, by decide, by simpa [pkT] using h⟩ (by show (48 - (0 : Int32).toInt).toNat < 1000000; decide)) ?_
      · rintro K ⟨i, N1⟩ ⟨j, hj, hj2, hU⟩
        dsimp only at hj hU ⊢
        refine ok_if (fun hc => ?_) (fun hc => ?_)
        · have h1 := pz_le.mp hc
          have : j = 48 := by omega
          subst this
          rw [hE] at hU
          exact ok_some (by rw [List.append_nil]; exact hU)
        · have h1 : j < 48 := by
            have : ¬ (48 : Int32).toInt ≤ i.toInt := fun z => hc (pz_le.mpr z)
            omega
          have hoff : (if x5 = 0 then 0 else 48) ≤ 48 := by split <;> omega
          refine ok_ltI (a := ((if x5 = 0 then 0 else 48 : Nat) : Int) + j) (av_add i61 hj (by omega) (by omega)) (fun x73 i73 => ?_)
          refine ok_chk (nx i73 (by omega) (by omega)) ?_
          rw [show x73.toNatClampNeg = (if x5 = 0 then 0 else 48) + j by rw [ti_n i73]; omega]
          refine ok_ltt (fun x74 e74 => ?_)
          have hb := pkT_b (if x5 = 0 then 0 else 48) x12 j (by omega)
          refine ok_bnd (Q := fun y => WU G M u fr st B c (D ++ pkT (if x5 = 0 then 0 else 48) x12 (j + 1)) (L ++ (K ++ y.1)) y.2) (ok_if (fun z => ?_) (fun z => ?_)) ?_
          · refine ok_drW (b := 119) hU (by decide) rfl rfl (by decide) rfl ?_
            refine ok_bnd (wu_ue (e := 9) (v := j) hU rfl (by decide) hj (by omega) (bd_more hS (by omega) hb.1)) ?_
            intro y83 hy83
            refine ok_app (ok_ltt (fun L85 e85 => ok_some ?_))
            have e : pkT (if x5 = 0 then 0 else 48) x12 (j + 1) = pkT (if x5 = 0 then 0 else 48) x12 j ++ ueT 9 j := by
              show pkT (if x5 = 0 then 0 else 48) x12 j ++ (if (sT 9).getD ((if x5 = 0 then 0 else 48) + j) 0 = x12 then ueT 9 j else []) = _
              rw [if_pos (e74.symm.trans z)]
            rw [e]
            simpa only [List.append_assoc, List.append_nil] using hy83
          · have e : pkT (if x5 = 0 then 0 else 48) x12 (j + 1) = pkT (if x5 = 0 then 0 else 48) x12 j := by
              show pkT (if x5 = 0 then 0 else 48) x12 j ++ (if (sT 9).getD ((if x5 = 0 then 0 else 48) + j) 0 = x12 then ueT 9 j else []) = _
              rw [if_neg (fun w => z (e74.trans w)), List.append_nil]
            rw [e]
            exact ok_some (by rw [List.append_nil]; exact hU)
          intro y75 hy75
          refine ok_app (ok_ltt (fun L77 e77 => ?_))
          refine ok_ltI (a := (j : Int) + 1) (av_add hj tn_1 (by omega) (by omega)) (fun x79 i79 => ok_some ?_)
          have hx79 : x79.toInt = (j : Int) + 1 := i79
          refine ⟨by rw [e77, List.append_nil], ⟨j + 1, by show x79.toInt = _; omega, by omega, ?_⟩, by show (48 - x79.toInt).toNat < (48 - i.toInt).toNat; omega⟩
          show WU G M u fr st B c _ (L ++ L77) y75.2
          rw [e77]; exact hy75
      · intro y62 hy62
        refine ok_app (ok_ltt (fun L65 e65 => ok_some ?_))
        simpa only [List.append_nil, List.nil_append] using hy62
    · intro y55 hy55
      refine ok_app (ok_ltt (fun L57 e57 => ok_some ?_))
      simpa only [List.append_nil] using hy55
  intro y13 hy13
  refine ok_app (ok_ltt (fun L15 e15 => ?_))
  have hU : WU G M u fr st B c (D ++ ueT 9 k0) (L ++ L15) y13.2 := by rw [e15, List.nil_append]; exact hy13
  have h9 := ueT_len (e := 9) (v := k0) (by omega)
  refine ok_bnd (Q := fun y => ∃ M', WU G M' u fr st B c (D ++ (ueT 9 k0 ++ (if pt + cl = 0 then [] else ueT 10 (sei (q - q0))))) (L ++ (L15 ++ y.1)) y.2 ∧ M'.2 = M.2 ∧ (∀ x k, ¬ (x = 116 ∧ k = 19) → M'.1 x k = M.1 x k) ∧ (M'.1 116 19).toInt = q) (ok_if (fun z => absurd z ht1) (fun _ => ?_)) ?_
  · refine ok_bnd (Q := fun y => ∃ M', WU G M' u fr st B c (D ++ (ueT 9 k0 ++ (if pt + cl = 0 then [] else ueT 10 (sei (q - q0))))) (L ++ (L15 ++ y.1)) y.2 ∧ M'.2 = M.2 ∧ (∀ x k, ¬ (x = 116 ∧ k = 19) → M'.1 x k = M.1 x k) ∧ (M'.1 116 19).toInt = q) (ok_if (fun z => ?_) (fun z => ?_)) ?_
    · have hz : pt + cl = 0 := by have := tl_le i12 tn_0 z; omega
      refine ok_some ⟨M, ?_, rfl, fun _ _ _ => rfl, by rw [hq hz]; exact hq0⟩
      rw [if_pos hz, List.append_nil, List.append_nil]
      exact hU
    · have hz : ¬ pt + cl = 0 := by have := tl_nle i12 tn_0 z; omega
      refine ok_ltI (a := q0) (by rw [wu_rd hU (by decide) rfl]; exact hq0) (fun x43 i43 => ?_)
      refine ok_ltI (a := q - q0) (av_sub ip1 i43 (by omega) (by omega)) (fun x44 i44 => ?_)
      refine ok_drW (b := 119) hU (by decide) rfl rfl (by decide) rfl ?_
      refine ok_bnd (wu_se (e := 10) hU rfl (by decide) (v := q - q0) i44 (by omega) (by omega) (bd_more hS (by omega) h9.2)) ?_
      intro y46 hy46
      refine ok_app (ok_ltt (fun L48 e48' => ok_ltt (fun M51 e51 => ok_some ?_)))
      obtain ⟨M', w1, w2, w3, w4⟩ := wu_row hy46 (b := 116) (k := 19) (v := p1) rfl
      refine ⟨M', ?_, w2, w3, by rw [w4]; exact ip1⟩
      rw [if_neg hz, e51]
      simpa only [List.append_assoc, List.append_nil] using w1
    intro y37 hy37
    refine ok_app (ok_ltt (fun L39 e39 => ok_some ?_))
    simpa only [List.append_nil] using hy37
  rintro y17 ⟨M', w1, w2, w3, w4⟩
  refine ok_app (ok_ltt (fun L19 e19 => ?_))
  have hV : WU G M' u fr st B c (D ++ (ueT 9 k0 ++ (if pt + cl = 0 then [] else ueT 10 (sei (q - q0))))) (L ++ L19) y17.2 := by rw [e19]; exact w1
  refine ok_drW (b := 125) hV (by decide) rfl rfl (by decide) rfl ?_
  refine ok_ltI (a := 8 * (mb : Int) + 2) (av_add i1 tn_2 (by omega) (by omega)) (fun x22 i22 => ?_)
  refine ok_ltI (a := q) (by rw [wu_rd hV (by decide) rfl]; exact w4) (fun x23 i23 => ?_)
  refine ok_drW (b := 129) hV (by decide) rfl rfl (by decide) rfl ?_
  refine ok_chk (by rw [wu_len hV (b := 129) (n := 256) (by decide) rfl]; exact nx i22 (by omega) (by show _ < ((256 : Nat) : Int); omega)) ?_
  rw [show x22.toNatClampNeg = 8 * mb + 2 by rw [ti_n i22]; omega]
  refine ok_ltt (fun M25 e25 => ok_some ?_)
  obtain ⟨M2, v1, v2, v3, v4⟩ := wu_row hV (b := 129) (k := 8 * mb + 2) (v := x23) rfl
  refine ⟨M2, ?_, v2.trans w2, fun x k a b => (v3 x k b).trans (w3 x k a), by rw [v3 116 19 (by omega)]; exact w4, by rw [v4]; exact i23⟩
  rw [e25]
  simpa only [e15, e19, List.nil_append, List.append_nil, List.append_assoc] using v1
