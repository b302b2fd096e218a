/-! pattern and step of a BLOCK in sixteens, and of a RAW one, written -/
theorem w_pat1 {G : GG} {M N : DD} {u fr c mb pt cl : Nat} {st : Nat → Nat} {B : List Nat} {D : List Tok} {L : NN} (h : WU G M u fr st B c D L N) {p0 p1 : Int32} {q0 q : Int} (i0 : TI p0 mb) (hmb : mb ≤ 3) (hty : M.1 129 (8 * mb) = 1) (h3 : (M.1 129 (8 * mb + 3)).toInt = pt) (h4 : (M.1 129 (8 * mb + 4)).toInt = cl) (hpt : pt ≤ 15) (hcl : cl ≤ 2) (hq0 : (M.1 116 19).toInt = q0) (ip1 : TI p1 q) (b0 : 0 ≤ q0 ∧ q0 ≤ 51) (b1 : 0 ≤ q ∧ q ≤ 51) (hB : Bd (runs D (SU st)) + 40000 ≤ 800000) : OK (FX0_writePattern (xt G L) N 116 p0 p1) (fun y => ∃ M', WU G M' u fr st B c (D ++ ueT 10 (sei (q - q0))) (L ++ y.1) y.2 ∧ M'.2 = M.2 ∧ (∀ x k, ¬ (x = 116 ∧ k = 19) → ¬ (x = 129 ∧ k = 8 * mb + 2) → M'.1 x k = M.1 x k) ∧ (M'.1 116 19).toInt = q ∧ (M'.1 129 (8 * mb + 2)).toInt = q) := by
  unfold FX0_writePattern
  simp only [xt_xt, List.append_nil]
  refine ok_ltI (a := 8 * (mb : Int)) (av_mul tn_8 i0 (by omega) (by omega)) (fun x1 i1 => ?_)
  refine ok_drW (b := 125) h (by decide) rfl rfl (by decide) rfl ?_
  refine ok_ltI (a := 8 * (mb : Int) + 0) (av_add i1 tn_0 (by omega) (by omega)) (fun x3 i3 => ?_)
  refine ok_drW (b := 129) h (by decide) rfl rfl (by decide) rfl ?_
  refine ok_chk (by rw [wu_len h (b := 129) (n := 256) (by decide) rfl]; exact nx i3 (by omega) (by show _ < ((256 : Nat) : Int); omega)) ?_
  rw [show x3.toNatClampNeg = 8 * mb by rw [ti_n i3]; omega]
  refine ok_ltt (fun x5 e5 => ?_)
  rw [wu_ag h rfl, hty] at e5
  subst e5
  rw [if_neg (show ¬ (1 : Int32) = 2 by decide)]
  refine ok_ltI (a := 8 * (mb : Int) + 3) (av_add i1 tn_3 (by omega) (by omega)) (fun x7 i7 => ?_)
  refine ok_chk (by rw [wu_len h (b := 129) (n := 256) (by decide) rfl]; exact nx i7 (by omega) (by show _ < ((256 : Nat) : Int); omega)) ?_
  rw [show x7.toNatClampNeg = 8 * mb + 3 by rw [ti_n i7]; omega]
  refine ok_ltI (a := (pt : Int)) (by rw [wu_ag h rfl]; exact h3) (fun x8 i8 => ?_)
  refine ok_ltI (a := 8 * (mb : Int) + 4) (av_add i1 tn_4 (by omega) (by omega)) (fun x9 i9 => ?_)
  refine ok_chk (by rw [wu_len h (b := 129) (n := 256) (by decide) rfl]; exact nx i9 (by omega) (by show _ < ((256 : Nat) : Int); omega)) ?_
  rw [show x9.toNatClampNeg = 8 * mb + 4 by rw [ti_n i9]; omega]
  refine ok_ltI (a := (cl : Int)) (by rw [wu_ag h rfl]; exact h4) (fun x10 i10 => ?_)
  refine ok_ltI (a := 16 * (cl : Int)) (av_mul tn_16 i10 (by omega) (by omega)) (fun x11 i11 => ?_)
  refine ok_ltI (a := (pt : Int) + 16 * cl) (av_add i8 i11 (by omega) (by omega)) (fun x12 i12 => ?_)
  refine ok_bnd (Q := fun y => y = (([] : NN), N)) (ok_if (fun _ => ok_some rfl) (fun z => absurd rfl z)) ?_
  rintro y13 rfl
  refine ok_app (ok_ltt (fun L15 e15 => ?_))
  have hU : WU G M u fr st B c D (L ++ L15) N := by rw [e15]; simpa only [List.append_nil] using h
  refine ok_bnd (Q := fun y => ∃ M', WU G M' u fr st B c (D ++ ueT 10 (sei (q - q0))) (L ++ (L15 ++ y.1)) y.2 ∧ M'.2 = M.2 ∧ (∀ x k, ¬ (x = 116 ∧ k = 19) → M'.1 x k = M.1 x k) ∧ (M'.1 116 19).toInt = q) (ok_if (fun _ => ?_) (fun z => absurd rfl z)) ?_
  · refine ok_ltI (a := q0) (by rw [wu_rd hU (by decide) rfl]; exact hq0) (fun x28 i28 => ?_)
    refine ok_ltI (a := q - q0) (av_sub ip1 i28 (by omega) (by omega)) (fun x29 i29 => ?_)
    refine ok_drW (b := 119) hU (by decide) rfl rfl (by decide) rfl ?_
    refine ok_bnd (wu_se (e := 10) hU rfl (by decide) (v := q - q0) i29 (by omega) (by omega) (by omega)) ?_
    intro y31 hy31
    refine ok_app (ok_ltt (fun L33 e33 => ok_ltt (fun M36 e36 => ok_some ?_)))
    obtain ⟨M', w1, w2, w3, w4⟩ := wu_row hy31 (b := 116) (k := 19) (v := p1) rfl
    refine ⟨M', ?_, w2, w3, by rw [w4]; exact ip1⟩
    rw [e36]
    simpa only [List.append_assoc, List.append_nil] using w1
  rintro y17 ⟨M', w1, w2, w3, w4⟩
  refine ok_app (ok_ltt (fun L19 e19 => ?_))
  have hV : WU G M' u fr st B c (D ++ ueT 10 (sei (q - q0))) (L ++ L19) y17.2 := by rw [e19]; exact w1
  refine ok_drW (b := 125) hV (by decide) rfl rfl (by decide) rfl ?_
  refine ok_ltI (a := 8 * (mb : Int) + 2) (av_add i1 tn_2 (by omega) (by omega)) (fun x22 i22 => ?_)
  refine ok_ltI (a := q) (by rw [wu_rd hV (by decide) rfl]; exact w4) (fun x23 i23 => ?_)
  refine ok_drW (b := 129) hV (by decide) rfl rfl (by decide) rfl ?_
  refine ok_chk (by rw [wu_len hV (b := 129) (n := 256) (by decide) rfl]; exact nx i22 (by omega) (by show _ < ((256 : Nat) : Int); omega)) ?_
  rw [show x22.toNatClampNeg = 8 * mb + 2 by rw [ti_n i22]; omega]
  refine ok_ltt (fun M25 e25 => ok_some ?_)
  obtain ⟨M2, v1, v2, v3, v4⟩ := wu_row hV (b := 129) (k := 8 * mb + 2) (v := x23) rfl
  refine ⟨M2, ?_, v2.trans w2, fun x k a b => (v3 x k b).trans (w3 x k a), by rw [v3 116 19 (by omega)]; exact w4, by rw [v4]; exact i23⟩
  rw [e25]
  simpa only [e15, e19, List.nil_append, List.append_nil, List.append_assoc] using v1
theorem w_pat2 {G : GG} {M N : DD} {u fr c mb : Nat} {st : Nat → Nat} {B : List Nat} {D : List Tok} {L : NN} (h : WU G M u fr st B c D L N) {p0 p1 : Int32} (i0 : TI p0 mb) (hmb : mb ≤ 3) (hty : M.1 129 (8 * mb) = 2) : OK (FX0_writePattern (xt G L) N 116 p0 p1) (fun y => WU G M u fr st B c D (L ++ y.1) y.2) := by
  unfold FX0_writePattern
  simp only [xt_xt, List.append_nil]
  refine ok_ltI (a := 8 * (mb : Int)) (av_mul tn_8 i0 (by omega) (by omega)) (fun x1 i1 => ?_)
  refine ok_drW (b := 125) h (by decide) rfl rfl (by decide) rfl ?_
  refine ok_ltI (a := 8 * (mb : Int) + 0) (av_add i1 tn_0 (by omega) (by omega)) (fun x3 i3 => ?_)
  refine ok_drW (b := 129) h (by decide) rfl rfl (by decide) rfl ?_
  refine ok_chk (by rw [wu_len h (b := 129) (n := 256) (by decide) rfl]; exact nx i3 (by omega) (by show _ < ((256 : Nat) : Int); omega)) ?_
  rw [show x3.toNatClampNeg = 8 * mb by rw [ti_n i3]; omega]
  refine ok_ltt (fun x5 e5 => ?_)
  rw [wu_ag h rfl, hty] at e5
  subst e5
  rw [if_pos rfl]
  exact ok_some (by simpa only [List.append_nil] using h)
