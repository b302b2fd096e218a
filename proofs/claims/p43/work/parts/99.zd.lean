/-! modes, written -/
def gq (G : GG) (M : DD) (p0 : Int32) (j : Nat) : Int32 := gmd G M p0 (Int32.ofInt j)
def moT (G : GG) (M : DD) (p0 : Int32) (mb j : Nat) : List Tok :=
  toks 2 (if M.1 130 (16 * mb + j) = gq G M p0 j then 1 else 0) 1 ++ (if M.1 130 (16 * mb + j) = gq G M p0 j then [] else toks 3 (if (gq G M p0 j).toInt ≤ (M.1 130 (16 * mb + j)).toInt then (M.1 130 (16 * mb + j)).toInt.toNat - 1 else (M.1 130 (16 * mb + j)).toInt.toNat) 3)
def moL (G : GG) (M : DD) (p0 : Int32) (mb : Nat) : Nat → List Tok
  | 0 => []
  | j + 1 => moL G M p0 mb j ++ moT G M p0 mb j
theorem moT_b (G : GG) (M : DD) (p0 : Int32) (mb j : Nat) : all0 (moT G M p0 mb j) ∧ (moT G M p0 mb j).length ≤ 4 := by
  unfold moT
  by_cases q : M.1 130 (16 * mb + j) = gq G M p0 j
  · rw [if_pos q, if_pos q]
    exact ⟨all0_app (all0_toks _ _ _) (fun T h => by simp at h), by rw [List.length_append, toks_len]; decide⟩
  · rw [if_neg q, if_neg q]
    exact ⟨all0_app (all0_toks _ _ _) (all0_toks _ _ _), by rw [List.length_append, toks_len, toks_len]; decide⟩
theorem moL_b (G : GG) (M : DD) (p0 : Int32) (mb : Nat) : ∀ j, all0 (moL G M p0 mb j) ∧ (moL G M p0 mb j).length ≤ 4 * j
  | 0 => ⟨fun T h => by simp [moL] at h, by simp [moL]⟩
  | j + 1 => by
    obtain ⟨h1, h2⟩ := moL_b G M p0 mb j
    obtain ⟨h3, h4⟩ := moT_b G M p0 mb j
    refine ⟨all0_app h1 h3, ?_⟩
    show (moL G M p0 mb j ++ moT G M p0 mb j).length ≤ _
    rw [List.length_append]
    omega
theorem bd_more {D E : List Tok} {st : Nat → Nat} {n : Nat} (hS : SOk (runs D (SU st))) (h : Bd (runs D (SU st)) + 8 * E.length + n ≤ 800000) (hE : all0 E) : Bd (runs (D ++ E) (SU st)) + n ≤ 800000 := by
  rw [runs_app]
  have := (Bd_runs E _ hE hS).1
  omega
theorem w_modes {G : GG} {M N : DD} {u fr c : Nat} {st : Nat → Nat} {B : List Nat} {D : List Tok} {L : NN} {p : Nat} {w : Int} {Ls : List Nat} (h : WU G M u fr st B c D L N) (t : TT G M p w Ls) {p0 : Int32} {mb : Nat} (i0 : TI p0 mb) (hmb : (mb : Int) < 2 * w) (hS : SOk (runs D (SU st))) (hB : Bd (runs D (SU st)) + 2000 ≤ 800000) : OK (FX0_writeModes (xt G L) N 116 p0) (fun y => WU G M u fr st B c (D ++ moL G M p0 mb 16) (L ++ y.1) y.2) := by
  unfold FX0_writeModes
  simp only [xt_xt]
  have hw : w = 1 ∨ w = 2 := t.2.2.1
  have e16 : (16 : Int32).toInt = 16 := rfl
  have e1 : (1 : Int32).toInt = 1 := rfl
  have hmode : ∀ k, 0 ≤ (M.1 130 k).toInt ∧ (M.1 130 k).toInt ≤ 8 := fun k => t.2.2.2.2.2.2.2.2.1 (130, 0, 8) (by decide) k
  refine ok_bnd (ok_itrB (fun (K : NN) (s : Int32 × DD) => ∃ j : Nat, s.1.toInt = j ∧ j ≤ 16 ∧ WU G M u fr st B c (D ++ moL G M p0 mb j) (L ++ K) s.2) (fun (s : Int32 × DD) => (16 - s.1.toInt).toNat) (fun (K : NN) (y : Int32 × DD) => WU G M u fr st B c (D ++ moL G M p0 mb 16) (L ++ K) y.2) ?_ 1000000 [] ((0 : Int32), N) ⟨0, rfl, by decide, by simpa [moL] using h⟩ (by show (16 - (0 : Int32).toInt).toNat < 1000000; decide)) ?_
  · rintro K ⟨i, N1⟩ ⟨j, hj, hj2, hU⟩
    dsimp only at hj hU ⊢
    refine ok_if (fun hc => ?_) (fun hc => ?_)
    · have h1 := pz_le.mp hc
      have : j = 16 := by omega
      subst this
      exact ok_some (by rw [List.append_nil]; exact hU)
    · have h1 : j < 16 := by
        have : ¬ (16 : Int32).toInt ≤ i.toInt := fun q => hc (pz_le.mpr q)
        omega
      have ij : i = Int32.ofInt j := by
        apply Int32.toInt_inj.1
        rw [hj, Int32.toInt_ofInt]
        exact (bm_in (by omega) (by omega)).symm
      refine ok_drW (b := 125) hU (by decide) rfl rfl (by decide) rfl ?_
      refine ok_bnd (wu_guessMode hU t i0 (p1 := i) (a1 := j) hj (by omega) hmb (by omega) (by omega)) ?_
      rintro ⟨y1, g⟩ ⟨ey, eg, g0, g8⟩
      dsimp only at ey eg g0 g8 ⊢
      subst ey
      have eg2 : g = gq G M p0 j := by rw [eg, ij]; rfl
      refine ok_drW (b := 125) hU (by decide) rfl rfl (by decide) rfl ?_
      refine ok_ltI (a := 16 * (mb : Int)) (av_mul tn_16 i0 (by omega) (by omega)) (fun x15 i15 => ?_)
      refine ok_ltI (a := 16 * (mb : Int) + j) (av_add i15 hj (by omega) (by omega)) (fun x16 i16 => ?_)
      refine ok_drW (b := 130) hU (by decide) rfl rfl (by decide) rfl ?_
      refine ok_chk (by rw [wu_len hU (b := 130) (n := 512) (by decide) rfl]; exact nx i16 (by omega) (by omega)) ?_
      have en : x16.toNatClampNeg = 16 * mb + j := by rw [ti_n i16]; omega
      rw [en]
      refine ok_ltt (fun m em => ?_)
      have em2 : m = M.1 130 (16 * mb + j) := em.trans (wu_ag hU rfl _)
      have hm := hmode (16 * mb + j)
      rw [← em2] at hm
      have hb1 : all0 (moL G M p0 mb j) ∧ _ := moL_b G M p0 mb j
      have hBj : Bd (runs (D ++ moL G M p0 mb j) (SU st)) + 8 * 1 ≤ 800000 := bd_more hS (by omega) hb1.1
      refine ok_bnd (Q := fun y => y.toInt = ((if m = g then 1 else 0 : Nat) : Int)) (ok_if (fun q => ok_some (by rw [if_pos q]; rfl)) (fun q => ok_some (by rw [if_neg q]; rfl))) ?_
      intro y19 h19
      refine ok_drW (b := 119) hU (by decide) rfl rfl (by decide) rfl ?_
      refine ok_bnd (wu_code (e := 2) (V := if m = g then 1 else 0) (m := 1) hU rfl (by decide) h19 rfl (by decide) hBj) ?_
      intro y21 hy21
      refine ok_app (ok_ltt (fun L23 e23 => ?_))
      have hy : WU G M u fr st B c ((D ++ moL G M p0 mb j) ++ toks 2 (if m = g then 1 else 0) 1) (L ++ L23) y21.2 := by
        rw [e23, ← List.append_assoc]; exact hy21
      have hB2 : Bd (runs ((D ++ moL G M p0 mb j) ++ toks 2 (if m = g then 1 else 0) 1) (SU st)) + 8 * 3 ≤ 800000 := by
        rw [List.append_assoc]
        refine bd_more hS ?_ (all0_app hb1.1 (all0_toks _ _ _))
        rw [List.length_append, toks_len]
        omega
      refine ok_bnd (Q := fun y => WU G M u fr st B c (D ++ moL G M p0 mb (j + 1)) (L ++ (L23 ++ y.1)) y.2) (ok_if (fun q => ?_) (fun q => ?_)) ?_
      · refine ok_some ?_
        have e : moL G M p0 mb (j + 1) = moL G M p0 mb j ++ toks 2 (if m = g then 1 else 0) 1 := by
          show moL G M p0 mb j ++ moT G M p0 mb j = _
          unfold moT
          rw [← em2, ← eg2, if_pos q, if_pos q, List.append_nil]
        rw [e, ← List.append_assoc, List.append_nil]
        exact hy
      · have e : moL G M p0 mb (j + 1) = (moL G M p0 mb j ++ toks 2 (if m = g then 1 else 0) 1) ++ toks 3 (if g.toInt ≤ m.toInt then m.toInt.toNat - 1 else m.toInt.toNat) 3 := by
          show moL G M p0 mb j ++ moT G M p0 mb j = _
          unfold moT
          rw [← em2, ← eg2, if_neg q, if_neg q, List.append_assoc]
        have hne : m.toInt ≠ g.toInt := fun z => q (Int32.toInt_inj.1 z)
        refine ok_bnd (Q := fun y => y.toInt = ((if g.toInt ≤ m.toInt then m.toInt.toNat - 1 else m.toInt.toNat : Nat) : Int)) (ok_if (fun z => ?_) (fun z => ?_)) ?_
        · have z2 := pz_le.mp z
          refine ok_ltt (fun x41 e41 => ok_ltt (fun x42 e42 => ok_some ?_))
          rw [e42, Int32.toInt_toInt64, e41, ti_sub (by omega) (by omega), if_pos z2]
          omega
        · have z2 : ¬ g.toInt ≤ m.toInt := fun zz => z (pz_le.mpr zz)
          refine ok_ltt (fun x43 e43 => ok_some ?_)
          rw [e43, Int32.toInt_toInt64, if_neg z2]
          omega
        intro y33 h33
        refine ok_drW (b := 119) hy (by decide) rfl rfl (by decide) rfl ?_
        refine ok_bnd (wu_code (e := 3) (m := 3) hy rfl (by decide) h33 rfl (by decide) hB2) ?_
        intro y35 hy35
        refine ok_app (ok_ltt (fun L37 e37 => ok_some ?_))
        rw [e]
        simpa only [List.append_assoc, List.append_nil] using hy35
      intro y26 hy26
      refine ok_app (ok_ltt (fun L28 e28 => ?_))
      refine ok_ltI (a := (j : Int) + 1) (av_add hj tn_1 (by omega) (by omega)) (fun x30 i30 => ok_some ?_)
      refine ⟨?_, ⟨j + 1, ?_, by omega, ?_⟩, ?_⟩
      · rw [e28, e23]
        simp only [List.append_assoc, List.append_nil]
      · show x30.toInt = _
        have : x30.toInt = (j : Int) + 1 := i30
        omega
      · show WU G M u fr st B c _ (L ++ L28) y26.2
        rw [e28]; exact hy26
      · show (16 - x30.toInt).toNat < (16 - i.toInt).toNat
        have : x30.toInt = (j : Int) + 1 := i30
        omega
  · intro y1 hy1
    refine ok_app (ok_ltt (fun L4 e4 => ok_some ?_))
    rw [List.append_nil]
    exact hy1
