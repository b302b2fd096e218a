/-! Stop bits of units -/
theorem eu_stop {c j : Nat} {f1 : Nat → Nat} {S : SS} {p0 : Int32} (hp : p0 = 0) (h0 : S.1 = 0) (hj : j = (S.2.1 + (if p0 = 0 then 1 else 0) + 7) / 8) (hf : ∀ i, f1 i ≤ 1) (hcl : ∀ ff D2, (∀ i, ff i ≤ 1) → (∀ i, i < 8 * j → ff i = f1 i) → Val ff D2 (0, 8 * j, S.2.2) → Val ff (ET S.2.1 p0 ++ D2) S) : S.2.1 < 8 * j ∧ f1 S.2.1 = 1 ∧ GE (emu 0 (UB c f1 j)) ∧ (∀ i, S.2.1 < i → i < 8 * j → f1 i = 0) := by
  subst hp
  rw [if_pos rfl] at hj
  have hv : Val f1 (ET S.2.1 0 ++ []) S := hcl f1 [] hf (fun _ _ => rfl) rfl
  have hs := ET_stop h0 hv
  refine ⟨by omega, hs, GE_UB (P := S.2.1) (by omega) (by omega) hs, fun i h1 h2 => ?_⟩
  have e : ET S.2.1 0 = (0, 0, 1) :: fillT (S.2.1 + 1) 0 := if_pos rfl
  rw [e] at hv
  have hv : (if S.1 = 0 then f1 S.2.1 = 1 ∧ Val f1 (fillT (S.2.1 + 1) 0 ++ []) (0, S.2.1 + 1, S.2.2) else _) := hv
  rw [if_pos h0] at hv
  have hv2 := hv.2
  unfold fillT at hv2
  have := fill_zero (S := (0, S.2.1 + 1, S.2.2)) rfl _ hv2 (i - (S.2.1 + 1)) (by omega)
  dsimp only at this
  rw [show S.2.1 + 1 + (i - (S.2.1 + 1)) = i by omega] at this
  exact this
theorem eu_stop1 {c j : Nat} {f1 : Nat → Nat} {S : SS} {p0 : Int32} (hp : p0 ≠ 0) (h0 : S.1 = 0) (hn : 1 ≤ S.2.1) (hs : f1 (S.2.1 - 1) = 1) (hj : j = (S.2.1 + (if p0 = 0 then 1 else 0) + 7) / 8) (hf : ∀ i, f1 i ≤ 1) (hcl : ∀ ff D2, (∀ i, ff i ≤ 1) → (∀ i, i < 8 * j → ff i = f1 i) → Val ff D2 (0, 8 * j, S.2.2) → Val ff (ET S.2.1 p0 ++ D2) S) : S.2.1 - 1 < 8 * j ∧ GE (emu 0 (UB c f1 j)) ∧ (∀ i, S.2.1 - 1 < i → i < 8 * j → f1 i = 0) := by
  rw [if_neg hp] at hj
  have hv : Val f1 (ET S.2.1 p0 ++ []) S := hcl f1 [] hf (fun _ _ => rfl) rfl
  refine ⟨by omega, GE_UB (P := S.2.1 - 1) (by omega) (by omega) hs, fun i h1 h2 => ?_⟩
  have e : ET S.2.1 p0 = fillT S.2.1 0 := if_neg hp
  rw [e] at hv
  unfold fillT at hv
  have := fill_zero h0 _ hv (i - S.2.1) (by omega)
  rw [show S.2.1 + (i - S.2.1) = i by omega] at this
  exact this
