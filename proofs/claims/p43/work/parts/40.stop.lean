/-! Reader: the last bit of a unit -/
theorem ok_sell {τ ρ α : Type} {y : τ ⊕ ρ} {k : τ → Option α} {e : ρ → Option α} {P : α → Prop} (h1 : ∀ z, y = .inl z → OK (k z) P) (h2 : ∀ z, y = .inr z → OK (e z) P) : OK (sel y k e) P := by
  cases y with
  | inl z => exact h1 z rfl
  | inr z => exact h2 z rfl
theorem low_zero {v : Int} (h0 : -128 ≤ v) (h1 : v ≤ 127) (h : ∀ k, k < 8 → v / ((2 ^ k : Nat) : Int) % 2 = 0) : v = 0 := by
  have a0 := h 0 (by decide)
  have a1 := h 1 (by decide)
  have a2 := h 2 (by decide)
  have a3 := h 3 (by decide)
  have a4 := h 4 (by decide)
  have a5 := h 5 (by decide)
  have a6 := h 6 (by decide)
  have a7 := h 7 (by decide)
  have b0 : ((2 ^ 0 : Nat) : Int) = 1 := rfl
  have b1 : ((2 ^ 1 : Nat) : Int) = 2 := rfl
  have b2 : ((2 ^ 2 : Nat) : Int) = 4 := rfl
  have b3 : ((2 ^ 3 : Nat) : Int) = 8 := rfl
  have b4 : ((2 ^ 4 : Nat) : Int) = 16 := rfl
  have b5 : ((2 ^ 5 : Nat) : Int) = 32 := rfl
  have b6 : ((2 ^ 6 : Nat) : Int) = 64 := rfl
  have b7 : ((2 ^ 7 : Nat) : Int) = 128 := rfl
  rw [b0] at a0
  rw [b1] at a1
  rw [b2] at a2
  rw [b3] at a3
  rw [b4] at a4
  rw [b5] at a5
  rw [b6] at a6
  rw [b7] at a7
  omega
set_option maxHeartbeats 4000000 in
theorem stop_ok {G : GG} {M : DD} {b d L P : Nat} {f : Nat → Nat} (h8 : M.2 b 8 = some d) (hd : d < G.1) (hdk : G.2.1 d = 12) (h9 : (M.1 b 9).toInt = L) (hL : L ≤ G.2.2 d) (hLm : L ≤ 100000) (hP : P < 8 * (L - 1)) (hby : ∀ k, -128 ≤ (M.1 d k).toInt ∧ (M.1 d k).toInt ≤ 127) (hf : ∀ i, i < 8 * (L - 1) → (M.1 d (1 + i / 8)).toInt / ((2 ^ (7 - i % 8) : Nat) : Int) % 2 = f i) (hf1 : f P = 1) (hf0 : ∀ i, P < i → i < 8 * (L - 1) → f i = 0) : OK (FX8_stopPlace G M b) (fun y => y.1 = M ∧ y.2.toInt = P) := by
  have e0 : (0 : Int32).toInt = 0 := rfl
  have e1 : (1 : Int32).toInt = 1 := rfl
  have e7 : (7 : Int32).toInt = 7 := rfl
  have e8 : (8 : Int32).toInt = 8 := rfl
  unfold FX8_stopPlace
  refine ok_lt (ok_lt ?_)
  have hx2 : (M.1 b 9 - (1 : Int32)).toInt = L - 1 := by rw [ti_sub (by omega) (by omega), h9, e1]
  generalize M.1 b 9 - (1 : Int32) = x2 at hx2
  refine ok_bnd (ok_itr (fun s : Int32 => ∃ j : Nat, s.toInt = j ∧ P / 8 + 1 ≤ j ∧ j ≤ L - 1) (fun s => s.toInt.toNat) (P := fun y : Int32 ⊕ (DD × Int32) => ∃ z : DD × Int32, y = .inr z ∧ z.1 = M ∧ z.2.toInt = P) ?_ 1000000 _ ?_ ?_) (fun y3 hy3 => ?_)
  · intro s hs
    obtain ⟨j, j1, j2, j3⟩ := hs
    refine ok_if (fun c => absurd (pz_le.mp c) (by omega)) (fun c => ?_)
    have hsn : s.toNatClampNeg = j := by
      have := pz_nat (x := s) (by omega)
      omega
    have hix : ¬ (s < 0 ∨ G.2.2 d ≤ s.toNatClampNeg) := pz_ix (by omega) (by omega)
    obtain ⟨by0, by1⟩ := hby j
    have hbit : ∀ k, k < 8 → (M.1 d j).toInt / ((2 ^ k : Nat) : Int) % 2 = f (8 * (j - 1) + (7 - k)) := fun k hk => by
      have := hf (8 * (j - 1) + (7 - k)) (by omega)
      have q1 : 1 + (8 * (j - 1) + (7 - k)) / 8 = j := by omega
      have q2 : 7 - (8 * (j - 1) + (7 - k)) % 8 = k := by omega
      rw [q1, q2] at this
      exact this
    refine ok_bnd (Q := fun y : Int32 ⊕ (DD × Int32) => (∃ z : DD × Int32, y = .inr z ∧ z.1 = M ∧ z.2.toInt = P) ∨ ((∃ z, y = .inl z) ∧ P / 8 + 1 < j)) (ok_itr (fun s : Int32 => ∃ q : Nat, s.toInt = q ∧ q ≤ 8 ∧ ∀ k, k < q → f (8 * (j - 1) + (7 - k)) = 0) (fun s => (8 - s.toInt).toNat) ?_ 1000000 _ ?_ ?_) (fun y8 hy8 => ok_sell (fun z hz => ok_ltt (fun s' hs' => ok_some ?_)) (fun z hz => ok_some ?_))
    · intro s9 hs9
      obtain ⟨q, q1, q2, q3⟩ := hs9
      refine ok_if (fun c2 => ok_some ?_) (fun c2 => ?_)
      · have := pz_le.mp c2
        refine Or.inr ⟨⟨_, rfl⟩, ?_⟩
        by_cases w : P / 8 + 1 < j
        · exact w
        · exfalso
          have h2 := q3 (7 - P % 8) (by omega)
          have h3 : 8 * (j - 1) + (7 - (7 - P % 8)) = P := by omega
          rw [h3] at h2
          omega
      · have c3 : ¬ (8 : Int32).toInt ≤ s9.toInt := fun w => c2 (pz_le.mpr w)
        refine ok_dr (b := d) h8 hd hdk (ok_chk hix (ok_lt ?_))
        rw [hsn]
        rw [hsn] at hix
        refine ok_if (fun c4 => ok_some ?_) (fun c4 => ok_chk hix (ok_lt (ok_lt (ok_lt ?_))))
        · refine Or.inr ⟨⟨_, rfl⟩, ?_⟩
          by_cases w : P / 8 + 1 < j
          · exact w
          · exfalso
            have h2 := hbit (7 - P % 8) (by omega)
            have h3 : 8 * (j - 1) + (7 - (7 - P % 8)) = P := by omega
            rw [h3, c4, e0, Int.zero_ediv] at h2
            omega
        · have hsr : (M.1 d j >>> (s9 &&& 31)).toInt = (M.1 d j).toInt / ((2 ^ q : Nat) : Int) := pz_sarv _ _ q q1 (by omega)
          have hand : ((M.1 d j >>> (s9 &&& 31)) &&& (1 : Int32)).toInt = f (8 * (j - 1) + (7 - q)) := by
            rw [pz_and1, hsr]
            exact hbit q (by omega)
          generalize (M.1 d j >>> (s9 &&& 31)) &&& (1 : Int32) = x19 at hand
          refine ok_if (fun c5 => ok_lt (ok_lt (ok_lt (ok_lt (ok_some ?_))))) (fun c5 => ok_lt (ok_some ?_))
          · have h5 := pz_eq.mp c5
            have hone : f (8 * (j - 1) + (7 - q)) = 1 := by omega
            have hle : ¬ P < 8 * (j - 1) + (7 - q) := fun w => by
              have := hf0 _ w (by omega)
              omega
            have hge : ¬ 8 * (j - 1) + (7 - q) < P := fun w => by
              have h6 := q3 (7 - P % 8) (by omega)
              have h7 : 8 * (j - 1) + (7 - (7 - P % 8)) = P := by omega
              rw [h7] at h6
              omega
            have hx22 : (s - (1 : Int32)).toInt = j - 1 := by rw [ti_sub (by omega) (by omega), j1, e1]
            have hx23 : ((8 : Int32) * (s - (1 : Int32))).toInt = 8 * ((j : Int) - 1) := by rw [pz_mulc e8 (by omega) (by omega), hx22]
            refine Or.inl ⟨_, rfl, rfl, ?_⟩
            show ((8 : Int32) * (s - (1 : Int32)) + (7 : Int32) - s9).toInt = P
            have hx24 : ((8 : Int32) * (s - (1 : Int32)) + (7 : Int32)).toInt = 8 * ((j : Int) - 1) + 7 := by rw [ti_add (by omega) (by omega), hx23, e7]
            rw [ti_sub (by omega) (by omega), hx24, q1]
            omega
          · have c6 : ¬ x19.toInt = (1 : Int32).toInt := fun w => c5 (pz_eq.mpr w)
            have h19 : x19.toInt = 0 ∨ x19.toInt = 1 := by
              rw [hand, ← hbit q (by omega)]
              omega
            have hq1 : (s9 + (1 : Int32)).toInt = q + 1 := by rw [ti_add (by omega) (by omega), q1, e1]
            refine ⟨⟨q + 1, by rw [hq1]; omega, by omega, fun k hk => ?_⟩, by omega⟩
            by_cases w : k = q
            · rw [w]; omega
            · exact q3 k (by omega)
    · exact ⟨0, e0, by decide, fun k hk => by omega⟩
    · rw [e0]; decide
    · rcases hy8 with ⟨z2, w1, -⟩ | ⟨-, w1⟩
      · rw [hz] at w1; cases w1
      · have hs1 : s'.toInt = j - 1 := by
          have em1 : (-1 : Int32).toInt = -1 := rfl
          rw [hs', ti_add (by omega) (by omega), j1, em1]
          omega
        clear hs'
        exact ⟨⟨j - 1, by rw [hs1]; omega, by omega, by omega⟩, by omega⟩
    · rcases hy8 with ⟨z2, w1, w2⟩ | ⟨⟨z2, w1⟩, -⟩
      · rw [hz] at w1
        exact ⟨z2, w1, w2⟩
      · rw [hz] at w1; cases w1
  · exact ⟨L - 1, by rw [hx2]; omega, by omega, Nat.le_refl _⟩
  · omega
  · obtain ⟨z, rfl, w1, w2⟩ := hy3
    exact ok_some ⟨w1, w2⟩
