/-! Writer: a unit's bytes go to the file -/
theorem zer_app : ∀ (xs ys : List Nat) (z : Nat), zer z (xs ++ ys) = zer (zer z xs) ys := by
  intro xs
  induction xs with
  | nil => intro ys z; rfl
  | cons x xs ih => intro ys z; exact ih ys _
theorem zer_le : ∀ (xs : List Nat) (z : Nat), zer z xs ≤ z + xs.length + 1 := by
  intro xs
  induction xs with
  | nil => intro z; show z ≤ z + 0 + 1; omega
  | cons x xs ih =>
    intro z
    show zer _ xs ≤ z + (xs.length + 1) + 1
    refine Nat.le_trans (ih _) ?_
    split <;> split <;> omega
theorem emu_1 (z x : Nat) : emu z [x] = (if 2 ≤ z ∧ x < 4 then [3] else []) ++ [x] := by
  show (if 2 ≤ z ∧ x < 4 then 3 :: x :: emu _ [] else x :: emu _ []) = _
  split <;> rfl
theorem zer_1 (z x : Nat) : zer z [x] = (if x = 0 then (if 2 ≤ z ∧ x < 4 then 0 else z) + 1 else 0) := by
  show zer (if 2 ≤ z ∧ x < 4 then (if x = 0 then 1 else 0) else (if x = 0 then z + 1 else 0)) [] = _
  show (if 2 ≤ z ∧ x < 4 then (if x = 0 then 1 else 0) else (if x = 0 then z + 1 else 0)) = _
  by_cases c : 2 ≤ z ∧ x < 4
  · rw [if_pos c, if_pos c]
  · rw [if_neg c, if_neg c]
set_option maxHeartbeats 4000000 in
theorem emul_ok {G : GG} {N0 : DD} {a u fr sz : Nat} {L0 : NN} {B X : List Nat} (hB : BF (xt G L0) N0 a fr B) (hC : Clo (xt G L0) N0) (hu : N0.2 a 4 = some u ∧ u < (xt G L0).1 ∧ (xt G L0).2.1 u = 12) (huf : u ≠ fr) (hz : (N0.1 a 5).toInt = sz) (hl : sz ≤ (xt G L0).2.2 u) (hX : X.length = sz) (hXb : ∀ i x : Nat, X[i]? = some x → (N0.1 u i).toInt % 256 = (x : Int)) (hlen : 2 * B.length + 3 * sz ≤ 790000) : OK (itrA (fun (s31 : NN × Int32 × Int32 × DD) => ((ltt (s31.2.2.2.1 a 5) fun x43 =>
  if x43 ≤ s31.2.2.1 then (some ([], .inr ((s31.2.1, s31.2.2.1, s31.2.2.2)))) else
  (dr (xt G s31.1) 12 ((s31.2.2.2.2 a 4)) fun b45 =>
  chk (¬ (s31.2.2.1 < 0 ∨ (xt G s31.1).2.2 b45 ≤ s31.2.2.1.toNatClampNeg)) <|
  ltt (s31.2.2.2.1 b45 s31.2.2.1.toNatClampNeg) fun x46 =>
  ltt ((x46 &&& ((255 : Int32)))) fun x47 =>
  bnd (if s31.2.1 < ((2 : Int32)) then (some ([], (s31.2.1, s31.2.2.2))) else
  (bnd (if ((4 : Int32)) ≤ x47 then (some ([], (s31.2.1, s31.2.2.2))) else
  (bnd (FX10_putByte (xt G s31.1) s31.2.2.2 a ((3 : Int32))) fun y69 =>
  app y69.1 <|
  ltt (s31.1 ++ y69.1) fun L71 =>
  some ([], ((0 : Int32), y69.2)))) fun (y63 : NN × Int32 × DD) =>
  app y63.1 <|
  ltt (s31.1 ++ y63.1) fun L65 =>
  some ([], (y63.2.1, y63.2.2)))) fun (y48 : NN × Int32 × DD) =>
  app y48.1 <|
  ltt (s31.1 ++ y48.1) fun L50 =>
  bnd (FX10_putByte (xt G L50) y48.2.2 a x47) fun y52 =>
  app y52.1 <|
  ltt (L50 ++ y52.1) fun L54 =>
  bnd (if x47 = ((0 : Int32)) then (ltt ((y48.2.1 + ((1 : Int32)))) fun x60 =>
  some (x60)) else
  (some ((0 : Int32)))) fun (y57 : Int32) =>
  ltt (s31.2.2.1 + (1 : Int32)) fun x58 =>
  some ([], .inl (L54, (y57, x58, y52.2))))) : Option (NN × ((NN × Int32 × Int32 × DD) ⊕ (Int32 × Int32 × DD))))) 1000000 (L0, ((0 : Int32), (0 : Int32), N0))) (fun y => ∃ v, (v = fr ∨ (xt G L0).1 ≤ v) ∧ BF (xt G (L0 ++ y.1)) y.2.2.2 a v (B ++ emu 0 X) ∧ Clo (xt G (L0 ++ y.1)) y.2.2.2 ∧ FF (xt G L0) N0 a fr y.2.2.2) := by
  have e0 : (0 : Int32).toInt = 0 := rfl
  have e1 : (1 : Int32).toInt = 1 := rfl
  have e2 : (2 : Int32).toInt = 2 := rfl
  have e4 : (4 : Int32).toInt = 4 := rfl
  have hal : a < (xt G L0).1 := hB.1.1
  have haf : fr ≠ a := hB.ne
  refine ok_itrB (fun (L : NN) (s : Int32 × Int32 × DD) => ∃ (n v : Nat) (K : NN), L = L0 ++ K ∧ s.2.1.toInt = n ∧ n ≤ sz ∧ s.1.toInt = (zer 0 (X.take n) : Nat) ∧ (v = fr ∨ (xt G L0).1 ≤ v) ∧ BF (xt G L) s.2.2 a v (B ++ emu 0 (X.take n)) ∧ Clo (xt G L) s.2.2 ∧ FF (xt G L0) N0 a fr s.2.2) (fun (s : Int32 × Int32 × DD) => (sz - s.2.1.toInt).toNat) (fun (L : NN) (r : Int32 × Int32 × DD) => ∃ v, (v = fr ∨ (xt G L0).1 ≤ v) ∧ BF (xt G L) r.2.2 a v (B ++ emu 0 X) ∧ Clo (xt G L) r.2.2 ∧ FF (xt G L0) N0 a fr r.2.2) ?_ 1000000 L0 ((0 : Int32), (0 : Int32), N0) ?_ ?_
  · rintro L ⟨z, i, N⟩ ⟨n, v, K, hK, hi, hn, hzz, hv, hb, hc, hf⟩
    dsimp only at hi hzz hb hc hf ⊢
    have f5 : N.1 a 5 = N0.1 a 5 := (hf a 5 hal (fun e => haf e.symm) (fun q => by omega)).1
    have f4 : N.2 a 4 = N0.2 a 4 := (hf a 4 hal (fun e => haf e.symm) (fun q => by omega)).2
    refine ok_ltt (fun x43 e43 => ?_)
    have i43 : x43.toInt = sz := by rw [e43, f5]; exact hz
    refine ok_if (fun c => ok_some ?_) (fun c => ?_)
    · have := pz_le.mp c
      have hns : n = X.length := by omega
      rw [hns, List.take_length] at hb
      dsimp only
      rw [List.append_nil]
      exact ⟨v, hv, hb, hc, hf⟩
    have hlt : n < sz := by
      have : ¬ x43.toInt ≤ i.toInt := fun q => c (pz_le.mpr q)
      omega
    have hul : u < (xt G L).1 := by rw [hK, ← xt_xt]; exact xt_lt K hu.2.1
    have huk : (xt G L).2.1 u = 12 := by rw [hK, ← xt_xt, xt_kk K hu.2.1]; exact hu.2.2
    have hun : (xt G L).2.2 u = (xt G L0).2.2 u := by rw [hK, ← xt_xt, xt_nn K hu.2.1]
    have hni : i.toNatClampNeg = n := by have := nat_of (x := i) (by omega); omega
    refine ok_dr (by rw [f4]; exact hu.1) hul huk ?_
    refine ok_chk (pz_ix (by omega) (by rw [hun]; omega)) ?_
    refine ok_ltt (fun x46 e46 => ok_ltt (fun x47 e47 => ?_))
    obtain ⟨x, hx⟩ : ∃ x, X[n]? = some x := ⟨X[n]'(by omega), by rw [List.getElem?_eq_getElem]⟩
    have h46 : x46.toInt % 256 = (x : Int) := by
      rw [e46, hni, (hf u n hu.2.1 huf (fun q => by have h1 := hB.1.2.1; rw [← q.1, hu.2.2] at h1; omega)).1]
      exact hXb n x hx
    have i47 : x47.toInt = (x : Int) := by rw [e47, pz_and255]; exact h46
    have hx256 : x < 256 := by omega
    have htk : X.take (n + 1) = X.take n ++ [x] := by rw [List.take_succ, hx]; rfl
    obtain ⟨Z, hZ⟩ : ∃ Z, Z = zer 0 (X.take n) := ⟨_, rfl⟩
    rw [← hZ] at hzz
    have hZl : Z ≤ n + 1 := by
      rw [hZ]
      refine Nat.le_trans (zer_le _ _) ?_
      rw [List.length_take]
      omega
    have hlen2 : (B ++ emu 0 (X.take n)).length ≤ 395000 := by
      have := emu_len (X.take n) 0
      rw [List.length_take] at this
      rw [List.length_append]
      rw [if_neg (by omega)] at this
      omega
    have hmono : ∀ v', (v' = v ∨ (xt G L).1 ≤ v') → (v' = fr ∨ (xt G L0).1 ≤ v') := by
      intro v' h
      rcases h with h | h
      · rw [h]; exact hv
      · right
        rw [hK, ← xt_xt] at h
        exact Nat.le_trans (xt_ge _ K) h
    refine ok_bnd (Q := fun (y : NN × Int32 × DD) => ∃ v', (v' = fr ∨ (xt G L0).1 ≤ v') ∧ y.2.1.toInt = ((if 2 ≤ Z ∧ x < 4 then 0 else Z : Nat) : Int) ∧ BF (xt G (L ++ y.1)) y.2.2 a v' (B ++ emu 0 (X.take n) ++ (if 2 ≤ Z ∧ x < 4 then [3] else [])) ∧ Clo (xt G (L ++ y.1)) y.2.2 ∧ FF (xt G L0) N0 a fr y.2.2) ?_ ?_
    · have stay : ¬ (2 ≤ Z ∧ x < 4) → ∃ v', (v' = fr ∨ (xt G L0).1 ≤ v') ∧ z.toInt = ((if 2 ≤ Z ∧ x < 4 then 0 else Z : Nat) : Int) ∧ BF (xt G (L ++ [])) N a v' (B ++ emu 0 (X.take n) ++ (if 2 ≤ Z ∧ x < 4 then [3] else [])) ∧ Clo (xt G (L ++ [])) N ∧ FF (xt G L0) N0 a fr N := by
        intro hno
        rw [if_neg hno, if_neg hno, List.append_nil, List.append_nil]
        exact ⟨v, hv, hzz, hb, hc, hf⟩
      refine ok_if (fun c1 => ok_some (stay (fun q => ?_))) (fun c1 => ?_)
      · have := pz_lt.mp c1
        omega
      have g1 : 2 ≤ Z := by
        have : ¬ z.toInt < (2 : Int32).toInt := fun q => c1 (pz_lt.mpr q)
        omega
      refine ok_bnd (Q := fun (y : NN × Int32 × DD) => ∃ v', (v' = fr ∨ (xt G L0).1 ≤ v') ∧ y.2.1.toInt = ((if 2 ≤ Z ∧ x < 4 then 0 else Z : Nat) : Int) ∧ BF (xt G (L ++ y.1)) y.2.2 a v' (B ++ emu 0 (X.take n) ++ (if 2 ≤ Z ∧ x < 4 then [3] else [])) ∧ Clo (xt G (L ++ y.1)) y.2.2 ∧ FF (xt G L0) N0 a fr y.2.2) ?_ ?_
      · refine ok_if (fun c2 => ok_some (stay (fun q => ?_))) (fun c2 => ?_)
        · have := pz_le.mp c2
          omega
        have g2 : x < 4 := by
          have : ¬ (4 : Int32).toInt ≤ x47.toInt := fun q => c2 (pz_le.mpr q)
          omega
        refine ok_bnd (putByte_ok (x := 3) hb hc (by omega) (by decide)) ?_
        rintro y69 ⟨v', h1, h2, h3, h4⟩
        rw [xt_xt] at h2 h3
        refine ok_app (ok_lt (ok_some ?_))
        dsimp only
        rw [if_pos ⟨g1, g2⟩, if_pos ⟨g1, g2⟩, List.append_nil]
        refine ⟨v', hmono v' h1, rfl, h2, h3, ?_⟩
        rw [hK, ← xt_xt] at h4
        exact hf.tr hv h4
      · rintro y63 h63
        refine ok_app (ok_lt (ok_some ?_))
        dsimp only
        rw [List.append_nil]
        exact h63
    · rintro y48 ⟨v1, hv1, hz1, hb1, hc1, hf1⟩
      refine ok_app (ok_ltt (fun L50 e50 => ?_))
      have hL50 : L50 = L ++ y48.1 := e50
      rw [← hL50] at hb1 hc1
      refine ok_bnd (putByte_ok (x := x) hb1 hc1 ?_ ?_) ?_
      · rw [List.length_append]
        have : (if 2 ≤ Z ∧ x < 4 then [3] else ([] : List Nat)).length ≤ 1 := by split <;> decide
        omega
      · rw [i47]; omega
      rintro y52 ⟨v2, h1, h2, h3, h4⟩
      rw [xt_xt] at h2 h3
      refine ok_app (ok_ltt (fun L54 e54 => ?_))
      have hL54 : L54 = L50 ++ y52.1 := e54
      rw [← hL54] at h2 h3
      have hZ2 : (if 2 ≤ Z ∧ x < 4 then 0 else Z) ≤ n + 1 := by split <;> omega
      refine ok_bnd (Q := fun (w : Int32) => w.toInt = (zer 0 (X.take (n + 1)) : Nat)) ?_ ?_
      · rw [htk, zer_app, ← hZ, zer_1]
        refine ok_if (fun c3 => ?_) (fun c3 => ok_some ?_)
        · have : x = 0 := by have := pz_eq.mp c3; omega
          rw [if_pos this]
          refine ok_ltt (fun x60 e60 => ok_some ?_)
          rw [e60, ti_add (by omega) (by omega), hz1, e1]
          omega
        · have : ¬ x = 0 := fun q => c3 (pz_eq.mpr (by omega))
          rw [if_neg this]
          rfl
      · rintro y57 h57
        refine ok_ltt (fun x58 e58 => ok_some ?_)
        have i58 : x58.toInt = n + 1 := by rw [e58, ti_add (by omega) (by omega)]; omega
        refine ⟨?_, ⟨n + 1, v2, K ++ (y48.1 ++ y52.1), ?_, ?_, ?_, h57, ?_, ?_, ?_, ?_⟩, ?_⟩
        · dsimp only
          rw [List.append_nil, hL54, hL50, List.append_assoc]
        · dsimp only
          rw [hL54, hL50, hK]
          simp [List.append_assoc]
        · dsimp only; omega
        · omega
        · rcases h1 with h1 | h1
          · rw [h1]; exact hv1
          · right
            rw [hL50, hK, List.append_assoc, ← xt_xt] at h1
            exact Nat.le_trans (xt_ge _ _) h1
        · dsimp only
          rw [htk, emu_app, ← hZ, emu_1]
          rw [← List.append_assoc, ← List.append_assoc]
          exact h2
        · exact h3
        · dsimp only
          rw [hL50, hK, List.append_assoc, ← xt_xt] at h4
          exact hf1.tr hv1 h4
        · dsimp only; omega
  · refine ⟨0, fr, [], by rw [List.append_nil], e0, by omega, ?_, Or.inl rfl, ?_, hC, FF.rf _ _ _ _⟩
    · show (0 : Int32).toInt = ((0 : Nat) : Int)
      rfl
    · show BF (xt G L0) N0 a fr (B ++ [])
      rw [List.append_nil]
      exact hB
  · show ((sz : Int) - (0 : Int32).toInt).toNat < 1000000
    omega
