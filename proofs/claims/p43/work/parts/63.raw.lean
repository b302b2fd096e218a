/-! RAW samples written -/
def rwT (v : Nat → Nat) (k : Nat) : List Tok := (List.range k).flatMap (fun i => toks 0 (v i) 8)
theorem rwT_s (v : Nat → Nat) (k : Nat) : rwT v (k + 1) = rwT v k ++ toks 0 (v k) 8 := by
  unfold rwT
  rw [List.range_succ, List.flatMap_append]
  simp
theorem nxt_0 (i b : Nat) {S : SS} (h : S.1 = 0) : nxt (0, i, b) S = (0, S.2.1 + 1, S.2.2) := by
  unfold nxt
  rw [if_pos rfl, if_pos h]
theorem runs_tok8 (V : Nat) {S : SS} (h : S.1 = 0) : (runs (toks 0 V 8) S).1 = 0 ∧ (runs (toks 0 V 8) S).2.1 = S.2.1 + 8 ∧ (runs (toks 0 V 8) S).2.2 = S.2.2 := by
  have key : ∀ k, k ≤ 8 → (runs ((List.range k).map (tokj 0 V 8)) S).1 = 0 ∧ (runs ((List.range k).map (tokj 0 V 8)) S).2.1 = S.2.1 + k ∧ (runs ((List.range k).map (tokj 0 V 8)) S).2.2 = S.2.2 := by
    intro k
    induction k with
    | zero => intro _; exact ⟨h, rfl, rfl⟩
    | succ k ih =>
      intro hk
      obtain ⟨a1, a2, a3⟩ := ih (by omega)
      rw [toks_s, runs_app]
      show (nxt (tokj 0 V 8 k) _).1 = 0 ∧ (nxt (tokj 0 V 8 k) _).2.1 = _ ∧ (nxt (tokj 0 V 8 k) _).2.2 = _
      have e : nxt (tokj 0 V 8 k) (runs ((List.range k).map (tokj 0 V 8)) S) = (0, (runs ((List.range k).map (tokj 0 V 8)) S).2.1 + 1, (runs ((List.range k).map (tokj 0 V 8)) S).2.2) := nxt_0 _ _ a1
      rw [e]
      exact ⟨rfl, by dsimp only; omega, a3⟩
  exact key 8 (Nat.le_refl _)
theorem runs_rwT (v : Nat → Nat) {S : SS} (h : S.1 = 0) : ∀ k, (runs (rwT v k) S).1 = 0 ∧ (runs (rwT v k) S).2.1 = S.2.1 + 8 * k ∧ (runs (rwT v k) S).2.2 = S.2.2 := by
  intro k
  induction k with
  | zero => exact ⟨h, rfl, rfl⟩
  | succ k ih =>
    obtain ⟨a1, a2, a3⟩ := ih
    rw [rwT_s, runs_app]
    obtain ⟨b1, b2, b3⟩ := runs_tok8 (v k) a1
    exact ⟨b1, by rw [b2, a2]; omega, by rw [b3, a3]⟩
/-- END, if ARITH is on; bits 0 up to a byte; the samples; ARITH again -/
def rawT (S : SS) (v : Nat → Nat) : List Tok := (if S.1 = 0 then [] else [(1, 0, 1)]) ++ (fillT (runs (if S.1 = 0 then [] else [(1, 0, 1)]) S).2.1 0 ++ (rwT v 384 ++ (if S.1 = 0 then [] else [(2, 0, 0)])))
set_option maxHeartbeats 4000000 in
theorem raww_ok {G : GG} {M : DD} {a u t sm : Nat} {f : Nat → Nat} {m : Nat} {S : SS} {v : Nat → Nat} (h : CW G M a u t f m S) (hS : S.1 = 0 ∨ S.1 = 1) (hsm : sm < G.1 ∧ G.2.1 sm = 13 ∧ G.2.2 sm = 384) (hst : sm ≠ t) (hv : ∀ i, i < 384 → (M.1 sm i).toInt = v i) (hB : Bd S ≤ 600000) (hp : pos S ≤ 600000) : OK (FX10_rawSamples G M a (some sm)) (fun y => CS G M a u t f m S (rawT S v) (xt G y.1) y.2) := by
  have e0 : (0 : Int32).toInt = 0 := rfl
  have e1 : (1 : Int32).toInt = 1 := rfl
  have e8 : (8 : Int32).toInt = ((8 : Nat) : Int) := rfl
  have e384 : (384 : Int32).toInt = 384 := rfl
  obtain ⟨g1, g2, g3, g4, g5⟩ := h.lt
  have huk : G.2.1 u = 12 := h.wb.1.2.2.2.2
  have hsu : sm ≠ u := fun e => by rw [e] at hsm; omega
  have hsa : sm ≠ a := fun e => by rw [e] at hsm; omega
  have hok : ∀ L : NN, okd (xt G L) (some sm) = true := fun L => by
    have := xt_lt L hsm.1
    simp [okd, this]
  unfold FX10_rawSamples
  refine ok_ltt (fun x1 hx1 => ?_)
  refine ok_bnd (Q := fun (y : NN × DD) => CS G M a u t f m S (if S.1 = 0 then [] else [(1, 0, 1)]) (xt G y.1) y.2) ?_ ?_
  · refine ok_if (fun c => ok_some ?_) (fun c => ?_)
    · have hz : S.1 = 0 := by
        rcases h.2.2.2 with ⟨q, _⟩ | ⟨_, _, q, _⟩
        · exact q
        · rw [hx1] at c
          rw [c] at q
          omega
      rw [if_pos hz]
      exact CS.rf0 h
    · have hz : S.1 = 1 := by
        rcases h.2.2.2 with ⟨_, _, _, q, _⟩ | ⟨q, _⟩
        · exfalso
          apply c
          rw [hx1]
          exact pz_eq.mpr (by omega)
        · exact q
      rw [if_neg (by omega)]
      refine ok_chk (hok []) ?_
      refine ok_bnd (last1_ok (h.xt0 [] h.2.2.1) hz (by omega) (by omega)) (fun y40 h40 => ?_)
      refine ok_app (ok_lt (ok_some ?_))
      dsimp only
      rw [xt_xt] at h40
      rw [List.append_nil]
      exact h40
  · rintro y2 ⟨u1, f1, m1, hCR⟩
    refine ok_app (ok_ltt (fun L4 hL4 => ok_chk (hok L4) ?_))
    have hL : L4 = y2.1 := hL4
    rw [← hL] at hCR
    have hq : (runs (if S.1 = 0 then [] else [(1, 0, 1)]) S).1 = 0 ∧ (runs (if S.1 = 0 then [] else [(1, 0, 1)]) S).2.1 ≤ 600000 := by
      rcases hS with q | q
      · rw [if_pos q]
        unfold pos at hp
        rw [if_pos q] at hp
        exact ⟨q, hp⟩
      · rw [if_neg (by omega)]
        unfold pos at hp
        rw [if_neg (by omega)] at hp
        exact ⟨rfl, hp⟩
    obtain ⟨D0, hD0⟩ : ∃ D0, D0 = (if S.1 = 0 then [] else [((1, 0, 1) : Tok)]) := ⟨_, rfl⟩
    unfold rawT
    rw [← hD0] at hCR hq ⊢
    obtain ⟨q1, q2⟩ := hq
    refine ok_bnd (fill_ok (bb := 0) hCR.2.1 q1 (by omega) e0 (by omega)) ?_
    rintro y6 h6
    rw [xt_xt] at h6
    refine ok_app (ok_ltt (fun L9 hL9 => ?_))
    have hL9' : L9 = L4 ++ y6.1 := hL9
    rw [← hL9'] at h6
    obtain ⟨u2, f2, m2, hC2⟩ := hCR.tr (xt_ge G L4) h6
    obtain ⟨D1, hD1⟩ : ∃ D1, D1 = D0 ++ fillT (runs D0 S).2.1 0 := ⟨_, rfl⟩
    rw [← hD1] at hC2
    have r1 : (runs D1 S).1 = 0 ∧ (runs D1 S).2.1 ≤ 600008 := by
      rw [hD1, runs_app]
      unfold fillT
      rw [runs_rep _ _ _ q1]
      exact ⟨rfl, by dsimp only; omega⟩
    refine ok_bnd (ok_itrB (fun (L : NN) (s : Int32 × DD) => ∃ j : Nat, s.1.toInt = j ∧ j ≤ 384 ∧ CS G M a u t f m S (D1 ++ rwT v j) (xt G L) s.2) (fun (s : Int32 × DD) => (384 - s.1.toInt).toNat) (fun (L : NN) (y : Int32 × DD) => CS G M a u t f m S (D1 ++ rwT v 384) (xt G L) y.2) ?_ 1000000 L9 ((0 : Int32), y6.2) ?_ ?_) (fun y12 h12 => ?_)
    · rintro L ⟨x, N⟩ ⟨j, hj0, hj1, u3, f3, m3, hC3⟩
      dsimp only at hj0 hC3 ⊢
      refine ok_if (fun c => ok_some ?_) (fun c => ?_)
      · have := pz_le.mp c
        have hj : j = 384 := by omega
        subst hj
        dsimp only
        rw [List.append_nil]
        exact ⟨u3, f3, m3, hC3⟩
      · have hlt : j < 384 := by
          have : ¬ (384 : Int32).toInt ≤ x.toInt := fun q => c (pz_le.mpr q)
          omega
        have hjx : x.toNatClampNeg = j := by have := nat_of (x := x) (by omega); omega
        refine ok_dr rfl (xt_lt L hsm.1) (by rw [xt_kk L hsm.1]; exact hsm.2.1) ?_
        refine ok_ltt (fun x27 h27 => ?_)
        have i27 : x27.toInt = 384 := by
          rw [h27, xt_nn L hsm.1, hsm.2.2]
          exact pz_ofn (by decide)
        refine ok_if (fun c => ?_) (fun _ => ?_)
        · exfalso
          have := pz_le.mp c
          omega
        refine ok_chk (pz_ix (by omega) (by rw [xt_nn L hsm.1, hsm.2.2]; omega)) ?_
        refine ok_ltt (fun x29 h29 => ok_ltt (fun x30 h30 => ok_chk (hok L) ?_))
        have hN : N.1 sm j = M.1 sm j := (hC3.2.2.2.2.1 sm j hsm.1 hsu hst (fun q => hsa q.1)).1
        have i30 : x30.toInt = ((v j : Nat) : Int) := by
          rw [h30, Int32.toInt_toInt64, h29, hjx, hN]
          exact hv j hlt
        have r2 := runs_rwT v r1.1 j
        have hCW3 := hC3.2.1
        rw [runs_app] at hCW3
        have hb : Bd (runs (rwT v j) (runs D1 S)) ≤ 700000 := by
          unfold Bd
          rw [if_pos r2.1, r2.2.1]
          omega
        refine ok_bnd (code_ok hCW3 (e := 0) (V := v j) (n := 8) e0 (by omega) i30 e8 (by omega) (by omega)) ?_
        rintro y31 h31
        rw [xt_xt] at h31
        refine ok_app (ok_ltt (fun L34 hL34 => ok_ltt (fun x37 h37 => ok_some ?_)))
        have hL34' : L34 = L ++ y31.1 := hL34
        have i37 : x37.toInt = j + 1 := by
          rw [h37, ti_add (by omega) (by omega)]
          omega
        refine ⟨by dsimp only; rw [List.append_nil, hL34'], ⟨j + 1, by dsimp only; omega, by omega, ?_⟩, by dsimp only; omega⟩
        dsimp only
        rw [hL34', rwT_s, ← List.append_assoc]
        rw [← runs_app] at h31
        exact hC3.tr (xt_ge G L) h31
    · refine ⟨0, e0, by omega, ?_⟩
      show CS G M a u t f m S (D1 ++ []) (xt G L9) y6.2
      rw [List.append_nil]
      exact ⟨u2, f2, m2, hC2⟩
    · show (384 - (0 : Int32).toInt).toNat < 1000000
      omega
    · refine ok_app (ok_ltt (fun L15 hL15 => ?_))
      have hL15' : L15 = L9 ++ y12.1 := hL15
      rw [← hL15'] at h12
      obtain ⟨u4, f4, m4, hC4⟩ := h12
      have r4 := runs_rwT v r1.1 384
      refine ok_bnd (Q := fun (y : DD) => CS G M a u t f m S (D1 ++ rwT v 384 ++ (if S.1 = 0 then [] else [(2, 0, 0)])) (xt G L15) y) ?_ (fun y17 h17 => ok_some ?_)
      · refine ok_if (fun c => ok_some ?_) (fun c => ?_)
        · have hz : S.1 = 0 := by
            rcases h.2.2.2 with ⟨q, _⟩ | ⟨_, _, q, _⟩
            · exact q
            · rw [hx1] at c
              rw [c] at q
              omega
          rw [if_pos hz, List.append_nil]
          exact ⟨u4, f4, m4, hC4⟩
        · have hz : ¬ S.1 = 0 := by
            rcases h.2.2.2 with ⟨_, _, _, q, _⟩ | ⟨q, _⟩
            · exfalso
              apply c
              rw [hx1]
              exact pz_eq.mpr (by omega)
            · omega
          rw [if_neg hz]
          have hq4 : (runs (D1 ++ rwT v 384) S).1 = 0 := by rw [runs_app]; exact r4.1
          refine ok_bnd (beginArith_ok hC4.2.1 hq4) (fun y19 h19 => ok_some ?_)
          exact hC4.tr (xt_ge G L15) h19
      · dsimp only
        have e : y2.1 ++ (y6.1 ++ (y12.1 ++ [])) = L15 := by rw [hL15', hL9', ← hL]; simp [List.append_assoc]
        have e2 : D0 ++ (fillT (runs D0 S).2.1 0 ++ (rwT v 384 ++ (if S.1 = 0 then [] else [(2, 0, 0)]))) = D1 ++ rwT v 384 ++ (if S.1 = 0 then [] else [(2, 0, 0)]) := by rw [hD1]; simp [List.append_assoc]
        rw [e2]
        first
          | (rw [e]; exact h17)
          | (simp only [List.append_nil, List.append_assoc] at e ⊢; rw [e]; exact h17)
