/-! Units: cutByMarks finds the units that were written -/
def mks : List (List Nat) → List Nat
  | [] => []
  | E :: Es => [0, 0, 0, 1] ++ E ++ mks Es
theorem mks_app (A B : List (List Nat)) : mks (A ++ B) = mks A ++ mks B := by
  induction A with
  | nil => rfl
  | cons E A ih =>
    show [0, 0, 0, 1] ++ E ++ mks (A ++ B) = [0, 0, 0, 1] ++ E ++ mks A ++ mks B
    rw [ih, List.append_assoc, List.append_assoc, List.append_assoc]
def GE (E : List Nat) : Prop := nm 0 E ∧ 1 ≤ E.length ∧ (∀ x, E[E.length - 1]? = some x → x ≠ 0)
/-- the k-th unit in its file -/
theorem mks_at {Es : List (List Nat)} {k : Nat} {E : List Nat} (hE : Es[k]? = some E) : ∃ R, mks Es = mks (Es.take k) ++ ([0, 0, 0, 1] ++ E ++ R) ∧ mks (Es.take (k + 1)) = mks (Es.take k) ++ ([0, 0, 0, 1] ++ E) ∧ (R = [] ∨ ∃ R', R = 0 :: 0 :: 0 :: R') := by
  have hk : k < Es.length := by
    by_cases q : k < Es.length
    · exact q
    · rw [List.getElem?_eq_none (by omega)] at hE; cases hE
  have h1 : Es.take (k + 1) = Es.take k ++ [E] := by rw [List.take_add_one, hE]; rfl
  refine ⟨mks (Es.drop (k + 1)), ?_, ?_, ?_⟩
  · have : mks Es = mks (Es.take (k + 1) ++ Es.drop (k + 1)) := by rw [List.take_append_drop]
    rw [this, mks_app, h1, mks_app]
    show mks (Es.take k) ++ ([0, 0, 0, 1] ++ E ++ []) ++ _ = _
    rw [List.append_nil, List.append_assoc]
  · rw [h1, mks_app]
    show mks (Es.take k) ++ ([0, 0, 0, 1] ++ E ++ []) = _
    rw [List.append_nil]
  · cases Es.drop (k + 1) with
    | nil => exact Or.inl rfl
    | cons X Xs => exact Or.inr ⟨1 :: (X ++ mks Xs), rfl⟩
theorem note_ok {G : GG} {M : DD} {a ro rl c : Nat} {p0 p1 : Int32} (ha : a < G.1 ∧ G.2.1 a = 8) (h5 : M.2 a 5 = some ro ∧ ro < G.1 ∧ G.2.1 ro = 13 ∧ 400 ≤ G.2.2 ro) (h6 : M.2 a 6 = some rl ∧ rl < G.1 ∧ G.2.1 rl = 13 ∧ 400 ≤ G.2.2 rl) (hne : ro ≠ rl) (h7 : (M.1 a 7).toInt = c) (hc : c < 400) : OK (FX8_note G M a p0 p1) (fun y => y.2 = 1 ∧ y.1.2 = M.2 ∧ (y.1.1 a 7).toInt = c + 1 ∧ y.1.1 ro c = p0 ∧ y.1.1 rl c = p1 ∧ (∀ x k, ¬ (x = a ∧ k = 7) → ¬ (x = ro ∧ k = c) → ¬ (x = rl ∧ k = c) → y.1.1 x k = M.1 x k)) := by
  have e1 : (1 : Int32).toInt = 1 := rfl
  have e400 : (400 : Int32).toInt = 400 := rfl
  have hra : ro ≠ a := fun e => by rw [e] at h5; omega
  have hla : rl ≠ a := fun e => by rw [e] at h6; omega
  unfold FX8_note
  refine ok_ltt (fun x1 ex1 => ok_if (fun _ => ?_) (fun q => ?_))
  · refine ok_ltt (fun x3 e3 => ?_)
    have n3 : x3.toNatClampNeg = c := by have := nat_of (x := x3) (by rw [e3]; omega); rw [e3] at this ⊢; omega
    refine ok_dr h5.1 h5.2.1 h5.2.2.1 (ok_chk (pz_ix (by rw [e3]; omega) (by rw [e3]; omega)) (ok_ltt (fun M5 e5 => ok_ltt (fun x6 e6 => ?_))))
    have v6 : x6 = M.1 a 7 := by rw [e6, e5, uI_n _ _ (fun q => hra q.1.symm)]
    have n6 : x6.toNatClampNeg = c := by have := nat_of (x := x6) (by rw [v6]; omega); rw [v6] at this ⊢; omega
    have r5 : M5.2 = M.2 := by rw [e5]; rfl
    refine ok_dr (by rw [r5]; exact h6.1) h6.2.1 h6.2.2.1 (ok_chk (pz_ix (by rw [v6]; omega) (by rw [v6]; omega)) (ok_ltt (fun M8 e8 => ok_ltt (fun x9 e9 => ok_ltt (fun x10 e10 => ok_ltt (fun M11 e11 => ok_chk (Or.inr rfl) (ok_some ?_)))))))
    rw [n3] at e5
    rw [n6] at e8
    have v9 : x9 = M.1 a 7 := by rw [e9, e8, uI_n _ _ (fun q => hla q.1.symm), e5, uI_n _ _ (fun q => hra q.1.symm)]
    refine ⟨rfl, ?_, ?_, ?_, ?_, fun x k q1 q2 q3 => ?_⟩
    · dsimp only; rw [e11, e8, e5]; rfl
    · dsimp only; rw [e11, uI_s, e10, v9, ti_add (by omega) (by omega)]; omega
    · dsimp only; rw [e11, uI_n _ _ (fun q => hra q.1), e8, uI_n _ _ (fun q => hne q.1), e5, uI_s]
    · dsimp only; rw [e11, uI_n _ _ (fun q => hla q.1), e8, uI_s]
    · dsimp only; rw [e11, uI_n _ _ q1, e8, uI_n _ _ q3, e5, uI_n _ _ q2]
  · exact absurd (pz_lt.mpr (by rw [ex1, h7, e400]; omega)) q
def FD (Es : List (List Nat)) (M : DD) (ro rl k : Nat) : Prop := ∀ j E, j < k → Es[j]? = some E → (M.1 ro j).toInt = (mks (Es.take j)).length + 4 ∧ (M.1 rl j).toInt = E.length
set_option maxHeartbeats 2000000 in
theorem cutm_ok {G : GG} {M : DD} {a ro rl b : Nat} {Es : List (List Nat)} {p1 : Int32} (ha : a < G.1 ∧ G.2.1 a = 8) (h5 : M.2 a 5 = some ro ∧ ro < G.1 ∧ G.2.1 ro = 13 ∧ 400 ≤ G.2.2 ro) (h6 : M.2 a 6 = some rl ∧ rl < G.1 ∧ G.2.1 rl = 13 ∧ 400 ≤ G.2.2 rl) (hne : ro ≠ rl) (h7 : (M.1 a 7).toInt = 0) (hb : b < G.1 ∧ G.2.1 b = 12) (hlen : (mks Es).length ≤ G.2.2 b) (hL : (mks Es).length ≤ 900000) (hby : ∀ (i x : Nat), (mks Es)[i]? = some x → (M.1 b i).toInt % 256 = (x : Int)) (hrg : ∀ k, -128 ≤ (M.1 b k).toInt ∧ (M.1 b k).toInt ≤ 127) (hG : ∀ E, E ∈ Es → GE E) (hn : Es.length ≤ 400) (hp1 : p1.toInt = (mks Es).length) :
    OK (FX8_cutByMarks G M a (some b) p1) (fun y => y.2 = 1 ∧ y.1.2 = M.2 ∧ (y.1.1 a 7).toInt = Es.length ∧ FD Es y.1 ro rl Es.length ∧ (∀ x k, ¬ (x = a ∧ k = 7) → x ≠ ro → x ≠ rl → y.1.1 x k = M.1 x k)) := by
  have e1 : (1 : Int32).toInt = 1 := rfl
  have e2 : (2 : Int32).toInt = 2 := rfl
  have e3 : (3 : Int32).toInt = 3 := rfl
  have e0 : (0 : Int32).toInt = 0 := rfl
  have hba : b ≠ a := fun e => by rw [e] at hb; omega
  have hbo : b ≠ ro := fun e => by rw [e] at hb; omega
  have hbl : b ≠ rl := fun e => by rw [e] at hb; omega
  have hoa : ro ≠ a := fun e => by rw [e] at h5; omega
  have hla : rl ≠ a := fun e => by rw [e] at h6; omega
  obtain ⟨F, hF⟩ : ∃ F, F = mks Es := ⟨_, rfl⟩
  rw [← hF] at hlen hL hby hp1
  unfold FX8_cutByMarks
  refine ok_bnd (ok_itr (fun (s : Int32 × DD) => ∃ k e : Nat, k ≤ Es.length ∧ e ≤ 1 ∧ (e = 1 → k < Es.length) ∧ s.1.toInt = (((mks (Es.take k)).length + e : Nat) : Int) ∧ s.2.2 = M.2 ∧ (s.2.1 a 7).toInt = k ∧ FD Es s.2 ro rl k ∧ (∀ x k, ¬ (x = a ∧ k = 7) → x ≠ ro → x ≠ rl → s.2.1 x k = M.1 x k)) (fun (s : Int32 × DD) => (950000 - s.1.toInt).toNat) (P := fun (y : (Int32 × DD) ⊕ (DD × Int32)) => ∃ z : Int32 × DD, y = .inl z ∧ z.2.2 = M.2 ∧ (z.2.1 a 7).toInt = Es.length ∧ FD Es z.2 ro rl Es.length ∧ (∀ x k, ¬ (x = a ∧ k = 7) → x ≠ ro → x ≠ rl → z.2.1 x k = M.1 x k)) ?_ 1000000 _ ?_ ?_) ?_
  · rintro ⟨x, N⟩ ⟨k, e, k1, k2, k3, k4, k5, k6, k7, k8⟩
    dsimp only at k4 k5 k6 k7 k8 ⊢
    have hbN : ∀ j, N.1 b j = M.1 b j := fun j => k8 b j (fun q => hba q.1) hbo hbl
    refine ok_ltt (fun x5 e5 => ?_)
    have hbase : (mks (Es.take k)).length ≤ F.length := by
      have : F = mks (Es.take k) ++ mks (Es.drop k) := by rw [hF, ← mks_app, List.take_append_drop]
      rw [this, List.length_append]; omega
    have i5 : x5.toInt = x.toInt + 2 := by rw [e5, ti_add (by omega) (by omega)]; omega
    refine ok_if (fun c => ok_some ?_) (fun c => ?_)
    · have := pz_le.mp c
      have hk : k = Es.length := by
        by_cases q : k < Es.length
        · exfalso
          obtain ⟨E, hE⟩ : ∃ E, Es[k]? = some E := ⟨Es[k], by rw [List.getElem?_eq_getElem]⟩
          obtain ⟨R, r1, r2, r3⟩ := mks_at hE
          have hg := hG E (List.mem_of_getElem? hE)
          have : F.length = (mks (Es.take k)).length + (4 + E.length + R.length) := by
            rw [hF, r1]
            simp only [List.length_append, List.length_cons, List.length_nil]
          have := hg.2.1
          omega
        · omega
      subst hk
      exact ⟨(x, N), rfl, k5, k6, k7, k8⟩
    have hlt : x.toInt + 2 < F.length := by
      have : ¬ p1.toInt ≤ x5.toInt := fun q => c (pz_le.mpr q)
      omega
    have hk : k < Es.length := by
      by_cases q : k < Es.length
      · exact q
      · exfalso
        have : k = Es.length := by omega
        rw [this, List.take_length, ← hF] at k4
        omega
    obtain ⟨E, hE⟩ : ∃ E, Es[k]? = some E := ⟨Es[k], by rw [List.getElem?_eq_getElem]⟩
    obtain ⟨R, r1, r2, r3⟩ := mks_at hE
    have hg := hG E (List.mem_of_getElem? hE)
    obtain ⟨B, hB⟩ : ∃ B, B = mks (Es.take k) := ⟨_, rfl⟩
    rw [← hB] at k4 r1 r2 hbase
    have hFL : F.length = B.length + (4 + E.length + R.length) := by
      rw [hF, r1]
      simp only [List.length_append, List.length_cons, List.length_nil]
    have hat : ∀ j, F[B.length + j]? = ([0, 0, 0, 1] ++ E ++ R)[j]? := fun j => by
      rw [hF, r1, List.getElem?_append_right (by omega)]
      rw [show B.length + j - B.length = j by omega]
    have g1 := hg.2.1
    have nx0 : x.toNatClampNeg = B.length + e := by have := nat_of (x := x) (by omega); omega
    have rd : ∀ (z : Int32) (j v : Nat), z.toNatClampNeg = B.length + j → ([0, 0, 0, 1] ++ E ++ R)[j]? = some v → v ≤ 1 → (N.1 b z.toNatClampNeg).toInt = v := by
      intro z j v hz hv hv1
      rw [hz, hbN]
      have h1 := hby (B.length + j) v (by rw [hat]; exact hv)
      have h2 := hrg (B.length + j)
      omega
    refine ok_dr rfl hb.1 hb.2 (ok_chk (pz_ix (by omega) (by omega)) (ok_ltt (fun x8 e8 => ?_)))
    have he : e = 0 ∨ e = 1 := by omega
    have i8 : x8.toInt = 0 := by
      rw [e8, rd x e 0 nx0 (by rcases he with q | q <;> (rw [q]; rfl)) (by omega)]
      rfl
    refine ok_if (fun _ => ?_) (fun q => absurd (pz_eq.mpr (by rw [i8]; rfl)) q)
    refine ok_ltt (fun x11 e11 => ?_)
    have i11 : x11.toInt = x.toInt + 1 := by rw [e11, ti_add (by omega) (by omega)]; omega
    have n11 : x11.toNatClampNeg = B.length + (e + 1) := by have := nat_of (x := x11) (by omega); omega
    refine ok_chk (pz_ix (by omega) (by omega)) (ok_ltt (fun x12 e12 => ?_))
    have i12 : x12.toInt = 0 := by
      rw [e12, rd x11 (e + 1) 0 n11 (by rcases he with q | q <;> (rw [q]; rfl)) (by omega)]
      rfl
    refine ok_if (fun _ => ?_) (fun q => absurd (pz_eq.mpr (by rw [i12]; rfl)) q)
    refine ok_ltt (fun x15 e15 => ?_)
    have i15 : x15.toInt = x.toInt + 2 := by rw [e15, ti_add (by omega) (by omega)]; omega
    have n15 : x15.toNatClampNeg = B.length + (e + 2) := by have := nat_of (x := x15) (by omega); omega
    refine ok_chk (pz_ix (by omega) (by omega)) (ok_ltt (fun x16 e16 => ?_))
    have i16 : x16.toInt = ((if e = 0 then 0 else 1 : Nat) : Int) := by
      rw [e16]
      exact rd x15 (e + 2) _ n15 (by rcases he with q | q <;> (rw [q]; rfl)) (by split <;> omega)
    refine ok_if (fun c16 => ?_) (fun c16 => ?_)
    · have c16' := pz_eq.mp c16
      have hee : e = 1 := by
        by_cases q : e = 0
        · rw [if_pos q] at i16; omega
        · omega
      subst hee
      refine ok_ltt (fun x18 e18 => ?_)
      have i18 : x18.toInt = ((B.length + 4 : Nat) : Int) := by rw [e18, ti_add (by omega) (by omega)]; omega
      refine ok_bnd (ok_itr (fun (s : Int32 × DD) => ∃ j : Nat, j ≤ E.length ∧ s.1.toInt = ((B.length + 4 + j : Nat) : Int) ∧ s.2 = N) (fun (s : Int32 × DD) => (950000 - s.1.toInt).toNat) (P := fun (y : Int32 × DD) => y.1.toInt = ((B.length + 4 + E.length : Nat) : Int) ∧ y.2 = N) ?_ 1000000 _ ?_ ?_) ?_
      · rintro ⟨z, N'⟩ ⟨j, j1, j2, j3⟩
        dsimp only at j2 j3 ⊢
        subst j3
        have hF2 : F = (B ++ [0, 0, 0, 1]) ++ E ++ R := by rw [hF, r1]; simp only [List.append_assoc]
        refine ok_if (fun c => ok_some ?_) (fun c => ?_)
        · have := pz_le.mp c
          exact ⟨by dsimp only; omega, rfl⟩
        · have hzl : z.toInt < F.length := by
            have : ¬ p1.toInt ≤ z.toInt := fun q => c (pz_le.mpr q)
            omega
          refine ok_bnd (ends_ok (F := F) hb hlen hL (fun i x hx => by rw [hbN]; exact hby i x hx) (fun k => by rw [hbN]; exact hrg k) j2 (by omega) hp1) ?_
          rintro ⟨N2, y2⟩ ⟨q1, q2⟩
          dsimp only at q1 q2 ⊢
          subst q1
          have hiff : stopAt F (B.length + 4 + j) ↔ j = E.length := by
            constructor
            · intro hs
              by_cases q : j = E.length
              · exact q
              · exfalso
                rw [hF2] at hs
                exact stop_in hg.1 hg.2.2 (by simp only [List.length_append, List.length_cons, List.length_nil]; omega) (by simp only [List.length_append, List.length_cons, List.length_nil]; omega) hs
            · intro q
              have hR0 : R ≠ [] := fun q' => by rw [q'] at hFL; simp only [List.length_nil] at hFL; omega
              obtain ⟨R', hR'⟩ : ∃ R', R = 0 :: 0 :: 0 :: R' := by
                rcases r3 with q' | q'
                · exact absurd q' hR0
                · exact q'
              have hgt : ∀ m, F[B.length + 4 + j + m]? = R[m]? := fun m => by
                rw [hF2, List.getElem?_append_right (by simp only [List.length_append, List.length_cons, List.length_nil]; omega)]
                congr 1
                simp only [List.length_append, List.length_cons, List.length_nil]
                omega
              refine ⟨?_, ?_, Or.inl ?_⟩
              · have := hgt 0
                rw [Nat.add_zero] at this
                rw [this, hR']; rfl
              · rw [hgt 1, hR']; rfl
              · rw [hgt 2, hR']; rfl
          rcases q2 with ⟨q, qs⟩ | ⟨q, qs⟩
          · rw [q]
            refine ok_if (fun c => absurd (pz_eq.mp c) (by decide)) (fun _ => ok_some ?_)
            have := hiff.mp qs
            exact ⟨by dsimp only; omega, rfl⟩
          · rw [q]
            refine ok_if (fun _ => ok_ltt (fun x30 e30 => ok_some ?_)) (fun c => absurd rfl c)
            have : j ≠ E.length := fun q' => qs (hiff.mpr q')
            have i30 : x30.toInt = z.toInt + 1 := by rw [e30, ti_add (by omega) (by omega)]; omega
            exact ⟨⟨j + 1, by omega, by dsimp only; omega, rfl⟩, by dsimp only; omega⟩
      · exact ⟨0, by omega, by dsimp only; omega, rfl⟩
      · dsimp only; omega
      · rintro ⟨z, N'⟩ ⟨z1, z2⟩
        dsimp only at z1 z2 ⊢
        subst z2
        refine ok_if (fun c => ?_) (fun _ => ?_)
        · have := pz_le.mp c
          omega
        · refine ok_ltt (fun x23 e23 => ?_)
          have i23 : x23.toInt = E.length := by rw [e23, ti_sub (by omega) (by omega)]; omega
          refine ok_bnd (note_ok (c := k) ha (by rw [k5]; exact h5) (by rw [k5]; exact h6) hne k6 (by omega)) ?_
          rintro ⟨N3, y3⟩ ⟨w1, w2, w3, w4, w5, w6⟩
          dsimp only at w1 w2 w3 w4 w5 w6 ⊢
          rw [w1]
          refine ok_if (fun c => absurd (pz_eq.mp c) (by decide)) (fun _ => ok_some ?_)
          have hlen2 : (mks (Es.take (k + 1))).length = B.length + 4 + E.length := by
            rw [r2]
            simp only [List.length_append, List.length_cons, List.length_nil]
            omega
          refine ⟨⟨k + 1, 0, by omega, by omega, fun q => by omega, by dsimp only; rw [hlen2]; exact z1, w2.trans k5, w3, ?_, ?_⟩, by dsimp only; omega⟩
          · intro j E' hj hE'
            by_cases q : j = k
            · subst q
              rw [hE] at hE'
              injection hE' with hE'
              subst hE'
              dsimp only
              rw [w4, w5, ← hB]
              exact ⟨by rw [i18]; omega, i23⟩
            · obtain ⟨u1, u2⟩ := k7 j E' (by omega) hE'
              dsimp only
              rw [w6 ro j (fun z => hoa z.1) (fun z => q z.2) (fun z => q z.2), w6 rl j (fun z => hla z.1) (fun z => q z.2) (fun z => q z.2)]
              exact ⟨u1, u2⟩
          · intro x k h1 h2 h3
            dsimp only
            rw [w6 x k h1 (fun q => h2 q.1) (fun q => h3 q.1)]
            exact k8 x k h1 h2 h3
    · have c16' : ¬ x16.toInt = (1 : Int32).toInt := fun q => c16 (pz_eq.mpr q)
      have hee : e = 0 := by
        by_cases q : e = 0
        · exact q
        · rw [if_neg q] at i16; omega
      subst hee
      refine ok_ltt (fun x31 e31 => ok_some ?_)
      have i31 : x31.toInt = x.toInt + 1 := by rw [e31, ti_add (by omega) (by omega)]; omega
      exact ⟨⟨k, 1, k1, by omega, fun _ => hk, by dsimp only; rw [← hB]; omega, k5, k6, k7, k8⟩, by dsimp only; omega⟩
  · exact ⟨0, 0, by omega, by omega, fun q => by omega, rfl, rfl, h7, fun j E hj => by omega, fun _ _ _ _ _ => rfl⟩
  · dsimp only; omega
  · rintro y ⟨z, rfl, z1, z2, z3, z4⟩
    exact ok_chk (Or.inr rfl) (ok_some ⟨rfl, z1, z2, z3, z4⟩)
