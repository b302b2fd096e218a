/-! Reader: the payload of a unit -/
theorem dem_len : ∀ (xs : List Nat) (z : Nat), (dem z xs).length ≤ xs.length := by
  intro xs
  induction xs with
  | nil => intro z; exact Nat.le_refl _
  | cons x xs ih =>
    intro z
    show (if z < 2 then x :: dem (if x = 0 then z + 1 else 0) xs else if x = 3 then dem 0 xs else x :: dem (if x = 0 then z + 1 else 0) xs).length ≤ xs.length + 1
    have h1 := ih (if x = 0 then z + 1 else 0)
    have h2 := ih 0
    split
    · rw [List.length_cons]; omega
    · split
      · omega
      · rw [List.length_cons]; omega
theorem nar_fit (x : Int32) : (vp_nar .byte x).toInt % 256 = x.toInt % 256 ∧ -128 ≤ (vp_nar .byte x).toInt ∧ (vp_nar .byte x).toInt ≤ 127 := by
  rw [pz_nar]
  have h1 := Int.bmod_emod (x := x.toInt) (m := 256)
  have h2 := Int.le_bmod (x := x.toInt) (m := 256) (by decide)
  have h3 := Int.bmod_lt (x := x.toInt) (m := 256) (by decide)
  omega
set_option maxHeartbeats 8000000 in
theorem payload_ok {G : GG} {M : DD} {b d da ro rl L p st : Nat} {X : List Nat} {p0 : Int32} (hb : b < G.1 ∧ G.2.1 b = 8) (hd : M.2 b 8 = some d ∧ d < G.1 ∧ G.2.1 d = 12) (hda : M.2 b 0 = some da ∧ da < G.1 ∧ G.2.1 da = 12) (hro : M.2 b 1 = some ro ∧ ro < G.1 ∧ G.2.1 ro = 13) (hrl : M.2 b 2 = some rl ∧ rl < G.1 ∧ G.2.1 rl = 13) (hn : d ≠ da) (hp : p0.toInt = p) (hp1 : p < G.2.2 ro) (hp2 : p < G.2.2 rl) (hl : (M.1 rl p).toInt = X.length) (hs : (M.1 ro p).toInt = st) (hX : st + X.length ≤ G.2.2 da) (hXd : X.length ≤ G.2.2 d) (hm : st + X.length ≤ 900000) (hby : ∀ (i x : Nat), X[i]? = some x → (M.1 da (st + i)).toInt % 256 = (x : Int)) (hrg : ∀ k, -128 ≤ (M.1 da k).toInt ∧ (M.1 da k).toInt ≤ 127) (hrd : ∀ k, -128 ≤ (M.1 d k).toInt ∧ (M.1 d k).toInt ≤ 127) :
    OK (FX8_loadPayload G M b p0) (fun y => (y.1 b 9).toInt = (dem 0 X).length ∧ (∀ (i x : Nat), (dem 0 X)[i]? = some x → (y.1 d i).toInt % 256 = (x : Int)) ∧ (∀ k, -128 ≤ (y.1 d k).toInt ∧ (y.1 d k).toInt ≤ 127) ∧ y.2 = M.2 ∧ (∀ x k, x ≠ d → ¬ (x = b ∧ k = 9) → y.1 x k = M.1 x k)) := by
  have e0 : (0 : Int32).toInt = 0 := rfl
  have e1 : (1 : Int32).toInt = 1 := rfl
  have e2 : (2 : Int32).toInt = 2 := rfl
  have e3 : (3 : Int32).toInt = 3 := rfl
  obtain ⟨b1, b2⟩ := hb
  obtain ⟨d1, d2, d3⟩ := hd
  obtain ⟨a1, a2, a3⟩ := hda
  obtain ⟨o1, o2, o3⟩ := hro
  obtain ⟨l1, l2, l3⟩ := hrl
  have hdb : d = b → False := fun e => by rw [e] at d3; omega
  have hdro : d = ro → False := fun e => by rw [e] at d3; omega
  have hdrl : d = rl → False := fun e => by rw [e] at d3; omega
  have hrob : ro = b → False := fun e => by rw [e] at o3; omega
  have hrlb : rl = b → False := fun e => by rw [e] at l3; omega
  have hdab : da = b → False := fun e => by rw [e] at a3; omega
  have hpn : p0.toNatClampNeg = p := by
    have := pz_nat (x := p0) (by omega)
    omega
  have hix1 : ¬ (p0 < 0 ∨ G.2.2 ro ≤ p0.toNatClampNeg) := pz_ix (by omega) (by omega)
  have hix2 : ¬ (p0 < 0 ∨ G.2.2 rl ≤ p0.toNatClampNeg) := pz_ix (by omega) (by omega)
  unfold FX8_loadPayload
  refine ok_lt (ok_bnd (ok_itr (fun s : Int32 × Int32 × DD => ∃ (i z : Nat) (Y : List Nat), s.2.1.toInt = i ∧ i ≤ X.length ∧ s.1.toInt = z ∧ z ≤ 900000 ∧ z ≤ i ∧ Y ++ dem z (X.drop i) = dem 0 X ∧ (s.2.2.1 b 9).toInt = Y.length ∧ (∀ (j x : Nat), Y[j]? = some x → (s.2.2.1 d j).toInt % 256 = (x : Int)) ∧ (∀ k, -128 ≤ (s.2.2.1 d k).toInt ∧ (s.2.2.1 d k).toInt ≤ 127) ∧ s.2.2.2 = M.2 ∧ (∀ x k, x ≠ d → ¬ (x = b ∧ k = 9) → s.2.2.1 x k = M.1 x k)) (fun s => ((X.length : Int) - s.2.1.toInt).toNat) (P := fun y : Int32 × Int32 × DD => (y.2.2.1 b 9).toInt = (dem 0 X).length ∧ (∀ (i x : Nat), (dem 0 X)[i]? = some x → (y.2.2.1 d i).toInt % 256 = (x : Int)) ∧ (∀ k, -128 ≤ (y.2.2.1 d k).toInt ∧ (y.2.2.1 d k).toInt ≤ 127) ∧ y.2.2.2 = M.2 ∧ (∀ x k, x ≠ d → ¬ (x = b ∧ k = 9) → y.2.2.1 x k = M.1 x k)) ?_ 1000000 _ ?_ ?_) (fun y2 hy2 => ok_some hy2))
  · intro s hsI
    obtain ⟨zz, ii, N⟩ := s
    obtain ⟨i, z, Y, i1, i2, i3, i4, i5, i6, i7, i8, i9, i10, i11⟩ := hsI
    dsimp only at i1 i3 i7 i8 i9 i10 i11 ⊢
    refine ok_dr (b := rl) (by rw [i10]; exact l1) l2 l3 (ok_chk hix2 (ok_lt ?_))
    rw [hpn]
    have hNl : (N.1 rl p).toInt = X.length := by rw [i11 rl p (fun q => hdrl q.symm) (fun q => hrlb q.1)]; exact hl
    have hNs : (N.1 ro p).toInt = st := by rw [i11 ro p (fun q => hdro q.symm) (fun q => hrob q.1)]; exact hs
    refine ok_if (fun c => ok_some ?_) (fun c => ?_)
    · have := pz_le.mp c
      have ei : i = X.length := by omega
      subst ei
      rw [List.drop_length] at i6
      have i6 : Y ++ [] = dem 0 X := i6
      rw [List.append_nil] at i6
      dsimp only
      rw [← i6]
      exact ⟨i7, i8, i9, i10, i11⟩
    · have c3 : ¬ (N.1 rl p).toInt ≤ ii.toInt := fun q => c (pz_le.mpr q)
      have hil : i < X.length := by omega
      have hx11 : (N.1 ro p + ii).toInt = ((st + i : Nat) : Int) := by
        rw [ti_add (by omega) (by omega), hNs, i1]
        omega
      have hn11 : (N.1 ro p + ii).toNatClampNeg = st + i := by
        have := pz_nat (x := N.1 ro p + ii) (by omega)
        omega
      have hix3 : ¬ (N.1 ro p + ii < 0 ∨ G.2.2 da ≤ (N.1 ro p + ii).toNatClampNeg) := pz_ix (by omega) (by omega)
      rw [hpn] at hix1
      refine ok_dr (b := ro) (by rw [i10]; exact o1) o2 o3 (ok_chk hix1 (ok_lt (ok_lt (ok_dr (b := da) (by rw [i10]; exact a1) a2 a3 (ok_chk hix3 (ok_lt ?_))))))
      rw [hn11]
      have hNv : N.1 da (st + i) = M.1 da (st + i) := i11 da _ (fun q => hn q.symm) (fun q => hdab q.1)
      have hv1 := hby i X[i] (List.getElem?_eq_getElem hil)
      obtain ⟨hv2, hv3⟩ := hrg (st + i)
      rw [hNv]
      generalize M.1 da (st + i) = v at hv1 hv2 hv3
      have hv0 : v = 0 ↔ X[i] = 0 := by
        rw [pz_eq, e0]
        omega
      have hv33 : v = 3 ↔ X[i] = 3 := by
        rw [pz_eq, e3]
        omega
      have hdc : X.drop i = X[i] :: X.drop (i + 1) := List.drop_eq_getElem_cons hil
      rw [hdc] at i6
      have i6 : Y ++ (if z < 2 then X[i] :: dem (if X[i] = 0 then z + 1 else 0) (X.drop (i + 1)) else if X[i] = 3 then dem 0 (X.drop (i + 1)) else X[i] :: dem (if X[i] = 0 then z + 1 else 0) (X.drop (i + 1))) = dem 0 X := i6
      generalize X[i] = xv at hv1 hv0 hv33 i6
      have hYl : ∀ D : List Nat, Y ++ (xv :: D) = dem 0 X → Y.length < X.length := fun D hD => by
        have h1 := dem_len X 0
        rw [← hD, List.length_append, List.length_cons] at h1
        omega
      have hii1 : (ii + (1 : Int32)).toInt = i + 1 := by rw [ti_add (by omega) (by omega), i1, e1]
      have hz2 : ∀ w : Int32, w.toInt = z → OK (if v = (0 : Int32) then ltt (w + (1 : Int32)) fun x24 => some x24 else some (0 : Int32)) (fun y => y.toInt = ((if xv = 0 then z + 1 else 0 : Nat) : Int)) := fun w hw => by
        refine ok_if (fun c => ok_lt (ok_some ?_)) (fun c => ok_some ?_)
        · rw [if_pos (hv0.mp c), ti_add (by omega) (by omega), hw, e1]
          omega
        · rw [if_neg (fun q => c (hv0.mpr q))]
          exact e0
      have hput : ∀ D : List Nat, Y ++ (xv :: D) = dem 0 X → (Y ++ [xv]) ++ D = dem 0 X ∧ ((uI (uI N b 9 (N.1 b 9 + (1 : Int32))) d (N.1 b 9).toNatClampNeg (vp_nar .byte v)).1 b 9).toInt = (Y ++ [xv]).length ∧ (∀ (j x : Nat), (Y ++ [xv])[j]? = some x → ((uI (uI N b 9 (N.1 b 9 + (1 : Int32))) d (N.1 b 9).toNatClampNeg (vp_nar .byte v)).1 d j).toInt % 256 = (x : Int)) ∧ (∀ k, -128 ≤ ((uI (uI N b 9 (N.1 b 9 + (1 : Int32))) d (N.1 b 9).toNatClampNeg (vp_nar .byte v)).1 d k).toInt ∧ ((uI (uI N b 9 (N.1 b 9 + (1 : Int32))) d (N.1 b 9).toNatClampNeg (vp_nar .byte v)).1 d k).toInt ≤ 127) ∧ (∀ x k, x ≠ d → ¬ (x = b ∧ k = 9) → (uI (uI N b 9 (N.1 b 9 + (1 : Int32))) d (N.1 b 9).toNatClampNeg (vp_nar .byte v)).1 x k = M.1 x k) := by
        intro D hD
        have hlt := hYl D hD
        have hn9 : (N.1 b 9).toNatClampNeg = Y.length := by
          have := pz_nat (x := N.1 b 9) (by omega)
          omega
        rw [hn9]
        obtain ⟨f1, f2, f3⟩ := nar_fit v
        refine ⟨by rw [List.append_assoc]; exact hD, ?_, fun j x hj => ?_, fun k => ?_, fun x k h1 h2 => ?_⟩
        · rw [uI_n _ _ (fun q => hdb q.1.symm), uI_s, ti_add (by omega) (by omega), i7, e1, List.length_append]
          rfl
        · by_cases q : j = Y.length
          · subst q
            rw [uI_s, f1, hv1]
            rw [List.getElem?_append_right (Nat.le_refl _), Nat.sub_self] at hj
            have : xv = x := by simpa using hj
            rw [this]
          · have hjl : j < Y.length := by
              obtain ⟨w, -⟩ := List.getElem?_eq_some_iff.mp hj
              rw [List.length_append] at w
              have : [xv].length = 1 := rfl
              omega
            rw [List.getElem?_append_left hjl] at hj
            rw [uI_n _ _ (fun w => q w.2), uI_n _ _ (fun w => hdb w.1)]
            exact i8 j x hj
        · by_cases q : k = Y.length
          · subst q
            rw [uI_s]; exact ⟨f2, f3⟩
          · rw [uI_n _ _ (fun w => q w.2), uI_n _ _ (fun w => hdb w.1)]
            exact i9 k
        · rw [uI_n _ _ (fun w => h1 w.1), uI_n _ _ h2]
          exact i11 x k h1 h2
      have hixd : ∀ D : List Nat, Y ++ (xv :: D) = dem 0 X → ¬ (N.1 b 9 < 0 ∨ G.2.2 d ≤ (N.1 b 9).toNatClampNeg) := fun D hD => by
        have := hYl D hD
        exact pz_ix (by omega) (by omega)
      refine ok_bnd (Q := fun y : Int32 × DD => ∃ (z2 : Nat) (Y2 : List Nat), y.1.toInt = z2 ∧ z2 ≤ i + 1 ∧ Y2 ++ dem z2 (X.drop (i + 1)) = dem 0 X ∧ (y.2.1 b 9).toInt = Y2.length ∧ (∀ (j x : Nat), Y2[j]? = some x → (y.2.1 d j).toInt % 256 = (x : Int)) ∧ (∀ k, -128 ≤ (y.2.1 d k).toInt ∧ (y.2.1 d k).toInt ≤ 127) ∧ y.2.2 = M.2 ∧ (∀ x k, x ≠ d → ¬ (x = b ∧ k = 9) → y.2.1 x k = M.1 x k)) (ok_if (fun c4 => ?_) (fun c4 => ok_bi (ok_if (fun c5 => ok_some (ok_some ?_)) (fun c5 => ?_)))) (fun y14 hy14 => ok_lt (ok_some ?_))
      · have hz := pz_lt.mp c4
        rw [if_pos (by omega)] at i6
        obtain ⟨g1, g2, g3, g4, g5⟩ := hput _ i6
        refine ok_lt (ok_lt (ok_lt (ok_dr (b := d) (by rw [i10]; exact d1) d2 d3 (ok_chk (hixd _ i6) (ok_lt (ok_bnd (hz2 zz i3) (fun y22 hy22 => ok_some ?_)))))))
        exact ⟨_, _, hy22, by split <;> omega, g1, g2, g3, g4, i10, g5⟩
      · have hz : ¬ zz.toInt < (2 : Int32).toInt := fun q => c4 (pz_lt.mpr q)
        rw [if_neg (by omega), if_pos (hv33.mp c5)] at i6
        exact ⟨0, Y, e0, Nat.zero_le _, i6, i7, i8, i9, i10, i11⟩
      · have hz : ¬ zz.toInt < (2 : Int32).toInt := fun q => c4 (pz_lt.mpr q)
        rw [if_neg (by omega), if_neg (fun q => c5 (hv33.mpr q))] at i6
        obtain ⟨g1, g2, g3, g4, g5⟩ := hput _ i6
        refine ok_lt (ok_lt (ok_lt (ok_dr (b := d) (by rw [i10]; exact d1) d2 d3 (ok_chk (hixd _ i6) (ok_lt (ok_bnd (hz2 zz i3) (fun y32 hy32 => ok_some (ok_some ?_))))))))
        exact ⟨_, _, hy32, by split <;> omega, g1, g2, g3, g4, i10, g5⟩
      · obtain ⟨z9, N9⟩ := y14
        obtain ⟨z2, Y2, g1, g2, g3, g4, g5, g6, g7, g8⟩ := hy14
        dsimp only at g1 g4 g5 g6 g7 g8 ⊢
        exact ⟨⟨i + 1, z2, Y2, by rw [hii1]; omega, by omega, g1, by omega, g2, g3, g4, g5, g6, g7, g8⟩, by omega⟩
  · refine ⟨0, 0, [], e0, Nat.zero_le _, e0, by decide, Nat.le_refl _, rfl, ?_, fun j x hj => by simp at hj, fun k => ?_, rfl, fun x k _ h2 => uI_n _ _ h2⟩
    · rw [uI_s]; rfl
    · rw [uI_n _ _ (fun q => hdb q.1)]; exact hrd k
  · dsimp only
    omega
