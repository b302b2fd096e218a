/-! Units: keepFound lays the units found one behind another -/
theorem rI_s (M : DD) (b : Nat) (f : Nat → Int32) (k : Nat) : (rI M b f).1 b k = f k := by
  show (if b = b then f else M.1 b) k = f k
  rw [if_pos rfl]
theorem rI_n {M : DD} {b x : Nat} (f : Nat → Int32) (k : Nat) (h : x ≠ b) : (rI M b f).1 x k = M.1 x k := by
  show (if x = b then f else M.1 x) k = M.1 x k
  rw [if_neg h]
def fl (Es : List (List Nat)) (k : Nat) : List Nat := (Es.take k).flatten
theorem fl_s {Es : List (List Nat)} {k : Nat} {E : List Nat} (h : Es[k]? = some E) : fl Es (k + 1) = fl Es k ++ E := by
  unfold fl
  rw [List.take_add_one, h]
  simp
theorem fl_le {Es : List (List Nat)} : ∀ {k m : Nat}, k ≤ m → (fl Es k).length ≤ (fl Es m).length := by
  intro k m h
  induction m with
  | zero => rw [show k = 0 by omega]; exact Nat.le_refl _
  | succ m ih =>
    by_cases q : k = m + 1
    · rw [q]; exact Nat.le_refl _
    · refine Nat.le_trans (ih (by omega)) ?_
      by_cases z : m < Es.length
      · rw [fl_s (show Es[m]? = some Es[m] by rw [List.getElem?_eq_getElem]), List.length_append]
        omega
      · unfold fl
        rw [List.take_of_length_le (by omega), List.take_of_length_le (by omega)]
        exact Nat.le_refl _
/-- the units kept: bytes, places, sizes -/
def KF (G : GG) (M : DD) (da pl sz : Nat) (Es : List (List Nat)) (k : Nat) : Prop := (∀ (i x : Nat), (fl Es k)[i]? = some x → (M.1 da i).toInt % 256 = (x : Int)) ∧ (∀ j, -128 ≤ (M.1 da j).toInt ∧ (M.1 da j).toInt ≤ 127) ∧ (∀ j E, j < k → Es[j]? = some E → (M.1 pl j).toInt = (fl Es j).length ∧ (M.1 sz j).toInt = E.length)
set_option maxHeartbeats 2000000 in
theorem keep_ok {G : GG} {M : DD} {a da pl sz ro rl b : Nat} {Es : List (List Nat)} (ha : a < G.1 ∧ G.2.1 a = 8) (h0 : M.2 a 0 = some da ∧ da < G.1 ∧ G.2.1 da = 12 ∧ G.2.2 da ≤ 900000) (h1 : M.2 a 1 = some pl ∧ pl < G.1 ∧ G.2.1 pl = 13 ∧ 400 ≤ G.2.2 pl) (h2 : M.2 a 2 = some sz ∧ sz < G.1 ∧ G.2.1 sz = 13 ∧ 400 ≤ G.2.2 sz) (h5 : M.2 a 5 = some ro ∧ ro < G.1 ∧ G.2.1 ro = 13 ∧ 400 ≤ G.2.2 ro) (h6 : M.2 a 6 = some rl ∧ rl < G.1 ∧ G.2.1 rl = 13 ∧ 400 ≤ G.2.2 rl) (hne : pl ≠ sz ∧ ro ≠ pl ∧ ro ≠ sz ∧ rl ≠ pl ∧ rl ≠ sz) (hbd : b ≠ da) (hb : b < G.1 ∧ G.2.1 b = 12 ∧ G.2.2 b ≤ 1000000) (hlen : (mks Es).length ≤ G.2.2 b) (hL : (mks Es).length ≤ 900000) (hby : ∀ (i x : Nat), (mks Es)[i]? = some x → (M.1 b i).toInt % 256 = (x : Int)) (hrg : ∀ k, -128 ≤ (M.1 b k).toInt ∧ (M.1 b k).toInt ≤ 127) (hrd : ∀ k, -128 ≤ (M.1 da k).toInt ∧ (M.1 da k).toInt ≤ 127) (hn : Es.length ≤ 400) (h7 : (M.1 a 7).toInt = Es.length) (hf : FD Es M ro rl Es.length) (hcap : (fl Es Es.length).length ≤ G.2.2 da) :
    OK (FX8_keepFound G M a (some b)) (fun y => y.2 = M.2 ∧ KF G y da pl sz Es Es.length ∧ (y.1 a 3).toInt = Es.length ∧ (y.1 a 4).toInt = 0 ∧ (∀ x k, ¬ (x = a ∧ (k = 3 ∨ k = 4)) → x ≠ da → x ≠ pl → x ≠ sz → y.1 x k = M.1 x k)) := by
  have e1 : (1 : Int32).toInt = 1 := rfl
  have e0 : (0 : Int32).toInt = 0 := rfl
  have hda : da ≠ a := fun e => by rw [e] at h0; omega
  have hpa : pl ≠ a := fun e => by rw [e] at h1; omega
  have hsa : sz ≠ a := fun e => by rw [e] at h2; omega
  have hpd : pl ≠ da := fun e => by rw [e] at h1; omega
  have hsd : sz ≠ da := fun e => by rw [e] at h2; omega
  have hod : ro ≠ da := fun e => by rw [e] at h5; omega
  have hld : rl ≠ da := fun e => by rw [e] at h6; omega
  have hbp : b ≠ pl := fun e => by rw [e] at hb; omega
  have hbs : b ≠ sz := fun e => by rw [e] at hb; omega
  unfold FX8_keepFound
  refine ok_bnd (ok_itr (fun (s : Int32 × Int32 × DD) => ∃ k : Nat, k ≤ Es.length ∧ s.2.1.toInt = k ∧ s.1.toInt = (fl Es k).length ∧ s.2.2.2 = M.2 ∧ KF G s.2.2 da pl sz Es k ∧ (∀ x k, x ≠ da → x ≠ pl → x ≠ sz → s.2.2.1 x k = M.1 x k)) (fun (s : Int32 × Int32 × DD) => (500 - s.2.1.toInt).toNat) (P := fun (y : Int32 × Int32 × DD) => y.2.2.2 = M.2 ∧ KF G y.2.2 da pl sz Es Es.length ∧ (∀ x k, x ≠ da → x ≠ pl → x ≠ sz → y.2.2.1 x k = M.1 x k)) ?_ 1000000 _ ?_ ?_) ?_
  · rintro ⟨q, i, N⟩ ⟨k, k1, k2, k3, k4, ⟨k5, k6, k7⟩, k8⟩
    dsimp only at k2 k3 k4 k5 k6 k7 k8 ⊢
    refine ok_ltt (fun x8 e8 => ?_)
    have i8 : x8.toInt = Es.length := by rw [e8, k8 a 7 hda.symm hpa.symm hsa.symm]; exact h7
    refine ok_if (fun c => ok_some ?_) (fun c => ?_)
    · have := pz_le.mp c
      have hk : k = Es.length := by omega
      subst hk
      exact ⟨k4, ⟨k5, k6, k7⟩, k8⟩
    have hk : k < Es.length := by
      have : ¬ x8.toInt ≤ i.toInt := fun q => c (pz_le.mpr q)
      omega
    obtain ⟨E, hE⟩ : ∃ E, Es[k]? = some E := ⟨Es[k], by rw [List.getElem?_eq_getElem]⟩
    obtain ⟨f1, f2⟩ := hf k E hk hE
    obtain ⟨R, r1, r2, r3⟩ := mks_at hE
    have hFL : (mks Es).length = (mks (Es.take k)).length + (4 + E.length + R.length) := by
      rw [r1]
      simp only [List.length_append, List.length_cons, List.length_nil]
    have hsrc : ∀ (j x : Nat), E[j]? = some x → (M.1 b ((mks (Es.take k)).length + 4 + j)).toInt % 256 = (x : Int) := by
      intro j x hx
      refine hby _ x ?_
      have hj : j < E.length := by
        by_cases q : j < E.length
        · exact q
        · rw [List.getElem?_eq_none (by omega)] at hx; cases hx
      rw [r1, List.getElem?_append_right (by omega), List.getElem?_append_left (by simp only [List.length_append, List.length_cons, List.length_nil]; omega), List.getElem?_append_right (by simp only [List.length_cons, List.length_nil]; omega)]
      rw [show (mks (Es.take k)).length + 4 + j - (mks (Es.take k)).length - [0, 0, 0, 1].length = j by simp only [List.length_cons, List.length_nil]; omega]
      exact hx
    have hJ : (fl Es (k + 1)).length = (fl Es k).length + E.length := by rw [fl_s hE, List.length_append]
    have hJ2 := fl_le (Es := Es) (show k + 1 ≤ Es.length by omega)
    have ni : i.toNatClampNeg = k := by have := nat_of (x := i) (by omega); omega
    have nq : q.toNatClampNeg = (fl Es k).length := by have := nat_of (x := q) (by omega); omega
    refine ok_dr (by rw [k4]; exact h6.1) h6.2.1 h6.2.2.1 (ok_chk (pz_ix (by omega) (by omega)) (ok_ltt (fun x11 e11 => ?_)))
    have i11 : x11.toInt = E.length := by rw [e11, ni, k8 rl k hld hne.2.2.2.1 hne.2.2.2.2]; exact f2
    have n11 : x11.toNatClampNeg = E.length := by have := nat_of (x := x11) (by omega); omega
    refine ok_dr (by rw [k4]; exact h0.1) h0.2.1 h0.2.2.1 (ok_ltt (fun x13 e13 => ok_ltt (fun x14 e14 => ?_)))
    have i13 : x13.toInt = G.2.2 da := by rw [e13]; exact pz_ofn (by omega)
    have i14 : x14.toInt = G.2.2 da - (fl Es k).length := by rw [e14, ti_sub (by omega) (by omega)]; omega
    refine ok_bnd (Q := fun (y : DD) => y.2 = N.2 ∧ (∀ j, y.1 da j = va_cpy (N.1 b) (N.1 da) ((mks (Es.take k)).length + 4) (fl Es k).length E.length j) ∧ (∀ x j, x ≠ da → y.1 x j = N.1 x j)) ?_ ?_
    · refine ok_if (fun c => ?_) (fun _ => ?_)
      · have := pz_lt.mp c
        omega
      refine ok_dr rfl hb.1 hb.2.1 (ok_ltt (fun x24 e24 => ?_))
      have i24 : x24.toInt = G.2.2 b := by rw [e24]; exact pz_ofn (by omega)
      refine ok_dr (by rw [k4]; exact h5.1) h5.2.1 h5.2.2.1 (ok_chk (pz_ix (by omega) (by omega)) (ok_ltt (fun x26 e26 => ok_ltt (fun x27 e27 => ?_))))
      have i26 : x26.toInt = ((mks (Es.take k)).length : Int) + 4 := by rw [e26, ni, k8 ro k hod hne.2.1 hne.2.2.1]; exact f1
      have i27 : x27.toInt = G.2.2 b - ((mks (Es.take k)).length + 4) := by rw [e27, ti_sub (by omega) (by omega)]; omega
      refine ok_bnd (Q := fun (y : DD) => y.2 = N.2 ∧ (∀ j, y.1 da j = va_cpy (N.1 b) (N.1 da) ((mks (Es.take k)).length + 4) (fl Es k).length E.length j) ∧ (∀ x j, x ≠ da → y.1 x j = N.1 x j)) ?_ (fun y hy => ok_some hy)
      refine ok_if (fun c => ?_) (fun _ => ?_)
      · have := pz_lt.mp c
        omega
      refine ok_chk (pz_ix (by omega) (by omega)) (ok_ltt (fun x30 e30 => ?_))
      have i30 : x30.toInt = ((mks (Es.take k)).length : Int) + 4 := by rw [e30, ← e26]; exact i26
      have n30 : x30.toNatClampNeg = (mks (Es.take k)).length + 4 := by have := nat_of (x := x30) (by omega); omega
      refine ok_chk ⟨lt_z (by omega), lt_z (by omega), lt_z (by omega), by omega, by omega⟩ (ok_chk ?_ (ok_ltt (fun M31 e31 => ok_some ?_)))
      · intro j _
        rw [k8 b _ hbd hbp hbs]
        exact pz_fit (hrg _).1 (hrg _).2
      · rw [e31]
        refine ⟨rfl, fun j => ?_, fun x j hx => rI_n _ _ hx⟩
        rw [rI_s, n30, nq, n11]
    · rintro Y ⟨y1, y2, y3⟩
      refine ok_dr (by rw [y1, k4]; exact h1.1) h1.2.1 h1.2.2.1 (ok_chk (pz_ix (by omega) (by omega)) (ok_ltt (fun M17 e17 => ?_)))
      refine ok_dr (by rw [e17]; show Y.2 a 2 = _; rw [y1, k4]; exact h2.1) h2.2.1 h2.2.2.1 (ok_chk (pz_ix (by omega) (by omega)) (ok_ltt (fun M19 e19 => ok_ltt (fun x20 e20 => ok_ltt (fun x21 e21 => ok_some ?_)))))
      rw [ni] at e17 e19
      have i20 : x20.toInt = (fl Es (k + 1)).length := by rw [e20, ti_add (by omega) (by omega)]; omega
      have i21 : x21.toInt = k + 1 := by rw [e21, ti_add (by omega) (by omega)]; omega
      have d19 : ∀ j, M19.1 da j = va_cpy (N.1 b) (N.1 da) ((mks (Es.take k)).length + 4) (fl Es k).length E.length j := fun j => by
        rw [e19, uI_n _ _ (fun q => hsd q.1.symm), e17, uI_n _ _ (fun q => hpd q.1.symm), y2]
      refine ⟨⟨k + 1, by omega, by dsimp only; omega, by dsimp only; exact i20, by dsimp only; rw [e19, e17]; show Y.2 = _; rw [y1, k4], ⟨?_, ?_, ?_⟩, ?_⟩, by dsimp only; omega⟩
      · intro j x hx
        dsimp only
        rw [d19]
        unfold va_cpy
        rw [fl_s hE] at hx
        by_cases z : j < (fl Es k).length
        · rw [if_neg (by omega)]
          rw [List.getElem?_append_left z] at hx
          exact k5 j x hx
        · rw [List.getElem?_append_right (by omega)] at hx
          have hj : j - (fl Es k).length < E.length := by
            by_cases q : j - (fl Es k).length < E.length
            · exact q
            · rw [List.getElem?_eq_none (by omega)] at hx; cases hx
          rw [if_pos (by omega), k8 b _ hbd hbp hbs]
          exact hsrc _ x hx
      · intro j
        dsimp only
        rw [d19]
        unfold va_cpy
        by_cases z : (fl Es k).length ≤ j ∧ j < (fl Es k).length + E.length
        · rw [if_pos z, k8 b _ hbd hbp hbs]; exact hrg _
        · rw [if_neg z]; exact k6 j
      · intro j E' hj hE'
        dsimp only
        by_cases z : j = k
        · subst z
          rw [hE] at hE'
          injection hE' with hE'
          subst hE'
          rw [e19, uI_n _ _ (fun q => hne.1 q.1), uI_s, e17, uI_s]
          exact ⟨k3, i11⟩
        · obtain ⟨u1, u2⟩ := k7 j E' (by omega) hE'
          rw [e19, uI_n _ _ (fun q => z q.2), uI_n _ _ (fun q => z q.2), e17, uI_n _ _ (fun q => z q.2), uI_n _ _ (fun q => z q.2), y3 pl j hpd, y3 sz j hsd]
          exact ⟨u1, u2⟩
      · intro x j q1 q2 q3
        dsimp only
        rw [e19, uI_n _ _ (fun q => q3 q.1), e17, uI_n _ _ (fun q => q2 q.1), y3 x j q1]
        exact k8 x j q1 q2 q3
  · refine ⟨0, by omega, rfl, rfl, rfl, ⟨fun i x hx => ?_, hrd, fun j E hj => by omega⟩, fun _ _ _ _ _ => rfl⟩
    have : fl Es 0 = [] := rfl
    rw [this] at hx
    cases hx
  · dsimp only; omega
  · rintro ⟨q, i, N⟩ ⟨k4, ⟨k5, k6, k7⟩, k8⟩
    dsimp only at k4 k5 k6 k7 k8 ⊢
    refine ok_ltt (fun x4 e4 => ok_ltt (fun M5 e5 => ok_ltt (fun M6 e6 => ok_some ?_)))
    have n6 : ∀ x k, ¬ (x = a ∧ (k = 3 ∨ k = 4)) → M6.1 x k = N.1 x k := fun x k h => by
      rw [e6, uI_n _ _ (fun q => h ⟨q.1, Or.inr q.2⟩), e5, uI_n _ _ (fun q => h ⟨q.1, Or.inl q.2⟩)]
    refine ⟨by rw [e6, e5]; exact k4, ⟨fun j x hx => ?_, fun j => ?_, fun j E hj hE => ?_⟩, ?_, ?_, fun x k q1 q2 q3 q4 => ?_⟩
    · rw [n6 da j (fun q => hda q.1)]; exact k5 j x hx
    · rw [n6 da j (fun q => hda q.1)]; exact k6 j
    · rw [n6 pl j (fun q => hpa q.1), n6 sz j (fun q => hsa q.1)]; exact k7 j E hj hE
    · rw [e6, uI_n _ _ (fun q => by omega), e5, uI_s, e4, k8 a 7 hda.symm hpa.symm hsa.symm]; exact h7
    · rw [e6, uI_s]; rfl
    · rw [n6 x k q1]; exact k8 x k q2 q3 q4
