/-! pattern and step of a BLOCK, read -/
theorem md52 {q0 q : Int} (h0 : 0 ≤ q0 ∧ q0 ≤ 51) (h1 : 0 ≤ q ∧ q ≤ 51) : (q0 + (q - q0) + 52) % 52 = q := by omega
theorem r_pat1 {H : GG} {N : DD} {d : Nat} {f : Nat → Nat} {T mb : Nat} {D : List Tok} {q0 q : Int} (hK : GK H N) (hd : d ≠ 67 ∧ d ≠ 12) {p0 : Int32} (i0 : TI p0 mb) (hmb : mb ≤ 3) (hty : N.1 67 (8 * mb) = 1) (hq0 : (N.1 12 20).toInt = q0) (b0 : 0 ≤ q0 ∧ q0 ≤ 51) (b1 : 0 ≤ q ∧ q ≤ 51) (bd : -26 ≤ q - q0 ∧ q - q0 ≤ 25) (hR : RAt H N d f T (ueT 10 (sei (q - q0)) ++ D)) : OK (FX1_readPattern H N 12 p0) (fun y => RAt H y d f T D ∧ y.2 = N.2 ∧ (y.1 67 (8 * mb + 2)).toInt = q ∧ (y.1 12 20).toInt = q ∧ (∀ z k, z ≠ 13 → z ≠ 14 → z ≠ 15 → ¬ (z = 67 ∧ k = 8 * mb + 2) → ¬ (z = 12 ∧ k = 20) → y.1 z k = N.1 z k)) := by
  have hdr : ∀ {N3 : DD} {α : Type} {κ a g b : Nat} {k : Nat → Option α} {Q : α → Prop}, N3.2 = N.2 → fT a g = b → (0 < b ∧ b < 222) → kdL.getD b 0 = κ → OK (k b) Q → OK (dr H κ (N3.2 a g) k) Q := by
    intro N3 α κ a g b k Q e hf hb hkd hh
    rw [e]
    exact ok_drM hK hf hb hkd hh
  have hl7 : H.2.2 67 = 256 := gk_len hK (by decide) rfl
  unfold FX1_readPattern
  refine ok_ltI (a := 8 * (mb : Int)) (av_mul tn_8 i0 (by omega) (by omega)) (fun x1 i1 => ?_)
  refine hdr (N3 := N) (b := 63) rfl rfl (by decide) rfl ?_
  refine ok_ltI (a := 8 * (mb : Int) + 0) (av_add i1 tn_0 (by omega) (by omega)) (fun x3 i3 => ?_)
  refine hdr (N3 := N) (b := 67) rfl rfl (by decide) rfl ?_
  refine ok_chk (by rw [hl7]; exact nx i3 (by omega) (by show _ < ((256 : Nat) : Int); omega)) ?_
  rw [show x3.toNatClampNeg = 8 * mb by rw [ti_n i3]; omega]
  refine ok_ltt (fun x5 e5 => ?_)
  rw [hty] at e5
  subst e5
  rw [if_neg (show ¬ (1 : Int32) = 2 by decide)]
  refine ok_bnd (Q := fun y => y = N) (ok_if (fun _ => ok_some rfl) (fun c => absurd rfl c)) ?_
  rintro y7 rfl
  refine ok_bnd (Q := fun y => RAt H y d f T D ∧ y.2 = y7.2 ∧ (y.1 12 20).toInt = q ∧ (∀ z k, z ≠ 13 → z ≠ 14 → z ≠ 15 → ¬ (z = 12 ∧ k = 20) → y.1 z k = y7.1 z k)) (ok_if (fun _ => ?_) (fun c => absurd rfl c)) ?_
  · refine ok_ltI (a := q0) hq0 (fun x15 i15 => ?_)
    refine hdr (N3 := y7) (b := 13) rfl rfl (by decide) rfl ?_
    refine ok_bnd (ra_number (e := 10) (kind := 1) hR rfl (by decide) (sei_lt (by omega) (by omega)) rfl (fun z => absurd z (by decide)) (by rw [numV_sei]; show (-26 : Int) ≤ _; omega) (by rw [numV_sei]; show _ ≤ (25 : Int); omega)) ?_
    rintro ⟨N2, v⟩ ⟨vv, R2, F2⟩
    dsimp only at vv R2 F2 ⊢
    rw [numV_sei] at vv
    have iv : TI v (q - q0) := vv
    refine ok_ltI (a := q0 + (q - q0)) (av_add i15 iv (by omega) (by omega)) (fun x18 i18 => ?_)
    refine ok_ltI (a := q0 + (q - q0) + 52) (av_add i18 (show TI 52 52 from rfl) (by omega) (by omega)) (fun x19 i19 => ?_)
    refine ok_ltI (a := (q0 + (q - q0) + 52) % 52) (av_mod i19 (show TI 52 52 from rfl) (by omega) (by omega)) (fun x20 i20 => ?_)
    rw [md52 b0 b1] at i20
    refine ok_ltt (fun M21 e21 => ok_some ?_)
    refine ⟨ra_by R2 (by rw [e21]; rfl) (fun z k w => by rw [e21]; exact uI_n _ _ (by omega)), by rw [e21]; exact F2.1, by rw [e21, uI_s]; exact i20, ?_⟩
    intro z k a1 a2 a3 a4
    rw [e21, uI_n _ _ a4]
    exact F2.2 z k a2 a3 (fun w => a1 w.1)
  rintro y8 ⟨R8, r8, v8, f8⟩
  refine hdr (b := 63) r8 rfl (by decide) rfl ?_
  refine ok_ltI (a := 8 * (mb : Int) + 2) (av_add i1 tn_2 (by omega) (by omega)) (fun x10 i10 => ?_)
  refine ok_ltI (a := q) v8 (fun x11 i11 => ?_)
  refine hdr (b := 67) r8 rfl (by decide) rfl ?_
  refine ok_chk (by rw [hl7]; exact nx i10 (by omega) (by show _ < ((256 : Nat) : Int); omega)) ?_
  rw [show x10.toNatClampNeg = 8 * mb + 2 by rw [ti_n i10]; omega]
  refine ok_ltt (fun M13 e13 => ok_some ?_)
  refine ⟨ra_by R8 (by rw [e13]; rfl) (fun z k w => by rw [e13]; exact uI_n _ _ (by omega)), by rw [e13]; exact r8, by rw [e13, uI_s]; exact i11, by rw [e13, uI_n _ _ (by omega)]; exact v8, ?_⟩
  intro z k a1 a2 a3 a4 a5
  rw [e13, uI_n _ _ a4]
  exact f8 z k a1 a2 a3 a5
/-- pattern p, colours' pattern c by number k of the table; the step only where something is coded -/
theorem r_pat0 {H : GG} {N : DD} {d : Nat} {f : Nat → Nat} {T mb k0 pt cl : Nat} {D : List Tok} {q0 q : Int} {ty : Int32} (hK : GK H N) (hd : d ≠ 67 ∧ d ≠ 12) {p0 : Int32} (i0 : TI p0 mb) (hmb : mb ≤ 3) (hty : N.1 67 (8 * mb) = ty) (ht : ty = 0 ∨ ty = 3) (hk0 : k0 < 48) (hpt : pt ≤ 15) (hcl : cl ≤ 2) (htab : ((sT 9).getD ((if ty = 0 then 0 else 48) + k0) 0).toInt = ((pt + 16 * cl : Nat) : Int)) (hq0 : (N.1 12 20).toInt = q0) (b0 : 0 ≤ q0 ∧ q0 ≤ 51) (b1 : 0 ≤ q ∧ q ≤ 51) (bd : -26 ≤ q - q0 ∧ q - q0 ≤ 25) (hq : pt + cl = 0 → q = q0) (hR : RAt H N d f T (ueT 9 k0 ++ ((if pt + cl = 0 then [] else ueT 10 (sei (q - q0))) ++ D))) : OK (FX1_readPattern H N 12 p0) (fun y => RAt H y d f T D ∧ y.2 = N.2 ∧ (y.1 67 (8 * mb + 2)).toInt = q ∧ (y.1 67 (8 * mb + 3)).toInt = pt ∧ (y.1 67 (8 * mb + 4)).toInt = cl ∧ (y.1 12 20).toInt = q ∧ (∀ z k, z ≠ 13 → z ≠ 14 → z ≠ 15 → ¬ (z = 67 ∧ (k = 8 * mb + 2 ∨ k = 8 * mb + 3 ∨ k = 8 * mb + 4)) → ¬ (z = 12 ∧ k = 20) → y.1 z k = N.1 z k)) := by
  have hdr : ∀ {N3 : DD} {α : Type} {κ a g b : Nat} {k : Nat → Option α} {Q : α → Prop}, N3.2 = N.2 → fT a g = b → (0 < b ∧ b < 222) → kdL.getD b 0 = κ → OK (k b) Q → OK (dr H κ (N3.2 a g) k) Q := by
    intro N3 α κ a g b k Q e hf hb hkd hh
    rw [e]
    exact ok_drM hK hf hb hkd hh
  have hl7 : H.2.2 67 = 256 := gk_len hK (by decide) rfl
  have ht1 : ¬ ty = 1 := by rcases ht with z | z <;> rw [z] <;> decide
  have ht2 : ¬ ty = 2 := by rcases ht with z | z <;> rw [z] <;> decide
  unfold FX1_readPattern
  refine ok_ltI (a := 8 * (mb : Int)) (av_mul tn_8 i0 (by omega) (by omega)) (fun x1 i1 => ?_)
  refine hdr (N3 := N) (b := 63) rfl rfl (by decide) rfl ?_
  refine ok_ltI (a := 8 * (mb : Int) + 0) (av_add i1 tn_0 (by omega) (by omega)) (fun x3 i3 => ?_)
  refine hdr (N3 := N) (b := 67) rfl rfl (by decide) rfl ?_
  refine ok_chk (by rw [hl7]; exact nx i3 (by omega) (by show _ < ((256 : Nat) : Int); omega)) ?_
  rw [show x3.toNatClampNeg = 8 * mb by rw [ti_n i3]; omega]
  refine ok_ltt (fun x5 e5 => ?_)
  rw [hty] at e5
  subst e5
  rw [if_neg ht2]
  refine ok_bnd (Q := fun y => RAt H y d f T ((if pt + cl = 0 then [] else ueT 10 (sei (q - q0))) ++ D) ∧ y.2 = N.2 ∧ (y.1 67 (8 * mb + 3)).toInt = pt ∧ (y.1 67 (8 * mb + 4)).toInt = cl ∧ (∀ z k, z ≠ 13 → z ≠ 14 → z ≠ 15 → ¬ (z = 67 ∧ (k = 8 * mb + 3 ∨ k = 8 * mb + 4)) → y.1 z k = N.1 z k)) (ok_if (fun c => absurd c ht1) (fun _ => ?_)) ?_
  · refine hdr (N3 := N) (b := 13) rfl rfl (by decide) rfl ?_
    refine ok_bnd (ra_number (e := 9) (kind := 0) hR rfl (by decide) (by omega) rfl (fun z => absurd z (by decide)) (by show (0 : Int) ≤ (k0 : Int); omega) (by show (k0 : Int) ≤ 47; omega)) ?_
    rintro ⟨N2, v⟩ ⟨vv, R2, F2⟩
    dsimp only at vv R2 F2 ⊢
    have iv : TI v (k0 : Int) := vv
    refine ok_bnd (Q := fun y => TI y (((if x5 = 0 then 0 else 48) + k0 : Nat) : Int)) (ok_if (fun c => ok_some ?_) (fun c => ?_)) ?_
    · rw [if_pos c, Nat.zero_add]; exact iv
    · refine ok_ltI (a := 48 + (k0 : Int)) (av_add (show TI 48 48 from rfl) iv (by omega) (by omega)) (fun x54 i54 => ok_some ?_)
      rw [if_neg c]
      exact i54
    intro y41 i41
    have hlt : (if x5 = 0 then 0 else 48) + k0 < 96 := by split <;> omega
    refine ok_chk (nx i41 (by omega) (by omega)) ?_
    rw [show y41.toNatClampNeg = (if x5 = 0 then 0 else 48) + k0 by rw [ti_n i41]; omega]
    refine ok_ltI (a := ((pt + 16 * cl : Nat) : Int)) htab (fun x42 i42 => ?_)
    have r2 : N2.2 = N.2 := F2.1
    refine hdr (b := 63) r2 rfl (by decide) rfl ?_
    refine ok_ltI (a := 8 * (mb : Int) + 3) (av_add i1 tn_3 (by omega) (by omega)) (fun x44 i44 => ?_)
    refine ok_ltI (a := ((pt + 16 * cl : Nat) : Int) % ((2 ^ 4 : Nat) : Int)) (av_and 4 i42 (by decide) (by decide)) (fun x45 i45 => ?_)
    refine hdr (b := 67) r2 rfl (by decide) rfl ?_
    refine ok_chk (by rw [hl7]; exact nx i44 (by omega) (by show _ < ((256 : Nat) : Int); omega)) ?_
    rw [show x44.toNatClampNeg = 8 * mb + 3 by rw [ti_n i44]; omega]
    refine ok_ltt (fun M47 e47 => ?_)
    have r47 : M47.2 = N.2 := by rw [e47]; exact r2
    refine hdr (b := 63) r47 rfl (by decide) rfl ?_
    refine ok_ltI (a := 8 * (mb : Int) + 4) (av_add i1 tn_4 (by omega) (by omega)) (fun x49 i49 => ?_)
    refine ok_ltI (a := ((pt + 16 * cl : Nat) : Int) / 16) (av_div i42 tn_16 (by omega) (by omega)) (fun x50 i50 => ?_)
    refine hdr (b := 67) r47 rfl (by decide) rfl ?_
    refine ok_chk (by rw [hl7]; exact nx i49 (by omega) (by show _ < ((256 : Nat) : Int); omega)) ?_
    rw [show x49.toNatClampNeg = 8 * mb + 4 by rw [ti_n i49]; omega]
    refine ok_ltt (fun M52 e52 => ok_some ?_)
    refine ⟨ra_by R2 (by rw [e52, e47]; rfl) (fun z k w => by rw [e52, uI_n _ _ (by omega), e47, uI_n _ _ (by omega)]), by rw [e52]; exact r47, ?_, ?_, ?_⟩
    · rw [e52, uI_n _ _ (by omega), e47, uI_s]
      have h2 : x45.toInt = ((pt + 16 * cl : Nat) : Int) % ((2 ^ 4 : Nat) : Int) := i45
      have h3 : ((2 ^ 4 : Nat) : Int) = 16 := rfl
      rw [h3] at h2
      omega
    · rw [e52, uI_s]
      have h2 : x50.toInt = ((pt + 16 * cl : Nat) : Int) / 16 := i50
      omega
    · intro z k a1 a2 a3 a4
      rw [e52, uI_n _ _ (by omega), e47, uI_n _ _ (by omega)]
      exact F2.2 z k a2 a3 (fun w => a1 w.1)
  rintro y7 ⟨R7, r7, v3, v4, f7⟩
  have hq7 : (y7.1 12 20).toInt = q0 := by rw [f7 12 20 (by decide) (by decide) (by decide) (by omega)]; exact hq0
  refine ok_bnd (Q := fun y => RAt H y d f T D ∧ y.2 = N.2 ∧ (y.1 12 20).toInt = q ∧ (∀ z k, z ≠ 13 → z ≠ 14 → z ≠ 15 → ¬ (z = 12 ∧ k = 20) → y.1 z k = y7.1 z k)) (ok_if (fun c => absurd c ht1) (fun _ => ?_)) ?_
  · refine hdr (b := 63) r7 rfl (by decide) rfl ?_
    refine ok_ltI (a := 8 * (mb : Int) + 3) (av_add i1 tn_3 (by omega) (by omega)) (fun x23 i23 => ?_)
    refine hdr (b := 67) r7 rfl (by decide) rfl ?_
    refine ok_chk (by rw [hl7]; exact nx i23 (by omega) (by show _ < ((256 : Nat) : Int); omega)) ?_
    rw [show x23.toNatClampNeg = 8 * mb + 3 by rw [ti_n i23]; omega]
    refine ok_ltI (a := (pt : Int)) v3 (fun x25 i25 => ?_)
    refine ok_ltI (a := 8 * (mb : Int) + 4) (av_add i1 tn_4 (by omega) (by omega)) (fun x26 i26 => ?_)
    refine ok_chk (by rw [hl7]; exact nx i26 (by omega) (by show _ < ((256 : Nat) : Int); omega)) ?_
    rw [show x26.toNatClampNeg = 8 * mb + 4 by rw [ti_n i26]; omega]
    refine ok_ltI (a := (cl : Int)) v4 (fun x27 i27 => ?_)
    refine ok_ltI (a := (pt : Int) + cl) (av_add i25 i27 (by omega) (by omega)) (fun x28 i28 => ?_)
    refine ok_bnd (Q := fun y => RAt H y d f T D ∧ y.2 = N.2 ∧ (y.1 12 20).toInt = q ∧ (∀ z k, z ≠ 13 → z ≠ 14 → z ≠ 15 → ¬ (z = 12 ∧ k = 20) → y.1 z k = y7.1 z k)) (ok_if (fun c => ok_some ?_) (fun c => ?_)) (fun y hy => ok_some hy)
    · have hz : pt + cl = 0 := by have := tl_le i28 tn_0 c; omega
      rw [if_pos hz] at R7
      exact ⟨R7, r7, by rw [hq hz]; exact hq7, fun _ _ _ _ _ _ => rfl⟩
    · have hz : ¬ pt + cl = 0 := by have := tl_nle i28 tn_0 c; omega
      rw [if_neg hz] at R7
      refine ok_ltI (a := q0) hq7 (fun x31 i31 => ?_)
      refine hdr (b := 13) r7 rfl (by decide) rfl ?_
      refine ok_bnd (ra_number (e := 10) (kind := 1) R7 rfl (by decide) (sei_lt (by omega) (by omega)) rfl (fun z => absurd z (by decide)) (by rw [numV_sei]; show (-26 : Int) ≤ _; omega) (by rw [numV_sei]; show _ ≤ (25 : Int); omega)) ?_
      rintro ⟨N2, v⟩ ⟨vv, R2, F2⟩
      dsimp only at vv R2 F2 ⊢
      rw [numV_sei] at vv
      have iv : TI v (q - q0) := vv
      refine ok_ltI (a := q0 + (q - q0)) (av_add i31 iv (by omega) (by omega)) (fun x34 i34 => ?_)
      refine ok_ltI (a := q0 + (q - q0) + 52) (av_add i34 (show TI 52 52 from rfl) (by omega) (by omega)) (fun x35 i35 => ?_)
      refine ok_ltI (a := (q0 + (q - q0) + 52) % 52) (av_mod i35 (show TI 52 52 from rfl) (by omega) (by omega)) (fun x36 i36 => ?_)
      rw [md52 b0 b1] at i36
      refine ok_ltt (fun M37 e37 => ok_some ?_)
      refine ⟨ra_by R2 (by rw [e37]; rfl) (fun z k w => by rw [e37]; exact uI_n _ _ (by omega)), by rw [e37]; exact F2.1.trans r7, by rw [e37, uI_s]; exact i36, ?_⟩
      intro z k a1 a2 a3 a4
      rw [e37, uI_n _ _ a4]
      exact F2.2 z k a2 a3 (fun w => a1 w.1)
  rintro y8 ⟨R8, r8, v8, f8⟩
  refine hdr (b := 63) r8 rfl (by decide) rfl ?_
  refine ok_ltI (a := 8 * (mb : Int) + 2) (av_add i1 tn_2 (by omega) (by omega)) (fun x10 i10 => ?_)
  refine ok_ltI (a := q) v8 (fun x11 i11 => ?_)
  refine hdr (b := 67) r8 rfl (by decide) rfl ?_
  refine ok_chk (by rw [hl7]; exact nx i10 (by omega) (by show _ < ((256 : Nat) : Int); omega)) ?_
  rw [show x10.toNatClampNeg = 8 * mb + 2 by rw [ti_n i10]; omega]
  refine ok_ltt (fun M13 e13 => ok_some ?_)
  refine ⟨ra_by R8 (by rw [e13]; rfl) (fun z k w => by rw [e13]; exact uI_n _ _ (by omega)), by rw [e13]; exact r8, by rw [e13, uI_s]; exact i11, ?_, ?_, by rw [e13, uI_n _ _ (by omega)]; exact v8, ?_⟩
  · rw [e13, uI_n _ _ (by omega), f8 67 _ (by decide) (by decide) (by decide) (by omega)]; exact v3
  · rw [e13, uI_n _ _ (by omega), f8 67 _ (by decide) (by decide) (by decide) (by omega)]; exact v4
  · intro z k a1 a2 a3 a4 a5
    rw [e13, uI_n _ _ (by omega), f8 z k a1 a2 a3 a5]
    exact f7 z k a1 a2 a3 (by omega)
