/-! a BLOCK in sixteens, read whole -/
theorem fillB_ok {G : GG} {M : DD} {b n l h : Nat} {v lo hi : Int32} (hb : b < G.1) (hk : G.2.1 b = 13) (hl : G.2.2 b = n) (hn : n ≤ 900000) (hlo : lo.toInt = l) (hhi : hi.toInt = h) (h1 : l ≤ h) (h2 : h ≤ n) : OK (FJ7_fill_fda19 G M (some b) lo hi v) (fun y => y.2 = M.2 ∧ (∀ x k, ¬ (x = b ∧ l ≤ k ∧ k < h) → y.1 x k = M.1 x k) ∧ (∀ k, l ≤ k → k < h → y.1 b k = v)) := by
  have e0 : (0 : Int32).toInt = 0 := rfl
  have e1 : (1 : Int32).toInt = 1 := rfl
  unfold FJ7_fill_fda19
  refine ok_dr (b := b) rfl hb hk (ok_lt ?_)
  have hx2 : (Int32.ofNat (G.2.2 b)).toInt = n := by rw [hl]; exact pz_ofn (by omega)
  generalize Int32.ofNat (G.2.2 b) = x2 at hx2
  refine ok_bnd (Q := fun y => y = M) ?_ ?_
  · unfold FJ7_rangeCheck_23922
    refine ok_bnd (Q := fun _ => True) (ok_if (fun _ => ok_some trivial) (fun c => absurd (pz_le.mpr (by omega)) c)) (fun _ _ => ?_)
    refine ok_bnd (Q := fun _ => True) (ok_if (fun _ => ok_some trivial) (fun c => absurd (pz_le.mpr (by omega)) c)) (fun _ _ => ?_)
    refine ok_bnd (Q := fun _ => True) (ok_if (fun _ => ok_some trivial) (fun c => absurd (pz_le.mpr (by omega)) c)) (fun _ _ => ?_)
    exact ok_some rfl
  rintro y4 rfl
  refine ok_bnd (ok_itr (fun s : Int32 × DD => ∃ j : Nat, s.1.toInt = j ∧ l ≤ j ∧ j ≤ h ∧ s.2.2 = y4.2 ∧ (∀ x k, ¬ (x = b ∧ l ≤ k ∧ k < h) → s.2.1 x k = y4.1 x k) ∧ (∀ k, l ≤ k → k < j → s.2.1 b k = v)) (fun s => ((h : Int) - s.1.toInt).toNat) (P := fun s : Int32 × DD => s.2.2 = y4.2 ∧ (∀ x k, ¬ (x = b ∧ l ≤ k ∧ k < h) → s.2.1 x k = y4.1 x k) ∧ (∀ k, l ≤ k → k < h → s.2.1 b k = v)) ?_ 1000000 (lo, y4) ⟨l, hlo, Nat.le_refl _, h1, rfl, fun _ _ _ => rfl, fun k a c => by omega⟩ (by show ((h : Int) - lo.toInt).toNat < 1000000; omega)) (fun y hy => ok_some hy)
  rintro ⟨k, N⟩ ⟨j, j1, j2, j3, j4, j5, j6⟩
  dsimp only at j1 j4 j5 j6 ⊢
  refine ok_if (fun c => ok_some ?_) (fun c => ?_)
  · have := pz_le.mp c
    have ej : j = h := by omega
    subst ej
    exact ⟨j4, j5, j6⟩
  · have c3 : ¬ hi.toInt ≤ k.toInt := fun q => c (pz_le.mpr q)
    have hkn : k.toNatClampNeg = j := by
      have := pz_nat (x := k) (by omega)
      omega
    refine ok_chk (pz_ix (by omega) (by omega)) (ok_lt (ok_lt (ok_some ?_)))
    have hk1 : (k + 1).toInt = j + 1 := by rw [ti_add (by omega) (by omega), j1, e1]
    dsimp only
    rw [hkn]
    refine ⟨⟨j + 1, by rw [hk1]; omega, by omega, by omega, j4, fun x i hx => ?_, fun i hi1 hi2 => ?_⟩, by omega⟩
    · rw [uI_n _ _ (fun q => hx ⟨q.1, by omega, by omega⟩)]; exact j5 x i hx
    · by_cases q : i = j
      · rw [q, uI_s]
      · rw [uI_n _ _ (fun z => q z.2)]; exact j6 i hi1 (by omega)
theorem k_mayBeSixteen {G H : GG} {M N : DD} {p0 p1 : Int32} : LKS (FX9_mayBeSixteen G M p0 p1) (FX9_mayBeSixteen H N p0 p1) (fun y z => M = y.1 ∧ N = z.1 ∧ y.2 = z.2) := by
  unfold FX9_mayBeSixteen
  refine rl_bnd (rl_refl _) ?_
  rintro y z rfl
  refine rl_ltt ?_
  refine rl_bnd (rl_refl _) ?_
  rintro y z rfl
  exact rl_chk (fun q => q) (fun _ => rl_some ⟨rfl, rfl, rfl⟩)
/-- number p1 of a BLOCK in sixteens: mode x, colours' pattern cc, pattern all 15 or 0 -/
theorem r_sixteen {G H : GG} {M N : DD} {d : Nat} {f : Nat → Nat} {T mb v x cc b12 : Nat} {D : List Tok} (hK : GK H N) (hd : d ≠ 67 ∧ d ≠ 68) {p0 p1 sd vc vx : Int32} (i0 : TI p0 mb) (hmb : mb ≤ 3) (hp : p1.toInt = ((x + 4 * cc + 12 * b12 : Nat) : Int)) (hx : x ≤ 3) (hcc : cc ≤ 2) (hb12 : b12 ≤ 1) (hvx : vx.toInt = x) (hvc : vc.toInt = v) (hv : v ≤ 3) (hs : OK (FX9_sides H N 63 p0) (fun y => y.1 = N ∧ y.2 = sd)) (hval6 : OK (FX9_mayBeSixteen G M vx sd) (fun z => ¬ z.2 = 0)) (hval : OK (FX9_mayBeColours G M vc sd) (fun z => ¬ z.2 = 0)) (hR : RAt H N d f T (ueT 4 v ++ D)) : OK (FX1_readSixteen H N 12 p0 p1) (fun y => RAt H y d f T D ∧ y.2 = N.2 ∧ y.1 67 (8 * mb) = 1 ∧ (y.1 67 (8 * mb + 3)).toInt = ((15 * b12 : Nat) : Int) ∧ (y.1 67 (8 * mb + 4)).toInt = (cc : Int) ∧ y.1 67 (8 * mb + 5) = vc ∧ (∀ i, i < 16 → y.1 68 (16 * mb + i) = vx) ∧ (∀ z k, z ≠ 13 → z ≠ 14 → z ≠ 15 → ¬ (z = 67 ∧ (k = 8 * mb ∨ k = 8 * mb + 3 ∨ k = 8 * mb + 4 ∨ k = 8 * mb + 5)) → ¬ (z = 68 ∧ k / 16 = mb) → y.1 z k = N.1 z k)) := by
  have hdr : ∀ {N3 : DD} {α : Type} {κ a g b : Nat} {k : Nat → Option α} {Q : α → Prop}, N3.2 = N.2 → fT a g = b → (0 < b ∧ b < 222) → kdL.getD b 0 = κ → OK (k b) Q → OK (dr H κ (N3.2 a g) k) Q := by
    intro N3 α κ a g b k Q e hf hb hkd hh
    rw [e]
    exact ok_drM hK hf hb hkd hh
  have hl7 : H.2.2 67 = 256 := gk_len hK (by decide) rfl
  have ip : TI p1 ((x + 4 * cc + 12 * b12 : Nat) : Int) := hp
  unfold FX1_readSixteen
  refine hdr (N3 := N) (b := 63) rfl rfl (by decide) rfl ?_
  refine ok_bnd hs ?_
  rintro ⟨y3, s3⟩ ⟨ey, es⟩
  dsimp only at ey es ⊢
  subst ey; subst es
  refine hdr (N3 := y3) (b := 63) rfl rfl (by decide) rfl ?_
  refine ok_ltI (a := 8 * (mb : Int)) (av_mul tn_8 i0 (by omega) (by omega)) (fun x5 i5 => ?_)
  refine ok_ltI (a := 8 * (mb : Int) + 0) (av_add i5 tn_0 (by omega) (by omega)) (fun x6 i6 => ?_)
  refine hdr (N3 := y3) (b := 67) rfl rfl (by decide) rfl ?_
  refine ok_chk (by rw [hl7]; exact nx i6 (by omega) (by show _ < ((256 : Nat) : Int); omega)) ?_
  have en6 : x6.toNatClampNeg = 8 * mb := by rw [ti_n i6]; omega
  rw [en6]
  refine ok_ltt (fun M8 e8 => ?_)
  have r8 : M8.2 = y3.2 := by rw [e8]; rfl
  refine hdr (b := 63) r8 rfl (by decide) rfl ?_
  refine ok_ltI (a := 8 * (mb : Int)) (av_mul tn_8 i0 (by omega) (by omega)) (fun x10 i10 => ?_)
  refine ok_ltI (a := 8 * (mb : Int) + 3) (av_add i10 tn_3 (by omega) (by omega)) (fun x11 i11 => ?_)
  refine ok_bnd (Q := fun y => y.toInt = ((15 * b12 : Nat) : Int)) (ok_if (fun q => ?_) (fun q => ?_)) ?_
  · have q2 := tl_le ip tn_11 q
    refine ok_some ?_
    show (0 : Int) = _
    omega
  · have q2 := tl_nle ip tn_11 q
    refine ok_some ?_
    show (15 : Int) = _
    omega
  intro y12 h12
  refine hdr (b := 67) r8 rfl (by decide) rfl ?_
  refine ok_chk (by rw [hl7]; exact nx i11 (by omega) (by show _ < ((256 : Nat) : Int); omega)) ?_
  have en11 : x11.toNatClampNeg = 8 * mb + 3 := by rw [ti_n i11]; omega
  rw [en11]
  refine ok_ltt (fun M14 e14 => ?_)
  have r14 : M14.2 = y3.2 := by rw [e14]; exact r8
  refine hdr (b := 63) r14 rfl (by decide) rfl ?_
  refine ok_ltI (a := 8 * (mb : Int)) (av_mul tn_8 i0 (by omega) (by omega)) (fun x16 i16 => ?_)
  refine ok_ltI (a := 8 * (mb : Int) + 4) (av_add i16 tn_4 (by omega) (by omega)) (fun x17 i17 => ?_)
  refine ok_ltI (a := ((x + 4 * cc + 12 * b12 : Nat) : Int) / 4) (av_div ip tn_4 (by omega) (by omega)) (fun x18 i18 => ?_)
  refine ok_ltI (a := ((x + 4 * cc + 12 * b12 : Nat) : Int) / 4 % 3) (av_mod i18 tn_3 (by omega) (by omega)) (fun x19 i19 => ?_)
  have h19 : x19.toInt = (cc : Int) := by
    have : x19.toInt = ((x + 4 * cc + 12 * b12 : Nat) : Int) / 4 % 3 := i19
    omega
  refine hdr (b := 67) r14 rfl (by decide) rfl ?_
  refine ok_chk (by rw [hl7]; exact nx i17 (by omega) (by show _ < ((256 : Nat) : Int); omega)) ?_
  have en17 : x17.toNatClampNeg = 8 * mb + 4 := by rw [ti_n i17]; omega
  rw [en17]
  refine ok_ltt (fun M21 e21 => ?_)
  have r21 : M21.2 = y3.2 := by rw [e21]; exact r14
  refine ok_ltI (a := ((x + 4 * cc + 12 * b12 : Nat) : Int) % 4) (av_mod ip tn_4 (by omega) (by omega)) (fun x22 i22 => ?_)
  have e22 : x22 = vx := by
    apply Int32.toInt_inj.1
    have : x22.toInt = ((x + 4 * cc + 12 * b12 : Nat) : Int) % 4 := i22
    omega
  subst e22
  obtain ⟨zs, hzs, hz0⟩ := hval6
  obtain ⟨zs2, hzs2, q4, q5, q6⟩ := k_mayBeSixteen (H := H) (N := M21) zs hzs
  refine ok_bnd (Q := fun y => y = zs2) ⟨zs2, hzs2, rfl⟩ ?_
  rintro y23 rfl
  rw [if_neg (by rw [← q6]; exact hz0)]
  refine ok_bnd (Q := fun y => y = M21) (ok_some q5.symm) ?_
  rintro y24 rfl
  refine hdr (b := 63) r21 rfl (by decide) rfl ?_
  refine ok_ltI (a := 16 * (mb : Int)) (av_mul tn_16 i0 (by omega) (by omega)) (fun x26 i26 => ?_)
  refine ok_ltI (a := 16 * (mb : Int)) (av_mul tn_16 i0 (by omega) (by omega)) (fun x27 i27 => ?_)
  refine ok_ltI (a := 16 * (mb : Int) + 16) (av_add i27 tn_16 (by omega) (by omega)) (fun x28 i28 => ?_)
  refine ok_ltI (a := ((x + 4 * cc + 12 * b12 : Nat) : Int) % 4) (av_mod ip tn_4 (by omega) (by omega)) (fun x29 i29 => ?_)
  have e29 : x29 = x22 := ti_inj i22 i29
  subst e29
  have er : y24.2 63 7 = some 68 := by
    rw [r21]
    exact (hK.2.2 63 7 (by decide)).trans rfl
  rw [er]
  refine ok_bnd (fillB_ok (b := 68) (n := 512) (l := 16 * mb) (h := 16 * mb + 16) (by have := hK.1; omega) (gk_k hK (by decide) rfl) (gk_len hK (by decide) rfl) (by decide) (by have : x26.toInt = 16 * (mb : Int) := i26; omega) (by have : x28.toInt = 16 * (mb : Int) + 16 := i28; omega) (by omega) (by omega)) ?_
  rintro y30 ⟨f1, f2, f3⟩
  have hR30 : RAt H y30 d f T (ueT 4 v ++ D) := by
    refine ra_by hR (f1.trans r21) ?_
    intro z k q
    rw [f2 z k (by omega), e21, uI_n _ _ (by omega), e14, uI_n _ _ (by omega), e8, uI_n _ _ (by omega)]
  refine ok_bnd (r_colours (G := G) (M := M) hK (f1.trans r21) hd.1 i0 hmb hvc hv hval hR30) ?_
  rintro y31 ⟨N2, F2, ez, Rz⟩
  have g2 : ∀ z k, z ≠ 13 → z ≠ 14 → z ≠ 15 → N2.1 z k = y30.1 z k := fun z k a b c => F2.2 z k b c (fun q => a q.1)
  refine ok_some ⟨Rz, by rw [ez]; exact F2.1.trans (f1.trans r21), ?_, ?_, ?_, ?_, ?_, ?_⟩
  · rw [ez, uI_n _ _ (by omega), g2 67 _ (by decide) (by decide) (by decide), f2 _ _ (by omega), e21, uI_n _ _ (by omega), e14, uI_n _ _ (by omega), e8, uI_s]
  · rw [ez, uI_n _ _ (by omega), g2 67 _ (by decide) (by decide) (by decide), f2 _ _ (by omega), e21, uI_n _ _ (by omega), e14, uI_s]
    exact h12
  · rw [ez, uI_n _ _ (by omega), g2 67 _ (by decide) (by decide) (by decide), f2 _ _ (by omega), e21, uI_s]
    exact h19
  · rw [ez, uI_s]
  · intro i hi
    rw [ez, uI_n _ _ (by omega), g2 68 _ (by decide) (by decide) (by decide)]
    exact f3 _ (by omega) (by omega)
  · intro z k a1 a2 a3 a4 a5
    rw [ez, uI_n _ _ (by omega), g2 z k a1 a2 a3, f2 z k (by omega), e21, uI_n _ _ (by omega), e14, uI_n _ _ (by omega), e8, uI_n _ _ (by omega)]
