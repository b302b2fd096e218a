/-! the colours' mode, read; a BLOCK in fours, read whole -/
theorem k_mayBeColours {G H : GG} {M N : DD} {p0 p1 : Int32} : LKS (FX9_mayBeColours G M p0 p1) (FX9_mayBeColours H N p0 p1) (fun y z => M = y.1 ∧ N = z.1 ∧ y.2 = z.2) := by
  unfold FX9_mayBeColours
  refine rl_bnd (rl_refl _) ?_
  rintro y z rfl
  refine rl_ltt ?_
  refine rl_bnd (rl_refl _) ?_
  rintro y z rfl
  exact rl_chk (fun q => q) (fun _ => rl_some ⟨rfl, rfl, rfl⟩)
theorem r_colours {G H : GG} {M N N1 : DD} {d : Nat} {f : Nat → Nat} {T mb v : Nat} {D : List Tok} (hK : GK H N) (h2 : N1.2 = N.2) (hd : d ≠ 67) {p0 sd vc : Int32} (i0 : TI p0 mb) (hmb : mb ≤ 3) (hvc : vc.toInt = v) (hv : v ≤ 3) (hval : OK (FX9_mayBeColours G M vc sd) (fun z => ¬ z.2 = 0)) (hR : RAt H N1 d f T (ueT 4 v ++ D)) : OK (FX1_readColours H N1 12 p0 sd) (fun y => ∃ N2, RY N1 13 14 15 N2 ∧ y = uI N2 67 (8 * mb + 5) vc ∧ RAt H y d f T D) := by
  have hdr : ∀ {N3 : DD} {α : Type} {κ a g b : Nat} {k : Nat → Option α} {Q : α → Prop}, N3.2 = N.2 → fT a g = b → (0 < b ∧ b < 222) → kdL.getD b 0 = κ → OK (k b) Q → OK (dr H κ (N3.2 a g) k) Q := by
    intro N3 α κ a g b k Q e hf hb hkd hh
    rw [e]
    exact ok_drM hK hf hb hkd hh
  unfold FX1_readColours
  refine hdr (b := 13) h2 rfl (by decide) rfl ?_
  refine ok_bnd (ra_number (e := 4) (kind := 0) hR rfl (by decide) (by omega) rfl (fun q => absurd q (by decide)) (by show (0 : Int) ≤ (v : Int); omega) (by show (v : Int) ≤ 3; omega)) ?_
  rintro ⟨N2, x⟩ ⟨vx, R2, F2⟩
  dsimp only at vx R2 F2 ⊢
  have ex : x = vc := Int32.toInt_inj.1 (vx.trans hvc.symm)
  subst ex
  obtain ⟨zs, hzs, hz0⟩ := hval
  obtain ⟨zs2, hzs2, q4, q5, q6⟩ := k_mayBeColours (H := H) (N := N2) zs hzs
  refine ok_bnd (Q := fun y => y = zs2) ⟨zs2, hzs2, rfl⟩ ?_
  rintro y4 rfl
  rw [if_neg (by rw [← q6]; exact hz0)]
  refine ok_bnd (Q := fun y => y = N2) (ok_some q5.symm) ?_
  rintro y5 rfl
  have h22 : y5.2 = N.2 := F2.1.trans h2
  refine hdr (b := 63) h22 rfl (by decide) rfl ?_
  refine ok_ltI (a := 8 * (mb : Int)) (av_mul tn_8 i0 (by omega) (by omega)) (fun x7 i7 => ?_)
  refine ok_ltI (a := 8 * (mb : Int) + 5) (av_add i7 tn_5 (by omega) (by omega)) (fun x8 i8 => ?_)
  refine hdr (b := 67) h22 rfl (by decide) rfl ?_
  refine ok_chk (by rw [gk_len hK (b := 67) (by decide) rfl]; exact nx i8 (by omega) (by show _ < ((256 : Nat) : Int); omega)) ?_
  have en : x8.toNatClampNeg = 8 * mb + 5 := by rw [ti_n i8]; omega
  rw [en]
  refine ok_ltt (fun M10 e10 => ok_some ⟨y5, F2, e10, ?_⟩)
  refine ra_by R2 (by rw [e10]; rfl) ?_
  intro x k q
  rw [e10]
  refine uI_n _ _ ?_
  have hd2 := R2
  omega
theorem r_four_all {mu : Nat → Nat} {G H : GG} {M N : DD} {p : Nat} {w : Int} {L Ls : List Nat} {d : Nat} {f : Nat → Nat} {T mb v : Nat} {D : List Tok} (t : BX mu G H M N p L) (tt : TT G M p w Ls) (Dg : DG G L) (hK : GK H N) (hm : MUD mu G d) (hI : FG mu M N 129 (CI mb)) (hI0 : M.1 129 (8 * mb) = 0) (hI5 : (M.1 129 (8 * mb + 5)).toInt = v) (hv5 : v ≤ 3) (hM : FG mu M N 130 (CMo mb 0)) {p0 : Int32} (i0 : TI p0 mb) (hmb : (mb : Int) < 2 * w) {sd : Int32} (hs : OK (FX9_sides H N 63 p0) (fun y => y.1 = N ∧ y.2 = sd)) (hv : ∀ j : Nat, j < 16 → OK (FX9_sidesOf G M (Int32.ofInt j) sd) (fun y => OK (FX9_mayBeFour G y.1 (M.1 130 (16 * mb + j)) y.2) (fun z => ¬ z.2 = 0))) (hc : OK (FX9_mayBeColours G M (M.1 129 (8 * mb + 5)) sd) (fun z => ¬ z.2 = 0)) (hR : RAt H N d f T (moS G M p0 mb 16 0 ++ (ueT 4 v ++ D))) : OK (FX1_readFour H N 12 p0) (fun y => RAt H y d f T D ∧ y.2 = N.2 ∧ y.1 67 (8 * mb) = M.1 129 (8 * mb) ∧ y.1 67 (8 * mb + 5) = M.1 129 (8 * mb + 5) ∧ (∀ i, i < 16 → y.1 68 (16 * mb + i) = M.1 130 (16 * mb + i)) ∧ (∀ x k, x ≠ 13 → x ≠ 14 → x ≠ 15 → ¬ (x = 67 ∧ (k = 8 * mb ∨ k = 8 * mb + 5)) → ¬ (x = 68 ∧ k / 16 = mb) → y.1 x k = N.1 x k)) := by
  have hw : w = 1 ∨ w = 2 := tt.2.2.1
  refine r_four t tt Dg hK hm hI hI0 hM i0 hmb hs hv hR ?_
  intro y hy hRy
  refine (r_colours (G := G) (M := M) hK hy.1 hm.2.2.2.2.1 i0 (by omega) hI5 hv5 hc hRy).mono ?_
  rintro z ⟨N2, F2, ez, Rz⟩
  have f2 : ∀ x k, x ≠ 13 → x ≠ 14 → x ≠ 15 → N2.1 x k = y.1 x k := fun x k a b c => F2.2 x k b c (fun q => a q.1)
  refine ⟨Rz, by rw [ez]; exact F2.1.trans hy.1, ?_, ?_, ?_, ?_⟩
  · rw [ez, uI_n _ _ (by omega), f2 67 _ (by decide) (by decide) (by decide), hy.2.2.1, hI0]
  · rw [ez, uI_s]
  · intro i hi
    rw [ez, uI_n _ _ (by omega), f2 68 _ (by decide) (by decide) (by decide)]
    exact hy.2.2.2 i hi
  · intro x k a1 a2 a3 a4 a5
    rw [ez, uI_n _ _ (fun q => a4 ⟨q.1, Or.inr q.2⟩), f2 x k a1 a2 a3]
    exact hy.2.1 x k a1 a2 a3 (fun q => a4 ⟨q.1, Or.inl q.2⟩) a5
