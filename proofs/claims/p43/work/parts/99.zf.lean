/-! modes of a BLOCK in fours, read: all but the colours' mode -/
def IRM (mu : Nat → Nat) (H : GG) (M N : DD) (d : Nat) (f : Nat → Nat) (T mb : Nat) (j : Nat) (N1 : DD) : Prop := N1.2 = N.2 ∧ (∀ x k, x ≠ 13 → x ≠ 14 → x ≠ 15 → ¬ (x = 67 ∧ k = 8 * mb) → ¬ (x = 68 ∧ k / 16 = mb) → N1.1 x k = N.1 x k) ∧ N1.1 67 (8 * mb) = 0 ∧ ∀ i, i < j → N1.1 68 (16 * mb + i) = M.1 130 (16 * mb + i)
/-- coder's cells and decoder's -/
def MUD (mu : Nat → Nat) (G : GG) (d : Nat) : Prop := mu 125 = 63 ∧ mu 129 = 67 ∧ mu 130 = 68 ∧ MS mu G d ∧ d ≠ 67 ∧ d ≠ 68 ∧ d ≠ 13 ∧ d ≠ 14 ∧ d ≠ 15
theorem irm_rsb {mu : Nat → Nat} {G H : GG} {M N N1 : DD} {d : Nat} {f : Nat → Nat} {T mb j : Nat} (hU : MU mu G H) (hm : MUD mu G d) (h : IRM mu H M N d f T mb j N1) : RSB mu G N N1 := by
  intro c k hc hn
  obtain ⟨a, b, e, -⟩ := hm.2.2.2.1 c hc
  refine ⟨h.2.1 (mu c) k a b e ?_ ?_, by rw [h.1]⟩
  · rintro ⟨q, -⟩
    have : c = 129 := hU.1 c 129 (by rw [q, hm.2.1])
    omega
  · rintro ⟨q, -⟩
    have : c = 130 := hU.1 c 130 (by rw [q, hm.2.2.1])
    omega
theorem irm_guess {mu : Nat → Nat} {G H : GG} {M N N1 : DD} {p : Nat} {w : Int} {L Ls : List Nat} {d : Nat} {f : Nat → Nat} {T mb j : Nat} (t : BX mu G H M N p L) (tt : TT G M p w Ls) (D : DG G L) (hm : MUD mu G d) (h : IRM mu H M N d f T mb j N1) (hI : FG mu M N 129 (CI mb)) (hI0 : M.1 129 (8 * mb) = 0) (hM : FG mu M N 130 (CMo mb 0)) {p0 i : Int32} (i0 : TI p0 mb) (hmb : (mb : Int) < 2 * w) (hi : TI i j) (hj : j < 16) : OK (FX9_guessMode H N1 63 p0 i) (fun z => z.1 = N1 ∧ z.2 = gq G M p0 j ∧ 0 ≤ z.2.toInt ∧ z.2.toInt ≤ 8) := by
  have ij : i = Int32.ofInt j := by
    apply Int32.toInt_inj.1
    rw [show i.toInt = (j : Int) from hi, Int32.toInt_ofInt]
    exact (bm_in (by omega) (by omega)).symm
  have g := rd_guessMode (p1 := i) (bx_rsb D (irm_rsb t.1 hm h) t) tt i0 hi (by omega) hmb (by omega) (by omega) ?_ ?_ ?_
  · rw [hm.1] at g
    refine g.mono ?_
    rintro z ⟨z1, z2, z3⟩
    exact ⟨z1, z2.trans (by rw [ij]; rfl), z3⟩
  · intro k hk
    show N1.1 (mu 129) k = M.1 129 k
    rw [hm.2.1, h.2.1 67 k (by decide) (by decide) (by decide) (fun q => by have := hk.1; omega) (fun q => by omega), ← hm.2.1]
    exact hI k hk
  · show N1.1 (mu 129) (8 * (mb : Int)).toNat = M.1 129 (8 * (mb : Int)).toNat
    rw [hm.2.1, show (8 * (mb : Int)).toNat = 8 * mb by omega, h.2.2.1, hI0]
  · intro k hk
    show N1.1 (mu 130) k = M.1 130 k
    rw [hm.2.2.1]
    rcases hk with q | ⟨q1, q2⟩
    · rw [h.2.1 68 k (by decide) (by decide) (by decide) (fun q => by omega) (fun q => by omega), ← hm.2.2.1]
      exact hM k (Or.inl q)
    · have := h.2.2.2 (k % 16) (by omega)
      rw [show 16 * mb + k % 16 = k by omega] at this
      exact this
theorem r_four {mu : Nat → Nat} {G H : GG} {M N : DD} {p : Nat} {w : Int} {L Ls : List Nat} {d : Nat} {f : Nat → Nat} {T mb : Nat} {D : List Tok} (t : BX mu G H M N p L) (tt : TT G M p w Ls) (Dg : DG G L) (hK : GK H N) (hm : MUD mu G d) (hI : FG mu M N 129 (CI mb)) (hI0 : M.1 129 (8 * mb) = 0) (hM : FG mu M N 130 (CMo mb 0)) {p0 : Int32} (i0 : TI p0 mb) (hmb : (mb : Int) < 2 * w) {sd : Int32} (hs : OK (FX9_sides H N 63 p0) (fun y => y.1 = N ∧ y.2 = sd)) (hv : ∀ j : Nat, j < 16 → OK (FX9_sidesOf G M (Int32.ofInt j) sd) (fun y => OK (FX9_mayBeFour G y.1 (M.1 130 (16 * mb + j)) y.2) (fun z => ¬ z.2 = 0))) (hR : RAt H N d f T (moS G M p0 mb 16 0 ++ D)) {P : DD → Prop} (hk : ∀ y, IRM mu H M N d f T mb 16 y → RAt H y d f T D → OK (FX1_readColours H y 12 p0 sd) P) : OK (FX1_readFour H N 12 p0) P := by
  have hw : w = 1 ∨ w = 2 := tt.2.2.1
  have e16 : (16 : Int32).toInt = 16 := rfl
  have e1 : (1 : Int32).toInt = 1 := rfl
  have hmode : ∀ k, 0 ≤ (M.1 130 k).toInt ∧ (M.1 130 k).toInt ≤ 8 := fun k => tt.2.2.2.2.2.2.2.2.1 (130, 0, 8) (by decide) k
  have hdr : ∀ {N1 : DD} {α : Type} {κ a g b : Nat} {k : Nat → Option α} {Q : α → Prop}, N1.2 = N.2 → fT a g = b → (0 < b ∧ b < 222) → kdL.getD b 0 = κ → OK (k b) Q → OK (dr H κ (N1.2 a g) k) Q := by
    intro N1 α κ a g b k Q e hf hb hkd hh
    rw [e]
    exact ok_drM hK hf hb hkd hh
  unfold FX1_readFour
  refine hdr (N1 := N) (b := 63) rfl rfl (by decide) rfl ?_
  refine ok_bnd hs ?_
  rintro ⟨y3, s3⟩ ⟨ey, es⟩
  dsimp only at ey es ⊢
  subst ey; subst es
  refine hdr (N1 := y3) (b := 63) rfl rfl (by decide) rfl ?_
  refine ok_ltI (a := 8 * (mb : Int)) (av_mul tn_8 i0 (by omega) (by omega)) (fun x5 i5 => ?_)
  refine ok_ltI (a := 8 * (mb : Int) + 0) (av_add i5 tn_0 (by omega) (by omega)) (fun x6 i6 => ?_)
  refine hdr (N1 := y3) (b := 67) rfl rfl (by decide) rfl ?_
  refine ok_chk (by rw [gk_len hK (b := 67) (by decide) rfl]; exact nx i6 (by omega) (by show _ < ((256 : Nat) : Int); omega)) ?_
  have en6 : x6.toNatClampNeg = 8 * mb := by rw [ti_n i6]; omega
  rw [en6]
  refine ok_ltt (fun M8 e8 => ?_)
  have h8 : IRM mu H M y3 d f T mb 0 M8 := by
    rw [e8]
    exact ⟨rfl, fun x k _ _ _ q _ => uI_n _ _ q, uI_s _ _ _ _, fun i hi => absurd hi (Nat.not_lt_zero i)⟩
  have hR8 : RAt H M8 d f T (moS G M p0 mb 16 0 ++ D) := by
    refine ra_by hR (by rw [e8]; rfl) ?_
    intro x k q
    rw [e8]
    refine uI_n _ _ ?_
    have := hm.2.2.2.2.1
    omega
  refine ok_bnd (ok_itr (fun (s : Int32 × DD) => ∃ j : Nat, s.1.toInt = j ∧ j ≤ 16 ∧ IRM mu H M y3 d f T mb j s.2 ∧ RAt H s.2 d f T (moS G M p0 mb (16 - j) j ++ D)) (fun (s : Int32 × DD) => (16 - s.1.toInt).toNat) (P := fun (s : Int32 × DD) => IRM mu H M y3 d f T mb 16 s.2 ∧ RAt H s.2 d f T D) ?_ 1000000 ((0 : Int32), M8) ⟨0, rfl, by decide, h8, hR8⟩ (by show (16 - (0 : Int32).toInt).toNat < 1000000; decide)) ?_
  · rintro ⟨i, N1⟩ ⟨j, hj, hj2, hI1, hR1⟩
    dsimp only at hj hI1 hR1 ⊢
    refine ok_if (fun hc => ?_) (fun hc => ?_)
    · have h1 := pz_le.mp hc
      have : j = 16 := by omega
      subst this
      exact ok_some ⟨hI1, hR1⟩
    · have h1 : j < 16 := by
        have : ¬ (16 : Int32).toInt ≤ i.toInt := fun q => hc (pz_le.mpr q)
        omega
      have ij : i = Int32.ofInt j := by
        apply Int32.toInt_inj.1
        rw [hj, Int32.toInt_ofInt]
        exact (bm_in (by omega) (by omega)).symm
      obtain ⟨n, hn⟩ : ∃ n, 16 - j = n + 1 := ⟨15 - j, by omega⟩
      rw [hn] at hR1
      have hR1' : RAt H N1 d f T (moT G M p0 mb j ++ (moS G M p0 mb n (j + 1) ++ D)) := by
        rw [← List.append_assoc]; exact hR1
      refine hdr (b := 63) hI1.1 rfl (by decide) rfl ?_
      refine ok_bnd (irm_guess t tt Dg hm hI1 hI hI0 hM i0 hmb hj h1) ?_
      rintro ⟨y16, g⟩ ⟨ey, eg, g0, g8⟩
      dsimp only at ey eg g0 g8 ⊢
      subst ey
      have hmj := hmode (16 * mb + j)
      generalize em : M.1 130 (16 * mb + j) = m at hmj
      have eT : moT G M p0 mb j = toks 2 (if m = g then 1 else 0) 1 ++ (if m = g then [] else toks 3 (if g.toInt ≤ m.toInt then m.toInt.toNat - 1 else m.toInt.toNat) 3) := by
        unfold moT
        rw [em, ← eg]
      rw [eT, List.append_assoc] at hR1'
      refine hdr (b := 13) hI1.1 rfl (by decide) rfl ?_
      refine ok_bnd (ra_fixed (e := 2) (m := 1) hR1' rfl (by decide) rfl (by decide) (by decide) (by split <;> decide)) ?_
      rintro ⟨y18, b18⟩ ⟨v18, r18, f18⟩
      dsimp only at v18 r18 f18 ⊢
      have hry : ∀ {A B : DD}, RY A 13 14 15 B → IRM mu H M y3 d f T mb j A → IRM mu H M y3 d f T mb j B := by
        intro A B hA hB
        refine ⟨hA.1.trans hB.1, fun x k q1 q2 q3 q4 q5 => (hA.2 x k q2 q3 (fun z => q1 z.1)).trans (hB.2.1 x k q1 q2 q3 q4 q5), (hA.2 67 _ (by decide) (by decide) (by omega)).trans hB.2.2.1, fun i hi => (hA.2 68 _ (by decide) (by decide) (by omega)).trans (hB.2.2.2 i hi)⟩
      have I18 := hry f18 hI1
      refine ok_bnd (Q := fun (y : Int32 × DD) => y.1 = m ∧ IRM mu H M y3 d f T mb j y.2 ∧ RAt H y.2 d f T (moS G M p0 mb n (j + 1) ++ D)) (ok_if (fun q => ?_) (fun q => ?_)) ?_
      · have hne : ¬ m = g := fun z => by
          rw [if_pos z] at v18
          rw [q] at v18
          exact absurd v18 (by decide)
        rw [if_neg hne] at r18
        refine hdr (b := 13) I18.1 rfl (by decide) rfl ?_
        refine ok_bnd (ra_fixed (e := 3) (m := 3) r18 rfl (by decide) rfl (by decide) (by decide) (by split <;> omega)) ?_
        rintro ⟨y32, b32⟩ ⟨v32, r32, f32⟩
        dsimp only at v32 r32 f32 ⊢
        have hne2 : m.toInt ≠ g.toInt := fun z => hne (Int32.toInt_inj.1 z)
        refine ok_bnd (Q := fun (y : Int32) => y = m) (ok_if (fun z => ?_) (fun z => ?_)) ?_
        · have z2 := pz_le.mp z
          refine ok_ltt (fun x e => ok_some ?_)
          apply Int32.toInt_inj.1
          by_cases z3 : g.toInt ≤ m.toInt
          · rw [if_pos z3] at v32
            rw [e, ti_add (by omega) (by omega)]
            omega
          · rw [if_neg z3] at v32
            omega
        · have z2 : ¬ g.toInt ≤ b32.toInt := fun zz => z (pz_le.mpr zz)
          refine ok_some ?_
          apply Int32.toInt_inj.1
          by_cases z3 : g.toInt ≤ m.toInt
          · rw [if_pos z3] at v32
            omega
          · rw [if_neg z3] at v32
            omega
        intro y33 e33
        exact ok_some ⟨e33, hry f32 I18, r32⟩
      · have he : m = g := by
          by_cases z : m = g
          · exact z
          · rw [if_neg z] at v18
            exact absurd (Int32.toInt_inj.1 (v18.trans rfl)) q
        rw [if_pos he] at r18
        exact ok_some ⟨he.symm, I18, r18⟩
      rintro ⟨m2, y19⟩ ⟨em2, I19, R19⟩
      dsimp only at em2 I19 R19 ⊢
      subst em2
      obtain ⟨ys, hys, zs, hzs, hz0⟩ := hv j h1
      rw [← ij] at hys
      rw [em] at hzs
      obtain ⟨ys2, hys2, q1, q2, q3⟩ := k_sidesOf (H := H) (N := y19) ys hys
      refine ok_bnd (Q := fun y => y = ys2) ⟨ys2, hys2, rfl⟩ ?_
      rintro y20 rfl
      obtain ⟨zs2, hzs2, q4, q5, q6⟩ := k_mayBeFour (H := H) (N := y20.1) zs hzs
      rw [q3] at hzs2
      refine ok_bnd (Q := fun y => y = zs2) ⟨zs2, hzs2, rfl⟩ ?_
      rintro y21 rfl
      rw [if_neg (by rw [← q6]; exact hz0)]
      have e21 : y21.1 = y19 := q5.symm.trans q2.symm
      refine ok_bnd (Q := fun y => y = y19) (ok_some e21) ?_
      rintro y22 rfl
      refine hdr (b := 63) I19.1 rfl (by decide) rfl ?_
      refine ok_ltI (a := 16 * (mb : Int)) (av_mul tn_16 i0 (by omega) (by omega)) (fun x24 i24 => ?_)
      refine ok_ltI (a := 16 * (mb : Int) + j) (av_add i24 hj (by omega) (by omega)) (fun x25 i25 => ?_)
      refine hdr (b := 68) I19.1 rfl (by decide) rfl ?_
      refine ok_chk (by rw [gk_len hK (b := 68) (by decide) rfl]; exact nx i25 (by omega) (by show _ < ((512 : Nat) : Int); omega)) ?_
      have en : x25.toNatClampNeg = 16 * mb + j := by rw [ti_n i25]; omega
      rw [en]
      refine ok_ltt (fun M27 e27 => ?_)
      refine ok_ltI (a := (j : Int) + 1) (av_add hj tn_1 (by omega) (by omega)) (fun x28 i28 => ok_some ?_)
      have hx28 : x28.toInt = (j : Int) + 1 := i28
      refine ⟨⟨j + 1, by show x28.toInt = _; omega, by omega, ?_, ?_⟩, by show (16 - x28.toInt).toNat < (16 - i.toInt).toNat; omega⟩
      · show IRM mu H M y3 d f T mb (j + 1) M27
        rw [e27]
        refine ⟨I19.1, fun x k a1 a2 a3 a4 a5 => ?_, ?_, ?_⟩
        · rw [uI_n _ _ (fun z => a5 ⟨z.1, by omega⟩)]
          exact I19.2.1 x k a1 a2 a3 a4 a5
        · rw [uI_n _ _ (by omega)]
          exact I19.2.2.1
        · intro k hk
          by_cases z : k = j
          · rw [z, uI_s, em]
          · rw [uI_n _ _ (by omega)]
            exact I19.2.2.2 k (by omega)
      · show RAt H M27 d f T (moS G M p0 mb (16 - (j + 1)) (j + 1) ++ D)
        rw [show 16 - (j + 1) = n by omega]
        refine ra_by R19 (by rw [e27]; rfl) ?_
        intro x k q
        rw [e27]
        refine uI_n _ _ ?_
        have := hm.2.2.2.2.2.1
        omega
  · rintro ⟨y9, z9⟩ ⟨q1, q2⟩
    dsimp only at q1 q2 ⊢
    exact ok_bnd (Q := P) (hk z9 q1 q2) (fun y hy => ok_some hy)
