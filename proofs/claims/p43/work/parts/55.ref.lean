/-! references of a group -/
theorem pc_pieceX {G : GG} {M : DD} {p0 : Int32} {b : Int} (i : TI p0 b) (h : 0 ≤ b ∧ b ≤ 16) : PC (FX9_pieceX G M p0) (fun y => y.1 = M ∧ TI y.2 (bX b)) := by
  unfold FX9_pieceX
  refine pc_ltt (fun x1 e1 => pc_ltt (fun x2 e2 => pc_ltt (fun x3 e3 => pc_ltt (fun x4 e4 => pc_ltt (fun x5 e5 => pc_ltt (fun x6 e6 => pc_some ⟨rfl, ?_⟩))))))
  have i1 : TI x1 (b / 4) := by rw [e1]; exact av_div i tn_4 (by omega) (by omega)
  have i2 : TI x2 (b / 4 % 2) := by rw [e2]; exact av_mod i1 tn_2 (by omega) (by omega)
  have i3 : TI x3 (8 * (b / 4 % 2)) := by rw [e3]; exact av_mul tn_8 i2 (by omega) (by omega)
  have i4 : TI x4 (b % 2) := by rw [e4]; exact av_mod i tn_2 (by omega) (by omega)
  have i5 : TI x5 (4 * (b % 2)) := by rw [e5]; exact av_mul tn_4 i4 (by omega) (by omega)
  show TI x6 _
  rw [e6]
  exact av_add i3 i5 (by omega) (by omega)
theorem pc_pieceY {G : GG} {M : DD} {p0 : Int32} {b : Int} (i : TI p0 b) (h : 0 ≤ b ∧ b ≤ 16) : PC (FX9_pieceY G M p0) (fun y => y.1 = M ∧ TI y.2 (bY b)) := by
  unfold FX9_pieceY
  refine pc_ltt (fun x1 e1 => pc_ltt (fun x2 e2 => pc_ltt (fun x3 e3 => pc_ltt (fun x4 e4 => pc_ltt (fun x5 e5 => pc_ltt (fun x6 e6 => pc_some ⟨rfl, ?_⟩))))))
  have i1 : TI x1 (b / 8) := by rw [e1]; exact av_div i tn_8 (by omega) (by omega)
  have i2 : TI x2 (8 * (b / 8)) := by rw [e2]; exact av_mul tn_8 i1 (by omega) (by omega)
  have i3 : TI x3 (b / 2) := by rw [e3]; exact av_div i tn_2 (by omega) (by omega)
  have i4 : TI x4 (b / 2 % 2) := by rw [e4]; exact av_mod i3 tn_2 (by omega) (by omega)
  have i5 : TI x5 (4 * (b / 2 % 2)) := by rw [e5]; exact av_mul tn_4 i4 (by omega) (by omega)
  show TI x6 _
  rw [e6]
  exact av_add i2 i5 (by omega) (by omega)
theorem pc_at {G : GG} {M : DD} {p0 p1 : Int32} {a b : Int} (i : TI p0 a) (j : TI p1 b) (h : 0 ≤ a ∧ a ≤ 1 ∧ 0 ≤ b ∧ b ≤ 511) : PC (FX4_at G M p0 p1) (fun y => y.1 = M ∧ TI y.2 (512 * a + b)) := by
  unfold FX4_at
  refine pc_ltt (fun x1 e1 => pc_ltt (fun x2 e2 => pc_some ⟨rfl, ?_⟩))
  have i1 : TI x1 (512 * a) := by rw [e1]; exact av_mul tn_512 i (by omega) (by omega)
  show TI x2 _
  rw [e2]
  exact av_add i1 j (by omega) (by omega)
/-- what setReference leaves: only references; those of the group are r -/
def SR (M : DD) (p : Nat) (l mb : Int) (g : Nat) (r : Int32) (b : Int) (y : DD) : Prop := y.2 = M.2 ∧ (∀ c k, c ≠ p + 6 → c ≠ p + 7 → y.1 c k = M.1 c k) ∧ (∀ k, y.1 (p + 6) k = M.1 (p + 6) k ∨ y.1 (p + 6) k = r) ∧ (∀ k i : Nat, (i : Int) < b → INs i (M.1 136 (4 * g)).toInt (M.1 136 (4 * g + 1)).toInt (M.1 136 (4 * g + 2)).toInt → (k : Int) = 512 * l + 16 * mb + i → y.1 (p + 6) k = r)
theorem pc_setReference {G : GG} {M : DD} {p : Nat} {w : Int} {L : List Nat} (t : TT G M p w L) {p0 p1 p2 p3 : Int32} {mb l : Int} {g : Nat} (i0 : TI p0 mb) (i1 : TI p1 l) (i2 : TI p2 g) (h0 : 0 ≤ mb ∧ mb ≤ 3) (h1 : 0 ≤ l ∧ l ≤ 1) (h2 : g ≤ 3) : PC (FX9_setReference G M 125 p0 p1 p2 p3) (fun y => SR M p l mb g p3 16 y) := by
  have r15 : M.2 125 15 = some 136 := f_r t rfl (by decide)
  have hp0 := tt_p0 t
  unfold FX9_setReference
  refine pc_ltt (fun x1 _ => pc_ltt (fun x2 _ => pc_dr (fun b3 hb3 => pc_chk (fun _ => pc_ltt (fun x4 e4 => ?_)))))
  have i4 : TI x4 (4 * g) := by rw [e4]; exact av_mul tn_4 i2 (by omega) (by omega)
  have n4 : x4.toNatClampNeg = 4 * g := sh_nat i4 (by omega)
  refine pc_drF r15 (pc_chk (fun _ => pc_ltt (fun x6 e6 => ?_)))
  rw [n4] at e6
  have l6 := ib_t t (by simp [TYL] : (136, 0, 16) ∈ TYL) (4 * g)
  rw [← e6] at l6
  refine pc_bnd (pc_pieceX (rfl : TI x6 x6.toInt) l6) ?_
  rintro y7 ⟨m7, i7⟩
  refine pc_ltt (fun x8 e8 => ?_)
  have n8 : x8.toNatClampNeg = 4 * g := sh_nat (by rw [e8]; exact av_mul tn_4 i2 (by omega) (by omega)) (by omega)
  refine pc_drF (by rw [m7]; exact r15) (pc_chk (fun _ => pc_ltt (fun x10 e10 => ?_)))
  have h10 : x10 = x6 := by rw [e10, m7, n8, e6]
  refine pc_bnd (pc_pieceY (show TI x10 x6.toInt by rw [h10]; rfl) l6) ?_
  rintro y11 ⟨m11, i11⟩
  have bx : 0 ≤ bX x6.toInt ∧ bX x6.toInt ≤ 12 := by unfold bX; omega
  have by' : 0 ≤ bY x6.toInt ∧ bY x6.toInt ≤ 16 := by unfold bY; omega
  refine pc_bnd (Q := fun s => SR M p l mb g p3 16 s.2) (pc_itr (fun (s : Int32 × DD) => (0 ≤ s.1.toInt ∧ s.1.toInt ≤ 16) ∧ SR M p l mb g p3 s.1.toInt s.2) ?_ _ _ ⟨(by show (0 : Int) ≤ (0 : Int32).toInt ∧ (0 : Int32).toInt ≤ 16; decide), ?_⟩) (fun y h => pc_some h)
  · rintro s ⟨ls, h⟩
    refine pc_if (fun c => pc_some ?_) (fun c => ?_)
    · have d := tl_le tn_16 (rfl : TI s.1 s.1.toInt) c
      have e : s.1.toInt = 16 := by omega
      rw [e] at h
      exact h
    have d := tl_nle tn_16 (rfl : TI s.1 s.1.toInt) c
    obtain ⟨s1, s2, s3, s4⟩ := h
    refine pc_bnd (pc_pieceX (rfl : TI s.1 s.1.toInt) (by omega)) ?_
    rintro y17 ⟨m17, i17⟩
    have bx2 : 0 ≤ bX s.1.toInt ∧ bX s.1.toInt ≤ 12 := by unfold bX; omega
    have by2 : 0 ≤ bY s.1.toInt ∧ bY s.1.toInt ≤ 12 := by unfold bY; omega
    refine pc_ltt (fun x18 e18 => ?_)
    have i18 : TI x18 (bX s.1.toInt - bX x6.toInt) := by rw [e18]; exact av_sub i17 i7 (by omega) (by omega)
    refine pc_bnd (pc_pieceY (rfl : TI s.1 s.1.toInt) (by omega)) ?_
    rintro y19 ⟨m19, i19⟩
    refine pc_ltt (fun x20 e20 => ?_)
    have i20 : TI x20 (bY s.1.toInt - bY x6.toInt) := by rw [e20]; exact av_sub i19 i11 (by omega) (by omega)
    have m19' : y19.1 = s.2 := by rw [m19, m17]
    have r15s : y19.1.2 125 15 = some 136 := by rw [m19', s1]; exact r15
    have nx4 : ∀ (v a : Int32) (j : Nat), v = (4 : Int32) * p2 → j ≤ 3 → TI a j → (v + a).toNatClampNeg = 4 * g + j := by
      intro v a j ev hj ha
      exact sh_nat (av_add (show TI v (4 * g) by rw [ev]; exact av_mul tn_4 i2 (by omega) (by omega)) ha (by omega) (by omega)) (by omega)
    have out : ∀ N, N = y19.1 → ¬ INs s.1.toInt (M.1 136 (4 * g)).toInt (M.1 136 (4 * g + 1)).toInt (M.1 136 (4 * g + 2)).toInt → SR M p l mb g p3 (s.1.toInt + 1) N := by
      intro N hN hno
      rw [hN, m19']
      refine ⟨s1, s2, s3, ?_⟩
      intro k i hi hin hk
      by_cases e : (i : Int) = s.1.toInt
      · rw [e] at hin; exact absurd hin hno
      · exact s4 k i (by omega) hin hk
    refine pc_bnd (Q := fun y => SR M p l mb g p3 (s.1.toInt + 1) y) ?_ (fun y21 h21 => ?_)
    · refine pc_if (fun c1 => pc_some (out _ rfl ?_)) (fun c1 => ?_)
      · have q := tl_lt i18 tn_0 c1
        intro hin
        have := hin.2.1
        rw [← e6] at this
        omega
      refine pc_ltt (fun x24 e24 => pc_ltt (fun x25 e25 => pc_drF r15s (pc_chk (fun _ => pc_ltt (fun x27 e27 => ?_)))))
      have h27 : x27 = M.1 136 (4 * g + 1) := by
        rw [e27, e25, nx4 x24 1 1 e24 (by omega) tn_1, m19', s2 136 _ (by omega) (by omega)]
      refine pc_bnd (Q := fun y => SR M p l mb g p3 (s.1.toInt + 1) y) ?_ (fun y h => pc_some h)
      refine pc_if (fun c2 => pc_some (out _ rfl ?_)) (fun c2 => ?_)
      · have q := tl_le (rfl : TI x27 x27.toInt) i18 c2
        rw [h27] at q
        intro hin
        have := hin.2.2.1
        rw [← e6] at this
        omega
      refine pc_bnd (Q := fun y => SR M p l mb g p3 (s.1.toInt + 1) y) ?_ (fun y h => pc_some h)
      refine pc_if (fun c3 => pc_some (out _ rfl ?_)) (fun c3 => ?_)
      · have q := tl_lt i20 tn_0 c3
        intro hin
        have := hin.2.2.2.1
        rw [← e6] at this
        omega
      refine pc_ltt (fun x32 e32 => pc_ltt (fun x33 e33 => pc_chk (fun _ => pc_ltt (fun x34 e34 => ?_))))
      have h34 : x34 = M.1 136 (4 * g + 2) := by
        rw [e34, e33, nx4 x32 2 2 e32 (by omega) tn_2, m19', s2 136 _ (by omega) (by omega)]
      refine pc_bnd (Q := fun y => SR M p l mb g p3 (s.1.toInt + 1) y) ?_ (fun y h => pc_some h)
      refine pc_if (fun c4 => pc_some (out _ rfl ?_)) (fun c4 => ?_)
      · have q := tl_le (rfl : TI x34 x34.toInt) i20 c4
        rw [h34] at q
        intro hin
        have := hin.2.2.2.2
        rw [← e6] at this
        omega
      refine pc_ltt (fun x37 e37 => pc_ltt (fun x38 e38 => ?_))
      have i37 : TI x37 (16 * mb) := by rw [e37]; exact av_mul tn_16 i0 (by omega) (by omega)
      have i38 : TI x38 (16 * mb + s.1.toInt) := by rw [e38]; exact av_add i37 (rfl : TI s.1 s.1.toInt) (by omega) (by omega)
      refine pc_bnd (pc_at i1 i38 (by omega)) ?_
      rintro y39 ⟨m39, i39⟩
      have m39' : y39.1 = s.2 := by rw [m39, m19']
      refine pc_drF (c := p) (by rw [m39', s1]; exact tt_pic t) ?_
      refine pc_drF (c := p + 6) (by rw [m39', s1]; exact pr_5 t (tt_p t)) (pc_chk (fun _ => pc_ltt (fun M42 e42 => ?_)))
      have r42 : M42.2 = M.2 := by rw [e42, m39']; exact s1
      refine pc_drF (c := p) (by rw [r42]; exact tt_pic t) ?_
      refine pc_bnd (Q := fun _ => True) (fun _ _ => trivial) (fun y44 _ => ?_)
      refine pc_drF (c := p + 7) (by rw [r42]; exact pr_6 t (tt_p t)) (pc_chk (fun _ => pc_ltt (fun M46 e46 => pc_some ?_)))
      obtain ⟨n, hn⟩ : ∃ n : Nat, (n : Int) = 512 * l + (16 * mb + s.1.toInt) := ⟨(512 * l + (16 * mb + s.1.toInt)).toNat, by omega⟩
      have nn : y39.2.toNatClampNeg = n := sh_nat i39 (by omega)
      have h6 : ∀ k, M46.1 (p + 6) k = if k = n then p3 else s.2.1 (p + 6) k := by
        intro k
        rw [e46, uI_n _ _ (by omega), e42, nn, m39']
        by_cases e : k = n
        · rw [if_pos e, e, uI_s]
        · rw [if_neg e, uI_n _ _ (by omega)]
      refine ⟨by rw [e46]; exact r42, ?_, ?_, ?_⟩
      · intro c k hc1 hc2
        rw [e46, uI_n _ _ (by omega), e42, uI_n _ _ (by omega), m39']
        exact s2 c k hc1 hc2
      · intro k
        rw [h6 k]
        by_cases e : k = n
        · rw [if_pos e]; exact Or.inr rfl
        · rw [if_neg e]; exact s3 k
      · intro k i hi hin hk
        rw [h6 k]
        by_cases e : k = n
        · rw [if_pos e]
        · rw [if_neg e]
          exact s4 k i (by omega) hin hk
    · refine pc_ltt (fun x22 e22 => pc_some ?_)
      have i22 : x22.toInt = s.1.toInt + 1 := by rw [e22]; exact av_add (rfl : TI s.1 s.1.toInt) tn_1 (by omega) (by omega)
      exact ⟨by dsimp only; omega, by dsimp only; rw [i22]; exact h21⟩
  · have m : y11.1 = M := by rw [m11, m7]
    show SR M p l mb g p3 (0 : Int32).toInt y11.1
    rw [m]
    refine ⟨rfl, fun _ _ _ _ => rfl, fun _ => Or.inl rfl, ?_⟩
    intro k i hi
    have : (0 : Int32).toInt = 0 := rfl
    omega
