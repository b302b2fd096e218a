/-! Reader: bit -/
theorem pz_and31 (x : Int32) : (x &&& (31 : Int32)).toInt = x.toInt % 32 := by
  have h1 : (x &&& (31 : Int32)).toBitVec.toNat = x.toBitVec.toNat % 32 := by
    rw [Int32.toBitVec_and, BitVec.toNat_and]
    exact Nat.and_two_pow_sub_one_eq_mod x.toBitVec.toNat 5
  have h2 := pz_cond (x &&& (31 : Int32))
  have h3 := pz_cond x
  have := x.toBitVec.isLt
  rw [h1] at h2
  rw [h2, h3]
  split <;> split <;> omega
theorem pz_sarv (x s : Int32) (n : Nat) (hs : s.toInt = n) (hn : n < 32) : (x >>> (s &&& 31)).toInt = x.toInt / ((2 ^ n : Nat) : Int) := by
  refine pz_sar x _ n ?_
  have h0 : (s &&& 31).toInt = n := by
    rw [pz_and31, hs]
    omega
  have h1 : ((s &&& 31).toBitVec.smod 32).toInt = n := by
    rw [BitVec.toInt_smod]
    have e : (32 : BitVec 32).toInt = 32 := by decide
    have eb : (s &&& 31).toBitVec.toInt = n := h0
    rw [e, eb, Int.fmod_eq_emod_of_nonneg _ (by decide)]
    omega
  have h2 := BitVec.toInt_eq_toNat_cond ((s &&& 31).toBitVec.smod 32)
  have := ((s &&& 31).toBitVec.smod 32).isLt
  rw [h1] at h2
  split at h2 <;> omega
/-- where a state of the stream stands, for who reads -/
def pos (S : SS) : Nat := if S.1 = 0 then S.2.1 else S.2.1 + 9 + S.2.2.2.2.1
theorem pos_nxt (T : Tok) (S : SS) : pos S ≤ pos (nxt T S) ∨ (S.1 ≠ 0 ∧ (T.1 ≠ 0 ∧ T.1 ≠ 1)) := by
  unfold pos nxt
  by_cases h0 : S.1 = 0
  · left
    rw [if_pos h0, if_pos h0]
    split
    · rw [if_pos rfl]; dsimp only; omega
    · split
      · split
        · rw [if_neg (Nat.succ_ne_zero 0)]; dsimp only; omega
        · rw [if_pos rfl]; dsimp only; omega
      · split <;> (rw [if_neg (Nat.succ_ne_zero 0)]; dsimp only; omega)
  · rw [if_neg h0, if_neg h0]
    by_cases h1 : T.1 = 0
    · left
      rw [if_pos h1, if_neg (Nat.succ_ne_zero 0)]
      dsimp only
      unfold enc1 ren bin
      split <;> (dsimp only; omega)
    · by_cases h2 : T.1 = 1
      · left
        rw [if_neg h1, if_pos h2]
        split
        · rw [if_neg (Nat.succ_ne_zero 0)]
          dsimp only
          unfold ren endd
          dsimp only
          omega
        · rw [if_pos rfl]
          dsimp only
          omega
      · exact Or.inr ⟨h0, h1, h2⟩
theorem val_pos {f : Nat → Nat} : ∀ (D : List Tok) (S : SS), Val f D S → pos S ≤ pos (runs D S) := by
  intro D
  induction D with
  | nil => intro S _; exact Nat.le_refl _
  | cons T D ih =>
    intro S h
    obtain ⟨k, i, b⟩ := T
    show pos S ≤ pos (runs D (nxt (k, i, b) S))
    have hp := pos_nxt (k, i, b) S
    match k, h, hp with
    | 0, h, hp =>
      have h : (if S.1 = 0 then f S.2.1 = b ∧ Val f D (0, S.2.1 + 1, S.2.2) else b ≤ 1 ∧ Val f D (1, S.2.1, enc1 S.2.2 i b)) := h
      refine Nat.le_trans (hp.resolve_right (fun q => q.2.1 rfl)) (ih _ ?_)
      unfold nxt
      rw [if_pos rfl]
      split at h
      · rename_i h1; rw [if_pos h1]; exact h.2
      · rename_i h1; rw [if_neg h1]; exact h.2
    | 1, h, hp =>
      have h : S.1 ≠ 0 ∧ (if b = 0 then Val f D (1, S.2.1, ren (endd S.2.2)) else Cons f S.2.1 (S.2.2.1 + (S.2.2.2.1 - 2), 2, S.2.2.2.2) ∧ Val f D (0, S.2.1 + 9 + S.2.2.2.2.1, S.2.2)) := h
      refine Nat.le_trans (hp.resolve_right (fun q => q.2.2 rfl)) (ih _ ?_)
      unfold nxt
      rw [if_neg (by simp), if_pos rfl]
      have h2 := h.2
      split at h2
      · rename_i h1; rw [if_pos h1]; exact h2
      · rename_i h1; rw [if_neg h1]; exact h2.2
    | 2, h, hp =>
      have h : S.1 = 0 ∧ Val f D (1, S.2.1, A0 S.2.2.2.2.2) := h
      refine Nat.le_trans (hp.resolve_right (fun q => q.1 h.1)) (ih _ ?_)
      unfold nxt
      rw [if_neg (by simp), if_neg (by simp), if_pos rfl]
      exact h.2
    | k + 3, h, hp =>
      have h : S.1 = 0 ∧ Val f D (1, S.2.1, A0 (fun _ => 0)) := h
      refine Nat.le_trans (hp.resolve_right (fun q => q.1 h.1)) (ih _ ?_)
      unfold nxt
      rw [if_neg (by simp), if_neg (by simp), if_neg (by simp)]
      exact h.2
/-- what remains is right, and within T bits -/
def VT (f : Nat → Nat) (T : Nat) (D : List Tok) (S : SS) : Prop := Val f D S ∧ pos (runs D S) ≤ T
theorem VT.dec {f : Nat → Nat} {T i b : Nat} {D : List Tok} {S : SS} (h : VT f T ((0, i, b) :: D) S) : VT f T D (nxt (0, i, b) S) ∧ pos (nxt (0, i, b) S) ≤ T ∧ (S.1 = 0 → f S.2.1 = b) ∧ (S.1 ≠ 0 → b ≤ 1) := by
  obtain ⟨h1, h2⟩ := h
  have h1 : (if S.1 = 0 then f S.2.1 = b ∧ Val f D (0, S.2.1 + 1, S.2.2) else b ≤ 1 ∧ Val f D (1, S.2.1, enc1 S.2.2 i b)) := h1
  have h3 : Val f D (nxt (0, i, b) S) := by
    unfold nxt
    rw [if_pos rfl]
    split at h1
    · rename_i q; rw [if_pos q]; exact h1.2
    · rename_i q; rw [if_neg q]; exact h1.2
  refine ⟨⟨h3, h2⟩, Nat.le_trans (val_pos D _ h3) h2, fun q => ?_, fun q => ?_⟩
  · rw [if_pos q] at h1; exact h1.1
  · rw [if_neg q] at h1; exact h1.1
/-- who reads, at a state of the stream -/
def RD (G : GG) (M : DD) (r d t : Nat) (f : Nat → Nat) (T : Nat) (S : SS) : Prop :=
  (r < G.1 ∧ G.2.1 r = 5 ∧ M.2 r 0 = some d ∧ d < G.1 ∧ G.2.1 d = 12 ∧ T ≤ 8 * (G.2.2 d - 1) ∧ 1 ≤ G.2.2 d ∧ T ≤ 600000) ∧ (∀ i, f i ≤ 1) ∧ (M.1 r 1).toInt = T ∧ (∀ i, i < T → (M.1 d (1 + i / 8)).toInt / ((2 ^ (7 - i % 8) : Nat) : Int) % 2 = f i) ∧
  (M.2 r 10 = some t ∧ t < G.1 ∧ G.2.1 t = 13 ∧ G.2.2 t = 272 ∧ (∀ i, i < 272 → (M.1 t i).toInt = S.2.2.2.2.2 i)) ∧ (∀ i, S.2.2.2.2.2 i < 126) ∧ (M.1 r 2).toInt = pos S ∧
  ((S.1 = 0 ∧ (M.1 r 6).toInt = 0) ∨ (S.1 = 1 ∧ (M.1 r 6).toInt = 1 ∧ AOk S.2.2 ∧ (M.1 r 8).toInt = S.2.2.2.1 ∧ (M.1 r 9).toInt = (pv f S.2.1 (9 + S.2.2.2.2.1) : Int) - S.2.2.1))
/-- what else stands as it stood -/
def RX (M : DD) (r t : Nat) (N : DD) : Prop := N.2 = M.2 ∧ ∀ x k, x ≠ t → ¬ (x = r ∧ (k = 2 ∨ k = 8 ∨ k = 9)) → N.1 x k = M.1 x k
