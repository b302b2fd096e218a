/-! two runs of one function, over the coder's cells and over the decoder's: what the first one answers the second one answers too -/
def LKS {α β : Type} (o1 : Option α) (o2 : Option β) (P : α → β → Prop) : Prop := ∀ y, o1 = some y → ∃ z, o2 = some z ∧ P y z
def Ag (mu : Nat → Nat) (M N : DD) (c k : Nat) : Prop := N.1 (mu c) k = M.1 c k
def Up (mu : Nat → Nat) (κ : Nat) (M N M' N' : DD) : Prop := (M'.2 = M.2 ∧ N'.2 = N.2) ∧ (∀ k, M'.1 216 k = M.1 216 k) ∧ (∀ k, M'.1 220 k = M.1 220 k) ∧ (∀ k, M'.1 κ k = M.1 κ k) ∧ ∀ c k, Ag mu M N c k → Ag mu M' N' c k
def MU (mu : Nat → Nat) (G H : GG) : Prop := (∀ a b, mu a = mu b → a = b) ∧ ∀ b, b < G.1 → mu b < H.1 ∧ H.2.1 (mu b) = G.2.1 b ∧ H.2.2 (mu b) = G.2.2 b
def RFq (mu : Nat → Nat) (M N : DD) (q : Nat) : Prop := (M.2 q 3 = some (q + 1) ∧ N.2 (mu q) 3 = some (mu (q + 1))) ∧ (M.2 q 4 = some (q + 2) ∧ N.2 (mu q) 4 = some (mu (q + 2))) ∧ (M.2 q 5 = some (q + 6) ∧ N.2 (mu q) 5 = some (mu (q + 6))) ∧ (M.2 q 6 = some (q + 7) ∧ N.2 (mu q) 6 = some (mu (q + 7))) ∧ (M.2 q 7 = some (q + 8) ∧ N.2 (mu q) 7 = some (mu (q + 8))) ∧ (M.2 (q + 2) 0 = some (q + 9) ∧ N.2 (mu (q + 2)) 0 = some (mu (q + 9))) ∧ (M.2 (q + 2) 1 = some (q + 10) ∧ N.2 (mu (q + 2)) 1 = some (mu (q + 10))) ∧ (M.2 (q + 2) 2 = some (q + 11) ∧ N.2 (mu (q + 2)) 2 = some (mu (q + 11)))
def RFS (mu : Nat → Nat) (M N : DD) (p : Nat) (L : List Nat) : Prop := (∀ a k, (a = 125 ∨ a = 138 ∨ a = 148 ∨ a = 215) → 0 < fT a k → M.2 a k = some (fT a k) ∧ N.2 (mu a) k = some (mu (fT a k))) ∧ (M.2 125 0 = some p ∧ N.2 (mu 125) 0 = some (mu p) ∧ p ∈ L) ∧ (∀ q, q ∈ L → 234 ≤ q ∧ RFq mu M N q) ∧ (∀ k, (M.2 126 k = none ∧ N.2 (mu 126) k = none) ∨ ∃ q, q ∈ L ∧ M.2 126 k = some q ∧ N.2 (mu 126) k = some (mu q))
/-- the places that stand alike in both -/
def BAC (c k : Nat) : Bool := if c = 129 then k % 8 != 1 else if c = 130 then true else if c = 131 then true else if c = 132 then true else if c = 133 then true else if c = 125 then k == 11 else if c = 216 then (k == 1 || k == 8 || k == 9 || k == 10 || k == 13 || k == 14 || k == 15 || k == 22 || k == 23) else if c = 220 then decide (k ≤ 10) else false
def BAQ (j k : Nat) : Bool := if j = 0 then (k == 0 || k == 1 || k == 2 || k == 9 || k == 10 || k == 14) else decide (6 ≤ j) && decide (j ≤ 11)
def CX (mu : Nat → Nat) (G H : GG) (M N : DD) (p : Nat) (L : List Nat) : Prop := MU mu G H ∧ RFS mu M N p L ∧ (∀ c k, BAC c k = true → Ag mu M N c k) ∧ (∀ q j k, q ∈ L → BAQ j k = true → Ag mu M N (q + j) k) ∧ ((M.1 220 6).toInt = 0 ∧ G.2.2 145 = 16 ∧ G.2.2 146 = 16) ∧ ((M.1 216 1).toInt ≠ 1 → (M.1 220 5).toInt ≠ 0 → ∀ k, Ag mu M N 219 k)
theorem LKS.mono {α β : Type} {o1 : Option α} {o2 : Option β} {P Q : α → β → Prop} (h : LKS o1 o2 P) (hq : ∀ y z, P y z → Q y z) : LKS o1 o2 Q := by
  intro y hy
  obtain ⟨z, h1, h2⟩ := h y hy
  exact ⟨z, h1, hq y z h2⟩
theorem rl_some {α β : Type} {x : α} {y : β} {P : α → β → Prop} (h : P x y) : LKS (some x) (some y) P := by
  intro v hv
  obtain rfl := Option.some.inj hv
  exact ⟨y, rfl, h⟩
theorem rl_none {α β : Type} {o : Option β} {P : α → β → Prop} : LKS (none : Option α) o P := fun y h => absurd h (by simp)
theorem rl_chk {α β : Type} {c d : Prop} [Decidable c] [Decidable d] {k1 : Option α} {k2 : Option β} {P : α → β → Prop} (hcd : c → d) (h : c → LKS k1 k2 P) : LKS (chk c k1) (chk d k2) P := by
  intro y hy
  by_cases hc : c
  · unfold chk at hy ⊢
    rw [if_pos hc] at hy
    rw [if_pos (hcd hc)]
    exact h hc y hy
  · unfold chk at hy
    rw [if_neg hc] at hy
    exact absurd hy (by simp)
theorem rl_ltt {α β γ δ : Type} {x : γ} {x' : δ} {k1 : γ → Option α} {k2 : δ → Option β} {P : α → β → Prop} (h : LKS (k1 x) (k2 x') P) : LKS (ltt x k1) (ltt x' k2) P := h
theorem rl_ltI {α β : Type} {x : Int32} {a : Int} {k1 : Int32 → Option α} {k2 : Int32 → Option β} {P : α → β → Prop} (hx : TI x a) (h : ∀ v, TI v a → LKS (k1 v) (k2 v) P) : LKS (ltt x k1) (ltt x k2) P := h x hx
theorem rl_ltA {α β γ : Type} {x : γ} {k1 : γ → Option α} {k2 : γ → Option β} {P : α → β → Prop} (h : ∀ v, LKS (k1 v) (k2 v) P) : LKS (ltt x k1) (ltt x k2) P := h x
theorem rl_ltE {α β γ : Type} {x : γ} {k1 : γ → Option α} {k2 : γ → Option β} {P : α → β → Prop} (h : ∀ v, v = x → LKS (k1 v) (k2 v) P) : LKS (ltt x k1) (ltt x k2) P := h x rfl
theorem rl_ltN {α β γ : Type} {x x' : γ} {k1 : γ → Option α} {k2 : γ → Option β} {P : α → β → Prop} (e : x' = x) (h : ∀ v, v = x → LKS (k1 v) (k2 v) P) : LKS (ltt x k1) (ltt x' k2) P := by
  subst e
  exact h x' rfl
theorem rl_ltU {α β γ δ : Type} {x : γ} {x' : δ} {k1 : γ → Option α} {k2 : δ → Option β} {P : α → β → Prop} (h : ∀ v v', LKS (k1 v) (k2 v') P) : LKS (ltt x k1) (ltt x' k2) P := h x x'
theorem rl_rd {mu : Nat → Nat} {M N : DD} {α β : Type} {b k : Nat} {k1 : Int32 → Option α} {k2 : Int32 → Option β} {P : α → β → Prop} (A : Ag mu M N b k) (h : ∀ v, LKS (k1 v) (k2 v) P) : LKS (ltt (M.1 b k) k1) (ltt (N.1 (mu b) k) k2) P := by
  have e : N.1 (mu b) k = M.1 b k := A
  rw [e]
  exact h _
theorem rl_rdE {mu : Nat → Nat} {M N : DD} {α β : Type} {b k : Nat} {k1 : Int32 → Option α} {k2 : Int32 → Option β} {P : α → β → Prop} (A : Ag mu M N b k) (h : ∀ v, v = M.1 b k → LKS (k1 v) (k2 v) P) : LKS (ltt (M.1 b k) k1) (ltt (N.1 (mu b) k) k2) P := by
  have e : N.1 (mu b) k = M.1 b k := A
  rw [e]
  exact h _ rfl
theorem rl_rdB {mu : Nat → Nat} {M N : DD} {α β : Type} {b k : Nat} {lo hi : Int} {k1 : Int32 → Option α} {k2 : Int32 → Option β} {P : α → β → Prop} (A : Ag mu M N b k) (hv : lo ≤ (M.1 b k).toInt ∧ (M.1 b k).toInt ≤ hi) (h : ∀ v : Int32, lo ≤ v.toInt ∧ v.toInt ≤ hi → LKS (k1 v) (k2 v) P) : LKS (ltt (M.1 b k) k1) (ltt (N.1 (mu b) k) k2) P := by
  have e : N.1 (mu b) k = M.1 b k := A
  rw [e]
  exact h _ hv
/-- a write on both sides -/
theorem rl_w {mu : Nat → Nat} {κ : Nat} {G H : GG} {M N : DD} {α β : Type} {b k : Nat} {v : Int32} {k1 : DD → Option α} {k2 : DD → Option β} {P : α → β → Prop} (U : MU mu G H) (hb : b ≠ 216 ∧ b ≠ 220 ∧ b ≠ κ) (h : ∀ M' N', Up mu κ M N M' N' → Ag mu M' N' b k → (∀ c j, ¬ (c = b ∧ j = k) → M'.1 c j = M.1 c j) → LKS (k1 M') (k2 N') P) : LKS (ltt (uI M b k v) k1) (ltt (uI N (mu b) k v) k2) P := by
  have hA : Ag mu (uI M b k v) (uI N (mu b) k v) b k := by
    show (uI N (mu b) k v).1 (mu b) k = (uI M b k v).1 b k
    rw [uI_s, uI_s]
  have hU : Up mu κ M N (uI M b k v) (uI N (mu b) k v) := by
    refine ⟨⟨rfl, rfl⟩, fun j => uI_n M v (fun q => hb.1 q.1.symm), fun j => uI_n M v (fun q => hb.2.1 q.1.symm), fun j => uI_n M v (fun q => hb.2.2 q.1.symm), ?_⟩
    intro c j hA2
    by_cases hc : c = b ∧ j = k
    · rw [hc.1, hc.2]
      exact hA
    · show (uI N (mu b) k v).1 (mu c) j = (uI M b k v).1 c j
      rw [uI_n M v hc, uI_n N v (fun q => hc ⟨U.1 _ _ q.1, q.2⟩)]
      exact hA2
  exact h _ _ hU hA (fun c j hc => uI_n M v hc)
theorem rl_cpy {mu : Nat → Nat} {κ : Nat} {G H : GG} {M N : DD} {α β : Type} {b c i j n : Nat} {k1 : DD → Option α} {k2 : DD → Option β} {P : α → β → Prop} (U : MU mu G H) (hb : c ≠ 216 ∧ c ≠ 220 ∧ c ≠ κ) (hs : ∀ x, x < n → Ag mu M N b (i + x)) (h : ∀ M' N', Up mu κ M N M' N' → (∀ x, x < n → Ag mu M' N' c (j + x)) → LKS (k1 M') (k2 N') P) : LKS (ltt (rI M c (va_cpy (M.1 b) (M.1 c) i j n)) k1) (ltt (rI N (mu c) (va_cpy (N.1 (mu b)) (N.1 (mu c)) i j n)) k2) P := by
  have g1 : ∀ k, j ≤ k ∧ k < j + n → Ag mu (rI M c (va_cpy (M.1 b) (M.1 c) i j n)) (rI N (mu c) (va_cpy (N.1 (mu b)) (N.1 (mu c)) i j n)) c k := by
    intro k hk
    have e := hs (k - j) (by omega)
    have e2 : N.1 (mu b) (i + (k - j)) = M.1 b (i + (k - j)) := e
    show (rI N (mu c) (va_cpy (N.1 (mu b)) (N.1 (mu c)) i j n)).1 (mu c) k = (rI M c (va_cpy (M.1 b) (M.1 c) i j n)).1 c k
    simp only [rI, va_cpy, if_pos]
    rw [if_pos hk, if_pos hk]
    exact e2
  refine h _ _ ⟨⟨rfl, rfl⟩, fun k => ?_, fun k => ?_, fun k => ?_, ?_⟩ (fun x hx => g1 _ (by omega))
  · simp [rI, hb.1.symm]
  · simp [rI, hb.2.1.symm]
  · simp [rI, hb.2.2.symm]
  · intro d k hA
    by_cases hd : d = c
    · by_cases hk : j ≤ k ∧ k < j + n
      · rw [hd]; exact g1 k hk
      · rw [hd] at hA ⊢
        have e2 : N.1 (mu c) k = M.1 c k := hA
        show (rI N (mu c) (va_cpy (N.1 (mu b)) (N.1 (mu c)) i j n)).1 (mu c) k = (rI M c (va_cpy (M.1 b) (M.1 c) i j n)).1 c k
        simp only [rI, va_cpy, if_pos]
        rw [if_neg hk, if_neg hk]
        exact e2
    · have e2 : N.1 (mu d) k = M.1 d k := hA
      have hd2 : ¬ mu d = mu c := fun q => hd (U.1 _ _ q)
      show (rI N (mu c) (va_cpy (N.1 (mu b)) (N.1 (mu c)) i j n)).1 (mu d) k = (rI M c (va_cpy (M.1 b) (M.1 c) i j n)).1 d k
      simp only [rI, if_neg hd, if_neg hd2]
      exact e2
theorem rl_ltB {α β : Type} {x : Int32} {lo hi : Int} {k1 : Int32 → Option α} {k2 : Int32 → Option β} {P : α → β → Prop} (hx : lo ≤ x.toInt ∧ x.toInt ≤ hi) (h : ∀ v : Int32, lo ≤ v.toInt ∧ v.toInt ≤ hi → LKS (k1 v) (k2 v) P) : LKS (ltt x k1) (ltt x k2) P := h x hx
theorem up_0 (mu : Nat → Nat) {κ : Nat} (M N : DD) : Up mu κ M N M N := ⟨⟨rfl, rfl⟩, fun _ => rfl, fun _ => rfl, fun _ => rfl, fun _ _ h => h⟩
theorem up_tr {mu : Nat → Nat} {κ : Nat} {M N M1 N1 M2 N2 : DD} (f : Up mu κ M N M1 N1) (g : Up mu κ M1 N1 M2 N2) : Up mu κ M N M2 N2 := by
  obtain ⟨⟨a1, a2⟩, b1, c1, k1, d1⟩ := f
  obtain ⟨⟨a3, a4⟩, b2, c2, k2, d2⟩ := g
  exact ⟨⟨a3.trans a1, a4.trans a2⟩, fun j => (b2 j).trans (b1 j), fun j => (c2 j).trans (c1 j), fun j => (k2 j).trans (k1 j), fun c j g => d2 c j (d1 c j g)⟩
/-- nothing more is kept than what all keep -/
theorem up_wk {mu : Nat → Nat} {κ : Nat} {M N M1 N1 : DD} (f : Up mu κ M N M1 N1) : Up mu 216 M N M1 N1 := ⟨f.1, f.2.1, f.2.2.1, f.2.1, f.2.2.2.2⟩
theorem ag_up {mu : Nat → Nat} {κ : Nat} {M N M' N' : DD} {c k : Nat} (u : Up mu κ M N M' N') (h : Ag mu M N c k) : Ag mu M' N' c k := u.2.2.2.2 c k h
theorem rs_up {mu : Nat → Nat} {κ : Nat} {M N M' N' : DD} {p : Nat} {L : List Nat} (r : RFS mu M N p L) (u : Up mu κ M N M' N') : RFS mu M' N' p L := by
  unfold RFS RFq at r ⊢
  rw [u.1.1, u.1.2]
  exact r
theorem cx_up {mu : Nat → Nat} {κ : Nat} {G H : GG} {M N M' N' : DD} {p : Nat} {L : List Nat} (t : CX mu G H M N p L) (u : Up mu κ M N M' N') : CX mu G H M' N' p L := by
  obtain ⟨h1, h2, h3, h4, h5, h6⟩ := t
  refine ⟨h1, rs_up h2 u, fun c k g => ag_up u (h3 c k g), fun q j k a b => ag_up u (h4 q j k a b), ?_, ?_⟩
  · rw [u.2.2.1]; exact h5
  · intro a b k
    rw [u.2.1] at a
    rw [u.2.2.1] at b
    exact ag_up u (h6 a b k)
theorem cx_U {mu : Nat → Nat} {G H : GG} {M N : DD} {p : Nat} {L : List Nat} (t : CX mu G H M N p L) : MU mu G H := t.1
theorem rl_if {α β : Type} {c : Prop} [Decidable c] {a1 b1 : Option α} {a2 b2 : Option β} {P : α → β → Prop} (h1 : c → LKS a1 a2 P) (h2 : ¬ c → LKS b1 b2 P) : LKS (if c then a1 else b1) (if c then a2 else b2) P := by
  by_cases hc : c
  · rw [if_pos hc, if_pos hc]; exact h1 hc
  · rw [if_neg hc, if_neg hc]; exact h2 hc
theorem rl_ifD {α β : Type} {c d : Prop} [Decidable c] [Decidable d] {a1 b1 : Option α} {a2 b2 : Option β} {P : α → β → Prop} (e : c ↔ d) (h1 : c → LKS a1 a2 P) (h2 : ¬ c → LKS b1 b2 P) : LKS (if c then a1 else b1) (if d then a2 else b2) P := by
  by_cases hc : c
  · rw [if_pos hc, if_pos (e.mp hc)]; exact h1 hc
  · rw [if_neg hc, if_neg (fun q => hc (e.mpr q))]; exact h2 hc
theorem rl_dr {mu : Nat → Nat} {G H : GG} {α β : Type} {κ b : Nat} {o o' : Option Nat} {k1 : Nat → Option α} {k2 : Nat → Option β} {P : α → β → Prop} (U : MU mu G H) (e : o = some b ∧ o' = some (mu b)) (h : b < G.1 → LKS (k1 b) (k2 (mu b)) P) : LKS (dr G κ o k1) (dr H κ o' k2) P := by
  obtain ⟨rfl, rfl⟩ := e
  intro y hy
  unfold dr at hy ⊢
  dsimp only at hy ⊢
  by_cases hc : b < G.1 ∧ G.2.1 b = κ
  · rw [if_pos hc] at hy
    have hu := U.2 b hc.1
    rw [if_pos ⟨hu.1, hu.2.1.trans hc.2⟩]
    exact h hc.1 y hy
  · rw [if_neg hc] at hy
    exact absurd hy (by simp)
theorem rl_bnd {α β α' β' : Type} {o1 : Option α} {o2 : Option α'} {k1 : α → Option β} {k2 : α' → Option β'} {Q : α → α' → Prop} {P : β → β' → Prop} (h : LKS o1 o2 Q) (k : ∀ y z, Q y z → LKS (k1 y) (k2 z) P) : LKS (bnd o1 k1) (bnd o2 k2) P := by
  intro y hy
  cases ho : o1 with
  | none => rw [ho] at hy; exact absurd hy (by simp [bnd])
  | some v =>
    rw [ho] at hy
    obtain ⟨z, h1, h2⟩ := h v ho
    rw [h1]
    exact k v z h2 y hy
/-- with what the first run alone is known to answer -/
theorem rl_and {α β : Type} {o1 : Option α} {o2 : Option β} {S : α → Prop} {Q : α → β → Prop} (s : PC o1 S) (h : LKS o1 o2 Q) : LKS o1 o2 (fun y z => S y ∧ Q y z) := by
  intro y hy
  obtain ⟨z, h1, h2⟩ := h y hy
  exact ⟨z, h1, s y hy, h2⟩
def SM {σ τ ρ ρ' : Type} (I : σ → τ → Prop) (E : ρ → ρ' → Prop) : σ ⊕ ρ → τ ⊕ ρ' → Prop
  | .inl a, .inl b => I a b
  | .inr a, .inr b => E a b
  | _, _ => False
theorem sm_l {σ τ ρ ρ' : Type} {I : σ → τ → Prop} {E : ρ → ρ' → Prop} {a : σ} {b : τ} (h : I a b) : SM I E (.inl a) (.inl b) := h
theorem sm_r {σ τ ρ ρ' : Type} {I : σ → τ → Prop} {E : ρ → ρ' → Prop} {a : ρ} {b : ρ'} (h : E a b) : SM I E (.inr a) (.inr b) := h
theorem rl_inl {σ τ ρ ρ' : Type} {I : σ → τ → Prop} {E : ρ → ρ' → Prop} {a : σ} {b : τ} (h : I a b) : LKS (some (.inl a : σ ⊕ ρ)) (some (.inl b : τ ⊕ ρ')) (SM I E) := rl_some h
theorem rl_inr {σ τ ρ ρ' : Type} {I : σ → τ → Prop} {E : ρ → ρ' → Prop} {a : ρ} {b : ρ'} (h : E a b) : LKS (some (.inr a : σ ⊕ ρ)) (some (.inr b : τ ⊕ ρ')) (SM I E) := rl_some h
theorem rl_itr {σ τ ρ ρ' : Type} {b1 : σ → Option (σ ⊕ ρ)} {b2 : τ → Option (τ ⊕ ρ')} (I : σ → τ → Prop) (E : ρ → ρ' → Prop) (hs : ∀ s u, I s u → LKS (b1 s) (b2 u) (SM I E)) : ∀ (n : Nat) (s : σ) (u : τ), I s u → LKS (itr b1 n s) (itr b2 n u) E := by
  intro n
  induction n with
  | zero => intro s u _ y hy; exact absurd hy (by simp [itr])
  | succ n ih =>
    intro s u hI y hy
    unfold itr at hy ⊢
    cases hb : b1 s with
    | none => rw [hb] at hy; exact absurd hy (by simp)
    | some v =>
      rw [hb] at hy
      obtain ⟨z, h1, h2⟩ := hs s u hI v hb
      rw [h1]
      cases v with
      | inl a =>
        cases z with
        | inl b => exact ih a b h2 y hy
        | inr b => exact absurd h2 (by simp [SM])
      | inr a =>
        cases z with
        | inl b => exact absurd h2 (by simp [SM])
        | inr b => obtain rfl := Option.some.inj hy; exact ⟨b, rfl, h2⟩
theorem rl_it1 {σ τ ρ ρ' : Type} {b1 : σ → Option (σ ⊕ ρ)} {b2 : τ → Option (τ ⊕ ρ')} {E : ρ → ρ' → Prop} {n : Nat} {s : σ} {u : τ} (h : LKS (b1 s) (b2 u) (SM (fun a b => LKS (itr b1 n a) (itr b2 n b) E) E)) : LKS (itr b1 (n + 1) s) (itr b2 (n + 1) u) E := by
  intro y hy
  unfold itr at hy ⊢
  cases hb : b1 s with
  | none => rw [hb] at hy; exact absurd hy (by simp)
  | some v =>
    rw [hb] at hy
    obtain ⟨z, h1, h2⟩ := h v hb
    rw [h1]
    cases v with
    | inl a =>
      cases z with
      | inl b => exact h2 y hy
      | inr b => exact absurd h2 (by simp [SM])
    | inr a =>
      cases z with
      | inl b => exact absurd h2 (by simp [SM])
      | inr b => obtain rfl := Option.some.inj hy; exact ⟨b, rfl, h2⟩
theorem rl_inlK {σ τ ρ ρ' : Type} {I : σ → τ → Prop} {E : ρ → ρ' → Prop} {a : σ} {b : τ} (h : I a b) : LKS (some (.inl a : σ ⊕ ρ)) (some (.inl b : τ ⊕ ρ')) (SM I E) := rl_some h
theorem rl_inlQ {σ τ ρ ρ' : Type} {I : σ → τ → Prop} {E : ρ → ρ' → Prop} {a : σ} {b : τ} (Q : σ → τ → Prop) (hq : Q a b) (h : ∀ y z, Q y z → I y z) : LKS (some (.inl a : σ ⊕ ρ)) (some (.inl b : τ ⊕ ρ')) (SM I E) := rl_some (h a b hq)
theorem rl_inrQ {σ τ ρ ρ' : Type} {I : σ → τ → Prop} {E : ρ → ρ' → Prop} {a : ρ} {b : ρ'} (Q : ρ → ρ' → Prop) (hq : Q a b) (h : ∀ y z, Q y z → E y z) : LKS (some (.inr a : σ ⊕ ρ)) (some (.inr b : τ ⊕ ρ')) (SM I E) := rl_some (h a b hq)
theorem rl_bndK {α β α' β' : Type} {o1 : Option α} {o2 : Option α'} {k1 : α → Option β} {k2 : α' → Option β'} {P : β → β' → Prop} (h : LKS o1 o2 (fun y z => LKS (k1 y) (k2 z) P)) : LKS (bnd o1 k1) (bnd o2 k2) P := rl_bnd h (fun _ _ h => h)
theorem rl_itQ {σ τ ρ ρ' : Type} {b1 : σ → Option (σ ⊕ ρ)} {b2 : τ → Option (τ ⊕ ρ')} {E : ρ → ρ' → Prop} {n : Nat} {s : σ} {u : τ} (Q : σ → τ → Prop) (hq : Q s u) (h : ∀ y z, Q y z → LKS (itr b1 n y) (itr b2 n z) E) : LKS (itr b1 n s) (itr b2 n u) E := h s u hq
theorem rl_sel {τ τ' ρ ρ' α β : Type} {y : τ ⊕ ρ} {z : τ' ⊕ ρ'} {k1 : τ → Option α} {e1 : ρ → Option α} {k2 : τ' → Option β} {e2 : ρ' → Option β} {I : τ → τ' → Prop} {E : ρ → ρ' → Prop} {P : α → β → Prop} (h : SM I E y z) (h1 : ∀ a b, I a b → LKS (k1 a) (k2 b) P) (h2 : ∀ a b, E a b → LKS (e1 a) (e2 b) P) : LKS (sel y k1 e1) (sel z k2 e2) P := by
  cases y with
  | inl a =>
    cases z with
    | inl b => exact h1 a b h
    | inr b => exact absurd h (by simp [SM])
  | inr a =>
    cases z with
    | inl b => exact absurd h (by simp [SM])
    | inr b => exact h2 a b h
/-! lengths -/
theorem chkl {mu : Nat → Nat} {G H : GG} {b n : Nat} {x : Prop} (U : MU mu G H) (g : b < G.1) (h : ¬ (x ∨ G.2.2 b ≤ n)) : ¬ (x ∨ H.2.2 (mu b) ≤ n) := by
  rw [(U.2 b g).2.2]
  exact h
theorem chkc {mu : Nat → Nat} {G H : GG} {b c i j : Nat} {x y z : Prop} (U : MU mu G H) (g : b < G.1) (g' : c < G.1) (h : x ∧ y ∧ z ∧ i ≤ G.2.2 b ∧ j ≤ G.2.2 c) : x ∧ y ∧ z ∧ i ≤ H.2.2 (mu b) ∧ j ≤ H.2.2 (mu c) := by
  rw [(U.2 b g).2.2, (U.2 c g').2.2]
  exact h
theorem len_e {mu : Nat → Nat} {G H : GG} {b : Nat} (U : MU mu G H) (g : b < G.1) : H.2.2 (mu b) = G.2.2 b := (U.2 b g).2.2
/-! references -/
theorem rx_c {mu : Nat → Nat} {G H : GG} {M N : DD} {p : Nat} {L : List Nat} (t : CX mu G H M N p L) {a k b : Nat} (ha : a = 125 ∨ a = 138 ∨ a = 148 ∨ a = 215) (h : fT a k = b) (hb : 0 < b) : M.2 a k = some b ∧ N.2 (mu a) k = some (mu b) := by
  subst h
  exact t.2.1.1 a k ha hb
theorem rx_p {mu : Nat → Nat} {G H : GG} {M N : DD} {p : Nat} {L : List Nat} (t : CX mu G H M N p L) : M.2 125 0 = some p ∧ N.2 (mu 125) 0 = some (mu p) := ⟨t.2.1.2.1.1, t.2.1.2.1.2.1⟩
theorem cx_p {mu : Nat → Nat} {G H : GG} {M N : DD} {p : Nat} {L : List Nat} (t : CX mu G H M N p L) : p ∈ L := t.2.1.2.1.2.2
theorem cx_q0 {mu : Nat → Nat} {G H : GG} {M N : DD} {p : Nat} {L : List Nat} (t : CX mu G H M N p L) {q : Nat} (hq : q ∈ L) : 234 ≤ q := (t.2.1.2.2.1 q hq).1
theorem rx_3 {mu : Nat → Nat} {G H : GG} {M N : DD} {p : Nat} {L : List Nat} (t : CX mu G H M N p L) {q : Nat} (hq : q ∈ L) : M.2 q 3 = some (q + 1) ∧ N.2 (mu q) 3 = some (mu (q + 1)) := (t.2.1.2.2.1 q hq).2.1
theorem rx_4 {mu : Nat → Nat} {G H : GG} {M N : DD} {p : Nat} {L : List Nat} (t : CX mu G H M N p L) {q : Nat} (hq : q ∈ L) : M.2 q 4 = some (q + 2) ∧ N.2 (mu q) 4 = some (mu (q + 2)) := (t.2.1.2.2.1 q hq).2.2.1
theorem rx_5 {mu : Nat → Nat} {G H : GG} {M N : DD} {p : Nat} {L : List Nat} (t : CX mu G H M N p L) {q : Nat} (hq : q ∈ L) : M.2 q 5 = some (q + 6) ∧ N.2 (mu q) 5 = some (mu (q + 6)) := (t.2.1.2.2.1 q hq).2.2.2.1
theorem rx_6 {mu : Nat → Nat} {G H : GG} {M N : DD} {p : Nat} {L : List Nat} (t : CX mu G H M N p L) {q : Nat} (hq : q ∈ L) : M.2 q 6 = some (q + 7) ∧ N.2 (mu q) 6 = some (mu (q + 7)) := (t.2.1.2.2.1 q hq).2.2.2.2.1
theorem rx_7 {mu : Nat → Nat} {G H : GG} {M N : DD} {p : Nat} {L : List Nat} (t : CX mu G H M N p L) {q : Nat} (hq : q ∈ L) : M.2 q 7 = some (q + 8) ∧ N.2 (mu q) 7 = some (mu (q + 8)) := (t.2.1.2.2.1 q hq).2.2.2.2.2.1
theorem rx_d0 {mu : Nat → Nat} {G H : GG} {M N : DD} {p : Nat} {L : List Nat} (t : CX mu G H M N p L) {q : Nat} (hq : q ∈ L) : M.2 (q + 2) 0 = some (q + 9) ∧ N.2 (mu (q + 2)) 0 = some (mu (q + 9)) := (t.2.1.2.2.1 q hq).2.2.2.2.2.2.1
theorem rx_d1 {mu : Nat → Nat} {G H : GG} {M N : DD} {p : Nat} {L : List Nat} (t : CX mu G H M N p L) {q : Nat} (hq : q ∈ L) : M.2 (q + 2) 1 = some (q + 10) ∧ N.2 (mu (q + 2)) 1 = some (mu (q + 10)) := (t.2.1.2.2.1 q hq).2.2.2.2.2.2.2.1
theorem rx_d2 {mu : Nat → Nat} {G H : GG} {M N : DD} {p : Nat} {L : List Nat} (t : CX mu G H M N p L) {q : Nat} (hq : q ∈ L) : M.2 (q + 2) 2 = some (q + 11) ∧ N.2 (mu (q + 2)) 2 = some (mu (q + 11)) := (t.2.1.2.2.1 q hq).2.2.2.2.2.2.2.2
theorem rx_dv {mu : Nat → Nat} {G H : GG} {M N : DD} {p : Nat} {L : List Nat} (t : CX mu G H M N p L) {q : Nat} (hq : q ∈ L) {x : Int32} {a : Int} (hx : TI x a) (h0 : 0 ≤ a) (h1 : a ≤ 2) : ∃ j, (j = 9 ∨ j = 10 ∨ j = 11) ∧ (M.2 (q + 2) x.toNatClampNeg = some (q + j) ∧ N.2 (mu (q + 2)) x.toNatClampNeg = some (mu (q + j))) := by
  have e : x.toInt = a := hx
  have e2 := nat_of (x := x) (by omega)
  have h : x.toNatClampNeg = 0 ∨ x.toNatClampNeg = 1 ∨ x.toNatClampNeg = 2 := by omega
  rcases h with h | h | h
  · rw [h]; exact ⟨9, Or.inl rfl, rx_d0 t hq⟩
  · rw [h]; exact ⟨10, Or.inr (Or.inl rfl), rx_d1 t hq⟩
  · rw [h]; exact ⟨11, Or.inr (Or.inr rfl), rx_d2 t hq⟩
/-- an entry of the lists is none on both sides, or a PICTURE and its image -/
def OR (mu : Nat → Nat) (L : List Nat) (o o' : Option Nat) : Prop := (o = none ∧ o' = none) ∨ ∃ q, q ∈ L ∧ o = some q ∧ o' = some (mu q)
def OT (mu : Nat → Nat) (o o' : Option Nat) : Prop := ∃ c, (c = 140 ∨ c = 141) ∧ o = some c ∧ o' = some (mu c)
theorem rx_l {mu : Nat → Nat} {G H : GG} {M N : DD} {p : Nat} {L : List Nat} (t : CX mu G H M N p L) (k : Nat) : OR mu L (M.2 126 k) (N.2 (mu 126) k) := t.2.1.2.2.2 k
theorem or_iff {mu : Nat → Nat} {L : List Nat} {o o' : Option Nat} (h : OR mu L o o') : o = none ↔ o' = none := by
  rcases h with ⟨a, b⟩ | ⟨q, _, a, b⟩
  · simp [a, b]
  · simp [a, b]
theorem or_ne {mu : Nat → Nat} {L : List Nat} {o o' : Option Nat} (h : OR mu L o o') (n : ¬ o = none) : ∃ q, q ∈ L ∧ (o = some q ∧ o' = some (mu q)) := by
  rcases h with ⟨a, b⟩ | ⟨q, h1, a, b⟩
  · exact absurd a n
  · exact ⟨q, h1, a, b⟩
/-! values -/
theorem cx_i {mu : Nat → Nat} {G H : GG} {M N : DD} {p : Nat} {L : List Nat} (t : CX mu G H M N p L) {x : Int32} {a : Int} (hx : TI x a) (h0 : 0 ≤ a) (h : a % 8 ≠ 1) : Ag mu M N 129 x.toNatClampNeg := by
  refine t.2.2.1 129 _ ?_
  have e : x.toInt = a := hx
  have e2 := nat_of (x := x) (by omega)
  have : x.toNatClampNeg % 8 ≠ 1 := by omega
  simpa [BAC] using this
theorem bm8 (z : Int) : z.bmod (2 ^ 32) % 8 = z % 8 := by
  have h := Int.bmod_emod (x := z) (m := 2 ^ 32)
  have e : (z.bmod (2 ^ 32)) % ((2 ^ 32 : Nat) : Int) = z % ((2 ^ 32 : Nat) : Int) := h
  have e2 : ((2 ^ 32 : Nat) : Int) = 4294967296 := by decide
  rw [e2] at e
  omega
theorem cx_i8 {mu : Nat → Nat} {G H : GG} {M N : DD} {p : Nat} {L : List Nat} (t : CX mu G H M N p L) {x y c : Int32} {n : Nat} (e : x = (8 : Int32) * y + c) (hk : ¬ (x < 0 ∨ n ≤ x.toNatClampNeg)) (hc : c.toInt % 8 ≠ 1) : Ag mu M N 129 x.toNatClampNeg := by
  have h0 : ¬ x.toInt < 0 := fun q => hk (Or.inl (pz_lt.mpr q))
  refine cx_i t (rfl : TI x x.toInt) (by omega) ?_
  have h1 : x.toInt = ((8 * y).toInt + c.toInt).bmod (2 ^ 32) := by rw [e, Int32.toInt_add]
  have h2 : (8 * y).toInt = ((8 : Int32).toInt * y.toInt).bmod (2 ^ 32) := Int32.toInt_mul _ _
  have h3 := bm8 ((8 * y).toInt + c.toInt)
  have h4 := bm8 ((8 : Int32).toInt * y.toInt)
  have e8 : (8 : Int32).toInt = 8 := rfl
  rw [e8] at h2 h4
  rw [← h1] at h3
  rw [← h2] at h4
  omega
theorem cx_r {mu : Nat → Nat} {G H : GG} {M N : DD} {p : Nat} {L : List Nat} (t : CX mu G H M N p L) {c : Nat} (k : Nat) (h : c = 130 ∨ c = 131 ∨ c = 132 ∨ c = 133) : Ag mu M N c k := by
  refine t.2.2.1 c k ?_
  rcases h with rfl | rfl | rfl | rfl <;> rfl
theorem cx_k {mu : Nat → Nat} {G H : GG} {M N : DD} {p : Nat} {L : List Nat} (t : CX mu G H M N p L) {c k : Nat} (h : BAC c k = true) : Ag mu M N c k := t.2.2.1 c k h
theorem cx_q {mu : Nat → Nat} {G H : GG} {M N : DD} {p : Nat} {L : List Nat} (t : CX mu G H M N p L) {q j k : Nat} (hq : q ∈ L) (h : BAQ j k = true) : Ag mu M N (q + j) k := t.2.2.2.1 q j k hq h
theorem cx_qj {mu : Nat → Nat} {G H : GG} {M N : DD} {p : Nat} {L : List Nat} (t : CX mu G H M N p L) {q j : Nat} (hq : q ∈ L) (hj : 6 ≤ j ∧ j ≤ 11) (k : Nat) : Ag mu M N (q + j) k := by
  refine t.2.2.2.1 q j k hq ?_
  have h0 : ¬ j = 0 := by omega
  simp [BAQ, h0, hj.1, hj.2]
theorem cx_pl {mu : Nat → Nat} {G H : GG} {M N : DD} {p : Nat} {L : List Nat} (t : CX mu G H M N p L) {q j : Nat} (hq : q ∈ L) (hj : j = 9 ∨ j = 10 ∨ j = 11) (k : Nat) : Ag mu M N (q + j) k := cx_qj t hq (by omega) k
theorem cx_b {mu : Nat → Nat} {G H : GG} {M N : DD} {p : Nat} {L : List Nat} (t : CX mu G H M N p L) : 0 ≤ (M.1 220 6).toInt ∧ (M.1 220 6).toInt ≤ 0 := by
  have := t.2.2.2.2.1.1
  omega
theorem cx_w {mu : Nat → Nat} {G H : GG} {M N : DD} {p : Nat} {L : List Nat} (t : CX mu G H M N p L) (h1 : (M.1 216 1).toInt ≠ 1) (h2 : (M.1 220 5).toInt ≠ 0) (k : Nat) : Ag mu M N 219 k := t.2.2.2.2.2 h1 h2 k
/-! what both have written: places told by a function of a number -/
def WG (mu : Nat → Nat) (M N : DD) (c : Nat) (lo hi : Int) (f : Int → Int) : Prop := ∀ j : Int, lo ≤ j → j < hi → Ag mu M N c (f j).toNat
theorem wg_up {mu : Nat → Nat} {κ : Nat} {M N M' N' : DD} {c : Nat} {lo hi : Int} {f : Int → Int} (u : Up mu κ M N M' N') (h : WG mu M N c lo hi f) : WG mu M' N' c lo hi f := fun j h1 h2 => ag_up u (h j h1 h2)
theorem wg_0 {mu : Nat → Nat} {M N : DD} {c : Nat} {lo hi : Int} {f : Int → Int} (h : hi ≤ lo) : WG mu M N c lo hi f := fun j h1 h2 => by omega
theorem ti_n {x : Int32} {a : Int} (hx : TI x a) : x.toNatClampNeg = a.toNat := by
  have e : x.toInt = a := hx
  show x.toInt.toNat = a.toNat
  rw [e]
theorem wg_use {mu : Nat → Nat} {M N : DD} {c : Nat} {lo hi : Int} {f : Int → Int} (h : WG mu M N c lo hi f) {x : Int32} {a : Int} (hx : TI x a) (j : Int) (h1 : lo ≤ j) (h2 : j < hi) (e : f j = a) : Ag mu M N c x.toNatClampNeg := by
  rw [ti_n hx, ← e]
  exact h j h1 h2
theorem wg_at {mu : Nat → Nat} {M N : DD} {c : Nat} {lo hi : Int} {f : Int → Int} (h : WG mu M N c lo hi f) {a : Int} (j : Int) (h1 : lo ≤ j) (h2 : j < hi) (e : f j = a) : Ag mu M N c a.toNat := by
  rw [← e]
  exact h j h1 h2
theorem wg_ext {mu : Nat → Nat} {M N : DD} {c : Nat} {lo hi h2 : Int} {f : Int → Int} (h : WG mu M N c lo hi f) {x : Int32} {a : Int} (hx : TI x a) (A : Ag mu M N c x.toNatClampNeg) (e : f hi = a) (h3 : h2 ≤ hi + 1) : WG mu M N c lo h2 f := by
  intro j g1 g2
  by_cases hj : j < hi
  · exact h j g1 hj
  · have e2 : j = hi := by omega
    rw [e2, e, ← ti_n hx]
    exact A
theorem wg_sub {mu : Nat → Nat} {M N : DD} {c : Nat} {lo hi l2 h2 : Int} {f : Int → Int} (h : WG mu M N c lo hi f) (h3 : lo ≤ l2) (h4 : h2 ≤ hi) : WG mu M N c l2 h2 f := fun j g1 g2 => h j (by omega) (by omega)
theorem ag_n {mu : Nat → Nat} {M N : DD} {c k : Nat} {x : Int32} {a : Int} (hx : TI x a) (A : Ag mu M N c x.toNatClampNeg) (e : a = k) : Ag mu M N c k := by
  have h := ti_n hx
  have : x.toNatClampNeg = k := by omega
  rw [← this]
  exact A
theorem ag_t {mu : Nat → Nat} {M N : DD} {c : Nat} {x : Int32} {a b : Int} (hx : TI x a) (A : Ag mu M N c b.toNat) (e : a = b) : Ag mu M N c x.toNatClampNeg := by
  rw [ti_n hx, e]
  exact A
/-- a whole row -/
def RWH (mu : Nat → Nat) (G : GG) (M N : DD) (c : Nat) : Prop := ∀ k, k < G.2.2 c → Ag mu M N c k
theorem rw_up {mu : Nat → Nat} {κ : Nat} {G : GG} {M N M' N' : DD} {c : Nat} (u : Up mu κ M N M' N') (h : RWH mu G M N c) : RWH mu G M' N' c := fun k h1 => ag_up u (h k h1)
theorem rw_use {mu : Nat → Nat} {G : GG} {M N : DD} {c n : Nat} {x : Prop} (h : RWH mu G M N c) (hc : ¬ (x ∨ G.2.2 c ≤ n)) : Ag mu M N c n := h n (by
  have : ¬ G.2.2 c ≤ n := fun q => hc (Or.inr q)
  omega)
theorem wg_id {mu : Nat → Nat} {M N : DD} {c : Nat} {lo hi : Int} (h : WG mu M N c lo hi (fun j => j)) {x : Int32} {a : Int} (hx : TI x a) (h1 : lo ≤ a) (h2 : a < hi) : Ag mu M N c x.toNatClampNeg := by
  rw [ti_n hx]
  exact h a h1 h2
theorem wg_cv {mu : Nat → Nat} {M N : DD} {c : Nat} {lo hi : Int} {f g : Int → Int} (h : WG mu M N c lo hi f) (e : ∀ j, lo ≤ j → j < hi → f j = g j) : WG mu M N c lo hi g := by
  intro j h1 h2
  rw [← e j h1 h2]
  exact h j h1 h2
theorem wg_cs {mu : Nat → Nat} {M N : DD} {c : Nat} {lo hi l2 h2 : Int} {f g : Int → Int} (h : WG mu M N c lo hi f) (h3 : lo ≤ l2) (h4 : h2 ≤ hi) (e : ∀ j, l2 ≤ j → j < h2 → f j = g j) : WG mu M N c l2 h2 g := by
  intro j h1 h2
  rw [← e j h1 h2]
  exact h j (by omega) (by omega)
theorem wg_fn {mu : Nat → Nat} {M N : DD} {c : Nat} {lo hi l2 h2 : Int} {g : Int → Int} (h : WG mu M N c lo hi (fun j => j)) (e : ∀ j, l2 ≤ j → j < h2 → lo ≤ g j ∧ g j < hi) : WG mu M N c l2 h2 g := fun j h1 h2 => h (g j) (e j h1 h2).1 (e j h1 h2).2
theorem wg_app {mu : Nat → Nat} {M N : DD} {c : Nat} {lo m m' n h2 : Int} (h : WG mu M N c lo m (fun j => j)) (g : WG mu M N c 0 n (fun j => m' + j)) (e : m' = m) (h3 : h2 ≤ m + n) : WG mu M N c lo h2 (fun j => j) := by
  intro j h1 h4
  by_cases q : j < m
  · exact h j h1 q
  · exact wg_at g (j - m) (by omega) (by omega) (by dsimp only; omega)
theorem wg_ex2 {mu : Nat → Nat} {M N : DD} {c : Nat} {lo hi h2 : Int} {f : Int → Int} (h : WG mu M N c lo hi f) (A : Ag mu M N c (f hi).toNat) (h3 : h2 ≤ hi + 1) : WG mu M N c lo h2 f := by
  intro j g1 g2
  by_cases hj : j < hi
  · exact h j g1 hj
  · have e2 : j = hi := by omega
    rw [e2]
    exact A
theorem wg_sd {mu : Nat → Nat} {M N : DD} {c : Nat} {n m : Int} (h1 : WG mu M N c 0 n (fun j => 1 + j)) (h2 : WG mu M N c 0 n (fun j => n + 2 + j)) (h3 : Ag mu M N c 0) (h4 : Ag mu M N c (n + 1).toNat) (hm : m ≤ 2 * n + 2) : WG mu M N c 0 m (fun j => j) := by
  intro j g1 g2
  by_cases q1 : j = 0
  · rw [q1]; exact h3
  · by_cases q2 : j ≤ n
    · exact wg_at h1 (j - 1) (by omega) (by omega) (by dsimp only; omega)
    · by_cases q3 : j = n + 1
      · rw [q3]; exact h4
      · exact wg_at h2 (j - n - 2) (by omega) (by omega) (by dsimp only; omega)
theorem wg_6 {mu : Nat → Nat} {M N : DD} {c : Nat} (h1 : WG mu M N c 0 2 (fun j => 3 * j)) (h2 : WG mu M N c 0 2 (fun j => 3 * j + 1)) (h3 : WG mu M N c 0 2 (fun j => 3 * j + 2)) : WG mu M N c 0 6 (fun j => j) := by
  intro j g1 g2
  by_cases q1 : j % 3 = 0
  · exact wg_at h1 (j / 3) (by omega) (by omega) (by dsimp only; omega)
  · by_cases q2 : j % 3 = 1
    · exact wg_at h2 (j / 3) (by omega) (by omega) (by dsimp only; omega)
    · exact wg_at h3 (j / 3) (by omega) (by omega) (by dsimp only; omega)
theorem wg_src {mu : Nat → Nat} {M N : DD} {c : Nat} {lo hi : Int} (n : Nat) (h : WG mu M N c lo hi (fun j => j)) {x : Int32} {a : Int} (hx : TI x a) (h0 : 0 ≤ a) (h1 : lo ≤ a) (h2 : a + n ≤ hi) : ∀ k, k < n → Ag mu M N c (x.toNatClampNeg + k) := by
  intro k hk
  have e := ti_n hx
  have e2 : x.toNatClampNeg + k = (a + k).toNat := by omega
  rw [e2]
  exact h (a + k) (by omega) (by omega)
theorem wg_row {mu : Nat → Nat} {M N : DD} {c j n : Nat} (h : ∀ x, x < n → Ag mu M N c (j + x)) (e : j = 0) : WG mu M N c 0 n (fun j => j) := by
  intro k h1 h2
  have := h k.toNat (by omega)
  rw [e, Nat.zero_add] at this
  exact this
/-- squares -/
def WQ (mu : Nat → Nat) (M N : DD) (c : Nat) (nr nc : Int) (f : Int → Int → Int) : Prop := ∀ r x : Int, 0 ≤ r → r < nr → 0 ≤ x → x < nc → Ag mu M N c (f r x).toNat
theorem wq_up {mu : Nat → Nat} {κ : Nat} {M N M' N' : DD} {c : Nat} {nr nc : Int} {f : Int → Int → Int} (u : Up mu κ M N M' N') (h : WQ mu M N c nr nc f) : WQ mu M' N' c nr nc f := fun r x h1 h2 h3 h4 => ag_up u (h r x h1 h2 h3 h4)
theorem wq_0 {mu : Nat → Nat} {M N : DD} {c : Nat} {nr nc : Int} {f : Int → Int → Int} (h : nr ≤ 0) : WQ mu M N c nr nc f := fun r x h1 h2 => by omega
theorem wq_sub {mu : Nat → Nat} {M N : DD} {c : Nat} {nr n2 nc : Int} {f : Int → Int → Int} (h : WQ mu M N c nr nc f) (h2 : n2 ≤ nr) : WQ mu M N c n2 nc f := fun r x h1 h3 h4 h5 => h r x h1 (by omega) h4 h5
theorem wq_use {mu : Nat → Nat} {M N : DD} {c : Nat} {nr nc : Int} {f : Int → Int → Int} (h : WQ mu M N c nr nc f) {i : Int32} {a : Int} (hx : TI i a) (r x : Int) (h1 : 0 ≤ r) (h2 : r < nr) (h3 : 0 ≤ x) (h4 : x < nc) (e : f r x = a) : Ag mu M N c i.toNatClampNeg := by
  rw [ti_n hx, ← e]
  exact h r x h1 h2 h3 h4
theorem wq_cs {mu : Nat → Nat} {M N : DD} {c : Nat} {nr nc r2 c2 : Int} {f g : Int → Int → Int} (h : WQ mu M N c nr nc f) (h3 : r2 ≤ nr) (h4 : c2 ≤ nc) (e : ∀ r x, 0 ≤ r → r < r2 → 0 ≤ x → x < c2 → f r x = g r x) : WQ mu M N c r2 c2 g := by
  intro r x h1 h2 h5 h6
  rw [← e r x h1 h2 h5 h6]
  exact h r x h1 (by omega) h5 (by omega)
/-- a reference, and its entry stands in the list -/
def EN (M : DD) (l : Nat) (v : Int32) : Prop := (0 ≤ v.toInt ∧ v.toInt ≤ 7) ∧ ¬ M.2 126 (9 * l + v.toInt.toNat) = none
theorem en_ix {M : DD} {l : Nat} {v : Int32} (h : EN M l v) (k : Nat) {n : Nat} (e : n = 9 * l + v.toInt.toNat) : ¬ M.2 126 n = none := by
  rw [e]
  exact h.2
theorem wq_ext {mu : Nat → Nat} {M N : DD} {c : Nat} {nr n2 nc m : Int} {f : Int → Int → Int} {g : Int → Int} (h : WQ mu M N c nr nc f) (k : WG mu M N c 0 m g) (hm : nc ≤ m) (e : ∀ j, 0 ≤ j → j < nc → g j = f nr j) (h2 : n2 ≤ nr + 1) : WQ mu M N c n2 nc f := by
  intro r x h1 h3 h4 h5
  by_cases q : r < nr
  · exact h r x h1 q h4 h5
  · have e2 : r = nr := by omega
    rw [e2, ← e x h4 h5]
    exact k x h4 (by omega)
theorem wq_wg {mu : Nat → Nat} {M N : DD} {c : Nat} {nr nc lo hi : Int} {f : Int → Int → Int} {g : Int → Int} (h : WQ mu M N c nr nc f) (r x : Int → Int) (e : ∀ j, lo ≤ j → j < hi → (0 ≤ r j ∧ r j < nr) ∧ (0 ≤ x j ∧ x j < nc) ∧ f (r j) (x j) = g j) : WG mu M N c lo hi g := by
  intro j h1 h2
  obtain ⟨⟨a1, a2⟩, ⟨a3, a4⟩, a5⟩ := e j h1 h2
  rw [← a5]
  exact h _ _ a1 a2 a3 a4
theorem wg_wq {mu : Nat → Nat} {M N : DD} {c : Nat} {nr nc lo hi : Int} {f : Int → Int → Int} {g : Int → Int} (h : WG mu M N c lo hi g) (k : Int → Int → Int) (e : ∀ r x, 0 ≤ r → r < nr → 0 ≤ x → x < nc → (lo ≤ k r x ∧ k r x < hi) ∧ g (k r x) = f r x) : WQ mu M N c nr nc f := by
  intro r x h1 h2 h3 h4
  obtain ⟨⟨a1, a2⟩, a5⟩ := e r x h1 h2 h3 h4
  rw [← a5]
  exact h _ a1 a2
/-- the sixteen places by the scan -/
def zzA (j : Int) : Int := 4 * ((sT 15).getD j.toNat 0).toInt + ((sT 14).getD j.toNat 0).toInt
theorem zz_all : ∀ i : Nat, i < 16 → ∃ j : Nat, j < 16 ∧ zzA j = i := by decide
theorem rw_zz {mu : Nat → Nat} {G H : GG} {M N : DD} {p : Nat} {L : List Nat} (t : CX mu G H M N p L) (h : WG mu M N 146 0 16 (fun j => zzA j)) : RWH mu G M N 146 := by
  intro k hk
  rw [t.2.2.2.2.1.2.2] at hk
  obtain ⟨j, h1, h2⟩ := zz_all k hk
  have h5 : Ag mu M N 146 (zzA (j : Int)).toNat := h j (by omega) (by omega)
  rw [h2] at h5
  exact h5
theorem wg_13 {mu : Nat → Nat} {M N : DD} {c : Nat} (h1 : WG mu M N c 0 4 (fun j => 3 - j)) (h2 : WG mu M N c 0 4 (fun j => 5 + j)) (h3 : Ag mu M N c 4) (h4 : WG mu M N c 4 8 (fun j => 5 + j)) : WG mu M N c 0 13 (fun j => j) := by
  intro j g1 g2
  by_cases q1 : j < 4
  · exact wg_at h1 (3 - j) (by omega) (by omega) (by dsimp only; omega)
  · by_cases q2 : j = 4
    · rw [q2]; exact h3
    · by_cases q3 : j < 9
      · exact wg_at h2 (j - 5) (by omega) (by omega) (by dsimp only; omega)
      · exact wg_at h4 (j - 5) (by omega) (by omega) (by dsimp only; omega)
theorem cx_s {mu : Nat → Nat} {G H : GG} {M N : DD} {p : Nat} {L : List Nat} (t : CX mu G H M N p L) {x : Int32} {a : Int} (hx : TI x a) (h : a = 22 ∨ a = 23) : Ag mu M N 216 x.toNatClampNeg := by
  have e := ti_n hx
  rcases h with rfl | rfl
  · rw [e]; exact cx_k t rfl
  · rw [e]; exact cx_k t rfl
theorem cx_l145 {mu : Nat → Nat} {G H : GG} {M N : DD} {p : Nat} {L : List Nat} (t : CX mu G H M N p L) : G.2.2 145 ≤ 900000 := by
  have := t.2.2.2.2.1.2.1
  omega
theorem cx_l146 {mu : Nat → Nat} {G H : GG} {M N : DD} {p : Nat} {L : List Nat} (t : CX mu G H M N p L) : G.2.2 146 ≤ 900000 := by
  have := t.2.2.2.2.1.2.2
  omega
/-! a row that is filled, a row that is copied -/
theorem rl_fill {mu : Nat → Nat} {κ : Nat} {G H : GG} {M N : DD} {b : Nat} {o o' : Option Nat} {v : Int32} (U : MU mu G H) (e : o = some b ∧ o' = some (mu b)) (hb : b ≠ 216 ∧ b ≠ 220 ∧ b ≠ κ) (hl : G.2.2 b ≤ 900000) : LKS (FJ7_fill_53178 G M o v) (FJ7_fill_53178 H N o' v) (fun y z => Up mu κ M N y z ∧ RWH mu G y z b) := by
  obtain ⟨rfl, rfl⟩ := e
  unfold FJ7_fill_53178
  refine rl_dr U ⟨rfl, rfl⟩ (fun gb => ?_)
  rw [len_e U gb]
  refine rl_ltE (fun x2 e2 => ?_)
  have h4 : x2.toInt = G.2.2 b := by
    rw [e2, Int32.toInt_ofNat_of_lt (by omega)]
  clear e2
  refine rl_bnd (Q := fun (y z : Int32 × DD) => Up mu κ M N y.2 z.2 ∧ RWH mu G y.2 z.2 b) (rl_itr (fun (s u : Int32 × DD) => u.1 = s.1 ∧ 0 ≤ s.1.toInt ∧ Up mu κ M N s.2 u.2 ∧ ∀ k : Nat, k < s.1.toNatClampNeg → Ag mu s.2 u.2 b k) _ ?_ _ _ _ ?_) ?_
  · rintro ⟨s1, s2⟩ ⟨u1, u2⟩ ⟨e, h0, f, w⟩
    dsimp only at e h0 f w ⊢
    subst e
    have h2 := nat_of (x := u1) h0
    refine rl_if (fun c => rl_inr ⟨f, ?_⟩) (fun c => ?_)
    · intro k hk
      apply w
      have h1 := pz_le.mp c
      omega
    · have h1 : ¬ x2.toInt ≤ u1.toInt := fun q => c (pz_le.mpr q)
      refine rl_chk (fun h => h) (fun hc => ?_)
      refine rl_w U hb (fun M' N' u A hn => ?_)
      have e1 : (1 : Int32).toInt = 1 := rfl
      have e9 : (u1 + 1).toInt = u1.toInt + 1 := ti_add (by omega) (by omega)
      have e8 := nat_of (x := u1 + 1) (by omega)
      refine rl_ltt ?_
      refine rl_inl ⟨rfl, by dsimp only; omega, up_tr f u, ?_⟩
      intro k hk
      dsimp only at hk ⊢
      by_cases hq : k = u1.toNatClampNeg
      · rw [hq]; exact A
      · exact ag_up u (w k (by omega))
  · exact ⟨rfl, (by decide : 0 ≤ (0 : Int32).toInt), up_0 mu M N, fun k hk => absurd (show k < 0 from hk) (Nat.not_lt_zero _)⟩
  · rintro ⟨y1, y2⟩ ⟨z1, z2⟩ h
    exact rl_some h
