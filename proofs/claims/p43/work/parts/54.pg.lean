/-! what holds of an answer, if there is one; parts and groups of a BLOCK by lists -/
def PC {α : Type} (o : Option α) (P : α → Prop) : Prop := ∀ y, o = some y → P y
theorem pc_some {α : Type} {x : α} {P : α → Prop} (h : P x) : PC (some x) P := by
  intro y e
  injection e with e
  rw [← e]
  exact h
theorem pc_chk {α : Type} {c : Prop} [Decidable c] {k : Option α} {P : α → Prop} (h : c → PC k P) : PC (chk c k) P := by
  intro y e
  obtain ⟨h1, h2⟩ := chk_some e
  exact h h1 y h2
theorem pc_ltt {α β : Type} {x : α} {k : α → Option β} {P : β → Prop} (h : ∀ v, v = x → PC (k v) P) : PC (ltt x k) P := h x rfl
theorem pc_bnd {α β : Type} {o : Option α} {k : α → Option β} {Q : α → Prop} {P : β → Prop} (ho : PC o Q) (h : ∀ x, Q x → PC (k x) P) : PC (bnd o k) P := by
  intro y e
  obtain ⟨x, h1, h2⟩ := bnd_some e
  exact h x (ho x h1) y h2
theorem pc_if {α : Type} {c : Prop} [Decidable c] {a b : Option α} {P : α → Prop} (h1 : c → PC a P) (h2 : ¬ c → PC b P) : PC (if c then a else b) P := by
  by_cases hc : c
  · rw [if_pos hc]; exact h1 hc
  · rw [if_neg hc]; exact h2 hc
theorem pc_dr {α : Type} {G : GG} {κ : Nat} {o : Option Nat} {k : Nat → Option α} {P : α → Prop} (h : ∀ b, o = some b → PC (k b) P) : PC (dr G κ o k) P := by
  intro y e
  obtain ⟨b, h1, _, _, h2⟩ := dr_some e
  exact h b h1 y h2
theorem pc_drF {α : Type} {G : GG} {κ c : Nat} {o : Option Nat} {k : Nat → Option α} {P : α → Prop} (ho : o = some c) (h : PC (k c) P) : PC (dr G κ o k) P := by
  refine pc_dr (fun b hb => ?_)
  rw [ho] at hb
  injection hb with hb
  rw [← hb]
  exact h
theorem pc_itr {σ ρ : Type} {b : σ → Option (σ ⊕ ρ)} (I : σ → Prop) {P : ρ → Prop} (hs : ∀ s, I s → PC (b s) (fun z => match z with
  | .inl t => I t
  | .inr r => P r)) : ∀ (n : Nat) (s : σ), I s → PC (itr b n s) P := by
  intro n
  induction n with
  | zero => intro s _ y e; cases e
  | succ n ih =>
    intro s hI y e
    obtain ⟨z, h1, h2⟩ := itr_s e
    have h3 := hs s hI z h1
    cases z with
    | inl t => exact ih t h3 y h2
    | inr r => rw [← (show r = y from h2)]; exact h3
theorem ok_pc {α : Type} {o : Option α} {P Q : α → Prop} (h : OK o P) (g : PC o Q) : OK o (fun y => P y ∧ Q y) := by
  obtain ⟨y, h1, h2⟩ := h
  exact ⟨y, h1, h2, g y h1⟩
theorem PC.mono {α : Type} {o : Option α} {P Q : α → Prop} (h : PC o P) (g : ∀ y, P y → Q y) : PC o Q := fun y e => g y (h y e)
theorem PC.and {α : Type} {o : Option α} {P Q : α → Prop} (h : PC o P) (g : PC o Q) : PC o (fun y => P y ∧ Q y) := fun y e => ⟨h y e, g y e⟩
/-- an index that was checked is one -/
theorem nx_of {x : Int32} {n : Nat} (h : ¬ (x < 0 ∨ n ≤ x.toNatClampNeg)) : 0 ≤ x.toInt ∧ (x.toNatClampNeg : Int) = x.toInt ∧ x.toNatClampNeg < n := by
  have h1 : ¬ x < 0 := fun q => h (Or.inl q)
  have h2 : ¬ n ≤ x.toNatClampNeg := fun q => h (Or.inr q)
  have h3 : ¬ x.toInt < 0 := fun q => h1 (pz_lt.mpr q)
  exact ⟨by omega, nat_of (by omega), by omega⟩
def bX (b : Int) : Int := 8 * (b / 4 % 2) + 4 * (b % 2)
def bY (b : Int) : Int := 8 * (b / 8) + 4 * (b / 2 % 2)
/-- piece b lies in the area from piece c on -/
def INs (b c w h : Int) : Prop := (0 ≤ b ∧ b ≤ 15) ∧ bX c ≤ bX b ∧ bX b < bX c + w ∧ bY c ≤ bY b ∧ bY b < bY c + h
def PGr (M : DD) (np ng : Nat) : Prop := ∀ k, k < np → ∃ g, g < ng ∧ M.1 135 (5 * k + 3) = M.1 136 (4 * g + 3) ∧ INs (M.1 135 (5 * k)).toInt (M.1 136 (4 * g)).toInt (M.1 136 (4 * g + 1)).toInt (M.1 136 (4 * g + 2)).toInt
def PGS (M : DD) (np ng : Nat) : Prop := (M.1 125 14).toInt = np ∧ (M.1 125 16).toInt = ng ∧ np ≤ 16 ∧ ng ≤ 4 ∧ PGr M np ng
def aG (M : DD) (g : Nat) (p0 p1 p2 p3 v : Int32) : DD := uI (uI (uI (uI (uI M 136 (4 * g) p0) 136 (4 * g + 1) p1) 136 (4 * g + 2) p2) 136 (4 * g + 3) p3) 125 16 v
theorem aG_n (M : DD) (g : Nat) (p0 p1 p2 p3 v : Int32) {c k : Nat} (h1 : ¬ (c = 136 ∧ 4 * g ≤ k ∧ k ≤ 4 * g + 3)) (h2 : ¬ (c = 125 ∧ k = 16)) : (aG M g p0 p1 p2 p3 v).1 c k = M.1 c k := by
  unfold aG
  rw [uI_n _ _ (by omega), uI_n _ _ (by omega), uI_n _ _ (by omega), uI_n _ _ (by omega), uI_n _ _ (by omega)]
theorem aG_0 (M : DD) (g : Nat) (p0 p1 p2 p3 v : Int32) : (aG M g p0 p1 p2 p3 v).1 136 (4 * g) = p0 ∧ (aG M g p0 p1 p2 p3 v).1 136 (4 * g + 1) = p1 ∧ (aG M g p0 p1 p2 p3 v).1 136 (4 * g + 2) = p2 ∧ (aG M g p0 p1 p2 p3 v).1 136 (4 * g + 3) = p3 ∧ (aG M g p0 p1 p2 p3 v).1 125 16 = v := by
  unfold aG
  refine ⟨?_, ?_, ?_, ?_, uI_s _ _ _ _⟩
  · rw [uI_n _ _ (by omega), uI_n _ _ (by omega), uI_n _ _ (by omega), uI_n _ _ (by omega), uI_s]
  · rw [uI_n _ _ (by omega), uI_n _ _ (by omega), uI_n _ _ (by omega), uI_s]
  · rw [uI_n _ _ (by omega), uI_n _ _ (by omega), uI_s]
  · rw [uI_n _ _ (by omega), uI_s]
def aP (M : DD) (k : Nat) (p0 p1 p2 l p3 v : Int32) : DD := uI (uI (uI (uI (uI (uI M 135 (5 * k) p0) 135 (5 * k + 1) p1) 135 (5 * k + 2) p2) 135 (5 * k + 3) l) 135 (5 * k + 4) p3) 125 14 v
theorem aP_n (M : DD) (g : Nat) (p0 p1 p2 l p3 v : Int32) {c k : Nat} (h1 : ¬ (c = 135 ∧ 5 * g ≤ k ∧ k ≤ 5 * g + 4)) (h2 : ¬ (c = 125 ∧ k = 14)) : (aP M g p0 p1 p2 l p3 v).1 c k = M.1 c k := by
  unfold aP
  rw [uI_n _ _ (by omega), uI_n _ _ (by omega), uI_n _ _ (by omega), uI_n _ _ (by omega), uI_n _ _ (by omega), uI_n _ _ (by omega)]
theorem aP_0 (M : DD) (g : Nat) (p0 p1 p2 l p3 v : Int32) : (aP M g p0 p1 p2 l p3 v).1 135 (5 * g) = p0 ∧ (aP M g p0 p1 p2 l p3 v).1 135 (5 * g + 1) = p1 ∧ (aP M g p0 p1 p2 l p3 v).1 135 (5 * g + 2) = p2 ∧ (aP M g p0 p1 p2 l p3 v).1 135 (5 * g + 3) = l ∧ (aP M g p0 p1 p2 l p3 v).1 135 (5 * g + 4) = p3 ∧ (aP M g p0 p1 p2 l p3 v).1 125 14 = v := by
  unfold aP
  refine ⟨?_, ?_, ?_, ?_, ?_, uI_s _ _ _ _⟩
  · rw [uI_n _ _ (by omega), uI_n _ _ (by omega), uI_n _ _ (by omega), uI_n _ _ (by omega), uI_n _ _ (by omega), uI_s]
  · rw [uI_n _ _ (by omega), uI_n _ _ (by omega), uI_n _ _ (by omega), uI_n _ _ (by omega), uI_s]
  · rw [uI_n _ _ (by omega), uI_n _ _ (by omega), uI_n _ _ (by omega), uI_s]
  · rw [uI_n _ _ (by omega), uI_n _ _ (by omega), uI_s]
  · rw [uI_n _ _ (by omega), uI_s]
theorem fr_r15 {M : DD} (h : FR M) : M.2 125 15 = some 136 := h 125 15 (by decide)
theorem fr_r13 {M : DD} (h : FR M) : M.2 125 13 = some 135 := h 125 13 (by decide)
theorem fr_r12 {M : DD} (h : FR M) : M.2 125 12 = some 134 := h 125 12 (by decide)
theorem sh_nat {x : Int32} {n : Nat} {a : Int} (hx : TI x a) (h : a = n) : x.toNatClampNeg = n := by
  have e : x.toInt = a := hx
  have := nat_of (x := x) (by omega)
  omega
theorem pc_addGroup {G : GG} {M : DD} (hR : FR M) (hg : G.2.2 136 = 16) {g : Nat} (h : (M.1 125 16).toInt = g) (hb : g ≤ 4) {p0 p1 p2 p3 : Int32} : PC (FX9_addGroup G M 125 p0 p1 p2 p3) (fun y => ∃ v : Int32, v.toInt = (g : Int) + 1 ∧ g ≤ 3 ∧ y = aG M g p0 p1 p2 p3 v) := by
  unfold FX9_addGroup
  refine pc_ltt (fun x1 e1 => ?_)
  have i1 : TI x1 g := by rw [e1]; exact h
  refine pc_ltt (fun x2 e2 => ?_)
  have i2 : TI x2 (4 * g) := by rw [e2]; exact av_mul tn_4 i1 (by omega) (by omega)
  refine pc_drF (fr_r15 hR) (pc_chk (fun c => ?_))
  have g3 : g ≤ 3 := by
    have q := nx_of c
    have q2 : x2.toInt = _ := i2
    omega
  have n2 : x2.toNatClampNeg = 4 * g := sh_nat i2 (by omega)
  refine pc_ltt (fun M4 e4 => pc_ltt (fun x5 e5 => ?_))
  have r4 : M4.2 = M.2 := by rw [e4]; rfl
  have n5 : x5.toNatClampNeg = 4 * g + 1 := sh_nat (by rw [e5]; exact av_add i2 tn_1 (by omega) (by omega)) (by omega)
  refine pc_drF (by rw [r4]; exact fr_r15 hR) (pc_chk (fun _ => pc_ltt (fun M7 e7 => pc_ltt (fun x8 e8 => ?_))))
  have r7 : M7.2 = M.2 := by rw [e7]; exact r4
  have n8 : x8.toNatClampNeg = 4 * g + 2 := sh_nat (by rw [e8]; exact av_add i2 tn_2 (by omega) (by omega)) (by omega)
  refine pc_drF (by rw [r7]; exact fr_r15 hR) (pc_chk (fun _ => pc_ltt (fun M10 e10 => pc_ltt (fun x11 e11 => ?_))))
  have r10 : M10.2 = M.2 := by rw [e10]; exact r7
  have n11 : x11.toNatClampNeg = 4 * g + 3 := sh_nat (by rw [e11]; exact av_add i2 tn_3 (by omega) (by omega)) (by omega)
  refine pc_drF (by rw [r10]; exact fr_r15 hR) (pc_chk (fun _ => pc_ltt (fun M13 e13 => pc_ltt (fun x14 e14 => pc_ltt (fun x15 e15 => pc_ltt (fun M16 e16 => pc_some ?_))))))
  have h13 : M13.1 125 16 = M.1 125 16 := by
    rw [e13, uI_n _ _ (by omega), e10, uI_n _ _ (by omega), e7, uI_n _ _ (by omega), e4, uI_n _ _ (by omega)]
  have i15 : x15.toInt = (g : Int) + 1 := by
    rw [e15]
    exact av_add (show TI x14 g by rw [e14, h13]; exact h) tn_1 (by omega) (by omega)
  refine ⟨x15, i15, g3, ?_⟩
  rw [e16, e13, e10, e7, e4, n2, n5, n8, n11]
  rfl
theorem pc_addPart {G : GG} {M : DD} (hR : FR M) (hg : G.2.2 135 = 80) {k : Nat} (h : (M.1 125 14).toInt = k) (hb : k ≤ 16) {g : Nat} (h2 : (M.1 125 16).toInt = g + 1) (hb2 : g ≤ 3) {p0 p1 p2 p3 : Int32} : PC (FX9_addPart G M 125 p0 p1 p2 p3) (fun y => ∃ v : Int32, v.toInt = (k : Int) + 1 ∧ k ≤ 15 ∧ y = aP M k p0 p1 p2 (M.1 136 (4 * g + 3)) p3 v) := by
  unfold FX9_addPart
  refine pc_ltt (fun x1 e1 => ?_)
  have i1 : TI x1 k := by rw [e1]; exact h
  refine pc_ltt (fun x2 e2 => ?_)
  have i2 : TI x2 (5 * k) := by rw [e2]; exact av_mul tn_5 i1 (by omega) (by omega)
  refine pc_drF (fr_r13 hR) (pc_chk (fun c => ?_))
  have g3 : k ≤ 15 := by
    have q := nx_of c
    have q2 : x2.toInt = _ := i2
    omega
  have n2 : x2.toNatClampNeg = 5 * k := sh_nat i2 (by omega)
  refine pc_ltt (fun M4 e4 => pc_ltt (fun x5 e5 => ?_))
  have r4 : M4.2 = M.2 := by rw [e4]; rfl
  have n5 : x5.toNatClampNeg = 5 * k + 1 := sh_nat (by rw [e5]; exact av_add i2 tn_1 (by omega) (by omega)) (by omega)
  refine pc_drF (by rw [r4]; exact fr_r13 hR) (pc_chk (fun _ => pc_ltt (fun M7 e7 => pc_ltt (fun x8 e8 => ?_))))
  have r7 : M7.2 = M.2 := by rw [e7]; exact r4
  have n8 : x8.toNatClampNeg = 5 * k + 2 := sh_nat (by rw [e8]; exact av_add i2 tn_2 (by omega) (by omega)) (by omega)
  refine pc_drF (by rw [r7]; exact fr_r13 hR) (pc_chk (fun _ => pc_ltt (fun M10 e10 => pc_ltt (fun x11 e11 => pc_ltt (fun x12 e12 => pc_ltt (fun x13 e13 => pc_ltt (fun x14 e14 => ?_)))))))
  have r10 : M10.2 = M.2 := by rw [e10]; exact r7
  have n11 : x11.toNatClampNeg = 5 * k + 3 := sh_nat (by rw [e11]; exact av_add i2 tn_3 (by omega) (by omega)) (by omega)
  have h10 : ∀ c j, c ≠ 135 → M10.1 c j = M.1 c j := by
    intro c j hc
    rw [e10, uI_n _ _ (by omega), e7, uI_n _ _ (by omega), e4, uI_n _ _ (by omega)]
  have i12 : TI x12 (g + 1) := by rw [e12, h10 125 16 (by decide)]; exact h2
  have i13 : TI x13 (4 * (g + 1)) := by rw [e13]; exact av_mul tn_4 i12 (by omega) (by omega)
  have n14 : x14.toNatClampNeg = 4 * g + 3 := sh_nat (by rw [e14]; exact av_sub i13 tn_1 (by omega) (by omega)) (by omega)
  refine pc_drF (by rw [r10]; exact fr_r15 hR) (pc_chk (fun _ => pc_ltt (fun x16 e16 => ?_)))
  have h16 : x16 = M.1 136 (4 * g + 3) := by rw [e16, n14, h10 136 _ (by decide)]
  refine pc_drF (by rw [r10]; exact fr_r13 hR) (pc_chk (fun _ => pc_ltt (fun M18 e18 => pc_ltt (fun x19 e19 => ?_))))
  have r18 : M18.2 = M.2 := by rw [e18]; exact r10
  have n19 : x19.toNatClampNeg = 5 * k + 4 := sh_nat (by rw [e19]; exact av_add i2 tn_4 (by omega) (by omega)) (by omega)
  refine pc_drF (by rw [r18]; exact fr_r13 hR) (pc_chk (fun _ => pc_ltt (fun M21 e21 => pc_ltt (fun x22 e22 => pc_ltt (fun x23 e23 => pc_ltt (fun M24 e24 => pc_some ?_))))))
  have h21 : M21.1 125 14 = M.1 125 14 := by
    rw [e21, uI_n _ _ (by omega), e18, uI_n _ _ (by omega), h10 125 14 (by decide)]
  have i23 : x23.toInt = (k : Int) + 1 := by
    rw [e23]
    exact av_add (show TI x22 k by rw [e22, h21]; exact h) tn_1 (by omega) (by omega)
  refine ⟨x23, i23, g3, ?_⟩
  rw [e24, e21, e18, e10, e7, e4, n2, n5, n8, n11, n19, h16]
  rfl
theorem pg_G {M : DD} {np ng : Nat} {p0 p1 p2 p3 v : Int32} (h : PGS M np ng) (hv : v.toInt = ng + 1) (hg : ng ≤ 3) : PGS (aG M ng p0 p1 p2 p3 v) np (ng + 1) := by
  obtain ⟨h1, h2, h3, h4, h5⟩ := h
  have z := aG_0 M ng p0 p1 p2 p3 v
  refine ⟨?_, ?_, h3, by omega, ?_⟩
  · rw [aG_n _ _ _ _ _ _ _ (by omega) (by omega)]; exact h1
  · rw [z.2.2.2.2, hv]; omega
  · intro k hk
    obtain ⟨g, g1, g2, g3⟩ := h5 k hk
    refine ⟨g, by omega, ?_, ?_⟩
    · rw [aG_n _ _ _ _ _ _ _ (by omega) (by omega), aG_n _ _ _ _ _ _ _ (by omega) (by omega)]
      exact g2
    · rw [aG_n _ _ _ _ _ _ _ (by omega) (by omega), aG_n _ _ _ _ _ _ _ (by omega) (by omega), aG_n _ _ _ _ _ _ _ (by omega) (by omega), aG_n _ _ _ _ _ _ _ (by omega) (by omega)]
      exact g3
theorem pg_P {M : DD} {np ng : Nat} {p0 p1 p2 p3 v : Int32} (h : PGS M np (ng + 1)) (hv : v.toInt = np + 1) (hk : np ≤ 15) (hin : INs p0.toInt (M.1 136 (4 * ng)).toInt (M.1 136 (4 * ng + 1)).toInt (M.1 136 (4 * ng + 2)).toInt) : PGS (aP M np p0 p1 p2 (M.1 136 (4 * ng + 3)) p3 v) (np + 1) (ng + 1) := by
  obtain ⟨h1, h2, h3, h4, h5⟩ := h
  have z := aP_0 M np p0 p1 p2 (M.1 136 (4 * ng + 3)) p3 v
  refine ⟨?_, ?_, by omega, h4, ?_⟩
  · rw [z.2.2.2.2.2, hv]; omega
  · rw [aP_n _ _ _ _ _ _ _ _ (by omega) (by omega)]; exact h2
  · intro k hk2
    by_cases e : k = np
    · subst e
      refine ⟨ng, by omega, ?_, ?_⟩
      · rw [z.2.2.2.1, aP_n _ _ _ _ _ _ _ _ (by omega) (by omega)]
      · rw [z.1, aP_n _ _ _ _ _ _ _ _ (by omega) (by omega), aP_n _ _ _ _ _ _ _ _ (by omega) (by omega), aP_n _ _ _ _ _ _ _ _ (by omega) (by omega)]
        exact hin
    · obtain ⟨g, g1, g2, g3⟩ := h5 k (by omega)
      refine ⟨g, g1, ?_, ?_⟩
      · rw [aP_n _ _ _ _ _ _ _ _ (by omega) (by omega), aP_n _ _ _ _ _ _ _ _ (by omega) (by omega)]
        exact g2
      · rw [aP_n _ _ _ _ _ _ _ _ (by omega) (by omega), aP_n _ _ _ _ _ _ _ _ (by omega) (by omega), aP_n _ _ _ _ _ _ _ _ (by omega) (by omega), aP_n _ _ _ _ _ _ _ _ (by omega) (by omega)]
        exact g3
/-- a group with a part in it: the two together -/
theorem pc_GP {G : GG} {M : DD} (hR : FR M) (hg : G.2.2 136 = 16 ∧ G.2.2 135 = 80) {np ng : Nat} (h : PGS M np ng) {b w v u b2 w2 v2 r : Int32} (hin : INs b2.toInt b.toInt w.toInt v.toInt) {α : Type} {k : DD → Option α} {P : α → Prop} (hk : ∀ y, FR y → PGS y (np + 1) (ng + 1) → PC (k y) P) : PC (bnd (FX9_addGroup G M 125 b w v u) fun y => bnd (FX9_addPart G y 125 b2 w2 v2 r) k) P := by
  refine pc_bnd (pc_addGroup hR hg.1 h.2.1 h.2.2.2.1) ?_
  rintro y ⟨x, x1, x2, rfl⟩
  have h1 := pg_G (p0 := b) (p1 := w) (p2 := v) (p3 := u) h x1 x2
  have z := aG_0 M ng b w v u x
  refine pc_bnd (pc_addPart (k := np) (g := ng) (show FR (aG M ng b w v u x) from hR) hg.2 h1.1 h1.2.2.1 (by rw [h1.2.1]; omega) x2) ?_
  rintro y ⟨x', x3, x4, rfl⟩
  exact hk _ hR (pg_P h1 x3 x4 (by rw [z.1, z.2.1, z.2.2.1]; exact hin))
/-- a quarter's group is there -/
def QG (M : DD) (ng : Nat) (q : Int) : Prop := FR M ∧ (∃ np, PGS M np (ng + 1)) ∧ (M.1 136 (4 * ng)).toInt = 4 * q ∧ (M.1 136 (4 * ng + 1)).toInt = 8 ∧ (M.1 136 (4 * ng + 2)).toInt = 8
theorem pc_adp {G : GG} {M : DD} {ng : Nat} {q i : Int} (h : QG M ng q) (hG : G.2.2 135 = 80) (hq : 0 ≤ q ∧ q ≤ 3) (hi : 0 ≤ i ∧ i ≤ 3) {b w v r : Int32} (hb : b.toInt = 4 * q + i) {P : DD → Prop} (hk : ∀ y, QG y ng q → P y) : PC (bnd (FX9_addPart G M 125 b w v r) fun y => some y) P := by
  obtain ⟨hR, ⟨np, hp⟩, q1, q2, q3⟩ := h
  refine pc_bnd (pc_addPart (k := np) (g := ng) hR hG hp.1 hp.2.2.1 (by rw [hp.2.1]; omega) (by have := hp.2.2.2.1; omega)) ?_
  rintro y ⟨x, x1, x2, rfl⟩
  refine pc_some (hk _ ⟨hR, ⟨np + 1, pg_P hp x1 x2 ?_⟩, ?_, ?_, ?_⟩)
  · rw [q1, q2, q3, hb]
    unfold INs bX bY
    omega
  · rw [aP_n _ _ _ _ _ _ _ _ (by omega) (by omega)]; exact q1
  · rw [aP_n _ _ _ _ _ _ _ _ (by omega) (by omega)]; exact q2
  · rw [aP_n _ _ _ _ _ _ _ _ (by omega) (by omega)]; exact q3
theorem pc_planQuarter {G : GG} {M : DD} (hR : FR M) (hG : G.2.2 136 = 16 ∧ G.2.2 135 = 80) {p0 p1 : Int32} {q : Int} (i1 : TI p1 q) (hq : 0 ≤ q ∧ q ≤ 3) {np ng : Nat} (h : PGS M np ng) : PC (FX9_planQuarter G M 125 p0 p1) (fun y => FR y ∧ ∃ np ng, PGS y np ng) := by
  unfold FX9_planQuarter
  refine pc_drF (fr_r12 hR) (pc_chk (fun _ => pc_ltt (fun x3 _ => ?_)))
  refine pc_bnd (Q := fun _ => True) (fun _ _ => trivial) (fun y4 _ => ?_)
  refine pc_bnd (Q := fun _ => True) (fun _ _ => trivial) (fun y5 _ => ?_)
  refine pc_if (fun _ => pc_some ⟨hR, np, ng, h⟩) (fun _ => ?_)
  refine pc_ltt (fun x7 e7 => ?_)
  have i7 : x7.toInt = 4 * q := by rw [e7]; exact av_mul tn_4 i1 (by omega) (by omega)
  refine pc_bnd (pc_addGroup hR hG.1 h.2.1 h.2.2.2.1) ?_
  rintro y8 ⟨x, x1, x2, rfl⟩
  have h1 := pg_G (p0 := x7) (p1 := 8) (p2 := 8) (p3 := y5) h x1 x2
  have z := aG_0 M ng x7 8 8 y5 x
  have hQ : QG (aG M ng x7 8 8 y5 x) ng q := ⟨hR, ⟨np, h1⟩, by rw [z.1]; exact i7, by rw [z.2.1]; rfl, by rw [z.2.2.1]; rfl⟩
  refine pc_bnd (Q := fun _ => True) (fun _ _ => trivial) (fun y9 _ => ?_)
  refine pc_ltt (fun x10 _ => ?_)
  refine pc_bnd (Q := fun _ => True) (fun _ _ => trivial) (fun y11 _ => ?_)
  refine pc_bnd (Q := fun (s : Int32 × DD) => QG s.2 ng q) (pc_itr (fun (s : Int32 × DD) => (0 ≤ s.1.toInt ∧ s.1.toInt ≤ 5) ∧ QG s.2 ng q) ?_ _ _ ⟨(by show (0 : Int) ≤ (0 : Int32).toInt ∧ (0 : Int32).toInt ≤ 5; decide), hQ⟩) (fun y12 h12 => ?_)
  · rintro s ⟨l, hs⟩
    refine pc_if (fun _ => pc_some hs) (fun c => ?_)
    have d := tl_nle tn_4 (rfl : TI s.1 s.1.toInt) c
    have hb : ∀ v w : Int32, v = 4 * p1 → w = v + s.1 → w.toInt = 4 * q + s.1.toInt := by
      intro v w e1 e2
      rw [e2]
      exact av_add (show TI v (4 * q) by rw [e1]; exact av_mul tn_4 i1 (by omega) (by omega)) (rfl : TI s.1 s.1.toInt) (by omega) (by omega)
    have hA : ∀ w v r : Int32, PC (ltt ((4 : Int32) * p1) fun x41 => ltt (x41 + s.1) fun x42 => bnd (FX9_addPart G s.2 125 x42 w v r) fun y43 => some y43) (fun y => QG y ng q) := fun w v r => pc_ltt (fun a ea => pc_ltt (fun b eb => pc_adp hs hG.2 hq (by omega) (hb a b ea eb) (fun y hy => hy)))
    refine pc_bnd (Q := fun y => QG y ng q) ?_ (fun y17 h17 => ?_)
    · refine pc_if (fun _ => ?_) (fun _ => ?_)
      · refine pc_bnd (Q := fun y => QG y ng q) ?_ (fun y h => pc_some h)
        refine pc_if (fun _ => pc_some hs) (fun _ => ?_)
        refine pc_bnd (Q := fun y => QG y ng q) ?_ (fun y h => pc_some h)
        refine pc_if (fun _ => ?_) (fun _ => hA _ _ _)
        refine pc_bnd (Q := fun y => QG y ng q) ?_ (fun y h => pc_some h)
        exact pc_if (fun _ => hA _ _ _) (fun _ => pc_some hs)
      · refine pc_bnd (Q := fun y => QG y ng q) ?_ (fun y h => pc_some h)
        refine pc_if (fun _ => ?_) (fun _ => hA _ _ _)
        refine pc_bnd (Q := fun y => QG y ng q) ?_ (fun y h => pc_some h)
        exact pc_if (fun _ => hA _ _ _) (fun _ => pc_some hs)
    · refine pc_bnd (Q := fun (z : Int32) => 1 ≤ z.toInt ∧ z.toInt ≤ 2) (pc_if (fun _ => pc_some (by decide)) (fun _ => pc_some (by decide))) (fun y18 h18 => ?_)
      refine pc_ltt (fun x19 e19 => pc_some ?_)
      have i19 : x19.toInt = s.1.toInt + y18.toInt := by rw [e19]; exact av_add (rfl : TI s.1 s.1.toInt) (rfl : TI y18 y18.toInt) (by omega) (by omega)
      exact ⟨by dsimp only; omega, h17⟩
  · exact pc_some ⟨h12.1, h12.2.1.elim (fun np hp => ⟨np, ng + 1, hp⟩)⟩
theorem pc_plan {G : GG} {M : DD} (hR : FR M) (hG : G.2.2 136 = 16 ∧ G.2.2 135 = 80) {p0 p1 : Int32} : PC (FX9_plan G M 125 p0 p1) (fun y => FR y ∧ ∃ np ng, PGS y np ng) := by
  unfold FX9_plan
  refine pc_ltt (fun M1 e1 => pc_ltt (fun M2 e2 => ?_))
  have h0 : PGS M2 0 0 := by
    refine ⟨?_, ?_, by omega, by omega, fun k hk => by omega⟩
    · rw [e2, uI_n _ _ (by omega), e1, uI_s]; rfl
    · rw [e2, uI_s]; rfl
  have hR2 : FR M2 := by rw [e2, e1]; exact hR
  have hs : ∀ y46 y49 y50 : Int32, PC (bnd (if y46 = (0 : Int32) then (bnd (FX9_addGroup G M2 125 (0 : Int32) (16 : Int32) (16 : Int32) y49) fun y63 =>
  bnd (FX9_addPart G y63 125 (0 : Int32) (16 : Int32) (16 : Int32) (0 : Int32)) fun y64 =>
  some (y64)) else
  (bnd (if y46 = (1 : Int32) then (bnd (FX9_addGroup G M2 125 (0 : Int32) (16 : Int32) (8 : Int32) y49) fun y59 =>
  bnd (FX9_addPart G y59 125 (0 : Int32) (16 : Int32) (8 : Int32) (1 : Int32)) fun y60 =>
  bnd (FX9_addGroup G y60 125 (8 : Int32) (16 : Int32) (8 : Int32) y50) fun y61 =>
  bnd (FX9_addPart G y61 125 (8 : Int32) (16 : Int32) (8 : Int32) (2 : Int32)) fun y62 =>
  some (y62)) else
  (bnd (FX9_addGroup G M2 125 (0 : Int32) (8 : Int32) (16 : Int32) y49) fun y55 =>
  bnd (FX9_addPart G y55 125 (0 : Int32) (8 : Int32) (16 : Int32) (3 : Int32)) fun y56 =>
  bnd (FX9_addGroup G y56 125 (4 : Int32) (8 : Int32) (16 : Int32) y50) fun y57 =>
  bnd (FX9_addPart G y57 125 (4 : Int32) (8 : Int32) (16 : Int32) (4 : Int32)) fun y58 =>
  some (y58))) fun (y53 : DD) =>
  some (y53))) fun (y51 : DD) =>
  some y51) (fun y => FR y ∧ ∃ np ng, PGS y np ng) := by
    intro y46 y49 y50
    refine pc_bnd (Q := fun y => FR y ∧ ∃ np ng, PGS y np ng) ?_ (fun y h => pc_some h)
    refine pc_if (fun _ => ?_) (fun _ => ?_)
    · exact pc_GP hR2 hG h0 (by unfold INs bX bY; decide) (fun y hy hp => pc_some ⟨hy, _, _, hp⟩)
    · refine pc_bnd (Q := fun y => FR y ∧ ∃ np ng, PGS y np ng) ?_ (fun y h => pc_some h)
      refine pc_if (fun _ => ?_) (fun _ => ?_)
      · exact pc_GP hR2 hG h0 (by unfold INs bX bY; decide) (fun y hy hp => pc_GP hy hG hp (by unfold INs bX bY; decide) (fun y hy hp => pc_some ⟨hy, _, _, hp⟩))
      · exact pc_GP hR2 hG h0 (by unfold INs bX bY; decide) (fun y hy hp => pc_GP hy hG hp (by unfold INs bX bY; decide) (fun y hy hp => pc_some ⟨hy, _, _, hp⟩))
  have hq : PC (itr (fun (s80 : Int32 × DD) => ((if ((4 : Int32)) ≤ s80.1 then (some (.inr (s80.1, s80.2))) else
  (bnd (FX9_planQuarter G s80.2 125 p0 s80.1) fun y84 =>
  ltt (s80.1 + (1 : Int32)) fun x85 =>
  some (.inl (x85, y84)))) : Option ((Int32 × DD) ⊕ (Int32 × DD)))) 1000000 ((0 : Int32), M2)) (fun y => FR y.2 ∧ ∃ np ng, PGS y.2 np ng) := by
    refine pc_itr (fun (s : Int32 × DD) => (0 ≤ s.1.toInt ∧ s.1.toInt ≤ 4) ∧ FR s.2 ∧ ∃ np ng, PGS s.2 np ng) ?_ _ _ ⟨(by show (0 : Int) ≤ (0 : Int32).toInt ∧ (0 : Int32).toInt ≤ 4; decide), hR2, 0, 0, h0⟩
    rintro s ⟨l, hs, np, ng, hp⟩
    refine pc_if (fun _ => pc_some ⟨hs, np, ng, hp⟩) (fun c => ?_)
    have d := tl_nle tn_4 (rfl : TI s.1 s.1.toInt) c
    refine pc_bnd (pc_planQuarter hs hG (rfl : TI s.1 s.1.toInt) (by omega) hp) (fun y hy => ?_)
    refine pc_ltt (fun x e => pc_some ⟨?_, hy⟩)
    rw [e]
    exact ti_bd (av_add (rfl : TI s.1 s.1.toInt) tn_1 (by omega) (by omega)) (by omega) (by omega)
  refine pc_if (fun _ => ?_) (fun _ => ?_)
  · refine pc_if (fun _ => ?_) (fun _ => ?_)
    · refine pc_bnd (Q := fun _ => True) (fun _ _ => trivial) (fun y46 _ => ?_)
      refine pc_ltt (fun x47 _ => pc_ltt (fun x48 _ => ?_))
      refine pc_bnd (Q := fun _ => True) (fun _ _ => trivial) (fun y49 _ => ?_)
      refine pc_bnd (Q := fun _ => True) (fun _ _ => trivial) (fun y50 _ => ?_)
      exact hs y46 y49 y50
    · exact pc_bnd hq (fun y h => pc_some h)
  · refine pc_if (fun _ => pc_bnd hq (fun y h => pc_some h)) (fun _ => ?_)
    refine pc_bnd (Q := fun _ => True) (fun _ _ => trivial) (fun y46 _ => ?_)
    refine pc_ltt (fun x47 _ => pc_ltt (fun x48 _ => ?_))
    refine pc_bnd (Q := fun _ => True) (fun _ _ => trivial) (fun y49 _ => ?_)
    refine pc_bnd (Q := fun _ => True) (fun _ _ => trivial) (fun y50 _ => ?_)
    exact hs y46 y49 y50
