/-! memory by small numbers: what it holds (ints, references), how many cells, their kinds, their lengths -/
abbrev classes : List vw_C := [(RX0, TX0, 21), (RX1, TX1, 22), (RX2, TX2, 7), (RX3, TX3, 4), (RX4, TX4, 18), (RX5, TX5, 17), (RX6, TX6, 14), (RX7, TX7, 17), (RX8, TX8, 15), (RX9, TX9, 20), (RX10, TX10, 20), (RX11, TX11, 5)]
abbrev DD : Type := (Nat → Nat → Int32) × (Nat → Nat → Option Nat)
abbrev GG : Type := Nat × (Nat → Nat) × (Nat → Nat)
abbrev CT : Type := ClassId × ClassId × ClassId × ClassId
def uI (M : DD) (a k : Nat) (v : Int32) : DD := (fun b j => if b = a ∧ j = k then v else M.1 b j, M.2)
def uP (M : DD) (a k : Nat) (v : Option Nat) : DD := (M.1, fun b j => if b = a ∧ j = k then v else M.2 b j)
def rI (M : DD) (a : Nat) (f : Nat → Int32) : DD := (fun b => if b = a then f else M.1 b, M.2)
def chk {α : Type} (c : Prop) [Decidable c] (k : Option α) : Option α := if c then k else none
def bnd {α β : Type} (o : Option α) (k : α → Option β) : Option β := match o with
  | some x => k x
  | none => none
def dr {α : Type} (G : GG) (κ : Nat) (o : Option Nat) (k : Nat → Option α) : Option α := match o with
  | some b => if b < G.1 ∧ G.2.1 b = κ then k b else none
  | none => none
def itr {σ ρ : Type} (b : σ → Option (σ ⊕ ρ)) : Nat → σ → Option ρ
  | 0, _ => none
  | n + 1, s => match b s with
    | none => none
    | some (.inl t) => itr b n t
    | some (.inr r) => some r
theorem chk_some {α : Type} {c : Prop} [Decidable c] {k : Option α} {r : α} (h : chk c k = some r) : c ∧ k = some r := by
  unfold chk at h
  split at h
  · exact ⟨by assumption, h⟩
  · cases h
theorem bnd_some {α β : Type} {o : Option α} {k : α → Option β} {r : β} (h : bnd o k = some r) : ∃ x, o = some x ∧ k x = some r := by
  cases o with
  | none => cases h
  | some x => exact ⟨x, rfl, h⟩
theorem dr_some {α : Type} {G : GG} {κ : Nat} {o : Option Nat} {k : Nat → Option α} {r : α} (h : dr G κ o k = some r) : ∃ b, o = some b ∧ b < G.1 ∧ G.2.1 b = κ ∧ k b = some r := by
  cases o with
  | none => cases h
  | some b =>
    unfold dr at h
    dsimp only at h
    split at h
    · rename_i q
      exact ⟨b, rfl, q.1, q.2, h⟩
    · cases h
def ltt {α β : Type} (x : α) (k : α → Option β) : Option β := k x
theorem ltt_some {α β : Type} {x : α} {k : α → Option β} {r : β} (h : ltt x k = some r) : ∃ y, y = x ∧ k y = some r := ⟨x, rfl, h⟩
theorem va_some {ad : Nat → Nat} {o : Option Nat} {b : Nat} (h : o = some b) : va_re ad o = .ref (ad b) := by rw [h]; rfl
theorem nar_z {v : Int32} (h : v = 0 ∨ v = 1) : narrow .boolean (.int v) = .int v ∧ fits .boolean (.int v) = true := by
  rcases h with rfl | rfl <;> exact ⟨by decide +kernel, by decide +kernel⟩
theorem va_re_cat (ad : Nat → Nat) (o : Option Nat) : (va_re ad o).category = 1 := by cases o <;> rfl
theorem itr_0 {σ ρ : Type} {b : σ → Option (σ ⊕ ρ)} {s : σ} {r : ρ} (h : itr b 0 s = some r) : False := by cases h
theorem itr_s {σ ρ : Type} {b : σ → Option (σ ⊕ ρ)} {n : Nat} {s : σ} {r : ρ} (h : itr b (n + 1) s = some r) : ∃ y, b s = some y ∧ (match y with
  | .inl t => itr b n t = some r
  | .inr q => q = r) := by
  unfold itr at h
  cases hb : b s with
  | none => rw [hb] at h; cases h
  | some y =>
    rw [hb] at h
    cases y with
    | inl t => exact ⟨.inl t, rfl, h⟩
    | inr q => exact ⟨.inr q, rfl, Option.some.inj h⟩
theorem itr_rule {σ ρ : Type} {b : σ → Option (σ ⊕ ρ)} {y : ρ} (P : σ → Prop) (hs : ∀ q, (∃ z, b q = some z ∧ (match z with
  | .inl t => P t
  | .inr r => r = y)) → P q) : ∀ (n : Nat) (q : σ), itr b n q = some y → P q := by
  intro n
  induction n with
  | zero => intro q h; exact (itr_0 h).elim
  | succ n ih =>
    intro q h
    obtain ⟨z, hz, hw⟩ := itr_s h
    refine hs q ⟨z, hz, ?_⟩
    cases z with
    | inl t => exact ih t hw
    | inr r => exact hw
def ftOf : Nat → List Bool
  | 0 => [true, true, true, true, true, true, true, true, true, true, false, false, false, false, false, false, false, true, false, false, true]
  | 1 => [true, true, true, true, true, true, true, true, false, true, true, true, true, true, false, false, false, false, false, false, false, false]
  | 2 => [true, false, false, false, false, false, false]
  | 3 => [true, true, true, true]
  | 4 => [false, false, false, true, true, true, true, true, false, false, false, false, false, false, false, false, false, false]
  | 5 => [true, false, false, false, false, false, false, false, false, false, true, true, false, true, true, false, false]
  | 6 => [true, true, true, true, true, true, true, true, true, false, false, false, false, false]
  | 7 => [true, false, true, false, false, false, true, true, false, false, false, false, false, false, false, true, true]
  | 8 => [true, true, true, false, false, true, true, false, true, false, true, false, true, true, false]
  | 9 => [true, true, true, true, true, true, true, true, true, true, true, false, true, true, false, true, false, true, false, false]
  | 10 => [true, false, false, false, true, false, false, false, false, false, false, false, false, true, true, true, false, false, false, false]
  | 11 => [true, false, true, true, true]
  | _ => []
def fld (ad : Nat → Nat) (M : DD) (a : Nat) (l : List Bool) : List Value := (List.range l.length).map (fun j => if l.getD j false = true then va_re ad (M.2 a j) else .int (M.1 a j))
def cellOf (ct : CT) (ad : Nat → Nat) (G : GG) (M : DD) (a : Nat) : va_E :=
  if G.2.1 a < 12 then .inr (G.2.1 a, fld ad M a (ftOf (G.2.1 a)))
  else if G.2.1 a = 12 then .inl (ct.1, G.2.2 a, .inl (M.1 a))
  else if G.2.1 a = 13 then .inl (ct.2.1, G.2.2 a, .inl (M.1 a))
  else if G.2.1 a = 14 then .inl (ct.2.2.1, G.2.2 a, .inr (.inr (.inr (.inr (fun j => (M.2 a j).map ad)))))
  else .inl (ct.2.2.2, G.2.2 a, .inr (.inr (.inr (.inr (fun j => (M.2 a j).map ad)))))
def wld (ct : CT) (ad : Nat → Nat) (G : GG) (M : DD) : va_W := (List.range G.1).map (fun a => (ad a, cellOf ct ad G M a))
abbrev tysOf (ct : CT) : List (ClassId × FieldType) := [(ct.1, .byte), (ct.2.1, .int), (ct.2.2.1, .object "VideoSuite$Picture"), (ct.2.2.2, .array .int)]
def wA (ad : Nat → Nat) (G : GG) (sz : Nat) : Nat → Prop := fun q => (∃ a, a < G.1 ∧ q = ad a) ∨ sz ≤ q
theorem wld_at (ct : CT) (ad : Nat → Nat) (G : GG) (M : DD) {a : Nat} (h : a < G.1) : (wld ct ad G M)[a]? = some (ad a, cellOf ct ad G M a) := by simp [wld, h]
theorem wld_o (ct : CT) (ad : Nat → Nat) (G : GG) (M : DD) {a κ : Nat} (h : a < G.1) (hk : G.2.1 a = κ) (hκ : κ < 12) : (wld ct ad G M)[a]? = some (ad a, .inr (κ, fld ad M a (ftOf κ))) := by
  rw [wld_at ct ad G M h]
  simp [cellOf, hk, hκ]
theorem wld_b (ct : CT) (ad : Nat → Nat) (G : GG) (M : DD) {a : Nat} (h : a < G.1) (hk : G.2.1 a = 12) : (wld ct ad G M)[a]? = some (ad a, .inl (ct.1, G.2.2 a, .inl (M.1 a))) := by
  rw [wld_at ct ad G M h]
  simp [cellOf, hk]
theorem wld_i (ct : CT) (ad : Nat → Nat) (G : GG) (M : DD) {a : Nat} (h : a < G.1) (hk : G.2.1 a = 13) : (wld ct ad G M)[a]? = some (ad a, .inl (ct.2.1, G.2.2 a, .inl (M.1 a))) := by
  rw [wld_at ct ad G M h]
  simp [cellOf, hk]
theorem wld_r (ct : CT) (ad : Nat → Nat) (G : GG) (M : DD) {a : Nat} (h : a < G.1) (hk : G.2.1 a = 14) : (wld ct ad G M)[a]? = some (ad a, .inl (ct.2.2.1, G.2.2 a, .inr (.inr (.inr (.inr (fun j => (M.2 a j).map ad)))))) := by
  rw [wld_at ct ad G M h]
  simp [cellOf, hk]
theorem wld_g (ct : CT) (ad : Nat → Nat) (G : GG) (M : DD) {a : Nat} (h : a < G.1) (hk : G.2.1 a = 15) : (wld ct ad G M)[a]? = some (ad a, .inl (ct.2.2.2, G.2.2 a, .inr (.inr (.inr (.inr (fun j => (M.2 a j).map ad)))))) := by
  rw [wld_at ct ad G M h]
  simp [cellOf, hk]
theorem wld_set (ct : CT) (ad : Nat → Nat) (G : GG) (M M1 : DD) {a : Nat} (h : a < G.1) {x : va_E} (hx : cellOf ct ad G M1 a = x) (ho : ∀ b, b ≠ a → cellOf ct ad G M1 b = cellOf ct ad G M b) : (wld ct ad G M).set a (ad a, x) = wld ct ad G M1 := by
  apply List.ext_getElem?
  intro b
  rw [List.getElem?_set]
  by_cases hb : a = b
  · subst hb
    simp [wld, h, hx]
  · rw [if_neg hb]
    simp only [wld, List.getElem?_map]
    by_cases hc : b < G.1
    · simp [hc, ho b (fun e => hb e.symm)]
    · simp [hc]
theorem cell_uI_ne {ct : CT} {ad : Nat → Nat} {G : GG} {M : DD} {a k : Nat} {v : Int32} : ∀ b, b ≠ a → cellOf ct ad G (uI M a k v) b = cellOf ct ad G M b := by
  intro b hb
  simp [cellOf, uI, fld, hb]
theorem cell_uP_ne {ct : CT} {ad : Nat → Nat} {G : GG} {M : DD} {a k : Nat} {v : Option Nat} : ∀ b, b ≠ a → cellOf ct ad G (uP M a k v) b = cellOf ct ad G M b := by
  intro b hb
  simp [cellOf, uP, fld, hb]
theorem cell_rI_ne {ct : CT} {ad : Nat → Nat} {G : GG} {M : DD} {a : Nat} {f : Nat → Int32} : ∀ b, b ≠ a → cellOf ct ad G (rI M a f) b = cellOf ct ad G M b := by
  intro b hb
  simp [cellOf, rI, fld, hb]
theorem fld_uI {ad : Nat → Nat} {M : DD} {a k : Nat} {v : Int32} {l : List Bool} (hf : l[k]? = some false) : fld ad (uI M a k v) a l = (fld ad M a l).set k (.int v) := by
  apply List.ext_getElem?
  intro j
  rw [List.getElem?_set]
  by_cases hj : k = j
  · subst hj
    obtain ⟨hlt, hg⟩ := List.getElem?_eq_some_iff.mp hf
    simp [fld, uI, hlt, hg]
  · rw [if_neg hj]
    have hj' : ¬ j = k := fun e => hj e.symm
    simp only [fld, List.getElem?_map, uI]
    by_cases hc : j < l.length
    · simp [hc, hj']
    · simp [hc]
theorem fld_uP {ad : Nat → Nat} {M : DD} {a k : Nat} {v : Option Nat} {l : List Bool} (hf : l[k]? = some true) : fld ad (uP M a k v) a l = (fld ad M a l).set k (va_re ad v) := by
  apply List.ext_getElem?
  intro j
  rw [List.getElem?_set]
  by_cases hj : k = j
  · subst hj
    obtain ⟨hlt, hg⟩ := List.getElem?_eq_some_iff.mp hf
    simp [fld, uP, hlt, hg]
  · rw [if_neg hj]
    have hj' : ¬ j = k := fun e => hj e.symm
    simp only [fld, List.getElem?_map, uP]
    by_cases hc : j < l.length
    · simp [hc, hj']
    · simp [hc]
theorem set_oI (ct : CT) (ad : Nat → Nat) (G : GG) (M : DD) {a κ k : Nat} {v : Int32} (h : a < G.1) (hk : G.2.1 a = κ) (hκ : κ < 12) (hf : (ftOf κ)[k]? = some false) : (wld ct ad G M).set a (ad a, .inr (κ, (fld ad M a (ftOf κ)).set k (.int v))) = wld ct ad G (uI M a k v) :=
  wld_set ct ad G M _ h (by simp only [cellOf, hk, hκ, if_true]; rw [fld_uI hf]) cell_uI_ne
theorem set_oP (ct : CT) (ad : Nat → Nat) (G : GG) (M : DD) {a κ k : Nat} {v : Option Nat} (h : a < G.1) (hk : G.2.1 a = κ) (hκ : κ < 12) (hf : (ftOf κ)[k]? = some true) : (wld ct ad G M).set a (ad a, .inr (κ, (fld ad M a (ftOf κ)).set k (va_re ad v))) = wld ct ad G (uP M a k v) :=
  wld_set ct ad G M _ h (by simp only [cellOf, hk, hκ, if_true]; rw [fld_uP hf]) cell_uP_ne
theorem set_b (ct : CT) (ad : Nat → Nat) (G : GG) (M : DD) {a k : Nat} {v : Int32} (h : a < G.1) (hk : G.2.1 a = 12) : (wld ct ad G M).set a (ad a, .inl (ct.1, G.2.2 a, .inl (upd (M.1 a) k v))) = wld ct ad G (uI M a k v) :=
  wld_set ct ad G M _ h (by
    have e : (uI M a k v).1 a = upd (M.1 a) k v := by funext j; simp [uI, upd]
    simp [cellOf, hk, e]) cell_uI_ne
theorem set_i (ct : CT) (ad : Nat → Nat) (G : GG) (M : DD) {a k : Nat} {v : Int32} (h : a < G.1) (hk : G.2.1 a = 13) : (wld ct ad G M).set a (ad a, .inl (ct.2.1, G.2.2 a, .inl (upd (M.1 a) k v))) = wld ct ad G (uI M a k v) :=
  wld_set ct ad G M _ h (by
    have e : (uI M a k v).1 a = upd (M.1 a) k v := by funext j; simp [uI, upd]
    simp [cellOf, hk, e]) cell_uI_ne
theorem wD_self {B : Nat → Prop} {ct : CT} {ad : Nat → Nat} {G : GG} {M : DD} {sz : Nat} (h : va_D B (wld ct ad G M)) : va_D (wA ad G sz) (wld ct ad G M) := by
  refine ⟨h.1, fun k q hk => ?_⟩
  simp only [wld, List.getElem?_map, Option.map_eq_some_iff] at hk
  obtain ⟨a, ha, rfl⟩ := hk
  have : a < G.1 := by
    have := List.mem_of_getElem? ha
    simpa using this
  exact Or.inl ⟨a, this, rfl⟩
def sC : Nat → String
  | 0 => "VideoSuite$Coder"
  | 1 => "VideoSuite$Coder"
  | 2 => "VideoSuite$Coder"
  | 3 => "VideoSuite$Edges"
  | 4 => "VideoSuite$Edges"
  | 5 => "VideoSuite$Edges"
  | 6 => "VideoSuite$Reader"
  | 7 => "VideoSuite$Reader"
  | 8 => "VideoSuite$Reader"
  | 9 => "VideoSuite$Reader"
  | 10 => "VideoSuite$Reader"
  | 11 => "VideoSuite$Samples"
  | 12 => "VideoSuite$Samples"
  | 13 => "VideoSuite$Samples"
  | 14 => "VideoSuite$Samples"
  | 15 => "VideoSuite$Samples"
  | 16 => "VideoSuite$Work"
  | 17 => "VideoSuite$Work"
  | 18 => "VideoSuite$Work"
  | _ => ""
def sN : Nat → String
  | 0 => "AT_FIRST"
  | 1 => "LEAST"
  | 2 => "MOST"
  | 3 => "ALPHA"
  | 4 => "BETA"
  | 5 => "SOFT"
  | 6 => "CODES"
  | 7 => "DOWN"
  | 8 => "LOWER"
  | 9 => "PATTERN"
  | 10 => "TABLE_AT"
  | 11 => "COLOUR_STEP"
  | 12 => "MEASURE"
  | 13 => "NORM"
  | 14 => "SCAN_X"
  | 15 => "SCAN_Y"
  | 16 => "PAIR_USE"
  | 17 => "SUB_SHAPE"
  | 18 => "SUB_USE"
  | _ => ""
def sT : Nat → List Int32
  | 0 => [2, 2, 0, 28, 30, 32, 0, 1, 0, 1, 2, 0, 0, 0, 0, 0, 0, 0, 0, 0, 0, 0, 1, 0]
  | 1 => [1, 1, 0, 12, 12, 12, 0, 1, 0, -2147483648, 0, 0, 0, 0, -6, -6, 0, 0, 0, 0, 0, 0, 0, -12]
  | 2 => [8, 8, 1, 51, 51, 51, 2, 3, 1, 2147483647, 4, 32, 30, 2, 6, 6, 1000000, 1, 2, 1, 1, 2, 1, 12]
  | 3 => [4, 4, 5, 6, 7, 8, 9, 10, 12, 13, 15, 17, 20, 22, 25, 28, 32, 36, 40, 45, 50, 56, 63, 71, 80, 90, 101, 113, 127, 144, 162, 182, 203, 226, 255, 255]
  | 4 => [2, 2, 2, 3, 3, 3, 3, 4, 4, 4, 6, 6, 7, 7, 8, 8, 9, 9, 10, 10, 11, 11, 12, 12, 13, 13, 14, 14, 15, 15, 16, 16, 17, 17, 18, 18]
  | 5 => [0, 0, 1, 0, 0, 1, 0, 0, 1, 0, 0, 1, 0, 1, 1, 0, 1, 1, 1, 1, 1, 1, 1, 1, 1, 1, 1, 1, 1, 1, 1, 1, 2, 1, 1, 2, 1, 1, 2, 1, 1, 2, 1, 2, 3, 1, 2, 3, 2, 2, 3, 2, 2, 4, 2, 3, 4, 2, 3, 4, 3, 3, 5, 3, 4, 6, 3, 4, 6, 4, 5, 7, 4, 5, 8, 4, 6, 9, 5, 7, 10, 6, 8, 11, 6, 8, 13, 7, 10, 14, 8, 11, 16, 9, 12, 18, 10, 13, 20, 11, 15, 23, 13, 17, 25]
  | 6 => [1, 1, 6, 5, 2, 1, 8, 7, 6, 4, 3, 1, 9, 7, 8, 6, 7, 5, 5, 3, 10, 7, 9, 6, 8, 5, 6, 3, 11, 7, 10, 6, 9, 5, 7, 4, 13, 15, 11, 6, 10, 5, 8, 4, 13, 11, 13, 14, 11, 5, 9, 4, 13, 8, 13, 10, 13, 13, 10, 4, 14, 15, 14, 14, 13, 9, 11, 4, 14, 11, 14, 10, 14, 13, 13, 12, 15, 15, 15, 14, 14, 9, 14, 12, 15, 11, 15, 10, 15, 13, 14, 8, 16, 15, 15, 1, 15, 9, 15, 12, 16, 11, 16, 14, 16, 13, 15, 8, 16, 7, 16, 10, 16, 9, 16, 12, 16, 4, 16, 6, 16, 5, 16, 8, 2, 3, 6, 11, 2, 2, 6, 7, 5, 7, 3, 3, 7, 7, 6, 10, 6, 9, 4, 5, 8, 7, 6, 6, 6, 5, 4, 4, 8, 4, 7, 6, 7, 5, 5, 6, 9, 7, 8, 6, 8, 5, 6, 8, 11, 15, 9, 6, 9, 5, 6, 4, 11, 11, 11, 14, 11, 13, 7, 4, 12, 15, 11, 10, 11, 9, 9, 4, 12, 11, 12, 14, 12, 13, 11, 12, 12, 8, 12, 10, 12, 9, 11, 8, 13, 15, 13, 14, 13, 13, 12, 12, 13, 11, 13, 10, 13, 9, 13, 12, 13, 7, 14, 11, 13, 6, 13, 8, 14, 9, 14, 8, 14, 10, 13, 1, 14, 7, 14, 6, 14, 5, 14, 4, 4, 15, 6, 15, 4, 14, 6, 11, 5, 15, 4, 13, 6, 8, 5, 12, 5, 14, 4, 12, 7, 15, 5, 10, 5, 11, 4, 11, 7, 11, 5, 8, 5, 9, 4, 10, 7, 9, 6, 14, 6, 13, 4, 9, 7, 8, 6, 10, 6, 9, 4, 8, 8, 15, 7, 14, 7, 13, 5, 13, 8, 11, 8, 14, 7, 10, 6, 12, 9, 15, 8, 10, 8, 13, 7, 12, 9, 11, 9, 14, 8, 9, 8, 12, 9, 8, 9, 10, 9, 13, 8, 8, 10, 13, 9, 7, 9, 9, 9, 12, 10, 9, 10, 12, 10, 11, 10, 10, 10, 5, 10, 8, 10, 7, 10, 6, 10, 1, 10, 4, 10, 3, 10, 2, 2, 1, 6, 7, 1, 1, 6, 4, 6, 6, 3, 1, 6, 3, 7, 3, 7, 2, 6, 5, 6, 2, 8, 3, 8, 2, 7, 0, 1, 1, 3, 3, 3, 2, 4, 3, 4, 2, 5, 3, 5, 2, 6, 3, 6, 2, 7, 3, 7, 2, 8, 3, 8, 2, 9, 3, 9, 2, 9, 1, 3, 7, 3, 6, 3, 5, 3, 4, 3, 3, 4, 5, 4, 4, 4, 3, 4, 2, 5, 3, 5, 2, 6, 3, 6, 2, 6, 1, 6, 0, 4, 5, 3, 7, 3, 6, 3, 5, 4, 4, 4, 3, 3, 4, 3, 3, 4, 2, 5, 3, 5, 2, 6, 1, 5, 1, 6, 0, 5, 3, 3, 7, 4, 5, 4, 4, 3, 6, 3, 5, 3, 4, 4, 3, 3, 3, 4, 2, 5, 2, 5, 1, 5, 0, 4, 5, 4, 4, 4, 3, 3, 7, 3, 6, 3, 5, 3, 4, 3, 3, 4, 2, 5, 1, 4, 1, 5, 0, 6, 1, 5, 1, 3, 7, 3, 6, 3, 5, 3, 4, 3, 3, 3, 2, 4, 1, 3, 1, 6, 0, 6, 1, 5, 1, 3, 5, 3, 4, 3, 3, 2, 3, 3, 2, 4, 1, 3, 1, 6, 0, 6, 1, 4, 1, 5, 1, 3, 3, 2, 3, 2, 2, 3, 2, 3, 1, 6, 0, 6, 1, 6, 0, 4, 1, 2, 3, 2, 2, 3, 1, 2, 1, 5, 1, 5, 1, 5, 0, 3, 1, 2, 3, 2, 2, 2, 1, 4, 1, 4, 0, 4, 1, 3, 1, 3, 2, 1, 1, 3, 3, 4, 0, 4, 1, 2, 1, 1, 1, 3, 1, 3, 0, 3, 1, 1, 1, 2, 1, 2, 0, 2, 1, 1, 1, 1, 0, 1, 1, 1, 1, 2, 1, 3, 1, 3, 0, 1, 1, 2, 1, 2, 0, 1, 1, 1, 0, 1, 1, 1, 0, 1, 1, 2, 1, 2, 0, 2, 3, 2, 2, 2, 1, 2, 0, 2, 3, 2, 2, 2, 1, 3, 1, 3, 0, 2, 3, 2, 2, 3, 3, 3, 2, 3, 1, 3, 0, 2, 3, 3, 0, 3, 1, 3, 3, 3, 2, 3, 5, 3, 4, 3, 7, 3, 6, 3, 5, 3, 4, 3, 3, 3, 2, 3, 1, 4, 1, 5, 1, 6, 1, 7, 1, 8, 1, 9, 1, 10, 1, 11, 1]
  | 7 => [0, 0, 1, 2, 2, 4, 4, 5, 6, 7, 8, 9, 9, 11, 11, 12, 13, 13, 15, 15, 16, 16, 18, 18, 19, 19, 21, 21, 22, 22, 23, 24, 24, 25, 26, 26, 27, 27, 28, 29, 29, 30, 30, 30, 31, 32, 32, 33, 33, 33, 34, 34, 35, 35, 35, 36, 36, 36, 37, 37, 37, 38, 38, 63]
  | 8 => [128, 176, 208, 240, 128, 167, 197, 227, 128, 158, 187, 216, 123, 150, 178, 205, 116, 142, 169, 195, 111, 135, 160, 185, 105, 128, 152, 175, 100, 122, 144, 166, 95, 116, 137, 158, 90, 110, 130, 150, 85, 104, 123, 142, 81, 99, 117, 135, 77, 94, 111, 128, 73, 89, 105, 122, 69, 85, 100, 116, 66, 80, 95, 110, 62, 76, 90, 104, 59, 72, 86, 99, 56, 69, 81, 94, 53, 65, 77, 89, 51, 62, 73, 85, 48, 59, 69, 80, 46, 56, 66, 76, 43, 53, 63, 72, 41, 50, 59, 69, 39, 48, 56, 65, 37, 45, 54, 62, 35, 43, 51, 59, 33, 41, 48, 56, 32, 39, 46, 53, 30, 37, 43, 50, 29, 35, 41, 48, 27, 33, 39, 45, 26, 31, 37, 43, 24, 30, 35, 41, 23, 28, 33, 39, 22, 27, 32, 37, 21, 26, 30, 35, 20, 24, 29, 33, 19, 23, 27, 31, 18, 22, 26, 30, 17, 21, 25, 28, 16, 20, 23, 27, 15, 19, 22, 25, 14, 18, 21, 24, 14, 17, 20, 23, 13, 16, 19, 22, 12, 15, 18, 21, 12, 14, 17, 20, 11, 14, 16, 19, 11, 13, 15, 18, 10, 12, 15, 17, 10, 12, 14, 16, 9, 11, 13, 15, 9, 11, 12, 14, 8, 10, 12, 14, 8, 9, 11, 13, 7, 9, 11, 12, 7, 9, 10, 12, 7, 8, 10, 11, 6, 8, 9, 11, 6, 7, 9, 10, 6, 7, 8, 9, 2, 2, 2, 2]
  | 9 => [47, 31, 15, 0, 23, 27, 29, 30, 7, 11, 13, 14, 39, 43, 45, 46, 16, 3, 5, 10, 12, 19, 21, 26, 28, 35, 37, 42, 44, 1, 2, 4, 8, 17, 18, 20, 24, 6, 9, 22, 25, 32, 33, 34, 36, 40, 38, 41, 0, 16, 1, 2, 4, 8, 32, 3, 5, 10, 12, 15, 47, 7, 11, 13, 14, 6, 9, 31, 35, 37, 42, 44, 33, 34, 36, 40, 39, 43, 45, 46, 17, 18, 20, 24, 19, 21, 26, 28, 23, 27, 29, 30, 22, 25, 38, 41]
  | 10 => [0, 62, 124, 186, 200, 216, 231, 245, 258, 270, 281, 291, 300, 308, 315, 321, 326, 330, 333, 335, 339, 342, 344, 346, 349, 353, 358, 364, 371, 386]
  | 11 => [29, 30, 31, 32, 32, 33, 34, 34, 35, 35, 36, 36, 37, 37, 37, 38, 38, 38, 39, 39, 39, 39]
  | 12 => [13107, 8066, 5243, 11916, 7490, 4660, 10082, 6554, 4194, 9362, 5825, 3647, 8192, 5243, 3355, 7282, 4559, 2893]
  | 13 => [10, 13, 16, 11, 14, 18, 13, 16, 20, 14, 18, 23, 16, 20, 25, 18, 23, 29]
  | 14 => [0, 1, 0, 0, 1, 2, 3, 2, 1, 0, 1, 2, 3, 3, 2, 3]
  | 15 => [0, 0, 1, 2, 1, 0, 0, 1, 2, 3, 3, 2, 1, 2, 3, 3]
  | 16 => [1, 1, 2, 2, 1, 2, 2, 1, 1, 3, 2, 3, 3, 1, 3, 2, 3, 3]
  | 17 => [0, 0, 0, 0, 1, 2, 1, 2, 1, 2, 3, 3, 3]
  | 18 => [0, 1, 2, 3, 1, 1, 2, 2, 3, 3, 1, 2, 3]
  | _ => []
def sL : Nat → Nat
  | 0 => 24
  | 1 => 24
  | 2 => 24
  | 3 => 36
  | 4 => 36
  | 5 => 105
  | 6 => 772
  | 7 => 64
  | 8 => 256
  | 9 => 96
  | 10 => 30
  | 11 => 22
  | 12 => 18
  | 13 => 18
  | 14 => 16
  | 15 => 16
  | 16 => 18
  | 17 => 13
  | 18 => 13
  | _ => 0
abbrev nestL : List (String × Nat × MethodName × String) := [(RX11, 16, yX8_init, RX11), (RX11, 23, yX1_init, RX11), (RX0, 183, yX11_hash, RX11), (RX0, 189, yX11_clip, RX11), (RX0, 28, yX10_init, RX11), (RX0, 286, yX11_clamp, RX11), (RX0, 35, yX9_init, RX11), (RX0, 42, yX6_init, RX11), (RX0, 49, yX2_init, RX11), (RX0, 56, yX7_init, RX11), (RX0, 80, yX3_init, RX11), (RX1, 20, yX7_init, RX11), (RX1, 27, yX9_init, RX11), (RX1, 34, yX6_init, RX11), (RX1, 41, yX2_init, RX11), (RX1, 67, yX3_init, RX11), (RX2, 113, yX11_clamp, RX11), (RX2, 143, yX11_clip, RX11), (RX4, 83, yX11_clamp, RX11), (RX6, 172, yX11_clip, RX11), (RX6, 39, yX11_clamp, RX11), (RX7, 280, yX11_hash, RX11), (RX7, 61, yX4_init, RX11)]
def sel {τ ρ α : Type} (y : τ ⊕ ρ) (k : τ → Option α) (e : ρ → Option α) : Option α := match y with
  | .inl z => k z
  | .inr r => e r
theorem sel_inl {τ ρ α : Type} {z : τ} {k : τ → Option α} {e : ρ → Option α} {r : α} (h : sel (.inl z : τ ⊕ ρ) k e = some r) : k z = some r := h
theorem sel_inr {τ ρ α : Type} {z : ρ} {k : τ → Option α} {e : ρ → Option α} {r : α} (h : sel (.inr z : τ ⊕ ρ) k e = some r) : e z = some r := h
def nF (U : State) : Prop := (∀ q ∈ nestL, va_Nw (.methodLinkNest q.1 q.2.1 q.2.2.1 q.2.2.2) U) ∧ va_AO "VideoSuite$Picture" U ∧ va_AOA .int U ∧ va_Nw (.castable "[I" "java/lang/Cloneable") U
theorem va_AOA.moved {ty : FieldType} {u U : State} (hal : u.vm.Alike U.vm) (h : va_AOA ty u) : va_AOA ty U := by
  unfold va_AOA Cond.before Cond.holds at *
  simp only [Cond.value, beq_iff_eq, Option.bind_eq_some_iff, Option.map_eq_some_iff] at h ⊢
  obtain ⟨comp, h1, c, h2, k, h3, h4⟩ := h
  obtain ⟨k', hk', hek'⟩ := hal.2.2 _ _ h3
  refine ⟨comp, by rw [hal.findClass]; exact h1, c, (hal.findIdx?_eqK _ (fun _ => rfl)).trans h2, k', hk', ?_⟩
  rw [hek']
  show (match k.kind with | .array _ t => decide (t = FieldType.array ty) && decide (U.vm.findClass ("[" ++ (FieldType.array ty).toString) = some c) | _ => false) = true
  rw [hal.findClass]
  exact h4
theorem nF.warm {s U : State} (h : nF s) (hW : s.WarmedH U.vm) : nF U := ⟨fun q hq => va_Nw.warmM hW (h.1 q hq), va_AO.moved hW.alike h.2.1, va_AOA.moved hW.alike h.2.2.1, va_Nw.warmC hW h.2.2.2⟩
theorem nF.same {u U : State} (e : u.vm = U.vm) (h : nF u) : nF U := ⟨fun q hq => va_Nw.same rfl e (h.1 q hq), va_AO.moved (e ▸ Vm.Alike.refl u.vm) h.2.1, va_AOA.moved (e ▸ Vm.Alike.refl u.vm) h.2.2.1, va_Nw.same rfl e h.2.2.2⟩
def okr (G : GG) (κ : Nat) (o : Option Nat) : Bool := match o with
  | none => true
  | some b => decide (b < G.1) && decide (G.2.1 b = κ)
def okd (G : GG) (o : Option Nat) : Bool := match o with
  | none => true
  | some b => decide (b < G.1)
theorem okr_some {G : GG} {κ b : Nat} (h : okr G κ (some b) = true) : b < G.1 ∧ G.2.1 b = κ := by
  simpa [okr] using h
theorem okd_some {G : GG} {b : Nat} (h : okd G (some b) = true) : b < G.1 := by
  simpa [okd] using h
theorem map_inj {A : Nat → Prop} {ct : CT} {ad : Nat → Nat} {G : GG} {M : DD} (hD : va_D A (wld ct ad G M)) {x y : Option Nat} (hx : okd G x = true) (hy : okd G y = true) (h : x.map ad = y.map ad) : x = y := by
  cases x with
  | none => cases y with
    | none => rfl
    | some b => cases h
  | some a => cases y with
    | none => cases h
    | some b =>
      have e : ad a = ad b := Option.some.inj h
      have := hD.1 a b _ _ (wld_at ct ad G M (okd_some hx)) (wld_at ct ad G M (okd_some hy)) e
      rw [this]
theorem nar_q (ad : Nat → Nat) {ty : FieldType} (ht : (∃ n, ty = .object n) ∨ ∃ t, ty = .array t) (o : Option Nat) : narrow ty (va_re ad o) = va_re ad o ∧ fits ty (va_re ad o) = true := by
  rcases ht with ⟨n, rfl⟩ | ⟨t, rfl⟩ <;> cases o <;> exact ⟨rfl, rfl⟩
theorem set_r (ct : CT) (ad : Nat → Nat) (G : GG) (M : DD) {a k : Nat} {o : Option Nat} (h : a < G.1) (hk : G.2.1 a = 14) : (wld ct ad G M).set a (ad a, .inl (ct.2.2.1, G.2.2 a, .inr (.inr (.inr (.inr (va_up (fun j => (M.2 a j).map ad) k (o.map ad))))))) = wld ct ad G (uP M a k o) :=
  wld_set ct ad G M _ h (by
    have e : (fun j => ((uP M a k o).2 a j).map ad) = va_up (fun j => (M.2 a j).map ad) k (o.map ad) := by
      funext j
      by_cases hj : j = k
      · simp [uP, va_up, hj]
      · simp [uP, va_up, hj]
    simp only [cellOf, hk]
    simp [e]) cell_uP_ne
theorem set_rb (ct : CT) (ad : Nat → Nat) (G : GG) (M : DD) {a : Nat} {f : Nat → Int32} (h : a < G.1) (hk : G.2.1 a = 12) : (wld ct ad G M).set a (ad a, .inl (ct.1, G.2.2 a, .inl f)) = wld ct ad G (rI M a f) :=
  wld_set ct ad G M _ h (by simp [cellOf, hk, rI]) cell_rI_ne
theorem set_ri (ct : CT) (ad : Nat → Nat) (G : GG) (M : DD) {a : Nat} {f : Nat → Int32} (h : a < G.1) (hk : G.2.1 a = 13) : (wld ct ad G M).set a (ad a, .inl (ct.2.1, G.2.2 a, .inl f)) = wld ct ad G (rI M a f) :=
  wld_set ct ad G M _ h (by simp [cellOf, hk, rI]) cell_rI_ne
/-- the class's own tables: static arrays, which nobody writes -/
def sF (Z : Nat → Nat) (A : Nat → Prop) (U : State) (H : Heap) : Prop := (∀ i, i < 19 → va_Z (sC i) (sN i) "[I" (.ref (Z i)) A U H ∧ va_T .int (Z i) (sL i) (fun j => .int ((sT i).getD j 0)) A U H) ∧ ∃ cell : Cell, H[Z 0]? = some cell ∧ U.vm.findClass "[I" = some cell.cls ∧ cell.slots.size = 24
theorem sF.moved {Z : Nat → Nat} {A : Nat → Prop} {u U : State} {H : Heap} (hvm : u.vm.Alike U.vm) (h : sF Z A u H) : sF Z A U H := ⟨fun i hi => ⟨va_Z.moved hvm (h.1 i hi).1, va_T.moved hvm (h.1 i hi).2⟩, by
  obtain ⟨cell, h1, h2, h3⟩ := h.2
  exact ⟨cell, h1, by rw [hvm.findClass]; exact h2, h3⟩⟩
theorem sF.kept {Z : Nat → Nat} {A : Nat → Prop} {U : State} {H H1 : Heap} (h : sF Z A U H) (hq : ∀ a : Nat, a < H.size → ¬ A a → H1[a]? = H[a]?) : sF Z A U H1 := ⟨fun i hi => ⟨va_Z.kept (h.1 i hi).1 hq, va_T.kept (h.1 i hi).2 hq⟩, by
  obtain ⟨cell, h1, h2, h3⟩ := h.2
  exact ⟨cell, by rw [hq (Z 0) (Array.getElem?_eq_some_iff.mp h1).1 (va_T.out (h.1 0 (by decide)).2)]; exact h1, h2, h3⟩⟩
theorem sF.narrow {Z : Nat → Nat} {A B : Nat → Prop} {U : State} {H : Heap} (h : sF Z A U H) (hAB : ∀ q, B q → A q) : sF Z B U H := ⟨fun i hi => ⟨va_Z.narrow (h.1 i hi).1 hAB, va_T.narrow (h.1 i hi).2 hAB⟩, h.2⟩
theorem wA_in {ct : CT} {ad : Nat → Nat} {G : GG} {M : DD} {A : Nat → Prop} {H0 H : Heap} {locs : List Loc} (hD : va_D A (wld ct ad G M)) (hA : ∀ q, H0.size ≤ q → A q) (hS : va_S A H0 H locs) : ∀ q, wA ad G H.size q → A q := by
  intro q h
  rcases h with ⟨a, h1, rfl⟩ | h
  · exact hD.2 a _ (wld_at ct ad G M h1)
  · exact hA q (Nat.le_trans hS.1 h)
def kB (D : va_G) (ct : CT) (ad : Nat → Nat) (Z : Nat → Nat) (G : GG) (M : DD) (sz : Nat) (U : State) : Prop := U.heap.size = sz ∧ va_P D classes (wld ct ad G M) U.heap ∧ va_K D classes (tysOf ct) U ∧ va_D (fun _ => True) (wld ct ad G M) ∧ sF Z (wA ad G sz) U U.heap ∧ nF U
def kE (D : va_G) (ct : CT) (ad : Nat → Nat) (G : GG) (A : Nat → Prop) (M : DD) (t : State) : Prop := va_P D classes (wld ct ad G M) t.heap ∧ va_K D classes (tysOf ct) t ∧ va_D A (wld ct ad G M)
section
variable {p : Program} {l : Launch} {e : Env} {R : Room} {s : State} {m : MethodId} {args : Array Value} {below : List Frame} {meth : Method} {c : Code} {H : Heap} {locs : List Loc} {cells slots : Nat} {Q : State → Prop} {cc : ByteArray} {pc : Nat} {ls : Array Slot} {rest : List Value} {ad : Nat → Nat} {o : Option Nat}
theorem lv_aloadq_n (hexec : p.tables.exec = Jvm.exec) (hb : c.code = cc) {k : Fin 4} {i : Nat} (hdg : decode cc pc = .ok (.aload_n k, 1)) (hi : (k : Nat) = i) (hl : ls[i]? = some (.val (va_re ad o))) (kk : W p l e R s m args below meth c H locs cells slots Q (F0 m (pc + 1) ls (va_re ad o :: rest))) : W p l e R s m args below meth c H locs cells slots Q (F0 m pc ls rest) := by
  cases o with
  | none => exact lv_aload_nN hexec hb hdg hi hl kk
  | some b => exact lv_aload_n hexec hb hdg hi hl kk
theorem lv_aloadq (hexec : p.tables.exec = Jvm.exec) (hb : c.code = cc) {i : Nat} (hdg : decode cc pc = .ok (.aload i, 2)) (hl : ls[i]? = some (.val (va_re ad o))) (kk : W p l e R s m args below meth c H locs cells slots Q (F0 m (pc + 2) ls (va_re ad o :: rest))) : W p l e R s m args below meth c H locs cells slots Q (F0 m pc ls rest) := by
  cases o with
  | none => exact lv_aloadN hexec hb hdg hl kk
  | some b => exact lv_aload hexec hb hdg hl kk
theorem lv_astoreq_n (hexec : p.tables.exec = Jvm.exec) (hb : c.code = cc) {k : Fin 4} {i nL : Nat} {lv lv' : List (Nat × Value)} (hdg : decode cc pc = .ok (.astore_n k, 1)) (hi : (k : Nat) = i) (h : lv_has ls nL lv) (hn : i < nL) (hl : (i, va_re ad o) :: lv.filter (fun q => !(q.1 == i) && !(q.1 + 1 == i && q.2.category == 2)) = lv') (kk : ∀ ls' : Array Slot, lv_has ls' nL lv' → W p l e R s m args below meth c H locs cells slots Q (F0 m (pc + 1) ls' rest)) : W p l e R s m args below meth c H locs cells slots Q (F0 m pc ls (va_re ad o :: rest)) := by
  cases o with
  | none => exact lv_astore_nN hexec hb hdg hi h hn hl kk
  | some b => exact lv_astore_n hexec hb hdg hi h hn hl kk
theorem lv_astoreq (hexec : p.tables.exec = Jvm.exec) (hb : c.code = cc) {i nL : Nat} {lv lv' : List (Nat × Value)} (hdg : decode cc pc = .ok (.astore i, 2)) (h : lv_has ls nL lv) (hn : i < nL) (hl : (i, va_re ad o) :: lv.filter (fun q => !(q.1 == i) && !(q.1 + 1 == i && q.2.category == 2)) = lv') (kk : ∀ ls' : Array Slot, lv_has ls' nL lv' → W p l e R s m args below meth c H locs cells slots Q (F0 m (pc + 2) ls' rest)) : W p l e R s m args below meth c H locs cells slots Q (F0 m pc ls (va_re ad o :: rest)) := by
  cases o with
  | none => exact lv_astoreN hexec hb hdg h hn hl kk
  | some b => exact lv_astore hexec hb hdg h hn hl kk
theorem W_st {st st' : List Value} (h : st = st') (kk : W p l e R s m args below meth c H locs cells slots Q (F0 m pc ls st')) : W p l e R s m args below meth c H locs cells slots Q (F0 m pc ls st) := by rw [h]; exact kk
theorem st_q {D : va_G} {ct : CT} {G : GG} {M : DD} {a : Nat} {A : Nat → Prop} {H0 : Heap} (hexec : p.tables.exec = Jvm.exec) (hb : c.code = cc) (hK : va_K D classes (tysOf ct) s) (hP : va_P D classes (wld ct ad G M) H) (hD : va_D A (wld ct ad G M)) (hS : va_S A H0 H locs) (h : a < G.1) (hk : G.2.1 a = 14) (ho : okr G 4 o = true) {i : Int32} (hin : vp_in i (G.2.2 a)) (hdg : decode cc pc = .ok (.aastore, 1)) (kk : ∀ (H1 : Heap) (locs1 : List Loc), va_P D classes (wld ct ad G (uP M a i.toNatClampNeg o)) H1 → va_D A (wld ct ad G (uP M a i.toNatClampNeg o)) → va_S A H0 H1 locs1 → W p l e R s m args below meth c H1 locs1 cells slots Q (F0 m (pc + 1) ls rest)) : W p l e R s m args below meth c H locs cells slots Q (F0 m pc ls (va_re ad o :: .int i :: .ref (ad a) :: rest)) := by
  cases o with
  | none =>
    refine va_astqN hexec hb hK hP hD hS a 2 (wld_r ct ad G M h hk) rfl hin hdg (fun H1 locs1 p1 d1 s1 => ?_)
    have e := set_r ct ad G M h hk (k := i.toNatClampNeg) (o := none)
    simp only [Option.map_none] at e
    rw [e] at p1 d1
    exact kk H1 locs1 p1 d1 s1
  | some b =>
    refine va_astq hexec hb hK hP hD hS a 2 b 4 (wld_r ct ad G M h hk) rfl (wld_o ct ad G M (okr_some ho).1 (okr_some ho).2 (by decide)) rfl hin hdg (fun H1 locs1 p1 d1 s1 => ?_)
    have e := set_r ct ad G M h hk (k := i.toNatClampNeg) (o := some b)
    simp only [Option.map_some] at e
    rw [e] at p1 d1
    exact kk H1 locs1 p1 d1 s1
theorem lv_acmpq_eq {ct : CT} {G : GG} {M : DD} {A : Nat → Prop} {x y : Option Nat} (hexec : p.tables.exec = Jvm.exec) (hb : c.code = cc) (hD : va_D A (wld ct ad G M)) (hx : okd G x = true) (hy : okd G y = true) {off : Int} {tgt : Nat} (hdg : decode cc pc = .ok (.if_acmp .eq off, 3)) (ht : (pc : Int) + off = (tgt : Int)) (kt : x = y → W p l e R s m args below meth c H locs cells slots Q (F0 m tgt ls rest)) (kf : ¬ x = y → W p l e R s m args below meth c H locs cells slots Q (F0 m (pc + 3) ls rest)) : W p l e R s m args below meth c H locs cells slots Q (F0 m pc ls (va_re ad y :: va_re ad x :: rest)) :=
  lv_acmp_eq hexec hb hdg ht (fun q => kt (map_inj hD hx hy q)) (fun q => kf (fun z => q (by rw [z])))
theorem lv_acmpq_ne {ct : CT} {G : GG} {M : DD} {A : Nat → Prop} {x y : Option Nat} (hexec : p.tables.exec = Jvm.exec) (hb : c.code = cc) (hD : va_D A (wld ct ad G M)) (hx : okd G x = true) (hy : okd G y = true) {off : Int} {tgt : Nat} (hdg : decode cc pc = .ok (.if_acmp .ne off, 3)) (ht : (pc : Int) + off = (tgt : Int)) (kt : ¬ x = y → W p l e R s m args below meth c H locs cells slots Q (F0 m tgt ls rest)) (kf : x = y → W p l e R s m args below meth c H locs cells slots Q (F0 m (pc + 3) ls rest)) : W p l e R s m args below meth c H locs cells slots Q (F0 m pc ls (va_re ad y :: va_re ad x :: rest)) :=
  lv_acmp_ne hexec hb hdg ht (fun q => kt (fun z => q (by rw [z]))) (fun q => kf (map_inj hD hx hy q))
theorem lv_ifnullq (hexec : p.tables.exec = Jvm.exec) (hb : c.code = cc) {off : Int} {tgt : Nat} (hdg : decode cc pc = .ok (.ifnull off, 3)) (ht : (pc : Int) + off = (tgt : Int)) (kt : o = none → W p l e R s m args below meth c H locs cells slots Q (F0 m tgt ls rest)) (kf : ¬ o = none → W p l e R s m args below meth c H locs cells slots Q (F0 m (pc + 3) ls rest)) : W p l e R s m args below meth c H locs cells slots Q (F0 m pc ls (va_re ad o :: rest)) := by
  cases o with
  | none => exact lv_ifnullN hexec hb hdg ht (kt rfl)
  | some b => exact lv_ifnull hexec hb hdg (kf (fun h => by cases h))
theorem lv_ifnonnullq (hexec : p.tables.exec = Jvm.exec) (hb : c.code = cc) {off : Int} {tgt : Nat} (hdg : decode cc pc = .ok (.ifnonnull off, 3)) (ht : (pc : Int) + off = (tgt : Int)) (kt : ¬ o = none → W p l e R s m args below meth c H locs cells slots Q (F0 m tgt ls rest)) (kf : o = none → W p l e R s m args below meth c H locs cells slots Q (F0 m (pc + 3) ls rest)) : W p l e R s m args below meth c H locs cells slots Q (F0 m pc ls (va_re ad o :: rest)) := by
  cases o with
  | none => exact lv_ifnonnullN hexec hb hdg (kf rfl)
  | some b => exact lv_ifnonnull hexec hb hdg ht (kt (fun h => by cases h))
theorem lv_nullq (hexec : p.tables.exec = Jvm.exec) (hb : c.code = cc) (hdg : decode cc pc = .ok (.aconst_null, 1)) (kk : W p l e R s m args below meth c H locs cells slots Q (F0 m (pc + 1) ls (va_re ad none :: rest))) : W p l e R s m args below meth c H locs cells slots Q (F0 m pc ls rest) := lv_null hexec hb hdg kk
theorem ld_q {D : va_G} {ct : CT} {G : GG} {M : DD} {a : Nat} (hexec : p.tables.exec = Jvm.exec) (hb : c.code = cc) (hK : va_K D classes (tysOf ct) s) (hP : va_P D classes (wld ct ad G M) H) (h : a < G.1) (hk : G.2.1 a = 14) {i : Int32} (hin : vp_in i (G.2.2 a)) (hdg : decode cc pc = .ok (.aaload, 1)) (kk : W p l e R s m args below meth c H locs cells slots Q (F0 m (pc + 1) ls (va_re ad (M.2 a i.toNatClampNeg) :: rest))) : W p l e R s m args below meth c H locs cells slots Q (F0 m pc ls (.int i :: .ref (ad a) :: rest)) :=
  va_aldq hexec hb hK hP a 2 (wld_r ct ad G M h hk) rfl hin hdg kk
theorem ld_g {D : va_G} {ct : CT} {G : GG} {M : DD} {a : Nat} (hexec : p.tables.exec = Jvm.exec) (hb : c.code = cc) (hK : va_K D classes (tysOf ct) s) (hP : va_P D classes (wld ct ad G M) H) (h : a < G.1) (hk : G.2.1 a = 15) {i : Int32} (hin : vp_in i (G.2.2 a)) (hdg : decode cc pc = .ok (.aaload, 1)) (kk : W p l e R s m args below meth c H locs cells slots Q (F0 m (pc + 1) ls (va_re ad (M.2 a i.toNatClampNeg) :: rest))) : W p l e R s m args below meth c H locs cells slots Q (F0 m pc ls (.int i :: .ref (ad a) :: rest)) := by
  have hlt : i.toNatClampNeg < G.2.2 a := Nat.not_le.mp fun q => hin (Or.inr q)
  have ht : (tysOf ct)[3]? = some (ct.2.2.2, .array .int) := rfl
  exact W.aald (v := va_re ad (M.2 a i.toNatClampNeg)) (ty := .array .int) hexec hb (hP a _ (wld_g ct ad G M h hk)) ((hK.2 3 _ ht).1 (G.2.2 a) (fun j => va_rf ((M.2 a j).map ad))) rfl (fun q => by cases q) (by show ¬ (i < 0 ∨ (arrV _ _ _).slots.size ≤ _); rw [arrV_size]; exact hin) (by show (arrV _ _ _).slots[_]? = _; rw [arrV_read _ _ hlt]; rfl) rfl rfl hdg kk
end
