/-! memory by small numbers: what it holds (ints, references), how many cells, their kinds, their lengths -/
abbrev classes : List vw_C := [(RX0, TX0, 21), (RX1, TX1, 22), (RX2, TX2, 7), (RX3, TX3, 4), (RX4, TX4, 18), (RX5, TX5, 17), (RX6, TX6, 14), (RX7, TX7, 17), (RX8, TX8, 15), (RX9, TX9, 20), (RX10, TX10, 20), (RX11, TX11, 5)]
abbrev DD : Type := (Nat → Nat → Int32) × (Nat → Nat → Option Nat)
abbrev GG : Type := Nat × (Nat → Nat) × (Nat → Nat)
abbrev CT : Type := ClassId × ClassId × ClassId × ClassId
def uI (M : DD) (a k : Nat) (v : Int32) : DD := (fun b j => if b = a ∧ j = k then v else M.1 b j, M.2)
def uP (M : DD) (a k : Nat) (v : Option Nat) : DD := (M.1, fun b j => if b = a ∧ j = k then v else M.2 b j)
def rI (M : DD) (a : Nat) (f : Nat → Int32) : DD := (fun b => if b = a then f else M.1 b, M.2)
def chk {α : Type} (c : Prop) [Decidable c] (k : Option α) : Option α := if c then k else none
def bnd {α β : Type} (o : Option α) (k : α → Option β) : Option β := match o with
  | some x => k x
  | none => none
def dr {α : Type} (G : GG) (κ : Nat) (o : Option Nat) (k : Nat → Option α) : Option α := match o with
  | some b => if b < G.1 ∧ G.2.1 b = κ then k b else none
  | none => none
def itr {σ ρ : Type} (b : σ → Option (σ ⊕ ρ)) : Nat → σ → Option ρ
  | 0, _ => none
  | n + 1, s => match b s with
    | none => none
    | some (.inl t) => itr b n t
    | some (.inr r) => some r
theorem chk_some {α : Type} {c : Prop} [Decidable c] {k : Option α} {r : α} (h : chk c k = some r) : c ∧ k = some r := by
  unfold chk at h
  split at h
  · exact ⟨by assumption, h⟩
  · cases h
theorem bnd_some {α β : Type} {o : Option α} {k : α → Option β} {r : β} (h : bnd o k = some r) : ∃ x, o = some x ∧ k x = some r := by
  cases o with
  | none => cases h
  | some x => exact ⟨x, rfl, h⟩
theorem dr_some {α : Type} {G : GG} {κ : Nat} {o : Option Nat} {k : Nat → Option α} {r : α} (h : dr G κ o k = some r) : ∃ b, o = some b ∧ b < G.1 ∧ G.2.1 b = κ ∧ k b = some r := by
  cases o with
  | none => cases h
  | some b =>
    unfold dr at h
    dsimp only at h
    split at h
    · rename_i q
      exact ⟨b, rfl, q.1, q.2, h⟩
    · cases h
def ltt {α β : Type} (x : α) (k : α → Option β) : Option β := k x
theorem ltt_some {α β : Type} {x : α} {k : α → Option β} {r : β} (h : ltt x k = some r) : ∃ y, y = x ∧ k y = some r := ⟨x, rfl, h⟩
theorem va_some {ad : Nat → Nat} {o : Option Nat} {b : Nat} (h : o = some b) : va_re ad o = .ref (ad b) := by rw [h]; rfl
theorem nar_z {v : Int32} (h : v = 0 ∨ v = 1) : narrow .boolean (.int v) = .int v ∧ fits .boolean (.int v) = true := by
  rcases h with rfl | rfl <;> exact ⟨by decide +kernel, by decide +kernel⟩
theorem va_re_cat (ad : Nat → Nat) (o : Option Nat) : (va_re ad o).category = 1 := by cases o <;> rfl
theorem itr_0 {σ ρ : Type} {b : σ → Option (σ ⊕ ρ)} {s : σ} {r : ρ} (h : itr b 0 s = some r) : False := by cases h
theorem itr_s {σ ρ : Type} {b : σ → Option (σ ⊕ ρ)} {n : Nat} {s : σ} {r : ρ} (h : itr b (n + 1) s = some r) : ∃ y, b s = some y ∧ (match y with
  | .inl t => itr b n t = some r
  | .inr q => q = r) := by
  unfold itr at h
  cases hb : b s with
  | none => rw [hb] at h; cases h
  | some y =>
    rw [hb] at h
    cases y with
    | inl t => exact ⟨.inl t, rfl, h⟩
    | inr q => exact ⟨.inr q, rfl, Option.some.inj h⟩
theorem itr_rule {σ ρ : Type} {b : σ → Option (σ ⊕ ρ)} {y : ρ} (P : σ → Prop) (hs : ∀ q, (∃ z, b q = some z ∧ (match z with
  | .inl t => P t
  | .inr r => r = y)) → P q) : ∀ (n : Nat) (q : σ), itr b n q = some y → P q := by
  intro n
  induction n with
  | zero => intro q h; exact (itr_0 h).elim
  | succ n ih =>
    intro q h
    obtain ⟨z, hz, hw⟩ := itr_s h
    refine hs q ⟨z, hz, ?_⟩
    cases z with
    | inl t => exact ih t hw
    | inr r => exact hw
def ftOf : Nat → List Bool
  | 0 => [true, true, true, true, true, true, true, true, true, true, false, false, false, false, false, false, false, true, false, false, true]
  | 1 => [true, true, true, true, true, true, true, true, false, true, true, true, true, true, false, false, false, false, false, false, false, false]
  | 2 => [true, false, false, false, false, false, false]
  | 3 => [true, true, true, true]
  | 4 => [false, false, false, true, true, true, true, true, false, false, false, false, false, false, false, false, false, false]
  | 5 => [true, false, false, false, false, false, false, false, false, false, true, true, false, true, true, false, false]
  | 6 => [true, true, true, true, true, true, true, true, true, false, false, false, false, false]
  | 7 => [true, false, true, false, false, false, true, true, false, false, false, false, false, false, false, true, true]
  | 8 => [true, true, true, false, false, true, true, false, true, false, true, false, true, true, false]
  | 9 => [true, true, true, true, true, true, true, true, true, true, true, false, true, true, false, true, false, true, false, false]
  | 10 => [true, false, false, false, true, false, false, false, false, false, false, false, false, true, true, true, false, false, false, false]
  | 11 => [true, false, true, true, true]
  | _ => []
def fld (ad : Nat → Nat) (M : DD) (a : Nat) (l : List Bool) : List Value := (List.range l.length).map (fun j => if l.getD j false = true then va_re ad (M.2 a j) else .int (M.1 a j))
def cellOf (ct : CT) (ad : Nat → Nat) (G : GG) (M : DD) (a : Nat) : va_E :=
  if G.2.1 a < 12 then .inr (G.2.1 a, fld ad M a (ftOf (G.2.1 a)))
  else if G.2.1 a = 12 then .inl (ct.1, G.2.2 a, .inl (M.1 a))
  else if G.2.1 a = 13 then .inl (ct.2.1, G.2.2 a, .inl (M.1 a))
  else if G.2.1 a = 14 then .inl (ct.2.2.1, G.2.2 a, .inr (.inr (.inr (.inr (fun j => (M.2 a j).map ad)))))
  else .inl (ct.2.2.2, G.2.2 a, .inr (.inr (.inr (.inr (fun j => (M.2 a j).map ad)))))
def wld (ct : CT) (ad : Nat → Nat) (G : GG) (M : DD) : va_W := (List.range G.1).map (fun a => (ad a, cellOf ct ad G M a))
abbrev tysOf (ct : CT) : List (ClassId × FieldType) := [(ct.1, .byte), (ct.2.1, .int), (ct.2.2.1, .object "VideoSuite$Picture"), (ct.2.2.2, .array .int)]
def wA (ad : Nat → Nat) (G : GG) (sz : Nat) : Nat → Prop := fun q => (∃ a, a < G.1 ∧ q = ad a) ∨ sz ≤ q
theorem wld_at (ct : CT) (ad : Nat → Nat) (G : GG) (M : DD) {a : Nat} (h : a < G.1) : (wld ct ad G M)[a]? = some (ad a, cellOf ct ad G M a) := by simp [wld, h]
theorem wld_o (ct : CT) (ad : Nat → Nat) (G : GG) (M : DD) {a κ : Nat} (h : a < G.1) (hk : G.2.1 a = κ) (hκ : κ < 12) : (wld ct ad G M)[a]? = some (ad a, .inr (κ, fld ad M a (ftOf κ))) := by
  rw [wld_at ct ad G M h]
  simp [cellOf, hk, hκ]
theorem wld_b (ct : CT) (ad : Nat → Nat) (G : GG) (M : DD) {a : Nat} (h : a < G.1) (hk : G.2.1 a = 12) : (wld ct ad G M)[a]? = some (ad a, .inl (ct.1, G.2.2 a, .inl (M.1 a))) := by
  rw [wld_at ct ad G M h]
  simp [cellOf, hk]
theorem wld_i (ct : CT) (ad : Nat → Nat) (G : GG) (M : DD) {a : Nat} (h : a < G.1) (hk : G.2.1 a = 13) : (wld ct ad G M)[a]? = some (ad a, .inl (ct.2.1, G.2.2 a, .inl (M.1 a))) := by
  rw [wld_at ct ad G M h]
  simp [cellOf, hk]
theorem wld_r (ct : CT) (ad : Nat → Nat) (G : GG) (M : DD) {a : Nat} (h : a < G.1) (hk : G.2.1 a = 14) : (wld ct ad G M)[a]? = some (ad a, .inl (ct.2.2.1, G.2.2 a, .inr (.inr (.inr (.inr (fun j => (M.2 a j).map ad)))))) := by
  rw [wld_at ct ad G M h]
  simp [cellOf, hk]
theorem wld_g (ct : CT) (ad : Nat → Nat) (G : GG) (M : DD) {a : Nat} (h : a < G.1) (hk : G.2.1 a = 15) : (wld ct ad G M)[a]? = some (ad a, .inl (ct.2.2.2, G.2.2 a, .inr (.inr (.inr (.inr (fun j => (M.2 a j).map ad)))))) := by
  rw [wld_at ct ad G M h]
  simp [cellOf, hk]
theorem wld_set (ct : CT) (ad : Nat → Nat) (G : GG) (M M1 : DD) {a : Nat} (h : a < G.1) {x : va_E} (hx : cellOf ct ad G M1 a = x) (ho : ∀ b, b ≠ a → cellOf ct ad G M1 b = cellOf ct ad G M b) : (wld ct ad G M).set a (ad a, x) = wld ct ad G M1 := by
  apply List.ext_getElem?
  intro b
  rw [List.getElem?_set]
  by_cases hb : a = b
  · subst hb
    simp [wld, h, hx]
  · rw [if_neg hb]
    simp only [wld, List.getElem?_map]
    by_cases hc : b < G.1
    · simp [hc, ho b (fun e => hb e.symm)]
    · simp [hc]
theorem cell_uI_ne {ct : CT} {ad : Nat → Nat} {G : GG} {M : DD} {a k : Nat} {v : Int32} : ∀ b, b ≠ a → cellOf ct ad G (uI M a k v) b = cellOf ct ad G M b := by
  intro b hb
  simp [cellOf, uI, fld, hb]
theorem cell_uP_ne {ct : CT} {ad : Nat → Nat} {G : GG} {M : DD} {a k : Nat} {v : Option Nat} : ∀ b, b ≠ a → cellOf ct ad G (uP M a k v) b = cellOf ct ad G M b := by
  intro b hb
  simp [cellOf, uP, fld, hb]
theorem cell_rI_ne {ct : CT} {ad : Nat → Nat} {G : GG} {M : DD} {a : Nat} {f : Nat → Int32} : ∀ b, b ≠ a → cellOf ct ad G (rI M a f) b = cellOf ct ad G M b := by
  intro b hb
  simp [cellOf, rI, fld, hb]
theorem fld_uI {ad : Nat → Nat} {M : DD} {a k : Nat} {v : Int32} {l : List Bool} (hf : l[k]? = some false) : fld ad (uI M a k v) a l = (fld ad M a l).set k (.int v) := by
  apply List.ext_getElem?
  intro j
  rw [List.getElem?_set]
  by_cases hj : k = j
  · subst hj
    obtain ⟨hlt, hg⟩ := List.getElem?_eq_some_iff.mp hf
    simp [fld, uI, hlt, hg]
  · rw [if_neg hj]
    have hj' : ¬ j = k := fun e => hj e.symm
    simp only [fld, List.getElem?_map, uI]
    by_cases hc : j < l.length
    · simp [hc, hj']
    · simp [hc]
theorem fld_uP {ad : Nat → Nat} {M : DD} {a k : Nat} {v : Option Nat} {l : List Bool} (hf : l[k]? = some true) : fld ad (uP M a k v) a l = (fld ad M a l).set k (va_re ad v) := by
  apply List.ext_getElem?
  intro j
  rw [List.getElem?_set]
  by_cases hj : k = j
  · subst hj
    obtain ⟨hlt, hg⟩ := List.getElem?_eq_some_iff.mp hf
    simp [fld, uP, hlt, hg]
  · rw [if_neg hj]
    have hj' : ¬ j = k := fun e => hj e.symm
    simp only [fld, List.getElem?_map, uP]
    by_cases hc : j < l.length
    · simp [hc, hj']
    · simp [hc]
theorem set_oI (ct : CT) (ad : Nat → Nat) (G : GG) (M : DD) {a κ k : Nat} {v : Int32} (h : a < G.1) (hk : G.2.1 a = κ) (hκ : κ < 12) (hf : (ftOf κ)[k]? = some false) : (wld ct ad G M).set a (ad a, .inr (κ, (fld ad M a (ftOf κ)).set k (.int v))) = wld ct ad G (uI M a k v) :=
  wld_set ct ad G M _ h (by simp only [cellOf, hk, hκ, if_true]; rw [fld_uI hf]) cell_uI_ne
theorem set_oP (ct : CT) (ad : Nat → Nat) (G : GG) (M : DD) {a κ k : Nat} {v : Option Nat} (h : a < G.1) (hk : G.2.1 a = κ) (hκ : κ < 12) (hf : (ftOf κ)[k]? = some true) : (wld ct ad G M).set a (ad a, .inr (κ, (fld ad M a (ftOf κ)).set k (va_re ad v))) = wld ct ad G (uP M a k v) :=
  wld_set ct ad G M _ h (by simp only [cellOf, hk, hκ, if_true]; rw [fld_uP hf]) cell_uP_ne
theorem set_b (ct : CT) (ad : Nat → Nat) (G : GG) (M : DD) {a k : Nat} {v : Int32} (h : a < G.1) (hk : G.2.1 a = 12) : (wld ct ad G M).set a (ad a, .inl (ct.1, G.2.2 a, .inl (upd (M.1 a) k v))) = wld ct ad G (uI M a k v) :=
  wld_set ct ad G M _ h (by
    have e : (uI M a k v).1 a = upd (M.1 a) k v := by funext j; simp [uI, upd]
    simp [cellOf, hk, e]) cell_uI_ne
theorem set_i (ct : CT) (ad : Nat → Nat) (G : GG) (M : DD) {a k : Nat} {v : Int32} (h : a < G.1) (hk : G.2.1 a = 13) : (wld ct ad G M).set a (ad a, .inl (ct.2.1, G.2.2 a, .inl (upd (M.1 a) k v))) = wld ct ad G (uI M a k v) :=
  wld_set ct ad G M _ h (by
    have e : (uI M a k v).1 a = upd (M.1 a) k v := by funext j; simp [uI, upd]
    simp [cellOf, hk, e]) cell_uI_ne
theorem wD_self {B : Nat → Prop} {ct : CT} {ad : Nat → Nat} {G : GG} {M : DD} {sz : Nat} (h : va_D B (wld ct ad G M)) : va_D (wA ad G sz) (wld ct ad G M) := by
  refine ⟨h.1, fun k q hk => ?_⟩
  simp only [wld, List.getElem?_map, Option.map_eq_some_iff] at hk
  obtain ⟨a, ha, rfl⟩ := hk
  have : a < G.1 := by
    have := List.mem_of_getElem? ha
    simpa using this
  exact Or.inl ⟨a, this, rfl⟩
def kB (D : va_G) (ct : CT) (ad : Nat → Nat) (G : GG) (M : DD) (sz : Nat) (U : State) : Prop := U.heap.size = sz ∧ va_P D classes (wld ct ad G M) U.heap ∧ va_K D classes (tysOf ct) U ∧ va_D (fun _ => True) (wld ct ad G M)
def kE (D : va_G) (ct : CT) (ad : Nat → Nat) (G : GG) (A : Nat → Prop) (M : DD) (t : State) : Prop := va_P D classes (wld ct ad G M) t.heap ∧ va_K D classes (tysOf ct) t ∧ va_D A (wld ct ad G M)
section
variable {p : Program} {l : Launch} {e : Env} {R : Room} {s : State} {m : MethodId} {args : Array Value} {below : List Frame} {meth : Method} {c : Code} {H : Heap} {locs : List Loc} {cells slots : Nat} {Q : State → Prop} {cc : ByteArray} {pc : Nat} {ls : Array Slot} {rest : List Value} {ad : Nat → Nat} {o : Option Nat}
theorem lv_aloadq_n (hexec : p.tables.exec = Jvm.exec) (hb : c.code = cc) {k : Fin 4} {i : Nat} (hdg : decode cc pc = .ok (.aload_n k, 1)) (hi : (k : Nat) = i) (hl : ls[i]? = some (.val (va_re ad o))) (kk : W p l e R s m args below meth c H locs cells slots Q (F0 m (pc + 1) ls (va_re ad o :: rest))) : W p l e R s m args below meth c H locs cells slots Q (F0 m pc ls rest) := by
  cases o with
  | none => exact lv_aload_nN hexec hb hdg hi hl kk
  | some b => exact lv_aload_n hexec hb hdg hi hl kk
theorem lv_aloadq (hexec : p.tables.exec = Jvm.exec) (hb : c.code = cc) {i : Nat} (hdg : decode cc pc = .ok (.aload i, 2)) (hl : ls[i]? = some (.val (va_re ad o))) (kk : W p l e R s m args below meth c H locs cells slots Q (F0 m (pc + 2) ls (va_re ad o :: rest))) : W p l e R s m args below meth c H locs cells slots Q (F0 m pc ls rest) := by
  cases o with
  | none => exact lv_aloadN hexec hb hdg hl kk
  | some b => exact lv_aload hexec hb hdg hl kk
theorem lv_astoreq_n (hexec : p.tables.exec = Jvm.exec) (hb : c.code = cc) {k : Fin 4} {i nL : Nat} {lv lv' : List (Nat × Value)} (hdg : decode cc pc = .ok (.astore_n k, 1)) (hi : (k : Nat) = i) (h : lv_has ls nL lv) (hn : i < nL) (hl : (i, va_re ad o) :: lv.filter (fun q => !(q.1 == i) && !(q.1 + 1 == i && q.2.category == 2)) = lv') (kk : ∀ ls' : Array Slot, lv_has ls' nL lv' → W p l e R s m args below meth c H locs cells slots Q (F0 m (pc + 1) ls' rest)) : W p l e R s m args below meth c H locs cells slots Q (F0 m pc ls (va_re ad o :: rest)) := by
  cases o with
  | none => exact lv_astore_nN hexec hb hdg hi h hn hl kk
  | some b => exact lv_astore_n hexec hb hdg hi h hn hl kk
theorem lv_astoreq (hexec : p.tables.exec = Jvm.exec) (hb : c.code = cc) {i nL : Nat} {lv lv' : List (Nat × Value)} (hdg : decode cc pc = .ok (.astore i, 2)) (h : lv_has ls nL lv) (hn : i < nL) (hl : (i, va_re ad o) :: lv.filter (fun q => !(q.1 == i) && !(q.1 + 1 == i && q.2.category == 2)) = lv') (kk : ∀ ls' : Array Slot, lv_has ls' nL lv' → W p l e R s m args below meth c H locs cells slots Q (F0 m (pc + 2) ls' rest)) : W p l e R s m args below meth c H locs cells slots Q (F0 m pc ls (va_re ad o :: rest)) := by
  cases o with
  | none => exact lv_astoreN hexec hb hdg h hn hl kk
  | some b => exact lv_astore hexec hb hdg h hn hl kk
end
