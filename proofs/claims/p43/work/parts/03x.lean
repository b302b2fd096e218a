/-! cells that come: lists of their kinds and lengths -/
abbrev NN : Type := List (Nat × Nat)
def xt (G : GG) (N : NN) : GG := (G.1 + N.length, (fun x => if x < G.1 then G.2.1 x else (N.getD (x - G.1) (0, 0)).1), (fun x => if x < G.1 then G.2.2 x else (N.getD (x - G.1) (0, 0)).2))
def clen : Nat → Nat
  | 0 => 21
  | 1 => 22
  | 2 => 7
  | 3 => 4
  | 4 => 18
  | 5 => 17
  | 6 => 14
  | 7 => 17
  | 8 => 15
  | 9 => 20
  | 10 => 20
  | _ => 5
def wt1 (q : Nat × Nat) : Nat := if q.1 < 12 then clen q.1 else q.2
def wt : NN → Nat
  | [] => 0
  | q :: t => wt1 q + wt t
theorem wt_app (a b : NN) : wt (a ++ b) = wt a + wt b := by
  induction a with
  | nil => simp [wt]
  | cons q t ih => simp [wt, ih, Nat.add_assoc]
def app {β : Type} (l : NN) (o : Option (NN × β)) : Option (NN × β) := match o with
  | some y => some (l ++ y.1, y.2)
  | none => none
theorem app_some {β : Type} {l : NN} {o : Option (NN × β)} {y : NN × β} (h : app l o = some y) : ∃ w, o = some w ∧ y = (l ++ w.1, w.2) := by
  cases o with
  | none => cases h
  | some w => exact ⟨w, rfl, (Option.some.inj h).symm⟩
def itrA {σ ρ : Type} (b : σ → Option (NN × (σ ⊕ ρ))) : Nat → σ → Option (NN × ρ)
  | 0, _ => none
  | n + 1, s => match b s with
    | none => none
    | some (r, .inl t) => app r (itrA b n t)
    | some (r, .inr q) => some (r, q)
theorem itrA_rule {σ ρ : Type} {b : σ → Option (NN × (σ ⊕ ρ))} {y : ρ} (P : σ → NN → Prop) (hs : ∀ q r, (∃ z, b q = some z ∧ (∃ t, r = z.1 ++ t) ∧ (match z.2 with
  | .inl t => ∃ r2, r = z.1 ++ r2 ∧ P t r2
  | .inr x => x = y ∧ r = z.1)) → P q r) : ∀ (n : Nat) (q : σ) (r : NN), itrA b n q = some (r, y) → P q r := by
  intro n
  induction n with
  | zero => intro q r h; cases h
  | succ n ih =>
    intro q r h
    unfold itrA at h
    cases hb : b q with
    | none => rw [hb] at h; cases h
    | some z =>
      rw [hb] at h
      obtain ⟨z1, z2⟩ := z
      cases z2 with
      | inl t =>
        obtain ⟨w, hw, e⟩ := app_some h
        obtain ⟨w1, w2⟩ := w
        have e1 : r = z1 ++ w1 := congrArg Prod.fst e
        have e2 : y = w2 := congrArg Prod.snd e
        subst e2
        exact hs q r ⟨_, hb, ⟨w1, e1⟩, w1, e1, ih t w1 hw⟩
      | inr x =>
        have e := Option.some.inj h
        have e1 : z1 = r := congrArg Prod.fst e
        have e2 : x = y := congrArg Prod.snd e
        exact hs q r ⟨_, hb, ⟨[], by rw [← e1]; exact (List.append_nil _).symm⟩, e2, e1.symm⟩
noncomputable def chkP {α : Type} (c : Prop) (k : Option α) : Option α := @ite _ c (Classical.propDecidable c) k none
theorem chkP_some {α : Type} {c : Prop} {k : Option α} {r : α} (h : chkP c k = some r) : c ∧ k = some r := by
  unfold chkP at h
  by_cases hc : c
  · rw [if_pos hc] at h
    exact ⟨hc, h⟩
  · rw [if_neg hc] at h
    cases h
theorem getD_app (a b : NN) (i : Nat) (h : i < a.length) : (a ++ b).getD i (0, 0) = a.getD i (0, 0) := by
  simp [List.getD_eq_getElem?_getD, List.getElem?_append_left h]
theorem getD_app2 (a b : NN) (i : Nat) (h : a.length ≤ i) : (a ++ b).getD i (0, 0) = b.getD (i - a.length) (0, 0) := by
  simp [List.getD_eq_getElem?_getD, List.getElem?_append_right h]
theorem xt_l {G : GG} {N : NN} {b : Nat} (N2 : NN) (h : b < (xt G N).1) : b < (xt G (N ++ N2)).1 := by
  simp only [xt, List.length_append] at *
  omega
theorem xt_ke {G : GG} {N : NN} {b : Nat} (N2 : NN) (h : b < (xt G N).1) : (xt G (N ++ N2)).2.1 b = (xt G N).2.1 b := by
  simp only [xt] at *
  by_cases hb : b < G.1
  · simp [hb]
  · simp only [hb, if_false]
    rw [getD_app _ _ _ (by omega)]
theorem xt_ne {G : GG} {N : NN} {b : Nat} (N2 : NN) (h : b < (xt G N).1) : (xt G (N ++ N2)).2.2 b = (xt G N).2.2 b := by
  simp only [xt] at *
  by_cases hb : b < G.1
  · simp [hb]
  · simp only [hb, if_false]
    rw [getD_app _ _ _ (by omega)]
theorem xt_k {G : GG} {N : NN} {b κ : Nat} (N2 : NN) (h : b < (xt G N).1) (k : (xt G N).2.1 b = κ) : (xt G (N ++ N2)).2.1 b = κ := (xt_ke N2 h).trans k
theorem xt_l0 {G : GG} {b : Nat} (h : b < G.1) : b < (xt G []).1 := h
theorem xt_k0 {G : GG} {b κ : Nat} (h : b < G.1) (k : G.2.1 b = κ) : (xt G []).2.1 b = κ := by
  simp only [xt, h, if_true]
  exact k
theorem xt_xt (G : GG) (a b : NN) : xt (xt G a) b = xt G (a ++ b) := by
  have h1 : G.1 + a.length + b.length = G.1 + (a ++ b).length := by simp [Nat.add_assoc]
  have hx : ∀ x : Nat, ¬ x < G.1 → ¬ x < G.1 + a.length → b.getD (x - (G.1 + a.length)) (0, 0) = (a ++ b).getD (x - G.1) (0, 0) := by
    intro x h2 h3
    rw [getD_app2 _ _ _ (by omega)]
    congr 1
    omega
  have hy : ∀ x : Nat, ¬ x < G.1 → x < G.1 + a.length → a.getD (x - G.1) (0, 0) = (a ++ b).getD (x - G.1) (0, 0) := by
    intro x h2 h3
    rw [getD_app _ _ _ (by omega)]
  simp only [xt]
  refine Prod.ext h1 (Prod.ext (funext fun x => ?_) (funext fun x => ?_))
  · show (if x < G.1 + a.length then (if x < G.1 then G.2.1 x else (a.getD (x - G.1) (0, 0)).1) else (b.getD (x - (G.1 + a.length)) (0, 0)).1) = (if x < G.1 then G.2.1 x else ((a ++ b).getD (x - G.1) (0, 0)).1)
    by_cases h2 : x < G.1
    · rw [if_pos h2, if_pos h2, if_pos (by omega)]
    · by_cases h3 : x < G.1 + a.length
      · rw [if_neg h2, if_neg h2, if_pos h3, hy x h2 h3]
      · rw [if_neg h2, if_neg h3, hx x h2 h3, if_neg h2]
  · show (if x < G.1 + a.length then (if x < G.1 then G.2.2 x else (a.getD (x - G.1) (0, 0)).2) else (b.getD (x - (G.1 + a.length)) (0, 0)).2) = (if x < G.1 then G.2.2 x else ((a ++ b).getD (x - G.1) (0, 0)).2)
    by_cases h2 : x < G.1
    · rw [if_pos h2, if_pos h2, if_pos (by omega)]
    · by_cases h3 : x < G.1 + a.length
      · rw [if_neg h2, if_neg h2, if_pos h3, hy x h2 h3]
      · rw [if_neg h2, if_neg h3, hx x h2 h3, if_neg h2]
def agr (n : Nat) (f g : Nat → Nat) : Prop := ∀ x, x < n → g x = f x
theorem agr_rf (n : Nat) (f : Nat → Nat) : agr n f f := fun _ _ => rfl
theorem agr_t {n k : Nat} {f g h : Nat → Nat} (hnk : n ≤ k) (h1 : agr n f g) (h2 : agr k g h) : agr n f h := fun x hx => (h2 x (Nat.lt_of_lt_of_le hx hnk)).trans (h1 x hx)
theorem xt_ge (G : GG) (N : NN) : G.1 ≤ (xt G N).1 := Nat.le_add_right _ _
theorem agr_re {G : GG} {f g : Nat → Nat} {o : Option Nat} (h : agr G.1 f g) (ho : okd G o = true) : va_re g o = va_re f o := by
  cases o with
  | none => rfl
  | some b => show Value.ref (g b) = Value.ref (f b); rw [h b (okd_some ho)]
/-- a new cell's contents: nothing -/
def rO (M : DD) (c : Nat) : DD := (fun b => if b = c then (fun _ => 0) else M.1 b, fun b => if b = c then (fun _ => none) else M.2 b)
def Clo (G : GG) (M : DD) : Prop := ∀ a, a < G.1 → ∀ k b, M.2 a k = some b → b < G.1
def adn (ad : Nat → Nat) (c q : Nat) : Nat → Nat := fun x => if x = c then q else ad x
def nul (κ : Nat) : List Value := (ftOf κ).map (fun b => if b then .null else .int 0)
theorem cell_same {ct : CT} {ad ad' : Nat → Nat} {G G' : GG} {M M' : DD} {a : Nat} (hk : G'.2.1 a = G.2.1 a) (hn : G'.2.2 a = G.2.2 a) (h1 : M'.1 a = M.1 a) (h2 : M'.2 a = M.2 a) (hr : ∀ k b, M.2 a k = some b → ad' b = ad b) : cellOf ct ad' G' M' a = cellOf ct ad G M a := by
  have hv : ∀ k, va_re ad' (M.2 a k) = va_re ad (M.2 a k) := by
    intro k
    cases e : M.2 a k with
    | none => rfl
    | some b => show Value.ref (ad' b) = Value.ref (ad b); rw [hr k b e]
  have hm : (fun j => (M.2 a j).map ad') = (fun j => (M.2 a j).map ad) := by
    funext j
    cases e : M.2 a j with
    | none => rfl
    | some b => simp only [Option.map_some]; rw [hr j b e]
  have hf : ∀ l, fld ad' M' a l = fld ad M a l := by
    intro l
    simp only [fld, h1, h2, hv]
  simp only [cellOf, hk, hn, h1, h2, hf, hm]
theorem cell_o (ct : CT) (ad : Nat → Nat) (G : GG) (N : NN) (M : DD) {κ : Nat} (n : Nat) (hκ : κ < 12) : cellOf ct ad (xt G (N ++ [(κ, n)])) (rO M (xt G N).1) (xt G N).1 = .inr (κ, nul κ) := by
  have e : (xt G (N ++ [(κ, n)])).2.1 (xt G N).1 = κ := by
    simp only [xt]
    rw [if_neg (by omega), show G.1 + N.length - G.1 = N.length by omega, getD_app2 _ _ _ (Nat.le_refl _)]
    simp
  simp only [cellOf, e, hκ, if_true]
  congr 2
  simp only [fld, nul, rO, if_true]
  apply List.ext_getElem?
  intro j
  simp only [List.getElem?_map]
  by_cases hj : j < (ftOf κ).length
  · simp only [hj, List.getElem?_range, List.getElem?_eq_getElem, Option.map_some, List.getD_eq_getElem?_getD, Option.getD_some]
    cases (ftOf κ)[j] <;> rfl
  · have hj' : (ftOf κ).length ≤ j := Nat.not_lt.mp hj
    simp [List.getElem?_eq_none, hj']
theorem kind_new (G : GG) (N : NN) (κ n : Nat) : (xt G (N ++ [(κ, n)])).2.1 (xt G N).1 = κ ∧ (xt G (N ++ [(κ, n)])).2.2 (xt G N).1 = n := by
  simp only [xt]
  rw [if_neg (by omega), if_neg (by omega), show G.1 + N.length - G.1 = N.length by omega, getD_app2 _ _ _ (Nat.le_refl _)]
  simp
theorem cnt_new (G : GG) (N : NN) (x : Nat × Nat) : (xt G N).1 < (xt G (N ++ [x])).1 := by
  simp [xt]
theorem cell_i (ct : CT) (ad : Nat → Nat) (G : GG) (N : NN) (M : DD) (n : Nat) : cellOf ct ad (xt G (N ++ [(13, n)])) (rO M (xt G N).1) (xt G N).1 = .inl (ct.2.1, n, .inl (fun _ => 0)) := by
  simp [cellOf, kind_new, rO]
theorem cell_b (ct : CT) (ad : Nat → Nat) (G : GG) (N : NN) (M : DD) (n : Nat) : cellOf ct ad (xt G (N ++ [(12, n)])) (rO M (xt G N).1) (xt G N).1 = .inl (ct.1, n, .inl (fun _ => 0)) := by
  simp [cellOf, kind_new, rO]
theorem cell_r (ct : CT) (ad : Nat → Nat) (G : GG) (N : NN) (M : DD) (n : Nat) : cellOf ct ad (xt G (N ++ [(14, n)])) (rO M (xt G N).1) (xt G N).1 = .inl (ct.2.2.1, n, .inr (.inr (.inr (.inr (fun _ => none))))) := by
  simp [cellOf, kind_new, rO]
theorem wld_new (ct : CT) (ad : Nat → Nat) (G : GG) (N : NN) (M : DD) (x : Nat × Nat) (q : Nat) (hC : Clo (xt G N) M) : wld ct ad (xt G N) M ++ [(q, cellOf ct (adn ad (xt G N).1 q) (xt G (N ++ [x])) (rO M (xt G N).1) (xt G N).1)] = wld ct (adn ad (xt G N).1 q) (xt G (N ++ [x])) (rO M (xt G N).1) := by
  have e : (xt G (N ++ [x])).1 = (xt G N).1 + 1 := by simp [xt, Nat.add_assoc]
  unfold wld
  rw [e, List.range_succ, List.map_append]
  congr 1
  · apply List.map_congr_left
    intro a ha
    have ha' : a < (xt G N).1 := List.mem_range.mp ha
    have hne : a ≠ (xt G N).1 := Nat.ne_of_lt ha'
    have e1 : adn ad (xt G N).1 q a = ad a := if_neg hne
    rw [e1]
    congr 1
    exact (cell_same (xt_ke _ ha') (xt_ne _ ha') (if_neg hne) (if_neg hne) (fun k b hb => if_neg (Nat.ne_of_lt (hC a ha' k b hb)))).symm
  · simp [adn]
theorem agr_adn (ad : Nat → Nat) (c q : Nat) : agr c ad (adn ad c q) := fun _ hx => if_neg (Nat.ne_of_lt hx)
theorem adn_at (ad : Nat → Nat) (c q : Nat) : adn ad c q c = q := if_pos rfl
theorem wld_0 (ct : CT) (ad : Nat → Nat) (G : GG) (M : DD) : wld ct ad (xt G []) M = wld ct ad G M := by
  unfold wld
  show (List.range (G.1 + 0)).map _ = _
  apply List.map_congr_left
  intro a ha
  have ha' : a < G.1 := List.mem_range.mp ha
  congr 1
  exact cell_same (by simp [xt, ha']) (by simp [xt, ha']) rfl rfl (fun _ _ _ => rfl)
theorem room_1s {T N w : NN} {x : Nat × Nat} {k n : Nat} (e : T = (N ++ [x]) ++ w) (h : T.length ≤ k ∧ wt T ≤ n) : N.length + 1 ≤ k ∧ wt N + wt1 x ≤ n := by
  subst e
  simp only [List.length_append, List.length_cons, List.length_nil, wt_app, wt] at h
  omega
theorem room_s {T N x w : NN} {k n : Nat} (e : T = (N ++ x) ++ w) (h : T.length ≤ k ∧ wt T ≤ n) : N.length + x.length ≤ k ∧ wt N + wt x ≤ n := by
  subst e
  simp only [List.length_append, wt_app] at h
  omega
theorem room_d {T N w : NN} {k n : Nat} (e : T = N ++ w) (h : T.length ≤ k ∧ wt T ≤ n) : N.length ≤ k ∧ wt N ≤ n := by
  subst e
  simp only [List.length_append, wt_app] at h
  omega
theorem len_s (N x : NN) : (N ++ x).length = N.length + x.length := List.length_append
/-- what is behind a call that makes cells -/
def kA (D : va_G) (ct : CT) (G : GG) (A : Nat → Prop) (y : NN × DD) (u : Nat → Nat) (t : State) : Prop := kE D ct u (xt G y.1) A y.2 t
section
variable {p : Program} {l : Launch} {e : Env} {R : Room} {s : State} {m : MethodId} {args : Array Value} {below : List Frame} {meth : Method} {c : Code} {H : Heap} {locs : List Loc} {Q : State → Prop} {cc : ByteArray} {pc : Nat} {ls : Array Slot} {rest : List Value} {ad : Nat → Nat} {D : va_G} {ct : CT} {G : GG} {N : NN} {M : DD} {A : Nat → Prop} {H0 : Heap}
theorem W_cs {cells slots k n : Nat} {g : JFrame} (h1 : cells = k) (h2 : slots = n) (kk : W p l e R s m args below meth c H locs k n Q g) : W p l e R s m args below meth c H locs cells slots Q g := by
  subst h1
  subst h2
  exact kk
theorem new_o {own C : String} {T : u_T} {NF κ index : Nat} {Ts : List Cond} (hexec : p.tables.exec = Jvm.exec) (hb : c.code = cc) (hts : ∀ w ∈ Ts, w.before args s = true) (hin : ∀ w ∈ u_ws C T NF, w ∈ Ts) (ty : Nat → FieldType) (hty : ∀ k, k < NF → parseFieldDescriptor (T k).2.2.1 = some (ty k)) (hown : s.vm.findClass own = some m.cls) (hcl : (Cond.classLink own index C).before args s = true) (hinst : (Cond.instantiable C NF).before args s = true) (hini : (Cond.initialized C).before args s = true) (hK : va_K D classes (tysOf ct) s) (hP : va_P D classes (wld ct ad (xt G N) M) H) (hD : va_D A (wld ct ad (xt G N) M)) (hS : va_S A H0 H locs) (hA : ∀ q, H0.size ≤ q → A q) (hc : classes[κ]? = some (C, T, NF)) (hκ : κ < 12) (hw : wt1 (κ, 0) = NF) (hfs : ∀ j, j < NF → defaultValue (ty j) = vp_V (nul κ) j) (hC : Clo (xt G N) M) (hroom : N.length + 1 ≤ R.cells ∧ wt N + wt1 (κ, 0) ≤ R.slots) (hdg : decode cc pc = .ok (.new index, 3)) (kk : ∀ (ad' : Nat → Nat) (H1 : Heap), agr (xt G N).1 ad ad' → va_P D classes (wld ct ad' (xt G (N ++ [(κ, 0)])) (rO M (xt G N).1)) H1 → va_D A (wld ct ad' (xt G (N ++ [(κ, 0)])) (rO M (xt G N).1)) → va_S A H0 H1 locs → W p l e R s m args below meth c H1 locs (N ++ [(κ, 0)]).length (wt (N ++ [(κ, 0)])) Q (F0 m (pc + 3) ls (.ref (ad' (xt G N).1) :: rest))) : W p l e R s m args below meth c H locs N.length (wt N) Q (F0 m pc ls rest) := by
  refine va_new hexec hb hts hin ty hty hown hcl hinst hini hK hP hD hS hA hc hfs hroom.1 (by rw [← hw]; exact hroom.2) hdg (fun q H1 hP1 hD1 hS1 => ?_)
  have e := wld_new ct ad G N M (κ, 0) q hC
  rw [cell_o ct _ G N M 0 hκ] at e
  rw [e] at hP1 hD1
  have k1 := kk (adn ad (xt G N).1 q) H1 (agr_adn _ _ _) hP1 hD1 hS1
  rw [adn_at] at k1
  exact W_cs (by simp) (by simp [wt_app, wt, hw]) k1
theorem ct_eq {cA : ClassId} {i : Nat} {ty : FieldType} {t0 : ClassId} (hK : va_K D classes (tysOf ct ++ [(cA, ty)]) s) (h0 : (tysOf ct)[i]? = some (t0, ty)) (hi : i < 4) : cA = t0 := by
  have a1 := (hK.2 i (t0, ty) (by rw [List.getElem?_append_left (by simpa using hi)]; exact h0)).2
  have a2 := (hK.2 4 (cA, ty) rfl).2
  cases ty with
  | object C =>
    obtain ⟨k1, c1, -, -, -, x1⟩ := a1
    obtain ⟨k2, c2, -, -, -, x2⟩ := a2
    exact Option.some.inj (x2.symm.trans x1)
  | _ => exact Option.some.inj (Eq.trans (Eq.symm a2) a1)
theorem new_i {n : Int32} (hexec : p.tables.exec = Jvm.exec) (hb : c.code = cc) (harr : (Cond.arrayClass .int).before args s = true) (hK : va_K D classes (tysOf ct) s) (hP : va_P D classes (wld ct ad (xt G N) M) H) (hD : va_D A (wld ct ad (xt G N) M)) (hS : va_S A H0 H locs) (hA : ∀ q, H0.size ≤ q → A q) (hn : ¬ n < 0) (hbytes : n.toNatClampNeg * 4 ≤ 536870912) (hC : Clo (xt G N) M) (hroom : N.length + 1 ≤ R.cells ∧ wt N + wt1 (13, n.toNatClampNeg) ≤ R.slots) (hdg : decode cc pc = .ok (.newarray .int, 2)) (kk : ∀ (ad' : Nat → Nat) (H1 : Heap), agr (xt G N).1 ad ad' → va_P D classes (wld ct ad' (xt G (N ++ [(13, n.toNatClampNeg)])) (rO M (xt G N).1)) H1 → va_D A (wld ct ad' (xt G (N ++ [(13, n.toNatClampNeg)])) (rO M (xt G N).1)) → va_S A H0 H1 locs → W p l e R s m args below meth c H1 locs (N ++ [(13, n.toNatClampNeg)]).length (wt (N ++ [(13, n.toNatClampNeg)])) Q (F0 m (pc + 2) ls (.ref (ad' (xt G N).1) :: rest))) : W p l e R s m args below meth c H locs N.length (wt N) Q (F0 m pc ls (.int n :: rest)) := by
  refine va_newa (atype := .int) (ty := .int) (a0 := (n.toNatClampNeg, .inl (fun _ => 0))) hexec hb harr rfl hK hP hD hS hA (fun cA => rfl) hn rfl hbytes hroom.1 hroom.2 hdg (fun q cA H1 hK1 hP1 hD1 hS1 => ?_)
  have ec : cA = ct.2.1 := ct_eq (i := 1) hK1 rfl (by decide)
  subst ec
  have e := wld_new ct ad G N M (13, n.toNatClampNeg) q hC
  rw [cell_i ct _ G N M _] at e
  rw [e] at hP1 hD1
  have k1 := kk (adn ad (xt G N).1 q) H1 (agr_adn _ _ _) hP1 hD1 hS1
  rw [adn_at] at k1
  exact W_cs (by simp) (by simp [wt_app, wt, wt1]) k1
theorem new_b {n : Int32} (hexec : p.tables.exec = Jvm.exec) (hb : c.code = cc) (harr : (Cond.arrayClass .byte).before args s = true) (hK : va_K D classes (tysOf ct) s) (hP : va_P D classes (wld ct ad (xt G N) M) H) (hD : va_D A (wld ct ad (xt G N) M)) (hS : va_S A H0 H locs) (hA : ∀ q, H0.size ≤ q → A q) (hn : ¬ n < 0) (hbytes : n.toNatClampNeg * 4 ≤ 536870912) (hC : Clo (xt G N) M) (hroom : N.length + 1 ≤ R.cells ∧ wt N + wt1 (12, n.toNatClampNeg) ≤ R.slots) (hdg : decode cc pc = .ok (.newarray .byte, 2)) (kk : ∀ (ad' : Nat → Nat) (H1 : Heap), agr (xt G N).1 ad ad' → va_P D classes (wld ct ad' (xt G (N ++ [(12, n.toNatClampNeg)])) (rO M (xt G N).1)) H1 → va_D A (wld ct ad' (xt G (N ++ [(12, n.toNatClampNeg)])) (rO M (xt G N).1)) → va_S A H0 H1 locs → W p l e R s m args below meth c H1 locs (N ++ [(12, n.toNatClampNeg)]).length (wt (N ++ [(12, n.toNatClampNeg)])) Q (F0 m (pc + 2) ls (.ref (ad' (xt G N).1) :: rest))) : W p l e R s m args below meth c H locs N.length (wt N) Q (F0 m pc ls (.int n :: rest)) := by
  refine va_newa (atype := .byte) (ty := .byte) (a0 := (n.toNatClampNeg, .inl (fun _ => 0))) hexec hb harr rfl hK hP hD hS hA (fun cA => rfl) hn rfl (by have : componentBytes .byte = 1 := rfl; rw [this]; omega) hroom.1 hroom.2 hdg (fun q cA H1 hK1 hP1 hD1 hS1 => ?_)
  have ec : cA = ct.1 := ct_eq (i := 0) hK1 rfl (by decide)
  subst ec
  have e := wld_new ct ad G N M (12, n.toNatClampNeg) q hC
  rw [cell_b ct _ G N M _] at e
  rw [e] at hP1 hD1
  have k1 := kk (adn ad (xt G N).1 q) H1 (agr_adn _ _ _) hP1 hD1 hS1
  rw [adn_at] at k1
  exact W_cs (by simp) (by simp [wt_app, wt, wt1]) k1
theorem new_r {n : Int32} {own : String} {index : Nat} (hexec : p.tables.exec = Jvm.exec) (hb : c.code = cc) (hown : s.vm.findClass own = some m.cls) (hclink : (Cond.classLink own index "VideoSuite$Picture").before args s = true) (hover : (Cond.arrayOver (.object "VideoSuite$Picture")).before args s = true) (hK : va_K D classes (tysOf ct) s) (hP : va_P D classes (wld ct ad (xt G N) M) H) (hD : va_D A (wld ct ad (xt G N) M)) (hS : va_S A H0 H locs) (hA : ∀ q, H0.size ≤ q → A q) (hn : ¬ n < 0) (hbytes : n.toNatClampNeg * 4 ≤ 536870912) (hC : Clo (xt G N) M) (hroom : N.length + 1 ≤ R.cells ∧ wt N + wt1 (14, n.toNatClampNeg) ≤ R.slots) (hdg : decode cc pc = .ok (.anewarray index, 3)) (kk : ∀ (ad' : Nat → Nat) (H1 : Heap), agr (xt G N).1 ad ad' → va_P D classes (wld ct ad' (xt G (N ++ [(14, n.toNatClampNeg)])) (rO M (xt G N).1)) H1 → va_D A (wld ct ad' (xt G (N ++ [(14, n.toNatClampNeg)])) (rO M (xt G N).1)) → va_S A H0 H1 locs → W p l e R s m args below meth c H1 locs (N ++ [(14, n.toNatClampNeg)]).length (wt (N ++ [(14, n.toNatClampNeg)])) Q (F0 m (pc + 3) ls (.ref (ad' (xt G N).1) :: rest))) : W p l e R s m args below meth c H locs N.length (wt N) Q (F0 m pc ls (.int n :: rest)) := by
  refine va_newq (C := "VideoSuite$Picture") hexec hb hown hclink (va_AO.of hover) hK hP hD hS hA hn rfl hbytes hroom.1 hroom.2 hdg (fun q cA H1 hK1 hP1 hD1 hS1 => ?_)
  have ec : cA = ct.2.2.1 := ct_eq (i := 2) hK1 rfl (by decide)
  subst ec
  have e := wld_new ct ad G N M (14, n.toNatClampNeg) q hC
  rw [cell_r ct _ G N M _] at e
  rw [e] at hP1 hD1
  have k1 := kk (adn ad (xt G N).1 q) H1 (agr_adn _ _ _) hP1 hD1 hS1
  rw [adn_at] at k1
  exact W_cs (by simp) (by simp [wt_app, wt, wt1]) k1
end
/-- new int[n][k]: the outer one, then its rows -/
def mrel (n k : Nat) : NN := (15, n) :: List.replicate n (13, k)
def mM (M : DD) (c n : Nat) : DD := (fun b => if c ≤ b ∧ b ≤ c + n then (fun _ => 0) else M.1 b, fun b => if b = c then (fun i => if i < n then some (c + 1 + i) else none) else if c ≤ b ∧ b ≤ c + n then (fun _ => none) else M.2 b)
def adg (ad : Nat → Nat) (c n q : Nat) (r : Nat → Nat) : Nat → Nat := fun x => if x = c then q else if c < x ∧ x ≤ c + n then r (x - c - 1) else ad x
theorem agr_adg (ad : Nat → Nat) (c n q : Nat) (r : Nat → Nat) : agr c ad (adg ad c n q r) := fun x hx => by
  show (if x = c then q else if c < x ∧ x ≤ c + n then r (x - c - 1) else ad x) = ad x
  rw [if_neg (Nat.ne_of_lt hx), if_neg (by omega)]
theorem adg_at (ad : Nat → Nat) (c n q : Nat) (r : Nat → Nat) : adg ad c n q r c = q := if_pos rfl
theorem adg_r (ad : Nat → Nat) (c n q i : Nat) (r : Nat → Nat) (h : i < n) : adg ad c n q r (c + 1 + i) = r i := by
  show (if c + 1 + i = c then q else if c < c + 1 + i ∧ c + 1 + i ≤ c + n then r (c + 1 + i - c - 1) else ad (c + 1 + i)) = r i
  rw [if_neg (by omega), if_pos (by omega), show c + 1 + i - c - 1 = i by omega]
theorem mrel_len (n k : Nat) : (mrel n k).length = n + 1 := by simp [mrel]
theorem wt_rep (n k : Nat) : wt (List.replicate n (13, k)) = n * k := by
  induction n with
  | zero => simp [wt]
  | succ n ih =>
    rw [List.replicate_succ]
    simp only [wt, ih, wt1]
    rw [Nat.succ_mul]
    simp [Nat.add_comm]
theorem mrel_wt (n k : Nat) : wt (mrel n k) = n + n * k := by
  simp only [mrel, wt, wt_rep]
  rfl
theorem cnt_g (G : GG) (N : NN) (n k : Nat) : (xt G N).1 < (xt G (N ++ mrel n k)).1 := by
  simp [xt, mrel]
theorem kind_g (G : GG) (N : NN) (n k : Nat) : (xt G (N ++ mrel n k)).2.1 (xt G N).1 = 15 := by
  simp only [xt]
  rw [if_neg (by omega), show G.1 + N.length - G.1 = N.length by omega, getD_app2 _ _ _ (Nat.le_refl _)]
  simp [mrel]
theorem len_g (G : GG) (N : NN) (n k : Nat) : (xt G (N ++ mrel n k)).2.2 (xt G N).1 = n := by
  simp only [xt]
  rw [if_neg (by omega), show G.1 + N.length - G.1 = N.length by omega, getD_app2 _ _ _ (Nat.le_refl _)]
  simp [mrel]
theorem mrel_at (n k i : Nat) (h : i < n) : (mrel n k).getD (1 + i) (0, 0) = (13, k) := by
  rw [Nat.add_comm]
  simp [mrel, List.getD_eq_getElem?_getD, List.getElem?_replicate, h]
theorem row_g (G : GG) (N : NN) (n k i : Nat) (h : i < n) : (xt G (N ++ mrel n k)).2.1 ((xt G N).1 + 1 + i) = 13 ∧ (xt G (N ++ mrel n k)).2.2 ((xt G N).1 + 1 + i) = k := by
  simp only [xt]
  rw [if_neg (by omega), if_neg (by omega), show G.1 + N.length + 1 + i - G.1 = N.length + (1 + i) by omega, getD_app2 _ _ _ (by omega), show N.length + (1 + i) - N.length = 1 + i by omega, mrel_at n k i h]
  exact ⟨rfl, rfl⟩
theorem wld_mg (ct : CT) (ad : Nat → Nat) (G : GG) (N : NN) (M : DD) (n k q : Nat) (r : Nat → Nat) (hC : Clo (xt G N) M) : (wld ct ad (xt G N) M ++ [(q, .inl (ct.2.2.2, n, .inr (.inr (.inr (.inr (fun i => if i < n then some (r i) else none))))))]) ++ (List.range n).map (fun i => (r i, .inl (ct.2.1, k, .inl (fun _ => 0)))) = wld ct (adg ad (xt G N).1 n q r) (xt G (N ++ mrel n k)) (mM M (xt G N).1 n) := by
  generalize hc : (xt G N).1 = c
  have e : (xt G (N ++ mrel n k)).1 = c + 1 + n := by rw [← hc]; simp only [xt, List.length_append, mrel_len]; omega
  unfold wld
  rw [e, hc]
  apply List.ext_getElem?
  intro j
  by_cases h1 : j < c
  · rw [List.getElem?_append_left (by simp; omega), List.getElem?_append_left (by simp; omega)]
    simp only [List.getElem?_map, List.getElem?_range h1, List.getElem?_range (show j < c + 1 + n by omega), Option.map_some]
    have h1' : j < (xt G N).1 := by rw [hc]; exact h1
    have hs : cellOf ct (adg ad c n q r) (xt G (N ++ mrel n k)) (mM M c n) j = cellOf ct ad (xt G N) M j := cell_same (xt_ke _ h1') (xt_ne _ h1') (by show (if c ≤ j ∧ j ≤ c + n then _ else _) = _; rw [if_neg (by omega)]) (by show (if j = c then _ else if c ≤ j ∧ j ≤ c + n then _ else _) = _; rw [if_neg (by omega), if_neg (by omega)]) (fun k' b hb => by
      have := hC j h1' k' b hb
      exact agr_adg ad c n q r b (by rw [← hc]; exact this))
    rw [hs, agr_adg ad c n q r j h1]
  · by_cases h2 : j = c
    · subst h2
      rw [List.getElem?_append_left (by simp), List.getElem?_append_right (by simp)]
      simp only [List.getElem?_map, List.getElem?_range (show j < j + 1 + n by omega), Option.map_some, List.length_map, List.length_range, Nat.sub_self, List.getElem?_cons_zero]
      rw [adg_at]
      congr 2
      have k1 := kind_g G N n k
      have k2 := len_g G N n k
      rw [hc] at k1 k2
      simp only [cellOf, k1, k2]
      simp only [show ¬ (15 : Nat) < 12 by decide, show ¬ (15 : Nat) = 12 by decide, show ¬ (15 : Nat) = 13 by decide, show ¬ (15 : Nat) = 14 by decide, if_false]
      refine congrArg Sum.inl (Prod.ext rfl (Prod.ext rfl (congrArg Sum.inr (congrArg Sum.inr (congrArg Sum.inr (congrArg Sum.inr (funext fun i => ?_)))))))
      show _ = Option.map (adg ad j n q r) ((if j = j then (fun i => if i < n then some (j + 1 + i) else none) else if j ≤ j ∧ j ≤ j + n then (fun _ => none) else M.2 j) i)
      rw [if_pos rfl]
      by_cases hi : i < n
      · rw [if_pos hi, if_pos hi, Option.map_some, adg_r ad j n q i r hi]
      · rw [if_neg hi, if_neg hi]; rfl
    · rw [List.getElem?_append_right (by simp; omega)]
      have hl : j - (List.map (fun a => (ad a, cellOf ct ad (xt G N) M a)) (List.range c) ++ [(q, (Sum.inl (ct.2.2.2, n, .inr (.inr (.inr (.inr (fun i => if i < n then some (r i) else none))))) : va_E))]).length = j - (c + 1) := by simp
      rw [hl]
      by_cases h3 : j - (c + 1) < n
      · simp only [List.getElem?_map, List.getElem?_range h3, List.getElem?_range (show j < c + 1 + n by omega), Option.map_some]
        obtain ⟨i, rfl⟩ : ∃ i, j = c + 1 + i := ⟨j - (c + 1), by omega⟩
        rw [show c + 1 + i - (c + 1) = i by omega] at h3 ⊢
        rw [adg_r ad c n q i r h3]
        congr 2
        have k1 := row_g G N n k i h3
        rw [hc] at k1
        simp only [cellOf, k1.1, k1.2]
        simp only [show ¬ (13 : Nat) < 12 by decide, show ¬ (13 : Nat) = 12 by decide, if_false, if_true]
        refine congrArg Sum.inl (Prod.ext rfl (Prod.ext rfl (congrArg Sum.inl ?_)))
        show _ = (if c ≤ c + 1 + i ∧ c + 1 + i ≤ c + n then (fun _ => (0 : Int32)) else M.1 (c + 1 + i))
        rw [if_pos (by omega)]
      · rw [List.getElem?_eq_none (by simp; omega), List.getElem?_eq_none (by simp; omega)]
section
variable {p : Program} {l : Launch} {e : Env} {R : Room} {s : State} {m : MethodId} {args : Array Value} {below : List Frame} {meth : Method} {c : Code} {H : Heap} {locs : List Loc} {Q : State → Prop} {cc : ByteArray} {pc : Nat} {ls : Array Slot} {rest : List Value} {ad : Nat → Nat} {D : va_G} {ct : CT} {G : GG} {N : NN} {M : DD} {A : Nat → Prop} {H0 : Heap}
theorem inner_i (c : ClassId) (k : Nat) : Jvm.Free.Multi.innerC c k (defaultValue .int) = vp_cell c (k, .inl (fun _ => 0)) := by
  show ({ cls := c, slots := Array.replicate k (defaultValue .int), vm := .none } : Cell) = arrV c k (fun _ => .int 0)
  rw [arrV_new]
  rfl
theorem new_g {n k : Int32} {n0 k0 : Nat} {own : String} {index : Nat} (hexec : p.tables.exec = Jvm.exec) (hb : c.code = cc) (hown : s.vm.findClass own = some m.cls) (hclink : (Cond.classLink own index "[[I").before args s = true) (hover : (Cond.arrayOver (.array .int)).before args s = true) (harr : (Cond.arrayClass .int).before args s = true) (hK : va_K D classes (tysOf ct) s) (hP : va_P D classes (wld ct ad (xt G N) M) H) (hD : va_D A (wld ct ad (xt G N) M)) (hS : va_S A H0 H locs) (hA : ∀ q, H0.size ≤ q → A q) (hn : ¬ n < 0) (hk : ¬ k < 0) (hn0 : n.toNatClampNeg = n0) (hk0 : k.toNatClampNeg = k0) (hb1 : n0 * 4 ≤ 536870912) (hb2 : k0 * 4 ≤ 536870912) (hC : Clo (xt G N) M) (hroom : N.length + (mrel n0 k0).length ≤ R.cells ∧ wt N + wt (mrel n0 k0) ≤ R.slots) (hdg : decode cc pc = .ok (.multianewarray index 2, 4)) (kk : ∀ (ad' : Nat → Nat) (H1 : Heap), agr (xt G N).1 ad ad' → va_P D classes (wld ct ad' (xt G (N ++ mrel n0 k0)) (mM M (xt G N).1 n0)) H1 → va_D A (wld ct ad' (xt G (N ++ mrel n0 k0)) (mM M (xt G N).1 n0)) → va_S A H0 H1 locs → W p l e R s m args below meth c H1 locs (N ++ mrel n0 k0).length (wt (N ++ mrel n0 k0)) Q (F0 m (pc + 4) ls (.ref (ad' (xt G N).1) :: rest))) : W p l e R s m args below meth c H locs N.length (wt N) Q (F0 m pc ls (.int k :: .int n :: rest)) := by
  have hcy : s.vm.findClass (FieldType.array .int).toString = some ct.2.1 := (hK.2 1 (ct.2.1, .int) rfl).2
  have e0 : ∀ f : Nat → va_E, wld ct ad (xt G N) M ++ va_pl [] f = wld ct ad (xt G N) M := fun f => List.append_nil _
  rw [mrel_len, mrel_wt] at hroom
  refine va_mna (X := wld ct ad (xt G N) M) (L := []) (f := fun _ => .inr (0, [])) (ty := .int) (cy := ct.2.1) (z := (k0, .inl (fun _ => 0))) hexec hb hown hclink hover harr hcy hK (by rw [e0]; exact hP) (by rw [e0]; exact hD) hS hA hn hk hn0 hk0 hb1 hb2 (by omega) rfl rfl (by omega) hroom.2 (fun c => by first | rfl | exact inner_i c k0) hdg (fun q r cA H1 _ _ hK1 hP1 hD1 hS1 => ?_)
  have ec : cA = ct.2.2.2 := ct_eq (i := 3) hK1 rfl (by decide)
  subst ec
  have e1 : va_pl ([] ++ (List.range n0).map r) (vr_up (fun _ => (.inr (0, []) : va_E)) ((List.range n0).map r) (.inl (ct.2.1, k0, .inl (fun _ => 0)))) = (List.range n0).map (fun i => (r i, .inl (ct.2.1, k0, .inl (fun _ => 0)))) := by
    rw [← vr_rows (fun a _ h => by cases h)]
    show [] ++ _ = _
    rw [List.nil_append, List.map_map]
    rfl
  rw [e1, wld_mg ct ad G N M n0 k0 q r hC] at hP1 hD1
  have k1 := kk (adg ad (xt G N).1 n0 q r) H1 (agr_adg _ _ _ _ _) hP1 hD1 hS1
  rw [adg_at] at k1
  refine W_cs ?_ ?_ k1
  · rw [List.length_append, mrel_len]; omega
  · rw [wt_app, mrel_wt]; omega
end
theorem dfX0 : ∀ j, j < 21 → defaultValue (tyX0 j) = vp_V (nul 0) j := by decide +kernel
theorem dfX1 : ∀ j, j < 22 → defaultValue (tyX1 j) = vp_V (nul 1) j := by decide +kernel
theorem dfX2 : ∀ j, j < 7 → defaultValue (tyX2 j) = vp_V (nul 2) j := by decide +kernel
theorem dfX3 : ∀ j, j < 4 → defaultValue (tyX3 j) = vp_V (nul 3) j := by decide +kernel
theorem dfX4 : ∀ j, j < 18 → defaultValue (tyX4 j) = vp_V (nul 4) j := by decide +kernel
theorem dfX5 : ∀ j, j < 17 → defaultValue (tyX5 j) = vp_V (nul 5) j := by decide +kernel
theorem dfX6 : ∀ j, j < 14 → defaultValue (tyX6 j) = vp_V (nul 6) j := by decide +kernel
theorem dfX7 : ∀ j, j < 17 → defaultValue (tyX7 j) = vp_V (nul 7) j := by decide +kernel
theorem dfX8 : ∀ j, j < 15 → defaultValue (tyX8 j) = vp_V (nul 8) j := by decide +kernel
theorem dfX9 : ∀ j, j < 20 → defaultValue (tyX9 j) = vp_V (nul 9) j := by decide +kernel
theorem dfX10 : ∀ j, j < 20 → defaultValue (tyX10 j) = vp_V (nul 10) j := by decide +kernel
theorem dfX11 : ∀ j, j < 5 → defaultValue (tyX11 j) = vp_V (nul 11) j := by decide +kernel
theorem set_g (ct : CT) (ad : Nat → Nat) (G : GG) (M : DD) {a k : Nat} {o : Option Nat} (h : a < G.1) (hk : G.2.1 a = 15) : (wld ct ad G M).set a (ad a, .inl (ct.2.2.2, G.2.2 a, .inr (.inr (.inr (.inr (va_up (fun j => (M.2 a j).map ad) k (o.map ad))))))) = wld ct ad G (uP M a k o) :=
  wld_set ct ad G M _ h (by
    have e : (fun j => ((uP M a k o).2 a j).map ad) = va_up (fun j => (M.2 a j).map ad) k (o.map ad) := by
      funext j
      by_cases hj : j = k
      · simp [uP, va_up, hj]
      · simp [uP, va_up, hj]
    simp only [cellOf, hk]
    simp [e]) cell_uP_ne
/-- a method with handlers, by contract, where it doesn't throw -/
theorem mt_ofWH {l : Launch} {y : MethodName} {ws ws' : List Cond} {rm : Room} {Pc : Array Value → State → Prop} {Qc : Array Value → State → Outcome → State → Prop} {mc ms : Nat} {free : Addr → Prop} {cc : ByteArray} {maxL : Nat} {ret : Option FieldType} {hh : List (Nat × Nat × Nat × Nat)}
    (hy : plainName y.cls = true) (hw : ws = Cond.codeWith y cc maxL ret hh :: ws')
    (body : ∀ p e s m args below meth c s₁, BodyLoose p l y (headSpec ws rm) cc maxL ret e s m args below meth c s₁ → c.maxLocals = maxL → Pc args s →
      W p l e (headSpec ws rm).room s m args below meth c s.heap [] 0 0 (MQ below Qc args s mc ms free) (entryFrame m args maxL)) : Met l y ws rm Pc Qc mc ms free := by
  refine MetFree.of_bodyS (code := cc) (maxLocals := maxL) (ret := ret) hy ?_ ?_
  · intro args s m h hn
    obtain ⟨m9, meth, c, hn9, h1, h2, h3, h4, -, h5, h6, -⟩ := Cond.codeWith_spec (atoms_spec (ws := ws) h _ (by rw [hw]; exact List.mem_cons_self))
    cases hn.symm.trans hn9
    exact ⟨meth, c, h1, h2, h3, h4, h5, h6⟩
  · intro p e s m args below meth c s₁ B hml hP _
    have hh0 : s₁.heap = s.heap := by rw [B.state]; rfl
    obtain ⟨t, a1, o, b1, b2, b3⟩ := body p e s m args below meth c s₁ B hml hP s₁ hh0 (Stand.of_body B)
    exact ⟨t, o, a1, b1, b2, ⟨b3.1, b3.2⟩⟩
section
variable {p : Program} {l : Launch} {e : Env} {R : Room} {s : State} {m : MethodId} {args : Array Value} {below : List Frame} {meth : Method} {c : Code} {H : Heap} {locs : List Loc} {Q : State → Prop} {cc : ByteArray} {pc : Nat} {ls : Array Slot} {rest : List Value} {ad : Nat → Nat} {D : va_G} {ct : CT} {A : Nat → Prop} {H0 : Heap}
theorem st_g {cells slots : Nat} {G : GG} {M : DD} {a b : Nat} (hexec : p.tables.exec = Jvm.exec) (hb : c.code = cc) (hN : nF s) (hK : va_K D classes (tysOf ct) s) (hP : va_P D classes (wld ct ad G M) H) (hD : va_D A (wld ct ad G M)) (hS : va_S A H0 H locs) (h : a < G.1) (hk : G.2.1 a = 15) (h2 : b < G.1) (hk2 : G.2.1 b = 13) {i : Int32} (hin : vp_in i (G.2.2 a)) (hdg : decode cc pc = .ok (.aastore, 1)) (kk : ∀ (H1 : Heap) (locs1 : List Loc), va_P D classes (wld ct ad G (uP M a i.toNatClampNeg (some b))) H1 → va_D A (wld ct ad G (uP M a i.toNatClampNeg (some b))) → va_S A H0 H1 locs1 → W p l e R s m args below meth c H1 locs1 cells slots Q (F0 m (pc + 1) ls rest)) : W p l e R s m args below meth c H locs cells slots Q (F0 m pc ls (.ref (ad b) :: .int i :: .ref (ad a) :: rest)) := by
  have hlt : i.toNatClampNeg < G.2.2 a := Nat.not_le.mp fun q => hin (Or.inr q)
  have h0 : ¬ i < 0 := fun q => hin (Or.inl q)
  have ha := wld_g ct ad G M h hk
  have hbb := wld_i ct ad G M h2 hk2
  obtain ⟨comp, c0, k, h1, h3, h4, h5⟩ := Cond.arrayOver_specA (va_AOA.use (A := args) hN.2.2.1)
  have e1 : comp = ct.2.1 := Option.some.inj (h1.symm.trans (hK.2 1 (ct.2.1, .int) rfl).2)
  have e2 : c0 = ct.2.2.2 := Option.some.inj (h5.symm.trans (hK.2 3 (ct.2.2.2, .array .int) rfl).2)
  subst e1
  subst e2
  obtain ⟨-, kv, hkv, -, -⟩ := (hK.2 1 (ct.2.1, .int) rfl).1 0 (fun _ => .null)
  refine W.aast (v := ad b) hexec hb (hP a _ ha) (fun q h => by cases h) (fun h => by cases h) h3 h4 rfl hkv ⟨h0, by show _ < (arrV _ _ _).slots.size; rw [arrV_size]; exact hlt⟩ (hP b _ hbb) (fun q h => by cases h) hkv (by show Vm.assignableAux s.vm (255 + 1) ct.2.1 ct.2.1 = true; rw [Vm.assignableAux, beq_self_eq_true, Bool.true_or]) rfl rfl hdg fun H1 e z oq => ?_
  have e3 := set_g ct ad G M h hk (k := i.toNatClampNeg) (o := some b)
  have hset := hP.set hD ha (e := .inl (ct.2.2.2, G.2.2 a, .inr (.inr (.inr (.inr (va_up (fun j => (M.2 a j).map ad) i.toNatClampNeg (some (ad b)))))))) (by
    show H1[ad a]? = some (vp_cell _ _)
    rw [e]
    rw [vp_cell_q, vp_cell_q, arrV_store]
    congr 2
    funext q
    by_cases hq : q = i.toNatClampNeg
    · subst hq
      simp [updV, va_up, va_rf]
    · simp [updV, va_up, hq]) oq
  have hd := hD.set ha (e := .inl (ct.2.2.2, G.2.2 a, .inr (.inr (.inr (.inr (va_up (fun j => (M.2 a j).map ad) i.toNatClampNeg (some (ad b))))))))
  simp only [Option.map_some] at e3
  rw [e3] at hset hd
  exact kk H1 _ hset hd (hS.put z oq (hD.2 a _ ha))
theorem fit_i (k : ClassId) (n : Nat) (f : Nat → Int32) : ∀ (i : Nat) (v : Value), (vp_cell k (n, .inl f)).slots[i]? = some v → fits .int v = true := by
  intro i v hv
  have hlt : i < n := by
    have h1 := (Array.getElem?_eq_some_iff.mp hv).1
    have h3 : (vp_cell k (n, Sum.inl f)).slots.size = n := arrV_size _ _ _
    rw [h3] at h1
    exact h1
  have h2 : (vp_cell k (n, Sum.inl f)).slots[i]? = some (.int (f i)) := arrV_read _ _ hlt
  rw [h2] at hv
  cases hv
  rfl
theorem new_c {Z : Nat → Nat} {G : GG} {N : NN} {M : DD} {own : String} {index : Nat} (hexec : p.tables.exec = Jvm.exec) (hb : c.code = cc) (hml : c.maxLocals = ls.size) (hown : s.vm.findClass own = some m.cls)
    (hlink : (Cond.methodLink own index ⟨"[I", "clone", "()Ljava/lang/Object;"⟩).before args s = true) (hsame : (Cond.sameMethod "[I" "java/lang/Object" "clone" "()Ljava/lang/Object;").before args s = true)
    (hnat : (Cond.native ⟨"java/lang/Object", "clone", "()Ljava/lang/Object;"⟩).before args s = true) (hinst : (Cond.instanceMethod ⟨"java/lang/Object", "clone", "()Ljava/lang/Object;"⟩).before args s = true)
    (hsel : (Cond.selects "[I" ⟨"[I", "clone", "()Ljava/lang/Object;"⟩ ⟨"java/lang/Object", "clone", "()Ljava/lang/Object;"⟩).before args s = true) (hcl : va_Nw (.castable "[I" "java/lang/Cloneable") s)
    (hZ : sF Z A s s.heap) (hK : va_K D classes (tysOf ct) s) (hP : va_P D classes (wld ct ad (xt G N) M) H) (hD : va_D A (wld ct ad (xt G N) M)) (hS : va_S A s.heap H locs) (hA : ∀ q, s.heap.size ≤ q → A q) (hC : Clo (xt G N) M)
    (hframes : 1 ≤ R.frames) (hlocals : (rest.map fun v => v.category).sum + 14 ≤ R.locals) (hroom : N.length + 1 ≤ R.cells ∧ wt N + wt1 (13, 24) ≤ R.slots) (hdg : decode cc pc = .ok (.invokevirtual index, 3))
    (kk : ∀ (ad' : Nat → Nat) (H1 : Heap), agr (xt G N).1 ad ad' → va_P D classes (wld ct ad' (xt G (N ++ [(13, 24)])) (rI (rO M (xt G N).1) (xt G N).1 (fun j => (sT 0).getD j 0))) H1 → va_D A (wld ct ad' (xt G (N ++ [(13, 24)])) (rI (rO M (xt G N).1) (xt G N).1 (fun j => (sT 0).getD j 0))) → va_S A s.heap H1 locs → W p l e R s m args below meth c H1 locs (N ++ [(13, 24)]).length (wt (N ++ [(13, 24)])) Q (F0 m (pc + 3) ls (.ref (ad' (xt G N).1) :: rest))) : W p l e R s m args below meth c H locs N.length (wt N) Q (F0 m pc ls (.ref (Z 0) :: rest)) := by
  obtain ⟨cell, hz0, hk0, hsz⟩ := hZ.2
  obtain ⟨cell', hz', hArr, hunk, -, -, hel, hZA⟩ := (hZ.1 0 (by decide)).2
  have ec : cell' = cell := Option.some.inj (hz'.symm.trans hz0)
  subst ec
  have hZs : Z 0 < s.heap.size := (Array.getElem?_eq_some_iff.mp hz0).1
  have ek : cell'.cls = ct.2.1 := Option.some.inj (hk0.symm.trans (hK.2 1 (ct.2.1, .int) rfl).2)
  have hzH : H[Z 0]? = some cell' := by rw [hS.2.1 _ hZs hZA]; exact hz0
  have hcellE : ({ cls := cell'.cls, slots := cell'.slots } : Cell) = vp_cell ct.2.1 (24, .inl (fun j => (sT 0).getD j 0)) := by
    have hs : cell'.slots = (arrV ct.2.1 24 (fun j => .int ((sT 0).getD j 0))).slots := by
      apply Array.ext_getElem?
      intro i
      by_cases hi : i < 24
      · rw [hel i hi, arrV_read _ _ hi]
      · rw [Array.getElem?_eq_none (by omega), Array.getElem?_eq_none (by rw [arrV_size]; omega)]
    rw [ek, hs]
    rfl
  obtain ⟨f, hf⟩ : ∃ f : Nat → Int32, f = fun j => (sT 0).getD j 0 := ⟨_, rfl⟩
  have hel : ∀ j, j < 24 → cell'.slots[j]? = some (.int (f j)) := fun j hj => by rw [hf]; exact hel j hj
  rw [← hf] at kk hcellE
  obtain ⟨c0, t0', f1, f2, f3⟩ := Cond.castable_spec (va_Nw.use (A := args) rfl hcl)
  cases hk0.symm.trans f1
  intro T hT X
  have hcellT : T.heap[Z 0]? = some cell' := by rw [hT]; exact hzH
  obtain ⟨-, kA, hkA, comp, hkind⟩ := State.isArrayOf_alike X.warmed.alike hArr
  obtain ⟨hobj, kS, hkS, compS, hkindS⟩ := hArr
  obtain ⟨vm', X', st⟩ := X.cloneArray hexec hown hlink hsame hnat hinst hsel (a := Z 0) (cell := cell') hcellT hobj hunk hk0 f2 f3
    (fun i v hv => by
      have hi : i < 24 := by rw [← hsz]; exact (Array.getElem?_eq_some_iff.mp hv).1
      have hk' : T.vm.classes[cell'.cls]? = some kA := hkA
      have : v = .int (f i) := Option.some.inj (hv.symm.trans (hel i hi))
      subst this
      simp [State.fitsSlot, State.slotType?, hk', hkind, fits])
    (g := F0 m pc ls (.ref (Z 0) :: rest)) rfl (by rw [hml]) rfl (by rw [hb]; exact hdg) hframes (by show 2 * 0 + _ + 14 ≤ _; omega) hroom.1 (by rw [hsz]; exact hroom.2) (hloader := Vm.clonesLoader_of_array hkS hkindS)
  rw [hcellE, hsz] at X'
  generalize hH1 : H.push (vp_cell ct.2.1 (24, .inl f)) = H1
  have z1 : H1.size = H.size + 1 := by rw [← hH1, Array.size_push]
  have e1 : H1[H.size]? = some (vp_cell ct.2.1 (24, .inl f)) := by rw [← hH1, Array.getElem?_push_size]
  have o1 : ∀ q : Nat, q < H.size → H1[q]? = H[q]? := fun q hq => by rw [← hH1, Array.getElem?_push, if_neg (Nat.ne_of_lt hq)]
  have hP2 : va_P D classes (wld ct ad (xt G N) M ++ [(H.size, .inl (ct.2.1, 24, .inl f))]) H1 := (hP.kept (fun k y hy => o1 y.1 ((hP k y hy).lt))).app (fun k y hy => by
    have hz : k < 1 := (List.getElem?_eq_some_iff.mp hy).1
    rw [show k = 0 by omega] at hy
    cases hy
    exact e1)
  have hD2 : va_D A (wld ct ad (xt G N) M ++ [(H.size, .inl (ct.2.1, 24, .inl f))]) := hD.push hP rfl (hA _ hS.1)
  have hS2 : va_S A s.heap H1 locs := ⟨Nat.le_trans hS.1 (by omega), fun y h1 h2 => (o1 y (Nat.lt_of_lt_of_le h1 hS.1)).trans (hS.2.1 y h1 h2), hS.2.2⟩
  have e := wld_new ct ad G N M (13, 24) H.size hC
  rw [cell_i ct _ G N M _] at e
  have hlen : (wld ct ad (xt G N) M).length = (xt G N).1 := by simp [wld]
  have e2 : wld ct (adn ad (xt G N).1 H.size) (xt G (N ++ [(13, 24)])) (rI (rO M (xt G N).1) (xt G N).1 f) = wld ct ad (xt G N) M ++ [(H.size, .inl (ct.2.1, 24, .inl f))] := by
    have h7 := set_ri ct (adn ad (xt G N).1 H.size) (xt G (N ++ [(13, 24)])) (rO M (xt G N).1) (f := f) (cnt_new G N (13, 24)) (kind_new G N 13 24).1
    rw [← h7, ← e, (kind_new G N 13 24).2, adn_at]
    rw [List.set_append_right _ _ (by rw [hlen]; exact Nat.le_refl _), hlen, Nat.sub_self]
    rfl
  rw [← e2] at hP2 hD2
  have k1 := kk (adn ad (xt G N).1 H.size) H1 (agr_adn _ _ _) hP2 hD2 hS2
  rw [adn_at] at k1
  obtain ⟨t, b1, b2⟩ := k1 ((T.setVm vm').pushCell (vp_cell ct.2.1 (24, .inl f))) (by rw [← hH1, ← hT]; rfl) (by
    have e4 : (N ++ [(13, 24)]).length = N.length + 1 := by simp
    have e5 : wt (N ++ [(13, 24)]) = wt N + 24 := by simp [wt_app, wt, wt1]
    rw [e4, e5]
    exact X')
  refine ⟨t, st t ?_, b2⟩
  rw [hcellE, hT]
  exact b1
end
