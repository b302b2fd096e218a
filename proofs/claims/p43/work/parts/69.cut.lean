/-! Units: a unit ends where a mark begins -/
def stopAt (F : List Nat) (i : Nat) : Prop := F[i]? = some 0 ∧ F[i + 1]? = some 0 ∧ (F[i + 2]? = some 0 ∨ F[i + 2]? = some 1)
theorem byte_eq {c : Int32} {x : Nat} {k : Int} (h : c.toInt % 256 = (x : Int)) (hr : -128 ≤ c.toInt ∧ c.toInt ≤ 127) (hk : 0 ≤ k ∧ k ≤ 100) : c.toInt = k ↔ (x : Int) = k := by omega
theorem ends_ok {G : GG} {M : DD} {b i : Nat} {F : List Nat} {p1 p2 : Int32} (hb : b < G.1 ∧ G.2.1 b = 12) (hlen : F.length ≤ G.2.2 b) (hL : F.length ≤ 900000) (hby : ∀ (i x : Nat), F[i]? = some x → (M.1 b i).toInt % 256 = (x : Int)) (hrg : ∀ k, -128 ≤ (M.1 b k).toInt ∧ (M.1 b k).toInt ≤ 127) (h1 : p1.toInt = i) (hi : i ≤ 900000) (h2 : p2.toInt = F.length) : OK (FX8_endsUnit G M (some b) p1 p2) (fun y => y.1 = M ∧ ((y.2 = 1 ∧ stopAt F i) ∨ (y.2 = 0 ∧ ¬ stopAt F i))) := by
  have e1 : (1 : Int32).toInt = 1 := rfl
  have e2 : (2 : Int32).toInt = 2 := rfl
  have e0 : (0 : Int32).toInt = 0 := rfl
  unfold FX8_endsUnit
  refine ok_ltt (fun x1 ex1 => ?_)
  have i1 : x1.toInt = i + 2 := by rw [ex1, ti_add (by omega) (by omega)]; omega
  refine ok_bnd (Q := fun (y : Int32) => (y = 1 ∧ stopAt F i) ∨ (y = 0 ∧ ¬ stopAt F i)) ?_ ?_
  · refine ok_if (fun c => ok_some ?_) (fun c => ?_)
    · have := pz_le.mp c
      refine Or.inr ⟨rfl, ?_⟩
      rintro ⟨-, -, q⟩
      have hn : F[i + 2]? = none := List.getElem?_eq_none (by omega)
      rw [hn] at q
      rcases q with q | q <;> cases q
    have hlt : i + 2 < F.length := by
      have : ¬ p2.toInt ≤ x1.toInt := fun q => c (pz_le.mpr q)
      omega
    obtain ⟨y0, hy0⟩ : ∃ x, F[i]? = some x := ⟨F[i]'(by omega), by rw [List.getElem?_eq_getElem]⟩
    obtain ⟨y1, hy1⟩ : ∃ x, F[i + 1]? = some x := ⟨F[i + 1]'(by omega), by rw [List.getElem?_eq_getElem]⟩
    obtain ⟨y2, hy2⟩ : ∃ x, F[i + 2]? = some x := ⟨F[i + 2]'(by omega), by rw [List.getElem?_eq_getElem]⟩
    have b0 := hby i y0 hy0
    have b1 := hby (i + 1) y1 hy1
    have b2 := hby (i + 2) y2 hy2
    have g0 := hrg i
    have g1 := hrg (i + 1)
    have g2 := hrg (i + 2)
    have hS : stopAt F i ↔ (y0 = 0 ∧ y1 = 0 ∧ (y2 = 0 ∨ y2 = 1)) := by
      unfold stopAt
      rw [hy0, hy1, hy2]
      simp
    have n1 : p1.toNatClampNeg = i := by have := nat_of (x := p1) (by omega); omega
    refine ok_dr rfl hb.1 hb.2 (ok_chk (pz_ix (by omega) (by omega)) (ok_ltt (fun x5 e5 => ?_)))
    rw [n1] at e5
    rw [← e5] at b0 g0
    refine ok_bnd (Q := fun (y : Int32) => (y = 1 ∧ stopAt F i) ∨ (y = 0 ∧ ¬ stopAt F i)) ?_ (fun y hy => ok_some hy)
    refine ok_if (fun c5 => ?_) (fun c5 => ok_some ?_)
    · have c5' := pz_eq.mp c5
      refine ok_ltt (fun x8 e8 => ?_)
      have i8 : x8.toInt = i + 1 := by rw [e8, ti_add (by omega) (by omega)]; omega
      have n8 : x8.toNatClampNeg = i + 1 := by have := nat_of (x := x8) (by omega); omega
      refine ok_chk (pz_ix (by omega) (by omega)) (ok_ltt (fun x9 e9 => ?_))
      rw [n8] at e9
      rw [← e9] at b1 g1
      refine ok_bnd (Q := fun (y : Int32) => (y = 1 ∧ stopAt F i) ∨ (y = 0 ∧ ¬ stopAt F i)) ?_ (fun y hy => ok_some hy)
      refine ok_if (fun c9 => ?_) (fun c9 => ok_some ?_)
      · have c9' := pz_eq.mp c9
        refine ok_ltt (fun x12 e12 => ?_)
        have i12 : x12.toInt = i + 2 := by rw [e12, ti_add (by omega) (by omega)]; omega
        have n12 : x12.toNatClampNeg = i + 2 := by have := nat_of (x := x12) (by omega); omega
        refine ok_chk (pz_ix (by omega) (by omega)) (ok_ltt (fun x13 e13 => ?_))
        rw [n12] at e13
        rw [← e13] at b2 g2
        refine ok_bnd (Q := fun (y : Int32) => (y = 1 ∧ stopAt F i) ∨ (y = 0 ∧ ¬ stopAt F i)) ?_ (fun y hy => ok_some hy)
        refine ok_if (fun c13 => ok_some ?_) (fun c13 => ?_)
        · have c13' := pz_eq.mp c13
          exact Or.inl ⟨rfl, hS.mpr (by omega)⟩
        · have c13' : ¬ x13.toInt = (0 : Int32).toInt := fun q => c13 (pz_eq.mpr q)
          refine ok_ltt (fun x16 e16 => ?_)
          have i16 : x16.toInt = i + 2 := by rw [e16, ti_add (by omega) (by omega)]; omega
          have n16 : x16.toNatClampNeg = i + 2 := by have := nat_of (x := x16) (by omega); omega
          refine ok_chk (pz_ix (by omega) (by omega)) (ok_ltt (fun x17 e17 => ?_))
          rw [n16, ← e13] at e17
          refine ok_bnd (Q := fun (y : Int32) => (y = 1 ∧ stopAt F i) ∨ (y = 0 ∧ ¬ stopAt F i)) ?_ (fun y hy => ok_some hy)
          refine ok_if (fun c17 => ok_some ?_) (fun c17 => ok_some ?_)
          · have c17' := pz_eq.mp c17
            rw [e17] at c17'
            exact Or.inl ⟨rfl, hS.mpr (by omega)⟩
          · have c17' : ¬ x17.toInt = (1 : Int32).toInt := fun q => c17 (pz_eq.mpr q)
            rw [e17] at c17'
            exact Or.inr ⟨rfl, fun q => by have := hS.mp q; omega⟩
      · have c9' : ¬ x9.toInt = (0 : Int32).toInt := fun q => c9 (pz_eq.mpr q)
        exact Or.inr ⟨rfl, fun q => by have := hS.mp q; omega⟩
    · have c5' : ¬ x5.toInt = (0 : Int32).toInt := fun q => c5 (pz_eq.mpr q)
      exact Or.inr ⟨rfl, fun q => by have := hS.mp q; omega⟩
  · rintro y2 hy
    refine ok_chk ?_ (ok_some ⟨rfl, hy⟩)
    rcases hy with ⟨q, -⟩ | ⟨q, -⟩
    · exact Or.inr q
    · exact Or.inl q
/-- inside a unit no mark stands -/
theorem stop_in {A E R : List Nat} {i : Nat} (hn : nm 0 E) (hl : ∀ x, E[E.length - 1]? = some x → x ≠ 0) (h1 : A.length ≤ i) (h2 : i < A.length + E.length) : ¬ stopAt (A ++ E ++ R) i := by
  rintro ⟨q0, q1, q2⟩
  have hg : ∀ k, i + k < A.length + E.length → (A ++ E ++ R)[i + k]? = E[i - A.length + k]? := by
    intro k hk
    rw [List.getElem?_append_left (by rw [List.length_append]; omega), List.getElem?_append_right (by omega)]
    rw [show i + k - A.length = i - A.length + k by omega]
  obtain ⟨j, hj⟩ : ∃ j, j = i - A.length := ⟨_, rfl⟩
  have g0 := hg 0 (by omega)
  rw [Nat.add_zero, q0, Nat.add_zero, ← hj] at g0
  have z0 : j ≠ E.length - 1 := fun e => hl 0 (by rw [← e]; exact g0.symm) rfl
  have g1 := hg 1 (by omega)
  rw [q1, ← hj] at g1
  have z1 : j + 1 ≠ E.length - 1 := fun e => hl 0 (by rw [← e]; exact g1.symm) rfl
  have g2 := hg 2 (by omega)
  rw [← hj] at g2
  rcases q2 with q | q
  · rw [q] at g2
    have := nm_at E 0 j 0 hn g0.symm g1.symm g2.symm
    omega
  · rw [q] at g2
    have := nm_at E 0 j 1 hn g0.symm g1.symm g2.symm
    omega
/-- the last byte that emu makes is the last that it takes -/
theorem emu_last : ∀ (xs : List Nat) (z x : Nat), xs[xs.length - 1]? = some x → (emu z xs)[(emu z xs).length - 1]? = some x := by
  intro xs
  induction xs with
  | nil => intro z x h; simp at h
  | cons y ys ih =>
    intro z x h
    have key : ∀ (z' : Nat), ((y :: emu z' ys)[(y :: emu z' ys).length - 1]?) = some x := by
      intro z'
      cases ys with
      | nil =>
        have e : emu z' [] = [] := rfl
        rw [e]
        exact h
      | cons w ws =>
        have h' : (w :: ws)[(w :: ws).length - 1]? = some x := by simpa using h
        have hh := ih z' x h'
        have hpos : 0 < (emu z' (w :: ws)).length := by
          cases he : emu z' (w :: ws) with
          | nil => rw [he] at hh; simp at hh
          | cons _ _ => simp
        rw [List.length_cons, show (emu z' (w :: ws)).length + 1 - 1 = ((emu z' (w :: ws)).length - 1) + 1 by omega, List.getElem?_cons_succ]
        exact hh
    by_cases c : 2 ≤ z ∧ y < 4
    · have e : emu z (y :: ys) = 3 :: y :: emu (if y = 0 then 1 else 0) ys := if_pos c
      rw [e]
      have := key (if y = 0 then 1 else 0)
      rw [List.length_cons, show (y :: emu (if y = 0 then 1 else 0) ys).length + 1 - 1 = ((y :: emu (if y = 0 then 1 else 0) ys).length - 1) + 1 by rw [List.length_cons]; omega, List.getElem?_cons_succ]
      exact this
    · have e : emu z (y :: ys) = y :: emu (if y = 0 then z + 1 else 0) ys := if_neg c
      rw [e]
      exact key _
