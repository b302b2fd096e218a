/-! a unit's first byte stays -/
theorem pc_app {β : Type} {l : NN} {o : Option (NN × β)} {P : NN × β → Prop} (h : PC o (fun y => P (l ++ y.1, y.2))) : PC (app l o) P := by
  intro y e
  obtain ⟨w, h1, h2⟩ := app_some e
  rw [h2]
  exact h w h1
theorem pc_itrA {σ ρ : Type} {b : NN × σ → Option (NN × ((NN × σ) ⊕ ρ))} (I : NN → σ → Prop) (Q : NN → ρ → Prop) (hs : ∀ L s, I L s → PC (b (L, s)) (fun z => match z.2 with
  | .inl t => t.1 = L ++ z.1 ∧ I t.1 t.2
  | .inr r => Q (L ++ z.1) r)) : ∀ (n : Nat) (L : NN) (s : σ), I L s → PC (itrA b n (L, s)) (fun y => Q (L ++ y.1) y.2) := by
  intro n
  induction n with
  | zero => intro L s _ y e; cases e
  | succ n ih =>
    intro L s hI y e
    unfold itrA at e
    cases hb : b (L, s) with
    | none => rw [hb] at e; cases e
    | some z =>
      rw [hb] at e
      have h := hs L s hI z hb
      obtain ⟨r, z2⟩ := z
      cases z2 with
      | inl t =>
        obtain ⟨t1, t2⟩ := t
        obtain ⟨h1, h2⟩ := h
        obtain ⟨v, v1, v2⟩ := app_some e
        have h3 := ih t1 t2 h2 v v1
        dsimp only at h1 h3
        rw [v2]
        dsimp only
        rw [h1, List.append_assoc] at h3
        exact h3
      | inr q =>
        injection e with e
        rw [← e]
        exact h
theorem pc_chkP {α : Type} {c : Prop} {k : Option α} {P : α → Prop} (h : c → PC k P) : PC (chkP c k) P := by
  intro y e
  obtain ⟨h1, h2⟩ := chkP_some e
  exact h h1 y h2
theorem pc_drk {α : Type} {G : GG} {κ : Nat} {o : Option Nat} {k : Nat → Option α} {P : α → Prop} (h : ∀ b, o = some b → b < G.1 → G.2.1 b = κ → PC (k b) P) : PC (dr G κ o k) P := by
  intro y e
  obtain ⟨b, h1, h2, h3, h4⟩ := dr_some e
  exact h b h1 h2 h3 y h4
def U0 (G : GG) (M : DD) (a : Nat) (c : Int32) : Prop := ∃ u, (a < G.1 ∧ G.2.1 a = 10) ∧ (M.2 a 4 = some u ∧ u < G.1 ∧ G.2.1 u = 12) ∧ (1 ≤ G.2.2 u ∧ G.2.2 u ≤ 134217728) ∧ M.1 u 0 = c ∧ 1 ≤ (M.1 a 5).toInt
theorem U0.w {G : GG} {M : DD} {a : Nat} {c : Int32} (h : U0 G M a c) {b k : Nat} {v : Int32} (hb : G.2.1 b ≠ 12) (hk : ¬ (b = a ∧ k = 5)) : U0 G (uI M b k v) a c := by
  obtain ⟨u, h1, h2, h3, h4, h5⟩ := h
  refine ⟨u, h1, h2, h3, ?_, ?_⟩
  · rw [uI_n]
    · exact h4
    · rintro ⟨e, _⟩
      rw [e] at h2
      exact hb h2.2.2
  · rw [uI_n]
    · exact h5
    · rintro ⟨e1, e2⟩
      exact hk ⟨e1.symm, e2.symm⟩
theorem U0.wa {G : GG} {M : DD} {a : Nat} {c : Int32} (h : U0 G M a c) {k : Nat} {v : Int32} (hk : k ≠ 5) : U0 G (uI M a k v) a c := h.w (by obtain ⟨u, h1, _⟩ := h; rw [h1.2]; decide) (fun q => hk q.2)
theorem U0.xt {G : GG} {M : DD} {a : Nat} {c : Int32} (L : NN) (h : U0 G M a c) : U0 (xt G L) M a c := by
  obtain ⟨u, h1, h2, h3, h4, h5⟩ := h
  refine ⟨u, ⟨xt_lt L h1.1, by rw [xt_kk L h1.1]; exact h1.2⟩, ⟨h2.1, xt_lt L h2.2.1, by rw [xt_kk L h2.2.1]; exact h2.2.2⟩, ?_, h4, h5⟩
  rw [xt_nn L h2.2.1]
  exact h3
theorem pc_copy {G : GG} {M : DD} {b : Nat} {p1 : Int32} (h0 : 1 ≤ p1.toInt) (hl : 1 ≤ G.2.2 b ∧ G.2.2 b ≤ 134217728) : PC (FJ7_copyOf_9075b G M (some b) p1) (fun y => ∃ n : Nat, y.1 = [(12, n)] ∧ 1 ≤ n ∧ n ≤ 134217728 ∧ y.2.2 = some G.1 ∧ y.2.1.2 = (rO M G.1).2 ∧ y.2.1.1 G.1 0 = (rO M G.1).1 b 0 ∧ ∀ x k, x ≠ G.1 → y.2.1.1 x k = (rO M G.1).1 x k) := by
  unfold FJ7_copyOf_9075b
  refine pc_drk (fun b' e hlt hk => ?_)
  injection e with e
  subst e
  have hlt : b < G.1 := hlt
  refine pc_ltt (fun x2 e2 => ?_)
  refine pc_bnd (Q := fun y => y = M) ?_ ?_
  · intro y e
    split at e
    · cases e
    · exact (Option.some.inj e).symm
  rintro y3 rfl
  refine pc_chkP (fun _ => pc_chk (fun c => pc_chk (fun _ => ?_)))
  have hp : ¬ p1.toInt < 0 := by omega
  have np := nat_of (x := p1) (by omega)
  refine pc_ltt (fun c6 e6 => pc_app (pc_ltt (fun L8 e8 => pc_ltt (fun M9 e9 => pc_ltt (fun x12 e12 => pc_ltt (fun x13 e13 => pc_chk (fun c13 => pc_chk (fun _ => pc_ltt (fun M14 e14 => pc_some ?_)))))))))
  have hc6 : c6 = G.1 := e6
  have hL : L8 = [(12, p1.toNatClampNeg)] := e8
  have i12 : x12.toInt = G.2.2 b := by
    rw [e12, xt_nn L8 hlt]
    exact pz_ofn (by omega)
  have h13 : 1 ≤ x13.toNatClampNeg := by
    have : 1 ≤ x13.toInt := by
      rw [e13]
      split <;> omega
    have := nat_of (x := x13) (by omega)
    omega
  have z0 : ((0 : Int32)).toNatClampNeg = 0 := by decide
  refine ⟨p1.toNatClampNeg, by simp, by omega, by omega, by rw [hc6], ?_, ?_, ?_⟩
  · dsimp only
    rw [e14, e9, hc6]
    rfl
  · dsimp only
    rw [e14, e9, hc6]
    show (if G.1 = G.1 then va_cpy _ _ _ _ _ else _) 0 = _
    rw [if_pos rfl]
    unfold va_cpy
    rw [z0, if_pos ⟨Nat.le_refl _, by omega⟩]
  · intro x k hx
    dsimp only
    rw [e14, e9, hc6]
    show (if x = G.1 then _ else (rO y3 G.1).1 x) k = _
    rw [if_neg hx]
theorem pc_put {G : GG} {M : DD} {a : Nat} {c p0 : Int32} (h : U0 G M a c) : PC (FX10_put G M a p0) (fun y => U0 (xt G y.1) y.2 a c) := by
  unfold FX10_put
  refine pc_ltt (fun x1 _ => pc_bnd (Q := fun _ => True) (fun _ _ => trivial) (fun y2 _ => ?_))
  refine pc_bnd (pc_itrA (fun L (s : Int32 × DD) => U0 (xt G L) s.2 a c) (fun L (r : Int32 × DD) => U0 (xt G L) r.2 a c) ?_ _ _ _ (h.xt [])) ?_
  · rintro L s hs
    refine pc_ltt (fun x15 _ => pc_if (fun _ => pc_some (by dsimp only; rw [List.append_nil]; exact hs)) (fun _ => ?_))
    refine pc_ltt (fun x17 _ => pc_ltt (fun x18 _ => pc_bnd (Q := fun _ => True) (fun _ _ => trivial) (fun y19 _ => ?_)))
    refine pc_ltt (fun x20 _ => pc_ltt (fun M21 e21 => ?_))
    have h21 : U0 (xt G L) M21 a c := by rw [e21]; exact hs.wa (by decide)
    refine pc_ltt (fun x22 _ => pc_ltt (fun x23 _ => pc_ltt (fun M24 e24 => ?_)))
    have h24 : U0 (xt G L) M24 a c := by rw [e24]; exact h21.wa (by decide)
    refine pc_ltt (fun x25 _ => pc_bnd (Q := fun y => U0 (xt G (L ++ y.1)) y.2 a c) ?_ ?_)
    · refine pc_if (fun _ => ?_) (fun _ => pc_some (by dsimp only; rw [List.append_nil]; exact h24))
      refine pc_ltt (fun x33 e33 => pc_drk (fun b eb hb kb => ?_))
      refine pc_ltt (fun x35 e35 => pc_bnd (Q := fun y => U0 (xt G (L ++ y.1)) y.2 a c) ?_ ?_)
      · refine pc_if (fun _ => pc_some (by dsimp only; rw [List.append_nil]; exact h24)) (fun cc => ?_)
        refine pc_ltt (fun x51 e51 => pc_ltt (fun x52 e52 => ?_))
        obtain ⟨u, u1, u2, u3, u4, u5⟩ := h24
        have hbu : b = u := by rw [u2.1] at eb; injection eb with eb; exact eb.symm
        subst hbu
        have i51 : TI x51 ((xt G L).2.2 b : Nat) := by rw [e51]; exact pz_ofn (Nat.lt_of_le_of_lt u3.2 (by decide))
        have i52 : TI x52 (2 * ((xt G L).2.2 b : Nat)) := by rw [e52]; exact av_mul tn_2 i51 (by omega) (by omega)
        have q52 : x52.toInt = _ := i52
        refine pc_bnd (pc_copy (by omega) u3) ?_
        rintro y53 ⟨n, n1, n2, n3, n4, n5, n6, n7⟩
        refine pc_app (pc_ltt (fun L55 e55 => pc_ltt (fun M58 e58 => pc_some ?_)))
        dsimp only
        rw [n1, List.append_nil, ← xt_xt]
        have ha : a ≠ (xt G L).1 := by have := u1.1; omega
        refine ⟨(xt G L).1, ⟨xt_lt _ u1.1, by rw [xt_kk _ u1.1]; exact u1.2⟩, ⟨?_, ?_, ?_⟩, ?_, ?_, ?_⟩
        · rw [e58, uP_s, n4]
        · show (xt G L).1 < (xt G L).1 + 1
          omega
        · simp [xt]
        · have : (xt (xt G L) [(12, n)]).2.2 (xt G L).1 = n := by simp [xt]
          rw [this]
          exact ⟨n2, n3⟩
        · rw [e58]
          show y53.2.1.1 (xt G L).1 0 = c
          rw [n6]
          show (if b = (xt G L).1 then _ else M24.1 b) 0 = c
          rw [if_neg (by have := u2.2.1; omega)]
          exact u4
        · rw [e58]
          show 1 ≤ (y53.2.1.1 a 5).toInt
          rw [n7 a 5 ha]
          show 1 ≤ ((if a = (xt G L).1 then _ else M24.1 a) 5).toInt
          rw [if_neg ha]
          exact u5
      · rintro y36 h36
        refine pc_app (pc_ltt (fun L38 e38 => ?_))
        have hL : L38 = L ++ y36.1 := e38
        rw [← hL] at h36
        refine pc_ltt (fun x40 e40 => pc_ltt (fun x41 e41 => pc_ltt (fun M42 e42 => ?_)))
        refine pc_ltt (fun x43 _ => pc_ltt (fun x44 _ => pc_drk (fun b2 eb2 hb2 kb2 => pc_chk (fun cx => ?_))))
        obtain ⟨u, u1, u2, u3, u4, u5⟩ := h36
        have hbu : b2 = u := by rw [u2.1] at eb2; injection eb2 with eb2; exact eb2.symm
        subst hbu
        have hx := nx_of cx
        have h40 : 1 ≤ x40.toInt := by rw [e40]; exact u5
        have hne : b2 ≠ a := fun e => by rw [e] at u2; rw [u1.2] at u2; exact absurd u2.2.2 (by decide)
        have i41 : x41.toInt = x40.toInt + 1 := by rw [e41]; exact av_add (rfl : TI x40 x40.toInt) tn_1 (by omega) (by omega)
        refine pc_ltt (fun M46 e46 => pc_ltt (fun M47 e47 => pc_ltt (fun M48 e48 => pc_some ?_)))
        dsimp only
        rw [List.append_nil, ← hL]
        have k : U0 (xt G L38) M46 a c := by
          refine ⟨b2, u1, ⟨?_, u2.2⟩, u3, ?_, ?_⟩
          · rw [e46, e42]; exact u2.1
          · rw [e46, uI_n _ _ (by omega), e42, uI_n _ _ (fun q => hne q.1)]
            exact u4
          · rw [e46, uI_n _ _ (fun q => hne q.1.symm), e42, uI_s]
            omega
        rw [e48, e47]
        exact (k.wa (by decide)).wa (by decide)
    · rintro y26 h26
      refine pc_app (pc_ltt (fun L28 e28 => pc_ltt (fun x30 _ => pc_some ?_)))
      have hL : L28 = L ++ y26.1 := e28
      exact ⟨by dsimp only; rw [List.append_nil, hL], by dsimp only; rw [hL]; exact h26⟩
  · rintro y3 h3
    refine pc_app (pc_ltt (fun L6 _ => pc_chk (fun _ => pc_ltt (fun M8 e8 => pc_ltt (fun M9 e9 => pc_some ?_)))))
    dsimp only
    rw [List.append_nil, e9, e8]
    exact (U0.wa h3 (by decide)).wa (by decide)
