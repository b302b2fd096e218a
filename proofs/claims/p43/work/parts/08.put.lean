/-! Writer: bits come to the unit -/
theorem ok_itrB {σ ρ : Type} {b : NN × σ → Option (NN × ((NN × σ) ⊕ ρ))} (I : NN → σ → Prop) (μ : σ → Nat) (Q : NN → ρ → Prop) (hs : ∀ L s, I L s → OK (b (L, s)) (fun z => match z.2 with
  | .inl t => t.1 = L ++ z.1 ∧ I t.1 t.2 ∧ μ t.2 < μ s
  | .inr r => Q (L ++ z.1) r)) (n : Nat) (L : NN) (s : σ) (hI : I L s) (hm : μ s < n) : OK (itrA b n (L, s)) (fun y => Q (L ++ y.1) y.2) := by
  refine (ok_itrA (fun q : NN × σ => I q.1 q.2) (fun q => μ q.2) (fun q r y => Q (q.1 ++ r) y) (fun q hq => ?_) n (L, s) hI hm)
  obtain ⟨L1, s1⟩ := q
  refine (hs L1 s1 hq).mono (fun z hz => ?_)
  obtain ⟨z1, z2⟩ := z
  cases z2 with
  | inl t =>
    obtain ⟨h1, h2, h3⟩ := hz
    refine ⟨h2, h3, fun r y hr => ?_⟩
    dsimp only at h1 hr ⊢
    rw [h1, List.append_assoc] at hr
    exact hr
  | inr r => exact hz
theorem Clo.uI {G : GG} {M : DD} (h : Clo G M) (a k : Nat) (v : Int32) : Clo G (uI M a k v) := h
theorem Clo.rI {G : GG} {M : DD} (h : Clo G M) (a : Nat) (f : Nat → Int32) : Clo G (rI M a f) := h
theorem Clo.uP {G : GG} {M : DD} (h : Clo G M) (a k : Nat) {o : Option Nat} (ho : ∀ b, o = some b → b < G.1) : Clo G (uP M a k o) := by
  intro x hx j b hb
  by_cases q : x = a ∧ j = k
  · rw [q.1, q.2, uP_s] at hb
    exact ho b hb
  · rw [uP_n M o q] at hb
    exact h x hx j b hb
def WB (G : GG) (M : DD) (a u : Nat) (f : Nat → Nat) (n : Nat) : Prop :=
  (a < G.1 ∧ G.2.1 a = 10 ∧ M.2 a 4 = some u ∧ u < G.1 ∧ G.2.1 u = 12) ∧ (4096 ≤ G.2.2 u ∧ G.2.2 u ≤ 300000 ∧ 1 + n / 8 ≤ G.2.2 u) ∧ (M.1 a 5).toInt = 1 + n / 8 ∧ (M.1 a 7).toInt = n % 8 ∧ (M.1 a 6).toInt = pv f (8 * (n / 8)) (n % 8) ∧ (∀ j : Nat, j < n / 8 → (M.1 u (1 + j)).toInt % 256 = pv f (8 * j) 8) ∧ (∀ i, f i ≤ 1) ∧ (∀ j, -128 ≤ (M.1 u j).toInt ∧ (M.1 u j).toInt ≤ 127)
def puts (f : Nat → Nat) (n b fi : Nat) : Nat → Nat := fun i => if i < n then f i else if fi = 0 ∧ i = n then b else 1 - b
/-- what else stands as it stood -/
def WF (G : GG) (M : DD) (a u : Nat) (N : DD) : Prop := ∀ x k, x < G.1 → x ≠ u → ¬ (x = a ∧ (k = 4 ∨ k = 5 ∨ k = 6 ∨ k = 7 ∨ k = 11 ∨ k = 12)) → N.1 x k = M.1 x k ∧ N.2 x k = M.2 x k
theorem xt_01 (G : GG) : (xt G []).1 = G.1 := rfl
theorem xt_kk {G : GG} {b : Nat} (L : NN) (h : b < G.1) : (xt G L).2.1 b = G.2.1 b := by simp [xt, h]
theorem xt_nn {G : GG} {b : Nat} (L : NN) (h : b < G.1) : (xt G L).2.2 b = G.2.2 b := by simp [xt, h]
theorem xt_lt {G : GG} {b : Nat} (L : NN) (h : b < G.1) : b < (xt G L).1 := Nat.lt_of_lt_of_le h (xt_ge G L)
theorem WB.xt {G : GG} {M : DD} {a u : Nat} {f : Nat → Nat} {n : Nat} (h : WB G M a u f n) (L : NN) : WB (xt G L) M a u f n := by
  obtain ⟨⟨h1, h2, h3, h4, h5⟩, h6, h7⟩ := h
  refine ⟨⟨xt_lt L h1, (xt_kk L h1).trans h2, h3, xt_lt L h4, (xt_kk L h4).trans h5⟩, ?_, h7⟩
  rw [xt_nn L h4]
  exact h6
theorem puts_lt {f : Nat → Nat} {n b fi i : Nat} (h : i < n) : puts f n b fi i = f i := if_pos h
theorem puts_le {f : Nat → Nat} {n b fi : Nat} (hf : ∀ i, f i ≤ 1) (hb : b ≤ 1) (i : Nat) : puts f n b fi i ≤ 1 := by
  unfold puts
  split
  · exact hf i
  · split <;> omega
theorem pv_8 (f : Nat → Nat) (p : Nat) : pv f p 8 = 2 * pv f p 7 + f (p + 7) := rfl
/-- one more bit in 'held', no byte full -/
theorem WB.more {G : GG} {M N : DD} {a u : Nat} {f : Nat → Nat} {n : Nat} (h : WB G M a u f n) (hn : n % 8 < 7) (h6 : (N.1 a 6).toInt = 2 * (M.1 a 6).toInt + f n) (h7 : (N.1 a 7).toInt = (M.1 a 7).toInt + 1) (h5 : N.1 a 5 = M.1 a 5) (h4 : N.2 a 4 = M.2 a 4) (hu : ∀ j, N.1 u j = M.1 u j) : WB G N a u f (n + 1) := by
  obtain ⟨⟨g1, g2, g3, g4, g5⟩, ⟨g6, g7, g8⟩, g9, g10, g11, g12, g13, g14⟩ := h
  have e1 : (n + 1) / 8 = n / 8 := by omega
  have e2 : (n + 1) % 8 = n % 8 + 1 := by omega
  refine ⟨⟨g1, g2, by rw [h4, g3], g4, g5⟩, ⟨g6, g7, by rw [e1]; exact g8⟩, by rw [h5]; omega, by omega, ?_, ?_, g13, fun j => by rw [hu]; exact g14 j⟩
  · rw [e1, e2, h6, g11]
    have e3 : pv f (8 * (n / 8)) (n % 8 + 1) = 2 * pv f (8 * (n / 8)) (n % 8) + f (8 * (n / 8) + n % 8) := rfl
    rw [e3, show 8 * (n / 8) + n % 8 = n by omega]
    omega
  · rw [e1]
    intro j hj
    rw [hu]
    exact g12 j hj
/-- a byte is full -/
theorem WB.full {G : GG} {M N : DD} {a u v : Nat} {f : Nat → Nat} {n : Nat} (h : WB G M a u f n) (hn : n % 8 = 7) (hv : v < G.1 ∧ G.2.1 v = 12) (hl : 4096 ≤ G.2.2 v ∧ G.2.2 v ≤ 300000 ∧ 2 + n / 8 ≤ G.2.2 v) (h6 : (N.1 a 6).toInt = 0) (h7 : (N.1 a 7).toInt = 0) (h5 : (N.1 a 5).toInt = (M.1 a 5).toInt + 1) (h4 : N.2 a 4 = some v) (hu : ∀ j, j < 1 + n / 8 → N.1 v j = M.1 u j) (hw : (N.1 v (1 + n / 8)).toInt % 256 = (2 * (M.1 a 6).toInt + f n) % 256) (hb : ∀ j, -128 ≤ (N.1 v j).toInt ∧ (N.1 v j).toInt ≤ 127) : WB G N a v f (n + 1) := by
  obtain ⟨⟨g1, g2, g3, g4, g5⟩, ⟨g6, g7, g8⟩, g9, g10, g11, g12, g13, g14⟩ := h
  have e1 : (n + 1) / 8 = n / 8 + 1 := by omega
  have e2 : (n + 1) % 8 = 0 := by omega
  refine ⟨⟨g1, g2, h4, hv.1, hv.2⟩, ⟨hl.1, hl.2.1, by rw [e1]; omega⟩, by omega, by omega, by rw [e2, h6]; rfl, ?_, g13, hb⟩
  rw [e1]
  intro j hj
  by_cases q : j = n / 8
  · subst q
    rw [hw, g11, hn, pv_8, show 8 * (n / 8) + 7 = n by omega]
    have := pv_lt g13 (p := 8 * (n / 8)) 7
    have := g13 n
    have e : (2 : Nat) ^ 7 = 128 := rfl
    omega
  · rw [hu _ (by omega)]
    exact g12 j (by omega)
theorem copyOf_ok {G : GG} {M : DD} {u : Nat} (hu : u < G.1) (hk : G.2.1 u = 12) {p1 : Int32} (h0 : (G.2.2 u : Int) < p1.toInt) (h1 : p1.toInt ≤ 100000000) (hC : Clo G M) (hb : ∀ j, -128 ≤ (M.1 u j).toInt ∧ (M.1 u j).toInt ≤ 127) : OK (FJ7_copyOf_9075b G M (some u) p1) (fun y => y.1 = [(12, p1.toInt.toNat)] ∧ y.2.2 = some G.1 ∧ (∀ j, j < G.2.2 u → y.2.1.1 G.1 j = M.1 u j) ∧ (∀ j, G.2.2 u ≤ j → y.2.1.1 G.1 j = 0) ∧ (∀ x k, x < G.1 → y.2.1.1 x k = M.1 x k ∧ y.2.1.2 x k = M.2 x k) ∧ Clo (xt G y.1) y.2.1) := by
  have hl : G.2.2 u < 2147483648 := by omega
  have e0 : (0 : Int32).toInt = 0 := rfl
  have z0 : (0 : Int32).toNatClampNeg = 0 := rfl
  have hpn : (p1.toNatClampNeg : Int) = p1.toInt := pz_nat (by omega)
  have hpe : p1.toNatClampNeg = p1.toInt.toNat := rfl
  unfold FJ7_copyOf_9075b
  refine ok_dr (b := u) rfl (xt_lt [] hu) ((xt_kk [] hu).trans hk) (ok_lt ?_)
  rw [xt_nn [] hu]
  have hx2 : (Int32.ofNat (G.2.2 u)).toInt = G.2.2 u := pz_ofn hl
  generalize Int32.ofNat (G.2.2 u) = x2 at hx2
  refine ok_bnd (Q := fun y : DD => y = M) ?_ (fun y3 h3 => ?_)
  · refine ok_if (fun c => ?_) (fun c => ok_some rfl)
    have := pz_eq.mp c
    omega
  rw [h3]
  refine ok_chkP hC (ok_chk ⟨lt_z (by omega), by omega⟩ (ok_chk ?_ (ok_lt ?_)))
  · show decide (u < G.1 + 0) = true
    exact decide_eq_true hu
  refine ok_app (ok_lt (ok_lt (ok_lt ?_)))
  rw [List.nil_append, xt_nn _ hu, ← hpe]
  have hx3 : (Int32.ofNat (G.2.2 u)).toInt = G.2.2 u := pz_ofn hl
  generalize Int32.ofNat (G.2.2 u) = x12 at hx3
  have hif : (if p1 < x12 then p1 else x12) = x12 := if_neg (fun q => by have := pz_lt.mp q; omega)
  rw [hif]
  have hxn : x12.toNatClampNeg = G.2.2 u := by
    have := pz_nat (x := x12) (by omega)
    omega
  have hnu : u ≠ G.1 := Nat.ne_of_lt hu
  have ek : (xt G [(12, p1.toNatClampNeg)]).2.2 (xt G []).1 = p1.toNatClampNeg := (kind_new G [] 12 _).2
  have hr : ∀ j, (rO M (xt G []).1).1 u j = M.1 u j := fun j => by
    show (if u = G.1 + 0 then _ else M.1 u) j = _
    exact congrFun (if_neg (show ¬ u = G.1 + 0 from hnu)) j
  refine ok_lt (ok_chk ⟨lt_z (by omega), lt_z (by omega), lt_z (by omega), ?_, ?_⟩ (ok_chk ?_ (ok_lt (ok_some ?_))))
  · rw [z0, hxn]
    omega
  · rw [z0, hxn, ek]
    omega
  · intro i _
    rw [hr]
    exact pz_fit (hb _).1 (hb _).2
  · dsimp only
    rw [List.append_nil]
    refine ⟨rfl, rfl, fun j hj => ?_, fun j hj => ?_, fun x k hx => ?_, ?_⟩
    · show (if G.1 = G.1 + 0 then va_cpy _ _ _ _ _ else _) j = _
      rw [if_pos (show G.1 = G.1 + 0 from rfl)]
      unfold va_cpy
      rw [z0, hxn, if_pos ⟨Nat.zero_le _, by omega⟩, hr]
      exact congrArg (M.1 u) (by omega)
    · show (if G.1 = G.1 + 0 then va_cpy _ _ _ _ _ else _) j = _
      rw [if_pos (show G.1 = G.1 + 0 from rfl)]
      unfold va_cpy
      rw [z0, hxn, if_neg (by omega)]
      show (if G.1 = G.1 + 0 then (fun _ => (0 : Int32)) else _) j = _
      rw [if_pos (show G.1 = G.1 + 0 from rfl)]
    · have hne : x ≠ G.1 := Nat.ne_of_lt hx
      constructor
      · show (if x = G.1 + 0 then _ else (if x = G.1 + 0 then _ else M.1 x)) k = _
        rw [if_neg (show ¬ x = G.1 + 0 from hne), if_neg (show ¬ x = G.1 + 0 from hne)]
      · show (if x = G.1 + 0 then _ else M.2 x) k = _
        rw [if_neg (show ¬ x = G.1 + 0 from hne)]
    · intro x hx k b hb2
      have e : (rO M (xt G []).1).2 x k = some b := hb2
      by_cases q : x = G.1 + 0
      · have : (rO M (xt G []).1).2 x k = none := by
          show (if x = G.1 + 0 then (fun _ => none) else M.2 x) k = _
          rw [if_pos q]
        rw [this] at e
        cases e
      · have e2 : (rO M (xt G []).1).2 x k = M.2 x k := by
          show (if x = G.1 + 0 then (fun _ => none) else M.2 x) k = _
          rw [if_neg q]
        rw [e2] at e
        have hx2 : x < G.1 := by
          have : x < G.1 + 1 := hx
          omega
        exact Nat.lt_of_lt_of_le (hC x hx2 k b e) (xt_ge G _)
set_option maxHeartbeats 4000000 in
theorem put_ok {G : GG} {M : DD} {a u n o fi bb : Nat} {f : Nat → Nat} {b : Int32} (h : WB G M a u f n) (hC : Clo G M) (hn : n + o ≤ 950000) (ho : (M.1 a 11).toInt = o) (hfi : (M.1 a 12).toInt = fi) (hfi1 : fi ≤ 1) (hb : b.toInt = bb) (hb1 : bb ≤ 1) : OK (FX10_put G M a b) (fun y => ∃ u', (u' = u ∨ G.1 ≤ u') ∧ WB (xt G y.1) y.2 a u' (puts f n bb fi) (n + o + 1 - fi) ∧ (y.2.1 a 11).toInt = 0 ∧ (y.2.1 a 12).toInt = 0 ∧ Clo (xt G y.1) y.2 ∧ WF G M a u y.2) := by
  unfold FX10_put
  refine ok_lt ?_
  refine ok_bnd (Q := fun y2 : Int32 => y2.toInt = fi) ?_ (fun y2 h2 => ?_)
  · refine ok_if (fun c => ok_some ?_) (fun c => ok_some ?_)
    · have := pz_eq.mp c
      have e0 : (0 : Int32).toInt = 0 := rfl
      omega
    · have : ¬ (M.1 a 12).toInt = 0 := fun q => c (pz_eq.mpr q)
      have e1 : (1 : Int32).toInt = 1 := rfl
      omega
  have hWf : ∀ i, puts f n bb fi i ≤ 1 := puts_le h.2.2.2.2.2.2.1 hb1
  refine ok_bnd (ok_itrB (fun (L : NN) (s : Int32 × DD) => ∃ u', (u' = u ∨ G.1 ≤ u') ∧ WB (xt G L) s.2 a u' (puts f n bb fi) (n + s.1.toInt.toNat - fi) ∧ (fi : Int) ≤ s.1.toInt ∧ s.1.toInt ≤ (o : Int) + 1 ∧ (s.2.1 a 11).toInt = (o : Int) ∧ Clo (xt G L) s.2 ∧ WF G M a u s.2) (fun (s : Int32 × DD) => ((o : Int) + 1 - s.1.toInt).toNat) (fun (L : NN) (y : Int32 × DD) => ∃ u', (u' = u ∨ G.1 ≤ u') ∧ WB (xt G L) y.2 a u' (puts f n bb fi) (n + o + 1 - fi) ∧ Clo (xt G L) y.2 ∧ WF G M a u y.2) ?_ 1000000 [] (y2, M) ?_ ?_) ?_
  · intro L s hI
    obtain ⟨k, N⟩ := s
    obtain ⟨u', hu', hW, hk0, hk1, ho1, hC1, hF⟩ := hI
    dsimp only at hW hk0 hk1 ho1 hC1 hF ⊢
    have ha := hW.1.1
    have hua : u' ≠ a := fun e => by
      have e1 := hW.1.2.2.2.2
      have e2 := hW.1.2.1
      rw [e] at e1
      omega
    refine ok_lt ?_
    refine ok_if (fun c => ok_some ?_) (fun c => ?_)
    · have := pz_lt.mp c
      dsimp only
      rw [List.append_nil]
      refine ⟨u', hu', ?_, hC1, hF⟩
      rw [show n + o + 1 - fi = n + k.toInt.toNat - fi by omega]
      exact hW
    have hc : k.toInt ≤ o := by
      have : ¬ (N.1 a 11).toInt < k.toInt := fun q => c (pz_lt.mpr q)
      omega
    generalize hm : n + k.toInt.toNat - fi = m at hW
    have hm1 : n + (k + 1).toInt.toNat - fi = m + 1 := by
      rw [ti_add (by have e1 : (1 : Int32).toInt = 1 := rfl
                     omega) (by have e1 : (1 : Int32).toInt = 1 := rfl
                                omega)]
      have e1 : (1 : Int32).toInt = 1 := rfl
      omega
    have hk2 : (k + 1).toInt = k.toInt + 1 := ti_add (by have e1 : (1 : Int32).toInt = 1 := rfl
                                                         omega) (by have e1 : (1 : Int32).toInt = 1 := rfl
                                                                    omega)
    have hh6 := hW.2.2.2.2.1
    have hh7 := hW.2.2.2.1
    have hh5 := hW.2.2.1
    have hbd := pv_lt hWf (p := 8 * (m / 8)) (m % 8)
    have hp : (2 : Nat) ^ (m % 8) ≤ 128 := by
      have : m % 8 < 8 := Nat.mod_lt _ (by decide)
      calc (2 : Nat) ^ (m % 8) ≤ 2 ^ 7 := Nat.pow_le_pow_right (by decide) (by omega)
        _ = 128 := rfl
    refine ok_lt (ok_lt ?_)
    refine ok_bnd (Q := fun y : Int32 => y.toInt = (puts f n bb fi m : Nat)) ?_ (fun y19 h19 => ?_)
    · refine ok_if (fun c2 => ok_some ?_) (fun c2 => ok_lt (ok_some ?_))
      · have := pz_eq.mp c2
        have e0 : (0 : Int32).toInt = 0 := rfl
        rw [hb]
        have : puts f n bb fi m = bb := by
          unfold puts
          rw [if_neg (by omega), if_pos (by omega)]
        rw [this]
      · have c3 : ¬ k.toInt = 0 := fun q => c2 (pz_eq.mpr q)
        have e1 : (1 : Int32).toInt = 1 := rfl
        rw [ti_sub (by omega) (by omega), hb, e1]
        have : puts f n bb fi m = 1 - bb := by
          unfold puts
          rw [if_neg (by omega)]
          by_cases q : fi = 0 ∧ m = n
          · omega
          · rw [if_neg q]
        rw [this]
        omega
    have hp1 := hWf m
    refine ok_lt ?_
    have h20 : ((N.1 a 6 <<< ((1 : Int32) &&& 31)) ||| y19).toInt = 2 * (N.1 a 6).toInt + (puts f n bb fi m : Nat) := by
      have e := pz_shl1 (N.1 a 6) (by omega) (by omega)
      rw [pz_or1 _ _ (by omega) (by omega) (by omega) (by omega), e, h19]
    generalize (N.1 a 6 <<< ((1 : Int32) &&& 31)) ||| y19 = x20 at h20 ⊢
    refine ok_lt (ok_lt (ok_lt (ok_lt (ok_lt ?_))))
    have e22 : (uI N a 6 x20).1 a 7 = N.1 a 7 := by simp [uI]
    rw [e22]
    have e25 : (uI (uI N a 6 x20) a 7 (N.1 a 7 + 1)).1 a 7 = N.1 a 7 + 1 := by simp [uI]
    rw [e25]
    have h23 : (N.1 a 7 + 1).toInt = m % 8 + 1 := by
      have e1 : (1 : Int32).toInt = 1 := rfl
      rw [ti_add (by omega) (by omega), hh7, e1]
    generalize hx23 : N.1 a 7 + 1 = x23 at h23
    refine ok_bnd (Q := fun y : NN × DD => ∃ v, (v = u ∨ G.1 ≤ v) ∧ WB (xt G (L ++ y.1)) y.2 a v (puts f n bb fi) (m + 1) ∧ (y.2.1 a 11).toInt = (o : Int) ∧ Clo (xt G (L ++ y.1)) y.2 ∧ WF G M a u y.2) ?_ (fun y26 h26 => ?_)
    · have hua2 : ¬ a = u' := fun e => hua e.symm
      have eU : ∀ j, (uI (uI N a 6 x20) a 7 x23).1 u' j = N.1 u' j := fun j => by simp [uI, hua]
      have eA : ∀ j, j ≠ 6 → j ≠ 7 → (uI (uI N a 6 x20) a 7 x23).1 a j = N.1 a j := fun j h1 h2 => by simp [uI, h1, h2]
      have e6 : (uI (uI N a 6 x20) a 7 x23).1 a 6 = x20 := by simp [uI]
      have e7 : (uI (uI N a 6 x20) a 7 x23).1 a 7 = x23 := by simp [uI]
      have eP : ∀ x j, (uI (uI N a 6 x20) a 7 x23).2 x j = N.2 x j := fun x j => rfl
      have eO : ∀ x j, x ≠ a → (uI (uI N a 6 x20) a 7 x23).1 x j = N.1 x j := fun x j h1 => by simp [uI, h1]
      generalize hM24 : uI (uI N a 6 x20) a 7 x23 = M24 at eU eA e6 e7 eP eO ⊢
      have hC24 : Clo (xt G L) M24 := by
        rw [← hM24]
        exact hC1
      have hl24 := hW.2.1
      refine ok_if (fun c => ?_) (fun c => ok_some ?_)
      · have hm7 : m % 8 = 7 := by
          have := pz_eq.mp c
          have e8 : (8 : Int32).toInt = 8 := rfl
          omega
        refine ok_lt (ok_dr (b := u') ((eP a 4).trans hW.1.2.2.1) hW.1.2.2.2.1 hW.1.2.2.2.2 (ok_lt ?_))
        have hx35 : (Int32.ofNat ((xt G L).2.2 u')).toInt = (xt G L).2.2 u' := pz_ofn (by omega)
        generalize Int32.ofNat ((xt G L).2.2 u') = x35 at hx35
        rw [eA 5 (by decide) (by decide)]
        refine ok_bnd (Q := fun y : NN × DD => ∃ v, (v = u' ∨ (xt G L).1 ≤ v) ∧ (v < (xt G (L ++ y.1)).1 ∧ (xt G (L ++ y.1)).2.1 v = 12) ∧ (4096 ≤ (xt G (L ++ y.1)).2.2 v ∧ (xt G (L ++ y.1)).2.2 v ≤ 300000 ∧ 2 + m / 8 ≤ (xt G (L ++ y.1)).2.2 v) ∧ y.2.2 a 4 = some v ∧ (∀ j, j < 1 + m / 8 → y.2.1 v j = N.1 u' j) ∧ (∀ j, -128 ≤ (y.2.1 v j).toInt ∧ (y.2.1 v j).toInt ≤ 127) ∧ Clo (xt G (L ++ y.1)) y.2 ∧ (∀ x k, x < (xt G L).1 → y.2.1 x k = M24.1 x k) ∧ (∀ x k, x < (xt G L).1 → ¬ (x = a ∧ k = 4) → y.2.2 x k = M24.2 x k)) ?_ (fun y36 h36 => ?_)
        · refine ok_if (fun c3 => ok_some ?_) (fun c3 => ?_)
          · have := pz_lt.mp c3
            dsimp only
            rw [List.append_nil]
            exact ⟨u', Or.inl rfl, ⟨hW.1.2.2.2.1, hW.1.2.2.2.2⟩, ⟨hl24.1, hl24.2.1, by omega⟩, (eP a 4).trans hW.1.2.2.1, fun j _ => eU j, fun j => by rw [eU]; exact hW.2.2.2.2.2.2.2 j, hC24, fun x k _ => rfl, fun x k _ _ => rfl⟩
          · have c4 : ¬ (N.1 a 5).toInt < x35.toInt := fun q => c3 (pz_lt.mpr q)
            refine ok_lt (ok_lt ?_)
            have e2 : (2 : Int32).toInt = 2 := rfl
            have hx52 : ((2 : Int32) * x35).toInt = 2 * (xt G L).2.2 u' := by
              rw [pz_mulc e2 (by omega) (by omega), hx35]
            generalize (2 : Int32) * x35 = x52 at hx52 ⊢
            refine ok_bnd (copyOf_ok hW.1.2.2.2.1 hW.1.2.2.2.2 (by omega) (by omega) hC24 (fun j => by rw [eU]; exact hW.2.2.2.2.2.2.2 j)) (fun y53 h53 => ?_)
            obtain ⟨y1, y2, y3⟩ := y53
            obtain ⟨p1, p2, p3, p4, p5, p6⟩ := h53
            dsimp only at p1 p2 p3 p4 p5 p6
            subst p1
            subst p2
            refine ok_app (ok_lt (ok_lt (ok_some ?_)))
            dsimp only
            rw [List.append_nil]
            have ek := kind_new G L 12 x52.toInt.toNat
            have eg : (xt (xt G L) [(12, x52.toInt.toNat)]) = xt G (L ++ [(12, x52.toInt.toNat)]) := xt_xt G L _
            rw [eg] at p6
            refine ⟨(xt G L).1, Or.inr (Nat.le_refl _), ⟨cnt_new G L _, ek.1⟩, ?_, uP_s _ _ _ _, fun j hj => ?_, fun j => ?_, p6.uP a 4 (fun b hb => by cases hb; exact cnt_new G L _), fun x k hx => (p5 x k hx).1, fun x k hx hn2 => ?_⟩
            · rw [ek.2]
              omega
            · show y2.1 (xt G L).1 j = _
              rw [p3 j (by omega), eU]
            · show -128 ≤ (y2.1 (xt G L).1 j).toInt ∧ (y2.1 (xt G L).1 j).toInt ≤ 127
              by_cases q : j < (xt G L).2.2 u'
              · rw [p3 j q, eU]
                exact hW.2.2.2.2.2.2.2 j
              · rw [p4 j (by omega)]
                exact ⟨by decide, by decide⟩
            · rw [uP_n _ _ hn2]
              exact (p5 x k hx).2
        · obtain ⟨y1, N36⟩ := y36
          obtain ⟨v, q1, q2, q3, q4, q5, q6, q7, q8, q9⟩ := h36
          dsimp only at q2 q3 q4 q5 q6 q7 q8 q9
          have hva : ¬ a = v := fun e => by
            rcases q1 with q | q
            · exact hua2 (e.trans q)
            · omega
          have hva2 : ¬ v = a := fun e => hva e.symm
          have e40 : (N36.1 a 5).toInt = 1 + m / 8 := by
            rw [q8 a 5 ha, eA 5 (by decide) (by decide), hh5]
          have e1 : (1 : Int32).toInt = 1 := rfl
          refine ok_app (ok_lt (ok_lt (ok_lt (ok_lt (ok_lt (ok_lt ?_))))))
          dsimp only
          have e41 : (N36.1 a 5 + 1).toInt = 2 + m / 8 := by
            rw [ti_add (by omega) (by omega), e40, e1]
            omega
          have e43 : (uI N36 a 5 (N36.1 a 5 + 1)).1 a 6 = x20 := by
            rw [uI_n _ _ (by simp), q8 a 6 ha, e6]
          rw [e43]
          have en : (N36.1 a 5).toNatClampNeg = 1 + m / 8 := by
            have := pz_nat (x := N36.1 a 5) (by omega)
            omega
          have hL : v < (xt G (L ++ y1)).1 := q2.1
          refine ok_dr (b := v) q4 q2.1 q2.2 (ok_chk (pz_ix (by omega) (by omega)) (ok_lt (ok_lt (ok_lt (ok_some ?_)))))
          dsimp only
          rw [List.append_nil, en]
          obtain ⟨i1, i2, i3⟩ := pz_i8 x20
          have hfx : xt G (L ++ y1) = xt (xt G L) y1 := (xt_xt G L y1).symm
          refine ⟨v, ?_, ?_, ?_, q7, ?_⟩
          · rcases q1 with q | q
            · rw [q]; exact hu'
            · exact Or.inr (Nat.le_trans (xt_ge G L) q)
          · refine WB.full (hfx ▸ hW.xt y1) hm7 q2 q3 ?_ ?_ ?_ q4 ?_ ?_ ?_
            · simp [uI]
            · simp [uI]
            · rw [show (uI (uI (uI (uI N36 a 5 (N36.1 a 5 + 1)) v (1 + m / 8) (vp_nar .byte (x20.toInt8.toInt32))) a 6 0) a 7 0).1 a 5 = N36.1 a 5 + 1 by simp [uI, hva], e41, hh5]
              omega
            · intro j hj
              rw [← q5 j hj]
              have : ¬ j = 1 + m / 8 := by omega
              simp [uI, hva2, this]
            · have : ((uI (uI (uI (uI N36 a 5 (N36.1 a 5 + 1)) v (1 + m / 8) (vp_nar .byte (x20.toInt8.toInt32))) a 6 0) a 7 0).1 v (1 + m / 8)) = vp_nar .byte (x20.toInt8.toInt32) := by
                simp [uI, hva2]
              rw [this, i1, h20]
            · intro j
              by_cases q : j = 1 + m / 8
              · have : ((uI (uI (uI (uI N36 a 5 (N36.1 a 5 + 1)) v (1 + m / 8) (vp_nar .byte (x20.toInt8.toInt32))) a 6 0) a 7 0).1 v j) = vp_nar .byte (x20.toInt8.toInt32) := by
                  rw [q]
                  simp [uI, hva2]
                rw [this]
                exact ⟨i2, i3⟩
              · have : ((uI (uI (uI (uI N36 a 5 (N36.1 a 5 + 1)) v (1 + m / 8) (vp_nar .byte (x20.toInt8.toInt32))) a 6 0) a 7 0).1 v j) = N36.1 v j := by
                  simp [uI, hva2, q]
                rw [this]
                exact q6 j
          · have : ((uI (uI (uI (uI N36 a 5 (N36.1 a 5 + 1)) v (1 + m / 8) (vp_nar .byte (x20.toInt8.toInt32))) a 6 0) a 7 0).1 a 11) = N36.1 a 11 := by
              simp [uI, hva]
            rw [this, q8 a 11 ha, eA 11 (by decide) (by decide)]
            exact ho1
          · intro x k hx hxu hxk
            have hxL : x < (xt G L).1 := xt_lt L hx
            have hxv : ¬ x = v := fun e => by
              rcases q1 with q | q
              · rcases hu' with r | r
                · exact hxu (e.trans (q.trans r))
                · omega
              · omega
            have hnn : ∀ j, (j = 4 ∨ j = 5 ∨ j = 6 ∨ j = 7 ∨ j = 11 ∨ j = 12) → ¬ (x = a ∧ k = j) := fun j hj q => hxk ⟨q.1, q.2 ▸ hj⟩
            have n4 := hnn 4 (by simp)
            have n5 := hnn 5 (by simp)
            have n6 := hnn 6 (by simp)
            have n7 := hnn 7 (by simp)
            obtain ⟨f1, f2⟩ := hF x k hx hxu hxk
            constructor
            · rw [uI_n _ _ n7, uI_n _ _ n6, uI_n _ _ (fun q => hxv q.1), uI_n _ _ n5, q8 x k hxL, ← hM24, uI_n _ _ n7, uI_n _ _ n6]
              exact f1
            · show N36.2 x k = _
              rw [q9 x k hxL n4, eP]
              exact f2
      · have hm6 : m % 8 < 7 := by
          have : ¬ x23.toInt = 8 := fun q => c (pz_eq.mpr q)
          omega
        dsimp only
        rw [List.append_nil]
        refine ⟨u', hu', ?_, by rw [eA 11 (by decide) (by decide)]; exact ho1, hC24, ?_⟩
        · refine WB.more hW hm6 ?_ ?_ (eA 5 (by decide) (by decide)) (eP a 4) eU
          · rw [e6, h20]
          · rw [e7, h23, hh7]
        · intro x k hx hxu hxk
          obtain ⟨f1, f2⟩ := hF x k hx hxu hxk
          refine ⟨?_, by rw [eP]; exact f2⟩
          by_cases q : x = a
          · have n6 : k ≠ 6 := fun e => hxk ⟨q, by simp [e]⟩
            have n7 : k ≠ 7 := fun e => hxk ⟨q, by simp [e]⟩
            rw [q, eA k n6 n7, ← q]
            exact f1
          · rw [eO x k q]
            exact f1
    · obtain ⟨v, q1, q2, q3, q4, q5⟩ := h26
      obtain ⟨y1, y2⟩ := y26
      refine ok_app (ok_lt (ok_lt (ok_some ?_)))
      dsimp only
      refine ⟨by rw [List.append_nil], ⟨v, q1, ?_, by omega, by omega, q3, ?_, q5⟩, by omega⟩
      · rw [hm1]
        exact q2
      · exact q4
  · refine ⟨u, Or.inl rfl, ?_, by dsimp only; omega, by dsimp only; omega, ho, hC, fun x k _ _ _ => ⟨rfl, rfl⟩⟩
    dsimp only
    rw [show n + y2.toInt.toNat - fi = n by omega]
    have hq := h.xt []
    obtain ⟨w1, w2, w3, w4, w5, w6, w7, w8⟩ := hq
    refine ⟨w1, w2, w3, w4, ?_, ?_, hWf, w8⟩
    · rw [w5, pv_cong (f := f) (g := puts f n bb fi) (fun i _ hi => (puts_lt (by omega)).symm)]
    · intro j hj
      rw [w6 j hj, pv_cong (f := f) (g := puts f n bb fi) (fun i _ hi => (puts_lt (by omega)).symm)]
  · dsimp only
    omega
  · intro y3 h3
    obtain ⟨L3, k3, N⟩ := y3
    obtain ⟨v, q1, q2, q3, q4⟩ := h3
    refine ok_app (ok_lt (ok_chk (Or.inl rfl) (ok_lt (ok_lt (ok_some ?_)))))
    dsimp only at q2 q3 q4
    have hva : ¬ a = v := fun e => by
      have e1 := q2.1.2.2.2.2
      have e2 := q2.1.2.1
      rw [← e] at e1
      omega
    have hva2 : ¬ v = a := fun e => hva e.symm
    dsimp only
    rw [List.nil_append] at *
    rw [List.append_nil]
    obtain ⟨w1, w2, w3, w4, w5, w6, w7, w8⟩ := q2
    refine ⟨v, q1, ⟨w1, w2, ?_, ?_, ?_, fun j hj => ?_, w7, fun j => ?_⟩, ?_, ?_, q3, ?_⟩
    · rw [show (uI (uI N a 12 0) a 11 0).1 a 5 = N.1 a 5 by simp [uI]]; exact w3
    · rw [show (uI (uI N a 12 0) a 11 0).1 a 7 = N.1 a 7 by simp [uI]]; exact w4
    · rw [show (uI (uI N a 12 0) a 11 0).1 a 6 = N.1 a 6 by simp [uI]]; exact w5
    · rw [show (uI (uI N a 12 0) a 11 0).1 v (1 + j) = N.1 v (1 + j) by simp [uI, hva2]]; exact w6 j hj
    · rw [show (uI (uI N a 12 0) a 11 0).1 v j = N.1 v j by simp [uI, hva2]]; exact w8 j
    · simp [uI]
    · simp [uI]
    · intro x k hx hxu hxk
      have n11 : ¬ (x = a ∧ k = 11) := fun q => hxk ⟨q.1, by simp [q.2]⟩
      have n12 : ¬ (x = a ∧ k = 12) := fun q => hxk ⟨q.1, by simp [q.2]⟩
      obtain ⟨f1, f2⟩ := q4 x k hx hxu hxk
      refine ⟨?_, f2⟩
      rw [uI_n _ _ n11, uI_n _ _ n12]
      exact f1
