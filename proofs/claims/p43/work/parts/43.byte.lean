/-! Writer: the file's bytes -/
def BF (G : GG) (M : DD) (a fr : Nat) (B : List Nat) : Prop :=
  (a < G.1 ∧ G.2.1 a = 10 ∧ M.2 a 0 = some fr ∧ fr < G.1 ∧ G.2.1 fr = 12) ∧ (1 ≤ G.2.2 fr ∧ G.2.2 fr ≤ 1000000 ∧ B.length ≤ G.2.2 fr) ∧ (M.1 a 1).toInt = B.length ∧ (∀ (i x : Nat), B[i]? = some x → (M.1 fr i).toInt % 256 = (x : Int)) ∧ (∀ x, x ∈ B → x < 256) ∧ (∀ k, -128 ≤ (M.1 fr k).toInt ∧ (M.1 fr k).toInt ≤ 127)
/-- what else stands as it stood -/
def FF (G : GG) (M : DD) (a fr : Nat) (N : DD) : Prop := ∀ x k, x < G.1 → x ≠ fr → ¬ (x = a ∧ (k = 0 ∨ k = 1)) → N.1 x k = M.1 x k ∧ N.2 x k = M.2 x k
theorem FF.rf (G : GG) (M : DD) (a fr : Nat) : FF G M a fr M := fun _ _ _ _ _ => ⟨rfl, rfl⟩
theorem FF.tr {G : GG} {M N O : DD} {a u v : Nat} {L : NN} (h : FF G M a u N) (hv : v = u ∨ G.1 ≤ v) (h2 : FF (xt G L) N a v O) : FF G M a u O := by
  intro x j hx hu hj
  obtain ⟨q1, q2⟩ := h x j hx hu hj
  have hxv : x ≠ v := fun e => by
    rcases hv with q | q
    · exact hu (e.trans q)
    · omega
  obtain ⟨r1, r2⟩ := h2 x j (xt_lt L hx) hxv hj
  exact ⟨r1.trans q1, r2.trans q2⟩
theorem BF.ne {G : GG} {M : DD} {a u : Nat} {B : List Nat} (h : BF G M a u B) : u ≠ a := fun e => by
  have e1 := h.1.2.2.2.2
  have e2 := h.1.2.1
  rw [e] at e1
  omega
set_option maxHeartbeats 4000000 in
theorem putByte_ok {G : GG} {M : DD} {a fr x : Nat} {B : List Nat} {p0 : Int32} (h : BF G M a fr B) (hC : Clo G M) (hB : B.length ≤ 400000) (hp : p0.toInt % 256 = x) : OK (FX10_putByte G M a p0) (fun y => ∃ v, (v = fr ∨ G.1 ≤ v) ∧ BF (xt G y.1) y.2 a v (B ++ [x]) ∧ Clo (xt G y.1) y.2 ∧ FF G M a fr y.2) := by
  have e1 : (1 : Int32).toInt = 1 := rfl
  have e2 : (2 : Int32).toInt = 2 := rfl
  have hne := h.ne
  have hn := h
  obtain ⟨⟨b1, b2, b3, b4, b5⟩, ⟨b6, b7, b8⟩, b9, b10, b11, b12⟩ := h
  unfold FX10_putByte
  refine ok_lt (ok_dr (b := fr) b3 (xt_lt [] b4) ((xt_kk [] b4).trans b5) (ok_lt ?_))
  rw [xt_nn [] b4]
  have hx3 : (Int32.ofNat (G.2.2 fr)).toInt = G.2.2 fr := pz_ofn (by omega)
  generalize Int32.ofNat (G.2.2 fr) = x3 at hx3
  refine ok_bnd (Q := fun y : NN × DD => ∃ v, (v = fr ∨ G.1 ≤ v) ∧ (v < (xt G y.1).1 ∧ (xt G y.1).2.1 v = 12) ∧ (1 ≤ (xt G y.1).2.2 v ∧ (xt G y.1).2.2 v ≤ 1000000 ∧ B.length + 1 ≤ (xt G y.1).2.2 v) ∧ y.2.2 a 0 = some v ∧ (y.2.1 a 1).toInt = B.length ∧ (∀ (i z : Nat), B[i]? = some z → (y.2.1 v i).toInt % 256 = (z : Int)) ∧ (∀ j, -128 ≤ (y.2.1 v j).toInt ∧ (y.2.1 v j).toInt ≤ 127) ∧ Clo (xt G y.1) y.2 ∧ FF G M a fr y.2) (ok_if (fun c => ok_some ?_) (fun c => ?_)) (fun y4 hy4 => ok_app (ok_lt (ok_lt (ok_lt (ok_lt (ok_lt ?_))))))
  · have := pz_lt.mp c
    exact ⟨fr, Or.inl rfl, ⟨xt_lt [] b4, (xt_kk [] b4).trans b5⟩, by dsimp only; rw [xt_nn [] b4]; omega, b3, b9, b10, b12, hC, FF.rf _ _ _ _⟩
  · have c4 : ¬ (M.1 a 1).toInt < x3.toInt := fun q => c (pz_lt.mpr q)
    refine ok_lt (ok_lt ?_)
    have hx17 : ((2 : Int32) * x3).toInt = 2 * G.2.2 fr := by
      rw [pz_mulc e2 (by omega) (by omega), hx3]
    generalize (2 : Int32) * x3 = x17 at hx17
    have hC0 : Clo (xt G []) M := hC
    refine ok_bnd (copyOf_ok (xt_lt [] b4) ((xt_kk [] b4).trans b5) (by rw [xt_nn [] b4]; omega) (by omega) hC0 b12) (fun y18 h18 => ?_)
    obtain ⟨z1, z2, z3⟩ := y18
    obtain ⟨p1, p2, p3, p4, p5, p6⟩ := h18
    dsimp only at p1 p2 p3 p4 p5 p6
    subst p1
    subst p2
    rw [xt_nn [] b4] at p3 p4
    refine ok_app (ok_lt (ok_lt (ok_some ?_)))
    dsimp only
    rw [List.append_nil]
    have ek := kind_new G [] 12 x17.toInt.toNat
    have eg : (xt (xt G []) [(12, x17.toInt.toNat)]) = xt G ([] ++ [(12, x17.toInt.toNat)]) := xt_xt G [] _
    rw [eg] at p6
    rw [List.nil_append] at ek p6
    have ecn := cnt_new G [] (12, x17.toInt.toNat)
    rw [List.nil_append] at ecn
    refine ⟨(xt G []).1, Or.inr (Nat.le_refl _), ⟨ecn, ek.1⟩, ?_, uP_s _ _ _ _, ?_, fun i z hz => ?_, fun j => ?_, p6.uP a 0 (fun b hb => by cases hb; exact ecn), fun x k hx hxu hk => ?_⟩
    · rw [ek.2]
      omega
    · rw [uP_i, (p5 a 1 (xt_lt [] b1)).1]
      exact b9
    · obtain ⟨hi, -⟩ := List.getElem?_eq_some_iff.mp hz
      rw [uP_i, p3 i (by omega)]
      exact b10 i z hz
    · rw [uP_i]
      by_cases q : j < G.2.2 fr
      · rw [p3 j q]
        exact b12 j
      · rw [p4 j (by omega)]
        exact ⟨by decide, by decide⟩
    · obtain ⟨r1, r2⟩ := p5 x k (xt_lt [] hx)
      exact ⟨by rw [uP_i]; exact r1, by rw [uP_n _ _ (fun q => hk ⟨q.1, Or.inl q.2⟩)]; exact r2⟩
  · obtain ⟨L6, N⟩ := y4
    obtain ⟨v, v1, ⟨v2, v3⟩, ⟨v4, v5, v6⟩, v7, v8, v9, v10, v11, v12⟩ := hy4
    dsimp only at v2 v3 v4 v5 v6 v7 v8 v9 v10 v11 v12 ⊢
    rw [List.nil_append]
    have hva : v ≠ a := fun q => by
      rcases v1 with w | w
      · exact hne (w.symm.trans q)
      · omega
    have hnn : (N.1 a 1).toNatClampNeg = B.length := by
      have := pz_nat (x := N.1 a 1) (by omega)
      omega
    refine ok_dr (b := v) v7 v2 v3 (ok_chk (pz_ix (by omega) (by omega)) (ok_lt (ok_some ?_)))
    rw [hnn]
    dsimp only
    rw [List.append_nil]
    obtain ⟨g1, g2, g3⟩ := pz_i8 p0
    have hup : ∀ z k, (uI (uI N a 1 (N.1 a 1 + (1 : Int32))) v B.length (vp_nar .byte p0.toInt8.toInt32)).2 z k = N.2 z k := fun _ _ => rfl
    have hu1 : ∀ z k, ¬ (z = a ∧ k = 1) → ¬ (z = v ∧ k = B.length) → (uI (uI N a 1 (N.1 a 1 + (1 : Int32))) v B.length (vp_nar .byte p0.toInt8.toInt32)).1 z k = N.1 z k := fun z k h1 h2 => by
      rw [uI_n _ _ h2, uI_n _ _ h1]
    have hu2 : (uI (uI N a 1 (N.1 a 1 + (1 : Int32))) v B.length (vp_nar .byte p0.toInt8.toInt32)).1 v B.length = vp_nar .byte p0.toInt8.toInt32 := uI_s _ _ _ _
    have hu3 : (uI (uI N a 1 (N.1 a 1 + (1 : Int32))) v B.length (vp_nar .byte p0.toInt8.toInt32)).1 a 1 = N.1 a 1 + (1 : Int32) := by
      rw [uI_n _ _ (fun q => hva q.1.symm), uI_s]
    have hcl : Clo (xt G L6) (uI (uI N a 1 (N.1 a 1 + (1 : Int32))) v B.length (vp_nar .byte p0.toInt8.toInt32)) := v11
    generalize uI (uI N a 1 (N.1 a 1 + (1 : Int32))) v B.length (vp_nar .byte p0.toInt8.toInt32) = O at hup hu1 hu2 hu3 hcl
    refine ⟨v, v1, ⟨⟨xt_lt _ b1, (xt_kk _ b1).trans b2, (hup a 0).trans v7, v2, v3⟩, ⟨v4, v5, by rw [List.length_append]; exact v6⟩, ?_, fun i z hz => ?_, fun z hz => ?_, fun k => ?_⟩, hcl, fun z k hz hzf hk => ?_⟩
    · rw [hu3, ti_add (by omega) (by omega), v8, e1, List.length_append]
      rfl
    · by_cases q : i < B.length
      · rw [List.getElem?_append_left q] at hz
        rw [hu1 v i (fun w => hva w.1) (fun w => by omega)]
        exact v9 i z hz
      · rw [List.getElem?_append_right (by omega)] at hz
        obtain ⟨hi, hz2⟩ := List.getElem?_eq_some_iff.mp hz
        have hi : i - B.length < 1 := hi
        have : i = B.length := by omega
        subst this
        rw [hu2, g1, hp]
        have : x = z := by simpa using hz
        rw [this]
    · rcases List.mem_append.mp hz with w | w
      · exact b11 z w
      · have : z = x := by simpa using w
        omega
    · by_cases q : k = B.length
      · subst q
        rw [hu2]
        exact ⟨g2, g3⟩
      · rw [hu1 v k (fun w => hva w.1) (fun w => q w.2)]
        exact v10 k
    · have hzv : z ≠ v := fun q => by
        rcases v1 with w | w
        · exact hzf (q.trans w)
        · omega
      obtain ⟨r1, r2⟩ := v12 z k hz hzf hk
      exact ⟨(hu1 z k (fun w => hk ⟨w.1, Or.inr w.2⟩) (fun w => hzv w.1)).trans r1, (hup z k).trans r2⟩
