/-! Writer: a unit begins, a unit ends -/
/-- between units -/
def WI (G : GG) (M : DD) (a u t : Nat) (st : Nat → Nat) : Prop := (M.2 a 13 = some t ∧ t < G.1 ∧ G.2.1 t = 13 ∧ G.2.2 t = 272 ∧ (∀ i, i < 272 → (M.1 t i).toInt = st i)) ∧ (∀ i, st i < 126) ∧ Clo G M ∧ (a < G.1 ∧ G.2.1 a = 10 ∧ M.2 a 4 = some u ∧ u < G.1 ∧ G.2.1 u = 12) ∧ (4096 ≤ G.2.2 u ∧ G.2.2 u ≤ 300000) ∧ (∀ j, -128 ≤ (M.1 u j).toInt ∧ (M.1 u j).toInt ≤ 127)
theorem CW.wi {G : GG} {M : DD} {a u t : Nat} {f : Nat → Nat} {n : Nat} {S : SS} (h : CW G M a u t f n S) : WI G M a u t S.2.2.2.2.2 := by
  have w := h.wb
  exact ⟨h.1, h.2.1, h.2.2.1, w.1, ⟨w.2.1.1, w.2.1.2.1⟩, w.2.2.2.2.2.2.2⟩
theorem WI.ff {G : GG} {M N : DD} {a u t fr : Nat} {st : Nat → Nat} {L : NN} (h : WI G M a u t st) (f : FF G M a fr N) (hu : u ≠ fr) (hk : G.2.1 fr = 12) (hC : Clo (xt G L) N) : WI (xt G L) N a u t st := by
  obtain ⟨⟨h1, h2, h3, h4, h5⟩, h6, h7, ⟨h8, h9, h10, h11, h12⟩, h13, h14⟩ := h
  have htf : t ≠ fr := fun e => by rw [e] at h3; omega
  have haf : a ≠ fr := fun e => by rw [e] at h9; omega
  have hta : t ≠ a := fun e => by rw [e] at h3; omega
  have hua : u ≠ a := fun e => by rw [e] at h12; omega
  refine ⟨⟨?_, xt_lt L h2, by rw [xt_kk L h2]; exact h3, by rw [xt_nn L h2]; exact h4, ?_⟩, h6, hC, ⟨xt_lt L h8, by rw [xt_kk L h8]; exact h9, ?_, xt_lt L h11, by rw [xt_kk L h11]; exact h12⟩, by rw [xt_nn L h11]; exact h13, ?_⟩
  · rw [(f a 13 h8 haf (fun q => by omega)).2]; exact h1
  · intro i hi
    rw [(f t i h2 htf (fun q => hta q.1)).1]
    exact h5 i hi
  · rw [(f a 4 h8 haf (fun q => by omega)).2]; exact h10
  · intro j
    rw [(f u j h11 hu (fun q => hua q.1)).1]
    exact h14 j
theorem beginUnit_ok {G : GG} {M : DD} {a u t : Nat} {st : Nat → Nat} {p0 : Int32} (h : WI G M a u t st) : OK (FX10_beginUnit G M a p0) (fun y => CW G y a u t (fun _ => 0) 0 (0, 0, (0, 0, 0, st)) ∧ WY G M a u t y ∧ U0 G y a (y.1 u 0) ∧ (y.1 u 0).toInt % 256 = p0.toInt % 256) := by
  obtain ⟨⟨h1, h2, h3, h4, h5⟩, h6, h7, ⟨h8, h9, h10, h11, h12⟩, h13, h14⟩ := h
  have hta : t ≠ a := fun e => by rw [e] at h3; omega
  have hua : u ≠ a := fun e => by rw [e] at h12; omega
  have hut : u ≠ t := fun e => by rw [e] at h12; omega
  have z0 : ((0 : Int32)).toNatClampNeg = 0 := by decide
  unfold FX10_beginUnit
  refine ok_chk (by decide) (ok_ltt (fun M1 e1 => ok_chk (by decide) (ok_ltt (fun M2 e2 => ok_ltt (fun M3 e3 => ok_ltt (fun M4 e4 => ok_ltt (fun M5 e5 => ok_ltt (fun M6 e6 => ok_ltt (fun x7 e7 => ?_)))))))))
  have r6 : M6.2 = M.2 := by rw [e6, e5, e4, e3, e2, e1]; rfl
  refine ok_dr (by rw [r6]; exact h10) h11 h12 (ok_chk (nx tn_0 (by omega) (by omega)) (ok_ltt (fun M9 e9 => ok_some ?_)))
  rw [z0] at e9
  have i8 := pz_i8 p0
  have n6 : ∀ c k, ¬ (c = a ∧ (k = 5 ∨ k = 6 ∨ k = 7 ∨ k = 8 ∨ k = 11 ∨ k = 12)) → M6.1 c k = M.1 c k := by
    intro c k hc
    rw [e6, uI_n _ _ (fun q => hc (by omega)), e5, uI_n _ _ (fun q => hc (by omega)), e4, uI_n _ _ (fun q => hc (by omega)), e3, uI_n _ _ (fun q => hc (by omega)), e2, uI_n _ _ (fun q => hc (by omega)), e1, uI_n _ _ (fun q => hc (by omega))]
  have n9 : ∀ c k, ¬ (c = u ∧ k = 0) → M9.1 c k = M6.1 c k := fun c k hc => by rw [e9, uI_n _ _ hc]
  have a5 : M9.1 a 5 = 1 := by rw [n9 a 5 (fun q => hua q.1.symm), e6, uI_s]
  have a7 : M9.1 a 7 = 0 := by rw [n9 a 7 (fun q => hua q.1.symm), e6, uI_n _ _ (by omega), e5, uI_s]
  have a6 : M9.1 a 6 = 0 := by rw [n9 a 6 (fun q => hua q.1.symm), e6, uI_n _ _ (by omega), e5, uI_n _ _ (by omega), e4, uI_s]
  have a11 : M9.1 a 11 = 0 := by rw [n9 a 11 (fun q => hua q.1.symm), e6, uI_n _ _ (by omega), e5, uI_n _ _ (by omega), e4, uI_n _ _ (by omega), e3, uI_s]
  have a12 : M9.1 a 12 = 0 := by rw [n9 a 12 (fun q => hua q.1.symm), e6, uI_n _ _ (by omega), e5, uI_n _ _ (by omega), e4, uI_n _ _ (by omega), e3, uI_n _ _ (by omega), e2, uI_s]
  have a8 : M9.1 a 8 = 0 := by rw [n9 a 8 (fun q => hua q.1.symm), e6, uI_n _ _ (by omega), e5, uI_n _ _ (by omega), e4, uI_n _ _ (by omega), e3, uI_n _ _ (by omega), e2, uI_n _ _ (by omega), e1, uI_s]
  have u0 : M9.1 u 0 = vp_nar .byte (p0.toInt8.toInt32) := by rw [e9, uI_s, e7]
  have r9 : M9.2 = M.2 := by rw [e9]; exact r6
  have hb : ∀ j, -128 ≤ (M9.1 u j).toInt ∧ (M9.1 u j).toInt ≤ 127 := by
    intro j
    by_cases e : j = 0
    · rw [e, u0]; exact ⟨i8.2.1, i8.2.2⟩
    · rw [n9 u j (fun q => e q.2), n6 u j (fun q => hua q.1)]
      exact h14 j
  refine ⟨⟨⟨by rw [r9]; exact h1, h2, h3, h4, ?_⟩, h6, ?_, Or.inl ⟨rfl, rfl, ⟨⟨h8, h9, by rw [r9]; exact h10, h11, h12⟩, ⟨h13.1, h13.2, by omega⟩, by rw [a5]; rfl, by rw [a7]; rfl, by rw [a6]; rfl, fun j hj => by omega, fun _ => Nat.zero_le 1, hb⟩, by rw [a8]; rfl, by rw [a11]; rfl, by rw [a12]; rfl⟩⟩, ?_, ?_, ?_⟩
  · intro i hi
    rw [n9 t i (fun q => hut q.1.symm), n6 t i (fun q => hta q.1)]
    exact h5 i hi
  · intro x hx j b hb
    rw [r9] at hb
    exact h7 x hx j b hb
  · intro x k hx hxu hxt hxk
    refine ⟨?_, by rw [r9]⟩
    rw [n9 x k (fun q => hxu q.1), n6 x k (fun q => hxk ⟨q.1, by omega⟩)]
  · exact ⟨u, ⟨h8, h9⟩, ⟨by rw [r9]; exact h10, h11, h12⟩, ⟨by omega, by omega⟩, rfl, by rw [a5]; decide⟩
  · rw [u0]; exact i8.1
theorem BF.wy {G : GG} {M N : DD} {a u t fr : Nat} {B : List Nat} (L : NN) (h : BF G M a fr B) (w : WY G M a u t N) (hu : fr ≠ u) (ht : fr ≠ t) (hau : a ≠ u) (hat : a ≠ t) : BF (xt G L) N a fr B := by
  obtain ⟨⟨h1, h2, h3, h4, h5⟩, ⟨h6, h7, h8⟩, h9, h10, h11, h12⟩ := h
  have hfa : fr ≠ a := fun e => by rw [e] at h5; omega
  have kf : ∀ k, N.1 fr k = M.1 fr k := fun k => (w fr k h4 hu ht (fun q => hfa q.1)).1
  refine ⟨⟨xt_lt L h1, by rw [xt_kk L h1]; exact h2, ?_, xt_lt L h4, by rw [xt_kk L h4]; exact h5⟩, by rw [xt_nn L h4]; exact ⟨h6, h7, h8⟩, ?_, ?_, h11, ?_⟩
  · rw [(w a 0 h1 hau hat (fun q => by omega)).2]; exact h3
  · rw [(w a 1 h1 hau hat (fun q => by omega)).1]; exact h9
  · intro i x hx
    rw [kf]; exact h10 i x hx
  · intro k
    rw [kf]; exact h12 k
