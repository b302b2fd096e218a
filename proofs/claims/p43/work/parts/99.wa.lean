/-! the header of a slice, written: what its pieces want -/
theorem okd_sm {G : GG} {b : Nat} (h : b < G.1) : okd G (some b) = true := by simp [okd, h]
theorem wu_ref {G : GG} {M N : DD} {u fr : Nat} {st : Nat → Nat} {B : List Nat} {c : Nat} {D : List Tok} {L : NN} (h : WU G M u fr st B c D L N) {a f b : Nat} (ha : a < 222 ∧ a ≠ 119 ∧ a ≠ 122) (hka : (kdL.getD a 0 == 12) = false) (hf : fT a f = b) (hb : 0 < b) : N.2 a f = some b := by
  have hK := h.2.2.2.1
  rw [(wu_keep h (x := a) (by have := hK.1; omega) (by rw [gk_k hK ha.1 rfl]; intro q; rw [q] at hka; simp at hka) ha.2.1 ha.2.2 f).2]
  exact (hK.2.2 a f (by rw [hf]; exact hb)).trans (by rw [hf])
theorem wu_lt {G : GG} {M N : DD} {u fr : Nat} {st : Nat → Nat} {B : List Nat} {c : Nat} {D : List Tok} {L : NN} (h : WU G M u fr st B c D L N) {b : Nat} (hb : b < 222) (L2 : NN) : b < (xt G L2).1 := by
  have := h.2.2.2.1.1
  exact Nat.lt_of_lt_of_le (by omega) (xt_ge G L2)
theorem wv_le {G : GG} {M N : DD} {u fr : Nat} {st : Nat → Nat} {B : List Nat} {c n m : Nat} {D : List Tok} {L : NN} (h : WV G M u fr st B c D n L N) (hm : n ≤ m) : WV G M u fr st B c D m L N := ⟨h.1, h.2.1, by have := h.2.2; omega⟩
theorem wv_isOwn {G : GG} {M N : DD} {u fr : Nat} {st : Nat → Nat} {B : List Nat} {c n : Nat} {D : List Tok} {L : NN} (h : WV G M u fr st B c D n L N) {t : Int} (g : (M.1 216 18).toInt = t) {r : Int} (hr : r = if t = 5 then 1 else 0) : OK (FX3_isOwn (xt G L) N 215) (fun y => y.1 = N ∧ y.2.toInt = r) := by
  unfold FX3_isOwn
  refine ok_drW (b := 216) h.1 (by decide) rfl rfl (by decide) rfl ?_
  refine ok_chk (by rw [wu_len h.1 (b := 216) (by decide) rfl]; decide) ?_
  refine ok_ltt (fun x ex => ?_)
  have vx : x.toInt = t := by rw [ex]; exact (congrArg Int32.toInt (wu_rd h.1 (by decide) rfl 18)).trans g
  refine ok_bnd (Q := fun y => (y = 0 ∨ y = 1) ∧ y.toInt = r) (ok_if (fun hc => ok_some ⟨Or.inr rfl, ?_⟩) (fun hc => ok_some ⟨Or.inl rfl, ?_⟩)) ?_
  · have q : t = 5 := vx.symm.trans ((congrArg Int32.toInt hc).trans rfl)
    rw [hr, if_pos q]; rfl
  · rw [hr, if_neg (fun q => hc (Int32.toInt_inj.1 (vx.trans (q.trans rfl))))]; rfl
  · rintro y ⟨h1, h2⟩
    exact ok_chk h1 (ok_some ⟨rfl, h2⟩)
theorem wu_data {G : GG} {M N : DD} {u fr : Nat} {st : Nat → Nat} {B : List Nat} {c : Nat} {D : List Tok} {L : NN} (h : WU G M u fr st B c D L N) (h0 : (runs D (SU st)).1 = 0) (hn : (runs D (SU st)).2.1 ≤ 700000) : OK (FX10_beginData (xt G L) N 119) (fun y => WU G M u fr st B c (D ++ dataT (runs D (SU st)).2.1) (L ++ y.1) y.2) :=
  wu_step h (fun _ _ hW => wt_step hW (fun _ _ _ hC => beginData_ok hC h0 hn) (fun hU => pc_beginData hU))
theorem wv_data {G : GG} {M N : DD} {u fr : Nat} {st : Nat → Nat} {B : List Nat} {c n : Nat} {D : List Tok} {L : NN} (h : WV G M u fr st B c D n L N) (hn : n ≤ 500000) : OK (FX10_beginData (xt G L) N 119) (fun y => WU G M u fr st B c (D ++ dataT D.length) (L ++ y.1) y.2) := by
  have e := wv_runs h
  have hl := h.2.2
  have g := wu_data h.1 (by rw [e]) (by rw [e]; show D.length ≤ 700000; omega)
  rw [e] at g
  exact g
