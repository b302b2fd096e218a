/-! a unit of raw bits, read -/
def upv (v : Nat → Int) (k : Nat) (a : Int) : Nat → Int := fun j => if j = k then a else v j
/-- what the reader of raw bits leaves as it stood; row w is the one that is filled -/
def RDF (M0 : DD) (w : Nat) (N : DD) : Prop := N.2 = M0.2 ∧ ∀ x k, x ≠ 14 → x ≠ 15 → x ≠ w → ¬ (x = 13 ∧ (k = 2 ∨ k = 4 ∨ k = 5 ∨ k = 8 ∨ k = 9 ∨ k = 12)) → N.1 x k = M0.1 x k
def RDU (G : GG) (M0 : DD) (d : Nat) (f : Nat → Nat) (T w n : Nat) (v : Nat → Int) (D : List Tok) (N : DD) : Prop := ∃ S : SS, S.1 = 0 ∧ RD G N 13 d 14 f T S ∧ RE G N 13 15 14 S ∧ VT f T D S ∧ RDF M0 w N ∧ (∀ k, k < n → (N.1 w k).toInt = v k)
theorem rdf_ry {M0 N O : DD} {w : Nat} (h : RDF M0 w N) (g : RY N 13 14 15 O) : RDF M0 w O := ⟨g.1.trans h.1, fun x k h1 h2 h3 h4 => (g.2 x k h1 h2 h4).trans (h.2 x k h1 h2 h3 h4)⟩
theorem rdu_step {G : GG} {M0 N O : DD} {d : Nat} {f : Nat → Nat} {T w n : Nat} {v : Nat → Int} {D : List Tok} {S : SS} (hw : w ≠ 13 ∧ w ≠ 14 ∧ w ≠ 15) (e : S.1 = 0) (h1 : RD G O 13 d 14 f T S) (h2 : RE G O 13 15 14 S) (h3 : VT f T D S) (h4 : RDF M0 w N) (h5 : ∀ k, k < n → (N.1 w k).toInt = v k) (g : RY N 13 14 15 O) : RDU G M0 d f T w n v D O :=
  ⟨S, e, h1, h2, h3, rdf_ry h4 g, fun k hk => by rw [g.2 w k hw.2.1 hw.2.2 (fun q => hw.1 q.1)]; exact h5 k hk⟩
theorem rd_ne {G : GG} {N : DD} {d : Nat} {f : Nat → Nat} {T : Nat} {S S2 : SS} (h : RD G N 13 d 14 f T S) (g : RE G N 13 15 14 S2) : (15 : Nat) ≠ d := fun q => by
  have h1 := h.1.2.2.2.2.1
  have h2 := g.2.2.1
  rw [← q] at h1
  omega
theorem rdu_fixed {G : GG} {M0 N : DD} {d : Nat} {f : Nat → Nat} {T w n : Nat} {v : Nat → Int} {D : List Tok} {V m : Nat} {p0 p1 : Int32} (h : RDU G M0 d f T w n v (toks 0 V m ++ D) N) (hw : w ≠ 13 ∧ w ≠ 14 ∧ w ≠ 15) (he : p0.toInt = 0) (hm : p1.toInt = m) (h1 : 1 ≤ m) (h2 : m ≤ 30) (hV : V < 2 ^ m) : OK (FX5_fixed G N 13 p0 p1) (fun y => y.2.toInt = V ∧ RDU G M0 d f T w n v D y.1) := by
  obtain ⟨S, e, a1, a2, a3, a4, a5⟩ := h
  refine (fixed_ok (e := 0) a1 a2 (rd_ne a1 a2) a3 (Nat.le_trans (VT.skip a3).2 a1.1.2.2.2.2.2.2.2) he (by decide) hm h1 h2 hV).mono ?_
  rintro y ⟨b1, b2, b3, b4, b5⟩
  exact ⟨b1, rdu_step hw (by rw [runs0 _ _ (all0_toks _ _ _) e]) b2 b3 b4 a4 a5 b5⟩
theorem rdu_expect {G : GG} {M0 N : DD} {d : Nat} {f : Nat → Nat} {T w n : Nat} {v : Nat → Int} {D : List Tok} {V : Nat} {p0 : Int32} (h : RDU G M0 d f T w n v (toks 0 V 1 ++ D) N) (hw : w ≠ 13 ∧ w ≠ 14 ∧ w ≠ 15) (hp : p0.toInt = V) (hV : V < 2) : OK (FX5_expect G N 13 p0) (fun y => RDU G M0 d f T w n v D y) := by
  unfold FX5_expect
  refine ok_bnd (rdu_fixed h hw rfl rfl (by decide) (by decide) hV) ?_
  rintro y ⟨h1, h2⟩
  rw [if_pos (show y.2 = p0 from Int32.toInt_inj.1 (h1.trans hp.symm))]
  exact ok_bnd (Q := fun y => RDU G M0 d f T w n v D y) (ok_some h2) (fun x hx => ok_some hx)
theorem ok_drR {G : GG} {M0 N : DD} {d : Nat} {f : Nat → Nat} {T w n : Nat} {v : Nat → Int} {D : List Tok} (h : RDU G M0 d f T w n v D N) (hK : GK G M0) {α : Type} {κ a g b : Nat} {k : Nat → Option α} {P : α → Prop} (hf : fT a g = b) (hb : 0 < b ∧ b < 222) (hk : kdL.getD b 0 = κ) (hh : OK (k b) P) : OK (dr G κ (N.2 a g) k) P := by
  obtain ⟨S, e, a1, a2, a3, a4, a5⟩ := h
  refine ok_dr (b := b) ?_ (by have := hK.1; omega) (gk_k hK hb.2 hk) hh
  rw [a4.1]
  exact (hK.2.2 a g (by rw [hf]; exact hb.1)).trans (by rw [hf])
theorem ok_drM {G : GG} {M0 : DD} (hK : GK G M0) {α : Type} {κ a g b : Nat} {k : Nat → Option α} {P : α → Prop} (hf : fT a g = b) (hb : 0 < b ∧ b < 222) (hk : kdL.getD b 0 = κ) (hh : OK (k b) P) : OK (dr G κ (M0.2 a g) k) P :=
  ok_dr (b := b) ((hK.2.2 a g (by rw [hf]; exact hb.1)).trans (by rw [hf])) (by have := hK.1; omega) (gk_k hK hb.2 hk) hh
theorem gk_len {G : GG} {M0 : DD} (hK : GK G M0) {b n : Nat} (hb : b < 222) (hn : lnL.getD b 0 = n) : G.2.2 b = n := (hK.2.1 b hb).2.trans hn
theorem rdu_uns {G : GG} {M0 N : DD} {d : Nat} {f : Nat → Nat} {T w n : Nat} {v : Nat → Int} {D : List Tok} {x : Nat} {p0 : Int32} (h : RDU G M0 d f T w n v (ueT 0 x ++ D) N) (hK : GK G M0) (hw : w ≠ 13 ∧ w ≠ 14 ∧ w ≠ 15) (hx : x < 1000000000) (hp : (x : Int) ≤ p0.toInt) : OK (FX1_unsigned G N 12 p0) (fun y => y.2.toInt = x ∧ RDU G M0 d f T w n v D y.1) := by
  have h0 := h
  obtain ⟨S, e, a1, a2, a3, a4, a5⟩ := h
  unfold FX1_unsigned
  refine ok_ltt (fun x1 e1 => ?_)
  refine ok_drR h0 hK rfl (by decide) rfl ?_
  have e3 : x1.toInt = p0.toInt := by rw [e1, Int32.toInt_toInt64]
  refine ok_bnd (number_ok (e := 0) (kind := 0) a1 a2 (rd_ne a1 a2) a3 (Nat.le_trans (VT.skip a3).2 a1.1.2.2.2.2.2.2.2) rfl (by decide) hx rfl (fun q => absurd q (by decide)) ?_ ?_) ?_
  · show (0 : Int64).toInt ≤ (x : Int)
    have : (0 : Int64).toInt = 0 := rfl
    omega
  · rw [e3]; exact hp
  rintro y ⟨b1, b2, b3, b4, b5⟩
  exact ok_some ⟨b1, rdu_step hw (by unfold ueT; rw [runs0 _ _ (all0_toks _ _ _) e]) b2 b3 b4 a4 a5 b5⟩
theorem rdu_sig {G : GG} {M0 N : DD} {d : Nat} {f : Nat → Nat} {T w n : Nat} {v : Nat → Int} {D : List Tok} {x : Int} {p0 p1 : Int32} (h : RDU G M0 d f T w n v (ueT 0 (sei x) ++ D) N) (hK : GK G M0) (hw : w ≠ 13 ∧ w ≠ 14 ∧ w ≠ 15) (h1 : p0.toInt ≤ x) (h2 : x ≤ p1.toInt) (h3 : -400000000 < x) (h4 : x < 400000000) : OK (FX1_signed G N 12 p0 p1) (fun y => y.2.toInt = x ∧ RDU G M0 d f T w n v D y.1) := by
  have h0 := h
  obtain ⟨S, e, a1, a2, a3, a4, a5⟩ := h
  unfold FX1_signed
  refine ok_ltt (fun x1 e1 => ok_ltt (fun x2 e2 => ?_))
  refine ok_drR h0 hK rfl (by decide) rfl ?_
  have e3 : x1.toInt = p0.toInt := by rw [e1, Int32.toInt_toInt64]
  have e4 : x2.toInt = p1.toInt := by rw [e2, Int32.toInt_toInt64]
  refine ok_bnd (number_ok (e := 0) (kind := 1) a1 a2 (rd_ne a1 a2) a3 (Nat.le_trans (VT.skip a3).2 a1.1.2.2.2.2.2.2.2) rfl (by decide) (sei_lt h3 h4) rfl (fun q => absurd q (by decide)) ?_ ?_) ?_
  · rw [numV_sei, e3]; exact h1
  · rw [numV_sei, e4]; exact h2
  rintro y ⟨b1, b2, b3, b4, b5⟩
  rw [numV_sei] at b1
  exact ok_some ⟨b1, rdu_step hw (by unfold ueT; rw [runs0 _ _ (all0_toks _ _ _) e]) b2 b3 b4 a4 a5 b5⟩
theorem rdu_w {G : GG} {M0 N : DD} {d : Nat} {f : Nat → Nat} {T w n : Nat} {v : Nat → Int} {D : List Tok} {k : Nat} {x : Int32} {a : Int} (h : RDU G M0 d f T w n v D N) (hw : w ≠ 13 ∧ w ≠ 14 ∧ w ≠ 15) (hd : w ≠ d) (hx : x.toInt = a) : RDU G M0 d f T w n (upv v k a) D (uI N w k x) := by
  obtain ⟨S, e, a1, a2, a3, a4, a5⟩ := h
  have hne : ∀ y j, y ≠ w → (uI N w k x).1 y j = N.1 y j := fun y j q => uI_n N x (fun z => q z.1)
  refine ⟨S, e, a1.by rfl ?_, a2.by rfl (hne _ _ hw.1.symm) (hne _ _ hw.1.symm) (Nat.le_refl _) (fun q => q), a3, ⟨a4.1, fun y j q1 q2 q3 q4 => (hne y j q3).trans (a4.2 y j q1 q2 q3 q4)⟩, ?_⟩
  · intro y j q
    rcases q with q | q | q
    · exact hne y j (by rw [q.1]; exact hw.1.symm)
    · exact hne y j (by rw [q]; exact hd.symm)
    · exact hne y j (by rw [q]; exact hw.2.1.symm)
  · intro j hj
    unfold upv
    by_cases q : j = k
    · rw [if_pos q, q, uI_s]; exact hx
    · rw [if_neg q, uI_n N x (fun z => q z.2)]
      exact a5 j hj
theorem rdu_r {G : GG} {M0 N : DD} {d : Nat} {f : Nat → Nat} {T w n : Nat} {v : Nat → Int} {D : List Tok} {k : Nat} (h : RDU G M0 d f T w n v D N) (hk : k < n) : (N.1 w k).toInt = v k := by
  obtain ⟨S, e, a1, a2, a3, a4, a5⟩ := h
  exact a5 k hk
/-- where a unit begins to be read -/
theorem rdu_st {G : GG} {M0 : DD} {d : Nat} {f : Nat → Nat} {T w : Nat} {D : List Tok} {S : SS} (e : S.1 = 0) (h1 : RD G M0 13 d 14 f T S) (h2 : RE G M0 13 15 14 S) (h3 : VT f T D S) : RDU G M0 d f T w 0 (fun _ => 0) D M0 := ⟨S, e, h1, h2, h3, ⟨rfl, fun _ _ _ _ _ _ => rfl⟩, fun k hk => absurd hk (Nat.not_lt_zero k)⟩
theorem rdu_fill {G : GG} {M0 N : DD} {d : Nat} {f : Nat → Nat} {T w n : Nat} {v : Nat → Int} {D : List Tok} {p0 : Int32} (h : RDU G M0 d f T w n v D N) (hw : w ≠ 13 ∧ w ≠ 14 ∧ w ≠ 15) (hd : w ≠ d) (hwG : w < G.1) (hk : G.2.1 w = 13) (hl : G.2.2 w ≤ 900000) {o : Option Nat} (ho : o = some w) (hp : p0.toInt = 0) : OK (FJ7_fill_53178 G N o p0) (fun y => RDU G M0 d f T w (G.2.2 w) (fun _ => 0) D y) := by
  subst ho
  obtain ⟨S, e, a1, a2, a3, a4, a5⟩ := h
  refine (fillA_ok hwG hk hl).mono ?_
  rintro y ⟨b1, b2, b3, b4⟩
  refine ⟨S, e, a1.by b1 ?_, a2.by b1 (b2 _ _ hw.1.symm) (b2 _ _ hw.1.symm) (Nat.le_refl _) (fun q => q), a3, ⟨b1.trans a4.1, fun x j q1 q2 q3 q4 => (b2 x j q3).trans (a4.2 x j q1 q2 q3 q4)⟩, ?_⟩
  · intro x j q
    rcases q with q | q | q
    · exact b2 x j (by rw [q.1]; exact hw.1.symm)
    · exact b2 x j (by rw [q]; exact hd.symm)
    · exact b2 x j (by rw [q]; exact hw.2.1.symm)
  · intro j hj
    rw [b3 j hj]; exact hp
/-- the row is kept under its number -/
def RDK (G : GG) (M0 : DD) (d : Nat) (f : Nat → Nat) (T w w2 n : Nat) (v : Nat → Int) (D : List Tok) (N : DD) : Prop := (∃ S : SS, S.1 = 0 ∧ RD G N 13 d 14 f T S ∧ RE G N 13 15 14 S ∧ VT f T D S) ∧ N.2 = M0.2 ∧ (∀ x k, x ≠ 14 → x ≠ 15 → x ≠ w → x ≠ w2 → ¬ (x = 13 ∧ (k = 2 ∨ k = 4 ∨ k = 5 ∨ k = 8 ∨ k = 9 ∨ k = 12)) → N.1 x k = M0.1 x k) ∧ (∀ k, k < n → (N.1 w2 k).toInt = v k)
theorem rdu_keep {G : GG} {M0 N : DD} {d : Nat} {f : Nat → Nat} {T w w2 n : Nat} {v : Nat → Int} {D : List Tok} {g : Nat → Int32} (h : RDU G M0 d f T w n v D N) (hw : w2 ≠ 13 ∧ w2 ≠ 14 ∧ w2 ≠ 15 ∧ w2 ≠ w) (hd : w2 ≠ d) (hg : ∀ k, k < n → g k = N.1 w k) : RDK G M0 d f T w w2 n v D (rI N w2 g) := by
  obtain ⟨S, e, a1, a2, a3, a4, a5⟩ := h
  have hne : ∀ y j, y ≠ w2 → (rI N w2 g).1 y j = N.1 y j := fun y j q => rI_n g j q
  refine ⟨⟨S, e, a1.by rfl ?_, a2.by rfl (hne _ _ hw.1.symm) (hne _ _ hw.1.symm) (Nat.le_refl _) (fun q => q), a3⟩, a4.1, fun y j q1 q2 q3 q4 q5 => (hne y j q4).trans (a4.2 y j q1 q2 q3 q5), ?_⟩
  · intro y j q
    rcases q with q | q | q
    · exact hne y j (by rw [q.1]; exact hw.1.symm)
    · exact hne y j (by rw [q]; exact hd.symm)
    · exact hne y j (by rw [q]; exact hw.2.1.symm)
  · intro j hj
    rw [rI_s, hg j hj]; exact a5 j hj
