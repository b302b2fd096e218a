/-! the header of a slice, read: where its row lies -/
def HH (M0 : DD) (hd : Nat) : Prop := M0.2 12 10 = some hd ∧ (hd = 100 ∨ hd = 105 ∨ hd = 110)
theorem ok_drH {G : GG} {M0 N : DD} {d hd : Nat} {f : Nat → Nat} {T w n : Nat} {v : Nat → Int} {D : List Tok} (h : RDU G M0 d f T w n v D N) (hK : GK G M0) (hh : HH M0 hd) {α : Type} {k : Nat → Option α} {P : α → Prop} (g : OK (k hd) P) : OK (dr G 3 (N.2 12 10) k) P := by
  obtain ⟨S, e, a1, a2, a3, a4, a5⟩ := h
  have hk := hK.1
  refine ok_dr (b := hd) (by rw [a4.1]; exact hh.1) ?_ ?_ g
  · rcases hh.2 with q | q | q <;> omega
  · rcases hh.2 with q | q | q <;> rw [q] <;> exact gk_k hK (by decide) rfl
theorem ok_drHM {G : GG} {M0 : DD} {hd : Nat} (hK : GK G M0) (hh : HH M0 hd) {α : Type} {k : Nat → Option α} {P : α → Prop} (g : OK (k (hd + 1)) P) : OK (dr G 13 (M0.2 hd 0) k) P := by
  have hk := hK.1
  refine ok_dr (b := hd + 1) ?_ ?_ ?_ g
  · rcases hh.2 with q | q | q <;> rw [q] <;> exact (hK.2.2 _ 0 (by decide)).trans rfl
  · rcases hh.2 with q | q | q <;> omega
  · rcases hh.2 with q | q | q <;> rw [q] <;> exact gk_k hK (by decide) rfl
theorem ok_drHW {G : GG} {M0 N : DD} {d hd : Nat} {f : Nat → Nat} {T w n : Nat} {v : Nat → Int} {D : List Tok} (h : RDU G M0 d f T w n v D N) (hK : GK G M0) (hh : HH M0 hd) {α : Type} {k : Nat → Option α} {P : α → Prop} (g : OK (k (hd + 1)) P) : OK (dr G 13 (N.2 hd 0) k) P := by
  obtain ⟨S, e, a1, a2, a3, a4, a5⟩ := h
  rw [a4.1]
  exact ok_drHM hK hh g
theorem hh_len {G : GG} {M0 : DD} {hd : Nat} (hK : GK G M0) (hh : HH M0 hd) : G.2.2 (hd + 1) = 27 := by
  rcases hh.2 with q | q | q <;> rw [q] <;> exact gk_len hK (by decide) rfl
theorem hh_w {M0 : DD} {hd : Nat} (hh : HH M0 hd) : hd + 1 ≠ 13 ∧ hd + 1 ≠ 14 ∧ hd + 1 ≠ 15 := by
  rcases hh.2 with q | q | q <;> omega
theorem ok_drK {G : GG} {M0 : DD} (hK : GK G M0) {α : Type} {κ b : Nat} {k : Nat → Option α} {P : α → Prop} (hb : b < 222) (hk : kdL.getD b 0 = κ) (hh : OK (k b) P) : OK (dr G κ (some b) k) P :=
  ok_dr rfl (by have := hK.1; omega) (gk_k hK hb hk) hh
/-- what the reader didn't touch -/
theorem rdu_o {G : GG} {M0 N : DD} {d : Nat} {f : Nat → Nat} {T w n : Nat} {v : Nat → Int} {D : List Tok} {x k : Nat} (h : RDU G M0 d f T w n v D N) (h1 : x ≠ 13 ∧ x ≠ 14 ∧ x ≠ 15) (h2 : x ≠ w) : N.1 x k = M0.1 x k := by
  obtain ⟨S, e, a1, a2, a3, a4, a5⟩ := h
  exact a4.2 x k h1.2.1 h1.2.2 h2 (fun q => h1.1 q.1)
theorem rdu_same {G : GG} {M0 N : DD} {d : Nat} {f : Nat → Nat} {T w n : Nat} {v : Nat → Int} {D : List Tok} {k : Nat} {a : Int} (h : RDU G M0 d f T w n v D N) (e : v k = a) : RDU G M0 d f T w n (upv v k a) D N := by
  have : upv v k a = v := by
    funext j
    unfold upv
    by_cases q : j = k
    · rw [if_pos q, q]; exact e.symm
    · rw [if_neg q]
  rw [this]; exact h
theorem rdu_eqv {G : GG} {M0 N : DD} {d : Nat} {f : Nat → Nat} {T w n : Nat} {v v2 : Nat → Int} {D : List Tok} (h : RDU G M0 d f T w n v D N) (e : ∀ k, k < n → v k = v2 k) : RDU G M0 d f T w n v2 D N := by
  obtain ⟨S, e0, a1, a2, a3, a4, a5⟩ := h
  exact ⟨S, e0, a1, a2, a3, a4, fun k hk => (a5 k hk).trans (e k hk)⟩
theorem upv_s (v : Nat → Int) (k : Nat) (a : Int) : upv v k a k = a := by simp [upv]
theorem upv_n (v : Nat → Int) {k j : Nat} (a : Int) (h : j ≠ k) : upv v k a j = v j := by simp [upv, h]
theorem i32_eqv {x c : Int32} {a n : Int} (hx : x.toInt = a) (hc : c.toInt = n) : x = c ↔ a = n := by
  rw [← hx, ← hc]
  exact Int32.toInt_inj.symm
theorem rdu_num0 {G : GG} {M0 N : DD} {d : Nat} {f : Nat → Nat} {T w n : Nat} {v : Nat → Int} {D : List Tok} {x : Nat} {p0 p1 : Int32} {p2 p3 : Int64} (h : RDU G M0 d f T w n v (ueT 0 x ++ D) N) (hw : w ≠ 13 ∧ w ≠ 14 ∧ w ≠ 15) (h0 : p0.toInt = 0) (h1 : p1.toInt = 0) (hx : x < 1000000000) (hlo : p2.toInt ≤ (x : Int)) (hp : (x : Int) ≤ p3.toInt) : OK (FX5_number G N 13 p0 p1 p2 p3) (fun y => y.2.toInt = x ∧ RDU G M0 d f T w n v D y.1) := by
  obtain ⟨S, e, a1, a2, a3, a4, a5⟩ := h
  refine (number_ok (e := 0) (kind := 0) a1 a2 (rd_ne a1 a2) a3 (Nat.le_trans (VT.skip a3).2 a1.1.2.2.2.2.2.2.2) h0 (by decide) hx h1 (fun q => absurd q (by decide)) hlo hp).mono ?_
  rintro y ⟨b1, b2, b3, b4, b5⟩
  exact ⟨b1, rdu_step hw (by unfold ueT; rw [runs0 _ _ (all0_toks _ _ _) e]) b2 b3 b4 a4 a5 b5⟩
theorem rdu_num1 {G : GG} {M0 N : DD} {d : Nat} {f : Nat → Nat} {T w n : Nat} {v : Nat → Int} {D : List Tok} {x : Int} {p0 p1 : Int32} {p2 p3 : Int64} (h : RDU G M0 d f T w n v (ueT 0 (sei x) ++ D) N) (hw : w ≠ 13 ∧ w ≠ 14 ∧ w ≠ 15) (h0 : p0.toInt = 0) (h1 : p1.toInt = 1) (h3 : -400000000 < x) (h4 : x < 400000000) (hlo : p2.toInt ≤ x) (hp : x ≤ p3.toInt) : OK (FX5_number G N 13 p0 p1 p2 p3) (fun y => y.2.toInt = x ∧ RDU G M0 d f T w n v D y.1) := by
  obtain ⟨S, e, a1, a2, a3, a4, a5⟩ := h
  refine (number_ok (e := 0) (kind := 1) a1 a2 (rd_ne a1 a2) a3 (Nat.le_trans (VT.skip a3).2 a1.1.2.2.2.2.2.2.2) h0 (by decide) (sei_lt h3 h4) h1 (fun q => absurd q (by decide)) (by rw [numV_sei]; exact hlo) (by rw [numV_sei]; exact hp)).mono ?_
  rintro y ⟨b1, b2, b3, b4, b5⟩
  rw [numV_sei] at b1
  exact ⟨b1, rdu_step hw (by unfold ueT; rw [runs0 _ _ (all0_toks _ _ _) e]) b2 b3 b4 a4 a5 b5⟩
theorem rd_nd {G : GG} {M0 N : DD} {d hd : Nat} {f : Nat → Nat} {T w n : Nat} {v : Nat → Int} {D : List Tok} (h : RDU G M0 d f T w n v D N) (hK : GK G M0) (hh : HH M0 hd) : hd + 1 ≠ d := fun q => by
  obtain ⟨S, e, a1, a2, a3, a4, a5⟩ := h
  have h1 := a1.1.2.2.2.2.1
  have h2 : G.2.1 (hd + 1) = 13 := by
    rcases hh.2 with z | z | z <;> rw [z] <;> exact gk_k hK (by decide) rfl
  rw [← q] at h1
  omega
theorem rdu_ref {G : GG} {M0 N : DD} {d : Nat} {f : Nat → Nat} {T w n : Nat} {v : Nat → Int} {D : List Tok} {a g b : Nat} (h : RDU G M0 d f T w n v D N) (hK : GK G M0) (hf : fT a g = b) (hb : 0 < b) : N.2 a g = some b := by
  obtain ⟨S, e, a1, a2, a3, a4, a5⟩ := h
  rw [a4.1]
  exact (hK.2.2 a g (by rw [hf]; exact hb)).trans (by rw [hf])
theorem hh_k {G : GG} {M0 : DD} {hd : Nat} (hK : GK G M0) (hh : HH M0 hd) : hd + 1 < G.1 ∧ G.2.1 (hd + 1) = 13 := by
  have hk := hK.1
  refine ⟨by rcases hh.2 with q | q | q <;> omega, ?_⟩
  rcases hh.2 with q | q | q <;> rw [q] <;> exact gk_k hK (by decide) rfl
theorem hh_r {G : GG} {M0 N : DD} {d hd : Nat} {f : Nat → Nat} {T w n : Nat} {v : Nat → Int} {D : List Tok} (h : RDU G M0 d f T w n v D N) (hK : GK G M0) (hh : HH M0 hd) : N.2 hd 0 = some (hd + 1) := by
  obtain ⟨S, e, a1, a2, a3, a4, a5⟩ := h
  rw [a4.1]
  rcases hh.2 with q | q | q <;> rw [q] <;> exact (hK.2.2 _ 0 (by decide)).trans rfl
