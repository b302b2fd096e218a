/-! units written by the coder: from the first byte to the end -/
def GK (G : GG) (M : DD) : Prop := 222 ≤ G.1 ∧ (∀ i, i < 222 → G.2.1 i = kdL.getD i 0 ∧ G.2.2 i = lnL.getD i 0) ∧ FR M
def SU (st : Nat → Nat) : SS := (0, 0, (0, 0, 0, st))
def UW (G : GG) (M : DD) (u fr : Nat) (st : Nat → Nat) (B : List Nat) (c : Nat) (D : List Tok) (p0 : Int32) (G2 : GG) (N : DD) : Prop :=
  ∃ u1 v f1 j, (u1 = u ∨ G.1 ≤ u1) ∧ (v = fr ∨ G.1 ≤ v) ∧ u1 ≠ v ∧ j = ((runs D (SU st)).2.1 + (if p0 = 0 then 1 else 0) + 7) / 8 ∧ WI G2 N 119 u1 122 (runs D (SU st)).2.2.2.2.2 ∧ BF G2 N 119 v (B ++ [0, 0, 0, 1] ++ emu 0 (UB c f1 j)) ∧ N.1 119 2 = M.1 119 2 + 1 ∧ (∀ i, f1 i ≤ 1) ∧
  (∀ ff D2, (∀ i, ff i ≤ 1) → (∀ i, i < 8 * j → ff i = f1 i) → Val ff D2 (0, 8 * j, (runs D (SU st)).2.2) → Val ff (D ++ (ET (runs D (SU st)).2.1 p0 ++ D2)) (SU st)) ∧
  (∀ x k, x < G.1 → x ≠ u → x ≠ 122 → x ≠ fr → ¬ (x = 119 ∧ (k ≤ 2 ∨ 4 ≤ k ∧ k ≤ 12)) → N.1 x k = M.1 x k ∧ N.2 x k = M.2 x k)
/-- the writer is in a unit that began at M -/
def WU (G : GG) (M : DD) (u fr : Nat) (st : Nat → Nat) (B : List Nat) (c : Nat) (D : List Tok) (L : NN) (N : DD) : Prop :=
  WI G M 119 u 122 st ∧ BF G M 119 fr B ∧ u ≠ fr ∧ GK G M ∧ ∃ c32 : Int32, c32.toInt % 256 = (c : Int) ∧ ∃ K, WY G M 119 u 122 K ∧ WT G K 119 u 122 (fun _ => 0) 0 (SU st) c32 D L N
theorem wu_begin {G : GG} {M : DD} {u fr : Nat} {st : Nat → Nat} {B : List Nat} {p0 : Int32} {c : Nat} (h : WI G M 119 u 122 st) (hB : BF G M 119 fr B) (hn : u ≠ fr) (hK : GK G M) (hc : p0.toInt % 256 = (c : Int)) : OK (FX10_beginUnit G M 119 p0) (fun y => WU G M u fr st B c [] [] y) := by
  refine (beginUnit_ok h).mono ?_
  rintro y ⟨h1, h2, h3, h4⟩
  exact ⟨h, hB, hn, hK, _, h4.trans hc, y, h2, WT.st h1 h3⟩
/-- what the coder reads while it writes stands as it stood -/
theorem wu_keep {G : GG} {M N : DD} {u fr : Nat} {st : Nat → Nat} {B : List Nat} {c : Nat} {D : List Tok} {L : NN} (h : WU G M u fr st B c D L N) {x : Nat} (hx : x < G.1) (hk : G.2.1 x ≠ 12) (h1 : x ≠ 119) (h2 : x ≠ 122) (k : Nat) : N.1 x k = M.1 x k ∧ N.2 x k = M.2 x k := by
  obtain ⟨h3, h4, h5, h6, c32, h7, K, h8, ⟨u', f', n', hCR⟩, hU⟩ := h
  have hu : x ≠ u := fun q => hk (by rw [q]; exact h3.2.2.2.1.2.2.2.2)
  have e1 := h8 x k hx hu h2 (fun q => h1 q.1)
  have e2 := hCR.2.2.2.2.1 x k hx hu h2 (fun q => h1 q.1)
  exact ⟨e2.1.trans e1.1, e2.2.trans e1.2⟩
theorem gk_k {G : GG} {M : DD} (h : GK G M) {i κ : Nat} (hi : i < 222) (e : kdL.getD i 0 = κ) : G.2.1 i = κ := (h.2.1 i hi).1.trans e
theorem xtw_k {G : GG} {L : NN} {i : Nat} (h : i < G.1) : (xt G L).2.1 i = G.2.1 i ∧ (xt G L).2.2 i = G.2.2 i ∧ i < (xt G L).1 := by
  refine ⟨by simp [xt, h], by simp [xt, h], Nat.lt_of_lt_of_le h (xt_ge G L)⟩
theorem ok_drW {G : GG} {M N : DD} {u fr : Nat} {st : Nat → Nat} {B : List Nat} {c : Nat} {D : List Tok} {L : NN} (h : WU G M u fr st B c D L N) {α : Type} {κ a f b : Nat} {k : Nat → Option α} {P : α → Prop} (ha : a < 222 ∧ a ≠ 119 ∧ a ≠ 122) (hka : (kdL.getD a 0 == 12) = false) (hf : fT a f = b) (hb : 0 < b ∧ b < 222) (hk : kdL.getD b 0 = κ) (hh : OK (k b) P) : OK (dr (xt G L) κ (N.2 a f) k) P := by
  have hK := h.2.2.2.1
  have e : N.2 a f = some b := by
    rw [(wu_keep h (x := a) (by have := hK.1; omega) (by rw [gk_k hK ha.1 rfl]; intro q; rw [q] at hka; simp at hka) ha.2.1 ha.2.2 f).2]
    exact (hK.2.2 a f (by rw [hf]; exact hb.1)).trans (by rw [hf])
  have hz := xtw_k (L := L) (show b < G.1 by have := hK.1; omega)
  exact ok_dr e hz.2.2 (by rw [hz.1]; exact gk_k hK hb.2 hk) hh
theorem wu_len {G : GG} {M N : DD} {u fr : Nat} {st : Nat → Nat} {B : List Nat} {c : Nat} {D : List Tok} {L : NN} (h : WU G M u fr st B c D L N) {b n : Nat} (hb : b < 222) (hn : lnL.getD b 0 = n) : (xt G L).2.2 b = n := by
  have hK := h.2.2.2.1
  rw [(xtw_k (L := L) (show b < G.1 by have := hK.1; omega)).2.1]
  exact (hK.2.1 b hb).2.trans hn
theorem wu_rd {G : GG} {M N : DD} {u fr : Nat} {st : Nat → Nat} {B : List Nat} {c : Nat} {D : List Tok} {L : NN} (h : WU G M u fr st B c D L N) {b : Nat} (hb : b < 222 ∧ b ≠ 119 ∧ b ≠ 122) (hk : (kdL.getD b 0 == 12) = false) (k : Nat) : N.1 b k = M.1 b k := by
  have hK := h.2.2.2.1
  exact (wu_keep h (x := b) (by have := hK.1; omega) (by rw [gk_k hK hb.1 rfl]; intro q; rw [q] at hk; simp at hk) hb.2.1 hb.2.2 k).1
theorem wu_step {G : GG} {M N : DD} {u fr : Nat} {st : Nat → Nat} {B : List Nat} {c : Nat} {D E : List Tok} {L : NN} {F : Option (NN × DD)} (h : WU G M u fr st B c D L N) (g : ∀ K c32, WT G K 119 u 122 (fun _ => 0) 0 (SU st) c32 D L N → OK F (fun y => WT G K 119 u 122 (fun _ => 0) 0 (SU st) c32 (D ++ E) (L ++ y.1) y.2)) : OK F (fun y => WU G M u fr st B c (D ++ E) (L ++ y.1) y.2) := by
  obtain ⟨h3, h4, h5, h6, c32, h7, K, h8, hW⟩ := h
  refine (g K c32 hW).mono ?_
  intro y hy
  exact ⟨h3, h4, h5, h6, c32, h7, K, h8, hy⟩
theorem wu_ue {G : GG} {M N : DD} {u fr e v : Nat} {st : Nat → Nat} {B : List Nat} {c : Nat} {D : List Tok} {L : NN} {p0 p1 : Int32} (h : WU G M u fr st B c D L N) (he : p0.toInt = e) (he2 : e ≤ 16) (hv : p1.toInt = v) (hv2 : v < 1000000000) (hB : Bd (runs D (SU st)) + 500 ≤ 800000) : OK (FX10_ue (xt G L) N 119 p0 p1) (fun y => WU G M u fr st B c (D ++ ueT e v) (L ++ y.1) y.2) := wu_step h (fun _ _ hW => wt_ue hW he he2 hv hv2 hB)
theorem wu_se {G : GG} {M N : DD} {u fr e : Nat} {st : Nat → Nat} {B : List Nat} {c : Nat} {D : List Tok} {L : NN} {p0 p1 : Int32} (h : WU G M u fr st B c D L N) (he : p0.toInt = e) (he2 : e ≤ 16) {v : Int} (hv : p1.toInt = v) (h0 : -400000000 < v) (h1 : v < 400000000) (hB : Bd (runs D (SU st)) + 500 ≤ 800000) : OK (FX10_se (xt G L) N 119 p0 p1) (fun y => WU G M u fr st B c (D ++ ueT e (sei v)) (L ++ y.1) y.2) := by
  subst hv
  exact wu_step h (fun _ _ hW => wt_se hW he he2 h0 h1 hB)
theorem wu_code {G : GG} {M N : DD} {u fr e V m : Nat} {st : Nat → Nat} {B : List Nat} {c : Nat} {D : List Tok} {L : NN} {p0 p2 : Int32} {p1 : Int64} (h : WU G M u fr st B c D L N) (he : p0.toInt = e) (he2 : e ≤ 16) (hv : p1.toInt = V) (hn : p2.toInt = m) (hn2 : m ≤ 61) (hB : Bd (runs D (SU st)) + 8 * m ≤ 800000) : OK (FX10_code (xt G L) N 119 p0 p1 p2) (fun y => WU G M u fr st B c (D ++ toks e V m) (L ++ y.1) y.2) := wu_step h (fun _ _ hW => wt_code hW he he2 hv hn hn2 hB)
theorem t64_of {x : Int32} {V : Nat} (h : x.toInt = V) : x.toInt64.toInt = V := by rw [Int32.toInt_toInt64]; exact h
theorem wu_flag {G : GG} {M N : DD} {u fr V : Nat} {st : Nat → Nat} {B : List Nat} {c : Nat} {D : List Tok} {L : NN} {p0 : Int32} (h : WU G M u fr st B c D L N) (hv : p0.toInt = V) (hB : Bd (runs D (SU st)) + 500 ≤ 800000) : OK (FX0_flag (xt G L) N 116 p0) (fun y => WU G M u fr st B c (D ++ toks 0 V 1) (L ++ y.1) y.2) := by
  unfold FX0_flag
  rw [xt_xt, List.append_nil]
  refine ok_ltt (fun x1 e1 => ?_)
  refine ok_drW h (by decide) rfl rfl (by decide) rfl ?_
  refine ok_bnd (wu_code (m := 1) (e := 0) h rfl (by decide) (by rw [e1]; exact t64_of hv) rfl (by decide) (by omega)) ?_
  intro y hy
  refine ok_app (ok_ltt (fun L5 e5 => ok_some ?_))
  simpa only [List.append_nil] using hy
theorem wu_end {G : GG} {M N : DD} {u fr : Nat} {st : Nat → Nat} {B : List Nat} {c : Nat} {D : List Tok} {L : NN} {p0 : Int32} (h : WU G M u fr st B c D L N) (h0 : (runs D (SU st)).1 = 0) (hn : (runs D (SU st)).2.1 ≤ 600000) (hlen : 2 * (B.length + 4) + 3 * (1 + ((runs D (SU st)).2.1 + 8) / 8) ≤ 790000) : OK (FX10_endUnit (xt G L) N 119 p0) (fun y => UW G M u fr st B c D p0 (xt G (L ++ y.1)) y.2) := by
  obtain ⟨h3, h4, h5, h6, c32, h7, K, h8, ⟨u', f', n', hCR⟩, hU⟩ := h
  have hk : G.2.1 fr = 12 := h4.1.2.2.2.2
  have hfr : fr < G.1 := h4.1.2.2.2.1
  have hu : u < G.1 := h3.2.2.2.1.2.2.2.1
  have ht : G.2.1 122 = 13 := gk_k h6 (by decide) rfl
  have h9 : G.2.1 119 = 10 := gk_k h6 (by decide) rfl
  have ku : G.2.1 u = 12 := h3.2.2.2.1.2.2.2.2
  have nft : fr ≠ 122 := fun q => by rw [q] at hk; omega
  have n9u : (119 : Nat) ≠ u := fun q => by rw [← q] at ku; omega
  have w2 := hCR.2.2.2.2.1
  have b1 : BF (xt G []) K 119 fr B := BF.wy [] h4 h8 (fun q => h5 q.symm) nft n9u (by decide)
  have b2 : BF (xt (xt G []) L) N 119 fr B := by
    refine BF.wy L b1 ?_ (fun q => h5 q.symm) nft n9u (by decide)
    intro x k hx
    exact w2 x k (by rw [show (xt G []).1 = G.1 from rfl] at hx; exact hx)
  rw [xt_xt, List.nil_append] at b2
  have hne : u' ≠ fr := by
    rcases hCR.1 with q | q
    · rw [q]; exact h5
    · omega
  refine (endUnit_ok hCR.2.1 h0 hn b2 hne hU h7 hlen).mono ?_
  rintro y ⟨u1, v, f1, j, q1, q2, q3, q4, q5, q6, q7, q8, q9, q10, q11⟩
  rw [xt_xt] at q5 q6
  have hL := xt_ge G L
  have eN : N.1 119 2 = M.1 119 2 := by
    have e1 := (w2 119 2 (by have := h6.1; omega) n9u (by decide) (by omega)).1
    have e2 := (h8 119 2 (by have := h6.1; omega) n9u (by decide) (by omega)).1
    exact e1.trans e2
  refine ⟨u1, v, f1, j, ?_, ?_, q3, q4, q5, q6, by rw [q7, eN], q9, ?_, ?_⟩
  · rcases q1 with q | q
    · rcases hCR.1 with z | z
      · exact Or.inl (q.trans z)
      · exact Or.inr (by omega)
    · exact Or.inr (by omega)
  · rcases q2 with q | q
    · exact Or.inl q
    · exact Or.inr (by omega)
  · intro ff D2 a1 a2 a3
    refine hCR.2.2.2.2.2 ff _ a1 ?_ (q10 ff D2 a1 a2 a3)
    intro i hi
    rw [← q8 i hi]
    refine a2 i ?_
    have hn' : n' = (runs D (SU st)).2.1 := by
      rcases hCR.2.1.2.2.2 with z | z
      · exact z.2.1
      · omega
    rw [q4]
    omega
  · intro x k x1 x2 x3 x4 x5
    have x6 : x ≠ u' := by
      rcases hCR.1 with q | q
      · rw [q]; exact x2
      · omega
    have y1 := q11 x k (by omega) x6 x3 x4 x5
    have y2 := w2 x k x1 x2 x3 (fun q => x5 ⟨q.1, by omega⟩)
    have y3 := h8 x k x1 x2 x3 (fun q => x5 ⟨q.1, by omega⟩)
    exact ⟨(y1.1.trans y2.1).trans y3.1, (y1.2.trans y2.2).trans y3.2⟩
