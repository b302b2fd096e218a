/-! Steps of a writer -/
def WT (G : GG) (M0 : DD) (w u t : Nat) (f : Nat → Nat) (n : Nat) (S : SS) (c : Int32) (D : List Tok) (L : NN) (N : DD) : Prop := (∃ u' f' n', CR G M0 w u t f n S D (xt G L) N u' f' n') ∧ U0 (xt G L) N w c
theorem wt_step {G : GG} {M0 N : DD} {w u t n : Nat} {f : Nat → Nat} {S : SS} {c : Int32} {D E : List Tok} {L : NN} {F : Option (NN × DD)} (h : WT G M0 w u t f n S c D L N) (h1 : ∀ u' f' n', CW (xt G L) N w u' t f' n' (runs D S) → OK F (fun y => CS (xt G L) N w u' t f' n' (runs D S) E (xt (xt G L) y.1) y.2)) (h2 : U0 (xt G L) N w c → PC F (fun y => U0 (xt (xt G L) y.1) y.2 w c)) : OK F (fun y => WT G M0 w u t f n S c (D ++ E) (L ++ y.1) y.2) := by
  obtain ⟨⟨u', f', n', hCR⟩, hU⟩ := h
  refine (ok_pc (h1 u' f' n' hCR.2.1) (h2 hU)).mono ?_
  rintro y ⟨q1, q2⟩
  rw [xt_xt] at q1 q2
  exact ⟨hCR.tr (xt_ge G L) q1, q2⟩
theorem WT.st {G : GG} {M : DD} {w u t n : Nat} {f : Nat → Nat} {S : SS} {c : Int32} (h : CW G M w u t f n S) (hU : U0 G M w c) : WT G M w u t f n S c [] [] M := by
  refine ⟨?_, hU.xt []⟩
  exact CS.rf (h.xt0 [] h.2.2.1)
theorem wt_ue {G : GG} {M0 N : DD} {w u t n e v : Nat} {f : Nat → Nat} {S : SS} {c : Int32} {D : List Tok} {L : NN} {p0 p1 : Int32} (h : WT G M0 w u t f n S c D L N) (he : p0.toInt = e) (he2 : e ≤ 16) (hv : p1.toInt = v) (hv2 : v < 1000000000) (hB : Bd (runs D S) + 500 ≤ 800000) : OK (FX10_ue (xt G L) N w p0 p1) (fun y => WT G M0 w u t f n S c (D ++ ueT e v) (L ++ y.1) y.2) :=
  wt_step h (fun _ _ _ hC => ue_ok hC he he2 hv hv2 hB) (fun hU => pc_ue hU)
theorem wt_se {G : GG} {M0 N : DD} {w u t n e : Nat} {f : Nat → Nat} {S : SS} {c : Int32} {D : List Tok} {L : NN} {p0 p1 : Int32} (h : WT G M0 w u t f n S c D L N) (he : p0.toInt = e) (he2 : e ≤ 16) (h0 : -400000000 < p1.toInt) (h1 : p1.toInt < 400000000) (hB : Bd (runs D S) + 500 ≤ 800000) : OK (FX10_se (xt G L) N w p0 p1) (fun y => WT G M0 w u t f n S c (D ++ ueT e (sei p1.toInt)) (L ++ y.1) y.2) :=
  wt_step h (fun _ _ _ hC => se_ok hC he he2 h0 h1 hB) (fun hU => pc_se hU)
theorem wt_te {G : GG} {M0 N : DD} {w u t n e most v : Nat} {f : Nat → Nat} {S : SS} {c : Int32} {D : List Tok} {L : NN} {p0 p1 p2 : Int32} (h : WT G M0 w u t f n S c D L N) (he : p0.toInt = e) (he2 : e ≤ 16) (hm : p1.toInt = most) (hv : p2.toInt = v) (hvm : v ≤ most) (hv2 : v < 1000000000) (hB : Bd (runs D S) + 500 ≤ 800000) : OK (FX10_te (xt G L) N w p0 p1 p2) (fun y => WT G M0 w u t f n S c (D ++ teT e most v) (L ++ y.1) y.2) :=
  wt_step h (fun _ _ _ hC => te_ok hC he he2 hm hv hvm hv2 hB) (fun hU => pc_te hU)
theorem wt_code {G : GG} {M0 N : DD} {w u t n e V m : Nat} {f : Nat → Nat} {S : SS} {c : Int32} {D : List Tok} {L : NN} {p0 p2 : Int32} {p1 : Int64} (h : WT G M0 w u t f n S c D L N) (he : p0.toInt = e) (he2 : e ≤ 16) (hv : p1.toInt = V) (hn : p2.toInt = m) (hn2 : m ≤ 61) (hB : Bd (runs D S) + 8 * m ≤ 800000) : OK (FX10_code (xt G L) N w p0 p1 p2) (fun y => WT G M0 w u t f n S c (D ++ toks e V m) (L ++ y.1) y.2) :=
  wt_step h (fun _ _ _ hC => code_ok hC he he2 hv hn hn2 hB) (fun hU => pc_code hU)
theorem wt_raw {G : GG} {M0 N : DD} {w u t n sm : Nat} {f : Nat → Nat} {S : SS} {c : Int32} {D : List Tok} {L : NN} {v : Nat → Nat} (h : WT G M0 w u t f n S c D L N) (hS : (runs D S).1 = 0 ∨ (runs D S).1 = 1) (hsm : sm < (xt G L).1 ∧ (xt G L).2.1 sm = 13 ∧ (xt G L).2.2 sm = 384) (hst : sm ≠ t) (hv : ∀ i, i < 384 → (N.1 sm i).toInt = v i) (hB : Bd (runs D S) ≤ 600000) (hp : pos (runs D S) ≤ 600000) : OK (FX10_rawSamples (xt G L) N w (some sm)) (fun y => WT G M0 w u t f n S c (D ++ rawT (runs D S) v) (L ++ y.1) y.2) :=
  wt_step h (fun _ _ _ hC => raww_ok hC hS hsm hst hv hB hp) (fun hU => pc_raw hU)
