/-! a unit of raw bits, written: how long it grew -/
theorem runs0 : ∀ (D : List Tok) (S : SS), all0 D → S.1 = 0 → runs D S = (0, S.2.1 + D.length, S.2.2)
  | [], S, _, h => by
    show S = (0, S.2.1, S.2.2)
    exact Prod.ext h rfl
  | T :: D, S, h, h0 => by
    have e : nxt T S = (0, S.2.1 + 1, S.2.2) := by
      unfold nxt
      rw [if_pos (h T List.mem_cons_self).1, if_pos h0]
    show runs D (nxt T S) = _
    rw [e, runs0 D _ (fun T h2 => h T (List.mem_cons_of_mem _ h2)) rfl]
    show (0, S.2.1 + 1 + D.length, S.2.2) = (0, S.2.1 + (D.length + 1), S.2.2)
    rw [Nat.add_assoc, Nat.add_comm 1]
theorem ueT_len {e v : Nat} (hv : v < 1000000000) : (ueT e v).length ≤ 59 ∧ all0 (ueT e v) := by
  refine ⟨?_, all0_toks _ _ _⟩
  have h1 := (lgv_b v).1
  have h2 : (2 : Nat) ^ lgv v < 2 ^ 30 := by
    have : (2 : Nat) ^ 30 = 1073741824 := by decide
    omega
  have h3 := (Nat.pow_lt_pow_iff_right (by decide)).1 h2
  show (toks e (v + 1) (2 * lgv v + 1)).length ≤ 59
  rw [toks, List.length_map, List.length_range]
  omega
def WV (G : GG) (M : DD) (u fr : Nat) (st : Nat → Nat) (B : List Nat) (c : Nat) (D : List Tok) (n : Nat) (L : NN) (N : DD) : Prop := WU G M u fr st B c D L N ∧ all0 D ∧ D.length ≤ n
theorem wv_runs {G : GG} {M N : DD} {u fr : Nat} {st : Nat → Nat} {B : List Nat} {c n : Nat} {D : List Tok} {L : NN} (h : WV G M u fr st B c D n L N) : runs D (SU st) = (0, D.length, (SU st).2.2) := by
  rw [runs0 D (SU st) h.2.1 rfl]
  show (0, 0 + D.length, _) = _
  rw [Nat.zero_add]
theorem wv_bd {G : GG} {M N : DD} {u fr : Nat} {st : Nat → Nat} {B : List Nat} {c n : Nat} {D : List Tok} {L : NN} (h : WV G M u fr st B c D n L N) (hn : n ≤ 500000) : Bd (runs D (SU st)) + 500 ≤ 800000 := by
  rw [wv_runs h]
  show D.length + 500 ≤ 800000
  have := h.2.2
  omega
theorem wv_begin {G : GG} {M : DD} {u fr : Nat} {st : Nat → Nat} {B : List Nat} {p0 : Int32} {c : Nat} (h : WI G M 119 u 122 st) (hB : BF G M 119 fr B) (hn : u ≠ fr) (hK : GK G M) (hc : p0.toInt % 256 = (c : Int)) : OK (FX10_beginUnit (xt G []) M 119 p0) (fun y => WV G M u fr st B c [] 0 [] y) := by
  have hx : WI (xt G []) M 119 u 122 st := by
    obtain ⟨⟨a1, a2, a3, a4, a5⟩, b, d, ⟨e1, e2, e3, e4, e5⟩, f, g⟩ := h
    exact ⟨⟨a1, a2, (xt_kk [] a2).trans a3, (by simp [xt, a2]; exact a4), a5⟩, b, d, ⟨e1, (xt_kk [] e1).trans e2, e3, e4, (xt_kk [] e4).trans e5⟩, (by rw [show (xt G []).2.2 u = G.2.2 u from by simp [xt, e4]]; exact f), g⟩
  refine (beginUnit_ok hx).mono ?_
  rintro y ⟨h1, h2, h3, h4⟩
  exact ⟨⟨h, hB, hn, hK, _, h4.trans hc, y, h2, CS.rf h1, h3⟩, fun T h => by simp at h, Nat.le_refl _⟩
theorem wv_ue {G : GG} {M N : DD} {u fr v : Nat} {st : Nat → Nat} {B : List Nat} {c n : Nat} {D : List Tok} {L : NN} {p0 p1 : Int32} (h : WV G M u fr st B c D n L N) (he : p0.toInt = 0) (hv : p1.toInt = v) (hv2 : v < 1000000000) (hn : n ≤ 500000) : OK (FX10_ue (xt G L) N 119 p0 p1) (fun y => WV G M u fr st B c (D ++ ueT 0 v) (n + 59) (L ++ y.1) y.2) :=
  (wu_ue h.1 (e := 0) he (by decide) hv hv2 (wv_bd h hn)).mono (fun y hy => ⟨hy, all0_app h.2.1 (ueT_len hv2).2, by have h1 := (ueT_len (e := 0) hv2).1; have h2 := h.2.2; rw [List.length_append]; omega⟩)
theorem sei_lt {v : Int} (h0 : -400000000 < v) (h1 : v < 400000000) : sei v < 1000000000 := by
  unfold sei
  split <;> omega
theorem wv_se {G : GG} {M N : DD} {u fr : Nat} {st : Nat → Nat} {B : List Nat} {c n : Nat} {D : List Tok} {L : NN} {p0 p1 : Int32} (h : WV G M u fr st B c D n L N) (he : p0.toInt = 0) {v : Int} (hv : p1.toInt = v) (h0 : -400000000 < v) (h1 : v < 400000000) (hn : n ≤ 500000) : OK (FX10_se (xt G L) N 119 p0 p1) (fun y => WV G M u fr st B c (D ++ ueT 0 (sei v)) (n + 59) (L ++ y.1) y.2) :=
  (wu_se h.1 (e := 0) he (by decide) hv h0 h1 (wv_bd h hn)).mono (fun y hy => ⟨hy, all0_app h.2.1 (ueT_len (sei_lt h0 h1)).2, by have h1 := (ueT_len (e := 0) (sei_lt h0 h1)).1; have h2 := h.2.2; rw [List.length_append]; omega⟩)
theorem wv_code {G : GG} {M N : DD} {u fr V m : Nat} {st : Nat → Nat} {B : List Nat} {c n : Nat} {D : List Tok} {L : NN} {p0 p2 : Int32} {p1 : Int64} (h : WV G M u fr st B c D n L N) (he : p0.toInt = 0) (hv : p1.toInt = V) (hm : p2.toInt = m) (hm2 : m ≤ 59) (hn : n ≤ 500000) : OK (FX10_code (xt G L) N 119 p0 p1 p2) (fun y => WV G M u fr st B c (D ++ toks 0 V m) (n + 59) (L ++ y.1) y.2) :=
  (wu_code h.1 (e := 0) he (by decide) hv hm (by omega) (by have := wv_bd h hn; omega)).mono (fun y hy => ⟨hy, all0_app h.2.1 (all0_toks _ _ _), by have h1 := toks_len 0 V m; have h2 := h.2.2; rw [List.length_append]; omega⟩)
theorem wv_flag {G : GG} {M N : DD} {u fr V : Nat} {st : Nat → Nat} {B : List Nat} {c n : Nat} {D : List Tok} {L : NN} {p0 : Int32} (h : WV G M u fr st B c D n L N) (hv : p0.toInt = V) (hn : n ≤ 500000) : OK (FX0_flag (xt G L) N 116 p0) (fun y => WV G M u fr st B c (D ++ toks 0 V 1) (n + 59) (L ++ y.1) y.2) :=
  (wu_flag h.1 hv (wv_bd h hn)).mono (fun y hy => ⟨hy, all0_app h.2.1 (all0_toks _ _ _), by have h1 := toks_len 0 V 1; have h2 := h.2.2; rw [List.length_append]; omega⟩)
/-- a unit of raw bits: the list of its tokens, its end, where it lies -/
def UQ (G : GG) (M : DD) (u fr : Nat) (st : Nat → Nat) (B : List Nat) (c : Nat) (D : List Tok) (n : Nat) (p0 : Int32) (G2 : GG) (N : DD) : Prop := UW G M u fr st B c D p0 G2 N ∧ all0 D ∧ D.length ≤ n
theorem wv_end {G : GG} {M N : DD} {u fr : Nat} {st : Nat → Nat} {B : List Nat} {c n : Nat} {D : List Tok} {L : NN} {p0 : Int32} (h : WV G M u fr st B c D n L N) (hn : n ≤ 20000) (hlen : B.length ≤ 300000) : OK (FX10_endUnit (xt G L) N 119 p0) (fun y => UQ G M u fr st B c D n p0 (xt G (L ++ y.1)) y.2) := by
  have e := wv_runs h
  have hl := h.2.2
  refine (wu_end h.1 (by rw [e]) (by rw [e]; show D.length ≤ _; omega) (by rw [e]; show 2 * (B.length + 4) + 3 * (1 + (D.length + 8) / 8) ≤ 790000; omega)).mono ?_
  intro y hy
  exact ⟨hy, h.2⟩
theorem sub1_of {x : Int32} {v : Nat} (h : x.toInt = v) (h1 : 1 ≤ v) : (x - 1).toInt = ((v - 1 : Nat) : Int) := by
  have h2 : x.toInt ≤ 2147483647 := Int32.toInt_le x
  have e : (1 : Int32).toInt = 1 := rfl
  rw [ti_sub (by omega) (by omega)]
  omega
