/-! decisions alone: how far they bring the writer at most -/
def all0 (D : List Tok) : Prop := ∀ T, T ∈ D → T.1 = 0 ∧ T.2.2 ≤ 1
theorem all0_app {D E : List Tok} (h1 : all0 D) (h2 : all0 E) : all0 (D ++ E) := fun T h => by
  rcases List.mem_append.mp h with q | q
  · exact h1 T q
  · exact h2 T q
theorem all0_toks (e V n : Nat) : all0 (toks e V n) := fun T h => by
  obtain ⟨j, -, rfl⟩ := List.mem_map.mp h
  exact ⟨rfl, by dsimp only; omega⟩
theorem toks_len (e V n : Nat) : (toks e V n).length = n := by
  unfold toks
  rw [List.length_map, List.length_range]
def SOk (S : SS) : Prop := S.1 = 0 ∨ (S.1 = 1 ∧ AOk S.2.2)
theorem CW.sok {G : GG} {M : DD} {a u t : Nat} {f : Nat → Nat} {n : Nat} {S : SS} (h : CW G M a u t f n S) : SOk S := by
  rcases h.2.2.2 with ⟨q, -⟩ | ⟨q1, q2, -⟩
  · exact Or.inl q
  · exact Or.inr ⟨q1, q2⟩
theorem Bd_runs : ∀ (D : List Tok) (S : SS), all0 D → SOk S → Bd (runs D S) ≤ Bd S + 8 * D.length ∧ SOk (runs D S) := by
  intro D
  induction D with
  | nil => intro S _ h; exact ⟨Nat.le_refl _, h⟩
  | cons T D ih =>
    intro S h1 h2
    obtain ⟨k1, k2⟩ := h1 T (List.mem_cons_self)
    have hs : SOk (nxt T S) := by
      unfold nxt
      rw [if_pos k1]
      rcases h2 with q | ⟨q, hA⟩
      · rw [if_pos q]; exact Or.inl rfl
      · rw [if_neg (by omega)]; exact Or.inr ⟨rfl, ok_enc hA _ k2⟩
    obtain ⟨i1, i2⟩ := ih (nxt T S) (fun X hX => h1 X (List.mem_cons_of_mem _ hX)) hs
    have hb := Bd_nxt k1 h2
    refine ⟨?_, i2⟩
    show Bd (runs D (nxt T S)) ≤ Bd S + 8 * (D.length + 1)
    omega
/-- the writer came by D; of what else stands nothing is said -/
def CN (G0 : GG) (a u0 t : Nat) (f0 : Nat → Nat) (n0 : Nat) (S0 : SS) (D : List Tok) (G : GG) (M : DD) (u : Nat) (f : Nat → Nat) (n : Nat) : Prop :=
  (u = u0 ∨ G0.1 ≤ u) ∧ CW G M a u t f n (runs D S0) ∧ (∀ i, i < n0 → f i = f0 i) ∧ n0 ≤ n ∧ (∀ ff D2, (∀ i, ff i ≤ 1) → (∀ i, i < n → ff i = f i) → Val ff D2 (runs D S0) → Val ff (D ++ D2) S0)
theorem CR.cn {G0 G : GG} {M0 M : DD} {a u0 t u : Nat} {f0 f : Nat → Nat} {n0 n : Nat} {S0 : SS} {D : List Tok} (h : CR G0 M0 a u0 t f0 n0 S0 D G M u f n) : CN G0 a u0 t f0 n0 S0 D G M u f n := ⟨h.1, h.2.1, h.2.2.1, h.2.2.2.1, h.2.2.2.2.2⟩
theorem CN.tr {G0 G1 G2 : GG} {M1 M2 : DD} {a u0 t u v : Nat} {f0 f g : Nat → Nat} {n0 n m : Nat} {S0 : SS} {D E : List Tok} (hG : G0.1 ≤ G1.1) (h : CN G0 a u0 t f0 n0 S0 D G1 M1 u f n) (h2 : CN G1 a u t f n (runs D S0) E G2 M2 v g m) : CN G0 a u0 t f0 n0 S0 (D ++ E) G2 M2 v g m := by
  obtain ⟨q1, q2, q3, q4, q6⟩ := h
  obtain ⟨r1, r2, r3, r4, r6⟩ := h2
  rw [← runs_app] at r2 r6
  refine ⟨?_, r2, fun i hi => (r3 i (by omega)).trans (q3 i hi), Nat.le_trans q4 r4, fun ff D2 hf he hv => ?_⟩
  · rcases r1 with r | r
    · rw [r]; exact q1
    · exact Or.inr (Nat.le_trans hG r)
  · rw [List.append_assoc]
    refine q6 ff (E ++ D2) hf (fun i hi => (he i (by omega)).trans (r3 i hi)) ?_
    exact r6 ff D2 hf he hv
/-- a write that the writer's state doesn't mind -/
theorem CW.by {G : GG} {M N : DD} {a u t : Nat} {f : Nat → Nat} {n : Nat} {S : SS} (h : CW G M a u t f n S) (h2 : N.2 = M.2) (h1 : ∀ x k, (x = a ∧ 4 ≤ k ∧ k ≤ 12) ∨ x = u ∨ x = t → N.1 x k = M.1 x k) : CW G N a u t f n S := by
  have hb : ∀ m, WB G M a u f m → WB G N a u f m := by
    intro m hw
    obtain ⟨⟨v1, v2, v3, v4, v5⟩, v6, v7, v8, v9, v10, v11, v12⟩ := hw
    exact ⟨⟨v1, v2, by rw [h2]; exact v3, v4, v5⟩, v6, by rw [h1 a 5 (by simp)]; exact v7, by rw [h1 a 7 (by simp)]; exact v8, by rw [h1 a 6 (by simp)]; exact v9, fun j hj => by rw [h1 u _ (by simp)]; exact v10 j hj, v11, fun j => by rw [h1 u _ (by simp)]; exact v12 j⟩
  obtain ⟨⟨s1, s2, s3, s4, s5⟩, s6, s7, s8⟩ := h
  refine ⟨⟨by rw [h2]; exact s1, s2, s3, s4, fun i hi => by rw [h1 t i (by simp)]; exact s5 i hi⟩, s6, ?_, ?_⟩
  · intro x hx k b hb2
    rw [h2] at hb2
    exact s7 x hx k b hb2
  · rcases s8 with ⟨q1, q2, q3, q4, q5, q6⟩ | ⟨q1, q2, q3, k, o, fi, low, q4, q5, q6, q7, q8, q9, q10, q11⟩
    · exact Or.inl ⟨q1, q2, hb _ q3, by rw [h1 a 8 (by simp)]; exact q4, by rw [h1 a 11 (by simp)]; exact q5, by rw [h1 a 12 (by simp)]; exact q6⟩
    · exact Or.inr ⟨q1, q2, by rw [h1 a 8 (by simp)]; exact q3, k, o, fi, low, q4, hb _ q5, q6, by rw [h1 a 9 (by simp)]; exact q7, by rw [h1 a 10 (by simp)]; exact q8, by rw [h1 a 11 (by simp)]; exact q9, by rw [h1 a 12 (by simp)]; exact q10, q11⟩
theorem CN.by {G0 G : GG} {M N : DD} {a u0 t u : Nat} {f0 f : Nat → Nat} {n0 n : Nat} {S0 : SS} {D : List Tok} (h : CN G0 a u0 t f0 n0 S0 D G M u f n) (h2 : N.2 = M.2) (h1 : ∀ x k, (x = a ∧ 4 ≤ k ∧ k ≤ 12) ∨ x = u ∨ x = t → N.1 x k = M.1 x k) : CN G0 a u0 t f0 n0 S0 D G N u f n := ⟨h.1, h.2.1.by h2 h1, h.2.2⟩
theorem CW.cn0 {G : GG} {M : DD} {a u t : Nat} {f : Nat → Nat} {n : Nat} {S : SS} (h : CW G M a u t f n S) : CN G a u t f n S [] G M u f n := ⟨Or.inl rfl, h, fun _ _ => rfl, Nat.le_refl _, fun _ _ _ _ h => h⟩
/-- the writer's rows of LEVELS and zeros -/
def WR (G : GG) (M : DD) (a sz bf : Nat) : Prop := (M.2 a 14 = some sz ∧ sz < G.1 ∧ G.2.1 sz = 13 ∧ G.2.2 sz = 16) ∧ (M.2 a 15 = some bf ∧ bf < G.1 ∧ G.2.1 bf = 13 ∧ G.2.2 bf = 16) ∧ sz ≠ bf
/-- what else stands as it stood behind LEVELS -/
def WL (G : GG) (M : DD) (a u t sz bf : Nat) (N : DD) : Prop := ∀ x k, x < G.1 → x ≠ u → x ≠ t → x ≠ sz → x ≠ bf → ¬ (x = a ∧ (4 ≤ k ∧ k ≤ 12 ∨ 16 ≤ k ∧ k ≤ 19)) → N.1 x k = M.1 x k ∧ N.2 x k = M.2 x k
theorem lpl {s v : Nat} (hs : s ≤ 6) : lpf s v ≤ 15 ∧ lsb s v ≤ 12 := by
  have hp := Nat.two_pow_pos s
  unfold lpf lsb
  by_cases h0 : s = 0
  · rw [if_pos h0, if_pos h0]
    by_cases h1 : v < 14
    · rw [if_pos h1, if_pos h1]; omega
    · rw [if_neg h1, if_neg h1]
      by_cases h2 : v < 30
      · rw [if_pos h2, if_pos h2]; omega
      · rw [if_neg h2, if_neg h2]; omega
  · rw [if_neg h0, if_neg h0]
    by_cases h1 : v < 15 * 2 ^ s
    · have : v / 2 ^ s < 15 := (Nat.div_lt_iff_lt_mul hp).mpr h1
      rw [if_pos h1, if_pos h1]; omega
    · rw [if_neg h1, if_neg h1]; omega
theorem nxs_b {s : Nat} (x : Int) (h : s ≤ 6) : nxs s x ≤ 6 ∧ 1 ≤ nxs s x := by
  unfold nxs
  by_cases h0 : s = 0
  · rw [if_pos h0, if_neg (by decide)]
    split <;> omega
  · rw [if_neg h0]
    split
    · omega
    · split <;> omega
theorem szT_len : ∀ (l : LV) (ones i s : Nat), s ≤ 6 → (szT ones i s l).length ≤ 28 * l.length ∧ all0 (szT ones i s l) := by
  intro l
  induction l with
  | nil => intro ones i s _; exact ⟨Nat.zero_le _, fun T h => by cases h⟩
  | cons q l ih =>
    intro ones i s hs
    show (if i < ones then _ else _ : List Tok).length ≤ 28 * (l.length + 1) ∧ all0 (if i < ones then _ else _)
    by_cases h : i < ones
    · rw [if_pos h]
      obtain ⟨i1, i2⟩ := ih ones (i + 1) s hs
      rw [List.length_append, toks_len]
      exact ⟨by omega, all0_app (all0_toks _ _ _) i2⟩
    · rw [if_neg h]
      obtain ⟨i1, i2⟩ := ih ones (i + 1) (nxs s q.1) (nxs_b q.1 hs).1
      unfold oneT
      rw [List.length_append, List.length_append, toks_len, toks_len]
      have := lpl (v := (lvV q.1 (mor ones i)).toNat) hs
      exact ⟨by omega, all0_app (all0_app (all0_toks _ _ _) (all0_toks _ _ _)) i2⟩
theorem cdN_b {t k : Nat} : cdN t k ≤ 100 := by
  unfold cdN
  by_cases h : 2 * (tabA t + k) < 772
  · have := (code_facts _ h).2
    omega
  · have : (sT 6).getD (2 * (tabA t + k)) 0 = 0 := by
      rw [List.getD_eq_getElem?_getD, List.getElem?_eq_none]
      · rfl
      · show (sT 6).length ≤ _
        have : (sT 6).length = 772 := by decide +kernel
        omega
    rw [this]
    decide
theorem rnT_len : ∀ (l : LV) (z : Nat), (rnT z l).length ≤ 100 * l.length ∧ all0 (rnT z l) := by
  intro l
  induction l with
  | nil => intro z; exact ⟨Nat.zero_le _, fun T h => by cases h⟩
  | cons q l ih =>
    intro z
    cases l with
    | nil => exact ⟨Nat.zero_le _, fun T h => by cases h⟩
    | cons p l =>
      show (if z = 0 then [] else _ : List Tok).length ≤ 100 * (l.length + 1 + 1) ∧ all0 (if z = 0 then [] else _)
      by_cases h : z = 0
      · rw [if_pos h]
        exact ⟨Nat.zero_le _, fun T h => by cases h⟩
      · rw [if_neg h]
        obtain ⟨i1, i2⟩ := ih (z - q.2)
        rw [List.length_append, toks_len]
        have i1' : (rnT (z - q.2) (p :: l)).length ≤ 100 * (l.length + 1) := i1
        have := cdN_b (t := 21 + min z 7) (k := q.2)
        exact ⟨by omega, all0_app (all0_toks _ _ _) i2⟩
theorem levT_len (tb n : Nat) (l : LV) (h : l.length ≤ 16) : (levT tb n l).length ≤ 2400 ∧ all0 (levT tb n l) := by
  have hs0 : s0L l ≤ 6 := by unfold s0L; split <;> omega
  obtain ⟨a1, a2⟩ := szT_len l (onesL l) 0 (s0L l) hs0
  obtain ⟨b1, b2⟩ := rnT_len l (bsum l)
  have hz : (zrT n l).length ≤ 100 ∧ all0 (zrT n l) := by
    unfold zrT
    split
    · rw [toks_len]
      exact ⟨cdN_b, all0_toks _ _ _⟩
    · exact ⟨Nat.zero_le _, fun T h => by cases h⟩
  have ht : (tokT tb l).length ≤ 100 ∧ all0 (tokT tb l) := by
    unfold tokT
    split
    · rw [toks_len]
      exact ⟨by decide, all0_toks _ _ _⟩
    · rw [toks_len]
      exact ⟨cdN_b, all0_toks _ _ _⟩
  unfold levT
  rw [List.length_append, List.length_append, List.length_append]
  exact ⟨by omega, all0_app ht.2 (all0_app a2 (all0_app hz.2 b2))⟩
theorem exl_mem : ∀ (l : LV) (q : Int × Nat), q ∈ l → ∃ k, k < wd l ∧ exl l k = q.1 := by
  intro l
  induction l with
  | nil => intro q h; cases h
  | cons p l ih =>
    intro q h
    rcases List.mem_cons.mp h with e | e
    · refine ⟨p.2 + wd l, by show _ < p.2 + 1 + wd l; omega, ?_⟩
      show (if p.2 + wd l = p.2 + wd l then p.1 else _) = q.1
      rw [if_pos rfl, e]
    · obtain ⟨k, k1, k2⟩ := ih q e
      refine ⟨k, by show _ < p.2 + 1 + wd l; omega, ?_⟩
      show (if k = p.2 + wd l then p.1 else exl l k) = q.1
      rw [if_neg (by omega)]
      exact k2
theorem Row.b {c : Nat → Int} {n : Nat} {l : LV} (h : Row c n 0 l) (hc : ∀ k, k < n → -2000 ≤ c k ∧ c k ≤ 2000) : ∀ q, q ∈ l → -2000 ≤ q.1 ∧ q.1 ≤ 2000 ∧ q.1 ≠ 0 := by
  intro q hq
  obtain ⟨k, k1, k2⟩ := exl_mem l q hq
  obtain ⟨w1, w2, w3⟩ := h
  have hk : k < n - 0 := by omega
  have := w2 k hk
  rw [Nat.zero_add, k2] at this
  have := hc k (by omega)
  have := w3 q hq
  omega
