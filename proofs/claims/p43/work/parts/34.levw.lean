/-! Writer: LEVELS -/
/-- the writer amid LEVELS: what its rows hold, what else stands -/
def KP (G : GG) (M : DD) (a u t sz bf : Nat) (l : LV) (N : DD) : Prop := N.2 a 14 = some sz ∧ N.2 a 15 = some bf ∧ LH N sz bf l ∧ WL G M a u t sz bf N
theorem KP.wy {G : GG} {M N O : DD} {a u t sz bf v : Nat} {l : LV} {L : NN} (h : KP G M a u t sz bf l N) (ha : a < G.1) (hau : a ≠ u) (hat : a ≠ t) (hsz : sz < G.1 ∧ sz ≠ u ∧ sz ≠ t ∧ sz ≠ a) (hbf : bf < G.1 ∧ bf ≠ u ∧ bf ≠ t ∧ bf ≠ a) (hv : v = u ∨ G.1 ≤ v) (h2 : WY (xt G L) N a v t O) : KP G M a u t sz bf l O := by
  obtain ⟨k1, k2, k3, k4⟩ := h
  have hne : ∀ x, x < G.1 → x ≠ u → x ≠ v := fun x hx hxu e => by
    rcases hv with q | q
    · exact hxu (e.trans q)
    · omega
  refine ⟨?_, ?_, fun j q hj => ?_, fun x k hx hxu hxt hxs hxb hxk => ?_⟩
  · rw [(h2 a 14 (xt_lt L ha) (hne a ha hau) hat (by simp)).2]; exact k1
  · rw [(h2 a 15 (xt_lt L ha) (hne a ha hau) hat (by simp)).2]; exact k2
  · obtain ⟨q1, q2⟩ := k3 j q hj
    rw [(h2 sz j (xt_lt L hsz.1) (hne sz hsz.1 hsz.2.1) hsz.2.2.1 (fun z => hsz.2.2.2 z.1)).1, (h2 bf j (xt_lt L hbf.1) (hne bf hbf.1 hbf.2.1) hbf.2.2.1 (fun z => hbf.2.2.2 z.1)).1]
    exact ⟨q1, q2⟩
  · obtain ⟨p1, p2⟩ := k4 x k hx hxu hxt hxs hxb hxk
    obtain ⟨p3, p4⟩ := h2 x k (xt_lt L hx) (hne x hx hxu) hxt (fun z => hxk ⟨z.1, Or.inl (by omega)⟩)
    exact ⟨p3.trans p1, p4.trans p2⟩
/-- a code of decisions amid LEVELS -/
theorem lvcode_ok {G : GG} {M N : DD} {a u0 t u sz bf : Nat} {f0 f : Nat → Nat} {n0 n : Nat} {S : SS} {D : List Tok} {l : LV} {L : NN} {e V m : Nat} {p0 p2 : Int32} {p1 : Int64} (h : CN G a u0 t f0 n0 S D (xt G L) N u f n) (hk : KP G M a u0 t sz bf l N) (ha : a < G.1) (hau : a ≠ u0) (hat : a ≠ t) (hsz : sz < G.1 ∧ sz ≠ u0 ∧ sz ≠ t ∧ sz ≠ a) (hbf : bf < G.1 ∧ bf ≠ u0 ∧ bf ≠ t ∧ bf ≠ a) (he : p0.toInt = e) (he2 : e ≤ 16) (hv : p1.toInt = V) (hm : p2.toInt = m) (hm2 : m ≤ 61) (hB : Bd (runs D S) + 8 * m ≤ 800000) : OK (FX10_code (xt G L) N a p0 p1 p2) (fun y => (∃ v g k, CN G a u0 t f0 n0 S (D ++ toks e V m) (xt G (L ++ y.1)) y.2 v g k) ∧ KP G M a u0 t sz bf l y.2 ∧ (∀ j, 13 ≤ j → y.2.1 a j = N.1 a j)) := by
  refine (code_ok h.2.1 he he2 hv hm hm2 hB).mono (fun y hy => ?_)
  obtain ⟨v, g, k, hCR⟩ := hy
  have hWY := hCR.2.2.2.2.1
  have huv : u = u0 ∨ G.1 ≤ u := h.1
  have hne : a ≠ u := fun q => by
    rcases huv with z | z
    · exact hau (q.trans z)
    · omega
  refine ⟨⟨v, g, k, ?_⟩, hk.wy ha hau hat hsz hbf huv hWY, fun j hj => (hWY a j (xt_lt L ha) hne hat (fun z => by omega)).1⟩
  rw [← xt_xt]
  exact h.tr (xt_ge G L) hCR.cn
theorem drop_cons {l : LV} {i : Nat} (h : i < l.length) : l.drop i = l[i] :: l.drop (i + 1) := List.drop_eq_getElem_cons h
theorem szT_at {ones i s : Nat} {l : LV} (h : i < l.length) : szT ones i s (l.drop i) = if i < ones then toks 12 (if l[i].1 < 0 then 1 else 0) 1 ++ szT ones (i + 1) s (l.drop (i + 1)) else oneT s (lvV l[i].1 (mor ones i)).toNat ++ szT ones (i + 1) (nxs s l[i].1) (l.drop (i + 1)) := by
  rw [drop_cons h]
  rfl
/-- the next width, as the code has it -/
theorem nxs_ok {s : Nat} {x : Int} {p0 xx : Int32} (hs : p0.toInt = s) (hs6 : s ≤ 6) (hx : xx.toInt = x) (hx0 : -2000 ≤ x) (hx1 : x ≤ 2000) {α : Type} {N : α} {y110 : Int32} (hy : y110.toInt = ((if s = 0 then 1 else s : Nat) : Int)) : (6 ≤ (if s = 0 then 1 else s) → nxs s x = (if s = 0 then 1 else s)) ∧ (¬ 6 ≤ (if s = 0 then 1 else s) → (((3 : Int32) <<< ((y110 - (1 : Int32)) &&& 31)).toInt = ((3 * 2 ^ ((if s = 0 then 1 else s) - 1) : Nat) : Int)) ∧ (if (0 : Int32) ≤ xx then xx else 0 - xx).toInt = x.natAbs) := by
  have e1 : (1 : Int32).toInt = 1 := rfl
  have e3 : (3 : Int32).toInt = 3 := rfl
  refine ⟨fun h => ?_, fun h => ⟨?_, ?_⟩⟩
  · unfold nxs
    rw [if_pos h]
  · have h1 : 1 ≤ (if s = 0 then 1 else s) := by split <;> omega
    generalize (if s = 0 then 1 else s) = s1 at *
    have hp : (2 : Nat) ^ (s1 - 1) ≤ 2 ^ 5 := Nat.pow_le_pow_right (by decide) (by omega)
    have hp5 : (2 : Nat) ^ 5 = 32 := rfl
    have hsub : (y110 - (1 : Int32)).toInt = ((s1 - 1 : Nat) : Int) := by
      rw [ti_sub (by omega) (by omega)]
      omega
    rw [pz_shlv hsub (by omega) (by omega) (by rw [e3]; omega), e3, Int.natCast_mul]
    rfl
  · rw [abs32 (by omega), hx]
