/-! A unit that was written, taken as a payload -/
theorem bit_of {c : Int} {V r : Nat} (h : c % 256 = (V : Int)) (hr : r < 8) : c / ((2 ^ (7 - r) : Nat) : Int) % 2 = ((V / 2 ^ (8 - 1 - r) % 2 : Nat) : Int) := by
  have h8 : r = 0 ∨ r = 1 ∨ r = 2 ∨ r = 3 ∨ r = 4 ∨ r = 5 ∨ r = 6 ∨ r = 7 := by omega
  rcases h8 with q | q | q | q | q | q | q | q <;> (subst q; simp only [Nat.reduceSub, Nat.reducePow]; omega)
theorem fl_get {Es : List (List Nat)} {k : Nat} {E : List Nat} (hE : Es[k]? = some E) {i x : Nat} (h : E[i]? = some x) : (fl Es Es.length)[(fl Es k).length + i]? = some x := by
  have hk : k < Es.length := by
    by_cases q : k < Es.length
    · exact q
    · rw [List.getElem?_eq_none (by omega)] at hE; cases hE
  have e : fl Es Es.length = fl Es (k + 1) ++ (Es.drop (k + 1)).flatten := by
    unfold fl
    rw [List.take_length, ← List.flatten_append, List.take_append_drop]
  have hi : i < E.length := by
    by_cases q : i < E.length
    · exact q
    · rw [List.getElem?_eq_none (by omega)] at h; cases h
  rw [e, fl_s hE, List.getElem?_append_left (by rw [List.length_append]; omega), List.getElem?_append_right (by omega)]
  rw [show (fl Es k).length + i - (fl Es k).length = i by omega]
  exact h
theorem UB_0 (c : Nat) (f : Nat → Nat) (j : Nat) : (UB c f j)[0]? = some c := rfl
theorem UB_1 {c : Nat} {f : Nat → Nat} {j k : Nat} (h : k < j) : (UB c f j)[1 + k]? = some (pv f (8 * k) 8) := by
  unfold UB
  rw [show 1 + k = k + 1 by omega, List.getElem?_cons_succ, List.getElem?_map, List.getElem?_range h]
  rfl
theorem upay_ok {G : GG} {M : DD} {b d da pl sz p c j : Nat} {f : Nat → Nat} {Es : List (List Nat)} {p0 : Int32} (hb : b < G.1 ∧ G.2.1 b = 8) (hd : M.2 b 8 = some d ∧ d < G.1 ∧ G.2.1 d = 12) (hda : M.2 b 0 = some da ∧ da < G.1 ∧ G.2.1 da = 12) (hpl : M.2 b 1 = some pl ∧ pl < G.1 ∧ G.2.1 pl = 13) (hsz : M.2 b 2 = some sz ∧ sz < G.1 ∧ G.2.1 sz = 13) (hn : d ≠ da) (hK : KF G M da pl sz Es Es.length) (hp : p0.toInt = p) (hp1 : p < G.2.2 pl) (hp2 : p < G.2.2 sz) (hE : Es[p]? = some (emu 0 (UB c f j))) (hfl : ∀ i, f i ≤ 1) (hcap : (fl Es Es.length).length ≤ G.2.2 da) (hcd : (emu 0 (UB c f j)).length ≤ G.2.2 d) (hm : (fl Es Es.length).length ≤ 900000) (hrd : ∀ k, -128 ≤ (M.1 d k).toInt ∧ (M.1 d k).toInt ≤ 127) :
    OK (FX8_loadPayload G M b p0) (fun y => (y.1 b 9).toInt = 1 + j ∧ (y.1 d 0).toInt % 256 = (c : Int) ∧ (∀ i, i < 8 * j → (y.1 d (1 + i / 8)).toInt / ((2 ^ (7 - i % 8) : Nat) : Int) % 2 = f i) ∧ (∀ k, -128 ≤ (y.1 d k).toInt ∧ (y.1 d k).toInt ≤ 127) ∧ y.2 = M.2 ∧ (∀ x k, x ≠ d → ¬ (x = b ∧ k = 9) → y.1 x k = M.1 x k)) := by
  obtain ⟨K1, K2, K3⟩ := hK
  have hk : p < Es.length := by
    by_cases q : p < Es.length
    · exact q
    · rw [List.getElem?_eq_none (by omega)] at hE; cases hE
  obtain ⟨u1, u2⟩ := K3 p _ hk hE
  have hle : (fl Es p).length + (emu 0 (UB c f j)).length ≤ (fl Es Es.length).length := by
    have := fl_le (Es := Es) (show p + 1 ≤ Es.length by omega)
    rw [fl_s hE, List.length_append] at this
    exact this
  refine (payload_ok (L := 0) hb hd hda hpl hsz hn hp hp1 hp2 u2 u1 (by omega) hcd (by omega) (fun i x hx => K1 _ x (fl_get hE hx)) K2 hrd).mono ?_
  rintro y ⟨y1, y2, y3, y4, y5⟩
  rw [dem_emu] at y1 y2
  rw [UB_len] at y1
  refine ⟨by omega, y2 0 c (UB_0 c f j), fun i hi => ?_, y3, y4, y5⟩
  have h1 := y2 (1 + i / 8) _ (UB_1 (c := c) (f := f) (show i / 8 < j by omega))
  rw [bit_of h1 (show i % 8 < 8 by omega), pv_bit hfl _ _ _ (by omega), show 8 * (i / 8) + i % 8 = i by omega]
