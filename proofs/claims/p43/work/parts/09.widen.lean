/-! Writer: decisions come to bits -/
theorem pv_rep {g : Nat → Nat} {c : Nat} (hc : c ≤ 1) (p : Nat) : ∀ m : Nat, (∀ i, i < m → g (p + i) = c) → pv g p m = c * (2 ^ m - 1) := by
  intro m
  induction m with
  | zero => intro _; rfl
  | succ m ih =>
    intro h
    show 2 * pv g p m + g (p + m) = c * (2 ^ (m + 1) - 1)
    rw [ih (fun i hi => h i (by omega)), h m (by omega), Nat.pow_succ]
    have := Nat.two_pow_pos m
    rcases Nat.le_one_iff_eq_zero_or_eq_one.mp hc with rfl | rfl
    · simp
    · omega
theorem pv_put {f : Nat → Nat} {p k o b : Nat} (hb : b ≤ 1) : pv (puts f (p + k) b 0) p (k + (1 + o)) = pv f p k * 2 ^ (1 + o) + (b * 2 ^ o + (1 - b) * (2 ^ o - 1)) := by
  rw [pv_add, pv_add _ (p + k) 1 o]
  have e1 : pv (puts f (p + k) b 0) p k = pv f p k := pv_cong (fun i _ hi => puts_lt hi)
  have e2 : pv (puts f (p + k) b 0) (p + k) 1 = b := by
    show 2 * 0 + puts f (p + k) b 0 (p + k + 0) = b
    unfold puts
    rw [if_neg (by omega), if_pos ⟨rfl, rfl⟩]
    omega
  have e3 : pv (puts f (p + k) b 0) (p + k + 1) o = (1 - b) * (2 ^ o - 1) := pv_rep (by omega) _ o (fun i _ => by
    unfold puts
    rw [if_neg (by omega), if_neg (by omega)])
  rw [e1, e2, e3]
theorem pv_put1 {f : Nat → Nat} {p o : Nat} : pv (puts f p 0 1) p o = 2 ^ o - 1 := by
  rw [pv_rep (c := 1) (Nat.le_refl 1) p o (fun i _ => by
    unfold puts
    rw [if_neg (by omega), if_neg (by omega)])]
  omega
theorem aw_low {f : Nat → Nat} {p k o fi low L n : Nat} (h : AW f p k o fi low L n) (hl : low < 256) : AW (puts f (p + k) 0 fi) p (k + o + 1 - fi) 0 0 (2 * low) (2 * L) (n + 1) := by
  obtain ⟨h1, h2, h3, h4⟩ := h
  refine ⟨?_, by omega, by omega, by omega⟩
  have hp := Nat.two_pow_pos o
  have e10 : (2 : Nat) ^ (10 + 0) = 1024 := rfl
  have e0 : (2 : Nat) ^ 0 = 1 := rfl
  rcases Nat.le_one_iff_eq_zero_or_eq_one.mp h3 with rfl | rfl
  · rw [show k + o + 1 - 0 = k + (1 + o) by omega, pv_put (Nat.zero_le 1), h1, e10, e0, Nat.pow_add 2 10 o, Nat.pow_add 2 1 o, show (2 : Nat) ^ 10 = 1024 from rfl, show (2 : Nat) ^ 1 = 2 from rfl]
    generalize 2 ^ o = P at *
    have : pv f p k * (1024 * P) = 512 * (pv f p k * (2 * P)) := by
      rw [Nat.mul_left_comm, Nat.mul_left_comm (pv f p k) 2 P]
      omega
    omega
  · have hk := h4 rfl
    subst hk
    rw [show 0 + o + 1 - 1 = o by omega, show p + 0 = p from rfl, pv_put1, h1, e10, e0]
    have : pv f p 0 = 0 := rfl
    rw [this]
    omega
theorem aw_high {f : Nat → Nat} {p k o fi low L R n : Nat} (h : AW f p k o fi low L n) (hl : 512 ≤ low) (hR : 1 ≤ R) (hn : L + R ≤ 2 ^ (9 + n)) : fi = 0 ∧ AW (puts f (p + k) 1 fi) p (k + o + 1 - fi) 0 0 (2 * (low - 512)) (2 * L) (n + 1) := by
  obtain ⟨h1, h2, h3, h4⟩ := h
  have hp := Nat.two_pow_pos o
  rcases Nat.le_one_iff_eq_zero_or_eq_one.mp h3 with rfl | rfl
  · refine ⟨rfl, ?_, by omega, by omega, by omega⟩
    have e10 : (2 : Nat) ^ (10 + 0) = 1024 := rfl
    have e0 : (2 : Nat) ^ 0 = 1 := rfl
    rw [show k + o + 1 - 0 = k + (1 + o) by omega, pv_put (Nat.le_refl 1), h1, e10, e0, Nat.pow_add 2 10 o, Nat.pow_add 2 1 o, show (2 : Nat) ^ 10 = 1024 from rfl, show (2 : Nat) ^ 1 = 2 from rfl]
    generalize 2 ^ o = P at *
    have : pv f p k * (1024 * P) = 512 * (pv f p k * (2 * P)) := by
      rw [Nat.mul_left_comm, Nat.mul_left_comm (pv f p k) 2 P]
      omega
    omega
  · have hk := h4 rfl
    subst hk
    have e : n = o := by omega
    rw [e, h1, Nat.pow_add 2 9 o] at hn
    have : pv f p 0 = 0 := rfl
    rw [this, show (2 : Nat) ^ 9 = 512 from rfl] at hn
    omega
theorem aw_mid {f : Nat → Nat} {p k o fi low L n : Nat} (h : AW f p k o fi low L n) (hl : 256 ≤ low) : AW f p k (o + 1) fi (2 * (low - 256)) (2 * L) (n + 1) := by
  obtain ⟨h1, h2, h3, h4⟩ := h
  refine ⟨?_, by omega, h3, h4⟩
  have hp := Nat.two_pow_pos o
  rw [h1, show 10 + (o + 1) = 10 + o + 1 by omega, Nat.pow_succ, Nat.pow_succ]
  generalize 2 ^ (10 + o) = Q at *
  have : pv f p k * (Q * 2) = 2 * (pv f p k * Q) := by
    rw [Nat.mul_comm Q 2, Nat.mul_left_comm]
  omega
