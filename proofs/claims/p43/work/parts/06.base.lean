/-! ints: what the operations come to -/
theorem pz_cond (x : Int32) : x.toInt = if 2 * x.toBitVec.toNat < 4294967296 then (x.toBitVec.toNat : Int) else (x.toBitVec.toNat : Int) - 4294967296 := by
  have h := BitVec.toInt_eq_toNat_cond x.toBitVec
  exact h
theorem pz_and1 (x : Int32) : (x &&& (1 : Int32)).toInt = x.toInt % 2 := by
  have h1 : (x &&& (1 : Int32)).toBitVec.toNat = x.toBitVec.toNat % 2 := by
    rw [Int32.toBitVec_and, BitVec.toNat_and]
    exact Nat.and_two_pow_sub_one_eq_mod x.toBitVec.toNat 1
  have h2 := pz_cond (x &&& (1 : Int32))
  have h3 := pz_cond x
  have := x.toBitVec.isLt
  rw [h1] at h2
  rw [h2, h3]
  split <;> split <;> omega
theorem pz_and3 (x : Int32) : (x &&& (3 : Int32)).toInt = x.toInt % 4 := by
  have h1 : (x &&& (3 : Int32)).toBitVec.toNat = x.toBitVec.toNat % 4 := by
    rw [Int32.toBitVec_and, BitVec.toNat_and]
    exact Nat.and_two_pow_sub_one_eq_mod x.toBitVec.toNat 2
  have h2 := pz_cond (x &&& (3 : Int32))
  have h3 := pz_cond x
  have := x.toBitVec.isLt
  rw [h1] at h2
  rw [h2, h3]
  split <;> split <;> omega
theorem pz_and7 (x : Int32) : (x &&& (7 : Int32)).toInt = x.toInt % 8 := by
  have h1 : (x &&& (7 : Int32)).toBitVec.toNat = x.toBitVec.toNat % 8 := by
    rw [Int32.toBitVec_and, BitVec.toNat_and]
    exact Nat.and_two_pow_sub_one_eq_mod x.toBitVec.toNat 3
  have h2 := pz_cond (x &&& (7 : Int32))
  have h3 := pz_cond x
  have := x.toBitVec.isLt
  rw [h1] at h2
  rw [h2, h3]
  split <;> split <;> omega
theorem pz_and255 (x : Int32) : (x &&& (255 : Int32)).toInt = x.toInt % 256 := by
  have h1 : (x &&& (255 : Int32)).toBitVec.toNat = x.toBitVec.toNat % 256 := by
    rw [Int32.toBitVec_and, BitVec.toNat_and]
    exact Nat.and_two_pow_sub_one_eq_mod x.toBitVec.toNat 8
  have h2 := pz_cond (x &&& (255 : Int32))
  have h3 := pz_cond x
  have := x.toBitVec.isLt
  rw [h1] at h2
  rw [h2, h3]
  split <;> split <;> omega
theorem pz_sar (x b : Int32) (n : Nat) (hb : (b.toBitVec.smod 32).toNat = n) : (x >>> b).toInt = x.toInt / ((2 ^ n : Nat) : Int) := by
  show (x >>> b).toBitVec.toInt = x.toBitVec.toInt / ((2 ^ n : Nat) : Int)
  rw [Int32.toBitVec_shiftRight]
  unfold BitVec.sshiftRight'
  rw [hb, BitVec.toInt_sshiftRight, Int.shiftRight_eq_div_pow]
theorem pz_sar1 (x : Int32) : (x >>> ((1 : Int32) &&& 31)).toInt = x.toInt / 2 := pz_sar x _ 1 (by decide)
theorem pz_sar3 (x : Int32) : (x >>> ((3 : Int32) &&& 31)).toInt = x.toInt / 8 := pz_sar x _ 3 (by decide)
theorem pz_sar6 (x : Int32) : (x >>> ((6 : Int32) &&& 31)).toInt = x.toInt / 64 := pz_sar x _ 6 (by decide)
theorem pz_sar8 (x : Int32) : (x >>> ((8 : Int32) &&& 31)).toInt = x.toInt / 256 := pz_sar x _ 8 (by decide)
theorem pz_sar9 (x : Int32) : (x >>> ((9 : Int32) &&& 31)).toInt = x.toInt / 512 := pz_sar x _ 9 (by decide)
theorem pz_shl1 (x : Int32) (h0 : -1073741824 ≤ x.toInt) (h1 : x.toInt < 1073741824) : (x <<< ((1 : Int32) &&& 31)).toInt = 2 * x.toInt := by
  have h2 : (x <<< ((1 : Int32) &&& 31)).toBitVec.toNat = (x.toBitVec.toNat * 2) % 4294967296 := by
    rw [Int32.toBitVec_shiftLeft]
    have e : (((1 : Int32) &&& 31).toBitVec.smod 32) = 1#32 := by decide
    rw [e]
    show (x.toBitVec <<< (1#32).toNat).toNat = _
    rw [BitVec.toNat_shiftLeft, Nat.shiftLeft_eq]
    rfl
  have h3 := pz_cond (x <<< ((1 : Int32) &&& 31))
  have h4 := pz_cond x
  have := x.toBitVec.isLt
  rw [h2] at h3
  rw [h3]
  split at h4 <;> split <;> omega
theorem pz_or1 (x b : Int32) (h0 : 0 ≤ x.toInt) (hx : x.toInt % 2 = 0) (hb0 : 0 ≤ b.toInt) (hb1 : b.toInt ≤ 1) : (x ||| b).toInt = x.toInt + b.toInt := by
  have h4 := pz_cond x
  have h5 := pz_cond b
  have l4 := x.toBitVec.isLt
  have l5 := b.toBitVec.isLt
  have h2 : (x ||| b).toBitVec.toNat = x.toBitVec.toNat + b.toBitVec.toNat := by
    rw [Int32.toBitVec_or, BitVec.toNat_or]
    have e1 : x.toBitVec.toNat = 2 ^ 1 * (x.toBitVec.toNat / 2) := by
      split at h4 <;> omega
    have e2 : b.toBitVec.toNat < 2 ^ 1 := by
      split at h5 <;> omega
    rw [e1]
    have := Nat.two_pow_add_eq_or_of_lt e2 (x.toBitVec.toNat / 2)
    omega
  have h3 := pz_cond (x ||| b)
  rw [h2] at h3
  rw [h3]
  split at h4 <;> split at h5 <;> split <;> omega
theorem pz_mulc {c x : Int32} {a : Int} (hc : c.toInt = a) (h0 : -2147483648 ≤ a * x.toInt) (h1 : a * x.toInt ≤ 2147483647) : (c * x).toInt = a * x.toInt := by
  rw [ti_mul (by rw [hc]; exact h0) (by rw [hc]; exact h1), hc]
theorem pz_lt {x y : Int32} : x < y ↔ x.toInt < y.toInt := Int32.lt_iff_toInt_lt
theorem pz_le {x y : Int32} : x ≤ y ↔ x.toInt ≤ y.toInt := Int32.le_iff_toInt_le
theorem pz_eq {x y : Int32} : x = y ↔ x.toInt = y.toInt := ⟨fun h => by rw [h], fun h => Int32.toInt_inj.mp h⟩
theorem pz_nat {x : Int32} (h : 0 ≤ x.toInt) : (x.toNatClampNeg : Int) = x.toInt := nat_of h
theorem pz_ix {x : Int32} {n : Nat} (h : 0 ≤ x.toInt) (hn : x.toInt < n) : ¬ (x < 0 ∨ n ≤ x.toNatClampNeg) := by
  intro q
  rcases q with q | q
  · exact lt_z h q
  · have := nat_of h
    omega
theorem pz_ofn {n : Nat} (h : n < 2147483648) : (Int32.ofNat n).toInt = n := Int32.toInt_ofNat_of_lt h
theorem pz_nar (x : Int32) : (vp_nar .byte x).toInt = x.toInt.bmod 256 := by
  show (x.toInt8.toInt32).toInt = _
  rw [Int8.toInt_toInt32, Int32.toInt_toInt8]
theorem pz_i8 (x : Int32) : (vp_nar .byte (x.toInt8.toInt32)).toInt % 256 = x.toInt % 256 ∧ -128 ≤ (vp_nar .byte (x.toInt8.toInt32)).toInt ∧ (vp_nar .byte (x.toInt8.toInt32)).toInt ≤ 127 := by
  rw [pz_nar, Int8.toInt_toInt32, Int32.toInt_toInt8]
  simp only [Int.bmod_def]
  split <;> split <;> omega
theorem pz_fit {v : Int32} (h0 : -128 ≤ v.toInt) (h1 : v.toInt ≤ 127) : fits .byte (.int v) = true := by
  show (decide (-128 ≤ v) && decide (v ≤ 127)) = true
  have e1 : (-128 : Int32).toInt = -128 := rfl
  have e2 : (127 : Int32).toInt = 127 := rfl
  simp only [Bool.and_eq_true, decide_eq_true_eq, Int32.le_iff_toInt_le, e1, e2]
  exact ⟨h0, h1⟩
/-! memory: what stands where after a write -/
theorem uI_s (M : DD) (a k : Nat) (v : Int32) : (uI M a k v).1 a k = v := by simp [uI]
theorem uI_n (M : DD) {a k b j : Nat} (v : Int32) (h : ¬ (b = a ∧ j = k)) : (uI M a k v).1 b j = M.1 b j := by simp [uI, h]
theorem uI_p (M : DD) (a k b j : Nat) (v : Int32) : (uI M a k v).2 b j = M.2 b j := rfl
theorem uP_i (M : DD) (a k b j : Nat) (v : Option Nat) : (uP M a k v).1 b j = M.1 b j := rfl
theorem uP_s (M : DD) (a k : Nat) (v : Option Nat) : (uP M a k v).2 a k = v := by simp [uP]
theorem uP_n (M : DD) {a k b j : Nat} (v : Option Nat) (h : ¬ (b = a ∧ j = k)) : (uP M a k v).2 b j = M.2 b j := by simp [uP, h]
theorem ok_bi {α β : Type} {o : Option α} {k : α → Option β} {P : β → Prop} (h : OK o (fun y => OK (k y) P)) : OK (bnd o k) P := by
  obtain ⟨y, h1, h2⟩ := h
  subst h1
  exact h2
theorem ok_lt {α β : Type} {x : α} {k : α → Option β} {P : β → Prop} (h : OK (k x) P) : OK (ltt x k) P := h
/-! bits: a number of bits from a place on -/
def pv (f : Nat → Nat) (p : Nat) : Nat → Nat
  | 0 => 0
  | k + 1 => 2 * pv f p k + f (p + k)
theorem pv_cong {f g : Nat → Nat} {p : Nat} : ∀ {k : Nat}, (∀ i, p ≤ i → i < p + k → f i = g i) → pv f p k = pv g p k := by
  intro k
  induction k with
  | zero => intro _; rfl
  | succ k ih =>
    intro h
    show 2 * pv f p k + f (p + k) = 2 * pv g p k + g (p + k)
    rw [ih (fun i h1 h2 => h i h1 (by omega)), h (p + k) (by omega) (by omega)]
theorem pv_lt {f : Nat → Nat} {p : Nat} (hf : ∀ i, f i ≤ 1) : ∀ k : Nat, pv f p k < 2 ^ k := by
  intro k
  induction k with
  | zero => exact Nat.one_pos
  | succ k ih =>
    show 2 * pv f p k + f (p + k) < 2 ^ (k + 1)
    have := hf (p + k)
    rw [Nat.pow_succ]
    omega
theorem pv_add (f : Nat → Nat) (p a : Nat) : ∀ b : Nat, pv f p (a + b) = pv f p a * 2 ^ b + pv f (p + a) b := by
  intro b
  induction b with
  | zero => simp [pv]
  | succ b ih =>
    show 2 * pv f p (a + b) + f (p + (a + b)) = pv f p a * 2 ^ (b + 1) + (2 * pv f (p + a) b + f (p + a + b))
    rw [ih, Nat.pow_succ, Nat.add_assoc p a b]
    have : pv f p a * (2 ^ b * 2) = 2 * (pv f p a * 2 ^ b) := by
      rw [Nat.mul_comm (2 ^ b) 2, ← Nat.mul_assoc, Nat.mul_comm (pv f p a) 2, Nat.mul_assoc]
    omega
theorem pv_bit {f : Nat → Nat} (hf : ∀ i, f i ≤ 1) (p : Nat) : ∀ n j : Nat, j < n → pv f p n / 2 ^ (n - 1 - j) % 2 = f (p + j) := by
  intro n
  induction n with
  | zero => intro j h; omega
  | succ n ih =>
    intro j h
    show (2 * pv f p n + f (p + n)) / 2 ^ (n + 1 - 1 - j) % 2 = f (p + j)
    have hb := hf (p + n)
    by_cases hj : j = n
    · subst hj
      rw [show j + 1 - 1 - j = 0 by omega]
      simp
      omega
    · rw [show n + 1 - 1 - j = (n - 1 - j) + 1 by omega, Nat.pow_succ, Nat.mul_comm (2 ^ (n - 1 - j)) 2, ← Nat.div_div_eq_div_mul, show (2 * pv f p n + f (p + n)) / 2 = pv f p n by omega]
      exact ih j (by omega)
