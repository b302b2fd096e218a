/-! the coder's memory: what stands where, and which values may stand there -/
def TI (x : Int32) (a : Int) : Prop := x.toInt = a
def kdL : List Nat := [11, 12, 8, 12, 13, 13, 13, 13, 12, 13, 13, 13, 1, 5, 13, 13, 13, 13, 7, 14, 14, 15, 13, 13, 13, 13, 13, 13, 13, 13, 13, 13, 13, 13, 13, 13, 13, 13, 13, 13, 13, 13, 13, 13, 13, 13, 13, 13, 13, 13, 13, 13, 13, 13, 13, 13, 13, 13, 13, 13, 13, 13, 13, 9, 14, 13, 13, 13, 13, 13, 13, 13, 13, 13, 13, 13, 6, 13, 13, 13, 13, 13, 13, 13, 13, 13, 2, 13, 15, 13, 13, 13, 13, 15, 13, 13, 13, 13, 13, 13, 3, 13, 13, 13, 13, 3, 13, 13, 13, 13, 3, 13, 13, 13, 13, 13, 0, 13, 13, 10, 12, 12, 13, 13, 13, 9, 14, 13, 13, 13, 13, 13, 13, 13, 13, 13, 13, 13, 6, 13, 13, 13, 13, 13, 13, 13, 13, 13, 2, 13, 7, 14, 14, 15, 13, 13, 13, 13, 13, 13, 13, 13, 13, 13, 13, 13, 13, 13, 13, 13, 13, 13, 13, 13, 13, 13, 13, 13, 13, 13, 13, 13, 13, 13, 13, 13, 13, 13, 13, 13, 13, 13, 13, 13, 13, 13, 15, 13, 13, 13, 13, 13, 13, 13, 13, 13, 13, 13, 13, 15, 13, 13, 13, 13, 13, 3, 13, 13, 13, 13, 13, 13]
def lnL : List Nat := [0, 65536, 0, 65536, 400, 400, 400, 400, 65536, 240, 4, 6, 0, 0, 272, 12000, 800, 16, 0, 10, 6, 40, 0, 0, 0, 0, 0, 0, 0, 0, 0, 0, 0, 0, 0, 0, 0, 0, 0, 0, 0, 0, 0, 0, 0, 0, 0, 0, 0, 0, 0, 0, 0, 0, 0, 0, 0, 0, 0, 0, 0, 0, 280, 0, 18, 18, 18, 256, 512, 768, 13824, 96, 4, 80, 16, 64, 0, 384, 384, 384, 441, 336, 6, 16, 16, 34, 0, 1024, 4, 24, 24, 24, 24, 4, 12, 12, 12, 12, 24, 24, 0, 27, 32, 36, 96, 0, 27, 32, 36, 96, 0, 27, 32, 36, 96, 600, 0, 24, 24, 0, 4096, 4096, 272, 16, 16, 0, 18, 18, 18, 256, 512, 768, 13824, 96, 4, 80, 16, 64, 0, 384, 384, 384, 441, 336, 6, 16, 16, 34, 0, 1024, 0, 10, 6, 40, 0, 0, 0, 0, 0, 0, 0, 0, 0, 0, 0, 0, 0, 0, 0, 0, 0, 0, 0, 0, 0, 0, 0, 0, 0, 0, 0, 0, 0, 0, 0, 0, 0, 0, 0, 0, 0, 0, 0, 0, 280, 24, 12, 0, 0, 0, 0, 0, 0, 0, 0, 0, 0, 0, 0, 3, 0, 0, 0, 420, 29, 0, 27, 32, 36, 96, 12, 1]
def fT (c : Nat) : Nat → Nat := match c with
  | 0 => fun k => match k with
    | 0 => 1
    | 2 => 2
    | 3 => 12
    | 4 => 116
    | _ => 0
  | 2 => fun k => match k with
    | 0 => 3
    | 1 => 4
    | 2 => 5
    | 5 => 6
    | 6 => 7
    | 8 => 8
    | 10 => 9
    | 12 => 10
    | 13 => 11
    | _ => 0
  | 12 => fun k => match k with
    | 0 => 13
    | 1 => 18
    | 2 => 63
    | 3 => 76
    | 4 => 86
    | 5 => 88
    | 6 => 93
    | 7 => 98
    | 9 => 99
    | 13 => 115
    | _ => 0
  | 13 => fun k => match k with
    | 10 => 14
    | 11 => 15
    | 13 => 16
    | 14 => 17
    | _ => 0
  | 18 => fun k => match k with
    | 0 => 19
    | 2 => 20
    | 15 => 21
    | 16 => 62
    | _ => 0
  | 63 => fun k => match k with
    | 3 => 64
    | 4 => 65
    | 5 => 66
    | 6 => 67
    | 7 => 68
    | 8 => 69
    | 9 => 70
    | 10 => 71
    | 12 => 72
    | 13 => 73
    | 15 => 74
    | 17 => 75
    | _ => 0
  | 76 => fun k => match k with
    | 0 => 77
    | 1 => 78
    | 2 => 79
    | 3 => 80
    | 4 => 81
    | 5 => 82
    | 6 => 83
    | 7 => 84
    | 8 => 85
    | _ => 0
  | 86 => fun k => match k with
    | 0 => 87
    | _ => 0
  | 88 => fun k => match k with
    | 0 => 89
    | 1 => 90
    | 2 => 91
    | 3 => 92
    | _ => 0
  | 93 => fun k => match k with
    | 0 => 94
    | 1 => 95
    | 2 => 96
    | 3 => 97
    | _ => 0
  | 100 => fun k => match k with
    | 0 => 101
    | 1 => 102
    | 2 => 103
    | 3 => 104
    | _ => 0
  | 105 => fun k => match k with
    | 0 => 106
    | 1 => 107
    | 2 => 108
    | 3 => 109
    | _ => 0
  | 110 => fun k => match k with
    | 0 => 111
    | 1 => 112
    | 2 => 113
    | 3 => 114
    | _ => 0
  | 116 => fun k => match k with
    | 0 => 117
    | 1 => 118
    | 2 => 119
    | 3 => 125
    | 4 => 138
    | 5 => 148
    | 6 => 150
    | 7 => 195
    | 8 => 196
    | 9 => 209
    | 17 => 213
    | 20 => 214
    | _ => 0
  | 119 => fun k => match k with
    | 13 => 122
    | 14 => 123
    | 15 => 124
    | _ => 0
  | 125 => fun k => match k with
    | 1 => 215
    | 2 => 220
    | 3 => 126
    | 4 => 127
    | 5 => 128
    | 6 => 129
    | 7 => 130
    | 8 => 131
    | 9 => 132
    | 10 => 133
    | 12 => 134
    | 13 => 135
    | 15 => 136
    | 17 => 137
    | _ => 0
  | 138 => fun k => match k with
    | 0 => 139
    | 1 => 140
    | 2 => 141
    | 3 => 142
    | 4 => 143
    | 5 => 144
    | 6 => 145
    | 7 => 146
    | 8 => 147
    | _ => 0
  | 148 => fun k => match k with
    | 0 => 149
    | _ => 0
  | 150 => fun k => match k with
    | 0 => 151
    | 2 => 152
    | 15 => 153
    | 16 => 194
    | _ => 0
  | 215 => fun k => match k with
    | 0 => 216
    | 1 => 217
    | 2 => 218
    | 3 => 219
    | _ => 0
  | _ => fun _ => 0
theorem ti_inj {x y : Int32} {a : Int} (h : TI x a) (g : TI y a) : y = x := Int32.toInt_inj.mp (Eq.trans g (Eq.symm h))
theorem ti_bd {x : Int32} {a lo hi : Int} (h : TI x a) (h1 : lo ≤ a) (h2 : a ≤ hi) : lo ≤ x.toInt ∧ x.toInt ≤ hi := by
  have e : x.toInt = a := h
  omega
theorem ti_ib {x : Int32} {a lo hi : Int} (h : TI x a) (h1 : lo ≤ a) (h2 : a ≤ hi) : ib lo hi x := ti_bd h h1 h2
theorem ti_e {x y : Int32} {a : Int} (e : x = y) (h : TI y a) : TI x a := by rw [e]; exact h
theorem av_add {x y : Int32} {a b : Int} (hx : TI x a) (hy : TI y b) (h1 : -2147483648 ≤ a + b) (h2 : a + b ≤ 2147483647) : TI (x + y) (a + b) := by
  have e1 : x.toInt = a := hx
  have e2 : y.toInt = b := hy
  show (x + y).toInt = a + b
  rw [← e1, ← e2] at h1 h2 ⊢
  exact ti_add h1 h2
theorem av_sub {x y : Int32} {a b : Int} (hx : TI x a) (hy : TI y b) (h1 : -2147483648 ≤ a - b) (h2 : a - b ≤ 2147483647) : TI (x - y) (a - b) := by
  have e1 : x.toInt = a := hx
  have e2 : y.toInt = b := hy
  show (x - y).toInt = a - b
  rw [← e1, ← e2] at h1 h2 ⊢
  exact ti_sub h1 h2
theorem av_mul {x y : Int32} {a b : Int} (hx : TI x a) (hy : TI y b) (h1 : -2147483648 ≤ a * b) (h2 : a * b ≤ 2147483647) : TI (x * y) (a * b) := by
  have e1 : x.toInt = a := hx
  have e2 : y.toInt = b := hy
  show (x * y).toInt = a * b
  rw [← e1, ← e2] at h1 h2 ⊢
  exact ti_mul h1 h2
theorem av_div {x y : Int32} {a b : Int} (hx : TI x a) (hy : TI y b) (h0 : 0 ≤ a) (hb : 0 < b) : TI (x / y) (a / b) := by
  have e1 : x.toInt = a := hx
  have e2 : y.toInt = b := hy
  show (x / y).toInt = a / b
  rw [Int32.toInt_div, e1, e2, Int.tdiv_eq_ediv_of_nonneg h0]
  have h3 : a / b ≤ a := Int.ediv_le_self _ h0
  have h4 : 0 ≤ a / b := Int.ediv_nonneg h0 (by omega)
  have h5 := Int32.toInt_lt x
  apply bm_in <;> omega
theorem av_mod {x y : Int32} {a b : Int} (hx : TI x a) (hy : TI y b) (h0 : 0 ≤ a) (hb : 0 < b) : TI (x - x / y * y) (a % b) := by
  have h1 : TI (x / y) (a / b) := av_div hx hy h0 hb
  have h5 : x.toInt = a := hx
  have h6 := Int32.toInt_lt x
  have h7 := Int.mul_ediv_add_emod a b
  have h8 := Int.emod_nonneg a (show b ≠ 0 by omega)
  have h10 : a / b * b = b * (a / b) := Int.mul_comm _ _
  have h4 : 0 ≤ a / b := Int.ediv_nonneg h0 (by omega)
  have h11 : 0 ≤ b * (a / b) := Int.mul_nonneg (by omega) h4
  have h2 : TI (x / y * y) (a / b * b) := av_mul h1 hy (by omega) (by omega)
  have h3 : TI (x - x / y * y) (a - a / b * b) := av_sub hx h2 (by omega) (by omega)
  have h9 : a - a / b * b = a % b := by omega
  rw [← h9]
  exact h3
theorem av_modb {x y : Int32} {b : Int} (hy : TI y b) (hb : 0 < b) (h1 : b ≤ 65536) : -b < (x - x / y * y).toInt ∧ (x - x / y * y).toInt < b := by
  have e2 : y.toInt = b := hy
  have h2 : (x / y).toInt = x.toInt.tdiv b := by
    rw [Int32.toInt_div, e2]
    have h3 := Int32.toInt_lt x
    have h4 := Int32.le_toInt x
    by_cases h0 : 0 ≤ x.toInt
    · rw [Int.tdiv_eq_ediv_of_nonneg h0]
      have h6 : x.toInt / b ≤ x.toInt := Int.ediv_le_self _ h0
      have h7 : 0 ≤ x.toInt / b := Int.ediv_nonneg h0 (by omega)
      exact bm_in (by omega) (by omega)
    · have h6 : x.toInt.tdiv b = -((-x.toInt) / b) := by
        rw [← Int.tdiv_eq_ediv_of_nonneg (by omega : 0 ≤ -x.toInt), Int.neg_tdiv, Int.neg_neg]
      rw [h6]
      have h7 : (-x.toInt) / b ≤ -x.toInt := Int.ediv_le_self _ (by omega)
      have h8 : 0 ≤ (-x.toInt) / b := Int.ediv_nonneg (by omega) (by omega)
      exact bm_in (by omega) (by omega)
  have h3 : (x / y * y).toInt = (x.toInt.tdiv b * b).bmod (2 ^ 32) := by rw [Int32.toInt_mul, h2, e2]
  have h4 : (x - x / y * y).toInt = x.toInt.tmod b := by
    rw [Int32.toInt_sub, h3, Int.sub_bmod_bmod]
    have h5 := Int.tmod_add_mul_tdiv x.toInt b
    have h6 : x.toInt - x.toInt.tdiv b * b = x.toInt.tmod b := by
      rw [Int.mul_comm]
      omega
    rw [h6]
    have h7 := Int.tmod_lt_of_pos x.toInt hb
    have h8 : -b < x.toInt.tmod b := Int.lt_tmod_of_pos x.toInt hb
    exact bm_in (by omega) (by omega)
  rw [h4]
  exact ⟨Int.lt_tmod_of_pos x.toInt hb, Int.tmod_lt_of_pos x.toInt hb⟩
theorem av_and {x m : Int32} {a : Int} (k : Nat) (hx : TI x a) (hm : m.toBitVec.toNat = 2 ^ k - 1) (hk : k ≤ 30) : TI (x &&& m) (a % ((2 ^ k : Nat) : Int)) := by
  have e1 : x.toInt = a := hx
  have h1 : (x &&& m).toBitVec.toNat = x.toBitVec.toNat % 2 ^ k := by
    rw [Int32.toBitVec_and, BitVec.toNat_and, hm]
    exact Nat.and_two_pow_sub_one_eq_mod x.toBitVec.toNat k
  have h2 := pz_cond (x &&& m)
  have h3 := pz_cond x
  have h4 := x.toBitVec.isLt
  have h5 : (2 : Nat) ^ k ≤ 2 ^ 30 := Nat.pow_le_pow_right (by omega) hk
  have h6 : x.toBitVec.toNat % 2 ^ k < 2 ^ k := Nat.mod_lt _ (Nat.two_pow_pos k)
  show (x &&& m).toInt = a % ((2 ^ k : Nat) : Int)
  rw [h1] at h2
  rw [h2, if_pos (by omega), ← e1, h3]
  split
  · exact Int.natCast_emod _ _
  · rw [Int.natCast_emod]
    have h7 : (4294967296 : Int) = ((2 ^ k : Nat) : Int) * ((2 ^ (32 - k) : Nat) : Int) := by
      rw [← Int.natCast_mul, ← Nat.pow_add]
      have : k + (32 - k) = 32 := by omega
      rw [this]
      rfl
    have h8 : (x.toBitVec.toNat : Int) - 4294967296 = (x.toBitVec.toNat : Int) + ((2 ^ k : Nat) : Int) * (-((2 ^ (32 - k) : Nat) : Int)) := by
      rw [h7, Int.mul_neg]
      omega
    rw [h8, Int.add_mul_emod_self_left]
theorem av_sar {x b : Int32} {a : Int} (n : Nat) (hx : TI x a) (hb : (b.toBitVec.smod 32).toNat = n) : TI (x >>> b) (a / ((2 ^ n : Nat) : Int)) := by
  have e1 : x.toInt = a := hx
  show (x >>> b).toInt = a / ((2 ^ n : Nat) : Int)
  rw [← e1]
  exact pz_sar x b n hb
theorem nx {x : Int32} {n : Nat} {a : Int} (hx : TI x a) (h0 : 0 ≤ a) (h1 : a < n) : ¬ (x < 0 ∨ n ≤ x.toNatClampNeg) := by
  have e1 : x.toInt = a := hx
  exact pz_ix (by omega) (by omega)
theorem nxg {x : Int32} {m n : Nat} {a : Int} (hn : m = n) (hx : TI x a) (h0 : 0 ≤ a) (h1 : a < n) : ¬ (x < 0 ∨ m ≤ x.toNatClampNeg) := by
  subst hn
  exact nx hx h0 h1
theorem nxi {x : Int32} {m : Nat} {n a : Int} (hn : (m : Int) = n) (hx : TI x a) (h0 : 0 ≤ a) (h1 : a < n) : ¬ (x < 0 ∨ m ≤ x.toNatClampNeg) := nx hx h0 (by omega)
theorem nz {x : Int32} {a : Int} (hx : TI x a) (h : 0 < a) : ¬ x = 0 := by
  intro e
  have e1 : x.toInt = a := hx
  rw [e] at e1
  have : (0 : Int32).toInt = 0 := rfl
  omega
theorem ok_ltI {α : Type} {x : Int32} {a : Int} {k : Int32 → Option α} {P : α → Prop} (hx : TI x a) (h : ∀ v, TI v a → OK (k v) P) : OK (ltt x k) P := h x hx
theorem ok_ltB {α : Type} {x : Int32} {lo hi : Int} {k : Int32 → Option α} {P : α → Prop} (hx : lo ≤ x.toInt ∧ x.toInt ≤ hi) (h : ∀ v : Int32, lo ≤ v.toInt ∧ v.toInt ≤ hi → OK (k v) P) : OK (ltt x k) P := h x hx
theorem ok_ltA {α β : Type} {x : α} {k : α → Option β} {P : β → Prop} (h : ∀ v : α, OK (k v) P) : OK (ltt x k) P := h x
theorem tl_lt {x y : Int32} {a b : Int} (hx : TI x a) (hy : TI y b) (h : x < y) : a < b := by
  have e1 : x.toInt = a := hx
  have e2 : y.toInt = b := hy
  have := pz_lt.mp h
  omega
theorem tl_nlt {x y : Int32} {a b : Int} (hx : TI x a) (hy : TI y b) (h : ¬ x < y) : b ≤ a := by
  have e1 : x.toInt = a := hx
  have e2 : y.toInt = b := hy
  have : ¬ x.toInt < y.toInt := fun q => h (pz_lt.mpr q)
  omega
theorem tl_le {x y : Int32} {a b : Int} (hx : TI x a) (hy : TI y b) (h : x ≤ y) : a ≤ b := by
  have e1 : x.toInt = a := hx
  have e2 : y.toInt = b := hy
  have := pz_le.mp h
  omega
theorem tl_nle {x y : Int32} {a b : Int} (hx : TI x a) (hy : TI y b) (h : ¬ x ≤ y) : b < a := by
  have e1 : x.toInt = a := hx
  have e2 : y.toInt = b := hy
  have : ¬ x.toInt ≤ y.toInt := fun q => h (pz_le.mpr q)
  omega
theorem tl_eq {x y : Int32} {a b : Int} (hx : TI x a) (hy : TI y b) (h : x = y) : a = b := by
  have e1 : x.toInt = a := hx
  have e2 : y.toInt = b := hy
  have := pz_eq.mp h
  omega
theorem tl_ne {x y : Int32} {a b : Int} (hx : TI x a) (hy : TI y b) (h : ¬ x = y) : a ≠ b := by
  have e1 : x.toInt = a := hx
  have e2 : y.toInt = b := hy
  intro q
  exact h (pz_eq.mpr (by omega))
theorem cpx {x y n : Int32} {l1 l2 : Nat} {a b c : Int} (hx : TI x a) (hy : TI y b) (hn : TI n c) (h1 : 0 ≤ a) (h2 : 0 ≤ b) (h3 : 0 ≤ c) (h4 : a + c ≤ l1) (h5 : b + c ≤ l2) : ¬ x < 0 ∧ ¬ y < 0 ∧ ¬ n < 0 ∧ x.toNatClampNeg + n.toNatClampNeg ≤ l1 ∧ y.toNatClampNeg + n.toNatClampNeg ≤ l2 := by
  have e1 : x.toInt = a := hx
  have e2 : y.toInt = b := hy
  have e3 : n.toInt = c := hn
  have g1 := nat_of (x := x) (by omega)
  have g2 := nat_of (x := y) (by omega)
  have g3 := nat_of (x := n) (by omega)
  exact ⟨lt_z (by omega), lt_z (by omega), lt_z (by omega), by omega, by omega⟩
def GB (G : GG) (w : Int) : Prop := 234 ≤ G.1 ∧ (∀ i, i < 222 → G.2.1 i = kdL.getD i 0 ∧ G.2.2 i = lnL.getD i 0) ∧ (∀ i, 222 ≤ i → i < 234 → G.2.1 i = 13 ∧ (G.2.2 i : Int) = (if i % 3 = 0 then 512 * w else 128 * w))
def FR (M : DD) : Prop := ∀ a k, 0 < fT a k → M.2 a k = some (fT a k)
def PS (G : GG) (M : DD) (q : Nat) (w : Int) : Prop := (234 ≤ q ∧ q + 12 ≤ G.1) ∧ (G.2.1 q = 4 ∧ G.2.1 (q + 1) = 13 ∧ G.2.2 (q + 1) = 4 ∧ G.2.1 (q + 2) = 15 ∧ G.2.2 (q + 2) = 3) ∧ (G.2.1 (q + 6) = 13 ∧ G.2.2 (q + 6) = 1024 ∧ G.2.1 (q + 7) = 13 ∧ G.2.2 (q + 7) = 1024 ∧ G.2.1 (q + 8) = 13 ∧ G.2.2 (q + 8) = 2048) ∧ (G.2.1 (q + 9) = 13 ∧ (G.2.2 (q + 9) : Int) = 512 * w ∧ G.2.1 (q + 10) = 13 ∧ (G.2.2 (q + 10) : Int) = 128 * w ∧ G.2.1 (q + 11) = 13 ∧ (G.2.2 (q + 11) : Int) = 128 * w) ∧ (M.2 q 3 = some (q + 1) ∧ M.2 q 4 = some (q + 2) ∧ M.2 q 5 = some (q + 6) ∧ M.2 q 6 = some (q + 7) ∧ M.2 q 7 = some (q + 8) ∧ M.2 (q + 2) 0 = some (q + 9) ∧ M.2 (q + 2) 1 = some (q + 10) ∧ M.2 (q + 2) 2 = some (q + 11)) ∧ TI (M.1 q 1) w ∧ TI (M.1 q 2) 2 ∧ (∀ k, ib (-1) 7 (M.1 (q + 6) k)) ∧ (∀ k, ib (-2048) 2047 (M.1 (q + 8) k))
/-- whole rows whose values are bounded -/
def TYL : List (Nat × Int × Int) := [(134, 0, 12), (135, 0, 16), (136, 0, 16), (130, 0, 8), (149, 0, 4)]
/-- places whose values are bounded -/
def PYL : List (Nat × Nat × Int × Int) := [(144, 0, -1, 7), (144, 3, -1, 7), (214, 1, 0, 7), (214, 6, 0, 7), (214, 2, -2048, 2047), (214, 3, -2048, 2047), (214, 7, -2048, 2047), (214, 8, -2048, 2047), (214, 12, 0, 8), (214, 13, 0, 8), (214, 14, 0, 8), (214, 15, 0, 8), (214, 16, 0, 8), (214, 17, 0, 8), (214, 18, 0, 8), (214, 19, 0, 8), (214, 20, 0, 8), (214, 21, 0, 8), (214, 22, 0, 8), (214, 23, 0, 8), (214, 24, 0, 8), (214, 25, 0, 8), (214, 26, 0, 8), (214, 27, 0, 8), (214, 28, 0, 8), (125, 14, 0, 16), (125, 16, 0, 4), (216, 1, 0, 2), (216, 9, 0, 2), (216, 10, 0, 2), (216, 12, 12, 51), (118, 8, 0, 1), (118, 10, 0, 1), (220, 6, 0, 0), (125, 18, -2048, 2047), (125, 19, -2048, 2047), (148, 4, 0, 51)]
def TT (G : GG) (M : DD) (p : Nat) (w : Int) (L : List Nat) : Prop := GB G w ∧ FR M ∧ (w = 1 ∨ w = 2) ∧ (p ∈ L ∧ M.2 125 0 = some p) ∧ (∀ q, q ∈ L → PS G M q w) ∧ (∀ q r, q ∈ L → r ∈ L → q = r ∨ q + 12 ≤ r ∨ r + 12 ≤ q) ∧ (∀ k, M.2 126 k = none ∨ ∃ q, q ∈ L ∧ M.2 126 k = some q) ∧ (∃ s, s < 4 ∧ M.2 209 0 = some (222 + 3 * s) ∧ M.2 209 1 = some (223 + 3 * s) ∧ M.2 209 2 = some (224 + 3 * s)) ∧ (∀ e, e ∈ TYL → ∀ k, ib e.2.1 e.2.2 (M.1 e.1 k)) ∧ (∀ e, e ∈ PYL → ib e.2.2.1 e.2.2.2 (M.1 e.1 e.2.1))
theorem tt_gen {G : GG} {M : DD} {p : Nat} {w : Int} {L : List Nat} (t : TT G M p w L) {b k : Nat} {v : Int32} (c1 : ∀ q, q ∈ L → b = q → k ≠ 1 ∧ k ≠ 2) (c2 : ∀ q, q ∈ L → b = q + 6 → ib (-1) 7 v) (c3 : ∀ q, q ∈ L → b = q + 8 → ib (-2048) 2047 v) (c4 : ∀ e, e ∈ TYL → b = e.1 → ib e.2.1 e.2.2 v) (c5 : ∀ e, e ∈ PYL → b = e.1 → k = e.2.1 → ib e.2.2.1 e.2.2.2 v) : TT G (uI M b k v) p w L := by
  obtain ⟨t1, t2, t3, t4, t5, t6, t7, t8, t9, t10⟩ := t
  refine ⟨t1, t2, t3, t4, ?_, t6, t7, t8, ?_, ?_⟩
  · intro q hq
    obtain ⟨p1, p2, p3, p4, p5, p6, p7, p8, p9⟩ := t5 q hq
    refine ⟨p1, p2, p3, p4, p5, ?_, ?_, ?_, ?_⟩
    · rw [uI_n]
      · exact p6
      · rintro ⟨e1, e2⟩
        exact (c1 q hq e1.symm).1 e2.symm
    · rw [uI_n]
      · exact p7
      · rintro ⟨e1, e2⟩
        exact (c1 q hq e1.symm).2 e2.symm
    · intro j
      by_cases h : q + 6 = b ∧ j = k
      · obtain ⟨h1, h2⟩ := h
        rw [h1, h2, uI_s]
        exact c2 q hq h1.symm
      · rw [uI_n M v h]
        exact p8 j
    · intro j
      by_cases h : q + 8 = b ∧ j = k
      · obtain ⟨h1, h2⟩ := h
        rw [h1, h2, uI_s]
        exact c3 q hq h1.symm
      · rw [uI_n M v h]
        exact p9 j
  · intro e he j
    by_cases h : e.1 = b ∧ j = k
    · obtain ⟨h1, h2⟩ := h
      rw [h1, h2, uI_s]
      exact c4 e he h1.symm
    · rw [uI_n M v h]
      exact t9 e he j
  · intro e he
    by_cases h : e.1 = b ∧ e.2.1 = k
    · rw [h.1, h.2, uI_s]
      exact c5 e he h.1.symm h.2.symm
    · rw [uI_n M v h]
      exact t10 e he
theorem tt_q {G : GG} {M : DD} {p : Nat} {w : Int} {L : List Nat} (t : TT G M p w L) {q : Nat} (hq : q ∈ L) : PS G M q w := t.2.2.2.2.1 q hq
theorem tt_q0 {G : GG} {M : DD} {p : Nat} {w : Int} {L : List Nat} (t : TT G M p w L) {q : Nat} (hq : q ∈ L) : 234 ≤ q := (tt_q t hq).1.1
def fre (b k : Nat) : Bool := decide (b < 234) && !(b == 134 || b == 135 || b == 136 || b == 130 || b == 149 || (b == 148 && k == 4) || b == 144 || b == 214 || b == 216 || b == 118 || b == 220 || (b == 125 && (k == 14 || k == 16 || k == 18 || k == 19)))
theorem tt_w0 {G : GG} {M : DD} {p : Nat} {w : Int} {L : List Nat} (t : TT G M p w L) {b k : Nat} {v : Int32} (h : fre b k = true) : TT G (uI M b k v) p w L := by
  have hb : b < 234 ∧ ¬ (b = 134 ∨ b = 135 ∨ b = 136 ∨ b = 130 ∨ b = 149 ∨ (b = 148 ∧ k = 4) ∨ b = 144 ∨ b = 214 ∨ b = 216 ∨ b = 118 ∨ b = 220 ∨ (b = 125 ∧ (k = 14 ∨ k = 16 ∨ k = 18 ∨ k = 19))) := by
    simp [fre] at h
    omega
  obtain ⟨h1, h2⟩ := hb
  refine tt_gen t ?_ ?_ ?_ ?_ ?_
  · intro q hq e
    have := tt_q0 t hq
    omega
  · intro q hq e
    have := tt_q0 t hq
    omega
  · intro q hq e
    have := tt_q0 t hq
    omega
  · intro e he e1
    exfalso
    apply h2
    simp only [TYL, List.mem_cons, List.not_mem_nil, or_false] at he
    rcases he with rfl | rfl | rfl | rfl | rfl <;> simp [e1]
  · intro e he e1 e2
    exfalso
    apply h2
    simp only [PYL, List.mem_cons, List.not_mem_nil, or_false] at he
    rcases he with rfl | rfl | rfl | rfl | rfl | rfl | rfl | rfl | rfl | rfl | rfl | rfl | rfl | rfl | rfl | rfl | rfl | rfl | rfl | rfl | rfl | rfl | rfl | rfl | rfl | rfl | rfl | rfl | rfl | rfl | rfl | rfl | rfl | rfl | rfl | rfl | rfl <;> simp [e1, e2]
theorem tt_wt {G : GG} {M : DD} {p : Nat} {w : Int} {L : List Nat} (t : TT G M p w L) {b k : Nat} {v : Int32} (lo hi : Int) (h1 : (b == 134 || b == 135 || b == 136 || b == 130 || b == 149) = true) (h2 : (b, lo, hi) ∈ TYL) (hv : ib lo hi v) : TT G (uI M b k v) p w L := by
  have hb : b < 234 := by
    simp at h1
    omega
  refine tt_gen t ?_ ?_ ?_ ?_ ?_
  · intro q hq e
    have := tt_q0 t hq
    omega
  · intro q hq e
    have := tt_q0 t hq
    omega
  · intro q hq e
    have := tt_q0 t hq
    omega
  · intro e he e1
    simp only [TYL, List.mem_cons, List.not_mem_nil, or_false, Prod.mk.injEq] at he h2
    rcases he with rfl | rfl | rfl | rfl | rfl <;> rcases h2 with h2 | h2 | h2 | h2 | h2 <;> first | (exfalso; have := h2.1; dsimp only at e1; omega) | (obtain ⟨_, r1, r2⟩ := h2; rw [r1, r2] at hv; exact hv)
  · intro e he e1 e2
    exfalso
    have h3 : b = 134 ∨ b = 135 ∨ b = 136 ∨ b = 130 ∨ b = 149 := by simpa [or_assoc] using h1
    simp only [PYL, List.mem_cons, List.not_mem_nil, or_false] at he
    rcases he with rfl | rfl | rfl | rfl | rfl | rfl | rfl | rfl | rfl | rfl | rfl | rfl | rfl | rfl | rfl | rfl | rfl | rfl | rfl | rfl | rfl | rfl | rfl | rfl | rfl | rfl | rfl | rfl | rfl | rfl | rfl | rfl | rfl | rfl | rfl | rfl | rfl <;> (dsimp only at e1; omega)
theorem tt_wp {G : GG} {M : DD} {p : Nat} {w : Int} {L : List Nat} (t : TT G M p w L) {b k : Nat} {v : Int32} (h1 : b = 144 ∨ b = 214 ∨ b = 125 ∨ b = 148) (hv : ∀ e, e ∈ PYL → b = e.1 → k = e.2.1 → ib e.2.2.1 e.2.2.2 v) : TT G (uI M b k v) p w L := by
  refine tt_gen t ?_ ?_ ?_ ?_ hv
  · intro q hq e
    have := tt_q0 t hq
    omega
  · intro q hq e
    have := tt_q0 t hq
    omega
  · intro q hq e
    have := tt_q0 t hq
    omega
  · intro e he e1
    exfalso
    simp only [TYL, List.mem_cons, List.not_mem_nil, or_false] at he
    rcases he with rfl | rfl | rfl | rfl | rfl <;> (dsimp only at e1; omega)
theorem tt_144 {G : GG} {M : DD} {p : Nat} {w : Int} {L : List Nat} (t : TT G M p w L) {k : Nat} {v : Int32} (hv : k = 0 ∨ k = 3 → ib (-1) 7 v) : TT G (uI M 144 k v) p w L := by
  refine tt_wp t (Or.inl rfl) ?_
  intro e he e1 e2
  simp only [PYL, List.mem_cons, List.not_mem_nil, or_false] at he
  rcases he with rfl | rfl | rfl | rfl | rfl | rfl | rfl | rfl | rfl | rfl | rfl | rfl | rfl | rfl | rfl | rfl | rfl | rfl | rfl | rfl | rfl | rfl | rfl | rfl | rfl | rfl | rfl | rfl | rfl | rfl | rfl | rfl | rfl | rfl | rfl | rfl | rfl
  · exact hv (Or.inl e2)
  · exact hv (Or.inr e2)
  all_goals (dsimp only at e1; omega)
theorem tt_214 {G : GG} {M : DD} {p : Nat} {w : Int} {L : List Nat} (t : TT G M p w L) {k : Nat} {v : Int32} (h1 : k = 1 ∨ k = 6 → ib 0 7 v) (h2 : k = 2 ∨ k = 3 ∨ k = 7 ∨ k = 8 → ib (-2048) 2047 v) (h3 : 12 ≤ k → ib 0 8 v) : TT G (uI M 214 k v) p w L := by
  refine tt_wp t (Or.inr (Or.inl rfl)) ?_
  intro e he e1 e2
  simp only [PYL, List.mem_cons, List.not_mem_nil, or_false] at he
  rcases he with rfl | rfl | rfl | rfl | rfl | rfl | rfl | rfl | rfl | rfl | rfl | rfl | rfl | rfl | rfl | rfl | rfl | rfl | rfl | rfl | rfl | rfl | rfl | rfl | rfl | rfl | rfl | rfl | rfl | rfl | rfl | rfl | rfl | rfl | rfl | rfl | rfl
  · dsimp only at e1; omega
  · dsimp only at e1; omega
  · exact h1 (Or.inl e2)
  · exact h1 (Or.inr e2)
  · exact h2 (Or.inl e2)
  · exact h2 (Or.inr (Or.inl e2))
  · exact h2 (Or.inr (Or.inr (Or.inl e2)))
  · exact h2 (Or.inr (Or.inr (Or.inr e2)))
  all_goals first | (dsimp only at e1; omega) | exact h3 (by dsimp only at e2; omega)
theorem tt_parts {G : GG} {M : DD} {p : Nat} {w : Int} {L : List Nat} (t : TT G M p w L) {v : Int32} (hv : ib (0) 16 v) : TT G (uI M 125 14 v) p w L := by
  refine tt_wp t (Or.inr (Or.inr (Or.inl rfl))) ?_
  intro e he e1 e2
  simp only [PYL, List.mem_cons, List.not_mem_nil, or_false] at he
  rcases he with rfl | rfl | rfl | rfl | rfl | rfl | rfl | rfl | rfl | rfl | rfl | rfl | rfl | rfl | rfl | rfl | rfl | rfl | rfl | rfl | rfl | rfl | rfl | rfl | rfl | rfl | rfl | rfl | rfl | rfl | rfl | rfl | rfl | rfl | rfl | rfl | rfl
  · dsimp only at e1; omega
  · dsimp only at e1; omega
  · dsimp only at e1; omega
  · dsimp only at e1; omega
  · dsimp only at e1; omega
  · dsimp only at e1; omega
  · dsimp only at e1; omega
  · dsimp only at e1; omega
  · dsimp only at e1; omega
  · dsimp only at e1; omega
  · dsimp only at e1; omega
  · dsimp only at e1; omega
  · dsimp only at e1; omega
  · dsimp only at e1; omega
  · dsimp only at e1; omega
  · dsimp only at e1; omega
  · dsimp only at e1; omega
  · dsimp only at e1; omega
  · dsimp only at e1; omega
  · dsimp only at e1; omega
  · dsimp only at e1; omega
  · dsimp only at e1; omega
  · dsimp only at e1; omega
  · dsimp only at e1; omega
  · dsimp only at e1; omega
  · exact hv
  · dsimp only at e2; omega
  · dsimp only at e1; omega
  · dsimp only at e1; omega
  · dsimp only at e1; omega
  · dsimp only at e1; omega
  · dsimp only at e1; omega
  · dsimp only at e1; omega
  · dsimp only at e1; omega
  · dsimp only at e2; omega
  · dsimp only at e2; omega
  · dsimp only at e1; omega
theorem tt_groups {G : GG} {M : DD} {p : Nat} {w : Int} {L : List Nat} (t : TT G M p w L) {v : Int32} (hv : ib (0) 4 v) : TT G (uI M 125 16 v) p w L := by
  refine tt_wp t (Or.inr (Or.inr (Or.inl rfl))) ?_
  intro e he e1 e2
  simp only [PYL, List.mem_cons, List.not_mem_nil, or_false] at he
  rcases he with rfl | rfl | rfl | rfl | rfl | rfl | rfl | rfl | rfl | rfl | rfl | rfl | rfl | rfl | rfl | rfl | rfl | rfl | rfl | rfl | rfl | rfl | rfl | rfl | rfl | rfl | rfl | rfl | rfl | rfl | rfl | rfl | rfl | rfl | rfl | rfl | rfl
  · dsimp only at e1; omega
  · dsimp only at e1; omega
  · dsimp only at e1; omega
  · dsimp only at e1; omega
  · dsimp only at e1; omega
  · dsimp only at e1; omega
  · dsimp only at e1; omega
  · dsimp only at e1; omega
  · dsimp only at e1; omega
  · dsimp only at e1; omega
  · dsimp only at e1; omega
  · dsimp only at e1; omega
  · dsimp only at e1; omega
  · dsimp only at e1; omega
  · dsimp only at e1; omega
  · dsimp only at e1; omega
  · dsimp only at e1; omega
  · dsimp only at e1; omega
  · dsimp only at e1; omega
  · dsimp only at e1; omega
  · dsimp only at e1; omega
  · dsimp only at e1; omega
  · dsimp only at e1; omega
  · dsimp only at e1; omega
  · dsimp only at e1; omega
  · dsimp only at e2; omega
  · exact hv
  · dsimp only at e1; omega
  · dsimp only at e1; omega
  · dsimp only at e1; omega
  · dsimp only at e1; omega
  · dsimp only at e1; omega
  · dsimp only at e1; omega
  · dsimp only at e1; omega
  · dsimp only at e2; omega
  · dsimp only at e2; omega
  · dsimp only at e1; omega
theorem tt_gx {G : GG} {M : DD} {p : Nat} {w : Int} {L : List Nat} (t : TT G M p w L) {v : Int32} (hv : ib (-2048) 2047 v) : TT G (uI M 125 18 v) p w L := by
  refine tt_wp t (Or.inr (Or.inr (Or.inl rfl))) ?_
  intro e he e1 e2
  simp only [PYL, List.mem_cons, List.not_mem_nil, or_false] at he
  rcases he with rfl | rfl | rfl | rfl | rfl | rfl | rfl | rfl | rfl | rfl | rfl | rfl | rfl | rfl | rfl | rfl | rfl | rfl | rfl | rfl | rfl | rfl | rfl | rfl | rfl | rfl | rfl | rfl | rfl | rfl | rfl | rfl | rfl | rfl | rfl | rfl | rfl
  · dsimp only at e1; omega
  · dsimp only at e1; omega
  · dsimp only at e1; omega
  · dsimp only at e1; omega
  · dsimp only at e1; omega
  · dsimp only at e1; omega
  · dsimp only at e1; omega
  · dsimp only at e1; omega
  · dsimp only at e1; omega
  · dsimp only at e1; omega
  · dsimp only at e1; omega
  · dsimp only at e1; omega
  · dsimp only at e1; omega
  · dsimp only at e1; omega
  · dsimp only at e1; omega
  · dsimp only at e1; omega
  · dsimp only at e1; omega
  · dsimp only at e1; omega
  · dsimp only at e1; omega
  · dsimp only at e1; omega
  · dsimp only at e1; omega
  · dsimp only at e1; omega
  · dsimp only at e1; omega
  · dsimp only at e1; omega
  · dsimp only at e1; omega
  · dsimp only at e2; omega
  · dsimp only at e2; omega
  · dsimp only at e1; omega
  · dsimp only at e1; omega
  · dsimp only at e1; omega
  · dsimp only at e1; omega
  · dsimp only at e1; omega
  · dsimp only at e1; omega
  · dsimp only at e1; omega
  · exact hv
  · dsimp only at e2; omega
  · dsimp only at e1; omega
theorem tt_gy {G : GG} {M : DD} {p : Nat} {w : Int} {L : List Nat} (t : TT G M p w L) {v : Int32} (hv : ib (-2048) 2047 v) : TT G (uI M 125 19 v) p w L := by
  refine tt_wp t (Or.inr (Or.inr (Or.inl rfl))) ?_
  intro e he e1 e2
  simp only [PYL, List.mem_cons, List.not_mem_nil, or_false] at he
  rcases he with rfl | rfl | rfl | rfl | rfl | rfl | rfl | rfl | rfl | rfl | rfl | rfl | rfl | rfl | rfl | rfl | rfl | rfl | rfl | rfl | rfl | rfl | rfl | rfl | rfl | rfl | rfl | rfl | rfl | rfl | rfl | rfl | rfl | rfl | rfl | rfl | rfl
  · dsimp only at e1; omega
  · dsimp only at e1; omega
  · dsimp only at e1; omega
  · dsimp only at e1; omega
  · dsimp only at e1; omega
  · dsimp only at e1; omega
  · dsimp only at e1; omega
  · dsimp only at e1; omega
  · dsimp only at e1; omega
  · dsimp only at e1; omega
  · dsimp only at e1; omega
  · dsimp only at e1; omega
  · dsimp only at e1; omega
  · dsimp only at e1; omega
  · dsimp only at e1; omega
  · dsimp only at e1; omega
  · dsimp only at e1; omega
  · dsimp only at e1; omega
  · dsimp only at e1; omega
  · dsimp only at e1; omega
  · dsimp only at e1; omega
  · dsimp only at e1; omega
  · dsimp only at e1; omega
  · dsimp only at e1; omega
  · dsimp only at e1; omega
  · dsimp only at e2; omega
  · dsimp only at e2; omega
  · dsimp only at e1; omega
  · dsimp only at e1; omega
  · dsimp only at e1; omega
  · dsimp only at e1; omega
  · dsimp only at e1; omega
  · dsimp only at e1; omega
  · dsimp only at e1; omega
  · dsimp only at e2; omega
  · exact hv
  · dsimp only at e1; omega
theorem tt_ia {G : GG} {M : DD} {p : Nat} {w : Int} {L : List Nat} (t : TT G M p w L) {v : Int32} (hv : ib (0) 51 v) : TT G (uI M 148 4 v) p w L := by
  refine tt_wp t (Or.inr (Or.inr (Or.inr rfl))) ?_
  intro e he e1 e2
  simp only [PYL, List.mem_cons, List.not_mem_nil, or_false] at he
  rcases he with rfl | rfl | rfl | rfl | rfl | rfl | rfl | rfl | rfl | rfl | rfl | rfl | rfl | rfl | rfl | rfl | rfl | rfl | rfl | rfl | rfl | rfl | rfl | rfl | rfl | rfl | rfl | rfl | rfl | rfl | rfl | rfl | rfl | rfl | rfl | rfl | rfl
  · dsimp only at e1; omega
  · dsimp only at e1; omega
  · dsimp only at e1; omega
  · dsimp only at e1; omega
  · dsimp only at e1; omega
  · dsimp only at e1; omega
  · dsimp only at e1; omega
  · dsimp only at e1; omega
  · dsimp only at e1; omega
  · dsimp only at e1; omega
  · dsimp only at e1; omega
  · dsimp only at e1; omega
  · dsimp only at e1; omega
  · dsimp only at e1; omega
  · dsimp only at e1; omega
  · dsimp only at e1; omega
  · dsimp only at e1; omega
  · dsimp only at e1; omega
  · dsimp only at e1; omega
  · dsimp only at e1; omega
  · dsimp only at e1; omega
  · dsimp only at e1; omega
  · dsimp only at e1; omega
  · dsimp only at e1; omega
  · dsimp only at e1; omega
  · dsimp only at e1; omega
  · dsimp only at e1; omega
  · dsimp only at e1; omega
  · dsimp only at e1; omega
  · dsimp only at e1; omega
  · dsimp only at e1; omega
  · dsimp only at e1; omega
  · dsimp only at e1; omega
  · dsimp only at e1; omega
  · dsimp only at e1; omega
  · dsimp only at e1; omega
  · exact hv
theorem tt_p {G : GG} {M : DD} {p : Nat} {w : Int} {L : List Nat} (t : TT G M p w L) : p ∈ L := t.2.2.2.1.1
theorem tt_pic {G : GG} {M : DD} {p : Nat} {w : Int} {L : List Nat} (t : TT G M p w L) : M.2 125 0 = some p := t.2.2.2.1.2
theorem tt_w {G : GG} {M : DD} {p : Nat} {w : Int} {L : List Nat} (t : TT G M p w L) : w = 1 ∨ w = 2 := t.2.2.1
/-- writes at the picture under way, at place j of its twelve cells -/
theorem tt_wq {G : GG} {M : DD} {p : Nat} {w : Int} {L : List Nat} (t : TT G M p w L) {q j k : Nat} {v : Int32} (hq : q ∈ L) (hj : j < 12) (c1 : j = 0 → k ≠ 1 ∧ k ≠ 2) (c2 : j = 6 → ib (-1) 7 v) (c3 : j = 8 → ib (-2048) 2047 v) : TT G (uI M (q + j) k v) p w L := by
  have h0 := tt_q0 t hq
  have hd := t.2.2.2.2.2.1
  refine tt_gen t ?_ ?_ ?_ ?_ ?_
  · intro r hr e
    have := hd q r hq hr
    exact c1 (by omega)
  · intro r hr e
    have := hd q r hq hr
    exact c2 (by omega)
  · intro r hr e
    have := hd q r hq hr
    exact c3 (by omega)
  · intro e he e1
    exfalso
    simp only [TYL, List.mem_cons, List.not_mem_nil, or_false] at he
    rcases he with rfl | rfl | rfl | rfl | rfl <;> (dsimp only at e1; omega)
  · intro e he e1 e2
    exfalso
    simp only [PYL, List.mem_cons, List.not_mem_nil, or_false] at he
    rcases he with rfl | rfl | rfl | rfl | rfl | rfl | rfl | rfl | rfl | rfl | rfl | rfl | rfl | rfl | rfl | rfl | rfl | rfl | rfl | rfl | rfl | rfl | rfl | rfl | rfl | rfl | rfl | rfl | rfl | rfl | rfl | rfl | rfl | rfl | rfl | rfl | rfl <;> (dsimp only at e1; omega)
/-- a whole row -/
theorem tt_r {G : GG} {M : DD} {p : Nat} {w : Int} {L : List Nat} (t : TT G M p w L) {b : Nat} {f : Nat → Int32} (c1 : ∀ q, q ∈ L → b ≠ q) (c2 : ∀ q, q ∈ L → b = q + 6 → ∀ k, ib (-1) 7 (f k)) (c3 : ∀ q, q ∈ L → b = q + 8 → ∀ k, ib (-2048) 2047 (f k)) (c4 : ∀ e, e ∈ TYL → b = e.1 → ∀ k, ib e.2.1 e.2.2 (f k)) (c5 : ∀ e, e ∈ PYL → b = e.1 → ib e.2.2.1 e.2.2.2 (f e.2.1)) : TT G (rI M b f) p w L := by
  obtain ⟨t1, t2, t3, t4, t5, t6, t7, t8, t9, t10⟩ := t
  refine ⟨t1, t2, t3, t4, ?_, t6, t7, t8, ?_, ?_⟩
  · intro q hq
    obtain ⟨p1, p2, p3, p4, p5, p6, p7, p8, p9⟩ := t5 q hq
    have e0 : (rI M b f).1 q = M.1 q := by
      show (if q = b then f else M.1 q) = M.1 q
      rw [if_neg (fun e => c1 q hq e.symm)]
    refine ⟨p1, p2, p3, p4, p5, ?_, ?_, ?_, ?_⟩
    · rw [e0]; exact p6
    · rw [e0]; exact p7
    · intro j
      show ib (-1) 7 ((if q + 6 = b then f else M.1 (q + 6)) j)
      by_cases h : q + 6 = b
      · rw [if_pos h]; exact c2 q hq h.symm j
      · rw [if_neg h]; exact p8 j
    · intro j
      show ib (-2048) 2047 ((if q + 8 = b then f else M.1 (q + 8)) j)
      by_cases h : q + 8 = b
      · rw [if_pos h]; exact c3 q hq h.symm j
      · rw [if_neg h]; exact p9 j
  · intro e he j
    show ib e.2.1 e.2.2 ((if e.1 = b then f else M.1 e.1) j)
    by_cases h : e.1 = b
    · rw [if_pos h]; exact c4 e he h.symm j
    · rw [if_neg h]; exact t9 e he j
  · intro e he
    show ib e.2.2.1 e.2.2.2 ((if e.1 = b then f else M.1 e.1) e.2.1)
    by_cases h : e.1 = b
    · rw [if_pos h]; exact c5 e he h.symm
    · rw [if_neg h]; exact t10 e he
theorem tt_r0 {G : GG} {M : DD} {p : Nat} {w : Int} {L : List Nat} (t : TT G M p w L) {b : Nat} {f : Nat → Int32} (h : (decide (b < 234) && !(b == 134 || b == 135 || b == 136 || b == 130 || b == 149 || b == 148 || b == 144 || b == 214 || b == 216 || b == 118 || b == 220 || b == 125)) = true) : TT G (rI M b f) p w L := by
  have hb : b < 234 ∧ ¬ (b = 134 ∨ b = 135 ∨ b = 136 ∨ b = 130 ∨ b = 149 ∨ b = 148 ∨ b = 144 ∨ b = 214 ∨ b = 216 ∨ b = 118 ∨ b = 220 ∨ b = 125) := by
    simp at h
    omega
  obtain ⟨h1, h2⟩ := hb
  refine tt_r t ?_ ?_ ?_ ?_ ?_
  · intro q hq e
    have := tt_q0 t hq
    omega
  · intro q hq e
    have := tt_q0 t hq
    omega
  · intro q hq e
    have := tt_q0 t hq
    omega
  · intro e he e1
    exfalso
    apply h2
    simp only [TYL, List.mem_cons, List.not_mem_nil, or_false] at he
    rcases he with rfl | rfl | rfl | rfl | rfl <;> simp [e1]
  · intro e he e1
    exfalso
    apply h2
    simp only [PYL, List.mem_cons, List.not_mem_nil, or_false] at he
    rcases he with rfl | rfl | rfl | rfl | rfl | rfl | rfl | rfl | rfl | rfl | rfl | rfl | rfl | rfl | rfl | rfl | rfl | rfl | rfl | rfl | rfl | rfl | rfl | rfl | rfl | rfl | rfl | rfl | rfl | rfl | rfl | rfl | rfl | rfl | rfl | rfl | rfl <;> simp [e1]
theorem tt_rq {G : GG} {M : DD} {p : Nat} {w : Int} {L : List Nat} (t : TT G M p w L) {q j : Nat} {f : Nat → Int32} (hq : q ∈ L) (h0j : 0 < j) (hj : j < 12) (c2 : j = 6 → ∀ k, ib (-1) 7 (f k)) (c3 : j = 8 → ∀ k, ib (-2048) 2047 (f k)) : TT G (rI M (q + j) f) p w L := by
  have h0 := tt_q0 t hq
  have hd := t.2.2.2.2.2.1
  refine tt_r t ?_ ?_ ?_ ?_ ?_
  · intro r hr e
    have := hd q r hq hr
    omega
  · intro r hr e
    have := hd q r hq hr
    exact c2 (by omega)
  · intro r hr e
    have := hd q r hq hr
    exact c3 (by omega)
  · intro e he e1
    exfalso
    simp only [TYL, List.mem_cons, List.not_mem_nil, or_false] at he
    rcases he with rfl | rfl | rfl | rfl | rfl <;> (dsimp only at e1; omega)
  · intro e he e1
    exfalso
    simp only [PYL, List.mem_cons, List.not_mem_nil, or_false] at he
    rcases he with rfl | rfl | rfl | rfl | rfl | rfl | rfl | rfl | rfl | rfl | rfl | rfl | rfl | rfl | rfl | rfl | rfl | rfl | rfl | rfl | rfl | rfl | rfl | rfl | rfl | rfl | rfl | rfl | rfl | rfl | rfl | rfl | rfl | rfl | rfl | rfl | rfl <;> (dsimp only at e1; omega)
theorem g_lt {G : GG} {M : DD} {p : Nat} {w : Int} {L : List Nat} (t : TT G M p w L) {i : Nat} (h : i < 234) : i < G.1 := Nat.lt_of_lt_of_le h t.1.1
theorem g_k {G : GG} {M : DD} {p : Nat} {w : Int} {L : List Nat} (t : TT G M p w L) {i κ : Nat} (h : i < 222) (hk : kdL.getD i 0 = κ) : G.2.1 i = κ := by
  rw [← hk]; exact (t.1.2.1 i h).1
theorem g_n {G : GG} {M : DD} {p : Nat} {w : Int} {L : List Nat} (t : TT G M p w L) {i n : Nat} (h : i < 222) (hk : lnL.getD i 0 = n) : G.2.2 i = n := by
  rw [← hk]; exact (t.1.2.1 i h).2
theorem f_r {G : GG} {M : DD} {p : Nat} {w : Int} {L : List Nat} (t : TT G M p w L) {a k b : Nat} (h : fT a k = b) (hb : 0 < b) : M.2 a k = some b := by
  rw [← h]; exact t.2.1 a k (by rw [h]; exact hb)
theorem ok_drF {G : GG} {M : DD} {p : Nat} {w : Int} {L : List Nat} (t : TT G M p w L) {α : Type} {κ a f b : Nat} {k : Nat → Option α} {P : α → Prop} (h : fT a f = b) (hb : 0 < b ∧ b < 222) (hk : kdL.getD b 0 = κ) (hh : OK (k b) P) : OK (dr G κ (M.2 a f) k) P := ok_dr (f_r t h hb.1) (g_lt t (by omega)) (g_k t hb.2 hk) hh
theorem ok_drP {G : GG} {M : DD} {p : Nat} {w : Int} {L : List Nat} (t : TT G M p w L) {α : Type} {k : Nat → Option α} {P : α → Prop} (hh : OK (k p) P) : OK (dr G 4 (M.2 125 0) k) P := by
  have h := tt_q t (tt_p t)
  exact ok_dr (tt_pic t) (by have := h.1.2; omega) h.2.1.1 hh
theorem ib_t {G : GG} {M : DD} {p : Nat} {w : Int} {L : List Nat} (t : TT G M p w L) {b : Nat} {lo hi : Int} (h : (b, lo, hi) ∈ TYL) (k : Nat) : lo ≤ (M.1 b k).toInt ∧ (M.1 b k).toInt ≤ hi := t.2.2.2.2.2.2.2.2.1 _ h k
theorem ib_p {G : GG} {M : DD} {p : Nat} {w : Int} {L : List Nat} (t : TT G M p w L) {b k : Nat} {lo hi : Int} (h : (b, k, lo, hi) ∈ PYL) : lo ≤ (M.1 b k).toInt ∧ (M.1 b k).toInt ≤ hi := t.2.2.2.2.2.2.2.2.2 _ h
theorem ib_6 {G : GG} {M : DD} {p : Nat} {w : Int} {L : List Nat} (t : TT G M p w L) {q : Nat} (hq : q ∈ L) (k : Nat) : -1 ≤ (M.1 (q + 6) k).toInt ∧ (M.1 (q + 6) k).toInt ≤ 7 := (tt_q t hq).2.2.2.2.2.2.2.1 k
theorem ib_8 {G : GG} {M : DD} {p : Nat} {w : Int} {L : List Nat} (t : TT G M p w L) {q : Nat} (hq : q ∈ L) (k : Nat) : -2048 ≤ (M.1 (q + 8) k).toInt ∧ (M.1 (q + 8) k).toInt ≤ 2047 := (tt_q t hq).2.2.2.2.2.2.2.2 k
theorem tw_q {G : GG} {M : DD} {p : Nat} {w : Int} {L : List Nat} (t : TT G M p w L) {q : Nat} (hq : q ∈ L) : TI (M.1 q 1) w := (tt_q t hq).2.2.2.2.2.1
theorem th_q {G : GG} {M : DD} {p : Nat} {w : Int} {L : List Nat} (t : TT G M p w L) {q : Nat} (hq : q ∈ L) : TI (M.1 q 2) 2 := (tt_q t hq).2.2.2.2.2.2.1
theorem tb_all {l : List Int32} {lo hi : Int} (h : l.all (fun x => decide (lo ≤ x.toInt) && decide (x.toInt ≤ hi)) = true) (h0 : lo ≤ 0 ∧ 0 ≤ hi) (k : Nat) : lo ≤ (l.getD k 0).toInt ∧ (l.getD k 0).toInt ≤ hi := by
  by_cases hk : k < l.length
  · have h1 : l.getD k 0 = l[k] := by simp [List.getD, hk]
    rw [h1]
    have h2 := List.all_eq_true.mp h l[k] (List.getElem_mem hk)
    simpa using h2
  · have h1 : l.getD k 0 = 0 := by simp [List.getD, hk]
    rw [h1]
    exact h0
theorem tb_3 (k : Nat) : 0 ≤ ((sT 3).getD k 0).toInt ∧ ((sT 3).getD k 0).toInt ≤ 255 := tb_all (by decide) (by decide) k
theorem tb_4 (k : Nat) : 0 ≤ ((sT 4).getD k 0).toInt ∧ ((sT 4).getD k 0).toInt ≤ 18 := tb_all (by decide) (by decide) k
theorem tb_5 (k : Nat) : 0 ≤ ((sT 5).getD k 0).toInt ∧ ((sT 5).getD k 0).toInt ≤ 25 := tb_all (by decide) (by decide) k
theorem tb_11 (k : Nat) : 0 ≤ ((sT 11).getD k 0).toInt ∧ ((sT 11).getD k 0).toInt ≤ 39 := tb_all (by decide) (by decide) k
theorem tb_12 (k : Nat) : 0 ≤ ((sT 12).getD k 0).toInt ∧ ((sT 12).getD k 0).toInt ≤ 13107 := tb_all (by decide) (by decide) k
theorem tb_13 (k : Nat) : 0 ≤ ((sT 13).getD k 0).toInt ∧ ((sT 13).getD k 0).toInt ≤ 29 := tb_all (by decide) (by decide) k
theorem tb_14 (k : Nat) : 0 ≤ ((sT 14).getD k 0).toInt ∧ ((sT 14).getD k 0).toInt ≤ 3 := tb_all (by decide) (by decide) k
theorem tb_15 (k : Nat) : 0 ≤ ((sT 15).getD k 0).toInt ∧ ((sT 15).getD k 0).toInt ≤ 3 := tb_all (by decide) (by decide) k
theorem tb_16 (k : Nat) : 0 ≤ ((sT 16).getD k 0).toInt ∧ ((sT 16).getD k 0).toInt ≤ 3 := tb_all (by decide) (by decide) k
theorem tb_17 (k : Nat) : 0 ≤ ((sT 17).getD k 0).toInt ∧ ((sT 17).getD k 0).toInt ≤ 3 := tb_all (by decide) (by decide) k
theorem tb_18 (k : Nat) : 0 ≤ ((sT 18).getD k 0).toInt ∧ ((sT 18).getD k 0).toInt ≤ 3 := tb_all (by decide) (by decide) k
/-- kinds of places of the coder's; what stands in none is 0 -/
def pc (p b k : Nat) : Nat := if b < 234 then (match b with
  | 138 => if 9 ≤ k then 1 else 0
  | 139 => 1
  | 140 => 1
  | 141 => 1
  | 142 => 1
  | 143 => 1
  | 144 => 1
  | 145 => 2
  | 146 => 2
  | 147 => 1
  | 129 => 3
  | 130 => 4
  | 131 => 5
  | 132 => 6
  | 133 => 7
  | 134 => 8
  | 135 => 21
  | 136 => 21
  | 137 => 22
  | 125 => if k = 14 then 9 else if k = 16 then 9 else if k = 18 then 10 else if k = 19 then 10 else if k = 11 then 11 else 0
  | 116 => if k = 14 then 12 else if k = 19 then 13 else 0
  | 214 => 14
  | 148 => if k = 1 then 23 else 15
  | 149 => 15
  | _ => 0) else if b = p then (if k = 14 then 16 else 0) else if b = p + 6 then 17 else if b = p + 7 then 19 else if b = p + 8 then 20 else if b = p + 9 then 18 else if b = p + 10 then 18 else if b = p + 11 then 18 else 0
def Fr (p : Nat) (S : List Nat) (M N : DD) : Prop := N.2 = M.2 ∧ ∀ b k, S.contains (pc p b k) = false → N.1 b k = M.1 b k
theorem fr_0 (p : Nat) (S : List Nat) (M : DD) : Fr p S M M := ⟨rfl, fun _ _ _ => rfl⟩
theorem fr_tr {p : Nat} {S T : List Nat} {M N K : DD} (h : Fr p S M N) (g : Fr p T N K) (hs : T.all (fun x => S.contains x) = true) : Fr p S M K := by
  refine ⟨g.1.trans h.1, fun b k hb => ?_⟩
  rw [g.2 b k ?_]
  · exact h.2 b k hb
  · cases e : T.contains (pc p b k) with
    | false => rfl
    | true =>
      exfalso
      have h1 := List.all_eq_true.mp hs (pc p b k) (by simpa using e)
      rw [hb] at h1
      cases h1
theorem fr_w {p : Nat} {S : List Nat} {M N : DD} (h : Fr p S M N) {b k : Nat} {v : Int32} (hs : S.contains (pc p b k) = true) : Fr p S M (uI N b k v) := by
  refine ⟨h.1, fun c j hc => ?_⟩
  rw [uI_n]
  · exact h.2 c j hc
  · rintro ⟨rfl, rfl⟩
    rw [hs] at hc
    cases hc
theorem fr_r {p : Nat} {S : List Nat} {M N : DD} (h : Fr p S M N) {b : Nat} {f : Nat → Int32} (hs : ∀ k, S.contains (pc p b k) = true) : Fr p S M (rI N b f) := by
  refine ⟨h.1, fun c j hc => ?_⟩
  show (if c = b then f else N.1 c) j = M.1 c j
  by_cases e : c = b
  · subst e
    rw [hs j] at hc
    cases hc
  · rw [if_neg e]
    exact h.2 c j hc
theorem fr_eq {p : Nat} {M N : DD} (h : Fr p [] M N) : N = M := by
  obtain ⟨h1, h2⟩ := h
  obtain ⟨N1, N2⟩ := N
  obtain ⟨M1, M2⟩ := M
  have h3 : N1 = M1 := funext (fun b => funext (fun k => h2 b k rfl))
  have h4 : N2 = M2 := h1
  rw [h3, h4]
theorem pc_6 {p k : Nat} (h : 234 ≤ p) : pc p (p + 6) k = 17 := by
  unfold pc
  rw [if_neg (by omega), if_neg (by omega), if_pos rfl]
theorem pc_7 {p k : Nat} (h : 234 ≤ p) : pc p (p + 7) k = 19 := by
  unfold pc
  rw [if_neg (by omega), if_neg (by omega), if_neg (by omega), if_pos rfl]
theorem pc_8 {p k : Nat} (h : 234 ≤ p) : pc p (p + 8) k = 20 := by
  unfold pc
  rw [if_neg (by omega), if_neg (by omega), if_neg (by omega), if_neg (by omega), if_pos rfl]
theorem pc_s {p j k : Nat} (h : 234 ≤ p) (hj : j = 9 ∨ j = 10 ∨ j = 11) : pc p (p + j) k = 18 := by
  unfold pc
  rw [if_neg (by omega), if_neg (by omega), if_neg (by omega), if_neg (by omega), if_neg (by omega)]
  rcases hj with rfl | rfl | rfl
  · rw [if_pos rfl]
  · rw [if_neg (by omega), if_pos rfl]
  · rw [if_neg (by omega), if_neg (by omega), if_pos rfl]
theorem pc_t {p k : Nat} (h : 234 ≤ p) (hk : k = 14) : pc p p k = 16 := by
  unfold pc
  rw [if_neg (by omega), if_pos rfl, if_pos hk]
theorem fr_w6 {p : Nat} {S : List Nat} {M N : DD} (h : Fr p S M N) (h0 : 234 ≤ p) {k : Nat} {v : Int32} (hs : S.contains 17 = true) : Fr p S M (uI N (p + 6) k v) := fr_w h (by rw [pc_6 h0]; exact hs)
theorem fr_w7 {p : Nat} {S : List Nat} {M N : DD} (h : Fr p S M N) (h0 : 234 ≤ p) {k : Nat} {v : Int32} (hs : S.contains 19 = true) : Fr p S M (uI N (p + 7) k v) := fr_w h (by rw [pc_7 h0]; exact hs)
theorem fr_w8 {p : Nat} {S : List Nat} {M N : DD} (h : Fr p S M N) (h0 : 234 ≤ p) {k : Nat} {v : Int32} (hs : S.contains 20 = true) : Fr p S M (uI N (p + 8) k v) := fr_w h (by rw [pc_8 h0]; exact hs)
theorem fr_ws {p : Nat} {S : List Nat} {M N : DD} (h : Fr p S M N) (h0 : 234 ≤ p) {j k : Nat} {v : Int32} (hj : j = 9 ∨ j = 10 ∨ j = 11) (hs : S.contains 18 = true) : Fr p S M (uI N (p + j) k v) := fr_w h (by rw [pc_s h0 hj]; exact hs)
theorem fr_rs {p : Nat} {S : List Nat} {M N : DD} (h : Fr p S M N) (h0 : 234 ≤ p) {j : Nat} {f : Nat → Int32} (hj : j = 9 ∨ j = 10 ∨ j = 11) (hs : S.contains 18 = true) : Fr p S M (rI N (p + j) f) := fr_r h (fun k => by rw [pc_s h0 hj]; exact hs)
theorem wat {M N : DD} {c k : Nat} {v : Int32} {a : Int} (e : N = uI M c k v) (h : TI v a) : (N.1 c k).toInt = a := by
  rw [e, uI_s]
  exact h
theorem ok_bndE {α β : Type} {o : Option α} {k : α → Option β} {Q : α → Prop} {P : β → Prop} (ho : OK o Q) (h : ∀ x, o = some x → Q x → OK (k x) P) : OK (bnd o k) P := by
  obtain ⟨x, h1, h2⟩ := ho
  have h3 := h x h1 h2
  rw [h1]
  exact h3
theorem tt_144n {G : GG} {M : DD} {p : Nat} {w : Int} {L : List Nat} (t : TT G M p w L) {x : Int32} {a : Int} {v : Int32} (hx : TI x a) (h0 : 0 ≤ a) (h : a ≠ 0 ∧ a ≠ 3) : TT G (uI M 144 x.toNatClampNeg v) p w L := by
  refine tt_144 t (fun q => ?_)
  have e : x.toInt = a := hx
  have := nat_of (x := x) (by omega)
  omega
theorem tt_214g {G : GG} {M : DD} {p : Nat} {w : Int} {L : List Nat} (t : TT G M p w L) {x v : Int32} {a b : Int} (hx : TI x a) (hv : TI v b) (h0 : 0 ≤ a) (h1 : a = 1 ∨ a = 6 → 0 ≤ b ∧ b ≤ 7) (h2 : a = 2 ∨ a = 3 ∨ a = 7 ∨ a = 8 → -2048 ≤ b ∧ b ≤ 2047) (h3 : 12 ≤ a → 0 ≤ b ∧ b ≤ 8) : TT G (uI M 214 x.toNatClampNeg v) p w L := by
  have e : x.toInt = a := hx
  have e2 : v.toInt = b := hv
  have e1 := nat_of (x := x) (by omega)
  refine tt_214 t (fun q => ?_) (fun q => ?_) (fun q => ?_)
  · have := h1 (by omega)
    unfold ib
    omega
  · have := h2 (by omega)
    unfold ib
    omega
  · have := h3 (by omega)
    unfold ib
    omega
theorem tt_p0 {G : GG} {M : DD} {p : Nat} {w : Int} {L : List Nat} (t : TT G M p w L) : 234 ≤ p := tt_q0 t (tt_p t)
theorem tt_q0b {G : GG} {M : DD} {p : Nat} {w : Int} {L : List Nat} (t : TT G M p w L) {q : Nat} (hq : q ∈ L) : 234 ≤ q ∧ q + 12 ≤ G.1 := (tt_q t hq).1
theorem tt_w6 {G : GG} {M : DD} {p : Nat} {w : Int} {L : List Nat} (t : TT G M p w L) {k : Nat} {v : Int32} (h : ib (-1) 7 v) : TT G (uI M (p + 6) k v) p w L := tt_wq t (j := 6) (tt_p t) (by omega) (fun e => by omega) (fun _ => h) (fun e => by omega)
theorem tt_w7 {G : GG} {M : DD} {p : Nat} {w : Int} {L : List Nat} (t : TT G M p w L) {k : Nat} {v : Int32} : TT G (uI M (p + 7) k v) p w L := tt_wq t (j := 7) (tt_p t) (by omega) (fun e => by omega) (fun e => by omega) (fun e => by omega)
theorem tt_w8 {G : GG} {M : DD} {p : Nat} {w : Int} {L : List Nat} (t : TT G M p w L) {k : Nat} {v : Int32} (h : ib (-2048) 2047 v) : TT G (uI M (p + 8) k v) p w L := tt_wq t (j := 8) (tt_p t) (by omega) (fun e => by omega) (fun e => by omega) (fun _ => h)
theorem tt_w14 {G : GG} {M : DD} {p : Nat} {w : Int} {L : List Nat} (t : TT G M p w L) {v : Int32} : TT G (uI M p 14 v) p w L := tt_wq t (j := 0) (tt_p t) (by omega) (fun _ => by omega) (fun e => by omega) (fun e => by omega)
theorem tt_ws {G : GG} {M : DD} {p : Nat} {w : Int} {L : List Nat} (t : TT G M p w L) {j k : Nat} {v : Int32} (hj : j = 9 ∨ j = 10 ∨ j = 11) : TT G (uI M (p + j) k v) p w L := tt_wq t (tt_p t) (by omega) (fun e => by omega) (fun e => by omega) (fun e => by omega)
theorem tt_rs {G : GG} {M : DD} {p : Nat} {w : Int} {L : List Nat} (t : TT G M p w L) {j : Nat} {f : Nat → Int32} (hj : j = 9 ∨ j = 10 ∨ j = 11) : TT G (rI M (p + j) f) p w L := tt_rq t (tt_p t) (by omega) (by omega) (fun e => by omega) (fun e => by omega)
theorem gl_1 {G : GG} {M : DD} {p : Nat} {w : Int} {L : List Nat} (t : TT G M p w L) {q : Nat} (hq : q ∈ L) : G.2.2 (q + 1) = 4 := (tt_q t hq).2.1.2.2.1
theorem gl_2 {G : GG} {M : DD} {p : Nat} {w : Int} {L : List Nat} (t : TT G M p w L) {q : Nat} (hq : q ∈ L) : G.2.2 (q + 2) = 3 := (tt_q t hq).2.1.2.2.2.2
theorem gl_6 {G : GG} {M : DD} {p : Nat} {w : Int} {L : List Nat} (t : TT G M p w L) {q : Nat} (hq : q ∈ L) : G.2.2 (q + 6) = 1024 := (tt_q t hq).2.2.1.2.1
theorem gl_7 {G : GG} {M : DD} {p : Nat} {w : Int} {L : List Nat} (t : TT G M p w L) {q : Nat} (hq : q ∈ L) : G.2.2 (q + 7) = 1024 := (tt_q t hq).2.2.1.2.2.2.1
theorem gl_8 {G : GG} {M : DD} {p : Nat} {w : Int} {L : List Nat} (t : TT G M p w L) {q : Nat} (hq : q ∈ L) : G.2.2 (q + 8) = 2048 := (tt_q t hq).2.2.1.2.2.2.2.2
theorem gl_9 {G : GG} {M : DD} {p : Nat} {w : Int} {L : List Nat} (t : TT G M p w L) {q : Nat} (hq : q ∈ L) : (G.2.2 (q + 9) : Int) = 512 * w := (tt_q t hq).2.2.2.1.2.1
theorem gl_10 {G : GG} {M : DD} {p : Nat} {w : Int} {L : List Nat} (t : TT G M p w L) {q : Nat} (hq : q ∈ L) : (G.2.2 (q + 10) : Int) = 128 * w := (tt_q t hq).2.2.2.1.2.2.2.1
theorem gl_11 {G : GG} {M : DD} {p : Nat} {w : Int} {L : List Nat} (t : TT G M p w L) {q : Nat} (hq : q ∈ L) : (G.2.2 (q + 11) : Int) = 128 * w := (tt_q t hq).2.2.2.1.2.2.2.2.2
theorem gk_0 {G : GG} {M : DD} {p : Nat} {w : Int} {L : List Nat} (t : TT G M p w L) {q : Nat} (hq : q ∈ L) : G.2.1 (q + 0) = 4 := (tt_q t hq).2.1.1
theorem gk_1 {G : GG} {M : DD} {p : Nat} {w : Int} {L : List Nat} (t : TT G M p w L) {q : Nat} (hq : q ∈ L) : G.2.1 (q + 1) = 13 := (tt_q t hq).2.1.2.1
theorem gk_2 {G : GG} {M : DD} {p : Nat} {w : Int} {L : List Nat} (t : TT G M p w L) {q : Nat} (hq : q ∈ L) : G.2.1 (q + 2) = 15 := (tt_q t hq).2.1.2.2.2.1
theorem gk_6 {G : GG} {M : DD} {p : Nat} {w : Int} {L : List Nat} (t : TT G M p w L) {q : Nat} (hq : q ∈ L) : G.2.1 (q + 6) = 13 := (tt_q t hq).2.2.1.1
theorem gk_7 {G : GG} {M : DD} {p : Nat} {w : Int} {L : List Nat} (t : TT G M p w L) {q : Nat} (hq : q ∈ L) : G.2.1 (q + 7) = 13 := (tt_q t hq).2.2.1.2.2.1
theorem gk_8 {G : GG} {M : DD} {p : Nat} {w : Int} {L : List Nat} (t : TT G M p w L) {q : Nat} (hq : q ∈ L) : G.2.1 (q + 8) = 13 := (tt_q t hq).2.2.1.2.2.2.2.1
theorem gk_9 {G : GG} {M : DD} {p : Nat} {w : Int} {L : List Nat} (t : TT G M p w L) {q : Nat} (hq : q ∈ L) : G.2.1 (q + 9) = 13 := (tt_q t hq).2.2.2.1.1
theorem gk_10 {G : GG} {M : DD} {p : Nat} {w : Int} {L : List Nat} (t : TT G M p w L) {q : Nat} (hq : q ∈ L) : G.2.1 (q + 10) = 13 := (tt_q t hq).2.2.2.1.2.2.1
theorem gk_11 {G : GG} {M : DD} {p : Nat} {w : Int} {L : List Nat} (t : TT G M p w L) {q : Nat} (hq : q ∈ L) : G.2.1 (q + 11) = 13 := (tt_q t hq).2.2.2.1.2.2.2.2.1
theorem gk_s {G : GG} {M : DD} {p : Nat} {w : Int} {L : List Nat} (t : TT G M p w L) {q j : Nat} (hq : q ∈ L) (hj : j = 9 ∨ j = 10 ∨ j = 11) : G.2.1 (q + j) = 13 := by
  rcases hj with rfl | rfl | rfl
  · exact gk_9 t hq
  · exact gk_10 t hq
  · exact gk_11 t hq
theorem gk_src {G : GG} {M : DD} {p : Nat} {w : Int} {L : List Nat} (t : TT G M p w L) {c : Nat} (hc : 222 ≤ c ∧ c < 234) : G.2.1 c = 13 := (t.1.2.2 c hc.1 hc.2).1
theorem pr_3 {G : GG} {M : DD} {p : Nat} {w : Int} {L : List Nat} (t : TT G M p w L) {q : Nat} (hq : q ∈ L) : M.2 q 3 = some (q + 1) := (tt_q t hq).2.2.2.2.1.1
theorem pr_4 {G : GG} {M : DD} {p : Nat} {w : Int} {L : List Nat} (t : TT G M p w L) {q : Nat} (hq : q ∈ L) : M.2 q 4 = some (q + 2) := (tt_q t hq).2.2.2.2.1.2.1
theorem pr_5 {G : GG} {M : DD} {p : Nat} {w : Int} {L : List Nat} (t : TT G M p w L) {q : Nat} (hq : q ∈ L) : M.2 q 5 = some (q + 6) := (tt_q t hq).2.2.2.2.1.2.2.1
theorem pr_6 {G : GG} {M : DD} {p : Nat} {w : Int} {L : List Nat} (t : TT G M p w L) {q : Nat} (hq : q ∈ L) : M.2 q 6 = some (q + 7) := (tt_q t hq).2.2.2.2.1.2.2.2.1
theorem pr_7 {G : GG} {M : DD} {p : Nat} {w : Int} {L : List Nat} (t : TT G M p w L) {q : Nat} (hq : q ∈ L) : M.2 q 7 = some (q + 8) := (tt_q t hq).2.2.2.2.1.2.2.2.2.1
theorem pp_0 {G : GG} {M : DD} {p : Nat} {w : Int} {L : List Nat} (t : TT G M p w L) {q : Nat} (hq : q ∈ L) : M.2 (q + 2) 0 = some (q + 9) := (tt_q t hq).2.2.2.2.1.2.2.2.2.2.1
theorem pp_1 {G : GG} {M : DD} {p : Nat} {w : Int} {L : List Nat} (t : TT G M p w L) {q : Nat} (hq : q ∈ L) : M.2 (q + 2) 1 = some (q + 10) := (tt_q t hq).2.2.2.2.1.2.2.2.2.2.2.1
theorem pp_2 {G : GG} {M : DD} {p : Nat} {w : Int} {L : List Nat} (t : TT G M p w L) {q : Nat} (hq : q ∈ L) : M.2 (q + 2) 2 = some (q + 11) := (tt_q t hq).2.2.2.2.1.2.2.2.2.2.2.2
theorem tt_lst {G : GG} {M N : DD} {p : Nat} {w : Int} {L : List Nat} (t : TT G N p w L) (e : N.2 = M.2) {k : Nat} (h : ¬ N.2 126 k = none) : ∃ q, q ∈ L ∧ M.2 126 k = some q := by
  rcases t.2.2.2.2.2.2.1 k with h1 | ⟨q, h1, h2⟩
  · exact absurd h1 h
  · exact ⟨q, h1, by rw [← e]; exact h2⟩
theorem ok_drL {G : GG} {M N : DD} {p : Nat} {w : Int} {L : List Nat} (t : TT G N p w L) {α : Type} {P : α → Prop} {q i j : Nat} {k : Nat → Option α} (hq : q ∈ L) (e : M.2 126 i = some q) (z : j = i) (g : N.2 = M.2) (h : OK (k q) P) : OK (dr G 4 (N.2 126 j) k) P := ok_dr (by rw [g, z]; exact e) (by have := (tt_q0b t hq).2; omega) (gk_0 t hq) h
theorem ok_ds0 {G : GG} {M : DD} {p : Nat} {w : Int} {L : List Nat} (t : TT G M p w L) {α : Type} {P : α → Prop} {k : Nat → Option α} (h : ∀ c, (222 ≤ c ∧ c < 234) → (G.2.2 c : Int) = 512 * w → OK (k c) P) : OK (dr G 13 (M.2 209 0) k) P := by
  obtain ⟨s, h1, h2, h3, h4⟩ := t.2.2.2.2.2.2.2.1
  have g := t.1.2.2 (222 + 3 * s) (by omega) (by omega)
  refine ok_dr h2 (g_lt t (by omega)) g.1 (h _ ⟨by omega, by omega⟩ ?_)
  rw [g.2]
  rw [if_pos (by omega)]
theorem ok_ds1 {G : GG} {M : DD} {p : Nat} {w : Int} {L : List Nat} (t : TT G M p w L) {α : Type} {P : α → Prop} {k : Nat → Option α} (h : ∀ c, (222 ≤ c ∧ c < 234) → (G.2.2 c : Int) = 128 * w → OK (k c) P) : OK (dr G 13 (M.2 209 1) k) P := by
  obtain ⟨s, h1, h2, h3, h4⟩ := t.2.2.2.2.2.2.2.1
  have g := t.1.2.2 (223 + 3 * s) (by omega) (by omega)
  refine ok_dr h3 (g_lt t (by omega)) g.1 (h _ ⟨by omega, by omega⟩ ?_)
  rw [g.2]
  rw [if_neg (by omega)]
theorem ok_ds2 {G : GG} {M : DD} {p : Nat} {w : Int} {L : List Nat} (t : TT G M p w L) {α : Type} {P : α → Prop} {k : Nat → Option α} (h : ∀ c, (222 ≤ c ∧ c < 234) → (G.2.2 c : Int) = 128 * w → OK (k c) P) : OK (dr G 13 (M.2 209 2) k) P := by
  obtain ⟨s, h1, h2, h3, h4⟩ := t.2.2.2.2.2.2.2.1
  have g := t.1.2.2 (224 + 3 * s) (by omega) (by omega)
  refine ok_dr h4 (g_lt t (by omega)) g.1 (h _ ⟨by omega, by omega⟩ ?_)
  rw [g.2]
  rw [if_neg (by omega)]
theorem ok_dsv {G : GG} {M : DD} {p : Nat} {w : Int} {L : List Nat} (t : TT G M p w L) {α : Type} {P : α → Prop} {x : Int32} {a : Int} {k : Nat → Option α} (hx : TI x a) (h0 : 1 ≤ a) (h1 : a ≤ 2) (h : ∀ c, (222 ≤ c ∧ c < 234) → (G.2.2 c : Int) = 128 * w → OK (k c) P) : OK (dr G 13 (M.2 209 x.toNatClampNeg) k) P := by
  have e : x.toInt = a := hx
  have e1 := nat_of (x := x) (by omega)
  have e2 : x.toNatClampNeg = 1 ∨ x.toNatClampNeg = 2 := by omega
  rcases e2 with e2 | e2 <;> rw [e2]
  · exact ok_ds1 t h
  · exact ok_ds2 t h
theorem ok_dp0 {G : GG} {M : DD} {p : Nat} {w : Int} {L : List Nat} (t : TT G M p w L) {α : Type} {P : α → Prop} {q : Nat} {k : Nat → Option α} (hq : q ∈ L) (h : OK (k (q + 9)) P) : OK (dr G 13 (M.2 (q + 2) 0) k) P := ok_dr (pp_0 t hq) (by have := (tt_q0b t hq).2; omega) (gk_9 t hq) h
theorem ok_dp1 {G : GG} {M : DD} {p : Nat} {w : Int} {L : List Nat} (t : TT G M p w L) {α : Type} {P : α → Prop} {q : Nat} {k : Nat → Option α} (hq : q ∈ L) (h : OK (k (q + 10)) P) : OK (dr G 13 (M.2 (q + 2) 1) k) P := ok_dr (pp_1 t hq) (by have := (tt_q0b t hq).2; omega) (gk_10 t hq) h
theorem ok_dp2 {G : GG} {M : DD} {p : Nat} {w : Int} {L : List Nat} (t : TT G M p w L) {α : Type} {P : α → Prop} {q : Nat} {k : Nat → Option α} (hq : q ∈ L) (h : OK (k (q + 11)) P) : OK (dr G 13 (M.2 (q + 2) 2) k) P := ok_dr (pp_2 t hq) (by have := (tt_q0b t hq).2; omega) (gk_11 t hq) h
theorem ok_dpv {G : GG} {M : DD} {p : Nat} {w : Int} {L : List Nat} (t : TT G M p w L) {α : Type} {P : α → Prop} {q : Nat} {x : Int32} {a : Int} {k : Nat → Option α} (hq : q ∈ L) (hx : TI x a) (h0 : 1 ≤ a) (h1 : a ≤ 2) (h : ∀ j, (j = 10 ∨ j = 11) → (G.2.2 (q + j) : Int) = 128 * w → OK (k (q + j)) P) : OK (dr G 13 (M.2 (q + 2) x.toNatClampNeg) k) P := by
  have e : x.toInt = a := hx
  have e1 := nat_of (x := x) (by omega)
  have e2 : x.toNatClampNeg = 1 ∨ x.toNatClampNeg = 2 := by omega
  rcases e2 with e2 | e2 <;> rw [e2]
  · exact ok_dp1 t hq (h 10 (Or.inl rfl) (gl_10 t hq))
  · exact ok_dp2 t hq (h 11 (Or.inr rfl) (gl_11 t hq))
theorem ok_dpw {G : GG} {M : DD} {p : Nat} {w : Int} {L : List Nat} (t : TT G M p w L) {α : Type} {P : α → Prop} {q : Nat} {x : Int32} {a : Int} {k : Nat → Option α} (hq : q ∈ L) (hx : TI x a) (h0 : 0 ≤ a) (h1 : a ≤ 2) (h : ∀ j, (j = 9 ∨ j = 10 ∨ j = 11) → (G.2.2 (q + j) : Int) = (if a = 0 then 512 else 128) * w → OK (k (q + j)) P) : OK (dr G 13 (M.2 (q + 2) x.toNatClampNeg) k) P := by
  have e : x.toInt = a := hx
  have e1 := nat_of (x := x) (by omega)
  have e2 : x.toNatClampNeg = 0 ∨ x.toNatClampNeg = 1 ∨ x.toNatClampNeg = 2 := by omega
  rcases e2 with e2 | e2 | e2 <;> rw [e2]
  · exact ok_dp0 t hq (h 9 (Or.inl rfl) (by rw [if_pos (by omega)]; exact gl_9 t hq))
  · exact ok_dp1 t hq (h 10 (Or.inr (Or.inl rfl)) (by rw [if_neg (by omega)]; exact gl_10 t hq))
  · exact ok_dp2 t hq (h 11 (Or.inr (Or.inr rfl)) (by rw [if_neg (by omega)]; exact gl_11 t hq))
theorem pl_2 {c : Nat} (h : (c == 140 || c == 141) = true) : c = 140 ∨ c = 141 := by simpa using h
theorem pl_3 {j : Nat} (h : j = 10 ∨ j = 11) : j = 9 ∨ j = 10 ∨ j = 11 := Or.inr h
theorem mu_up {X : Int32} {a s h : Int} (e : TI X a) (l : s < h) (g : s < a) : (h - X.toInt).toNat < (h - s).toNat := by
  have : X.toInt = a := e
  omega
theorem mu_dn {X : Int32} {a s h : Int} (e : TI X a) (l : h < s) (g : a < s) : (X.toInt - h).toNat < (s - h).toNat := by
  have : X.toInt = a := e
  omega
theorem mu_0 {X : Int32} {a h : Int} (e : TI X a) (g : h - a < 1000000) : (h - X.toInt).toNat < 1000000 := by
  have : X.toInt = a := e
  omega
theorem mu_0d {X : Int32} {a h : Int} (e : TI X a) (g : a - h < 1000000) : (X.toInt - h).toNat < 1000000 := by
  have : X.toInt = a := e
  omega
theorem ib_144 {G : GG} {M : DD} {p : Nat} {w : Int} {L : List Nat} (t : TT G M p w L) {x : Int32} {a : Int} (hx : TI x a) (h : a = 0 ∨ a = 3) : -1 ≤ (M.1 144 x.toNatClampNeg).toInt ∧ (M.1 144 x.toNatClampNeg).toInt ≤ 7 := by
  have e : x.toInt = a := hx
  have e1 := nat_of (x := x) (by omega)
  have e2 : x.toNatClampNeg = 0 ∨ x.toNatClampNeg = 3 := by omega
  rcases e2 with e2 | e2 <;> rw [e2]
  · exact ib_p t (by simp [PYL] : (144, 0, -1, 7) ∈ PYL)
  · exact ib_p t (by simp [PYL] : (144, 3, -1, 7) ∈ PYL)
theorem ib_214 {G : GG} {M : DD} {p : Nat} {w : Int} {L : List Nat} (t : TT G M p w L) {x : Int32} {a : Int} (hx : TI x a) (h : a = 1 ∨ a = 6) : 0 ≤ (M.1 214 x.toNatClampNeg).toInt ∧ (M.1 214 x.toNatClampNeg).toInt ≤ 7 := by
  have e : x.toInt = a := hx
  have e1 := nat_of (x := x) (by omega)
  have e2 : x.toNatClampNeg = 1 ∨ x.toNatClampNeg = 6 := by omega
  rcases e2 with e2 | e2 <;> rw [e2]
  · exact ib_p t (by simp [PYL] : (214, 1, 0, 7) ∈ PYL)
  · exact ib_p t (by simp [PYL] : (214, 6, 0, 7) ∈ PYL)
theorem ib_214v {G : GG} {M : DD} {p : Nat} {w : Int} {L : List Nat} (t : TT G M p w L) {x : Int32} {a : Int} (hx : TI x a) (h : a = 2 ∨ a = 3 ∨ a = 7 ∨ a = 8) : -2048 ≤ (M.1 214 x.toNatClampNeg).toInt ∧ (M.1 214 x.toNatClampNeg).toInt ≤ 2047 := by
  have e : x.toInt = a := hx
  have e1 := nat_of (x := x) (by omega)
  have e2 : x.toNatClampNeg = 2 ∨ x.toNatClampNeg = 3 ∨ x.toNatClampNeg = 7 ∨ x.toNatClampNeg = 8 := by omega
  rcases e2 with e2 | e2 | e2 | e2 <;> rw [e2]
  · exact ib_p t (by simp [PYL] : (214, 2, -2048, 2047) ∈ PYL)
  · exact ib_p t (by simp [PYL] : (214, 3, -2048, 2047) ∈ PYL)
  · exact ib_p t (by simp [PYL] : (214, 7, -2048, 2047) ∈ PYL)
  · exact ib_p t (by simp [PYL] : (214, 8, -2048, 2047) ∈ PYL)
theorem ib_214m {G : GG} {M : DD} {p : Nat} {w : Int} {L : List Nat} (t : TT G M p w L) {x : Int32} {a : Int} (hx : TI x a) (h : 12 ≤ a ∧ a ≤ 28) : 0 ≤ (M.1 214 x.toNatClampNeg).toInt ∧ (M.1 214 x.toNatClampNeg).toInt ≤ 8 := by
  have e : x.toInt = a := hx
  have e1 := nat_of (x := x) (by omega)
  refine t.2.2.2.2.2.2.2.2.2 (214, x.toNatClampNeg, 0, 8) ?_
  obtain ⟨n, hn⟩ : ∃ n, n = x.toNatClampNeg := ⟨_, rfl⟩
  rw [← hn]
  have hh : n = 12 ∨ n = 13 ∨ n = 14 ∨ n = 15 ∨ n = 16 ∨ n = 17 ∨ n = 18 ∨ n = 19 ∨ n = 20 ∨ n = 21 ∨ n = 22 ∨ n = 23 ∨ n = 24 ∨ n = 25 ∨ n = 26 ∨ n = 27 ∨ n = 28 := by omega
  rcases hh with rfl | rfl | rfl | rfl | rfl | rfl | rfl | rfl | rfl | rfl | rfl | rfl | rfl | rfl | rfl | rfl | rfl <;> simp [PYL]
theorem ib_216 {G : GG} {M : DD} {p : Nat} {w : Int} {L : List Nat} (t : TT G M p w L) {x : Int32} {a : Int} (hx : TI x a) (h : a = 9 ∨ a = 10) : 0 ≤ (M.1 216 x.toNatClampNeg).toInt ∧ (M.1 216 x.toNatClampNeg).toInt ≤ 2 := by
  have e : x.toInt = a := hx
  have e1 := nat_of (x := x) (by omega)
  have e2 : x.toNatClampNeg = 9 ∨ x.toNatClampNeg = 10 := by omega
  rcases e2 with e2 | e2 <;> rw [e2]
  · exact ib_p t (by simp [PYL] : (216, 9, 0, 2) ∈ PYL)
  · exact ib_p t (by simp [PYL] : (216, 10, 0, 2) ∈ PYL)
theorem tn_m8192 : TI (-8192 : Int32) (-8192) := rfl
theorem tn_m2048 : TI (-2048 : Int32) (-2048) := rfl
theorem tn_m1024 : TI (-1024 : Int32) (-1024) := rfl
theorem tn_m128 : TI (-128 : Int32) (-128) := rfl
theorem tn_m64 : TI (-64 : Int32) (-64) := rfl
theorem tn_m30 : TI (-30 : Int32) (-30) := rfl
theorem tn_m29 : TI (-29 : Int32) (-29) := rfl
theorem tn_m28 : TI (-28 : Int32) (-28) := rfl
theorem tn_m27 : TI (-27 : Int32) (-27) := rfl
theorem tn_m26 : TI (-26 : Int32) (-26) := rfl
theorem tn_m25 : TI (-25 : Int32) (-25) := rfl
theorem tn_m24 : TI (-24 : Int32) (-24) := rfl
theorem tn_m23 : TI (-23 : Int32) (-23) := rfl
theorem tn_m22 : TI (-22 : Int32) (-22) := rfl
theorem tn_m21 : TI (-21 : Int32) (-21) := rfl
theorem tn_m20 : TI (-20 : Int32) (-20) := rfl
theorem tn_m19 : TI (-19 : Int32) (-19) := rfl
theorem tn_m18 : TI (-18 : Int32) (-18) := rfl
theorem tn_m17 : TI (-17 : Int32) (-17) := rfl
theorem tn_m16 : TI (-16 : Int32) (-16) := rfl
theorem tn_m15 : TI (-15 : Int32) (-15) := rfl
theorem tn_m14 : TI (-14 : Int32) (-14) := rfl
theorem tn_m13 : TI (-13 : Int32) (-13) := rfl
theorem tn_m12 : TI (-12 : Int32) (-12) := rfl
theorem tn_m11 : TI (-11 : Int32) (-11) := rfl
theorem tn_m10 : TI (-10 : Int32) (-10) := rfl
theorem tn_m9 : TI (-9 : Int32) (-9) := rfl
theorem tn_m8 : TI (-8 : Int32) (-8) := rfl
theorem tn_m7 : TI (-7 : Int32) (-7) := rfl
theorem tn_m6 : TI (-6 : Int32) (-6) := rfl
theorem tn_m5 : TI (-5 : Int32) (-5) := rfl
theorem tn_m4 : TI (-4 : Int32) (-4) := rfl
theorem tn_m3 : TI (-3 : Int32) (-3) := rfl
theorem tn_m2 : TI (-2 : Int32) (-2) := rfl
theorem tn_m1 : TI (-1 : Int32) (-1) := rfl
theorem tn_0 : TI (0 : Int32) (0) := rfl
theorem tn_1 : TI (1 : Int32) (1) := rfl
theorem tn_2 : TI (2 : Int32) (2) := rfl
theorem tn_3 : TI (3 : Int32) (3) := rfl
theorem tn_4 : TI (4 : Int32) (4) := rfl
theorem tn_5 : TI (5 : Int32) (5) := rfl
theorem tn_6 : TI (6 : Int32) (6) := rfl
theorem tn_7 : TI (7 : Int32) (7) := rfl
theorem tn_8 : TI (8 : Int32) (8) := rfl
theorem tn_9 : TI (9 : Int32) (9) := rfl
theorem tn_10 : TI (10 : Int32) (10) := rfl
theorem tn_11 : TI (11 : Int32) (11) := rfl
theorem tn_12 : TI (12 : Int32) (12) := rfl
theorem tn_13 : TI (13 : Int32) (13) := rfl
theorem tn_14 : TI (14 : Int32) (14) := rfl
theorem tn_15 : TI (15 : Int32) (15) := rfl
theorem tn_16 : TI (16 : Int32) (16) := rfl
theorem tn_17 : TI (17 : Int32) (17) := rfl
theorem tn_18 : TI (18 : Int32) (18) := rfl
theorem tn_19 : TI (19 : Int32) (19) := rfl
theorem tn_20 : TI (20 : Int32) (20) := rfl
theorem tn_21 : TI (21 : Int32) (21) := rfl
theorem tn_22 : TI (22 : Int32) (22) := rfl
theorem tn_23 : TI (23 : Int32) (23) := rfl
theorem tn_24 : TI (24 : Int32) (24) := rfl
theorem tn_25 : TI (25 : Int32) (25) := rfl
theorem tn_26 : TI (26 : Int32) (26) := rfl
theorem tn_27 : TI (27 : Int32) (27) := rfl
theorem tn_28 : TI (28 : Int32) (28) := rfl
theorem tn_29 : TI (29 : Int32) (29) := rfl
theorem tn_30 : TI (30 : Int32) (30) := rfl
theorem tn_31 : TI (31 : Int32) (31) := rfl
theorem tn_32 : TI (32 : Int32) (32) := rfl
theorem tn_33 : TI (33 : Int32) (33) := rfl
theorem tn_34 : TI (34 : Int32) (34) := rfl
theorem tn_35 : TI (35 : Int32) (35) := rfl
theorem tn_36 : TI (36 : Int32) (36) := rfl
theorem tn_37 : TI (37 : Int32) (37) := rfl
theorem tn_38 : TI (38 : Int32) (38) := rfl
theorem tn_39 : TI (39 : Int32) (39) := rfl
theorem tn_40 : TI (40 : Int32) (40) := rfl
theorem tn_41 : TI (41 : Int32) (41) := rfl
theorem tn_42 : TI (42 : Int32) (42) := rfl
theorem tn_43 : TI (43 : Int32) (43) := rfl
theorem tn_44 : TI (44 : Int32) (44) := rfl
theorem tn_45 : TI (45 : Int32) (45) := rfl
theorem tn_46 : TI (46 : Int32) (46) := rfl
theorem tn_47 : TI (47 : Int32) (47) := rfl
theorem tn_48 : TI (48 : Int32) (48) := rfl
theorem tn_49 : TI (49 : Int32) (49) := rfl
theorem tn_50 : TI (50 : Int32) (50) := rfl
theorem tn_51 : TI (51 : Int32) (51) := rfl
theorem tn_52 : TI (52 : Int32) (52) := rfl
theorem tn_53 : TI (53 : Int32) (53) := rfl
theorem tn_54 : TI (54 : Int32) (54) := rfl
theorem tn_55 : TI (55 : Int32) (55) := rfl
theorem tn_56 : TI (56 : Int32) (56) := rfl
theorem tn_57 : TI (57 : Int32) (57) := rfl
theorem tn_58 : TI (58 : Int32) (58) := rfl
theorem tn_59 : TI (59 : Int32) (59) := rfl
theorem tn_60 : TI (60 : Int32) (60) := rfl
theorem tn_61 : TI (61 : Int32) (61) := rfl
theorem tn_62 : TI (62 : Int32) (62) := rfl
theorem tn_63 : TI (63 : Int32) (63) := rfl
theorem tn_64 : TI (64 : Int32) (64) := rfl
theorem tn_65 : TI (65 : Int32) (65) := rfl
theorem tn_66 : TI (66 : Int32) (66) := rfl
theorem tn_67 : TI (67 : Int32) (67) := rfl
theorem tn_68 : TI (68 : Int32) (68) := rfl
theorem tn_69 : TI (69 : Int32) (69) := rfl
theorem tn_70 : TI (70 : Int32) (70) := rfl
theorem tn_71 : TI (71 : Int32) (71) := rfl
theorem tn_72 : TI (72 : Int32) (72) := rfl
theorem tn_73 : TI (73 : Int32) (73) := rfl
theorem tn_74 : TI (74 : Int32) (74) := rfl
theorem tn_75 : TI (75 : Int32) (75) := rfl
theorem tn_76 : TI (76 : Int32) (76) := rfl
theorem tn_77 : TI (77 : Int32) (77) := rfl
theorem tn_78 : TI (78 : Int32) (78) := rfl
theorem tn_79 : TI (79 : Int32) (79) := rfl
theorem tn_80 : TI (80 : Int32) (80) := rfl
theorem tn_81 : TI (81 : Int32) (81) := rfl
theorem tn_82 : TI (82 : Int32) (82) := rfl
theorem tn_83 : TI (83 : Int32) (83) := rfl
theorem tn_84 : TI (84 : Int32) (84) := rfl
theorem tn_85 : TI (85 : Int32) (85) := rfl
theorem tn_86 : TI (86 : Int32) (86) := rfl
theorem tn_87 : TI (87 : Int32) (87) := rfl
theorem tn_88 : TI (88 : Int32) (88) := rfl
theorem tn_89 : TI (89 : Int32) (89) := rfl
theorem tn_90 : TI (90 : Int32) (90) := rfl
theorem tn_91 : TI (91 : Int32) (91) := rfl
theorem tn_92 : TI (92 : Int32) (92) := rfl
theorem tn_93 : TI (93 : Int32) (93) := rfl
theorem tn_94 : TI (94 : Int32) (94) := rfl
theorem tn_95 : TI (95 : Int32) (95) := rfl
theorem tn_96 : TI (96 : Int32) (96) := rfl
theorem tn_97 : TI (97 : Int32) (97) := rfl
theorem tn_98 : TI (98 : Int32) (98) := rfl
theorem tn_99 : TI (99 : Int32) (99) := rfl
theorem tn_100 : TI (100 : Int32) (100) := rfl
theorem tn_101 : TI (101 : Int32) (101) := rfl
theorem tn_102 : TI (102 : Int32) (102) := rfl
theorem tn_103 : TI (103 : Int32) (103) := rfl
theorem tn_104 : TI (104 : Int32) (104) := rfl
theorem tn_105 : TI (105 : Int32) (105) := rfl
theorem tn_106 : TI (106 : Int32) (106) := rfl
theorem tn_107 : TI (107 : Int32) (107) := rfl
theorem tn_108 : TI (108 : Int32) (108) := rfl
theorem tn_109 : TI (109 : Int32) (109) := rfl
theorem tn_110 : TI (110 : Int32) (110) := rfl
theorem tn_111 : TI (111 : Int32) (111) := rfl
theorem tn_112 : TI (112 : Int32) (112) := rfl
theorem tn_113 : TI (113 : Int32) (113) := rfl
theorem tn_114 : TI (114 : Int32) (114) := rfl
theorem tn_115 : TI (115 : Int32) (115) := rfl
theorem tn_116 : TI (116 : Int32) (116) := rfl
theorem tn_117 : TI (117 : Int32) (117) := rfl
theorem tn_118 : TI (118 : Int32) (118) := rfl
theorem tn_119 : TI (119 : Int32) (119) := rfl
theorem tn_120 : TI (120 : Int32) (120) := rfl
theorem tn_121 : TI (121 : Int32) (121) := rfl
theorem tn_122 : TI (122 : Int32) (122) := rfl
theorem tn_123 : TI (123 : Int32) (123) := rfl
theorem tn_124 : TI (124 : Int32) (124) := rfl
theorem tn_125 : TI (125 : Int32) (125) := rfl
theorem tn_126 : TI (126 : Int32) (126) := rfl
theorem tn_127 : TI (127 : Int32) (127) := rfl
theorem tn_128 : TI (128 : Int32) (128) := rfl
theorem tn_129 : TI (129 : Int32) (129) := rfl
theorem tn_145 : TI (145 : Int32) (145) := rfl
theorem tn_192 : TI (192 : Int32) (192) := rfl
theorem tn_240 : TI (240 : Int32) (240) := rfl
theorem tn_255 : TI (255 : Int32) (255) := rfl
theorem tn_256 : TI (256 : Int32) (256) := rfl
theorem tn_384 : TI (384 : Int32) (384) := rfl
theorem tn_441 : TI (441 : Int32) (441) := rfl
theorem tn_480 : TI (480 : Int32) (480) := rfl
theorem tn_512 : TI (512 : Int32) (512) := rfl
theorem tn_1023 : TI (1023 : Int32) (1023) := rfl
theorem tn_1024 : TI (1024 : Int32) (1024) := rfl
theorem tn_2000 : TI (2000 : Int32) (2000) := rfl
theorem tn_2047 : TI (2047 : Int32) (2047) := rfl
theorem tn_2048 : TI (2048 : Int32) (2048) := rfl
theorem tn_8191 : TI (8191 : Int32) (8191) := rfl
theorem tn_16384 : TI (16384 : Int32) (16384) := rfl
theorem tn_1000000 : TI (1000000 : Int32) (1000000) := rfl
theorem tn_1664525 : TI (1664525 : Int32) (1664525) := rfl
theorem tn_1013904223 : TI (1013904223 : Int32) (1013904223) := rfl
theorem tn_2147483647 : TI (2147483647 : Int32) (2147483647) := rfl
theorem t01 {x : Int32} {a : Int} (hx : TI x a) (h0 : 0 ≤ a) (h1 : a ≤ 1) : x = 0 ∨ x = 1 := by
  have e : x.toInt = a := hx
  have e0 : (0 : Int32).toInt = 0 := rfl
  have e1 : (1 : Int32).toInt = 1 := rfl
  by_cases h : a = 0
  · exact Or.inl (pz_eq.mpr (by omega))
  · exact Or.inr (pz_eq.mpr (by omega))
