/-! Reader: codes of tables -/
def trL : List Int32 := [29, -1, 91, 90, 154, 151, 212, -3, 224, -1, 242, 239, 252, 255, 264, 268, 275, 280, 285, 290, 294, 299, 302, 308, 309, 314, 315, 319, 320, -5, 324, -4, 327, -3, 329, -3, -1, -2, 330, -1, 332, -1, -2, -1, -2, -1, 333, -1, 335, 334, 337, 336, 340, 339, 344, 343, 351, 348, 30, -3, 31, -6, 34, 32, 33, -10, -5, -2, 35, 41, 38, 36, 46, 37, -8, -4, 43, 39, 50, 40, -12, -7, 42, -14, -18, -9, 47, 44, 55, 45, -16, -11, -22, -13, 51, 48, 58, 49, -20, -15, -26, -17, 61, 52, 56, 53, 60, 54, -24, -19, -30, -21, 59, 57, -28, -23, -34, -25, -27, -33, -38, -29, 68, 62, 65, 63, 67, 64, -32, -31, 72, 66, -36, -35, -42, -37, 76, 69, 73, 70, 75, 71, -40, -39, -46, -41, 82, 74, -44, -43, -50, -45, 80, 77, 83, 78, 85, 79, -52, -47, 81, 86, 0, -48, -54, -49, 88, 84, -56, -51, -58, -53, 89, 87, -60, -55, -62, -57, -59, -61, -3, -1, 92, 100, 96, 93, 94, 99, 104, 95, -8, -2, 101, 97, 109, 98, -12, -4, -18, -5, 105, -6, 106, 102, 111, 103, -16, -7, -22, -9, -14, -10, 112, 107, 110, 108, -20, -11, -26, -13, -15, -21, -30, -17, 115, 113, 119, 114, -24, -19, 123, 116, 120, 117, 122, 118, -28, -23, -34, -25, 127, 121, -32, -27, -38, -29, 132, 124, 128, 125, 130, 126, -36, -31, -42, -33, 131, 129, -40, -35, -46, -37, -39, -41, 140, 133, 137, 134, 136, 135, -44, -43, -50, -45, 139, 138, -48, -47, -54, -49, 146, 141, 143, 142, -53, -51, 145, 144, -57, -52, -56, -55, 147, 148, 0, -58, 150, 149, -60, -59, -62, -61, 173, 152, 164, 153, -3, -1, 155, 161, 167, 156, 159, 157, 179, 158, -20, -2, 165, 160, -24, -4, 171, 162, 166, 163, -9, -5, -10, -6, -7, -25, -8, -30, 181, 168, 175, 169, 185, 170, -28, -11, 177, 172, -12, -13, 180, 174, -18, -14, 178, 176, -33, -15, -16, -17, -23, -19, -34, -21, -26, -22, 188, 182, 186, 183, 192, 184, -32, -27, -38, -29, 195, 187, -36, -31, 198, 189, 193, 190, 197, 191, -40, -35, -42, -37, 196, 194, -44, -39, -46, -41, -43, -49, -50, -45, 205, 199, 202, 200, 201, -48, -52, -47, 203, 204, -56, -51, -54, -53, 209, 206, 207, 208, -60, -55, -58, -57, 210, 211, 0, -59, -62, -61, 213, -1, 214, -6, 218, 215, 217, 216, -5, -2, -4, -10, 220, 219, -11, -7, 222, 221, -9, -8, -14, 223, -13, -12, 226, 225, -3, -2, 228, 227, -5, -4, 230, 229, -7, -6, 232, 231, -9, -8, 234, 233, -11, -10, 236, 235, -13, -12, 238, 237, -15, -14, 0, -16, 241, 240, -2, -1, -4, -3, 245, 243, 244, -5, -7, -6, 247, 246, -9, -8, 249, 248, -11, -10, 251, 250, -13, -12, -15, -14, 258, 253, 254, -8, -5, -1, 257, 256, -3, -2, -7, -4, 260, 259, -9, -6, 262, 261, -11, -10, 263, -13, -14, -12, 265, 270, 266, 273, 274, 267, -11, -1, 272, 269, -5, -2, 271, -9, -4, -3, -7, -6, -10, -8, -13, -12, 278, 276, 277, -8, -2, -1, 283, 279, -9, -3, 282, 281, -5, -4, -7, -6, 284, -11, -12, -10, 286, 293, 287, -10, 288, -9, 289, -2, -11, -1, 292, 291, -4, -3, -6, -5, -8, -7, 295, 301, 296, -9, 297, -8, 298, -2, -10, -1, 300, -6, -4, -3, -7, -5, 303, 307, 304, -8, 305, -2, 306, -3, -9, -1, -7, -4, -6, -5, 310, -7, 311, -6, 312, -3, 313, -8, -2, -1, -5, -4, 316, -6, 317, -3, 318, -7, -2, -1, -5, -4, 321, 323, 322, -3, -1, -2, -4, -6, 325, -3, 326, -5, -1, -2, 328, -4, -1, -2, -1, -2, 331, -2, -4, -3, -3, -2, -3, -2, -2, -1, -4, -3, -2, -1, 338, -3, -5, -4, -2, -1, 342, 341, -4, -3, -6, -5, 347, -1, 345, 346, -2, -3, -5, -4, -7, -6, 350, 349, -2, -1, -4, -3, 353, 352, -6, -5, 354, -7, 355, -8, 356, -9, 357, -10, 358, -11, 359, -12, 360, -13, 361, -14, 0, -15, 0, 0, 0, 0, 0, 0, 0, 0, 0, 0, 0, 0, 0, 0, 0, 0, 0, 0, 0, 0, 0, 0, 0, 0, 0, 0, 0, 0, 0, 0, 0, 0, 0, 0, 0, 0, 0, 0, 0, 0, 0, 0, 0, 0, 0, 0, 0, 0, 0, 0, 0, 0, 0, 0, 0, 0, 0, 0, 0, 0, 0, 0, 0, 0, 0, 0, 0, 0, 0, 0, 0, 0, 0, 0, 0, 0]
def tabA (t : Nat) : Nat := ((sT 10).getD t 0).toInt.toNat
def cdM (t : Nat) : Nat := tabA (t + 1) - tabA t
def cdN (t k : Nat) : Nat := ((sT 6).getD (2 * (tabA t + k)) 0).toInt.toNat
def cdV (t k : Nat) : Nat := ((sT 6).getD (2 * (tabA t + k) + 1) 0).toInt.toNat
/-- the node behind j bits of a code -/
def wkn (V n : Nat) (root : Nat) : Nat → Int
  | 0 => root
  | j + 1 => (trL.getD (2 * wkn V n root j + (V / 2 ^ (n - 1 - j) % 2 : Nat)).toNat 0).toInt
def wkb (V n k : Nat) : Nat → Int → Bool
  | 0, nd => decide (nd = -1 - (k : Int))
  | m + 1, nd => decide (0 ≤ nd ∧ nd < 400) && (decide ((trL.getD (2 * nd + (V / 2 ^ (n - 1 - (n - (m + 1))) % 2 : Nat)).toNat 0).toInt ≠ 0) && wkb V n k m (trL.getD (2 * nd + (V / 2 ^ (n - 1 - (n - (m + 1))) % 2 : Nat)).toNat 0).toInt)
def wkok (V n root k : Nat) : Bool := decide (1 ≤ n ∧ n ≤ 16 ∧ V < 2 ^ n) && wkb V n k n root
theorem wkb_at {V n k root : Nat} : ∀ m, m ≤ n → wkb V n k m (wkn V n root (n - m)) = true → wkn V n root n = -1 - (k : Int) ∧ ∀ j, n - m ≤ j → j < n → 0 ≤ wkn V n root j ∧ wkn V n root j < 400 ∧ wkn V n root (j + 1) ≠ 0 := by
  intro m
  induction m with
  | zero =>
    intro _ h
    have h1 : decide (wkn V n root (n - 0) = -1 - (k : Int)) = true := h
    exact ⟨of_decide_eq_true h1, fun j h2 h3 => by omega⟩
  | succ m ih =>
    intro hm h
    have h1 : (decide (0 ≤ wkn V n root (n - (m + 1)) ∧ wkn V n root (n - (m + 1)) < 400) && (decide (wkn V n root (n - (m + 1) + 1) ≠ 0) && wkb V n k m (wkn V n root (n - (m + 1) + 1)))) = true := h
    rw [Bool.and_eq_true, Bool.and_eq_true, decide_eq_true_eq, decide_eq_true_eq] at h1
    obtain ⟨a1, a2, a3⟩ := h1
    rw [show n - (m + 1) + 1 = n - m by omega] at a2 a3
    obtain ⟨b1, b2⟩ := ih (by omega) a3
    refine ⟨b1, fun j h2 h3 => ?_⟩
    by_cases q : j = n - (m + 1)
    · subst q
      rw [show n - (m + 1) + 1 = n - m by omega]
      exact ⟨a1.1, a1.2, a2⟩
    · exact b2 j (by omega) h3
def tabok (t : Nat) : Bool := (List.range (cdM t)).all (fun k => wkok (cdV t k) (cdN t k) t k)
set_option maxRecDepth 100000 in
theorem tab_all : (List.range 29).all tabok = true := by decide +kernel
theorem tab_facts : ∀ t, t < 29 → tabA t ≤ 386 ∧ tabA t ≤ tabA (t + 1) ∧ tabA (t + 1) ≤ 386 ∧ ((sT 10).getD t 0).toInt = tabA t ∧ ((sT 10).getD (t + 1) 0).toInt = tabA (t + 1) := by decide +kernel
theorem code_facts : ∀ i, i < 772 → ((sT 6).getD i 0).toInt = ((sT 6).getD i 0).toInt.toNat ∧ ((sT 6).getD i 0).toInt < 100 := by decide +kernel
theorem tab_at {t k : Nat} (ht : t < 29) (hk : k < cdM t) : 1 ≤ cdN t k ∧ cdN t k ≤ 16 ∧ cdV t k < 2 ^ cdN t k ∧ wkn (cdV t k) (cdN t k) t (cdN t k) = -1 - (k : Int) ∧ ∀ j, j < cdN t k → 0 ≤ wkn (cdV t k) (cdN t k) t j ∧ wkn (cdV t k) (cdN t k) t j < 400 ∧ wkn (cdV t k) (cdN t k) t (j + 1) ≠ 0 := by
  have h1 := List.all_eq_true.mp tab_all t (List.mem_range.mpr ht)
  have h2 := List.all_eq_true.mp h1 k (List.mem_range.mpr hk)
  unfold wkok at h2
  rw [Bool.and_eq_true, decide_eq_true_eq] at h2
  obtain ⟨⟨a1, a2, a3⟩, a5⟩ := h2
  obtain ⟨a4, a6⟩ := wkb_at (root := t) (cdN t k) (Nat.le_refl _) (by rw [Nat.sub_self]; exact a5)
  exact ⟨a1, a2, a3, a4, fun j hj => a6 j (by omega) hj⟩
theorem lengthOf_ok {G : GG} {M : DD} {p0 p1 : Int32} {t k : Nat} (ht : p0.toInt = t) (ht2 : t < 29) (hk : p1.toInt = k) (hk2 : k < cdM t) : OK (FX5_lengthOf G M p0 p1) (fun y => y.1 = M ∧ y.2.toInt = cdN t k) := by
  have e0 : (0 : Int32).toInt = 0 := rfl
  have e1 : (1 : Int32).toInt = 1 := rfl
  have e2 : (2 : Int32).toInt = 2 := rfl
  obtain ⟨f1, f2, f3, f4, f5⟩ := tab_facts t ht2
  have hkm : tabA t + k < tabA (t + 1) := by unfold cdM at hk2; omega
  have hn0 : p0.toNatClampNeg = t := by
    have := pz_nat (x := p0) (by omega)
    omega
  unfold FX5_lengthOf
  refine ok_chk (pz_ix (by omega) (by omega)) (ok_lt (ok_lt ?_))
  rw [hn0]
  have hx2 : ((sT 10).getD t 0 + p1).toInt = ((tabA t + k : Nat) : Int) := by
    rw [ti_add (by omega) (by omega), f4, hk]
    omega
  generalize (sT 10).getD t 0 + p1 = x2 at hx2
  refine ok_bnd (Q := fun y : Int32 => y.toInt = cdN t k) (ok_if (fun c => ?_) (fun _ => ok_lt ?_)) (fun y3 h3 => ok_some ⟨rfl, h3⟩)
  · have := pz_lt.mp c
    omega
  · have hp1 : (p0 + (1 : Int32)).toInt = ((t + 1 : Nat) : Int) := by
      rw [ti_add (by omega) (by omega)]
      omega
    have hn1 : (p0 + (1 : Int32)).toNatClampNeg = t + 1 := by
      have := pz_nat (x := p0 + (1 : Int32)) (by omega)
      omega
    refine ok_chk (pz_ix (by omega) (by omega)) (ok_lt ?_)
    rw [hn1]
    refine ok_bnd (Q := fun y : Int32 => y.toInt = cdN t k) (ok_if (fun _ => ok_lt ?_) (fun c => absurd (pz_lt.mpr (by omega)) c)) (fun y7 h7 => ok_some h7)
    have hm := pz_mulc (x := x2) e2 (by omega) (by omega)
    have hn2 : ((2 : Int32) * x2).toNatClampNeg = 2 * (tabA t + k) := by
      have := pz_nat (x := (2 : Int32) * x2) (by omega)
      omega
    refine ok_chk (pz_ix (by omega) (by omega)) (ok_lt (ok_some ?_))
    rw [hn2]
    exact (code_facts (2 * (tabA t + k)) (by omega)).1
theorem valueOf_ok {G : GG} {M : DD} {p0 p1 : Int32} {t k : Nat} (ht : p0.toInt = t) (ht2 : t < 29) (hk : p1.toInt = k) (hk2 : k < cdM t) : OK (FX5_valueOf G M p0 p1) (fun y => y.1 = M ∧ y.2.toInt = cdV t k) := by
  have e0 : (0 : Int32).toInt = 0 := rfl
  have e1 : (1 : Int32).toInt = 1 := rfl
  have e2 : (2 : Int32).toInt = 2 := rfl
  obtain ⟨f1, f2, f3, f4, f5⟩ := tab_facts t ht2
  have hkm : tabA t + k < tabA (t + 1) := by unfold cdM at hk2; omega
  have hn0 : p0.toNatClampNeg = t := by
    have := pz_nat (x := p0) (by omega)
    omega
  unfold FX5_valueOf
  refine ok_chk (pz_ix (by omega) (by omega)) (ok_lt (ok_lt ?_))
  rw [hn0]
  have hx2 : ((sT 10).getD t 0 + p1).toInt = ((tabA t + k : Nat) : Int) := by
    rw [ti_add (by omega) (by omega), f4, hk]
    omega
  generalize (sT 10).getD t 0 + p1 = x2 at hx2
  refine ok_bnd (Q := fun y : Int32 => y.toInt = cdV t k) (ok_if (fun c => ?_) (fun _ => ok_lt ?_)) (fun y3 h3 => ok_some ⟨rfl, h3⟩)
  · have := pz_lt.mp c
    omega
  · have hp1 : (p0 + (1 : Int32)).toInt = ((t + 1 : Nat) : Int) := by
      rw [ti_add (by omega) (by omega)]
      omega
    have hn1 : (p0 + (1 : Int32)).toNatClampNeg = t + 1 := by
      have := pz_nat (x := p0 + (1 : Int32)) (by omega)
      omega
    refine ok_chk (pz_ix (by omega) (by omega)) (ok_lt ?_)
    rw [hn1]
    refine ok_bnd (Q := fun y : Int32 => y.toInt = cdV t k) (ok_if (fun _ => ok_lt (ok_lt ?_)) (fun c => absurd (pz_lt.mpr (by omega)) c)) (fun y7 h7 => ok_some h7)
    have hm := pz_mulc (x := x2) e2 (by omega) (by omega)
    have hm1 : ((2 : Int32) * x2 + (1 : Int32)).toInt = ((2 * (tabA t + k) + 1 : Nat) : Int) := by
      rw [ti_add (by omega) (by omega), hm]
      omega
    have hn2 : ((2 : Int32) * x2 + (1 : Int32)).toNatClampNeg = 2 * (tabA t + k) + 1 := by
      have := pz_nat (x := (2 : Int32) * x2 + (1 : Int32)) (by omega)
      omega
    refine ok_chk (pz_ix (by omega) (by omega)) (ok_lt (ok_some ?_))
    rw [hn2]
    exact (code_facts (2 * (tabA t + k) + 1) (by omega)).1
def tokv (k : Nat) : Nat := k + (if 6 ≤ k then 6 else if 3 ≤ k then 5 else if 1 ≤ k then 3 else 0)
/-- the tree of codes stands -/
def TR (G : GG) (M : DD) (r tr : Nat) : Prop := M.2 r 13 = some tr ∧ tr < G.1 ∧ G.2.1 tr = 13 ∧ G.2.2 tr = 800 ∧ ∀ i, i < 800 → M.1 tr i = trL.getD i 0
set_option maxHeartbeats 4000000 in
theorem codeR_ok {G : GG} {M : DD} {r d t el tr : Nat} {f : Nat → Nat} {T : Nat} {S : SS} {D : List Tok} {e tb k : Nat} {p0 p1 : Int32} (h : RD G M r d t f T S) (hE : RE G M r el t S) (hd : el ≠ d) (hR : TR G M r tr) (htt : tr ≠ t) (htb : tb < 29) (hk : k < cdM tb) (hv : VT f T (toks e (cdV tb k) (cdN tb k) ++ D) S) (hp : pos (runs (toks e (cdV tb k) (cdN tb k)) S) ≤ 600000) (he : p0.toInt = e) (he2 : e ≤ 16) (hp1 : p1.toInt = tb) : OK (FX5_code G M r p0 p1) (fun y => y.2.toInt = ((if tb < 4 then tokv k else k : Nat) : Int) ∧ RD G y.1 r d t f T (runs (toks e (cdV tb k) (cdN tb k)) S) ∧ RE G y.1 r el t (runs (toks e (cdV tb k) (cdN tb k)) S) ∧ VT f T D (runs (toks e (cdV tb k) (cdN tb k)) S) ∧ RY M r t el y.1) := by
  have e0 : (0 : Int32).toInt = 0 := rfl
  have e1 : (1 : Int32).toInt = 1 := rfl
  have em1 : (-1 : Int32).toInt = -1 := rfl
  have e2 : (2 : Int32).toInt = 2 := rfl
  have e3 : (3 : Int32).toInt = 3 := rfl
  have e4 : (4 : Int32).toInt = 4 := rfl
  have e5 : (5 : Int32).toInt = 5 := rfl
  have e6 : (6 : Int32).toInt = 6 := rfl
  have e17 : (17 : Int32).toInt = 17 := rfl
  obtain ⟨k1, k2, k3, k4, k5⟩ := tab_at htb hk
  have hkb : k < 387 := by
    have := tab_facts tb htb
    unfold cdM at hk
    omega
  have her : el ≠ r := fun e => by
    have h1 := h.1.2.1
    have h2 := hE.2.2.1
    rw [← e] at h1
    omega
  obtain ⟨hdr, htr, hdt⟩ := h.lt
  obtain ⟨t1, t2, t3, t4, t5⟩ := hR
  have htrr : tr ≠ r := fun e => by
    have h1 := h.1.2.1
    rw [← e] at h1
    omega
  generalize hN : cdN tb k = n at *
  generalize hV : cdV tb k = V at *
  rw [toks_r] at hv
  unfold FX5_code
  refine ok_lt (ok_lt (ok_bnd (ok_itr (fun s : Int32 × Int32 × DD => ∃ j : Nat, s.2.1.toInt = j ∧ j ≤ n ∧ s.1.toInt = wkn V n tb j ∧ RD G s.2.2 r d t f T (runs ((List.range' 0 j).map (tokj e V n)) S) ∧ VT f T (tkr e V n (n - j) ++ D) (runs ((List.range' 0 j).map (tokj e V n)) S) ∧ RX (uI M r 4 (M.1 r 2)) r t s.2.2) (fun s => (17 - s.2.1.toInt).toNat) (P := fun y : Int32 × Int32 × DD => y.1.toInt = -1 - (k : Int) ∧ RD G y.2.2 r d t f T (runs (toks e V n) S) ∧ VT f T D (runs (toks e V n) S) ∧ RX (uI M r 4 (M.1 r 2)) r t y.2.2) ?_ 1000000 _ ?_ ?_) (fun y3 h3 => ?_)))
  · intro s hs
    obtain ⟨w, kk, N⟩ := s
    obtain ⟨j, j1, j2, j3, j4, j5, j6⟩ := hs
    dsimp only at j1 j3 j4 j6 ⊢
    refine ok_if (fun c => ?_) (fun c => ok_if (fun c2 => ok_some ?_) (fun c2 => ok_lt ?_))
    · have := pz_le.mp c
      exfalso
      omega
    · have c3 := pz_lt.mp c2
      have ej : j = n := by
        by_cases q : j < n
        · have := (k5 j q).1
          omega
        · omega
      subst ej
      dsimp only
      rw [Nat.sub_self] at j5
      rw [runs_n] at j4 j5
      exact ⟨by rw [j3, k4], j4, j5, j6⟩
    · have c3 : ¬ w.toInt < (0 : Int32).toInt := fun z => c2 (pz_lt.mpr z)
      have hjn : j < n := by
        by_cases q : j < n
        · exact q
        · have ej : j = n := by omega
          rw [ej] at j3
          omega
      obtain ⟨b1, b2, b3⟩ := k5 j hjn
      rw [tkr_cons e V n hjn] at j5
      have hm := pz_mulc (x := w) e2 (by omega) (by omega)
      refine ok_bnd (bit_ok j4 j5 he he2 j1) (fun y21 h21 => ?_)
      obtain ⟨y1, y2⟩ := y21
      obtain ⟨z1, z2, z3, z4⟩ := h21
      dsimp only at z1 z2 z3 z4 ⊢
      have hb1 : V / 2 ^ (n - 1 - j) % 2 ≤ 1 := by omega
      have hwk : wkn V n tb (j + 1) = (trL.getD (2 * wkn V n tb j + (V / 2 ^ (n - 1 - j) % 2 : Nat)).toNat 0).toInt := rfl
      rw [← runs_s] at z2 z3
      generalize V / 2 ^ (n - 1 - j) % 2 = B at z1 hb1 hwk
      have hx22 : ((2 : Int32) * w + y2).toInt = 2 * wkn V n tb j + (B : Int) := by
        rw [ti_add (by omega) (by omega), hm, z1, j3]
      have hn22 : ((2 : Int32) * w + y2).toNatClampNeg = (2 * wkn V n tb j + (B : Int)).toNat := by
        have := pz_nat (x := (2 : Int32) * w + y2) (by omega)
        omega
      refine ok_lt (ok_dr (b := tr) (by rw [j6.1]; exact t1) t2 t3 (ok_chk (pz_ix (by omega) (by omega)) (ok_lt ?_)))
      have hrd : y1.1 tr ((2 : Int32) * w + y2).toNatClampNeg = trL.getD (2 * wkn V n tb j + (B : Int)).toNat 0 := by
        rw [hn22, z4.2 tr _ htt (fun q => htrr q.1), j6.2 tr _ htt (fun q => htrr q.1), uI_n _ _ (fun q => htrr q.1), t5 _ (by omega)]
      rw [hrd]
      refine ok_bnd (Q := fun y : DD => y = y1) (ok_if (fun c4 => ?_) (fun _ => ok_some rfl)) (fun y25 h25 => ok_lt (ok_some ?_))
      · have := pz_eq.mp c4
        rw [← hwk] at this
        exact absurd this b3
      · subst h25
        have hk1 : (kk + 1).toInt = j + 1 := by rw [ti_add (by omega) (by omega), j1, e1]
        dsimp only
        exact ⟨⟨j + 1, by rw [hk1]; omega, by omega, hwk.symm, z2, z3, z4.1.trans j6.1, fun x k9 h1 h2 => (z4.2 x k9 h1 h2).trans (j6.2 x k9 h1 h2)⟩, by omega⟩
  · exact ⟨0, rfl, Nat.zero_le _, hp1, h.f4 _, hv, rfl, fun _ _ _ _ => rfl⟩
  · dsimp only
    omega
  · obtain ⟨w, kk, N⟩ := y3
    obtain ⟨z1, z2, z3, z4⟩ := h3
    dsimp only at z1 z2 z4 ⊢
    have hx6 : ((-1 : Int32) - w).toInt = k := by
      rw [ti_sub (by omega) (by omega), em1, z1]
      omega
    refine ok_lt ?_
    generalize (-1 : Int32) - w = x6 at hx6
    refine ok_bnd (Q := fun y : Int32 => y.toInt = ((if tb < 4 then tokv k else k : Nat) : Int)) ?_ (fun y7 h7 => ok_bnd (rec_ok (p0 := y7) z2 h.s01 hE hd k1 hp htr her z4) (fun y8 h8 => ok_some ⟨h7, h8.1, h8.2.1, z3, h8.2.2⟩))
    refine ok_if (fun c => ok_some ?_) (fun c => ?_)
    · have := pz_le.mp c
      have hq4 : (if tb < 4 then tokv k else k) = k := if_neg (by omega)
      rw [hq4]
      exact hx6
    · have c1 : ¬ (4 : Int32).toInt ≤ p1.toInt := fun q => c (pz_le.mpr q)
      have hq4 : (if tb < 4 then tokv k else k) = tokv k := if_pos (by omega)
      rw [hq4]
      refine ok_bnd (Q := fun y : Int32 => y.toInt = ((if 6 ≤ k then 6 else if 3 ≤ k then 5 else if 1 ≤ k then 3 else 0 : Nat) : Int)) ?_ (fun y10 h10 => ok_lt (ok_some ?_))
      · refine ok_if (fun c5 => ?_) (fun c5 => ok_some ?_)
        · have d5 := pz_le.mp c5
          refine ok_bi (ok_if (fun c6 => ?_) (fun c6 => ok_some (ok_some ?_)))
          · have d6 := pz_le.mp c6
            refine ok_bi (ok_if (fun c7 => ok_some (ok_some (ok_some ?_))) (fun c7 => ok_some (ok_some (ok_some ?_))))
            · have := pz_le.mp c7
              rw [if_pos (by omega)]; exact e6
            · have : ¬ (6 : Int32).toInt ≤ x6.toInt := fun q => c7 (pz_le.mpr q)
              rw [if_neg (by omega), if_pos (by omega)]; exact e5
          · have : ¬ (3 : Int32).toInt ≤ x6.toInt := fun q => c6 (pz_le.mpr q)
            rw [if_neg (by omega), if_neg (by omega), if_pos (by omega)]; exact e3
        · have : ¬ (1 : Int32).toInt ≤ x6.toInt := fun q => c5 (pz_le.mpr q)
          rw [if_neg (by omega), if_neg (by omega), if_neg (by omega)]; exact e0
      · unfold tokv
        have : (if 6 ≤ k then 6 else if 3 ≤ k then 5 else if 1 ≤ k then 3 else 0) ≤ 6 := by
          split
          · omega
          · split
            · omega
            · split <;> omega
        rw [ti_add (by omega) (by omega), hx6, h10]
        omega
