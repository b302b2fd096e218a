/-! a BLOCK by lists, predicted on both sides -/
theorem rl_ok {α β : Type} {o1 : Option α} {o2 : Option β} {S : α → Prop} {Q : α → β → Prop} (s : OK o1 S) (h : LKS o1 o2 Q) : LKS o1 o2 (fun y z => S y ∧ Q y z) := by
  obtain ⟨x, h1, h2⟩ := s
  refine rl_and ?_ h
  intro y e
  rw [h1] at e
  injection e with e
  rw [← e]
  exact h2
/-- which lists a piece uses; their entries stand -/
def MV3 (M : DD) (a b : Int32) : Prop := (EN M 0 a ∧ EN M 1 b) ∨ (EN M 0 a ∧ b.toInt < 0) ∨ (a.toInt < 0 ∧ EN M 1 b)
def MVV (M : DD) (p : Nat) (mb : Int) : Prop := ∀ b k : Nat, b < 16 → (k : Int) = 16 * mb + b → MV3 M (M.1 (p + 6) k) (M.1 (p + 6) (512 + k))
theorem mv3_e {M N : DD} (e : N.2 = M.2) {a b : Int32} (h : MV3 M a b) : MV3 N a b := by
  unfold MV3 EN at h ⊢
  rw [e]
  exact h
theorem pc_takeMotion {G : GG} {M : DD} {p : Nat} {w : Int} {L : List Nat} (t : TT G M p w L) {p1 : Int32} {k : Nat} (i1 : TI p1 k) (h : k ≤ 511) : PC (FX6_takeMotion G M 138 (some p) p1) (fun y => y.2 = M.2 ∧ y.1 144 0 = M.1 (p + 6) k ∧ y.1 144 3 = M.1 (p + 6) (512 + k)) := by
  have hp0 := tt_p0 t
  have e5 : M.2 p 5 = some (p + 6) := pr_5 t (tt_p t)
  have e7 : M.2 p 7 = some (p + 8) := pr_7 t (tt_p t)
  have e138 : M.2 138 5 = some 144 := f_r t rfl (by decide)
  unfold FX6_takeMotion
  refine pc_bnd (Q := fun s => s.2.2 = M.2 ∧ s.2.1 144 0 = M.1 (p + 6) k ∧ s.2.1 144 3 = M.1 (p + 6) (512 + k)) (pc_itr (fun (s : Int32 × DD) => (0 ≤ s.1.toInt ∧ s.1.toInt ≤ 2) ∧ s.2.2 = M.2 ∧ (∀ j, s.2.1 (p + 6) j = M.1 (p + 6) j) ∧ (1 ≤ s.1.toInt → s.2.1 144 0 = M.1 (p + 6) k) ∧ (2 ≤ s.1.toInt → s.2.1 144 3 = M.1 (p + 6) (512 + k))) ?_ _ _ ⟨(by decide : 0 ≤ (0 : Int32).toInt ∧ (0 : Int32).toInt ≤ 2), rfl, fun _ => rfl, fun h => absurd h (by decide : ¬ (1 : Int) ≤ (0 : Int32).toInt), fun h => absurd h (by decide : ¬ (2 : Int) ≤ (0 : Int32).toInt)⟩) (fun y h => pc_some h)
  rintro ⟨s, K⟩ ⟨ls, eK, hK, q0, q3⟩
  dsimp only at ls eK hK q0 q3 ⊢
  refine pc_if (fun c => pc_some ?_) (fun c => ?_)
  · have d := tl_le tn_2 (rfl : TI s s.toInt) c
    exact ⟨eK, q0 (by omega), q3 (by omega)⟩
  · have d := tl_nle tn_2 (rfl : TI s s.toInt) c
    refine pc_bnd (pc_at (rfl : TI s s.toInt) i1 ⟨by omega, by omega, by omega, by omega⟩) ?_
    rintro ⟨y6, v6⟩ ⟨m6, i6⟩
    dsimp only at m6 i6 ⊢
    subst m6
    refine pc_ltt (fun x7 e7' => pc_drF rfl (pc_drF (by rw [eK]; exact e5) (pc_chk (fun _ => pc_ltt (fun x10 e10 => pc_drF (by rw [eK]; exact e138) (pc_chk (fun _ => pc_ltt (fun M12 e12 => ?_))))))))
    have i7 : TI x7 (3 * s.toInt) := by rw [e7']; exact av_mul tn_3 (rfl : TI s s.toInt) (by omega) (by omega)
    refine pc_ltt (fun x13 e13 => pc_ltt (fun x14 e14 => pc_ltt (fun x15 e15 => pc_drF (by rw [e12]; show y6.2 p 7 = _; rw [eK]; exact e7) (pc_chk (fun _ => pc_ltt (fun x17 e17 => pc_drF (by rw [e12]; show y6.2 138 5 = _; rw [eK]; exact e138) (pc_chk (fun _ => pc_ltt (fun M19 e19 => ?_)))))))))
    have i13 : TI x13 (3 * s.toInt) := by rw [e13]; exact av_mul tn_3 (rfl : TI s s.toInt) (by omega) (by omega)
    have i14 : TI x14 (3 * s.toInt + 1) := by rw [e14]; exact av_add i13 tn_1 (by omega) (by omega)
    refine pc_ltt (fun x20 e20 => pc_ltt (fun x21 e21 => pc_ltt (fun x22 e22 => pc_ltt (fun x23 e23 => pc_drF (by rw [e19, e12]; show y6.2 p 7 = _; rw [eK]; exact e7) (pc_chk (fun _ => pc_ltt (fun x25 e25 => pc_drF (by rw [e19, e12]; show y6.2 138 5 = _; rw [eK]; exact e138) (pc_chk (fun _ => pc_ltt (fun M27 e27 => pc_ltt (fun x28 e28 => pc_some ?_)))))))))))
    have i20 : TI x20 (3 * s.toInt) := by rw [e20]; exact av_mul tn_3 (rfl : TI s s.toInt) (by omega) (by omega)
    have i21 : TI x21 (3 * s.toInt + 2) := by rw [e21]; exact av_add i20 tn_2 (by omega) (by omega)
    have i28 : x28.toInt = s.toInt + 1 := by rw [e28]; exact av_add (rfl : TI s s.toInt) tn_1 (by omega) (by omega)
    have n7 := ti_n i7
    have n14 := ti_n i14
    have n21 := ti_n i21
    have n6 := ti_n i6
    refine ⟨⟨by dsimp only; omega, by dsimp only; omega⟩, ?_, ?_, ?_, ?_⟩
    · show M27.2 = M.2
      rw [e27, e19, e12]
      exact eK
    · intro j
      show M27.1 (p + 6) j = _
      rw [e27, uI_n _ _ (by omega), e19, uI_n _ _ (by omega), e12, uI_n _ _ (by omega)]
      exact hK j
    · intro _
      show M27.1 144 0 = _
      by_cases h0 : s.toInt = 0
      · rw [e27, uI_n _ _ (by omega), e19, uI_n _ _ (by omega), e12, show x7.toNatClampNeg = 0 by omega, uI_s, e10, hK, n6, show (512 * s.toInt + (k : Int)).toNat = k by omega]
      · rw [e27, uI_n _ _ (by omega), e19, uI_n _ _ (by omega), e12, uI_n _ _ (by omega)]
        exact q0 (by omega)
    · intro h2
      show M27.1 144 3 = _
      have h1 : s.toInt = 1 := by dsimp only at h2; omega
      rw [e27, uI_n _ _ (by omega), e19, uI_n _ _ (by omega), e12, show x7.toNatClampNeg = 3 by omega, uI_s, e10, hK, n6, show (512 * s.toInt + (k : Int)).toNat = 512 + k by omega]
theorem r_tm {mu : Nat → Nat} {G H : GG} {M N : DD} {p : Nat} {w : Int} {L : List Nat} (t : CX mu G H M N p L) (tt : TT G M p w L) {p0 p0r : Option Nat} (e0 : p0 = some p ∧ p0r = some (mu p)) {x : Int32} {mb b : Int} (i : TI x (16 * mb + b)) (h : (0 ≤ mb ∧ mb < 2 * w) ∧ 0 ≤ b ∧ b ≤ 15) (hv : MVV M p mb) : LKS (FX6_takeMotion G M 138 p0 x) (FX6_takeMotion H N (mu 138) p0r x) (fun y z => TT G y p w L ∧ Fr p [1] M y ∧ Up mu 216 M N y z ∧ WG mu y z 144 0 6 (fun j => j) ∧ MV3 y (y.1 144 0) (y.1 144 3)) := by
  have hw : w = 1 ∨ w = 2 := tt_w tt
  obtain ⟨rfl, rfl⟩ := e0
  have i' : TI x ((16 * mb + b).toNat : Int) := by
    have e : (((16 * mb + b).toNat : Nat) : Int) = 16 * mb + b := by omega
    rw [e]
    exact i
  refine LKS.mono (rl_and (pc_takeMotion tt i' (by omega)) (rl_ok (s_takeMotion tt rfl (tt_p tt) i (by omega) (by omega)) (r_takeMotion t ⟨rfl, rfl⟩ (cx_p t)))) ?_
  rintro y z ⟨⟨a1, a2, a3⟩, ⟨b1, b2⟩, c1, c2⟩
  refine ⟨b1, b2, c1, c2, ?_⟩
  rw [a2, a3]
  exact mv3_e a1 (hv b.toNat _ (by omega) (by omega))
/-- one piece's samples are written on both sides -/
def PQ (mu : Nat → Nat) (M N : DD) (b : Int) : Prop := WQ mu M N 139 4 4 (fun r x => 16 * bY b + bX b + r * 16 + x) ∧ WQ mu M N 139 2 2 (fun r x => 256 + 4 * bY b + bX b / 2 + r * 8 + x) ∧ WQ mu M N 139 2 2 (fun r x => 320 + 4 * bY b + bX b / 2 + r * 8 + x)
def PA (mu : Nat → Nat) (M N : DD) (n : Int) : Prop := ∀ b, 0 ≤ b → b < n → PQ mu M N b
theorem pq_up {mu : Nat → Nat} {κ : Nat} {M N M' N' : DD} {b : Int} (u : Up mu κ M N M' N') (h : PQ mu M N b) : PQ mu M' N' b := ⟨wq_up u h.1, wq_up u h.2.1, wq_up u h.2.2⟩
theorem pa_up {mu : Nat → Nat} {κ : Nat} {M N M' N' : DD} {n : Int} (u : Up mu κ M N M' N') (h : PA mu M N n) : PA mu M' N' n := fun b h1 h2 => pq_up u (h b h1 h2)
theorem pa_ext {mu : Nat → Nat} {M N : DD} {n m k : Int} (h : PA mu M N n) (g : ∀ j, 0 ≤ j → j < k → PQ mu M N (n + j)) (e : m = n + k) : PA mu M N m := by
  intro b h1 h2
  by_cases q : b < n
  · exact h b h1 q
  · have := g (b - n) (by omega) (by omega)
    rw [show n + (b - n) = b by omega] at this
    exact this
def sqB (n : Nat) : Nat := n / 128 * 8 + n % 16 / 8 * 4 + n / 64 % 2 * 2 + n % 8 / 4
def sqC (n : Nat) : Nat := n / 32 * 8 + n % 8 / 4 * 4 + n / 16 % 2 * 2 + n % 4 / 2
theorem sq_y : (List.range 256).all (fun n => decide (sqB n < 16) && decide (16 * bY (sqB n) + bX (sqB n) + ((n / 16 % 4 : Nat) : Int) * 16 + ((n % 4 : Nat) : Int) = (n : Int))) = true := by decide +kernel
theorem sq_c : (List.range 64).all (fun n => decide (sqC n < 16) && decide (4 * bY (sqC n) + bX (sqC n) / 2 + ((n / 8 % 2 : Nat) : Int) * 8 + ((n % 2 : Nat) : Int) = (n : Int))) = true := by decide +kernel
theorem pa_all {mu : Nat → Nat} {M N : DD} (h : PA mu M N 16) : WG mu M N 139 0 384 (fun j => j) := by
  intro j h1 h2
  dsimp only
  by_cases q : j < 256
  · have e := List.all_eq_true.mp sq_y j.toNat (List.mem_range.mpr (by omega))
    simp only [Bool.and_eq_true, decide_eq_true_eq] at e
    have g := (h (sqB j.toNat) (by omega) (by omega)).1 ((j.toNat / 16 % 4 : Nat) : Int) ((j.toNat % 4 : Nat) : Int) (by omega) (by omega) (by omega) (by omega)
    dsimp only at g
    rw [e.2] at g
    exact g
  · by_cases q2 : j < 320
    · have e := List.all_eq_true.mp sq_c (j - 256).toNat (List.mem_range.mpr (by omega))
      simp only [Bool.and_eq_true, decide_eq_true_eq] at e
      have g := (h (sqC (j - 256).toNat) (by omega) (by omega)).2.1 (((j - 256).toNat / 8 % 2 : Nat) : Int) (((j - 256).toNat % 2 : Nat) : Int) (by omega) (by omega) (by omega) (by omega)
      dsimp only at g
      have e2 := e.2
      generalize bY (sqC (j - 256).toNat) = y at e2 g
      generalize bX (sqC (j - 256).toNat) / 2 = x at e2 g
      generalize (((j - 256).toNat / 8 % 2 : Nat) : Int) = r at e2 g
      generalize (((j - 256).toNat % 2 : Nat) : Int) = z at e2 g
      rw [show 256 + 4 * y + x + r * 8 + z = j by omega] at g
      exact g
    · have e := List.all_eq_true.mp sq_c (j - 320).toNat (List.mem_range.mpr (by omega))
      simp only [Bool.and_eq_true, decide_eq_true_eq] at e
      have g := (h (sqC (j - 320).toNat) (by omega) (by omega)).2.2 (((j - 320).toNat / 8 % 2 : Nat) : Int) (((j - 320).toNat % 2 : Nat) : Int) (by omega) (by omega) (by omega) (by omega)
      dsimp only at g
      have e2 := e.2
      generalize bY (sqC (j - 320).toNat) = y at e2 g
      generalize bX (sqC (j - 320).toNat) / 2 = x at e2 g
      generalize (((j - 320).toNat / 8 % 2 : Nat) : Int) = r at e2 g
      generalize (((j - 320).toNat % 2 : Nat) : Int) = z at e2 g
      rw [show 320 + 4 * y + x + r * 8 + z = j by omega] at g
      exact g
theorem wq_pq {mu : Nat → Nat} {M N : DD} {b c : Int} {n : Int} {f1 f2 f3 : Int → Int → Int} (h1 : WQ mu M N 139 n n f1) (h2 : WQ mu M N 139 (n / 2) (n / 2) f2) (h3 : WQ mu M N 139 (n / 2) (n / 2) f3) (dy dx : Int) (l : 0 ≤ dy ∧ 0 ≤ dx ∧ dy + 4 ≤ n ∧ dx + 4 ≤ n ∧ dy % 2 = 0 ∧ dx % 2 = 0) (e1 : ∀ r x, f1 r x = 16 * bY b + bX b + r * 16 + x) (e2 : ∀ r x, f2 r x = 256 + 4 * bY b + bX b / 2 + r * 8 + x) (e3 : ∀ r x, f3 r x = 320 + 4 * bY b + bX b / 2 + r * 8 + x) (ey : bY c = bY b + dy) (ex : bX c = bX b + dx) (ez : bX b % 2 = 0) : PQ mu M N c := by
  refine ⟨?_, ?_, ?_⟩
  · intro r x g1 g2 g3 g4
    have g := h1 (r + dy) (x + dx) (by omega) (by omega) (by omega) (by omega)
    rw [e1] at g
    dsimp only
    rw [ey, ex, show 16 * (bY b + dy) + (bX b + dx) + r * 16 + x = 16 * bY b + bX b + (r + dy) * 16 + (x + dx) by omega]
    exact g
  · intro r x g1 g2 g3 g4
    have g := h2 (r + dy / 2) (x + dx / 2) (by omega) (by omega) (by omega) (by omega)
    rw [e2] at g
    dsimp only
    rw [ey, ex, show 256 + 4 * (bY b + dy) + (bX b + dx) / 2 + r * 8 + x = 256 + 4 * bY b + bX b / 2 + (r + dy / 2) * 8 + (x + dx / 2) by omega]
    exact g
  · intro r x g1 g2 g3 g4
    have g := h3 (r + dy / 2) (x + dx / 2) (by omega) (by omega) (by omega) (by omega)
    rw [e3] at g
    dsimp only
    rw [ey, ex, show 320 + 4 * (bY b + dy) + (bX b + dx) / 2 + r * 8 + x = 320 + 4 * bY b + bX b / 2 + (r + dy / 2) * 8 + (x + dx / 2) by omega]
    exact g
theorem r_pr {mu : Nat → Nat} {G H : GG} {M N : DD} {p : Nat} {w : Int} {L : List Nat} (t : CX mu G H M N p L) (tt : TT G M p w L) {p0 p0r : Option Nat} (e0 : p0 = some 125 ∧ p0r = some (mu 125)) {p1 p2 p3 p4 : Int32} {mb b n : Int} (i1 : TI p1 mb) (i2 : TI p2 b) (i3 : TI p3 n) (i4 : TI p4 1) (h0 : 0 ≤ mb ∧ mb < 2 * w) (h1 : 0 ≤ b ∧ b ≤ 15) (h3 : n = 4 ∨ n = 8 ∧ b % 4 = 0 ∨ n = 16 ∧ b = 0) (hm : WG mu M N 144 0 6 (fun j => j)) (hv : MV3 M (M.1 144 0) (M.1 144 3)) : LKS (FX6_predictRegion G M 138 p0 p1 p2 p3 p4) (FX6_predictRegion H N (mu 138) p0r p1 p2 p3 p4) (fun y z => TT G y p w L ∧ Fr p [1] M y ∧ Up mu 216 M N y z ∧ ∀ j, 0 ≤ j → j < n * n / 16 → PQ mu y z (b + j)) := by
  obtain ⟨rfl, rfl⟩ := e0
  refine LKS.mono (rl_ok (s_predictRegion tt rfl i1 i2 i3 h0.1 h0.2 h1.1 h1.2 h3) (r_predictRegion t ⟨rfl, rfl⟩ i2 i3 i4 h1.1 h1.2 h3 rfl hm hv)) ?_
  rintro y z ⟨⟨a1, a2⟩, b1, b2, b3, b4⟩
  refine ⟨a1, a2, up_wk b1, ?_⟩
  intro j j0 j1
  refine wq_pq (b := b) b2 b3 b4 (bY (b + j) - bY b) (bX (b + j) - bX b) ?_ (fun r x => by (try dsimp only); unfold bY bX; omega) (fun r x => by (try dsimp only); unfold bY bX; omega) (fun r x => by (try dsimp only); unfold bY bX; omega) (by omega) (by omega) (by unfold bX; omega)
  unfold bX bY
  rcases h3 with rfl | ⟨rfl, h3⟩ | ⟨rfl, rfl⟩
  · have : j = 0 := by omega
    subst this
    omega
  · have h4 : j = 0 ∨ j = 1 ∨ j = 2 ∨ j = 3 := by omega
    rcases h4 with rfl | rfl | rfl | rfl <;> omega
  · omega
