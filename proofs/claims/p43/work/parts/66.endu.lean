/-! Writer: endUnit -/
def ET (q : Nat) (p0 : Int32) : List Tok := if p0 = 0 then (0, 0, 1) :: fillT (q + 1) 0 else fillT q 0
/-- the bytes of a unit: its first, then the bits by eight -/
def UB (c : Nat) (f : Nat → Nat) (j : Nat) : List Nat := c :: (List.range j).map (fun i => pv f (8 * i) 8)
theorem UB_len (c : Nat) (f : Nat → Nat) (j : Nat) : (UB c f j).length = 1 + j := by
  unfold UB
  rw [List.length_cons, List.length_map, List.length_range]
  omega
theorem UB_get {c : Nat} {f : Nat → Nat} {j i x : Nat} (h : (UB c f j)[i]? = some x) : (i = 0 ∧ x = c) ∨ (∃ k, i = 1 + k ∧ k < j ∧ x = pv f (8 * k) 8) := by
  unfold UB at h
  cases i with
  | zero => left; exact ⟨rfl, by cases h; rfl⟩
  | succ k =>
    right
    rw [List.getElem?_cons_succ, List.getElem?_map] at h
    by_cases hk : k < j
    · rw [List.getElem?_range hk] at h
      exact ⟨k, by omega, hk, by cases h; rfl⟩
    · rw [List.getElem?_eq_none (by rw [List.length_range]; omega)] at h
      cases h
theorem runs_fillT {S : SS} (h0 : S.1 = 0) (b : Nat) : runs (fillT S.2.1 b) S = (0, 8 * ((S.2.1 + 7) / 8), S.2.2) := by
  unfold fillT
  rw [runs_rep b _ _ h0, show S.2.1 + (8 - S.2.1 % 8) % 8 = 8 * ((S.2.1 + 7) / 8) by omega]
theorem runs_ET {S : SS} (h0 : S.1 = 0) (p0 : Int32) : runs (ET S.2.1 p0) S = (0, 8 * ((S.2.1 + (if p0 = 0 then 1 else 0) + 7) / 8), S.2.2) := by
  unfold ET
  by_cases c : p0 = 0
  · rw [if_pos c, if_pos c]
    show runs (fillT (S.2.1 + 1) 0) (nxt (0, 0, 1) S) = _
    have e : nxt (0, 0, 1) S = (0, S.2.1 + 1, S.2.2) := by unfold nxt; rw [if_pos rfl, if_pos h0]
    rw [e]
    exact runs_fillT (S := (0, S.2.1 + 1, S.2.2)) rfl 0
  · rw [if_neg c, if_neg c]
    exact runs_fillT h0 0
def EB (G : GG) (N0 : DD) (a fr : Nat) (L0 L : NN) (N : DD) (B : List Nat) : Prop := ∃ v K, L = L0 ++ K ∧ (v = fr ∨ (xt G L0).1 ≤ v) ∧ BF (xt G L) N a v B ∧ Clo (xt G L) N ∧ FF (xt G L0) N0 a fr N
theorem EB.st {G : GG} {N0 : DD} {a fr : Nat} {L0 : NN} {B : List Nat} (h : BF (xt G L0) N0 a fr B) (hC : Clo (xt G L0) N0) : EB G N0 a fr L0 L0 N0 B := ⟨fr, [], by rw [List.append_nil], Or.inl rfl, h, hC, FF.rf _ _ _ _⟩
theorem eb_put {G : GG} {N0 N : DD} {a fr x : Nat} {L0 L : NN} {B : List Nat} {p0 : Int32} (h : EB G N0 a fr L0 L N B) (hB : B.length ≤ 400000) (hp : p0.toInt % 256 = x) : OK (FX10_putByte (xt G L) N a p0) (fun y => EB G N0 a fr L0 (L ++ y.1) y.2 (B ++ [x])) := by
  obtain ⟨v, K, h1, h2, h3, h4, h5⟩ := h
  refine (putByte_ok h3 h4 hB hp).mono ?_
  rintro y ⟨w, q1, q2, q3, q4⟩
  rw [xt_xt] at q2 q3
  have hK : xt G L = xt (xt G L0) K := by rw [h1, xt_xt]
  refine ⟨w, K ++ y.1, by rw [h1, List.append_assoc], ?_, q2, q3, h5.tr h2 (by rw [← hK]; exact q4)⟩
  rcases q1 with q | q
  · rw [q]; exact h2
  · right
    rw [hK] at q
    exact Nat.le_trans (xt_ge _ K) q
theorem WI.w2 {G : GG} {M : DD} {a u t : Nat} {st : Nat → Nat} {v : Int32} (h : WI G M a u t st) : WI G (uI M a 2 v) a u t st := by
  obtain ⟨⟨h1, h2, h3, h4, h5⟩, h6, h7, ⟨h8, h9, h10, h11, h12⟩, h13, h14⟩ := h
  have hta : t ≠ a := fun e => by rw [e] at h3; omega
  have hua : u ≠ a := fun e => by rw [e] at h12; omega
  refine ⟨⟨h1, h2, h3, h4, fun i hi => ?_⟩, h6, h7.uI a 2 v, ⟨h8, h9, h10, h11, h12⟩, h13, fun j => ?_⟩
  · rw [uI_n _ _ (fun q => hta q.1)]; exact h5 i hi
  · rw [uI_n _ _ (fun q => hua q.1)]; exact h14 j
theorem BF.w2 {G : GG} {M : DD} {a fr : Nat} {B : List Nat} {v : Int32} (h : BF G M a fr B) : BF G (uI M a 2 v) a fr B := by
  have hne := h.ne
  obtain ⟨b1, b2, b3, b4, b5, b6⟩ := h
  refine ⟨b1, b2, ?_, fun i x hx => ?_, b5, fun k => ?_⟩
  · rw [uI_n _ _ (by omega)]; exact b3
  · rw [uI_n _ _ (fun q => hne q.1)]; exact b4 i x hx
  · rw [uI_n _ _ (fun q => hne q.1)]; exact b6 k
def EU (G : GG) (M : DD) (a u t fr : Nat) (f : Nat → Nat) (n : Nat) (S : SS) (B : List Nat) (c : Nat) (p0 : Int32) (G2 : GG) (N : DD) : Prop :=
  ∃ u1 v f1 j, (u1 = u ∨ G.1 ≤ u1) ∧ (v = fr ∨ G.1 ≤ v) ∧ u1 ≠ v ∧ j = (S.2.1 + (if p0 = 0 then 1 else 0) + 7) / 8 ∧ WI G2 N a u1 t S.2.2.2.2.2 ∧ BF G2 N a v (B ++ [0, 0, 0, 1] ++ emu 0 (UB c f1 j)) ∧ N.1 a 2 = M.1 a 2 + 1 ∧ (∀ i, i < n → f1 i = f i) ∧ (∀ i, f1 i ≤ 1) ∧
  (∀ ff D2, (∀ i, ff i ≤ 1) → (∀ i, i < 8 * j → ff i = f1 i) → Val ff D2 (0, 8 * j, S.2.2) → Val ff (ET S.2.1 p0 ++ D2) S) ∧
  (∀ x k, x < G.1 → x ≠ u → x ≠ t → x ≠ fr → ¬ (x = a ∧ (k ≤ 2 ∨ 4 ≤ k ∧ k ≤ 12)) → N.1 x k = M.1 x k ∧ N.2 x k = M.2 x k)
set_option maxHeartbeats 2000000 in
theorem endUnit_ok {G : GG} {M : DD} {a u t fr c : Nat} {f : Nat → Nat} {n : Nat} {S : SS} {B : List Nat} {p0 c32 : Int32} (h : CW G M a u t f n S) (h0 : S.1 = 0) (hn : S.2.1 ≤ 600000) (hB : BF G M a fr B) (huf : u ≠ fr) (hU : U0 G M a c32) (hc : c32.toInt % 256 = (c : Int)) (hlen : 2 * (B.length + 4) + 3 * (1 + (S.2.1 + 8) / 8) ≤ 790000) : OK (FX10_endUnit G M a p0) (fun y => EU G M a u t fr f n S B c p0 (xt G y.1) y.2) := by
  have e1 : (1 : Int32).toInt = ((1 : Nat) : Int) := rfl
  have e0 : (0 : Int32).toInt = ((0 : Nat) : Int) := rfl
  obtain ⟨g1, g2, g3, g4, g5⟩ := h.lt
  have htk := h.1.2.2.1
  have hfk := hB.1.2.2.2.2
  have htf : t ≠ fr := fun e => by rw [e] at htk; omega
  have hfa := hB.ne
  unfold FX10_endUnit
  refine ok_bnd (Q := fun (y : NN × DD) => CS G M a u t f n S (if p0 = 0 then [(0, 0, 1)] else []) (xt G y.1) y.2 ∧ U0 (xt G y.1) y.2 a c32) ?_ ?_
  · refine ok_if (fun q => ?_) (fun q => ?_)
    · rw [if_pos q]
      refine ok_bnd (ok_pc (put_cs (bb := 1) (h.xt0 [] h.2.2.1) h0 (by omega) e1 (Nat.le_refl 1) 0) (pc_put (hU.xt []))) (fun y hy => ok_app (ok_ltt (fun L eL => ok_some ?_)))
      obtain ⟨y1, y2⟩ := y
      dsimp only at hy ⊢
      rw [List.append_nil]
      have hG : xt (xt G []) y1 = xt G y1 := xt_xt G [] y1
      rw [hG] at hy
      exact hy
    · rw [if_neg q]
      exact ok_some ⟨CS.rf (h.xt0 [] h.2.2.1), hU.xt []⟩
  · rintro ⟨l1, N1⟩ ⟨⟨u1, f1, m1, C1⟩, U1⟩
    refine ok_app (ok_ltt (fun L3 e3 => ?_))
    dsimp only at C1 U1 e3 ⊢
    rw [List.nil_append] at e3
    rw [e3]
    have r1 : (runs (if p0 = 0 then [((0, 0, 1) : Tok)] else []) S) = (0, S.2.1 + (if p0 = 0 then 1 else 0), S.2.2) := by
      by_cases q : p0 = 0
      · rw [if_pos q, if_pos q]
        show nxt (0, 0, 1) S = _
        unfold nxt
        rw [if_pos rfl, if_pos h0]
      · rw [if_neg q, if_neg q]
        show S = _
        obtain ⟨S0, S1, S2⟩ := S
        dsimp only at h0
        rw [h0]
        rfl
    have hif : (if p0 = 0 then 1 else 0) ≤ 1 := by split <;> omega
    have C2 := C1.2.1
    rw [r1] at C2
    refine ok_bnd (ok_pc (fill_ok (bb := 0) C2 rfl (by dsimp only; omega) e0 (Nat.zero_le 1)) (pc_fill U1)) ?_
    rintro ⟨l5, N⟩ ⟨hF, U2⟩
    refine ok_app (ok_ltt (fun L7 e7 => ?_))
    dsimp only at hF U2 e7 ⊢
    rw [xt_xt, ← e7] at hF U2
    rw [← r1] at hF
    obtain ⟨u2, f2, m2, C3⟩ := C1.tr (xt_ge G l1) hF
    have hET : (if p0 = 0 then [((0, 0, 1) : Tok)] else []) ++ fillT (S.2.1 + (if p0 = 0 then 1 else 0)) 0 = ET S.2.1 p0 := by
      unfold ET
      by_cases q : p0 = 0
      · rw [if_pos q, if_pos q, if_pos q]; rfl
      · rw [if_neg q, if_neg q, if_neg q]; rfl
    rw [hET] at C3
    clear hF C2 C1 U1 hET
    obtain ⟨k1, k2, k3, k4, k5, k6⟩ := C3
    have hrun := runs_ET h0 p0
    obtain ⟨j, hj⟩ : ∃ j, j = (S.2.1 + (if p0 = 0 then 1 else 0) + 7) / 8 := ⟨_, rfl⟩
    rw [← hj] at hrun
    rw [hrun] at k2 k6
    have hm : m2 = 8 * j := by
      rcases k2.2.2.2 with ⟨-, q, -⟩ | ⟨q, -⟩
      · exact q
      · exact absurd q (by simp)
    have hm1 : m2 / 8 = j := by omega
    have hw := k2.wb
    have hwi := k2.wi
    dsimp only at hwi
    obtain ⟨⟨w1, w2, w3, w4, w5⟩, ⟨w6, w7, w8⟩, w9, w10, w11, w12, w13, w14⟩ := hw
    have w9' : (N.1 a 5).toInt = ((1 + j : Nat) : Int) := by omega
    rw [hm1] at w8 w12
    obtain ⟨v2, z1, z2, z3, z4, z5⟩ := U2
    have ev : v2 = u2 := by
      have := z2.1.symm.trans w3
      injection this
    subst ev
    have hv2f : v2 ≠ fr := by
      rcases k1 with q | q
      · rw [q]; exact huf
      · have := hB.1.2.2.2.1; omega
    have hv2a : v2 ≠ a := fun e => by rw [e, w2] at w5; omega
    have hB2 : BF (xt G L7) N a fr B := hB.wy L7 k5 (fun e => huf e.symm) (fun e => htf e.symm) (fun e => g3 e.symm) (fun e => g4 e.symm)
    have hE := EB.st hB2 k2.2.2.1
    have hl4 : ∀ (x1 x2 x3 x4 : Nat), (B ++ [x1] ++ [x2] ++ [x3] ++ [x4]).length = B.length + 4 := fun _ _ _ _ => by simp
    have hl3 : ∀ (x1 x2 x3 : Nat), (B ++ [x1] ++ [x2] ++ [x3]).length = B.length + 3 := fun _ _ _ => by simp
    have hl2 : ∀ (x1 x2 : Nat), (B ++ [x1] ++ [x2]).length = B.length + 2 := fun _ _ => by simp
    have hl1 : ∀ (x1 : Nat), (B ++ [x1]).length = B.length + 1 := fun _ => by simp
    have q0 : (0 : Int32).toInt % 256 = ((0 : Nat) : Int) := by decide
    have q1 : (1 : Int32).toInt % 256 = ((1 : Nat) : Int) := by decide
    refine ok_bnd (eb_put hE (by omega) q0) ?_
    rintro ⟨l10, N10⟩ hE
    refine ok_app (ok_ltt (fun L12 e12 => ?_))
    dsimp only at hE e12 ⊢
    rw [← e12] at hE
    refine ok_bnd (eb_put hE (by rw [hl1]; omega) q0) ?_
    rintro ⟨l15, N15⟩ hE
    refine ok_app (ok_ltt (fun L17 e17 => ?_))
    dsimp only at hE e17 ⊢
    rw [← e17] at hE
    refine ok_bnd (eb_put hE (by rw [hl2]; omega) q0) ?_
    rintro ⟨l20, N20⟩ hE
    refine ok_app (ok_ltt (fun L22 e22 => ?_))
    dsimp only at hE e22 ⊢
    rw [← e22] at hE
    refine ok_bnd (eb_put hE (by rw [hl3]; omega) q1) ?_
    rintro ⟨l25, N25⟩ hE
    refine ok_app (ok_ltt (fun L27 e27 => ?_))
    dsimp only at hE e27 ⊢
    rw [← e27] at hE
    obtain ⟨v, K, x1, x2, x3, x4, x5⟩ := hE
    have hK : xt G L27 = xt (xt G L7) K := by rw [x1, xt_xt]
    have hv2v : v2 ≠ v := by
      rcases x2 with q | q
      · rw [q]; exact hv2f
      · omega
    have ha5 : N25.1 a 5 = N.1 a 5 := (x5 a 5 w1 (fun e => hfa e.symm) (fun q => by omega)).1
    have ha4 : N25.2 a 4 = N.2 a 4 := (x5 a 4 w1 (fun e => hfa e.symm) (fun q => by omega)).2
    have hu2 : ∀ k, N25.1 v2 k = N.1 v2 k := fun k => (x5 v2 k w4 hv2f (fun q => hv2a q.1)).1
    have hul : v2 < (xt G L27).1 := by rw [hK]; exact xt_lt K w4
    have huk : (xt G L27).2.1 v2 = 12 := by rw [hK, xt_kk K w4]; exact w5
    have hun : (xt G L27).2.2 v2 = (xt G L7).2.2 v2 := by rw [hK, xt_nn K w4]
    have hjS : j ≤ (S.2.1 + 8) / 8 := by omega
    refine ok_bnd (emul_ok (sz := 1 + j) (X := UB c f2 j) x3 x4 ⟨by rw [ha4]; exact w3, hul, huk⟩ hv2v (by rw [ha5, w9']) (by rw [hun]; exact w8) (UB_len c f2 j) ?_ (by rw [hl4]; omega)) ?_
    · intro i x hx
      rw [hu2]
      rcases UB_get hx with ⟨q, q'⟩ | ⟨k, q, q', q''⟩
      · rw [q, q', z4]; exact hc
      · rw [q, q'']; exact w12 k q'
    · rintro ⟨l30, x30, y30, N30⟩ ⟨v', y1, y2, y3, y4⟩
      refine ok_app (ok_ltt (fun L33 e33 => ?_))
      dsimp only at y2 y3 y4 e33 ⊢
      rw [← e33] at y2 y3
      refine ok_ltt (fun x35 e35 => ok_ltt (fun x36 e36 => ok_ltt (fun M37 e37 => ok_some ?_)))
      dsimp only
      have eL : l1 ++ (l5 ++ (l10 ++ (l15 ++ (l20 ++ (l25 ++ (l30 ++ [])))))) = L33 := by
        rw [e33, e27, e22, e17, e12, e7]
        simp only [List.append_assoc, List.append_nil]
      rw [eL]
      have hF : FF (xt G L7) N a fr N30 := x5.tr x2 (by rw [← hK]; exact y4)
      have hK2 : xt G L33 = xt (xt G L7) (K ++ l30) := by rw [e33, x1, xt_xt, List.append_assoc]
      have hWI : WI (xt G L33) N30 a v2 t S.2.2.2.2.2 := by
        have hC4 := y3
        rw [hK2] at hC4 ⊢
        exact hwi.ff hF hv2f (by rw [xt_kk L7 hB.1.2.2.2.1]; exact hfk) hC4
      have ha2 : N30.1 a 2 = M.1 a 2 := by
        rw [(hF a 2 w1 (fun e => hfa e.symm) (fun q => by omega)).1]
        exact (k5 a 2 g1 (fun e => g3 e.symm) (fun e => g4 e.symm) (fun q => by omega)).1
      refine ⟨v2, v', f2, j, k1, ?_, ?_, hj, by rw [e37]; exact hWI.w2, ?_, ?_, fun i hi => k3 i hi, w13, ?_, ?_⟩
      · rcases y1 with q | q
        · rcases x2 with q' | q'
          · left; rw [q, q']
          · right; rw [q]; exact Nat.le_trans (xt_ge _ _) q'
        · right; exact Nat.le_trans (xt_ge _ _) q
      · rcases y1 with q | q
        · rw [q]; exact hv2v
        · omega
      · rw [e37]
        have := y2.w2 (v := x36)
        simp only [List.append_assoc, List.cons_append, List.nil_append] at this ⊢
        exact this
      · rw [e37, uI_s, e36, e35, ha2]
      · intro ff D2 hf he hv
        exact k6 ff D2 hf (fun i hi => he i (by omega)) hv
      · intro x k hx hxu hxt hxf hk
        rw [e37]
        rw [uI_n _ _ (fun q => hk ⟨q.1, by omega⟩)]
        obtain ⟨p1, p2⟩ := hF x k (xt_lt L7 hx) hxf (fun q => hk ⟨q.1, by omega⟩)
        obtain ⟨r1, r2⟩ := k5 x k hx hxu hxt (fun q => hk ⟨q.1, by omega⟩)
        exact ⟨p1.trans r1, p2.trans r2⟩
