theorem rd_bit {G : GG} {M : DD} {r d t : Nat} {f : Nat → Nat} {T : Nat} {S : SS} (h : RD G M r d t f T S) {i : Nat} (hi : i < T) {x : Int32} (hx : x.toInt = i) {y : Int32} (hy : y = M.1 d (1 + i / 8)) : ((y >>> (((7 : Int32) - (x &&& (7 : Int32))) &&& 31)) &&& (1 : Int32)).toInt = f i := by
  have e7 : (7 : Int32).toInt = 7 := rfl
  have hxa : (x &&& (7 : Int32)).toInt = (i % 8 : Nat) := by
    rw [pz_and7, hx]
    omega
  have hs : ((7 : Int32) - (x &&& (7 : Int32))).toInt = ((7 - i % 8 : Nat) : Int) := by
    rw [ti_sub (by omega) (by omega), e7, hxa]
    omega
  rw [pz_and1, pz_sarv _ _ (7 - i % 8) hs (by omega), hy]
  exact h.2.2.2.1 i hi
theorem rd_ix {G : GG} {M : DD} {r d t : Nat} {f : Nat → Nat} {T : Nat} {S : SS} (h : RD G M r d t f T S) {i : Nat} (hi : i < T) {x : Int32} (hx : x.toInt = i) : ¬ ((1 : Int32) + (x >>> ((3 : Int32) &&& 31)) < 0 ∨ G.2.2 d ≤ ((1 : Int32) + (x >>> ((3 : Int32) &&& 31))).toNatClampNeg) ∧ ((1 : Int32) + (x >>> ((3 : Int32) &&& 31))).toNatClampNeg = 1 + i / 8 := by
  have e1 : (1 : Int32).toInt = 1 := rfl
  obtain ⟨-, -, -, -, -, h6, h7, h8⟩ := h.1
  have h3 : (x >>> ((3 : Int32) &&& 31)).toInt = (i / 8 : Nat) := by
    rw [pz_sar3, hx]
    omega
  have h4 : ((1 : Int32) + (x >>> ((3 : Int32) &&& 31))).toInt = ((1 + i / 8 : Nat) : Int) := by
    rw [ti_add (by omega) (by omega), e1, h3]
    omega
  refine ⟨pz_ix (by omega) (by omega), ?_⟩
  have := pz_nat (x := (1 : Int32) + (x >>> ((3 : Int32) &&& 31))) (by omega)
  omega
theorem RD.lt {G : GG} {M : DD} {r d t : Nat} {f : Nat → Nat} {T : Nat} {S : SS} (h : RD G M r d t f T S) : d ≠ r ∧ t ≠ r ∧ d ≠ t := by
  obtain ⟨⟨h1, h2, h3, h4, h5, -⟩, -, -, -, ⟨q1, q2, q3, -⟩, -⟩ := h
  refine ⟨fun e => ?_, fun e => ?_, fun e => ?_⟩
  · rw [e] at h5; omega
  · rw [e] at q3; omega
  · rw [e] at h5; omega
set_option maxHeartbeats 8000000 in
theorem bit_ok {G : GG} {M : DD} {r d t : Nat} {f : Nat → Nat} {T : Nat} {S : SS} {D : List Tok} {e j b : Nat} {p0 p1 : Int32} (h : RD G M r d t f T S) (hv : VT f T ((0, 16 * e + (if j < 15 then j else 15), b) :: D) S) (he : p0.toInt = e) (he2 : e ≤ 16) (hj : p1.toInt = j) : OK (FX5_bit G M r p0 p1) (fun y => y.2.toInt = b ∧ RD G y.1 r d t f T (nxt (0, 16 * e + (if j < 15 then j else 15), b) S) ∧ VT f T D (nxt (0, 16 * e + (if j < 15 then j else 15), b) S) ∧ RX M r t y.1) := by
  have e0 : (0 : Int32).toInt = 0 := rfl
  have e1 : (1 : Int32).toInt = 1 := rfl
  have e4 : (4 : Int32).toInt = 4 := rfl
  have e9 : (9 : Int32).toInt = 9 := rfl
  have e15 : (15 : Int32).toInt = 15 := rfl
  have e16 : (16 : Int32).toInt = 16 := rfl
  have e62 : (62 : Int32).toInt = 62 := rfl
  have e256 : (256 : Int32).toInt = 256 := rfl
  have hi2 : 16 * e + (if j < 15 then j else 15) < 272 := by split <;> omega
  have hij : (if j < 15 then j else 15) ≤ 15 := by split <;> omega
  generalize hi0 : 16 * e + (if j < 15 then j else 15) = i at hv hi2 ⊢
  obtain ⟨v1, v2, v3, v4⟩ := hv.dec
  obtain ⟨hdr, htr, hdt⟩ := h.lt
  have hrd : ¬ r = d := fun q => hdr q.symm
  have hrt : ¬ r = t := fun q => htr q.symm
  have hh := h
  obtain ⟨⟨a1, a2, a3, a4, a5, a6, a7, a8⟩, hf, hT, hb, ⟨s1, s2, s3, s4, s5⟩, s6, hpl, hm⟩ := h
  unfold FX5_bit
  refine ok_lt ?_
  rcases hm with ⟨m1, m2⟩ | ⟨m1, m2, mA, m8, m9⟩
  · -- plain
    have hpos : pos S = S.2.1 := by unfold pos; rw [if_pos m1]
    have hnx : nxt (0, i, b) S = (0, S.2.1 + 1, S.2.2) := by
      unfold nxt
      rw [if_pos rfl, if_pos m1]
    have hps : pos (nxt (0, i, b) S) = S.2.1 + 1 := by
      rw [hnx]; rfl
    refine ok_bnd (Q := fun y : Int32 × DD => y.2 = M) (ok_if (fun c => ok_some rfl) (fun c => absurd (pz_eq.mpr m2) c)) (fun y2 h2 => ?_)
    obtain ⟨vy, My⟩ := y2
    dsimp only at h2
    subst h2
    refine ok_bnd (ok_itr (fun s : Int32 × Int32 × DD => (s.2.1.toInt = 0 ∧ s.2.2 = My) ∨ (s.2.1.toInt = 1 ∧ s.1.toInt = b ∧ s.2.2 = uI My r 2 (My.1 r 2 + 1))) (fun s => (9 - s.2.1.toInt).toNat) (P := fun y : Int32 × Int32 × DD => y.1.toInt = b ∧ y.2.2 = uI My r 2 (My.1 r 2 + 1)) ?_ 1000000 _ ?_ ?_) (fun y3 h3 => ok_some ?_)
    · intro s hs
      obtain ⟨w, k, N⟩ := s
      dsimp only at hs ⊢
      refine ok_if (fun c => ?_) (fun c => ok_lt ?_)
      · have := pz_le.mp c
        rcases hs with ⟨q, -⟩ | ⟨q, -⟩ <;> omega
      · have har : N.1 r 6 = 0 := by
          rcases hs with ⟨-, q⟩ | ⟨-, -, q⟩
          · rw [q]; exact pz_eq.mpr m2
          · rw [q, uI_n _ _ (by simp)]; exact pz_eq.mpr m2
        refine ok_if (fun _ => ?_) (fun c => absurd har c)
        refine ok_if (fun c2 => ok_some ?_) (fun c2 => ?_)
        · have := pz_le.mp c2
          rcases hs with ⟨q, -⟩ | ⟨-, q1, q2⟩
          · omega
          · exact ⟨q1, q2⟩
        · have c3 : ¬ (1 : Int32).toInt ≤ k.toInt := fun q => c2 (pz_le.mpr q)
          rcases hs with ⟨q1, q2⟩ | ⟨q1, -⟩
          · subst q2
            have hlt : S.2.1 < T := by omega
            refine ok_lt (ok_lt (ok_bnd (Q := fun y : DD => y = N) (ok_if (fun _ => ok_some rfl) (fun c4 => absurd (pz_lt.mpr (by omega)) c4)) (fun y13 h13 => ?_)))
            subst h13
            obtain ⟨x1, x2⟩ := rd_ix hh hlt (hpl.trans (by rw [hpos]))
            refine ok_lt (ok_lt (ok_lt (ok_dr (b := d) a3 a4 a5 (ok_chk x1 (ok_lt (ok_lt (ok_lt (ok_lt (ok_lt (ok_lt (ok_lt (ok_lt (ok_lt (ok_lt ?_)))))))))))))) 
            have hbit := rd_bit hh hlt (hpl.trans (by rw [hpos])) (y := y13.1 d (1 + S.2.1 / 8)) rfl
            rw [x2]
            have har2 : (uI y13 r 2 (y13.1 r 2 + 1)).1 r 6 = 0 := by
              rw [uI_n _ _ (by simp)]; exact har
            refine ok_bnd (Q := fun y : Int32 × DD => y.1.toInt = b ∧ y.2 = uI y13 r 2 (y13.1 r 2 + 1)) (ok_if (fun _ => ok_some ⟨?_, rfl⟩) (fun c5 => absurd har2 c5)) (fun y28 h28 => ok_lt (ok_some ?_))
            · rw [hbit, v3 m1]
            · dsimp only
              have : (k + 1).toInt = 1 := by rw [ti_add (by omega) (by omega)]; omega
              exact ⟨Or.inr ⟨this, h28.1, h28.2⟩, by omega⟩
          · omega
    · exact Or.inl ⟨rfl, rfl⟩
    · dsimp only
      omega
    · obtain ⟨y31, y32, N⟩ := y3
      obtain ⟨h31, h32⟩ := h3
      dsimp only at h31 h32 ⊢
      subst h32
      have hpn : (uI My r 2 (My.1 r 2 + 1)).1 r 2 = My.1 r 2 + 1 := uI_s _ _ _ _
      refine ⟨h31, ⟨⟨a1, a2, a3, a4, a5, a6, a7, a8⟩, hf, ?_, fun q hq => ?_, ⟨s1, s2, s3, s4, fun q hq => ?_⟩, ?_, ?_, Or.inl ⟨?_, ?_⟩⟩, v1, rfl, fun x k _ hk => uI_n _ _ (fun q => hk ⟨q.1, Or.inl q.2⟩)⟩
      · rw [uI_n _ _ (by simp)]; exact hT
      · rw [uI_n _ _ (fun z => hdr z.1)]; exact hb q hq
      · rw [hnx, uI_n _ _ (fun z => htr z.1)]; exact s5 q hq
      · rw [hnx]; exact s6
      · rw [hpn, hps, ti_add (by omega) (by omega)]; omega
      · rw [hnx]
      · rw [uI_n _ _ (by simp)]; exact m2
  · -- ARITH
    have m0 : S.1 ≠ 0 := by omega
    have hpos : pos S = S.2.1 + 9 + S.2.2.2.2.1 := by unfold pos; rw [if_neg m0]
    have hnx : nxt (0, i, b) S = (1, S.2.1, enc1 S.2.2 i b) := by
      unfold nxt
      rw [if_pos rfl, if_neg m0]
    have hb1 := v4 m0
    rw [hnx] at v1 v2 ⊢
    have hcons := val_cons hf D _ v1.1 (Nat.succ_ne_zero 0) (ok_enc mA i hb1)
    have hcb := cons_ren hf hcons
    obtain ⟨hcA, hiff⟩ := cons_enc hf mA hcons
    obtain ⟨r1, r2, r3⟩ := aL_r mA i
    have mA' := mA
    obtain ⟨A1, A2, A3, A4⟩ := mA
    have hsi := A3 i
    have hrun : enc1 S.2.2 i b = ren (bin S.2.2 i b) := rfl
    have hbn : (bin S.2.2 i b).2.2.1 = S.2.2.2.2.1 := by
      unfold bin
      split <;> rfl
    have hbR : 1 ≤ (bin S.2.2 i b).2.1 ∧ (bin S.2.2 i b).2.1 ≤ 510 := by
      unfold bin
      split
      · dsimp only; omega
      · dsimp only; omega
    generalize hV : pv f S.2.1 (9 + S.2.2.2.2.1) = V at hcA hiff m9 hcb
    have hV2 : (bin S.2.2 i b).1 ≤ V ∧ V < (bin S.2.2 i b).1 + (bin S.2.2 i b).2.1 := by
      unfold Cons at hcb
      rw [hbn, hV] at hcb
      exact hcb
    have hoff : 0 ≤ (M.1 r 9).toInt ∧ (M.1 r 9).toInt < 1000 := by
      unfold Cons at hcA
      rw [hV] at hcA
      omega
    have hstb : (bin S.2.2 i b).2.2.2 = stu S.2.2.2.2.2 i (if b = S.2.2.2.2.2 i % 2 then 2 * nup (S.2.2.2.2.2 i / 2) + S.2.2.2.2.2 i % 2 else 2 * aD (S.2.2.2.2.2 i / 2) + (if S.2.2.2.2.2 i / 2 = 0 then b else S.2.2.2.2.2 i % 2)) := by
      unfold bin
      split <;> rfl
    have ho' := ok_enc mA' i hb1
    have hc6 : ¬ M.1 r 6 = 0 := fun q => by have := pz_eq.mp q; omega
    refine ok_bnd (Q := fun y : Int32 × DD => y.1.toInt = b ∧ (y.2.1 r 8).toInt = (bin S.2.2 i b).2.1 ∧ (y.2.1 r 9).toInt = (V : Int) - (bin S.2.2 i b).1 ∧ (∀ x k, ¬ (x = r ∧ (k = 8 ∨ k = 9)) → ¬ (x = t ∧ k = i) → y.2.1 x k = M.1 x k) ∧ (y.2.1 t i).toInt = (bin S.2.2 i b).2.2.2 i ∧ y.2.2 = M.2) (ok_if (fun c => absurd c hc6) (fun _ => ok_lt ?_)) (fun y2 h2 => ?_)
    · refine ok_bnd (Q := fun y : Int32 => y.toInt = ((if j < 15 then j else 15 : Nat) : Int)) ?_ (fun y26 h26 => ?_)
      · refine ok_if (fun c3 => ok_some ?_) (fun c3 => ok_some ?_)
        · have := pz_le.mp c3
          rw [if_neg (by omega)]
          exact e15
        · have : ¬ (15 : Int32).toInt ≤ p1.toInt := fun q => c3 (pz_le.mpr q)
          rw [if_pos (by omega)]
          exact hj
      have hx25 : ((16 : Int32) * p0).toInt = 16 * e := by
        rw [pz_mulc e16 (by omega) (by omega), he]
      refine ok_lt ?_
      have hx27 : ((16 : Int32) * p0 + y26).toInt = i := by
        rw [ti_add (by omega) (by omega), hx25, h26]
        omega
      generalize (16 : Int32) * p0 + y26 = x27 at hx27
      have hxn : x27.toNatClampNeg = i := by
        have := pz_nat (x := x27) (by omega)
        omega
      have hix : ¬ (x27 < 0 ∨ G.2.2 t ≤ x27.toNatClampNeg) := pz_ix (by omega) (by omega)
      refine ok_dr (b := t) s1 s2 s3 (ok_chk hix (ok_lt (ok_lt (ok_chk hix (ok_lt (ok_lt (ok_lt (ok_lt (ok_lt (ok_lt (ok_lt ?_)))))))))))
      rw [hxn]
      have hst := s5 i hi2
      have hx30 : (M.1 t i >>> ((1 : Int32) &&& 31)).toInt = (S.2.2.2.2.2 i / 2 : Nat) := by
        rw [pz_sar1, hst]
        omega
      generalize M.1 t i >>> ((1 : Int32) &&& 31) = x30 at hx30
      have hx32 : (M.1 t i &&& (1 : Int32)).toInt = (S.2.2.2.2.2 i % 2 : Nat) := by
        rw [pz_and1, hst]
        omega
      generalize M.1 t i &&& (1 : Int32) = x32 at hx32
      have hx33 : ((4 : Int32) * x30).toInt = 4 * (S.2.2.2.2.2 i / 2 : Nat) := by
        rw [pz_mulc e4 (by omega) (by omega), hx30]
      have hx35 : (M.1 r 8 >>> ((6 : Int32) &&& 31)).toInt = (S.2.2.2.1 / 64 : Nat) := by
        rw [pz_sar6, m8]
        omega
      have hx36 : ((M.1 r 8 >>> ((6 : Int32) &&& 31)) &&& (3 : Int32)).toInt = (S.2.2.2.1 / 64 % 4 : Nat) := by
        rw [pz_and3, hx35]
        omega
      have hx37 : ((4 : Int32) * x30 + ((M.1 r 8 >>> ((6 : Int32) &&& 31)) &&& (3 : Int32))).toInt = ((4 * (S.2.2.2.2.2 i / 2) + S.2.2.2.1 / 64 % 4 : Nat) : Int) := by
        rw [ti_add (by omega) (by omega), hx33, hx36]
        omega
      generalize (4 : Int32) * x30 + ((M.1 r 8 >>> ((6 : Int32) &&& 31)) &&& (3 : Int32)) = x37 at hx37
      have hxn37 : x37.toNatClampNeg = 4 * (S.2.2.2.2.2 i / 2) + S.2.2.2.1 / 64 % 4 := by
        have := pz_nat (x := x37) (by omega)
        omega
      refine ok_chk (pz_ix (by omega) (by omega)) (ok_lt (ok_lt (ok_lt (ok_lt (ok_lt (ok_lt ?_))))))
      rw [hxn37]
      have hx38 : ((sT 8).getD (4 * (S.2.2.2.2.2 i / 2) + S.2.2.2.1 / 64 % 4) 0).toInt = (aL (S.2.2.2.2.2 i / 2) (S.2.2.2.1 / 64 % 4) : Nat) := tab_nat (by
        have : aL (S.2.2.2.2.2 i / 2) (S.2.2.2.1 / 64 % 4) = ((sT 8).getD (4 * (S.2.2.2.2.2 i / 2) + S.2.2.2.1 / 64 % 4) 0).toInt.toNat := rfl
        omega)
      generalize (sT 8).getD (4 * (S.2.2.2.2.2 i / 2) + S.2.2.2.1 / 64 % 4) 0 = x38 at hx38
      have hx40 : (M.1 r 8 - x38).toInt = ((S.2.2.2.1 - aL (S.2.2.2.2.2 i / 2) (S.2.2.2.1 / 64 % 4) : Nat) : Int) := by
        rw [ti_sub (by omega) (by omega), m8, hx38]
        omega
      generalize M.1 r 8 - x38 = x40 at hx40
      have f9 : (uI M r 8 x40).1 r 9 = M.1 r 9 := by simp [uI]
      have f8 : (uI M r 8 x40).1 r 8 = x40 := by simp [uI]
      rw [f9, f8]
      refine ok_bnd (Q := fun y : Int32 × Int32 × Int32 × DD => y.1.toInt = b ∧ 2 * y.2.1.toInt + y.2.2.1.toInt = ((if b = S.2.2.2.2.2 i % 2 then 2 * nup (S.2.2.2.2.2 i / 2) + S.2.2.2.2.2 i % 2 else 2 * aD (S.2.2.2.2.2 i / 2) + (if S.2.2.2.2.2 i / 2 = 0 then b else S.2.2.2.2.2 i % 2) : Nat) : Int) ∧ 0 ≤ y.2.1.toInt ∧ y.2.1.toInt < 100 ∧ 0 ≤ y.2.2.1.toInt ∧ y.2.2.1.toInt ≤ 1 ∧ (y.2.2.2.1 r 8).toInt = (bin S.2.2 i b).2.1 ∧ (y.2.2.2.1 r 9).toInt = (V : Int) - (bin S.2.2 i b).1 ∧ (∀ x k, ¬ (x = r ∧ (k = 8 ∨ k = 9)) → y.2.2.2.1 x k = M.1 x k) ∧ y.2.2.2.2 = M.2) ?_ (fun y42 h42 => ?_)
      · refine ok_if (fun c3 => ?_) (fun c3 => ?_)
        · have hbq : ¬ b = S.2.2.2.2.2 i % 2 := fun q => by
            have c4 := pz_le.mp c3
            have := hiff.mp q
            omega
          refine ok_lt (ok_lt (ok_lt (ok_lt (ok_lt (ok_lt (ok_bnd (Q := fun y : Int32 => y.toInt = ((if S.2.2.2.2.2 i / 2 = 0 then b else S.2.2.2.2.2 i % 2 : Nat) : Int)) ?_ (fun y58 h58 => ?_)))))))
          · refine ok_if (fun c4 => ok_some ?_) (fun c4 => ok_some ?_)
            · have := pz_eq.mp c4
              rw [if_pos (by omega), ti_sub (by omega) (by omega)]
              omega
            · have : ¬ x30.toInt = (0 : Int32).toInt := fun q => c4 (pz_eq.mpr q)
              rw [if_neg (by omega)]
              exact hx32
          · have hxn30 : x30.toNatClampNeg = S.2.2.2.2.2 i / 2 := by
              have := pz_nat (x := x30) (by omega)
              omega
            refine ok_chk (pz_ix (by omega) (by omega)) (ok_lt (ok_some ?_))
            dsimp only
            rw [hxn30, if_neg hbq]
            have hd0 := aD_n (S.2.2.2.2.2 i / 2) (by omega)
            have hd1 := aD_b (S.2.2.2.2.2 i / 2) (by omega)
            have hd2 : aD (S.2.2.2.2.2 i / 2) = ((sT 7).getD (S.2.2.2.2.2 i / 2) 0).toInt.toNat := rfl
            have hbl : (if S.2.2.2.2.2 i / 2 = 0 then b else S.2.2.2.2.2 i % 2) ≤ 1 := by split <;> omega
            refine ⟨?_, by omega, by omega, by omega, by omega, by omega, ?_, ?_, fun y k hk => ?_, rfl⟩
            · rw [ti_sub (by omega) (by omega)]
              omega
            · rw [uI_s, hx38]
              unfold bin
              rw [if_neg hbq]
            · rw [uI_n _ _ (by simp), uI_s, ti_sub (by omega) (by omega), hx40, m9]
              unfold bin
              rw [if_neg hbq]
              dsimp only
              omega
            · rw [uI_n _ _ (fun q => hk ⟨q.1, Or.inl q.2⟩), uI_n _ _ (fun q => hk ⟨q.1, Or.inr q.2⟩), uI_n _ _ (fun q => hk ⟨q.1, Or.inl q.2⟩)]
        · have hbq : b = S.2.2.2.2.2 i % 2 := hiff.mpr (by
            have c4 : ¬ x40.toInt ≤ (M.1 r 9).toInt := fun q => c3 (pz_le.mpr q)
            omega)
          refine ok_bnd (Q := fun y : Int32 => y.toInt = (nup (S.2.2.2.2.2 i / 2) : Nat)) ?_ (fun y61 h61 => ok_some ?_)
          · unfold nup
            refine ok_if (fun c4 => ok_some ?_) (fun c4 => ok_lt (ok_some ?_))
            · have := pz_le.mp c4
              rw [if_pos (by omega)]
              exact e62
            · have : ¬ (62 : Int32).toInt ≤ x30.toInt := fun q => c4 (pz_le.mpr q)
              rw [if_neg (by omega), ti_add (by omega) (by omega), hx30, e1]
              omega
          · dsimp only
            have hnu : nup (S.2.2.2.2.2 i / 2) ≤ 62 := by
              unfold nup
              split <;> omega
            rw [if_pos hbq]
            refine ⟨by omega, by omega, by omega, by omega, by omega, by omega, ?_, ?_, fun y k hk => ?_, rfl⟩
            · rw [uI_s, hx40]
              unfold bin
              rw [if_pos hbq]
            · rw [f9, m9]
              unfold bin
              rw [if_pos hbq]
            · rw [uI_n _ _ (fun q => hk ⟨q.1, Or.inl q.2⟩)]
      · obtain ⟨y0, y1, y2, N4⟩ := y42
        obtain ⟨z0, z1, z2, z3, z4, z5, z6, z7, z8, z9⟩ := h42
        dsimp only at z0 z1 z2 z3 z4 z5 z6 z7 z8 z9 ⊢
        refine ok_lt (ok_lt ?_)
        have hx44 : ((y1 <<< ((1 : Int32) &&& 31)) ||| y2).toInt = 2 * y1.toInt + y2.toInt := by
          have q := pz_shl1 y1 (by omega) (by omega)
          rw [pz_or1 _ _ (by omega) (by omega) z4 z5, q]
        generalize (y1 <<< ((1 : Int32) &&& 31)) ||| y2 = x44 at hx44
        have hix2 := hix
        rw [hxn] at hix2
        refine ok_dr (b := t) (by rw [z9]; exact s1) s2 s3 (ok_chk hix2 (ok_lt (ok_some ?_)))
        dsimp only
        refine ⟨z0, ?_, ?_, fun x k h1 h2 => ?_, ?_, z9⟩
        · rw [uI_n _ _ (fun q => hrt q.1)]; exact z6
        · rw [uI_n _ _ (fun q => hrt q.1)]; exact z7
        · rw [uI_n _ _ h2]; exact z8 x k h1
        · rw [uI_s, hstb]
          unfold stu
          rw [if_pos rfl, hx44, z1]
    · obtain ⟨vy, M2⟩ := y2
      obtain ⟨z1, z2, z3, z4, z5, z6⟩ := h2
      dsimp only at z1 z2 z3 z4 z5 z6 ⊢
      obtain ⟨b1, b2, b3, b4⟩ := shn_b (bin S.2.2 i b).2.1 (by omega) hbR.1
      have hpv : pos ((1, S.2.1, enc1 S.2.2 i b) : SS) = S.2.1 + 9 + (S.2.2.2.2.1 + shn 9 (bin S.2.2 i b).2.1) := by
        unfold pos
        rw [if_neg (Nat.succ_ne_zero 0)]
        show S.2.1 + 9 + ((bin S.2.2 i b).2.2.1 + shn 9 (bin S.2.2 i b).2.1) = _
        rw [hbn]
      generalize hR' : (bin S.2.2 i b).2.1 = R at *
      generalize hL' : (bin S.2.2 i b).1 = Lo at *
      have g6 : M2.1 r 6 = M.1 r 6 := z4 r 6 (by simp) (fun q => hrt q.1)
      have g2 : M2.1 r 2 = M.1 r 2 := z4 r 2 (by simp) (fun q => hrt q.1)
      have g1 : M2.1 r 1 = M.1 r 1 := z4 r 1 (by simp) (fun q => hrt q.1)
      have gd : ∀ k, M2.1 d k = M.1 d k := fun k => z4 d k (fun q => hdr q.1) (fun q => hdt q.1)
      refine ok_bnd (ok_itr (fun s : Int32 × Int32 × DD => ∃ jj : Nat, s.2.1.toInt = jj ∧ jj ≤ shn 9 R ∧ shn (9 - jj) (R * 2 ^ jj) + jj = shn 9 R ∧ s.1.toInt = b ∧ (s.2.2.1 r 8).toInt = (R * 2 ^ jj : Nat) ∧ (s.2.2.1 r 9).toInt = (pv f S.2.1 (9 + S.2.2.2.2.1 + jj) : Int) - (Lo * 2 ^ jj : Nat) ∧ 0 ≤ (s.2.2.1 r 9).toInt ∧ (s.2.2.1 r 9).toInt < (R * 2 ^ jj : Nat) ∧ (s.2.2.1 r 2).toInt = S.2.1 + 9 + S.2.2.2.2.1 + jj ∧ (∀ x k, ¬ (x = r ∧ (k = 2 ∨ k = 8 ∨ k = 9)) → s.2.2.1 x k = M2.1 x k) ∧ s.2.2.2 = M.2) (fun s => (9 - s.2.1.toInt).toNat) (P := fun y : Int32 × Int32 × DD => y.1.toInt = b ∧ (y.2.2.1 r 8).toInt = (R * 2 ^ shn 9 R : Nat) ∧ (y.2.2.1 r 9).toInt = (pv f S.2.1 (9 + S.2.2.2.2.1 + shn 9 R) : Int) - (Lo * 2 ^ shn 9 R : Nat) ∧ (y.2.2.1 r 2).toInt = S.2.1 + 9 + S.2.2.2.2.1 + shn 9 R ∧ (∀ x k, ¬ (x = r ∧ (k = 2 ∨ k = 8 ∨ k = 9)) → y.2.2.1 x k = M2.1 x k) ∧ y.2.2.2 = M.2) ?_ 1000000 _ ?_ ?_) (fun y3 h3 => ok_some ?_)
      · intro s hs
        obtain ⟨w, k, N⟩ := s
        obtain ⟨jj, q1, q2, q3, q4, q5, q6, q7, q8, q9, q10, q11⟩ := hs
        dsimp only at q1 q4 q5 q6 q7 q8 q9 q10 q11 ⊢
        refine ok_if (fun c => ?_) (fun c => ok_lt ?_)
        · have := pz_le.mp c
          exfalso
          omega
        · have har : N.1 r 6 = M.1 r 6 := (q10 r 6 (by simp)).trans g6
          refine ok_if (fun c2 => absurd (har ▸ c2) hc6) (fun _ => ok_lt ?_)
          refine ok_if (fun c2 => ok_some ?_) (fun c2 => ok_lt (ok_lt ?_))
          · have hr := pz_le.mp c2
            have hz : shn (9 - jj) (R * 2 ^ jj) = 0 := shn_z _ _ (by omega)
            have ej : jj = shn 9 R := by omega
            dsimp only
            rw [← ej]
            exact ⟨q4, q5, q6, q9, q10, q11⟩
          · have hR2 : R * 2 ^ jj < 256 := by
              have : ¬ (256 : Int32).toInt ≤ (N.1 r 8).toInt := fun q => c2 (pz_le.mpr q)
              omega
            have hs9 := shn_s (R * 2 ^ jj) (9 - jj - 1) hR2
            rw [show 9 - jj - 1 + 1 = 9 - jj by omega] at hs9
            have hlt : S.2.1 + 9 + S.2.2.2.2.1 + jj < T := by omega
            have hN1 : (N.1 r 1).toInt = T := by rw [q10 r 1 (by simp), g1]; exact hT
            have hpN : (N.1 r 2).toInt = ((S.2.1 + 9 + S.2.2.2.2.1 + jj : Nat) : Int) := by rw [q9]; omega
            refine ok_bnd (Q := fun y : DD => y = N) (ok_if (fun _ => ok_some rfl) (fun c4 => absurd (pz_lt.mpr (by omega)) c4)) (fun y13 h13 => ?_)
            subst h13
            obtain ⟨x1, x2⟩ := rd_ix hh hlt hpN
            refine ok_lt (ok_lt (ok_lt (ok_dr (b := d) (by rw [q11]; exact a3) a4 a5 (ok_chk x1 (ok_lt (ok_lt (ok_lt (ok_lt (ok_lt (ok_lt (ok_lt (ok_lt (ok_lt (ok_lt ?_)))))))))))))) 
            have hbit := rd_bit hh hlt hpN (y := y13.1 d (1 + (S.2.1 + 9 + S.2.2.2.2.1 + jj) / 8)) (by rw [q10 d _ (fun q => hdr q.1), gd])
            rw [x2]
            generalize ((y13.1 d (1 + (S.2.1 + 9 + S.2.2.2.2.1 + jj) / 8) >>> (((7 : Int32) - (y13.1 r 2 &&& (7 : Int32))) &&& 31)) &&& (1 : Int32)) = nb at hbit ⊢
            have har2 : (uI y13 r 2 (y13.1 r 2 + 1)).1 r 6 = M.1 r 6 := by
              rw [uI_n _ _ (by simp)]; exact har
            have hfb := hf (S.2.1 + 9 + S.2.2.2.2.1 + jj)
            refine ok_bnd (Q := fun y : Int32 × DD => y.1 = w ∧ (y.2.1 r 8).toInt = 2 * (R * 2 ^ jj : Nat) ∧ (y.2.1 r 9).toInt = 2 * (y13.1 r 9).toInt + f (S.2.1 + 9 + S.2.2.2.2.1 + jj) ∧ (y.2.1 r 2).toInt = (y13.1 r 2).toInt + 1 ∧ (∀ x k, ¬ (x = r ∧ (k = 2 ∨ k = 8 ∨ k = 9)) → y.2.1 x k = y13.1 x k) ∧ y.2.2 = M.2) (ok_if (fun c5 => absurd (har2 ▸ c5) hc6) (fun _ => ok_lt (ok_lt (ok_lt (ok_lt (ok_lt (ok_lt (ok_lt (ok_some ?_))))))))) (fun y28 h28 => ok_lt (ok_some ?_))
            · dsimp only
              have k8 : (uI y13 r 2 (y13.1 r 2 + 1)).1 r 8 = y13.1 r 8 := by simp [uI]
              rw [k8]
              have k9 : ∀ v, (uI (uI y13 r 2 (y13.1 r 2 + 1)) r 8 v).1 r 9 = y13.1 r 9 := fun v => by simp [uI]
              rw [k9]
              have h20 := pz_shl1 (y13.1 r 8) (by omega) (by omega)
              have h21 := pz_shl1 (y13.1 r 9) (by omega) (by omega)
              refine ⟨rfl, ?_, ?_, ?_, fun x k hk => ?_, q11⟩
              · rw [uI_n _ _ (by simp), uI_s, h20, q5]
              · rw [uI_s, pz_or1 _ _ (by omega) (by omega) (by omega) (by omega), h21, hbit]
              · rw [uI_n _ _ (by simp), uI_n _ _ (by simp), uI_s, ti_add (by omega) (by omega), e1]
              · rw [uI_n _ _ (fun q => hk ⟨q.1, Or.inr (Or.inr q.2)⟩), uI_n _ _ (fun q => hk ⟨q.1, Or.inr (Or.inl q.2)⟩), uI_n _ _ (fun q => hk ⟨q.1, Or.inl q.2⟩)]
            · obtain ⟨y1, N6⟩ := y28
              obtain ⟨n1, n2, n3, n4, n5, n6⟩ := h28
              dsimp only at n1 n2 n3 n4 n5 n6 ⊢
              have hk1 : (k + 1).toInt = jj + 1 := by rw [ti_add (by omega) (by omega), q1, e1]
              have hpe : pv f S.2.1 (9 + S.2.2.2.2.1 + (jj + 1)) = 2 * pv f S.2.1 (9 + S.2.2.2.2.1 + jj) + f (S.2.1 + 9 + S.2.2.2.2.1 + jj) := by
                show 2 * pv f S.2.1 (9 + S.2.2.2.2.1 + jj) + f (S.2.1 + (9 + S.2.2.2.2.1 + jj)) = _
                rw [show S.2.1 + (9 + S.2.2.2.2.1 + jj) = S.2.1 + 9 + S.2.2.2.2.1 + jj by omega]
              refine ⟨⟨jj + 1, by rw [hk1]; omega, by omega, ?_, by rw [n1]; exact q4, ?_, ?_, by omega, ?_, by omega, fun x k hk => (n5 x k hk).trans (q10 x k hk), n6⟩, by omega⟩
              · rw [show 9 - (jj + 1) = 9 - jj - 1 by omega, Nat.pow_succ, ← Nat.mul_assoc, Nat.mul_comm _ 2]
                omega
              · rw [n2, Nat.pow_succ, ← Nat.mul_assoc]
                omega
              · rw [n3, hpe, q6, Nat.pow_succ, ← Nat.mul_assoc]
                omega
              · rw [n3, Nat.pow_succ, ← Nat.mul_assoc]
                omega
      · refine ⟨0, e0, Nat.zero_le _, by simp, z1, by rw [z2]; simp, ?_, by rw [z3]; omega, by rw [z3]; simp; omega, by rw [g2, hpl, hpos]; omega, fun _ _ _ => rfl, z6⟩
        rw [z3, Nat.add_zero, hV]
        simp
      · dsimp only
        omega
      · obtain ⟨y31, y32, N⟩ := y3
        obtain ⟨n1, n2, n3, n4, n5, n6⟩ := h3
        dsimp only at n1 n2 n3 n4 n5 n6 ⊢
        have hfr : ∀ x k, ¬ (x = r ∧ (k = 2 ∨ k = 8 ∨ k = 9)) → ¬ (x = t ∧ k = i) → N.1 x k = M.1 x k := fun x k h1 h2 => (n5 x k h1).trans (z4 x k (fun q => h1 ⟨q.1, Or.inr q.2⟩) h2)
        have hes : (enc1 S.2.2 i b).2.2.2 = (bin S.2.2 i b).2.2.2 := rfl
        have heR : (enc1 S.2.2 i b).2.1 = R * 2 ^ shn 9 R := by rw [← hR']; rfl
        have heL : (enc1 S.2.2 i b).1 = Lo * 2 ^ shn 9 R := by rw [← hR', ← hL']; rfl
        have hen : (enc1 S.2.2 i b).2.2.1 = S.2.2.2.2.1 + shn 9 R := by rw [← hR', ← hbn]; rfl
        refine ⟨n1, ⟨⟨a1, a2, by rw [n6]; exact a3, a4, a5, a6, a7, a8⟩, hf, ?_, fun q hq => ?_, ⟨by rw [n6]; exact s1, s2, s3, s4, fun q hq => ?_⟩, ?_, ?_, Or.inr ⟨rfl, ?_, ho', ?_, ?_⟩⟩, v1, n6, fun x k h1 h2 => hfr x k h2 (fun q => h1 q.1)⟩
        · rw [hfr r 1 (by simp) (fun z => hrt z.1)]; exact hT
        · rw [hfr d _ (fun z => hdr z.1) (fun z => hdt z.1)]; exact hb q hq
        · dsimp only
          rw [hes]
          by_cases hqi : q = i
          · rw [hqi, n5 t i (fun z => htr z.1)]
            exact z5
          · rw [hfr t q (fun z => htr z.1) (fun z => hqi z.2), s5 q hq, hstb]
            unfold stu
            rw [if_neg hqi]
        · exact ho'.2.2.1
        · rw [n4, hpv]
          omega
        · rw [hfr r 6 (by simp) (fun z => hrt z.1)]; exact m2
        · dsimp only
          rw [n2, heR]
        · dsimp only
          rw [n3, heL, hen, Nat.add_assoc]
