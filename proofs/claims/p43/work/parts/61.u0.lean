/-! a unit's first byte stays, over all that writes -/
theorem U0.wk {G : GG} {M : DD} {a : Nat} {c : Int32} (h : U0 G M a c) {b k : Nat} {v : Int32} (hb : G.2.1 b = 13) : U0 G (uI M b k v) a c := by
  refine h.w (by rw [hb]; decide) ?_
  rintro ⟨e, _⟩
  obtain ⟨u, h1, _⟩ := h
  rw [e, h1.2] at hb
  exact absurd hb (by decide)
theorem pc_fill {G : GG} {M : DD} {a : Nat} {c p0 : Int32} (h : U0 G M a c) : PC (FX10_fill G M a p0) (fun y => U0 (xt G y.1) y.2 a c) := by
  unfold FX10_fill
  refine pc_bnd (pc_itrA (fun L (s : Int32 × DD) => U0 (xt G L) s.2 a c) (fun L (r : Int32 × DD) => U0 (xt G L) r.2 a c) ?_ _ _ _ (h.xt [])) ?_
  · rintro L s hs
    have hn : U0 (xt G (L ++ [])) s.2 a c := by rw [List.append_nil]; exact hs
    refine pc_if (fun _ => pc_some hn) (fun _ => pc_ltt (fun x12 _ => pc_if (fun _ => pc_some hn) (fun _ => ?_)))
    refine pc_bnd (pc_put hs) (fun y hy => pc_app (pc_ltt (fun L16 e => pc_ltt (fun x19 _ => pc_some ?_))))
    have hL : L16 = L ++ y.1 := e
    rw [xt_xt, ← hL] at hy
    exact ⟨by dsimp only; rw [List.append_nil, hL], hy⟩
  · rintro y hy
    refine pc_app (pc_ltt (fun L4 _ => pc_some ?_))
    dsimp only
    rw [List.append_nil]
    exact hy
theorem pc_widen {G : GG} {M : DD} {a : Nat} {c : Int32} (h : U0 G M a c) : PC (FX10_widen G M a) (fun y => U0 (xt G y.1) y.2 a c) := by
  unfold FX10_widen
  refine pc_bnd (pc_itrA (fun L (s : Int32 × DD) => U0 (xt G L) s.2 a c) (fun L (r : Int32 × DD) => U0 (xt G L) r.2 a c) ?_ _ _ _ (h.xt [])) ?_
  · rintro L s hs
    have hn : U0 (xt G (L ++ [])) s.2 a c := by rw [List.append_nil]; exact hs
    refine pc_if (fun _ => pc_some hn) (fun _ => pc_ltt (fun x12 _ => pc_if (fun _ => pc_some hn) (fun _ => pc_ltt (fun x14 _ => ?_))))
    refine pc_bnd (Q := fun y => U0 (xt G (L ++ y.1)) y.2 a c) ?_ ?_
    · refine pc_if (fun _ => pc_ltt (fun x28 _ => ?_)) (fun _ => ?_)
      · refine pc_bnd (Q := fun y => U0 (xt G (L ++ y.1)) y.2 a c) ?_ (fun y hy => pc_app (pc_ltt (fun L31 e => pc_some (by dsimp only; rw [List.append_nil]; exact hy))))
        refine pc_if (fun _ => ?_) (fun _ => ?_)
        · refine pc_ltt (fun x35 _ => pc_ltt (fun x36 _ => pc_ltt (fun M37 e37 => pc_ltt (fun x38 _ => pc_ltt (fun x39 _ => pc_ltt (fun M40 e40 => pc_some ?_))))))
          dsimp only
          rw [e40, e37, List.append_nil]
          exact (U0.wa hs (by decide)).wa (by decide)
        · refine pc_bnd (pc_put hs) (fun y hy => pc_app (pc_ltt (fun L43 e => pc_ltt (fun x46 _ => pc_ltt (fun x47 _ => pc_ltt (fun M48 e48 => pc_some ?_))))))
          dsimp only
          rw [e48, List.append_nil]
          rw [xt_xt] at hy
          exact hy.wa (by decide)
      · refine pc_bnd (pc_put hs) (fun y hy => pc_app (pc_ltt (fun L51 e => pc_some ?_)))
        dsimp only
        rw [List.append_nil]
        rw [xt_xt] at hy
        exact hy
    · rintro y hy
      refine pc_app (pc_ltt (fun L17 e => pc_ltt (fun x19 _ => pc_ltt (fun x20 _ => pc_ltt (fun M21 e21 => pc_ltt (fun x22 _ => pc_ltt (fun x23 _ => pc_ltt (fun M24 e24 => pc_ltt (fun x25 _ => pc_some ?_)))))))))
      have hL : L17 = L ++ y.1 := e
      refine ⟨by dsimp only; rw [List.append_nil, hL], ?_⟩
      dsimp only
      rw [e24, e21, hL]
      exact (U0.wa hy (by decide)).wa (by decide)
  · rintro y hy
    refine pc_app (pc_ltt (fun L4 _ => pc_some ?_))
    dsimp only
    rw [List.append_nil]
    exact hy
theorem pc_code {G : GG} {M : DD} {a : Nat} {c p0 p2 : Int32} {p1 : Int64} (h : U0 G M a c) : PC (FX10_code G M a p0 p1 p2) (fun y => U0 (xt G y.1) y.2 a c) := by
  unfold FX10_code
  refine pc_bnd (pc_itrA (fun L (s : Int32 × DD) => U0 (xt G L) s.2 a c) (fun L (r : Int32 × DD) => U0 (xt G L) r.2 a c) ?_ _ _ _ (h.xt [])) ?_
  · rintro L s hs
    have hn : U0 (xt G (L ++ [])) s.2 a c := by rw [List.append_nil]; exact hs
    refine pc_if (fun _ => pc_some hn) (fun _ => pc_ltt (fun x12 _ => pc_ltt (fun x13 _ => pc_ltt (fun x14 _ => pc_ltt (fun x15 _ => pc_ltt (fun x16 _ => pc_ltt (fun x17 _ => ?_)))))))
    refine pc_bnd (Q := fun y => U0 (xt G (L ++ y.1)) y.2 a c) ?_ ?_
    · refine pc_if (fun _ => ?_) (fun _ => ?_)
      · refine pc_bnd (pc_put hs) (fun y hy => pc_app (pc_ltt (fun L51 e => pc_some ?_)))
        dsimp only
        rw [List.append_nil]
        rw [xt_xt] at hy
        exact hy
      · refine pc_ltt (fun x25 _ => pc_bnd (Q := fun _ => True) (fun _ _ => trivial) (fun y26 _ => pc_ltt (fun x27 _ => pc_drk (fun b eb hb kb => ?_))))
        refine pc_chk (fun _ => pc_ltt (fun x29 _ => pc_ltt (fun x30 _ => pc_chk (fun _ => pc_ltt (fun x31 _ => pc_ltt (fun x32 _ => pc_ltt (fun x33 _ => pc_ltt (fun x34 _ => pc_ltt (fun x35 _ => pc_ltt (fun x36 _ => pc_ltt (fun x37 _ => pc_chk (fun _ => pc_ltt (fun x38 _ => pc_ltt (fun x39 _ => pc_ltt (fun x40 _ => pc_ltt (fun M41 e41 => ?_))))))))))))))))
        have h41 : U0 (xt G L) M41 a c := by rw [e41]; exact U0.wa hs (by decide)
        refine pc_bnd (Q := fun (y : Int32 × Int32 × DD) => U0 (xt G L) y.2.2 a c) ?_ ?_
        · refine pc_if (fun _ => pc_bnd (Q := fun _ => True) (fun _ _ => trivial) (fun y61 _ => pc_some h41)) (fun _ => ?_)
          refine pc_ltt (fun x53 _ => pc_ltt (fun x54 _ => pc_ltt (fun x55 _ => pc_ltt (fun M56 e56 => pc_ltt (fun M57 e57 => pc_bnd (Q := fun _ => True) (fun _ _ => trivial) (fun y58 _ => pc_chk (fun _ => pc_ltt (fun x59 _ => pc_some ?_))))))))
          dsimp only
          rw [e57, e56]
          exact (U0.wa h41 (by decide)).wa (by decide)
        · rintro y42 h42
          refine pc_ltt (fun x43 _ => pc_ltt (fun x44 _ => pc_drk (fun b2 eb2 hb2 kb2 => pc_chk (fun _ => pc_ltt (fun M46 e46 => ?_)))))
          have h46 : U0 (xt G L) M46 a c := by rw [e46]; exact h42.wk kb2
          refine pc_bnd (pc_widen h46) (fun y hy => pc_app (pc_ltt (fun L49 e => pc_some ?_)))
          dsimp only
          rw [List.append_nil]
          rw [xt_xt] at hy
          exact hy
    · rintro y hy
      refine pc_app (pc_ltt (fun L20 e => pc_ltt (fun x22 _ => pc_some ?_)))
      have hL : L20 = L ++ y.1 := e
      refine ⟨by dsimp only; rw [List.append_nil, hL], ?_⟩
      dsimp only
      rw [hL]
      exact hy
  · rintro y hy
    refine pc_app (pc_ltt (fun L4 _ => pc_some ?_))
    dsimp only
    rw [List.append_nil]
    exact hy
theorem pc_last {G : GG} {M : DD} {a : Nat} {c p0 : Int32} (h : U0 G M a c) : PC (FX10_last G M a p0) (fun y => U0 (xt G y.1) y.2 a c) := by
  unfold FX10_last
  refine pc_ltt (fun x1 _ => pc_ltt (fun x2 _ => pc_ltt (fun M3 e3 => ?_)))
  have h3 : U0 G M3 a c := by rw [e3]; exact h.wa (by decide)
  refine pc_bnd (Q := fun y => U0 G y a c) ?_ ?_
  · refine pc_if (fun _ => pc_some h3) (fun _ => ?_)
    refine pc_ltt (fun x39 _ => pc_ltt (fun x40 _ => pc_ltt (fun x41 _ => pc_ltt (fun M42 e42 => pc_ltt (fun M43 e43 => pc_some ?_)))))
    rw [e43, e42]
    exact (U0.wa h3 (by decide)).wa (by decide)
  · rintro y4 h4
    refine pc_bnd (pc_widen (h4.xt [])) (fun y5 h5 => pc_app (pc_ltt (fun L7 e7 => ?_)))
    have hL : L7 = y5.1 := e7
    rw [xt_xt, List.nil_append, ← hL] at h5
    refine pc_bnd (Q := fun y => U0 (xt G (L7 ++ y.1)) y.2 a c) ?_ ?_
    · refine pc_if (fun _ => pc_some (by dsimp only; rw [List.append_nil]; exact h5)) (fun _ => ?_)
      refine pc_ltt (fun x16 _ => pc_ltt (fun x17 _ => pc_ltt (fun x18 _ => pc_bnd (pc_put h5) (fun y19 h19 => pc_app (pc_ltt (fun L21 e21 => ?_))))))
      have hL21 : L21 = L7 ++ y19.1 := e21
      rw [xt_xt, ← hL21] at h19
      refine pc_ltt (fun x24 _ => pc_ltt (fun x25 _ => pc_ltt (fun x26 _ => pc_bnd (pc_put h19) (fun y27 h27 => pc_app (pc_ltt (fun L29 e29 => ?_))))))
      have hL29 : L29 = L21 ++ y27.1 := e29
      rw [xt_xt, ← hL29] at h27
      refine pc_bnd (pc_put h27) (fun y32 h32 => pc_app (pc_ltt (fun L34 e34 => pc_chk (fun _ => pc_ltt (fun M37 e37 => pc_some ?_)))))
      rw [xt_xt] at h32
      dsimp only
      rw [e37, List.append_nil, ← List.append_assoc, ← List.append_assoc, ← hL21, ← hL29]
      exact h32.wa (by decide)
    · rintro y hy
      refine pc_app (pc_ltt (fun L12 _ => pc_some ?_))
      dsimp only
      rw [List.append_nil, ← hL]
      exact hy
theorem pc_beginArith {G : GG} {M : DD} {a : Nat} {c : Int32} (h : U0 G M a c) : PC (FX10_beginArith G M a) (fun y => U0 G y a c) := by
  unfold FX10_beginArith
  refine pc_ltt (fun M1 e1 => pc_ltt (fun M2 e2 => pc_ltt (fun M3 e3 => pc_chk (fun _ => pc_ltt (fun M4 e4 => pc_chk (fun _ => pc_ltt (fun M5 e5 => pc_some ?_)))))))
  rw [e5, e4, e3, e2, e1]
  exact ((((U0.wa h (by decide)).wa (by decide)).wa (by decide)).wa (by decide)).wa (by decide)
theorem pc_fillA {G : GG} {M : DD} {a : Nat} {c p1 : Int32} {o : Option Nat} (h : U0 G M a c) : PC (FJ7_fill_53178 G M o p1) (fun y => U0 G y a c) := by
  unfold FJ7_fill_53178
  refine pc_drk (fun b eb hb kb => pc_ltt (fun x2 _ => ?_))
  refine pc_bnd (Q := fun (s : Int32 × DD) => U0 G s.2 a c) (pc_itr (fun (s : Int32 × DD) => U0 G s.2 a c) ?_ _ _ h) (fun y hy => pc_some hy)
  rintro s hs
  refine pc_if (fun _ => pc_some hs) (fun _ => pc_chk (fun _ => pc_ltt (fun M8 e8 => pc_ltt (fun x9 _ => pc_some ?_))))
  dsimp only
  rw [e8]
  exact hs.wk kb
theorem pc_beginData {G : GG} {M : DD} {a : Nat} {c : Int32} (h : U0 G M a c) : PC (FX10_beginData G M a) (fun y => U0 (xt G y.1) y.2 a c) := by
  unfold FX10_beginData
  refine pc_bnd (pc_fill (h.xt [])) (fun y1 h1 => pc_app (pc_ltt (fun L3 e3 => ?_)))
  have hL : L3 = y1.1 := e3
  rw [xt_xt, List.nil_append, ← hL] at h1
  refine pc_bnd (pc_fillA h1) (fun y6 h6 => pc_bnd (pc_beginArith h6) (fun y7 h7 => pc_some ?_))
  dsimp only
  rw [List.append_nil, ← hL]
  exact h7
theorem pc_bitsOfUe {G : GG} {M : DD} {p0 : Int32} : PC (FX10_bitsOfUe G M p0) (fun y => y.1 = M) := by
  unfold FX10_bitsOfUe
  exact pc_bnd (Q := fun _ => True) (fun _ _ => trivial) (fun y1 _ => pc_ltt (fun x4 _ => pc_ltt (fun x5 _ => pc_some rfl)))
theorem pc_indexOfSe {G : GG} {M : DD} {p0 : Int32} : PC (FX10_indexOfSe G M p0) (fun y => y.1 = M) := by
  unfold FX10_indexOfSe
  exact pc_bnd (Q := fun _ => True) (fun _ _ => trivial) (fun y1 _ => pc_some rfl)
theorem pc_lengthOf {G : GG} {M : DD} {p0 p1 : Int32} : PC (FX5_lengthOf G M p0 p1) (fun y => y.1 = M) := by
  unfold FX5_lengthOf
  exact pc_chk (fun _ => pc_ltt (fun x1 _ => pc_ltt (fun x2 _ => pc_bnd (Q := fun _ => True) (fun _ _ => trivial) (fun y3 _ => pc_some rfl))))
theorem pc_valueOf {G : GG} {M : DD} {p0 p1 : Int32} : PC (FX5_valueOf G M p0 p1) (fun y => y.1 = M) := by
  unfold FX5_valueOf
  exact pc_chk (fun _ => pc_ltt (fun x1 _ => pc_ltt (fun x2 _ => pc_bnd (Q := fun _ => True) (fun _ _ => trivial) (fun y3 _ => pc_some rfl))))
theorem pc_ue {G : GG} {M : DD} {a : Nat} {c p0 p1 : Int32} (h : U0 G M a c) : PC (FX10_ue G M a p0 p1) (fun y => U0 (xt G y.1) y.2 a c) := by
  unfold FX10_ue
  refine pc_ltt (fun x1 _ => pc_ltt (fun x2 _ => pc_bnd pc_bitsOfUe (fun y3 h3 => ?_)))
  refine pc_bnd (pc_code (by rw [h3]; exact h.xt [])) (fun y4 h4 => pc_app (pc_ltt (fun L6 _ => pc_some ?_)))
  dsimp only
  rw [List.append_nil]
  rw [xt_xt] at h4
  exact h4
theorem pc_se {G : GG} {M : DD} {a : Nat} {c p0 p1 : Int32} (h : U0 G M a c) : PC (FX10_se G M a p0 p1) (fun y => U0 (xt G y.1) y.2 a c) := by
  unfold FX10_se
  refine pc_bnd pc_indexOfSe (fun y1 h1 => pc_ltt (fun x2 _ => pc_ltt (fun x3 _ => pc_bnd pc_bitsOfUe (fun y4 h4 => ?_))))
  refine pc_bnd (pc_code (by rw [h4, h1]; exact h.xt [])) (fun y5 h5 => pc_app (pc_ltt (fun L6 _ => pc_some ?_)))
  dsimp only
  rw [List.append_nil]
  rw [xt_xt] at h5
  exact h5
theorem pc_te {G : GG} {M : DD} {a : Nat} {c p0 p1 p2 : Int32} (h : U0 G M a c) : PC (FX10_te G M a p0 p1 p2) (fun y => U0 (xt G y.1) y.2 a c) := by
  unfold FX10_te
  refine pc_bnd (Q := fun y => U0 (xt G y.1) y.2 a c) ?_ (fun y hy => pc_app (pc_ltt (fun L3 _ => pc_some (by dsimp only; rw [List.append_nil]; exact hy))))
  refine pc_if (fun _ => ?_) (fun _ => ?_)
  · refine pc_ltt (fun x15 _ => pc_ltt (fun x16 _ => pc_bnd (pc_code (h.xt [])) (fun y5 h5 => pc_app (pc_ltt (fun L6 _ => pc_some ?_)))))
    dsimp only
    rw [List.append_nil]
    rw [xt_xt] at h5
    exact h5
  · refine pc_ltt (fun x7 _ => pc_ltt (fun x8 _ => pc_bnd pc_bitsOfUe (fun y9 h9 => ?_)))
    refine pc_bnd (pc_code (by rw [h9]; exact h.xt [])) (fun y5 h5 => pc_app (pc_ltt (fun L6 _ => pc_some ?_)))
    dsimp only
    rw [List.append_nil]
    rw [xt_xt] at h5
    exact h5
