/-! a unit's first byte stays, over LEVELS and RAW samples -/
theorem pc_collect {G : GG} {M : DD} {a : Nat} {c p1 p2 : Int32} {o : Option Nat} (h : U0 G M a c) : PC (FX10_collect G M a o p1 p2) (fun y => U0 G y.1 a c) := by
  unfold FX10_collect
  refine pc_ltt (fun M1 e1 => pc_ltt (fun x2 _ => pc_ltt (fun x3 _ => ?_)))
  have h1 : U0 G M1 a c := by rw [e1]; exact h.wa (by decide)
  refine pc_bnd (Q := fun (s : Int32 × Int32 × DD) => U0 G s.2.2 a c) (pc_itr (fun (s : Int32 × Int32 × DD) => U0 G s.2.2 a c) ?_ _ _ h1) (fun y hy => pc_some hy)
  rintro s hs
  refine pc_if (fun _ => pc_some hs) (fun _ => pc_drk (fun b9 _ _ k9 => pc_chk (fun _ => pc_ltt (fun x10 _ => ?_))))
  refine pc_bnd (Q := fun (y : Int32 × DD) => U0 G y.2 a c) ?_ (fun y hy => pc_ltt (fun x12 _ => pc_some hy))
  refine pc_if (fun _ => ?_) (fun _ => ?_)
  · refine pc_bnd (Q := fun y => U0 G y a c) ?_ (fun y hy => pc_some hy)
    refine pc_if (fun _ => pc_some hs) (fun _ => ?_)
    refine pc_ltt (fun x16 _ => pc_drk (fun b17 _ _ k17 => pc_chk (fun _ => pc_ltt (fun x18 _ => pc_ltt (fun x19 _ => pc_chk (fun _ => pc_ltt (fun M20 e20 => pc_ltt (fun x21 _ => pc_ltt (fun x22 _ => pc_ltt (fun M23 e23 => pc_some ?_))))))))))
    rw [e23, e20]
    exact (U0.wk hs k17).wa (by decide)
  · refine pc_chk (fun _ => pc_ltt (fun x24 _ => pc_drk (fun b25 _ _ k25 => pc_chk (fun _ => pc_ltt (fun M26 e26 => pc_drk (fun b27 _ _ k27 => pc_chk (fun _ => pc_ltt (fun M28 e28 => pc_ltt (fun x29 _ => pc_some ?_)))))))))
    dsimp only
    rw [e28, e26]
    exact (U0.wk hs k25).wk k27
theorem pc_countOnes {G : GG} {M : DD} {a : Nat} {c p0 : Int32} (h : U0 G M a c) : PC (FX10_countOnes G M a p0) (fun y => U0 G y.1 a c) := by
  unfold FX10_countOnes
  refine pc_bnd (Q := fun (s : Int32 × DD) => U0 G s.2 a c) (pc_itr (fun (s : Int32 × DD) => U0 G s.2 a c) ?_ _ _ h) (fun y hy => pc_some hy)
  rintro s hs
  refine pc_if (fun _ => pc_some hs) (fun _ => pc_if (fun _ => pc_some hs) (fun _ => pc_drk (fun b9 _ _ k9 => pc_chk (fun _ => pc_ltt (fun x8 _ => pc_ltt (fun x9 _ => ?_))))))
  exact pc_if (fun _ => pc_ltt (fun x11 _ => pc_some hs)) (fun _ => pc_some hs)
theorem pc_cut {G : GG} {M : DD} {a : Nat} {c p0 p1 p2 : Int32} (h : U0 G M a c) : PC (FX10_cut G M a p0 p1 p2) (fun y => U0 G y a c) := by
  unfold FX10_cut
  refine pc_bnd (Q := fun _ => True) (fun _ _ => trivial) (fun y1 _ => pc_bnd (Q := fun _ => True) (fun _ _ => trivial) (fun y2 _ => pc_ltt (fun x3 _ => pc_ltt (fun M4 e4 => pc_ltt (fun M5 e5 => pc_bnd (Q := fun _ => True) (fun _ _ => trivial) (fun y6 _ => pc_ltt (fun x7 _ => pc_ltt (fun M8 e8 => ?_))))))))
  have h8 : U0 G M8 a c := by
    rw [e8, e5, e4]
    exact ((U0.wa h (by decide)).wa (by decide)).wa (by decide)
  have w3 : ∀ M17 M18 M22 : DD, ∀ v w u : Int32, M17 = uI M8 a 17 v → M18 = uI M17 a 19 w → M22 = uI M18 a 18 u → U0 G M22 a c := by
    intro M17 M18 M22 v w u e1 e2 e3
    rw [e3, e2, e1]
    exact ((U0.wa h8 (by decide)).wa (by decide)).wa (by decide)
  refine pc_bnd (Q := fun y => U0 G y a c) ?_ (fun y hy => pc_some hy)
  refine pc_if (fun _ => ?_) (fun _ => ?_)
  · refine pc_bnd (Q := fun y => U0 G y a c) ?_ (fun y hy => pc_some hy)
    refine pc_if (fun _ => ?_) (fun _ => ?_)
    · refine pc_bnd (Q := fun y => U0 G y a c) ?_ (fun y hy => pc_some hy)
      refine pc_if (fun _ => pc_some h8) (fun _ => pc_ltt (fun x27 _ => ?_))
      refine pc_bnd (Q := fun y => U0 G y a c) ?_ (fun y hy => pc_some hy)
      refine pc_if (fun _ => pc_some h8) (fun _ => ?_)
      exact pc_ltt (fun x30 _ => pc_ltt (fun M31 e31 => pc_ltt (fun M32 e32 => pc_ltt (fun x33 _ => pc_ltt (fun x34 _ => pc_ltt (fun x35 _ => pc_ltt (fun M36 e36 => pc_some (w3 _ _ _ _ _ _ e31 e32 e36))))))))
    · exact pc_bnd (Q := fun _ => True) (fun _ _ => trivial) (fun y37 _ => pc_ltt (fun M38 e38 => pc_bnd (Q := fun _ => True) (fun _ _ => trivial) (fun y39 _ => pc_ltt (fun M40 e40 => pc_bnd (Q := fun _ => True) (fun _ _ => trivial) (fun y41 _ => pc_ltt (fun M42 e42 => pc_some (w3 _ _ _ _ _ _ e38 e40 e42)))))))
  · refine pc_bnd (Q := fun y => U0 G y a c) ?_ (fun y hy => pc_some hy)
    refine pc_if (fun _ => pc_some h8) (fun _ => pc_ltt (fun x13 _ => ?_))
    refine pc_bnd (Q := fun y => U0 G y a c) ?_ (fun y hy => pc_some hy)
    refine pc_if (fun _ => pc_some h8) (fun _ => ?_)
    exact pc_ltt (fun x30 _ => pc_ltt (fun M31 e31 => pc_ltt (fun M32 e32 => pc_ltt (fun x33 _ => pc_ltt (fun x34 _ => pc_ltt (fun x35 _ => pc_ltt (fun M36 e36 => pc_some (w3 _ _ _ _ _ _ e31 e32 e36))))))))
/-- what is coded, and put behind L -/
theorem pc_codeL {G : GG} {L : NN} {N : DD} {a : Nat} {c p0 p2 : Int32} {p1 : Int64} (h : U0 (xt G L) N a c) : PC (FX10_code (xt G L) N a p0 p1 p2) (fun y => U0 (xt G (L ++ y.1)) y.2 a c) := (pc_code h).mono (fun y hy => by rw [xt_xt] at hy; exact hy)
theorem pc_levels {G : GG} {M : DD} {a : Nat} {c p0 p1 p3 : Int32} {o : Option Nat} (h : U0 G M a c) : PC (FX10_levels G M a p0 p1 o p3) (fun y => U0 (xt G y.1) y.2 a c) := by

  unfold FX10_levels
  refine pc_bnd (Q := fun _ => True) (fun _ _ => trivial) (fun y1 _ => ?_)
  refine pc_bnd (pc_collect (h.xt [])) (fun y2 h2 => pc_bnd (pc_countOnes h2) (fun y3 h3 => ?_))
  refine pc_bnd (Q := fun _ => True) (fun _ _ => trivial) (fun y4 _ => pc_bnd (Q := fun _ => True) (fun _ _ => trivial) (fun y5 _ => ?_))
  refine pc_bnd (Q := fun y => U0 (xt G y.1) y.2 a c) ?_ (fun y6 h6 => pc_app (pc_ltt (fun L8 e8 => ?_)))
  · refine pc_if (fun _ => pc_bnd (Q := fun _ => True) (fun _ _ => trivial) (fun y147 _ => ?_)) (fun _ => ?_)
    · refine pc_bnd (pc_codeL h3) (fun y hy => pc_app (pc_ltt (fun L150 _ => pc_some ?_)))
      dsimp only
      rw [List.append_nil]
      exact hy
    · refine pc_bnd pc_valueOf (fun y139 h139 => pc_ltt (fun x140 _ => pc_bnd pc_lengthOf (fun y141 h141 => ?_)))
      refine pc_bnd (pc_codeL (by rw [h141, h139]; exact h3)) (fun y hy => pc_app (pc_ltt (fun L150 _ => pc_some ?_)))
      dsimp only
      rw [List.append_nil]
      exact hy
  have hL8 : L8 = y6.1 := e8
  rw [← hL8] at h6
  refine pc_bnd (Q := fun _ => True) (fun _ _ => trivial) (fun y10 _ => ?_)
  refine pc_bnd (pc_itrA (fun L (s : Int32 × Int32 × DD) => U0 (xt G L) s.2.2 a c) (fun L (r : Int32 × Int32 × DD) => U0 (xt G L) r.2.2 a c) ?_ _ _ _ h6) ?_
  · rintro L s hs
    have hn : U0 (xt G (L ++ [])) s.2.2 a c := by rw [List.append_nil]; exact hs
    refine pc_if (fun _ => pc_some hn) (fun _ => ?_)
    refine pc_bnd (Q := fun (y : NN × Int32 × DD) => U0 (xt G (L ++ y.1)) y.2.2 a c) ?_ ?_
    · refine pc_if (fun _ => ?_) (fun _ => ?_)
      · refine pc_drk (fun b91 _ _ k91 => pc_chk (fun _ => pc_ltt (fun x92 _ => pc_bnd (Q := fun _ => True) (fun _ _ => trivial) (fun y93 _ => pc_bnd (pc_cut hs) (fun y94 h94 => pc_ltt (fun x95 _ => pc_ltt (fun x96 _ => ?_)))))))
        refine pc_bnd (pc_codeL h94) (fun y97 h97 => pc_app (pc_ltt (fun L99 e99 => ?_)))
        have hL : L99 = L ++ y97.1 := e99
        rw [← hL] at h97
        refine pc_ltt (fun x102 _ => pc_ltt (fun x103 _ => pc_ltt (fun x104 _ => pc_bnd (pc_codeL h97) (fun y105 h105 => pc_app (pc_ltt (fun L107 e107 => ?_))))))
        have hL7 : L107 = L99 ++ y105.1 := e107
        rw [← hL7] at h105
        refine pc_bnd (Q := fun _ => True) (fun _ _ => trivial) (fun y110 _ => ?_)
        refine pc_bnd (Q := fun (y : Int32 × DD) => y.2 = y105.2) ?_ (fun y111 h111 => pc_some ?_)
        · refine pc_if (fun _ => pc_some rfl) (fun _ => ?_)
          exact pc_drk (fun b113 _ _ _ => pc_chk (fun _ => pc_ltt (fun x114 _ => pc_ltt (fun x115 _ => pc_ltt (fun x116 _ => pc_ltt (fun x117 _ => pc_bnd (Q := fun _ => True) (fun _ _ => trivial) (fun y118 _ => pc_some rfl)))))))
        · dsimp only
          rw [h111, List.append_nil, ← List.append_assoc, ← hL, ← hL7]
          exact h105
      · refine pc_drk (fun b125 _ _ k125 => pc_chk (fun _ => pc_ltt (fun x126 _ => pc_bnd (Q := fun _ => True) (fun _ _ => trivial) (fun y127 _ => pc_bnd (pc_codeL hs) (fun y128 h128 => pc_app (pc_ltt (fun L130 e130 => pc_some ?_)))))))
        dsimp only
        rw [List.append_nil]
        exact h128
    · rintro y84 h84
      refine pc_app (pc_ltt (fun L86 e86 => pc_ltt (fun x88 _ => pc_some ?_)))
      have hL : L86 = L ++ y84.1 := e86
      refine ⟨by dsimp only; rw [List.append_nil, hL], ?_⟩
      dsimp only
      rw [hL]
      exact h84
  · rintro y11 h11
    refine pc_app (pc_ltt (fun L14 e14 => ?_))
    have hL14 : L14 = L8 ++ y11.1 := e14
    rw [← hL14] at h11
    refine pc_bnd (Q := fun (y : NN × DD) => U0 (xt G (L14 ++ y.1)) y.2 a c) ?_ ?_
    · have hn : U0 (xt G (L14 ++ [])) y11.2.2.2 a c := by rw [List.append_nil]; exact h11
      refine pc_if (fun _ => pc_some hn) (fun _ => ?_)
      refine pc_bnd (Q := fun (y : NN × DD) => U0 (xt G (L14 ++ y.1)) y.2 a c) ?_ (fun y59 h59 => pc_app (pc_ltt (fun L61 _ => pc_some (by dsimp only; rw [List.append_nil]; exact h59))))
      refine pc_if (fun _ => pc_some hn) (fun _ => ?_)
      refine pc_bnd (Q := fun _ => True) (fun _ _ => trivial) (fun y65 _ => pc_ltt (fun x66 _ => pc_ltt (fun x67 _ => pc_bnd pc_valueOf (fun y68 h68 => pc_ltt (fun x69 _ => pc_ltt (fun x70 _ => pc_bnd pc_lengthOf (fun y71 h71 => ?_)))))))
      refine pc_bnd (pc_codeL (by rw [h71, h68]; exact h11)) (fun y72 h72 => pc_app (pc_ltt (fun L74 _ => pc_some ?_)))
      dsimp only
      rw [List.append_nil]
      exact h72
    · rintro y16 h16
      refine pc_app (pc_ltt (fun L18 e18 => ?_))
      have hL18 : L18 = L14 ++ y16.1 := e18
      rw [← hL18] at h16
      refine pc_bnd (pc_itrA (fun L (s : Int32 × DD) => U0 (xt G L) s.2 a c) (fun L (r : Int32 × DD) => U0 (xt G L) r.2 a c) ?_ _ _ _ h16) ?_
      · rintro L s hs
        have hn : U0 (xt G (L ++ [])) s.2 a c := by rw [List.append_nil]; exact hs
        refine pc_ltt (fun x30 _ => pc_if (fun _ => pc_some hn) (fun _ => pc_ltt (fun x32 _ => pc_if (fun _ => pc_some hn) (fun _ => pc_ltt (fun x34 _ => ?_)))))
        refine pc_bnd (Q := fun _ => True) (fun _ _ => trivial) (fun y35 _ => pc_ltt (fun x36 _ => pc_drk (fun b37 _ _ _ => pc_chk (fun _ => pc_ltt (fun x38 _ => pc_bnd pc_valueOf (fun y39 h39 => pc_ltt (fun x40 _ => pc_drk (fun b41 _ _ _ => pc_chk (fun _ => pc_ltt (fun x42 _ => pc_bnd pc_lengthOf (fun y43 h43 => ?_)))))))))))
        refine pc_bnd (pc_codeL (by rw [h43, h39]; exact hs)) (fun y44 h44 => pc_app (pc_ltt (fun L46 e46 => ?_)))
        have hL : L46 = L ++ y44.1 := e46
        rw [← hL] at h44
        refine pc_ltt (fun x49 _ => pc_drk (fun b50 _ _ _ => pc_chk (fun _ => pc_ltt (fun x51 _ => pc_ltt (fun x52 _ => pc_ltt (fun M53 e53 => pc_ltt (fun x54 _ => pc_some ⟨?_, ?_⟩)))))))
        · dsimp only
          rw [List.append_nil, hL]
        · dsimp only
          rw [e53]
          exact h44.wa (by decide)
      · rintro y20 h20
        refine pc_app (pc_ltt (fun L23 e23 => pc_some ?_))
        dsimp only
        rw [List.append_nil]
        have e : L8 ++ (y11.1 ++ (y16.1 ++ y20.1)) = L18 ++ y20.1 := by rw [hL18, hL14]; simp [List.append_assoc]
        rw [← hL8, e]
        exact h20
