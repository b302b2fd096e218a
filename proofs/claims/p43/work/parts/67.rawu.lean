/-! A unit's first byte over rawSamples -/
theorem pc_fillL {G : GG} {L : NN} {N : DD} {a : Nat} {c p0 : Int32} (h : U0 (xt G L) N a c) : PC (FX10_fill (xt G L) N a p0) (fun y => U0 (xt G (L ++ y.1)) y.2 a c) := (pc_fill h).mono (fun y hy => by rw [xt_xt] at hy; exact hy)
theorem pc_lastL {G : GG} {L : NN} {N : DD} {a : Nat} {c p0 : Int32} (h : U0 (xt G L) N a c) : PC (FX10_last (xt G L) N a p0) (fun y => U0 (xt G (L ++ y.1)) y.2 a c) := (pc_last h).mono (fun y hy => by rw [xt_xt] at hy; exact hy)
theorem pc_raw {G : GG} {M : DD} {a : Nat} {c : Int32} {o : Option Nat} (h : U0 G M a c) : PC (FX10_rawSamples G M a o) (fun y => U0 (xt G y.1) y.2 a c) := by
  unfold FX10_rawSamples
  refine pc_ltt (fun x1 _ => pc_bnd (Q := fun (y : NN × DD) => U0 (xt G y.1) y.2 a c) ?_ (fun y2 h2 => pc_app (pc_ltt (fun L4 e4 => pc_chk (fun _ => ?_)))))
  · refine pc_if (fun _ => pc_some (h.xt [])) (fun _ => pc_chk (fun _ => pc_bnd (pc_lastL (h.xt [])) (fun y40 h40 => pc_app (pc_ltt (fun L43 _ => pc_some ?_)))))
    dsimp only
    rw [List.append_nil]
    exact h40
  · have hL4 : L4 = y2.1 := e4
    rw [← hL4] at h2
    refine pc_bnd (pc_fillL h2) (fun y6 h6 => pc_app (pc_ltt (fun L9 e9 => ?_)))
    have hL9 : L9 = L4 ++ y6.1 := e9
    rw [← hL9] at h6
    refine pc_bnd (pc_itrA (fun L (s : Int32 × DD) => U0 (xt G L) s.2 a c) (fun L (r : Int32 × DD) => U0 (xt G L) r.2 a c) ?_ _ _ _ h6) ?_
    · rintro L s hs
      have hn : U0 (xt G (L ++ [])) s.2 a c := by rw [List.append_nil]; exact hs
      refine pc_if (fun _ => pc_some hn) (fun _ => pc_drk (fun b26 _ _ _ => pc_ltt (fun x27 _ => pc_if (fun _ => pc_some hn) (fun _ => pc_chk (fun _ => pc_ltt (fun x29 _ => pc_ltt (fun x30 _ => pc_chk (fun _ => pc_bnd (pc_codeL hs) (fun y31 h31 => pc_app (pc_ltt (fun L34 e34 => pc_ltt (fun x37 _ => pc_some ⟨?_, ?_⟩))))))))))))
      · dsimp only
        rw [List.append_nil]
        exact e34
      · dsimp only
        rw [e34]
        exact h31
    · rintro y12 h12
      refine pc_app (pc_ltt (fun L15 e15 => ?_))
      have hL15 : L15 = L9 ++ y12.1 := e15
      rw [← hL15] at h12
      refine pc_bnd (Q := fun (y : DD) => U0 (xt G L15) y a c) ?_ (fun y17 h17 => pc_some ?_)
      · refine pc_if (fun _ => pc_some h12) (fun _ => pc_bnd (pc_beginArith h12) (fun y19 h19 => pc_some h19))
      · dsimp only
        rw [List.append_nil]
        have e : y2.1 ++ (y6.1 ++ y12.1) = L15 := by rw [hL15, hL9, hL4]; simp [List.append_assoc]
        rw [e]
        exact h17
