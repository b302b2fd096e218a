/-! where a unit's reading begins -/
theorem rdu_begin {G : GG} {y : DD} {d : Nat} {f : Nat → Nat} {T w : Nat} {A : AS} {D : List Tok} (h : RD G y 13 d 14 f T (0, 0, A)) (h12 : y.1 13 12 = 0) (hK : GK G y) (hv : VT f T D (0, 0, A)) : RDU G y d f T w 0 (fun _ => 0) D y ∧ RAt G y d f T D := by
  have hE : RE G y 13 15 14 (0, 0, A) := by
    refine ⟨(hK.2.2 13 11 (by decide)).trans rfl, by have := hK.1; omega, gk_k hK (by decide) rfl, gk_len hK (by decide) rfl, by decide, ?_, ?_, fun q => absurd rfl q⟩
    · rw [h12]; decide
    · rw [h12]
      show (0 : Int32).toInt ≤ ((pos (0, 0, A) : Nat) : Int)
      have : (0 : Int32).toInt = 0 := rfl
      omega
  exact ⟨rdu_st rfl h hE hv, _, h, hE, hv⟩
/-- the tokens that a coder's list of pieces and a decoder's are the same where a condition holds once -/
theorem if_app {c : Prop} [Decidable c] (a b : List Tok) : (if c then a else []) ++ (if c then b else []) = if c then a ++ b else [] := by
  by_cases q : c
  · rw [if_pos q, if_pos q, if_pos q]
  · rw [if_neg q, if_neg q, if_neg q]; rfl
