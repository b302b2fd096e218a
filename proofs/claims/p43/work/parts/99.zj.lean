/-! pattern of a RAW BLOCK, read; the table of patterns, searched -/
theorem r_pat2 {H : GG} {N : DD} {d : Nat} {f : Nat → Nat} {T mb : Nat} {D : List Tok} (hK : GK H N) (hd : d ≠ 69) {p0 : Int32} (i0 : TI p0 mb) (hmb : mb ≤ 3) (hty : N.1 67 (8 * mb) = 2) (hR : RAt H N d f T D) : OK (FX1_readPattern H N 12 p0) (fun y => RAt H y d f T D ∧ y.2 = N.2 ∧ (∀ i, i < 24 → y.1 69 (24 * mb + i) = 16) ∧ (∀ z k, ¬ (z = 69 ∧ k / 24 = mb) → y.1 z k = N.1 z k)) := by
  have hdr : ∀ {N3 : DD} {α : Type} {κ a g b : Nat} {k : Nat → Option α} {Q : α → Prop}, N3.2 = N.2 → fT a g = b → (0 < b ∧ b < 222) → kdL.getD b 0 = κ → OK (k b) Q → OK (dr H κ (N3.2 a g) k) Q := by
    intro N3 α κ a g b k Q e hf hb hkd hh
    rw [e]
    exact ok_drM hK hf hb hkd hh
  have hl7 : H.2.2 67 = 256 := gk_len hK (by decide) rfl
  unfold FX1_readPattern
  refine ok_ltI (a := 8 * (mb : Int)) (av_mul tn_8 i0 (by omega) (by omega)) (fun x1 i1 => ?_)
  refine hdr (N3 := N) (b := 63) rfl rfl (by decide) rfl ?_
  refine ok_ltI (a := 8 * (mb : Int) + 0) (av_add i1 tn_0 (by omega) (by omega)) (fun x3 i3 => ?_)
  refine hdr (N3 := N) (b := 67) rfl rfl (by decide) rfl ?_
  refine ok_chk (by rw [hl7]; exact nx i3 (by omega) (by show _ < ((256 : Nat) : Int); omega)) ?_
  rw [show x3.toNatClampNeg = 8 * mb by rw [ti_n i3]; omega]
  refine ok_ltt (fun x5 e5 => ?_)
  rw [hty] at e5
  subst e5
  rw [if_pos rfl]
  refine ok_ltI (a := 24 * (mb : Int)) (av_mul tn_24 i0 (by omega) (by omega)) (fun x55 i55 => ?_)
  refine ok_ltI (a := 24 * (mb : Int)) (av_mul tn_24 i0 (by omega) (by omega)) (fun x56 i56 => ?_)
  refine ok_ltI (a := 24 * (mb : Int) + 24) (av_add i56 tn_24 (by omega) (by omega)) (fun x57 i57 => ?_)
  have er : N.2 63 8 = some 69 := (hK.2.2 63 8 (by decide)).trans rfl
  rw [er]
  refine ok_bnd (fillB_ok (b := 69) (n := 768) (l := 24 * mb) (h := 24 * mb + 24) (by have := hK.1; omega) (gk_k hK (by decide) rfl) (gk_len hK (by decide) rfl) (by decide) (by have : x55.toInt = 24 * (mb : Int) := i55; omega) (by have : x57.toInt = 24 * (mb : Int) + 24 := i57; omega) (by omega) (by omega)) ?_
  rintro y58 ⟨f1, f2, f3⟩
  refine ok_some ⟨ra_by hR f1 (fun z k w => f2 z k (by omega)), f1, fun i hi => f3 _ (by omega) (by omega), fun z k w => f2 z k (by omega)⟩
/-- what a search of the table of patterns writes -/
def pkT (off : Nat) (c : Int32) : Nat → List Tok
  | 0 => []
  | i + 1 => pkT off c i ++ (if (sT 9).getD (off + i) 0 = c then ueT 9 i else [])
theorem pkT_no {off : Nat} {c : Int32} : ∀ (n : Nat), (∀ i, i < n → ¬ (sT 9).getD (off + i) 0 = c) → pkT off c n = []
  | 0, _ => rfl
  | n + 1, h => by
    show pkT off c n ++ (if (sT 9).getD (off + n) 0 = c then ueT 9 n else []) = []
    rw [pkT_no n (fun i hi => h i (by omega)), if_neg (h n (by omega))]
    rfl
theorem pkT_one {off : Nat} {c : Int32} {k : Nat} (hk : (sT 9).getD (off + k) 0 = c) (hu : ∀ i, i < 48 → (sT 9).getD (off + i) 0 = c → i = k) : ∀ (n : Nat), n ≤ 48 → k < n → pkT off c n = ueT 9 k
  | 0, _, h => absurd h (Nat.not_lt_zero k)
  | n + 1, hn, h => by
    show pkT off c n ++ (if (sT 9).getD (off + n) 0 = c then ueT 9 n else []) = ueT 9 k
    by_cases q : n = k
    · subst q
      rw [if_pos hk, pkT_no n (fun i hi z => by have := hu i (by omega) z; omega)]
      rfl
    · rw [if_neg (fun z => q (hu n (by omega) z)), pkT_one hk hu n (by omega) (by omega), List.append_nil]
/-- every pattern stands once in each half of the table -/
theorem pat_all : ∀ o : Nat, o < 2 → ∀ c : Nat, c < 48 → ∃ k : Nat, k < 48 ∧ (sT 9).getD (48 * o + k) 0 = Int32.ofNat c ∧ ∀ i : Nat, i < 48 → (sT 9).getD (48 * o + i) 0 = Int32.ofNat c → i = k := by decide +kernel
