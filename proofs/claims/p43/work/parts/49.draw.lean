/-! the drawing of numbers -/
theorem usr8 (x : Int32) : 0 ≤ ((x.toUInt32 >>> (((8 : Int32)).toUInt32 &&& Int32.toUInt32 31)).toInt32).toInt ∧ ((x.toUInt32 >>> (((8 : Int32)).toUInt32 &&& Int32.toUInt32 31)).toInt32).toInt ≤ 16777215 := by
  have h : (((8 : Int32)).toUInt32 &&& Int32.toUInt32 31) = 8 := by decide
  rw [h]
  have h1 : ((x.toUInt32 >>> 8).toInt32).toBitVec.toNat = x.toUInt32.toNat / 256 := by
    show (x.toUInt32 >>> 8).toNat = _
    rw [UInt32.toNat_shiftRight]
    rw [Nat.shiftRight_eq_div_pow]
    rfl
  have h2 := pz_cond ((x.toUInt32 >>> 8).toInt32)
  have h3 : x.toUInt32.toNat < 4294967296 := x.toUInt32.toNat_lt
  rw [h1, if_pos (by omega)] at h2
  omega
theorem s_draw {G : GG} {M : DD} {p : Nat} {w : Int} {L : List Nat} (t : TT G M p w L) {p0 : Int32} {a0 : Int} (i0 : TI p0 a0) : OK (FX0_draw G M 116 p0) (fun y => TT G y.1 p w L ∧ Fr p [12] M y.1 ∧ ((1 ≤ a0 → 0 ≤ y.2.toInt ∧ y.2.toInt < a0) ∧ (a0 < 1 → y.2.toInt = 0))) := by
  unfold FX0_draw
  refine ok_ltA (fun x1 => ?_)
  refine ok_ltA (fun x2 => ?_)
  refine ok_ltA (fun x3 => ?_)
  refine ok_ltt (fun M4 e4 => ?_)
  have t4 : TT G M4 p w L := by rw [e4]; exact tt_w0 t rfl
  have f4 : Fr p [12] M M4 := by rw [e4]; exact fr_w (fr_0 p [12] M) rfl
  clear e4
  refine ok_bnd (Q := fun z => ((1 ≤ a0 → 0 ≤ z.toInt ∧ z.toInt < a0) ∧ (a0 < 1 → z.toInt = 0))) ?_ ?_
  · refine ok_if (fun c => ?_) (fun c => ?_)
    · have d := tl_le tn_1 i0 c
      refine ok_ltA (fun x7 => ?_)
      refine ok_ltB (usr8 x7) (fun x8 l8 => ?_)
      refine ok_chk (nz i0 (by omega)) ?_
      refine ok_ltI (av_mod (rfl : TI x8 x8.toInt) i0 (by omega) (by omega)) (fun x9 i9 => ?_)
      refine ok_some ?_
      have q : x9.toInt = _ := i9
      have h1 := Int.emod_nonneg x8.toInt (show a0 ≠ 0 by omega)
      have h2 := Int.emod_lt_of_pos x8.toInt (show 0 < a0 by omega)
      omega
    · have d := tl_nle tn_1 i0 c
      refine ok_some ⟨fun h => by omega, fun _ => rfl⟩
  · intro y hy
    exact ok_some ⟨t4, f4, hy⟩
theorem s_scaleBy {G : GG} {M : DD} {p : Nat} {w : Int} {L : List Nat} (t : TT G M p w L) {p0 p1 : Int32} {a0 a1 : Int} (i0 : TI p0 a0) (i1 : TI p1 a1) (h : a0 = 2 ∧ a1 = 4) : OK (FX9_scaleBy G M p0 p1) (fun y => TT G y.1 p w L ∧ Fr p [] M y.1 ∧ (128 ≤ y.2.toInt ∧ y.2.toInt ≤ 128)) := by
  obtain ⟨rfl, rfl⟩ := h
  have e0 : p0 = 2 := ti_inj tn_2 i0
  have e1 : p1 = 4 := ti_inj tn_4 i1
  subst e0 e1
  unfold FX9_scaleBy
  refine ok_bnd (Q := fun z => z = (4096, M)) ?_ ?_
  · refine ok_if (fun c => absurd c (by decide)) (fun _ => ?_)
    refine ok_lt (ok_lt (ok_lt (ok_chk (by decide) (ok_lt (ok_some ?_)))))
    have h : ((16384 : Int32) + (if (0 : Int32) ≤ (4 : Int32) / (2 : Int32) then (4 : Int32) / (2 : Int32) else 0 - (4 : Int32) / (2 : Int32))) / (4 : Int32) = 4096 := by decide
    exact congrArg (fun z => (z, M)) h
  · intro z hz
    subst hz
    refine ok_lt (ok_lt (ok_lt ?_))
    have h : (((2 : Int32) * 4096) + (32 : Int32)) >>> ((6 : Int32) &&& 31) = 128 := by decide
    refine ok_bnd (Q := fun z => z = (128 : Int32)) ?_ (fun z hz => ok_some ⟨t, fr_0 p [] M, ?_⟩)
    · refine ok_if (fun _ => ok_bnd (Q := fun z => z = (128 : Int32)) (ok_if (fun _ => ok_some h) (fun c => absurd (show (((2 : Int32) * 4096) + (32 : Int32)) >>> ((6 : Int32) &&& 31) ≤ (1023 : Int32) by decide) c)) (fun z hz => ok_some hz)) (fun c => absurd (show (-1024 : Int32) ≤ (((2 : Int32) * 4096) + (32 : Int32)) >>> ((6 : Int32) &&& 31) by decide) c)
    · rw [hz]
      exact ⟨(by show (128 : Int) ≤ (128 : Int32).toInt; decide), (by show (128 : Int32).toInt ≤ 128; decide)⟩
