set_option maxHeartbeats 4000000 in
theorem collect_ok {G : GG} {M : DD} {a row sz bf n fr : Nat} {c : Nat → Int} {p1 p2 : Int32} (ha : M.2 a 14 = some sz ∧ sz < G.1 ∧ G.2.1 sz = 13 ∧ G.2.2 sz = 16) (hb : M.2 a 15 = some bf ∧ bf < G.1 ∧ G.2.1 bf = 13 ∧ G.2.2 bf = 16) (hr : row < G.1 ∧ G.2.1 row = 13 ∧ fr + n ≤ G.2.2 row ∧ G.2.2 row ≤ 100000) (hk : G.2.1 a = 10) (hsb : sz ≠ bf) (hrs : row ≠ sz) (hrb : row ≠ bf) (hn : n ≤ 16) (hn1 : 1 ≤ n) (hp1 : p1.toInt = fr) (hp2 : p2.toInt = n) (hc : ∀ k, k < n → (M.1 row (fr + k)).toInt = c k) : OK (FX10_collect G M a (some row) p1 p2) (fun y => ∃ l : LV, Row c n 0 l ∧ y.2.toInt = l.length ∧ LH y.1 sz bf l ∧ (y.1.1 a 16).toInt = bsum l ∧ y.1.2 = M.2 ∧ (∀ x k, ¬ (x = a ∧ k = 16) → x ≠ sz → x ≠ bf → y.1.1 x k = M.1 x k)) := by
  have e0 : (0 : Int32).toInt = 0 := rfl
  have e1 : (1 : Int32).toInt = 1 := rfl
  obtain ⟨a1, a2, a3, a4⟩ := ha
  obtain ⟨b1, b2, b3, b4⟩ := hb
  obtain ⟨r1, r2, r3, r4⟩ := hr
  have hsa : sz ≠ a := fun e => by rw [e] at a3; omega
  have hba : bf ≠ a := fun e => by rw [e] at b3; omega
  have hra : row ≠ a := fun e => by rw [e] at r2; omega
  unfold FX10_collect
  have hx3 : (p1 + p2 - (1 : Int32)).toInt = ((fr + n : Nat) : Int) - 1 := by
    rw [ti_sub (by rw [ti_add (by omega) (by omega)]; omega) (by rw [ti_add (by omega) (by omega)]; omega), ti_add (by omega) (by omega)]
    omega
  refine ok_lt (ok_lt (ok_lt ?_))
  generalize p1 + p2 - (1 : Int32) = x3 at hx3
  refine ok_bnd (ok_itr (fun s : Int32 × Int32 × DD => ∃ (i : Nat) (l : LV), i ≤ n ∧ s.2.1.toInt = ((fr + i : Nat) : Int) - 1 ∧ Row c n i l ∧ s.1.toInt = l.length ∧ LH s.2.2 sz bf l ∧ (s.2.2.1 a 16).toInt = bsum l ∧ s.2.2.2 = M.2 ∧ (∀ x k, ¬ (x = a ∧ k = 16) → x ≠ sz → x ≠ bf → s.2.2.1 x k = M.1 x k)) (fun s => (s.2.1.toInt + 1 - fr).toNat) (P := fun y : Int32 × Int32 × DD => ∃ l : LV, Row c n 0 l ∧ y.1.toInt = l.length ∧ LH y.2.2 sz bf l ∧ (y.2.2.1 a 16).toInt = bsum l ∧ y.2.2.2 = M.2 ∧ (∀ x k, ¬ (x = a ∧ k = 16) → x ≠ sz → x ≠ bf → y.2.2.1 x k = M.1 x k)) ?_ 1000000 _ ?_ ?_) (fun y4 h4 => ok_some h4)
  · intro s hs
    obtain ⟨tt, ii, N⟩ := s
    obtain ⟨i, l, i1, i2, i3, i4, i5, i6, i7, i8⟩ := hs
    dsimp only at i2 i4 i5 i6 i7 i8 ⊢
    refine ok_if (fun cc => ok_some ?_) (fun cc => ?_)
    · have := pz_lt.mp cc
      have ei : i = 0 := by omega
      subst ei
      exact ⟨l, i3, i4, i5, i6, i7, i8⟩
    · have c3 : ¬ ii.toInt < p1.toInt := fun q => cc (pz_lt.mpr q)
      have hi0 : 0 < i := by omega
      have hni : ii.toNatClampNeg = fr + (i - 1) := by
        have := pz_nat (x := ii) (by omega)
        omega
      have hix : ¬ (ii < 0 ∨ G.2.2 row ≤ ii.toNatClampNeg) := pz_ix (by omega) (by omega)
      obtain ⟨w1, w2, w3⟩ := i3
      have hlen : l.length ≤ n - i := by
        have := wd_eq l
        omega
      have hrd : (N.1 row ii.toNatClampNeg).toInt = c (i - 1) := by
        rw [hni, i8 row _ (fun q => hra q.1) hrs hrb]
        exact hc (i - 1) (by omega)
      refine ok_dr (b := row) rfl r1 r2 (ok_chk hix (ok_lt (ok_bnd (Q := fun y : Int32 × DD => ∃ l' : LV, Row c n (i - 1) l' ∧ y.1.toInt = l'.length ∧ LH y.2 sz bf l' ∧ (y.2.1 a 16).toInt = bsum l' ∧ y.2.2 = M.2 ∧ (∀ x k, ¬ (x = a ∧ k = 16) → x ≠ sz → x ≠ bf → y.2.1 x k = M.1 x k)) ?_ (fun y11 h11 => ok_ltt (fun ii' hii' => ok_some ?_)))))
      · refine ok_if (fun c4 => ?_) (fun c4 => ?_)
        · have hz : c (i - 1) = 0 := by
            have := pz_eq.mp c4
            omega
          refine ok_bnd (Q := fun y : DD => ∃ l' : LV, Row c n (i - 1) l' ∧ tt.toInt = l'.length ∧ LH y sz bf l' ∧ (y.1 a 16).toInt = bsum l' ∧ y.2 = M.2 ∧ (∀ x k, ¬ (x = a ∧ k = 16) → x ≠ sz → x ≠ bf → y.1 x k = M.1 x k)) ?_ (fun y14 h14 => ok_some h14)
          refine ok_if (fun c5 => ok_some ?_) (fun c5 => ok_lt ?_)
          · have := pz_le.mp c5
            have hl0 : l = [] := List.eq_nil_of_length_eq_zero (by omega)
            subst hl0
            refine ⟨[], ⟨Nat.zero_le _, fun k hk2 => ?_, fun q hq => by cases hq⟩, i4, i5, i6, i7, i8⟩
            by_cases hk0 : k = 0
            · rw [hk0]; exact hz
            · have := w2 (k - 1) (by omega)
              rw [show i + (k - 1) = i - 1 + k by omega] at this
              exact this
          · have c6 : ¬ tt.toInt ≤ (0 : Int32).toInt := fun q => c5 (pz_le.mpr q)
            -- the last one gets a zero more
            obtain ⟨l0, q, hlq⟩ : ∃ l0 q, l = l0 ++ [q] := by
              have hne : l ≠ [] := fun e => by rw [e] at i4; simp at i4; omega
              exact ⟨l.dropLast, l.getLast hne, (List.dropLast_concat_getLast hne).symm⟩
            subst hlq
            rw [List.length_append] at i4 hlen
            have hl1 : [q].length = 1 := rfl
            have hx16 : (tt - (1 : Int32)).toInt = l0.length := by
              rw [ti_sub (by omega) (by omega)]
              omega
            have hn16 : (tt - (1 : Int32)).toNatClampNeg = l0.length := by
              have := pz_nat (x := tt - (1 : Int32)) (by omega)
              omega
            have hix2 : ¬ (tt - (1 : Int32) < 0 ∨ G.2.2 bf ≤ (tt - (1 : Int32)).toNatClampNeg) := pz_ix (by omega) (by omega)
            obtain ⟨h5a, h5b⟩ := i5 l0.length q (by simp)
            rw [wd_app] at w1
            rw [bsum_app] at i6
            refine ok_dr (b := bf) (by rw [i7]; exact b1) b2 b3 (ok_chk hix2 (ok_lt (ok_lt (ok_chk hix2 (ok_lt (ok_lt (ok_lt (ok_lt (ok_some ?_)))))))))
            rw [hn16]
            have f16 : (uI N bf l0.length (N.1 bf l0.length + 1)).1 a 16 = N.1 a 16 := by
              rw [uI_n _ _ (fun z => hba z.1.symm)]
            rw [f16]
            refine ⟨l0 ++ [(q.1, q.2 + 1)], ⟨?_, fun k hk2 => ?_, fun p hp => ?_⟩, ?_, fun j p hj => ?_, ?_, i7, fun x k h1 h2 h3 => ?_⟩
            · rw [wd_app]
              dsimp only
              omega
            · rw [exl_app]
              dsimp only
              by_cases hk0 : k = 0
              · rw [hk0, if_pos (by omega), if_neg (by omega)]; exact hz
              · have := w2 (k - 1) (by omega)
                rw [show i + (k - 1) = i - 1 + k by omega, exl_app] at this
                rw [this]
                by_cases hkq : k < q.2 + 1 + 1
                · rw [if_pos (by omega), if_pos hkq]
                  by_cases hkk : k - 1 = q.2
                  · rw [if_pos hkk, if_pos (by omega)]
                  · rw [if_neg hkk, if_neg (by omega)]
                · rw [if_neg (by omega), if_neg hkq]
                  congr 1
                  omega
            · rcases List.mem_append.mp hp with h1 | h1
              · exact w3 p (List.mem_append.mpr (Or.inl h1))
              · have : p = (q.1, q.2 + 1) := by simpa using h1
                rw [this]
                exact w3 q (by simp)
            · rw [List.length_append]
              simp
              omega
            · by_cases hjl : j < l0.length
              · rw [List.getElem?_append_left hjl] at hj
                have := i5 j p (by rw [List.getElem?_append_left hjl]; exact hj)
                rw [uI_n _ _ (fun z => hsa z.1), uI_n _ _ (fun z => hsb z.1), uI_n _ _ (fun z => hba z.1), uI_n _ _ (fun z => by omega)]
                exact this
              · rw [List.getElem?_append_right (by omega)] at hj
                have hj0 : j - l0.length = 0 := by
                  have := (List.getElem?_eq_some_iff.mp hj).1
                  simp at this
                  omega
                rw [hj0] at hj
                have hp : p = (q.1, q.2 + 1) := by simpa using hj.symm
                have hje : j = l0.length := by omega
                rw [hje, hp]
                rw [uI_n _ _ (fun z => hsa z.1), uI_n _ _ (fun z => hsb z.1), uI_n _ _ (fun z => hba z.1), uI_s]
                have hq2 : q.2 ≤ 16 := by omega
                exact ⟨h5a, by rw [ti_add (by omega) (by omega), h5b, e1]; dsimp only; omega⟩
            · rw [uI_s, bsum_app]
              dsimp only
              have := wd_eq l0
              rw [ti_add (by omega) (by omega), i6, e1]
              omega
            · rw [uI_n _ _ h1, uI_n _ _ (fun z => h3 z.1)]
              exact i8 x k h1 h2 h3
        · have hz : c (i - 1) ≠ 0 := fun q => c4 (pz_eq.mpr (by omega))
          have hnt : tt.toNatClampNeg = l.length := by
            have := pz_nat (x := tt) (by omega)
            omega
          have hix3 : ¬ (tt < 0 ∨ G.2.2 sz ≤ tt.toNatClampNeg) := pz_ix (by omega) (by omega)
          have hix4 : ¬ (tt < 0 ∨ G.2.2 bf ≤ tt.toNatClampNeg) := pz_ix (by omega) (by omega)
          refine ok_chk hix (ok_lt (ok_dr (b := sz) (by rw [i7]; exact a1) a2 a3 (ok_chk hix3 (ok_lt (ok_dr (b := bf) (by show N.2 a 15 = _; rw [i7]; exact b1) b2 b3 (ok_chk hix4 (ok_lt (ok_lt (ok_some ?_)))))))))
          dsimp only
          rw [hnt]
          refine ⟨l ++ [(c (i - 1), 0)], ⟨?_, fun k hk2 => ?_, fun p hp => ?_⟩, ?_, fun j p hj => ?_, ?_, i7, fun x k h1 h2 h3 => ?_⟩
          · rw [wd_app]
            dsimp only
            omega
          · rw [exl_app]
            dsimp only
            by_cases hk0 : k = 0
            · rw [hk0, if_pos (by omega), if_pos rfl]; rfl
            · have := w2 (k - 1) (by omega)
              rw [show i + (k - 1) = i - 1 + k by omega] at this
              rw [if_neg (by omega), this]
          · rcases List.mem_append.mp hp with h1 | h1
            · exact w3 p h1
            · have : p = (c (i - 1), 0) := by simpa using h1
              rw [this]
              exact hz
          · rw [List.length_append, ti_add (by omega) (by omega)]
            simp
            omega
          · by_cases hjl : j < l.length
            · rw [List.getElem?_append_left hjl] at hj
              have := i5 j p hj
              rw [uI_n _ _ (fun z => hsb z.1), uI_n _ _ (fun z => by omega), uI_n _ _ (fun z => by omega), uI_n _ _ (fun z => hsb z.1.symm)]
              exact this
            · rw [List.getElem?_append_right (by omega)] at hj
              have hj0 : j - l.length = 0 := by
                have := (List.getElem?_eq_some_iff.mp hj).1
                simp at this
                omega
              rw [hj0] at hj
              have hp : p = (c (i - 1), 0) := by simpa using hj.symm
              have hje : j = l.length := by omega
              rw [hje, hp]
              rw [uI_n _ _ (fun z => hsb z.1), uI_s, uI_s]
              exact ⟨hrd, rfl⟩
          · rw [uI_n _ _ (fun z => hba z.1.symm), uI_n _ _ (fun z => hsa z.1.symm), i6, bsum_app]
            rfl
          · rw [uI_n _ _ (fun z => h3 z.1), uI_n _ _ (fun z => h2 z.1)]
            exact i8 x k h1 h2 h3
      · obtain ⟨y1, N2⟩ := y11
        obtain ⟨l', q1, q2, q3, q4, q5, q6⟩ := h11
        dsimp only at q2 q3 q4 q5 q6 ⊢
        have hnx : ii'.toInt = ((fr + (i - 1) : Nat) : Int) - 1 := by
          have em1 : (-1 : Int32).toInt = -1 := rfl
          rw [hii', ti_add (by omega) (by omega), em1]
          omega
        clear hii'
        exact ⟨⟨i - 1, l', by omega, hnx, q1, q2, q3, q4, q5, q6⟩, by omega⟩
  · refine ⟨n, [], Nat.le_refl _, hx3, ⟨by simp [wd], fun k hk2 => by omega, fun q hq => by cases hq⟩, rfl, fun j q hj => by simp at hj, ?_, rfl, fun x k h1 _ _ => uI_n _ _ h1⟩
    rw [uI_s]
    rfl
  · dsimp only
    omega
