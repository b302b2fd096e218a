theorem dX11_count_0 : decode cX11_count 0 = .ok (.iload_n 1, 1) := by decide +kernel
theorem dX11_count_1 : decode cX11_count 1 = .ok (.tableswitch 212 0 14 #[75, 80, 88, 96, 107, 115, 126, 142, 150, 161, 172, 180, 188, 196, 204], 75) := by decide +kernel
theorem dX11_count_76 : decode cX11_count 76 = .ok (.aload_n 0, 1) := by decide +kernel
theorem dX11_count_77 : decode cX11_count 77 = .ok (.getfield 35, 3) := by decide +kernel
theorem dX11_count_80 : decode cX11_count 80 = .ok (.ireturn, 1) := by decide +kernel
theorem dX11_count_81 : decode cX11_count 81 = .ok (.aload_n 0, 1) := by decide +kernel
theorem dX11_count_82 : decode cX11_count 82 = .ok (.getfield 17, 3) := by decide +kernel
theorem dX11_count_85 : decode cX11_count 85 = .ok (.getfield 82, 3) := by decide +kernel
theorem dX11_count_88 : decode cX11_count 88 = .ok (.ireturn, 1) := by decide +kernel
theorem dX11_count_89 : decode cX11_count 89 = .ok (.aload_n 0, 1) := by decide +kernel
theorem dX11_count_90 : decode cX11_count 90 = .ok (.getfield 17, 3) := by decide +kernel
theorem dX11_count_93 : decode cX11_count 93 = .ok (.getfield 114, 3) := by decide +kernel
theorem dX11_count_96 : decode cX11_count 96 = .ok (.ireturn, 1) := by decide +kernel
theorem dX11_count_97 : decode cX11_count 97 = .ok (.aload_n 0, 1) := by decide +kernel
theorem dX11_count_98 : decode cX11_count 98 = .ok (.getfield 24, 3) := by decide +kernel
theorem dX11_count_101 : decode cX11_count 101 = .ok (.getfield 146, 3) := by decide +kernel
theorem dX11_count_104 : decode cX11_count 104 = .ok (.getfield 155, 3) := by decide +kernel
theorem dX11_count_107 : decode cX11_count 107 = .ok (.ireturn, 1) := by decide +kernel
theorem dX11_count_108 : decode cX11_count 108 = .ok (.aload_n 0, 1) := by decide +kernel
theorem dX11_count_109 : decode cX11_count 109 = .ok (.getfield 24, 3) := by decide +kernel
theorem dX11_count_112 : decode cX11_count 112 = .ok (.getfield 285, 3) := by decide +kernel
theorem dX11_count_115 : decode cX11_count 115 = .ok (.ireturn, 1) := by decide +kernel
theorem dX11_count_116 : decode cX11_count 116 = .ok (.aload_n 0, 1) := by decide +kernel
theorem dX11_count_117 : decode cX11_count 117 = .ok (.getfield 24, 3) := by decide +kernel
theorem dX11_count_120 : decode cX11_count 120 = .ok (.getfield 146, 3) := by decide +kernel
theorem dX11_count_123 : decode cX11_count 123 = .ok (.getfield 264, 3) := by decide +kernel
theorem dX11_count_126 : decode cX11_count 126 = .ok (.ireturn, 1) := by decide +kernel
theorem dX11_count_127 : decode cX11_count 127 = .ok (.aload_n 0, 1) := by decide +kernel
theorem dX11_count_128 : decode cX11_count 128 = .ok (.getfield 24, 3) := by decide +kernel
theorem dX11_count_131 : decode cX11_count 131 = .ok (.getfield 453, 3) := by decide +kernel
theorem dX11_count_134 : decode cX11_count 134 = .ok (.ifCond .eq 7, 3) := by decide +kernel
theorem dX11_count_137 : decode cX11_count 137 = .ok (.iconst 1, 1) := by decide +kernel
theorem dX11_count_138 : decode cX11_count 138 = .ok (.goto 4, 3) := by decide +kernel
theorem dX11_count_141 : decode cX11_count 141 = .ok (.iconst 0, 1) := by decide +kernel
theorem dX11_count_142 : decode cX11_count 142 = .ok (.ireturn, 1) := by decide +kernel
theorem dX11_count_143 : decode cX11_count 143 = .ok (.aload_n 0, 1) := by decide +kernel
theorem dX11_count_144 : decode cX11_count 144 = .ok (.getfield 24, 3) := by decide +kernel
theorem dX11_count_147 : decode cX11_count 147 = .ok (.getfield 194, 3) := by decide +kernel
theorem dX11_count_150 : decode cX11_count 150 = .ok (.ireturn, 1) := by decide +kernel
theorem dX11_count_151 : decode cX11_count 151 = .ok (.aload_n 0, 1) := by decide +kernel
theorem dX11_count_152 : decode cX11_count 152 = .ok (.getfield 24, 3) := by decide +kernel
theorem dX11_count_155 : decode cX11_count 155 = .ok (.getfield 293, 3) := by decide +kernel
theorem dX11_count_158 : decode cX11_count 158 = .ok (.getfield 297, 3) := by decide +kernel
theorem dX11_count_161 : decode cX11_count 161 = .ok (.ireturn, 1) := by decide +kernel
theorem dX11_count_162 : decode cX11_count 162 = .ok (.aload_n 0, 1) := by decide +kernel
theorem dX11_count_163 : decode cX11_count 163 = .ok (.getfield 31, 3) := by decide +kernel
theorem dX11_count_166 : decode cX11_count 166 = .ok (.getfield 373, 3) := by decide +kernel
theorem dX11_count_169 : decode cX11_count 169 = .ok (.getfield 377, 3) := by decide +kernel
theorem dX11_count_172 : decode cX11_count 172 = .ok (.ireturn, 1) := by decide +kernel
theorem dX11_count_173 : decode cX11_count 173 = .ok (.aload_n 0, 1) := by decide +kernel
theorem dX11_count_174 : decode cX11_count 174 = .ok (.getfield 31, 3) := by decide +kernel
theorem dX11_count_177 : decode cX11_count 177 = .ok (.getfield 370, 3) := by decide +kernel
theorem dX11_count_180 : decode cX11_count 180 = .ok (.ireturn, 1) := by decide +kernel
theorem dX11_count_181 : decode cX11_count 181 = .ok (.aload_n 0, 1) := by decide +kernel
theorem dX11_count_182 : decode cX11_count 182 = .ok (.getfield 31, 3) := by decide +kernel
theorem dX11_count_185 : decode cX11_count 185 = .ok (.getfield 361, 3) := by decide +kernel
theorem dX11_count_188 : decode cX11_count 188 = .ok (.ireturn, 1) := by decide +kernel
theorem dX11_count_189 : decode cX11_count 189 = .ok (.aload_n 0, 1) := by decide +kernel
theorem dX11_count_190 : decode cX11_count 190 = .ok (.getfield 17, 3) := by decide +kernel
theorem dX11_count_193 : decode cX11_count 193 = .ok (.getfield 406, 3) := by decide +kernel
theorem dX11_count_196 : decode cX11_count 196 = .ok (.ireturn, 1) := by decide +kernel
theorem dX11_count_197 : decode cX11_count 197 = .ok (.aload_n 0, 1) := by decide +kernel
theorem dX11_count_198 : decode cX11_count 198 = .ok (.getfield 31, 3) := by decide +kernel
theorem dX11_count_201 : decode cX11_count 201 = .ok (.getfield 457, 3) := by decide +kernel
theorem dX11_count_204 : decode cX11_count 204 = .ok (.ireturn, 1) := by decide +kernel
theorem dX11_count_205 : decode cX11_count 205 = .ok (.aload_n 0, 1) := by decide +kernel
theorem dX11_count_206 : decode cX11_count 206 = .ok (.getfield 24, 3) := by decide +kernel
theorem dX11_count_209 : decode cX11_count 209 = .ok (.getfield 460, 3) := by decide +kernel
theorem dX11_count_212 : decode cX11_count 212 = .ok (.ireturn, 1) := by decide +kernel
theorem dX11_count_213 : decode cX11_count 213 = .ok (.iconst (-1), 1) := by decide +kernel
theorem dX11_count_214 : decode cX11_count 214 = .ok (.ireturn, 1) := by decide +kernel
def FX11_count (G : GG) (M : DD) (a : Nat) (p0 : Int32) : Option (DD × Int32) :=
  if p0 = (0 : Int32) then (ltt (M.1 a 1) fun x2 =>
  some (M, x2)) else
  (if p0 = (1 : Int32) then (dr G 8 ((M.2 a 2)) fun b4 =>
  ltt (M.1 b4 3) fun x5 =>
  some (M, x5)) else
  (if p0 = (2 : Int32) then (dr G 8 ((M.2 a 2)) fun b7 =>
  ltt (M.1 b7 4) fun x8 =>
  some (M, x8)) else
  (if p0 = (3 : Int32) then (dr G 1 ((M.2 a 3)) fun b10 =>
  dr G 7 ((M.2 b10 1)) fun b11 =>
  ltt (M.1 b11 14) fun x12 =>
  some (M, x12)) else
  (if p0 = (4 : Int32) then (dr G 1 ((M.2 a 3)) fun b14 =>
  ltt (M.1 b14 14) fun x15 =>
  some (M, x15)) else
  (if p0 = (5 : Int32) then (dr G 1 ((M.2 a 3)) fun b17 =>
  dr G 7 ((M.2 b17 1)) fun b18 =>
  ltt (M.1 b18 3) fun x19 =>
  some (M, x19)) else
  (if p0 = (6 : Int32) then (dr G 1 ((M.2 a 3)) fun b21 =>
  ltt (M.1 b21 16) fun x22 =>
  bnd (if x22 = ((0 : Int32)) then (some ((0 : Int32))) else
  (some ((1 : Int32)))) fun (y23 : Int32) =>
  some (M, y23)) else
  (if p0 = (7 : Int32) then (dr G 1 ((M.2 a 3)) fun b26 =>
  ltt (M.1 b26 15) fun x27 =>
  some (M, x27)) else
  (if p0 = (8 : Int32) then (dr G 1 ((M.2 a 3)) fun b29 =>
  dr G 5 ((M.2 b29 0)) fun b30 =>
  ltt (M.1 b30 12) fun x31 =>
  some (M, x31)) else
  (if p0 = (9 : Int32) then (dr G 0 ((M.2 a 4)) fun b33 =>
  dr G 10 ((M.2 b33 2)) fun b34 =>
  ltt (M.1 b34 1) fun x35 =>
  some (M, x35)) else
  (if p0 = (10 : Int32) then (dr G 0 ((M.2 a 4)) fun b37 =>
  ltt (M.1 b37 16) fun x38 =>
  some (M, x38)) else
  (if p0 = (11 : Int32) then (dr G 0 ((M.2 a 4)) fun b40 =>
  ltt (M.1 b40 10) fun x41 =>
  some (M, x41)) else
  (if p0 = (12 : Int32) then (dr G 8 ((M.2 a 2)) fun b43 =>
  ltt (M.1 b43 11) fun x44 =>
  some (M, x44)) else
  (if p0 = (13 : Int32) then (dr G 0 ((M.2 a 4)) fun b46 =>
  ltt (M.1 b46 14) fun x47 =>
  some (M, x47)) else
  (if p0 = (14 : Int32) then (dr G 1 ((M.2 a 3)) fun b49 =>
  ltt (M.1 b49 18) fun x50 =>
  some (M, x50)) else
  (chk (p0.toInt < 0 ∨ 14 < p0.toInt) <|
  some (M, (-1 : Int32)))))))))))))))))
set_option maxHeartbeats 4000000 in
set_option maxRecDepth 100000 in
theorem kX11_count (l : Launch) (D : va_G) (ct : CT) (ad : Nat → Nat) (Z : Nat → Nat) (G : GG) (M : DD) (sz : Nat) (a : Nat) (p0 : Int32) (y : DD × Int32) (hc : a < G.1) (hk : G.2.1 a = 11) (hF : FX11_count G M a p0 = some y) : Met l yX11_count wsX11_count ({ frames := 0, cells := 0, slots := 0, locals := 0 }) (va_Pc [.ref (ad a), .int p0] (kB D ct ad Z G M sz)) (va_Qi (fun (q : Int32) (_ : Unit) => q = y.2) (fun _ t => kE D ct ad G (wA ad G sz) y.1 t) (wA ad G sz)) 0 0 (wA ad G sz) := by
  refine Met.ofW (cc := cX11_count) (maxL := 2) (ret := (some .int)) (by decide) rfl ?_
  intro p e s m args below meth c s₁ B hml hv
  obtain ⟨rfl, hsz, hP, hK, hD0, hZ, hN⟩ := hv
  have hx := B.exec
  have hb := B.bytes
  have hr := B.returns
  have hts := atoms_spec (ws := wsX11_count) B.pre
  have hown : s.vm.findClass RX11 = some m.cls := findClass_of_methodNamed B.named
  have hlocks := B.notSynchronized
  subst hsz
  have hD := wD_self (sz := s.heap.size) hD0
  have hA9 : ∀ q, s.heap.size ≤ q → wA ad G s.heap.size q := fun q h => Or.inr h
  generalize hAe : wA ad G s.heap.size = A at hD hA9 hZ ⊢
  have hS : va_S A s.heap s.heap [] := va_S.rf
  have hl := lv_entry ([.ref (ad a), .int p0]) (n := 2) (Nat.le_of_ble_eq_true rfl)
  rw [lg_entry_eq]
  generalize (lg_sl ([.ref (ad a), .int p0]) ++ List.replicate (2 - (lg_sl ([.ref (ad a), .int p0])).length) Slot.unset).toArray = ls at hl ⊢
  have hl : lv_has ls 2 [(0, .ref (ad a)), (1, .int p0)] := hl
  unfold FX11_count at hF
  refine lv_iload_n hx hb dX11_count_0 rfl (lv_at hl 1 rfl) ?_
  by_cases c1 : p0 = (0 : Int32)
  · rw [if_pos c1] at hF
    refine lv_tableIn (tgt := 76) hx hb dX11_count_1 (by rw [c1]; decide) (by rw [c1]; decide) (by rw [c1]; rfl) (by decide) ?_
    refine lv_aload_n hx hb dX11_count_76 rfl (lv_at hl 0 rfl) ?_
    refine va_get (D := D) (ci := 11) (v := .int (M.1 a 1)) (C := RX11) (T := TX11) (N := 5) hx hb hts (by decide +kernel) hown hK hP a (wld_o ct ad G M hc hk (by decide)) rfl 1 (by decide) (hts (.fieldLink RX11 35 "VideoSuite" "tapeLength" "I") (by decide +kernel)) (fun _ h9 => h9) rfl dX11_count_77 ?_
    obtain ⟨x2, ex2, hF⟩ := ltt_some hF
    refine lv_topi (fun zx2 ezx2 => ?_)
    obtain rfl : x2 = zx2 := ex2.trans ezx2.symm
    obtain rfl := Option.some.inj hF
    exact W.iret (v := x2) hx hb hr (fun t ht hW => ⟨⟨_, (), rfl, rfl, ⟨by rw [ht]; exact hP, va_K.moved hW.alike hK, hD⟩⟩, hS.F ht⟩) hS.2.2 dX11_count_80
  · rw [if_neg c1] at hF
    by_cases c3 : p0 = (1 : Int32)
    · rw [if_pos c3] at hF
      refine lv_tableIn (tgt := 81) hx hb dX11_count_1 (by rw [c3]; decide) (by rw [c3]; decide) (by rw [c3]; rfl) (by decide) ?_
      refine lv_aload_n hx hb dX11_count_81 rfl (lv_at hl 0 rfl) ?_
      refine va_get (D := D) (ci := 11) (v := va_re ad (M.2 a 2)) (C := RX11) (T := TX11) (N := 5) hx hb hts (by decide +kernel) hown hK hP a (wld_o ct ad G M hc hk (by decide)) rfl 2 (by decide) (hts (.fieldLink RX11 17 "VideoSuite" "units" "LVideoSuite$Units;") (by decide +kernel)) (fun _ h9 => h9) rfl dX11_count_82 ?_
      obtain ⟨b4, ho4, hc4, hk4, hF⟩ := dr_some hF
      refine W_st (st' := [.ref (ad b4)]) (by rw [va_some ho4]) ?_
      refine va_get (D := D) (ci := 8) (v := .int (M.1 b4 3)) (C := RX8) (T := TX8) (N := 15) hx hb hts (by decide +kernel) hown hK hP b4 (wld_o ct ad G M hc4 hk4 (by decide)) rfl 3 (by decide) (hts (.fieldLink RX11 82 "VideoSuite$Units" "count" "I") (by decide +kernel)) (fun _ h9 => h9) rfl dX11_count_85 ?_
      obtain ⟨x5, ex5, hF⟩ := ltt_some hF
      refine lv_topi (fun zx5 ezx5 => ?_)
      obtain rfl : x5 = zx5 := ex5.trans ezx5.symm
      obtain rfl := Option.some.inj hF
      exact W.iret (v := x5) hx hb hr (fun t ht hW => ⟨⟨_, (), rfl, rfl, ⟨by rw [ht]; exact hP, va_K.moved hW.alike hK, hD⟩⟩, hS.F ht⟩) hS.2.2 dX11_count_88
    · rw [if_neg c3] at hF
      by_cases c6 : p0 = (2 : Int32)
      · rw [if_pos c6] at hF
        refine lv_tableIn (tgt := 89) hx hb dX11_count_1 (by rw [c6]; decide) (by rw [c6]; decide) (by rw [c6]; rfl) (by decide) ?_
        refine lv_aload_n hx hb dX11_count_89 rfl (lv_at hl 0 rfl) ?_
        refine va_get (D := D) (ci := 11) (v := va_re ad (M.2 a 2)) (C := RX11) (T := TX11) (N := 5) hx hb hts (by decide +kernel) hown hK hP a (wld_o ct ad G M hc hk (by decide)) rfl 2 (by decide) (hts (.fieldLink RX11 17 "VideoSuite" "units" "LVideoSuite$Units;") (by decide +kernel)) (fun _ h9 => h9) rfl dX11_count_90 ?_
        obtain ⟨b7, ho7, hc7, hk7, hF⟩ := dr_some hF
        refine W_st (st' := [.ref (ad b7)]) (by rw [va_some ho7]) ?_
        refine va_get (D := D) (ci := 8) (v := .int (M.1 b7 4)) (C := RX8) (T := TX8) (N := 15) hx hb hts (by decide +kernel) hown hK hP b7 (wld_o ct ad G M hc7 hk7 (by decide)) rfl 4 (by decide) (hts (.fieldLink RX11 114 "VideoSuite$Units" "decoded" "I") (by decide +kernel)) (fun _ h9 => h9) rfl dX11_count_93 ?_
        obtain ⟨x8, ex8, hF⟩ := ltt_some hF
        refine lv_topi (fun zx8 ezx8 => ?_)
        obtain rfl : x8 = zx8 := ex8.trans ezx8.symm
        obtain rfl := Option.some.inj hF
        exact W.iret (v := x8) hx hb hr (fun t ht hW => ⟨⟨_, (), rfl, rfl, ⟨by rw [ht]; exact hP, va_K.moved hW.alike hK, hD⟩⟩, hS.F ht⟩) hS.2.2 dX11_count_96
      · rw [if_neg c6] at hF
        by_cases c9 : p0 = (3 : Int32)
        · rw [if_pos c9] at hF
          refine lv_tableIn (tgt := 97) hx hb dX11_count_1 (by rw [c9]; decide) (by rw [c9]; decide) (by rw [c9]; rfl) (by decide) ?_
          refine lv_aload_n hx hb dX11_count_97 rfl (lv_at hl 0 rfl) ?_
          refine va_get (D := D) (ci := 11) (v := va_re ad (M.2 a 3)) (C := RX11) (T := TX11) (N := 5) hx hb hts (by decide +kernel) hown hK hP a (wld_o ct ad G M hc hk (by decide)) rfl 3 (by decide) (hts (.fieldLink RX11 24 "VideoSuite" "decoder" "LVideoSuite$Decoder;") (by decide +kernel)) (fun _ h9 => h9) rfl dX11_count_98 ?_
          obtain ⟨b10, ho10, hc10, hk10, hF⟩ := dr_some hF
          refine W_st (st' := [.ref (ad b10)]) (by rw [va_some ho10]) ?_
          refine va_get (D := D) (ci := 1) (v := va_re ad (M.2 b10 1)) (C := RX1) (T := TX1) (N := 22) hx hb hts (by decide +kernel) hown hK hP b10 (wld_o ct ad G M hc10 hk10 (by decide)) rfl 1 (by decide) (hts (.fieldLink RX11 146 "VideoSuite$Decoder" "store" "LVideoSuite$Store;") (by decide +kernel)) (fun _ h9 => h9) rfl dX11_count_101 ?_
          obtain ⟨b11, ho11, hc11, hk11, hF⟩ := dr_some hF
          refine W_st (st' := [.ref (ad b11)]) (by rw [va_some ho11]) ?_
          refine va_get (D := D) (ci := 7) (v := .int (M.1 b11 14)) (C := RX7) (T := TX7) (N := 17) hx hb hts (by decide +kernel) hown hK hP b11 (wld_o ct ad G M hc11 hk11 (by decide)) rfl 14 (by decide) (hts (.fieldLink RX11 155 "VideoSuite$Store" "outputs" "I") (by decide +kernel)) (fun _ h9 => h9) rfl dX11_count_104 ?_
          obtain ⟨x12, ex12, hF⟩ := ltt_some hF
          refine lv_topi (fun zx12 ezx12 => ?_)
          obtain rfl : x12 = zx12 := ex12.trans ezx12.symm
          obtain rfl := Option.some.inj hF
          exact W.iret (v := x12) hx hb hr (fun t ht hW => ⟨⟨_, (), rfl, rfl, ⟨by rw [ht]; exact hP, va_K.moved hW.alike hK, hD⟩⟩, hS.F ht⟩) hS.2.2 dX11_count_107
        · rw [if_neg c9] at hF
          by_cases c13 : p0 = (4 : Int32)
          · rw [if_pos c13] at hF
            refine lv_tableIn (tgt := 108) hx hb dX11_count_1 (by rw [c13]; decide) (by rw [c13]; decide) (by rw [c13]; rfl) (by decide) ?_
            refine lv_aload_n hx hb dX11_count_108 rfl (lv_at hl 0 rfl) ?_
            refine va_get (D := D) (ci := 11) (v := va_re ad (M.2 a 3)) (C := RX11) (T := TX11) (N := 5) hx hb hts (by decide +kernel) hown hK hP a (wld_o ct ad G M hc hk (by decide)) rfl 3 (by decide) (hts (.fieldLink RX11 24 "VideoSuite" "decoder" "LVideoSuite$Decoder;") (by decide +kernel)) (fun _ h9 => h9) rfl dX11_count_109 ?_
            obtain ⟨b14, ho14, hc14, hk14, hF⟩ := dr_some hF
            refine W_st (st' := [.ref (ad b14)]) (by rw [va_some ho14]) ?_
            refine va_get (D := D) (ci := 1) (v := .int (M.1 b14 14)) (C := RX1) (T := TX1) (N := 22) hx hb hts (by decide +kernel) hown hK hP b14 (wld_o ct ad G M hc14 hk14 (by decide)) rfl 14 (by decide) (hts (.fieldLink RX11 285 "VideoSuite$Decoder" "faultCount" "I") (by decide +kernel)) (fun _ h9 => h9) rfl dX11_count_112 ?_
            obtain ⟨x15, ex15, hF⟩ := ltt_some hF
            refine lv_topi (fun zx15 ezx15 => ?_)
            obtain rfl : x15 = zx15 := ex15.trans ezx15.symm
            obtain rfl := Option.some.inj hF
            exact W.iret (v := x15) hx hb hr (fun t ht hW => ⟨⟨_, (), rfl, rfl, ⟨by rw [ht]; exact hP, va_K.moved hW.alike hK, hD⟩⟩, hS.F ht⟩) hS.2.2 dX11_count_115
          · rw [if_neg c13] at hF
            by_cases c16 : p0 = (5 : Int32)
            · rw [if_pos c16] at hF
              refine lv_tableIn (tgt := 116) hx hb dX11_count_1 (by rw [c16]; decide) (by rw [c16]; decide) (by rw [c16]; rfl) (by decide) ?_
              refine lv_aload_n hx hb dX11_count_116 rfl (lv_at hl 0 rfl) ?_
              refine va_get (D := D) (ci := 11) (v := va_re ad (M.2 a 3)) (C := RX11) (T := TX11) (N := 5) hx hb hts (by decide +kernel) hown hK hP a (wld_o ct ad G M hc hk (by decide)) rfl 3 (by decide) (hts (.fieldLink RX11 24 "VideoSuite" "decoder" "LVideoSuite$Decoder;") (by decide +kernel)) (fun _ h9 => h9) rfl dX11_count_117 ?_
              obtain ⟨b17, ho17, hc17, hk17, hF⟩ := dr_some hF
              refine W_st (st' := [.ref (ad b17)]) (by rw [va_some ho17]) ?_
              refine va_get (D := D) (ci := 1) (v := va_re ad (M.2 b17 1)) (C := RX1) (T := TX1) (N := 22) hx hb hts (by decide +kernel) hown hK hP b17 (wld_o ct ad G M hc17 hk17 (by decide)) rfl 1 (by decide) (hts (.fieldLink RX11 146 "VideoSuite$Decoder" "store" "LVideoSuite$Store;") (by decide +kernel)) (fun _ h9 => h9) rfl dX11_count_120 ?_
              obtain ⟨b18, ho18, hc18, hk18, hF⟩ := dr_some hF
              refine W_st (st' := [.ref (ad b18)]) (by rw [va_some ho18]) ?_
              refine va_get (D := D) (ci := 7) (v := .int (M.1 b18 3)) (C := RX7) (T := TX7) (N := 17) hx hb hts (by decide +kernel) hown hK hP b18 (wld_o ct ad G M hc18 hk18 (by decide)) rfl 3 (by decide) (hts (.fieldLink RX11 264 "VideoSuite$Store" "count" "I") (by decide +kernel)) (fun _ h9 => h9) rfl dX11_count_123 ?_
              obtain ⟨x19, ex19, hF⟩ := ltt_some hF
              refine lv_topi (fun zx19 ezx19 => ?_)
              obtain rfl : x19 = zx19 := ex19.trans ezx19.symm
              obtain rfl := Option.some.inj hF
              exact W.iret (v := x19) hx hb hr (fun t ht hW => ⟨⟨_, (), rfl, rfl, ⟨by rw [ht]; exact hP, va_K.moved hW.alike hK, hD⟩⟩, hS.F ht⟩) hS.2.2 dX11_count_126
            · rw [if_neg c16] at hF
              by_cases c20 : p0 = (6 : Int32)
              · rw [if_pos c20] at hF
                refine lv_tableIn (tgt := 127) hx hb dX11_count_1 (by rw [c20]; decide) (by rw [c20]; decide) (by rw [c20]; rfl) (by decide) ?_
                refine lv_aload_n hx hb dX11_count_127 rfl (lv_at hl 0 rfl) ?_
                refine va_get (D := D) (ci := 11) (v := va_re ad (M.2 a 3)) (C := RX11) (T := TX11) (N := 5) hx hb hts (by decide +kernel) hown hK hP a (wld_o ct ad G M hc hk (by decide)) rfl 3 (by decide) (hts (.fieldLink RX11 24 "VideoSuite" "decoder" "LVideoSuite$Decoder;") (by decide +kernel)) (fun _ h9 => h9) rfl dX11_count_128 ?_
                obtain ⟨b21, ho21, hc21, hk21, hF⟩ := dr_some hF
                refine W_st (st' := [.ref (ad b21)]) (by rw [va_some ho21]) ?_
                refine va_get (D := D) (ci := 1) (v := .int (M.1 b21 16)) (C := RX1) (T := TX1) (N := 22) hx hb hts (by decide +kernel) hown hK hP b21 (wld_o ct ad G M hc21 hk21 (by decide)) rfl 16 (by decide) (hts (.fieldLink RX11 453 "VideoSuite$Decoder" "underWay" "Z") (by decide +kernel)) (fun _ h9 => h9) rfl dX11_count_131 ?_
                obtain ⟨x22, ex22, hF⟩ := ltt_some hF
                refine lv_topi (fun zx22 ezx22 => ?_)
                obtain rfl : x22 = zx22 := ex22.trans ezx22.symm
                obtain ⟨y23, hy23, hF⟩ := bnd_some hF
                have J23 : ∀ (H : Heap) (locs : List Loc) (ls : Array Slot), va_P D classes (wld ct ad G M) H → va_D A (wld ct ad G M) → va_S A s.heap H locs → lv_has ls 2 [(0, .ref (ad a)), (1, .int p0)] → W p l e (headSpec wsX11_count ({ frames := 0, cells := 0, slots := 0, locals := 0 })).room s m ([.ref (ad a), .int p0] : List Value).toArray below meth c H locs 0 0 (MQ below (va_Qi (fun (q : Int32) (_ : Unit) => q = y.2) (fun _ t => kE D ct ad G A y.1 t) A) ([.ref (ad a), .int p0] : List Value).toArray s 0 0 A) (F0 m 142 ls [.int y23]) := by
                  intro H locs ls hP hD hS hl
                  obtain rfl := Option.some.inj hF
                  exact W.iret (v := y23) hx hb hr (fun t ht hW => ⟨⟨_, (), rfl, rfl, ⟨by rw [ht]; exact hP, va_K.moved hW.alike hK, hD⟩⟩, hS.F ht⟩) hS.2.2 dX11_count_142
                clear hF
                have hF := hy23
                clear hy23
                refine lv_if_eq (tgt := 141) hx hb dX11_count_134 (by decide) (fun c24 => ?_) (fun c24 => ?_)
                · rw [if_pos c24] at hF
                  refine lv_iconst (v := (0 : Int32)) hx hb dX11_count_141 (by decide) ?_
                  obtain rfl := Option.some.inj hF
                  exact J23 _ _ _ hP hD hS (lv_sub hl [0, 1] rfl)
                · rw [if_neg c24] at hF
                  refine lv_iconst (v := (1 : Int32)) hx hb dX11_count_137 (by decide) ?_
                  refine lv_goto (tgt := 142) hx hb dX11_count_138 (by decide) ?_
                  obtain rfl := Option.some.inj hF
                  exact J23 _ _ _ hP hD hS (lv_sub hl [0, 1] rfl)
              · rw [if_neg c20] at hF
                by_cases c25 : p0 = (7 : Int32)
                · rw [if_pos c25] at hF
                  refine lv_tableIn (tgt := 143) hx hb dX11_count_1 (by rw [c25]; decide) (by rw [c25]; decide) (by rw [c25]; rfl) (by decide) ?_
                  refine lv_aload_n hx hb dX11_count_143 rfl (lv_at hl 0 rfl) ?_
                  refine va_get (D := D) (ci := 11) (v := va_re ad (M.2 a 3)) (C := RX11) (T := TX11) (N := 5) hx hb hts (by decide +kernel) hown hK hP a (wld_o ct ad G M hc hk (by decide)) rfl 3 (by decide) (hts (.fieldLink RX11 24 "VideoSuite" "decoder" "LVideoSuite$Decoder;") (by decide +kernel)) (fun _ h9 => h9) rfl dX11_count_144 ?_
                  obtain ⟨b26, ho26, hc26, hk26, hF⟩ := dr_some hF
                  refine W_st (st' := [.ref (ad b26)]) (by rw [va_some ho26]) ?_
                  refine va_get (D := D) (ci := 1) (v := .int (M.1 b26 15)) (C := RX1) (T := TX1) (N := 22) hx hb hts (by decide +kernel) hown hK hP b26 (wld_o ct ad G M hc26 hk26 (by decide)) rfl 15 (by decide) (hts (.fieldLink RX11 194 "VideoSuite$Decoder" "slices" "I") (by decide +kernel)) (fun _ h9 => h9) rfl dX11_count_147 ?_
                  obtain ⟨x27, ex27, hF⟩ := ltt_some hF
                  refine lv_topi (fun zx27 ezx27 => ?_)
                  obtain rfl : x27 = zx27 := ex27.trans ezx27.symm
                  obtain rfl := Option.some.inj hF
                  exact W.iret (v := x27) hx hb hr (fun t ht hW => ⟨⟨_, (), rfl, rfl, ⟨by rw [ht]; exact hP, va_K.moved hW.alike hK, hD⟩⟩, hS.F ht⟩) hS.2.2 dX11_count_150
                · rw [if_neg c25] at hF
                  by_cases c28 : p0 = (8 : Int32)
                  · rw [if_pos c28] at hF
                    refine lv_tableIn (tgt := 151) hx hb dX11_count_1 (by rw [c28]; decide) (by rw [c28]; decide) (by rw [c28]; rfl) (by decide) ?_
                    refine lv_aload_n hx hb dX11_count_151 rfl (lv_at hl 0 rfl) ?_
                    refine va_get (D := D) (ci := 11) (v := va_re ad (M.2 a 3)) (C := RX11) (T := TX11) (N := 5) hx hb hts (by decide +kernel) hown hK hP a (wld_o ct ad G M hc hk (by decide)) rfl 3 (by decide) (hts (.fieldLink RX11 24 "VideoSuite" "decoder" "LVideoSuite$Decoder;") (by decide +kernel)) (fun _ h9 => h9) rfl dX11_count_152 ?_
                    obtain ⟨b29, ho29, hc29, hk29, hF⟩ := dr_some hF
                    refine W_st (st' := [.ref (ad b29)]) (by rw [va_some ho29]) ?_
                    refine va_get (D := D) (ci := 1) (v := va_re ad (M.2 b29 0)) (C := RX1) (T := TX1) (N := 22) hx hb hts (by decide +kernel) hown hK hP b29 (wld_o ct ad G M hc29 hk29 (by decide)) rfl 0 (by decide) (hts (.fieldLink RX11 293 "VideoSuite$Decoder" "reader" "LVideoSuite$Reader;") (by decide +kernel)) (fun _ h9 => h9) rfl dX11_count_155 ?_
                    obtain ⟨b30, ho30, hc30, hk30, hF⟩ := dr_some hF
                    refine W_st (st' := [.ref (ad b30)]) (by rw [va_some ho30]) ?_
                    refine va_get (D := D) (ci := 5) (v := .int (M.1 b30 12)) (C := RX5) (T := TX5) (N := 17) hx hb hts (by decide +kernel) hown hK hP b30 (wld_o ct ad G M hc30 hk30 (by decide)) rfl 12 (by decide) (hts (.fieldLink RX11 297 "VideoSuite$Reader" "elementCount" "I") (by decide +kernel)) (fun _ h9 => h9) rfl dX11_count_158 ?_
                    obtain ⟨x31, ex31, hF⟩ := ltt_some hF
                    refine lv_topi (fun zx31 ezx31 => ?_)
                    obtain rfl : x31 = zx31 := ex31.trans ezx31.symm
                    obtain rfl := Option.some.inj hF
                    exact W.iret (v := x31) hx hb hr (fun t ht hW => ⟨⟨_, (), rfl, rfl, ⟨by rw [ht]; exact hP, va_K.moved hW.alike hK, hD⟩⟩, hS.F ht⟩) hS.2.2 dX11_count_161
                  · rw [if_neg c28] at hF
                    by_cases c32 : p0 = (9 : Int32)
                    · rw [if_pos c32] at hF
                      refine lv_tableIn (tgt := 162) hx hb dX11_count_1 (by rw [c32]; decide) (by rw [c32]; decide) (by rw [c32]; rfl) (by decide) ?_
                      refine lv_aload_n hx hb dX11_count_162 rfl (lv_at hl 0 rfl) ?_
                      refine va_get (D := D) (ci := 11) (v := va_re ad (M.2 a 4)) (C := RX11) (T := TX11) (N := 5) hx hb hts (by decide +kernel) hown hK hP a (wld_o ct ad G M hc hk (by decide)) rfl 4 (by decide) (hts (.fieldLink RX11 31 "VideoSuite" "coder" "LVideoSuite$Coder;") (by decide +kernel)) (fun _ h9 => h9) rfl dX11_count_163 ?_
                      obtain ⟨b33, ho33, hc33, hk33, hF⟩ := dr_some hF
                      refine W_st (st' := [.ref (ad b33)]) (by rw [va_some ho33]) ?_
                      refine va_get (D := D) (ci := 0) (v := va_re ad (M.2 b33 2)) (C := RX0) (T := TX0) (N := 21) hx hb hts (by decide +kernel) hown hK hP b33 (wld_o ct ad G M hc33 hk33 (by decide)) rfl 2 (by decide) (hts (.fieldLink RX11 373 "VideoSuite$Coder" "writer" "LVideoSuite$Writer;") (by decide +kernel)) (fun _ h9 => h9) rfl dX11_count_166 ?_
                      obtain ⟨b34, ho34, hc34, hk34, hF⟩ := dr_some hF
                      refine W_st (st' := [.ref (ad b34)]) (by rw [va_some ho34]) ?_
                      refine va_get (D := D) (ci := 10) (v := .int (M.1 b34 1)) (C := RX10) (T := TX10) (N := 20) hx hb hts (by decide +kernel) hown hK hP b34 (wld_o ct ad G M hc34 hk34 (by decide)) rfl 1 (by decide) (hts (.fieldLink RX11 377 "VideoSuite$Writer" "length" "I") (by decide +kernel)) (fun _ h9 => h9) rfl dX11_count_169 ?_
                      obtain ⟨x35, ex35, hF⟩ := ltt_some hF
                      refine lv_topi (fun zx35 ezx35 => ?_)
                      obtain rfl : x35 = zx35 := ex35.trans ezx35.symm
                      obtain rfl := Option.some.inj hF
                      exact W.iret (v := x35) hx hb hr (fun t ht hW => ⟨⟨_, (), rfl, rfl, ⟨by rw [ht]; exact hP, va_K.moved hW.alike hK, hD⟩⟩, hS.F ht⟩) hS.2.2 dX11_count_172
                    · rw [if_neg c32] at hF
                      by_cases c36 : p0 = (10 : Int32)
                      · rw [if_pos c36] at hF
                        refine lv_tableIn (tgt := 173) hx hb dX11_count_1 (by rw [c36]; decide) (by rw [c36]; decide) (by rw [c36]; rfl) (by decide) ?_
                        refine lv_aload_n hx hb dX11_count_173 rfl (lv_at hl 0 rfl) ?_
                        refine va_get (D := D) (ci := 11) (v := va_re ad (M.2 a 4)) (C := RX11) (T := TX11) (N := 5) hx hb hts (by decide +kernel) hown hK hP a (wld_o ct ad G M hc hk (by decide)) rfl 4 (by decide) (hts (.fieldLink RX11 31 "VideoSuite" "coder" "LVideoSuite$Coder;") (by decide +kernel)) (fun _ h9 => h9) rfl dX11_count_174 ?_
                        obtain ⟨b37, ho37, hc37, hk37, hF⟩ := dr_some hF
                        refine W_st (st' := [.ref (ad b37)]) (by rw [va_some ho37]) ?_
                        refine va_get (D := D) (ci := 0) (v := .int (M.1 b37 16)) (C := RX0) (T := TX0) (N := 21) hx hb hts (by decide +kernel) hown hK hP b37 (wld_o ct ad G M hc37 hk37 (by decide)) rfl 16 (by decide) (hts (.fieldLink RX11 370 "VideoSuite$Coder" "codedCount" "I") (by decide +kernel)) (fun _ h9 => h9) rfl dX11_count_177 ?_
                        obtain ⟨x38, ex38, hF⟩ := ltt_some hF
                        refine lv_topi (fun zx38 ezx38 => ?_)
                        obtain rfl : x38 = zx38 := ex38.trans ezx38.symm
                        obtain rfl := Option.some.inj hF
                        exact W.iret (v := x38) hx hb hr (fun t ht hW => ⟨⟨_, (), rfl, rfl, ⟨by rw [ht]; exact hP, va_K.moved hW.alike hK, hD⟩⟩, hS.F ht⟩) hS.2.2 dX11_count_180
                      · rw [if_neg c36] at hF
                        by_cases c39 : p0 = (11 : Int32)
                        · rw [if_pos c39] at hF
                          refine lv_tableIn (tgt := 181) hx hb dX11_count_1 (by rw [c39]; decide) (by rw [c39]; decide) (by rw [c39]; rfl) (by decide) ?_
                          refine lv_aload_n hx hb dX11_count_181 rfl (lv_at hl 0 rfl) ?_
                          refine va_get (D := D) (ci := 11) (v := va_re ad (M.2 a 4)) (C := RX11) (T := TX11) (N := 5) hx hb hts (by decide +kernel) hown hK hP a (wld_o ct ad G M hc hk (by decide)) rfl 4 (by decide) (hts (.fieldLink RX11 31 "VideoSuite" "coder" "LVideoSuite$Coder;") (by decide +kernel)) (fun _ h9 => h9) rfl dX11_count_182 ?_
                          obtain ⟨b40, ho40, hc40, hk40, hF⟩ := dr_some hF
                          refine W_st (st' := [.ref (ad b40)]) (by rw [va_some ho40]) ?_
                          refine va_get (D := D) (ci := 0) (v := .int (M.1 b40 10)) (C := RX0) (T := TX0) (N := 21) hx hb hts (by decide +kernel) hown hK hP b40 (wld_o ct ad G M hc40 hk40 (by decide)) rfl 10 (by decide) (hts (.fieldLink RX11 361 "VideoSuite$Coder" "waiting" "I") (by decide +kernel)) (fun _ h9 => h9) rfl dX11_count_185 ?_
                          obtain ⟨x41, ex41, hF⟩ := ltt_some hF
                          refine lv_topi (fun zx41 ezx41 => ?_)
                          obtain rfl : x41 = zx41 := ex41.trans ezx41.symm
                          obtain rfl := Option.some.inj hF
                          exact W.iret (v := x41) hx hb hr (fun t ht hW => ⟨⟨_, (), rfl, rfl, ⟨by rw [ht]; exact hP, va_K.moved hW.alike hK, hD⟩⟩, hS.F ht⟩) hS.2.2 dX11_count_188
                        · rw [if_neg c39] at hF
                          by_cases c42 : p0 = (12 : Int32)
                          · rw [if_pos c42] at hF
                            refine lv_tableIn (tgt := 189) hx hb dX11_count_1 (by rw [c42]; decide) (by rw [c42]; decide) (by rw [c42]; rfl) (by decide) ?_
                            refine lv_aload_n hx hb dX11_count_189 rfl (lv_at hl 0 rfl) ?_
                            refine va_get (D := D) (ci := 11) (v := va_re ad (M.2 a 2)) (C := RX11) (T := TX11) (N := 5) hx hb hts (by decide +kernel) hown hK hP a (wld_o ct ad G M hc hk (by decide)) rfl 2 (by decide) (hts (.fieldLink RX11 17 "VideoSuite" "units" "LVideoSuite$Units;") (by decide +kernel)) (fun _ h9 => h9) rfl dX11_count_190 ?_
                            obtain ⟨b43, ho43, hc43, hk43, hF⟩ := dr_some hF
                            refine W_st (st' := [.ref (ad b43)]) (by rw [va_some ho43]) ?_
                            refine va_get (D := D) (ci := 8) (v := .int (M.1 b43 11)) (C := RX8) (T := TX8) (N := 15) hx hb hts (by decide +kernel) hown hK hP b43 (wld_o ct ad G M hc43 hk43 (by decide)) rfl 11 (by decide) (hts (.fieldLink RX11 406 "VideoSuite$Units" "boxCount" "I") (by decide +kernel)) (fun _ h9 => h9) rfl dX11_count_193 ?_
                            obtain ⟨x44, ex44, hF⟩ := ltt_some hF
                            refine lv_topi (fun zx44 ezx44 => ?_)
                            obtain rfl : x44 = zx44 := ex44.trans ezx44.symm
                            obtain rfl := Option.some.inj hF
                            exact W.iret (v := x44) hx hb hr (fun t ht hW => ⟨⟨_, (), rfl, rfl, ⟨by rw [ht]; exact hP, va_K.moved hW.alike hK, hD⟩⟩, hS.F ht⟩) hS.2.2 dX11_count_196
                          · rw [if_neg c42] at hF
                            by_cases c45 : p0 = (13 : Int32)
                            · rw [if_pos c45] at hF
                              refine lv_tableIn (tgt := 197) hx hb dX11_count_1 (by rw [c45]; decide) (by rw [c45]; decide) (by rw [c45]; rfl) (by decide) ?_
                              refine lv_aload_n hx hb dX11_count_197 rfl (lv_at hl 0 rfl) ?_
                              refine va_get (D := D) (ci := 11) (v := va_re ad (M.2 a 4)) (C := RX11) (T := TX11) (N := 5) hx hb hts (by decide +kernel) hown hK hP a (wld_o ct ad G M hc hk (by decide)) rfl 4 (by decide) (hts (.fieldLink RX11 31 "VideoSuite" "coder" "LVideoSuite$Coder;") (by decide +kernel)) (fun _ h9 => h9) rfl dX11_count_198 ?_
                              obtain ⟨b46, ho46, hc46, hk46, hF⟩ := dr_some hF
                              refine W_st (st' := [.ref (ad b46)]) (by rw [va_some ho46]) ?_
                              refine va_get (D := D) (ci := 0) (v := .int (M.1 b46 14)) (C := RX0) (T := TX0) (N := 21) hx hb hts (by decide +kernel) hown hK hP b46 (wld_o ct ad G M hc46 hk46 (by decide)) rfl 14 (by decide) (hts (.fieldLink RX11 457 "VideoSuite$Coder" "chance" "I") (by decide +kernel)) (fun _ h9 => h9) rfl dX11_count_201 ?_
                              obtain ⟨x47, ex47, hF⟩ := ltt_some hF
                              refine lv_topi (fun zx47 ezx47 => ?_)
                              obtain rfl : x47 = zx47 := ex47.trans ezx47.symm
                              obtain rfl := Option.some.inj hF
                              exact W.iret (v := x47) hx hb hr (fun t ht hW => ⟨⟨_, (), rfl, rfl, ⟨by rw [ht]; exact hP, va_K.moved hW.alike hK, hD⟩⟩, hS.F ht⟩) hS.2.2 dX11_count_204
                            · rw [if_neg c45] at hF
                              by_cases c48 : p0 = (14 : Int32)
                              · rw [if_pos c48] at hF
                                refine lv_tableIn (tgt := 205) hx hb dX11_count_1 (by rw [c48]; decide) (by rw [c48]; decide) (by rw [c48]; rfl) (by decide) ?_
                                refine lv_aload_n hx hb dX11_count_205 rfl (lv_at hl 0 rfl) ?_
                                refine va_get (D := D) (ci := 11) (v := va_re ad (M.2 a 3)) (C := RX11) (T := TX11) (N := 5) hx hb hts (by decide +kernel) hown hK hP a (wld_o ct ad G M hc hk (by decide)) rfl 3 (by decide) (hts (.fieldLink RX11 24 "VideoSuite" "decoder" "LVideoSuite$Decoder;") (by decide +kernel)) (fun _ h9 => h9) rfl dX11_count_206 ?_
                                obtain ⟨b49, ho49, hc49, hk49, hF⟩ := dr_some hF
                                refine W_st (st' := [.ref (ad b49)]) (by rw [va_some ho49]) ?_
                                refine va_get (D := D) (ci := 1) (v := .int (M.1 b49 18)) (C := RX1) (T := TX1) (N := 22) hx hb hts (by decide +kernel) hown hK hP b49 (wld_o ct ad G M hc49 hk49 (by decide)) rfl 18 (by decide) (hts (.fieldLink RX11 460 "VideoSuite$Decoder" "mended" "I") (by decide +kernel)) (fun _ h9 => h9) rfl dX11_count_209 ?_
                                obtain ⟨x50, ex50, hF⟩ := ltt_some hF
                                refine lv_topi (fun zx50 ezx50 => ?_)
                                obtain rfl : x50 = zx50 := ex50.trans ezx50.symm
                                obtain rfl := Option.some.inj hF
                                exact W.iret (v := x50) hx hb hr (fun t ht hW => ⟨⟨_, (), rfl, rfl, ⟨by rw [ht]; exact hP, va_K.moved hW.alike hK, hD⟩⟩, hS.F ht⟩) hS.2.2 dX11_count_212
                              · rw [if_neg c48] at hF
                                obtain ⟨hsw, hF⟩ := chk_some hF
                                refine lv_tableOut (tgt := 213) hx hb dX11_count_1 hsw (by decide) ?_
                                refine lv_iconst (v := (-1 : Int32)) hx hb dX11_count_213 (by decide) ?_
                                obtain rfl := Option.some.inj hF
                                exact W.iret (v := (-1 : Int32)) hx hb hr (fun t ht hW => ⟨⟨_, (), rfl, rfl, ⟨by rw [ht]; exact hP, va_K.moved hW.alike hK, hD⟩⟩, hS.F ht⟩) hS.2.2 dX11_count_214
theorem dX11_hash_0 : decode cX11_hash 0 = .ok (.iconst 0, 1) := by decide +kernel
theorem dX11_hash_1 : decode cX11_hash 1 = .ok (.istore_n 3, 1) := by decide +kernel
theorem dX11_hash_2 : decode cX11_hash 2 = .ok (.iload_n 1, 1) := by decide +kernel
theorem dX11_hash_3 : decode cX11_hash 3 = .ok (.istore 4, 2) := by decide +kernel
theorem dX11_hash_5 : decode cX11_hash 5 = .ok (.iload 4, 2) := by decide +kernel
theorem dX11_hash_7 : decode cX11_hash 7 = .ok (.iload_n 1, 1) := by decide +kernel
theorem dX11_hash_8 : decode cX11_hash 8 = .ok (.iload_n 2, 1) := by decide +kernel
theorem dX11_hash_9 : decode cX11_hash 9 = .ok (.iadd, 1) := by decide +kernel
theorem dX11_hash_10 : decode cX11_hash 10 = .ok (.if_icmp .ge 26, 3) := by decide +kernel
theorem dX11_hash_13 : decode cX11_hash 13 = .ok (.iload 4, 2) := by decide +kernel
theorem dX11_hash_15 : decode cX11_hash 15 = .ok (.aload_n 0, 1) := by decide +kernel
theorem dX11_hash_16 : decode cX11_hash 16 = .ok (.arraylength, 1) := by decide +kernel
theorem dX11_hash_17 : decode cX11_hash 17 = .ok (.if_icmp .ge 19, 3) := by decide +kernel
theorem dX11_hash_20 : decode cX11_hash 20 = .ok (.bipush 31, 2) := by decide +kernel
theorem dX11_hash_22 : decode cX11_hash 22 = .ok (.iload_n 3, 1) := by decide +kernel
theorem dX11_hash_23 : decode cX11_hash 23 = .ok (.imul, 1) := by decide +kernel
theorem dX11_hash_24 : decode cX11_hash 24 = .ok (.aload_n 0, 1) := by decide +kernel
theorem dX11_hash_25 : decode cX11_hash 25 = .ok (.iload 4, 2) := by decide +kernel
theorem dX11_hash_27 : decode cX11_hash 27 = .ok (.iaload, 1) := by decide +kernel
theorem dX11_hash_28 : decode cX11_hash 28 = .ok (.iadd, 1) := by decide +kernel
theorem dX11_hash_29 : decode cX11_hash 29 = .ok (.istore_n 3, 1) := by decide +kernel
theorem dX11_hash_30 : decode cX11_hash 30 = .ok (.iinc 4 1, 3) := by decide +kernel
theorem dX11_hash_33 : decode cX11_hash 33 = .ok (.goto (-28), 3) := by decide +kernel
theorem dX11_hash_36 : decode cX11_hash 36 = .ok (.iload_n 3, 1) := by decide +kernel
theorem dX11_hash_37 : decode cX11_hash 37 = .ok (.ireturn, 1) := by decide +kernel
def FX11_hash (G : GG) (M : DD) (p0 : Option Nat) (p1 : Int32) (p2 : Int32) : Option (DD × Int32) :=
  bnd (itr (fun (s2 : Int32 × Int32) => ((ltt ((p1 + p2)) fun x5 =>
  if x5 ≤ s2.2 then (some (.inr (s2.1, s2.2))) else
  (dr G 13 p0 fun b7 =>
  ltt (Int32.ofNat (G.2.2 b7)) fun x8 =>
  if x8 ≤ s2.2 then (some (.inr (s2.1, s2.2))) else
  (ltt ((((31 : Int32)) * s2.1)) fun x10 =>
  chk (¬ (s2.2 < 0 ∨ G.2.2 b7 ≤ s2.2.toNatClampNeg)) <|
  ltt (M.1 b7 s2.2.toNatClampNeg) fun x11 =>
  ltt ((x10 + x11)) fun x12 =>
  ltt (s2.2 + (1 : Int32)) fun x13 =>
  some (.inl (x12, x13))))) : Option ((Int32 × Int32) ⊕ (Int32 × Int32)))) 1000000 ((0 : Int32), p1)) fun (y1 : Int32 × Int32) =>
  some (M, y1.1)
set_option maxHeartbeats 4000000 in
set_option maxRecDepth 100000 in
theorem kX11_hash (l : Launch) (D : va_G) (ct : CT) (ad : Nat → Nat) (Z : Nat → Nat) (G : GG) (M : DD) (sz : Nat) (p0 : Option Nat) (p1 : Int32) (p2 : Int32) (y : DD × Int32) (hF : FX11_hash G M p0 p1 p2 = some y) : Met l yX11_hash wsX11_hash ({ frames := 0, cells := 0, slots := 0, locals := 0 }) (va_Pc [va_re ad p0, .int p1, .int p2] (kB D ct ad Z G M sz)) (va_Qi (fun (q : Int32) (_ : Unit) => q = y.2) (fun _ t => kE D ct ad G (wA ad G sz) y.1 t) (wA ad G sz)) 0 0 (wA ad G sz) := by
  refine Met.ofW (cc := cX11_hash) (maxL := 5) (ret := (some .int)) (by decide) rfl ?_
  intro p e s m args below meth c s₁ B hml hv
  obtain ⟨rfl, hsz, hP, hK, hD0, hZ, hN⟩ := hv
  have hx := B.exec
  have hb := B.bytes
  have hr := B.returns
  have hts := atoms_spec (ws := wsX11_hash) B.pre
  have hown : s.vm.findClass RX11 = some m.cls := findClass_of_methodNamed B.named
  have hlocks := B.notSynchronized
  subst hsz
  have hD := wD_self (sz := s.heap.size) hD0
  have hA9 : ∀ q, s.heap.size ≤ q → wA ad G s.heap.size q := fun q h => Or.inr h
  generalize hAe : wA ad G s.heap.size = A at hD hA9 hZ ⊢
  have hS : va_S A s.heap s.heap [] := va_S.rf
  have hl := lv_entry ([va_re ad p0, .int p1, .int p2]) (n := 5) (by cases p0 <;> exact Nat.le_of_ble_eq_true rfl)
  rw [lg_entry_eq]
  generalize (lg_sl ([va_re ad p0, .int p1, .int p2]) ++ List.replicate (5 - (lg_sl ([va_re ad p0, .int p1, .int p2])).length) Slot.unset).toArray = ls at hl ⊢
  have hl : lv_has ls 5 [(0, va_re ad p0), (1, .int p1), (2, .int p2)] := by have e9 : lv_args 0 [va_re ad p0, .int p1, .int p2] = [(0, va_re ad p0), (1, .int p1), (2, .int p2)] := (by cases p0 <;> rfl); rw [e9] at hl; exact hl
  unfold FX11_hash at hF
  refine lv_iconst (v := (0 : Int32)) hx hb dX11_hash_0 (by decide) ?_
  refine lv_istore_n (lv' := [(3, .int (0 : Int32)), (0, va_re ad p0), (1, .int p1), (2, .int p2)]) hx hb dX11_hash_1 rfl hl (by decide) rfl (fun ls hl => ?_)
  refine lv_iload_n hx hb dX11_hash_2 rfl (lv_at hl 2 rfl) ?_
  refine lv_istore (lv' := [(4, .int p1), (3, .int (0 : Int32)), (0, va_re ad p0), (1, .int p1), (2, .int p2)]) hx hb dX11_hash_3 hl (by decide) rfl (fun ls hl => ?_)
  obtain ⟨y1, hy1, hF⟩ := bnd_some hF
  have K1 : ∀ (H : Heap) (locs : List Loc) (ls : Array Slot), va_P D classes (wld ct ad G M) H → va_D A (wld ct ad G M) → va_S A s.heap H locs → lv_has ls 5 [(4, .int y1.2), (3, .int y1.1), (0, va_re ad p0), (1, .int p1), (2, .int p2)] → W p l e (headSpec wsX11_hash ({ frames := 0, cells := 0, slots := 0, locals := 0 })).room s m ([va_re ad p0, .int p1, .int p2] : List Value).toArray below meth c H locs 0 0 (MQ below (va_Qi (fun (q : Int32) (_ : Unit) => q = y.2) (fun _ t => kE D ct ad G A y.1 t) A) ([va_re ad p0, .int p1, .int p2] : List Value).toArray s 0 0 A) (F0 m 36 ls []) := by
    intro H locs ls hP hD hS hl
    refine lv_iload_n hx hb dX11_hash_36 rfl (lv_at hl 1 rfl) ?_
    obtain rfl := Option.some.inj hF
    exact W.iret (v := y1.1) hx hb hr (fun t ht hW => ⟨⟨_, (), rfl, rfl, ⟨by rw [ht]; exact hP, va_K.moved hW.alike hK, hD⟩⟩, hS.F ht⟩) hS.2.2 dX11_hash_37
  clear hF
  refine itr_rule (fun (s2 : Int32 × Int32) => ∀ (H : Heap) (locs : List Loc) (ls : Array Slot), va_P D classes (wld ct ad G M) H → va_D A (wld ct ad G M) → va_S A s.heap H locs → lv_has ls 5 [(4, .int s2.2), (3, .int s2.1), (0, va_re ad p0), (1, .int p1), (2, .int p2)] → W p l e (headSpec wsX11_hash ({ frames := 0, cells := 0, slots := 0, locals := 0 })).room s m ([va_re ad p0, .int p1, .int p2] : List Value).toArray below meth c H locs 0 0 (MQ below (va_Qi (fun (q : Int32) (_ : Unit) => q = y.2) (fun _ t => kE D ct ad G A y.1 t) A) ([va_re ad p0, .int p1, .int p2] : List Value).toArray s 0 0 A) (F0 m 5 ls [])) ?_ _ _ hy1 _ _ _ hP hD hS (lv_sub hl [0, 1, 2, 3, 4] rfl)
  rintro s2 ⟨z4, hF, hwz4⟩ H locs ls hP hD hS hl
  try dsimp only at hF
  refine lv_iload hx hb dX11_hash_5 (lv_at hl 0 rfl) ?_
  refine lv_iload_n hx hb dX11_hash_7 rfl (lv_at hl 3 rfl) ?_
  refine lv_iload_n hx hb dX11_hash_8 rfl (lv_at hl 4 rfl) ?_
  refine lv_iadd hx hb dX11_hash_9 ?_
  obtain ⟨x5, ex5, hF⟩ := ltt_some hF
  refine lv_topi (fun zx5 ezx5 => ?_)
  obtain rfl : x5 = zx5 := ex5.trans ezx5.symm
  refine lv_icmp_ge (tgt := 36) hx hb dX11_hash_10 (by decide) (fun c6 => ?_) (fun c6 => ?_)
  · rw [if_pos c6] at hF
    obtain rfl := Option.some.inj hF
    subst hwz4
    exact K1 _ _ _ hP hD hS (lv_sub hl [0, 1, 2, 3, 4] rfl)
  · rw [if_neg c6] at hF
    refine lv_iload hx hb dX11_hash_13 (lv_at hl 0 rfl) ?_
    refine lv_aloadq_n hx hb dX11_hash_15 rfl (lv_at hl 2 rfl) ?_
    obtain ⟨b7, ho7, hc7, hk7, hF⟩ := dr_some hF
    refine W_st (st' := [.ref (ad b7), .int s2.2]) (by rw [va_some ho7]) ?_
    refine va_alen (v := Int32.ofNat (G.2.2 b7)) hx hb hK hP b7 1 (wld_i ct ad G M hc7 hk7) rfl rfl dX11_hash_16 ?_
    obtain ⟨x8, ex8, hF⟩ := ltt_some hF
    refine lv_topi (fun zx8 ezx8 => ?_)
    obtain rfl : x8 = zx8 := ex8.trans ezx8.symm
    refine lv_icmp_ge (tgt := 36) hx hb dX11_hash_17 (by decide) (fun c9 => ?_) (fun c9 => ?_)
    · rw [if_pos c9] at hF
      obtain rfl := Option.some.inj hF
      subst hwz4
      exact K1 _ _ _ hP hD hS (lv_sub hl [0, 1, 2, 3, 4] rfl)
    · rw [if_neg c9] at hF
      refine lv_bipush (v := (31 : Int32)) hx hb dX11_hash_20 (by decide) ?_
      refine lv_iload_n hx hb dX11_hash_22 rfl (lv_at hl 1 rfl) ?_
      refine lv_imul hx hb dX11_hash_23 ?_
      obtain ⟨x10, ex10, hF⟩ := ltt_some hF
      refine lv_topi (fun zx10 ezx10 => ?_)
      obtain rfl : x10 = zx10 := ex10.trans ezx10.symm
      refine lv_aloadq_n hx hb dX11_hash_24 rfl (lv_at hl 2 rfl) ?_
      refine lv_iload hx hb dX11_hash_25 (lv_at hl 0 rfl) ?_
      refine W_st (st' := [.int s2.2, .ref (ad b7), .int x10]) (by rw [va_some ho7]) ?_
      obtain ⟨hvc, hF⟩ := chk_some hF
      refine va_iald hx hb hK hP b7 1 (wld_i ct ad G M hc7 hk7) rfl hvc dX11_hash_27 ?_
      obtain ⟨x11, ex11, hF⟩ := ltt_some hF
      refine lv_topi (fun zx11 ezx11 => ?_)
      obtain rfl : x11 = zx11 := ex11.trans ezx11.symm
      refine lv_iadd hx hb dX11_hash_28 ?_
      obtain ⟨x12, ex12, hF⟩ := ltt_some hF
      refine lv_topi (fun zx12 ezx12 => ?_)
      obtain rfl : x12 = zx12 := ex12.trans ezx12.symm
      refine lv_istore_n (lv' := [(3, .int x12), (4, .int s2.2), (0, va_re ad p0), (1, .int p1), (2, .int p2)]) hx hb dX11_hash_29 rfl hl (by decide) rfl (fun ls hl => ?_)
      obtain ⟨x13, ex13, hF⟩ := ltt_some hF
      refine lv_iinc (v := x13) (lv' := [(4, .int x13), (3, .int x12), (0, va_re ad p0), (1, .int p1), (2, .int p2)]) hx hb dX11_hash_30 hl (k := 1) rfl (by rw [ex13]; rfl) (by decide) rfl (fun ls hl => ?_)
      refine lv_goto (tgt := 5) hx hb dX11_hash_33 (by decide) ?_
      obtain rfl := Option.some.inj hF
      exact hwz4 _ _ _ hP hD hS (lv_sub hl [0, 1, 2, 3, 4] rfl)
theorem ggX11_setting_X0_maySet : GoodIn wsX11_setting wsX0_maySet := goodIn_r _ [9, 10, 11] (by decide +kernel) (by decide +kernel)
set_option maxRecDepth 20000 in
theorem gX11_setting_X0_maySet : GoodIn wsX11_setting (wsV RX11 307 RX0 yX0_maySet wsX0_maySet) := goodIn_app (goodIn_of _ (by decide +kernel)) ggX11_setting_X0_maySet
theorem dX11_setting_0 : decode cX11_setting 0 = .ok (.aload_n 0, 1) := by decide +kernel
theorem dX11_setting_1 : decode cX11_setting 1 = .ok (.getfield 31, 3) := by decide +kernel
theorem dX11_setting_4 : decode cX11_setting 4 = .ok (.iload_n 1, 1) := by decide +kernel
theorem dX11_setting_5 : decode cX11_setting 5 = .ok (.iload_n 2, 1) := by decide +kernel
theorem dX11_setting_6 : decode cX11_setting 6 = .ok (.invokevirtual 307, 3) := by decide +kernel
theorem dX11_setting_9 : decode cX11_setting 9 = .ok (.ifCond .ne 14, 3) := by decide +kernel
theorem dX11_setting_12 : decode cX11_setting 12 = .ok (.new 51, 3) := by decide +kernel
theorem dX11_setting_15 : decode cX11_setting 15 = .ok (.dup, 1) := by decide +kernel
theorem dX11_setting_16 : decode cX11_setting 16 = .ok (.ldc_w 311, 3) := by decide +kernel
theorem dX11_setting_19 : decode cX11_setting 19 = .ok (.invokespecial 55, 3) := by decide +kernel
theorem dX11_setting_22 : decode cX11_setting 22 = .ok (.athrow, 1) := by decide +kernel
theorem dX11_setting_23 : decode cX11_setting 23 = .ok (.aload_n 0, 1) := by decide +kernel
theorem dX11_setting_24 : decode cX11_setting 24 = .ok (.getfield 31, 3) := by decide +kernel
theorem dX11_setting_27 : decode cX11_setting 27 = .ok (.getfield 313, 3) := by decide +kernel
theorem dX11_setting_30 : decode cX11_setting 30 = .ok (.iload_n 1, 1) := by decide +kernel
theorem dX11_setting_31 : decode cX11_setting 31 = .ok (.iaload, 1) := by decide +kernel
theorem dX11_setting_32 : decode cX11_setting 32 = .ok (.istore_n 3, 1) := by decide +kernel
theorem dX11_setting_33 : decode cX11_setting 33 = .ok (.aload_n 0, 1) := by decide +kernel
theorem dX11_setting_34 : decode cX11_setting 34 = .ok (.getfield 31, 3) := by decide +kernel
theorem dX11_setting_37 : decode cX11_setting 37 = .ok (.getfield 313, 3) := by decide +kernel
theorem dX11_setting_40 : decode cX11_setting 40 = .ok (.iload_n 1, 1) := by decide +kernel
theorem dX11_setting_41 : decode cX11_setting 41 = .ok (.iload_n 2, 1) := by decide +kernel
theorem dX11_setting_42 : decode cX11_setting 42 = .ok (.iastore, 1) := by decide +kernel
theorem dX11_setting_43 : decode cX11_setting 43 = .ok (.iload_n 3, 1) := by decide +kernel
theorem dX11_setting_44 : decode cX11_setting 44 = .ok (.ireturn, 1) := by decide +kernel
def FX11_setting (G : GG) (M : DD) (a : Nat) (p0 : Int32) (p1 : Int32) : Option (DD × Int32) :=
  dr G 0 ((M.2 a 4)) fun b2 =>
  bnd (FX0_maySet G M b2 p0 p1) fun y3 =>
  bnd (if y3.2 = ((0 : Int32)) then (none) else
  (some ())) fun (y4 : Unit) =>
  dr G 0 ((y3.1.2 a 4)) fun b5 =>
  dr G 13 ((y3.1.2 b5 0)) fun b6 =>
  chk (¬ (p0 < 0 ∨ G.2.2 b6 ≤ p0.toNatClampNeg)) <|
  ltt (y3.1.1 b6 p0.toNatClampNeg) fun x7 =>
  chk (¬ (p0 < 0 ∨ G.2.2 b6 ≤ p0.toNatClampNeg)) <|
  ltt (uI y3.1 b6 p0.toNatClampNeg p1) fun M8 =>
  some (M8, x7)
set_option maxHeartbeats 4000000 in
set_option maxRecDepth 100000 in
theorem kX11_setting (l : Launch) (D : va_G) (ct : CT) (ad : Nat → Nat) (Z : Nat → Nat) (G : GG) (M : DD) (sz : Nat) (a : Nat) (p0 : Int32) (p1 : Int32) (y : DD × Int32) (hc : a < G.1) (hk : G.2.1 a = 11) (hF : FX11_setting G M a p0 p1 = some y) : Met l yX11_setting wsX11_setting ({ frames := 1, cells := 0, slots := 0, locals := 22 }) (va_Pc [.ref (ad a), .int p0, .int p1] (kB D ct ad Z G M sz)) (va_Qi (fun (q : Int32) (_ : Unit) => q = y.2) (fun _ t => kE D ct ad G (wA ad G sz) y.1 t) (wA ad G sz)) 0 0 (wA ad G sz) := by
  refine Met.ofW (cc := cX11_setting) (maxL := 4) (ret := (some .int)) (by decide) rfl ?_
  intro p e s m args below meth c s₁ B hml hv
  obtain ⟨rfl, hsz, hP, hK, hD0, hZ, hN⟩ := hv
  have hx := B.exec
  have hb := B.bytes
  have hr := B.returns
  have hts := atoms_spec (ws := wsX11_setting) B.pre
  have hown : s.vm.findClass RX11 = some m.cls := findClass_of_methodNamed B.named
  have hlocks := B.notSynchronized
  subst hsz
  have hD := wD_self (sz := s.heap.size) hD0
  have hA9 : ∀ q, s.heap.size ≤ q → wA ad G s.heap.size q := fun q h => Or.inr h
  generalize hAe : wA ad G s.heap.size = A at hD hA9 hZ ⊢
  have hS : va_S A s.heap s.heap [] := va_S.rf
  have hl := lv_entry ([.ref (ad a), .int p0, .int p1]) (n := 4) (Nat.le_of_ble_eq_true rfl)
  rw [lg_entry_eq]
  generalize (lg_sl ([.ref (ad a), .int p0, .int p1]) ++ List.replicate (4 - (lg_sl ([.ref (ad a), .int p0, .int p1])).length) Slot.unset).toArray = ls at hl ⊢
  have hl : lv_has ls 4 [(0, .ref (ad a)), (1, .int p0), (2, .int p1)] := hl
  unfold FX11_setting at hF
  refine lv_aload_n hx hb dX11_setting_0 rfl (lv_at hl 0 rfl) ?_
  refine va_get (D := D) (ci := 11) (v := va_re ad (M.2 a 4)) (C := RX11) (T := TX11) (N := 5) hx hb hts (by decide +kernel) hown hK hP a (wld_o ct ad G M hc hk (by decide)) rfl 4 (by decide) (hts (.fieldLink RX11 31 "VideoSuite" "coder" "LVideoSuite$Coder;") (by decide +kernel)) (fun _ h9 => h9) rfl dX11_setting_1 ?_
  refine lv_iload_n hx hb dX11_setting_4 rfl (lv_at hl 1 rfl) ?_
  refine lv_iload_n hx hb dX11_setting_5 rfl (lv_at hl 2 rfl) ?_
  obtain ⟨b2, ho2, hc2, hk2, hF⟩ := dr_some hF
  refine W_st (st' := [.int p1, .int p0, .ref (ad b2)]) (by rw [va_some ho2]) ?_
  obtain ⟨y3, hy3, hF⟩ := bnd_some hF
  have hf9 := wA_in hD hA9 hS
  refine va_calli (va_runV (As := [.int p0, .int p1]) (rest := []) ⟨hx, hb, hml, hown, hts⟩ (kX0_maySet l D ct ad Z G M s.heap.size b2 p0 p1 y3 hc2 hk2 hy3) (cwV 2 hts gX11_setting_X0_maySet rfl rfl rfl (by decide +kernel) ⟨Nat.le_of_ble_eq_true rfl, Nat.le_of_ble_eq_true rfl⟩) ⟨fun a U g mk q => by obtain ⟨q0, q1, qP, qK, qD, qZ, qN⟩ := q; exact ⟨q0, q1, qP, va_K.moved (u := U) (U := U.calling g mk a) (Vm.Alike.refl U.vm) qK, qD, sF.moved (u := U) (U := U.calling g mk a) (Vm.Alike.refl U.vm) qZ, nF.same rfl qN⟩, va_recv hK hP (ci := 0) (q0 := b2) rfl (wld_o ct ad G M hc2 hk2 (by decide)), fun U hU hW => ⟨rfl, by rw [hU], by rw [hU]; exact hP, va_K.moved hW.alike hK, hD.weaken (fun _ _ _ _ => trivial), by rw [hU]; exact ((hZ.kept hS.2.1).narrow hf9).moved hW.alike, hN.warm hW⟩⟩ rfl rfl hl.1 rfl (lv_room (Nat.le_of_ble_eq_true rfl)) dX11_setting_6 ⟨(Nat.zero_le _), (Nat.zero_le _)⟩) hS (fun q _ h => hf9 q h) hf9 (fun r u t H locs ht hvm hw hB hz1 hk1 hS => ?_)
  obtain ⟨hP, hK9, hD9⟩ := hB
  rw [ht] at hP
  try dsimp only at hw
  subst hw
  have hD := hD9.weaken (fun _ q _ h => hf9 q.1 h)
  obtain ⟨y4, hy4, hF⟩ := bnd_some hF
  have J4 : ∀ (H : Heap) (locs : List Loc) (ls : Array Slot), va_P D classes (wld ct ad G y3.1) H → va_D A (wld ct ad G y3.1) → va_S A s.heap H locs → lv_has ls 4 [(0, .ref (ad a)), (1, .int p0), (2, .int p1)] → W p l e (headSpec wsX11_setting ({ frames := 1, cells := 0, slots := 0, locals := 22 })).room s m ([.ref (ad a), .int p0, .int p1] : List Value).toArray below meth c H locs 0 0 (MQ below (va_Qi (fun (q : Int32) (_ : Unit) => q = y.2) (fun _ t => kE D ct ad G A y.1 t) A) ([.ref (ad a), .int p0, .int p1] : List Value).toArray s 0 0 A) (F0 m 23 ls []) := by
    intro H locs ls hP hD hS hl
    refine lv_aload_n hx hb dX11_setting_23 rfl (lv_at hl 0 rfl) ?_
    refine va_get (D := D) (ci := 11) (v := va_re ad (y3.1.2 a 4)) (C := RX11) (T := TX11) (N := 5) hx hb hts (by decide +kernel) hown hK hP a (wld_o ct ad G y3.1 hc hk (by decide)) rfl 4 (by decide) (hts (.fieldLink RX11 31 "VideoSuite" "coder" "LVideoSuite$Coder;") (by decide +kernel)) (fun _ h9 => h9) rfl dX11_setting_24 ?_
    obtain ⟨b5, ho5, hc5, hk5, hF⟩ := dr_some hF
    refine W_st (st' := [.ref (ad b5)]) (by rw [va_some ho5]) ?_
    refine va_get (D := D) (ci := 0) (v := va_re ad (y3.1.2 b5 0)) (C := RX0) (T := TX0) (N := 21) hx hb hts (by decide +kernel) hown hK hP b5 (wld_o ct ad G y3.1 hc5 hk5 (by decide)) rfl 0 (by decide) (hts (.fieldLink RX11 313 "VideoSuite$Coder" "setting" "[I") (by decide +kernel)) (fun _ h9 => h9) rfl dX11_setting_27 ?_
    refine lv_iload_n hx hb dX11_setting_30 rfl (lv_at hl 1 rfl) ?_
    obtain ⟨b6, ho6, hc6, hk6, hF⟩ := dr_some hF
    refine W_st (st' := [.int p0, .ref (ad b6)]) (by rw [va_some ho6]) ?_
    obtain ⟨hvc, hF⟩ := chk_some hF
    refine va_iald hx hb hK hP b6 1 (wld_i ct ad G y3.1 hc6 hk6) rfl hvc dX11_setting_31 ?_
    obtain ⟨x7, ex7, hF⟩ := ltt_some hF
    refine lv_topi (fun zx7 ezx7 => ?_)
    obtain rfl : x7 = zx7 := ex7.trans ezx7.symm
    refine lv_istore_n (lv' := [(3, .int x7), (0, .ref (ad a)), (1, .int p0), (2, .int p1)]) hx hb dX11_setting_32 rfl hl (by decide) rfl (fun ls hl => ?_)
    refine lv_aload_n hx hb dX11_setting_33 rfl (lv_at hl 1 rfl) ?_
    refine va_get (D := D) (ci := 11) (v := va_re ad (y3.1.2 a 4)) (C := RX11) (T := TX11) (N := 5) hx hb hts (by decide +kernel) hown hK hP a (wld_o ct ad G y3.1 hc hk (by decide)) rfl 4 (by decide) (hts (.fieldLink RX11 31 "VideoSuite" "coder" "LVideoSuite$Coder;") (by decide +kernel)) (fun _ h9 => h9) rfl dX11_setting_34 ?_
    refine W_st (st' := [.ref (ad b5)]) (by rw [va_some ho5]) ?_
    refine va_get (D := D) (ci := 0) (v := va_re ad (y3.1.2 b5 0)) (C := RX0) (T := TX0) (N := 21) hx hb hts (by decide +kernel) hown hK hP b5 (wld_o ct ad G y3.1 hc5 hk5 (by decide)) rfl 0 (by decide) (hts (.fieldLink RX11 313 "VideoSuite$Coder" "setting" "[I") (by decide +kernel)) (fun _ h9 => h9) rfl dX11_setting_37 ?_
    refine lv_iload_n hx hb dX11_setting_40 rfl (lv_at hl 2 rfl) ?_
    refine lv_iload_n hx hb dX11_setting_41 rfl (lv_at hl 3 rfl) ?_
    refine W_st (st' := [.int p1, .int p0, .ref (ad b6)]) (by rw [va_some ho6]) ?_
    obtain ⟨hvc, hF⟩ := chk_some hF
    refine va_iast hx hb hK hP hD hS b6 1 (wld_i ct ad G y3.1 hc6 hk6) rfl hvc dX11_setting_42 (fun H locs hP hD hS => ?_)
    obtain ⟨M8, eM8, hF⟩ := ltt_some hF
    rw [set_i ct ad G y3.1 hc6 hk6, ← eM8] at hP hD
    refine lv_iload_n hx hb dX11_setting_43 rfl (lv_at hl 0 rfl) ?_
    obtain rfl := Option.some.inj hF
    exact W.iret (v := x7) hx hb hr (fun t ht hW => ⟨⟨_, (), rfl, rfl, ⟨by rw [ht]; exact hP, va_K.moved hW.alike hK, hD⟩⟩, hS.F ht⟩) hS.2.2 dX11_setting_44
  clear hF
  have hF := hy4
  clear hy4
  refine lv_if_ne (tgt := 23) hx hb dX11_setting_9 (by decide) (fun c9 => ?_) (fun c9 => ?_)
  · rw [if_neg c9] at hF
    obtain rfl := Option.some.inj hF
    exact J4 _ _ _ hP hD hS (lv_sub hl [0, 1, 2] rfl)
  · rw [if_pos c9] at hF
    cases hF
theorem dX2_init_0 : decode cX2_init 0 = .ok (.aload_n 0, 1) := by decide +kernel
theorem dX2_init_1 : decode cX2_init 1 = .ok (.invokespecial 3, 3) := by decide +kernel
theorem dX2_init_4 : decode cX2_init 4 = .ok (.aload_n 0, 1) := by decide +kernel
theorem dX2_init_5 : decode cX2_init 5 = .ok (.sipush 1024, 3) := by decide +kernel
theorem dX2_init_8 : decode cX2_init 8 = .ok (.newarray .int, 2) := by decide +kernel
theorem dX2_init_10 : decode cX2_init 10 = .ok (.putfield 9, 3) := by decide +kernel
theorem dX2_init_13 : decode cX2_init 13 = .ok (.return_, 1) := by decide +kernel
noncomputable def FX2_init (G : GG) (M : DD) (a : Nat)  : Option (NN × DD) :=
  chkP (Clo (xt G []) M) <|
  chk (¬ ((1024 : Int32)) < 0 ∧ ((1024 : Int32)).toNatClampNeg * 4 ≤ 536870912) <|
  ltt ((xt G []).1) fun c2 =>
  app [(13, ((1024 : Int32)).toNatClampNeg)] <|
  ltt ([] ++ [(13, ((1024 : Int32)).toNatClampNeg)]) fun L4 =>
  ltt (rO M c2) fun M5 =>
  ltt (uP M5 a 0 (some c2)) fun M8 =>
  some ([], M8)
set_option maxHeartbeats 4000000 in
set_option maxRecDepth 100000 in
theorem kX2_init (l : Launch) (D : va_G) (ct : CT) (ad : Nat → Nat) (Z : Nat → Nat) (G : GG) (M : DD) (sz : Nat) (a : Nat)  (y : NN × DD) (hc : a < G.1) (hk : G.2.1 a = 2) (hF : FX2_init G M a  = some y) : Met l yX2_init wsX2_init ({ frames := 1, cells := y.1.length, slots := wt y.1, locals := 20 }) (va_Pc [.ref (ad a)] (kB D ct ad Z G M sz)) (va_Qv (fun (u : Nat → Nat) => agr G.1 ad u) (fun u t => kE D ct u (xt G y.1) (wA ad G sz) y.2 t) (wA ad G sz)) y.1.length (wt y.1) (wA ad G sz) := by
  refine Met.ofW (cc := cX2_init) (maxL := 1) (ret := none) (by decide) rfl ?_
  intro p e s m args below meth c s₁ B hml hv
  obtain ⟨rfl, hsz, hP, hK, hD0, hZ, hN⟩ := hv
  have hx := B.exec
  have hb := B.bytes
  have hr := B.returns
  have hts := atoms_spec (ws := wsX2_init) B.pre
  have hown : s.vm.findClass RX2 = some m.cls := findClass_of_methodNamed B.named
  have hlocks := B.notSynchronized
  have hin : meth.name = "<init>" := (name_of_methodNamed B.named B.method).1
  subst hsz
  have hD := wD_self (sz := s.heap.size) hD0
  have hA9 : ∀ q, s.heap.size ≤ q → wA ad G s.heap.size q := fun q h => Or.inr h
  generalize hAe : wA ad G s.heap.size = A at hD hA9 hZ ⊢
  have hS : va_S A s.heap s.heap [] := va_S.rf
  have hl := lv_entry ([.ref (ad a)]) (n := 1) (Nat.le_of_ble_eq_true rfl)
  rw [lg_entry_eq]
  generalize (lg_sl ([.ref (ad a)]) ++ List.replicate (1 - (lg_sl ([.ref (ad a)])).length) Slot.unset).toArray = ls at hl ⊢
  have hl : lv_has ls 1 [(0, .ref (ad a))] := hl
  unfold FX2_init at hF
  rw [← wld_0 ct ad G M] at hP hD
  have hk := xt_k0 hc hk
  have hc := xt_l0 hc
  have hag := agr_rf G.1 ad
  obtain ⟨w0, hw0⟩ : ∃ z, z = y := ⟨_, rfl⟩
  rw [← hw0] at hF
  have hT : y.1 = [] ++ w0.1 := by rw [hw0]; rfl
  have h2 : y.2 = w0.2 := by rw [hw0]
  have hbl : y.1.length ≤ y.1.length ∧ wt y.1 ≤ wt y.1 := ⟨Nat.le_refl _, Nat.le_refl _⟩
  refine lv_aload_n hx hb dX2_init_0 rfl (lv_at hl 0 rfl) ?_
  refine W.objInit hx hb hown (hts (.methodLink RX2 3 objectInit) (by decide +kernel)) (hts (.instanceMethod objectInit) (by decide +kernel)) (hts (.code objectInit ⟨#[0xb1]⟩ 1 none) (by decide +kernel)) rfl (by rw [hml]; exact hl.1) rfl dX2_init_1 (Nat.le_of_ble_eq_true rfl) (Nat.le_of_ble_eq_true rfl) ?_
  refine W.eq (g2 := F0 m 4 ls []) rfl ?_
  refine lv_aload_n hx hb dX2_init_4 rfl (lv_at hl 0 rfl) ?_
  refine lv_sipush (v := (1024 : Int32)) hx hb dX2_init_5 (by decide) ?_
  obtain ⟨hC1, hF⟩ := chkP_some hF
  obtain ⟨hz9, hF⟩ := chk_some hF
  obtain ⟨c2, ec2, hF⟩ := ltt_some hF
  obtain ⟨w3, hF, ew3⟩ := app_some hF
  obtain ⟨L4, eL4, hF⟩ := ltt_some hF
  have hT4 : y.1 = ([] ++ [(13, ((1024 : Int32)).toNatClampNeg)]) ++ w3.1 := by rw [hT, ew3]; simp only [List.append_assoc]
  obtain ⟨M5, eM5, hF⟩ := ltt_some hF
  refine new_i hx hb (hts (.arrayClass .int) (by decide +kernel)) hK hP hD hS hA9 hz9.1 hz9.2 hC1 (room_1s hT4 hbl) dX2_init_8 (fun ad6 H hn7 hP hD hS => ?_)
  rw [← ec2, ← eL4, ← eM5] at hP hD
  refine W_cs (k := L4.length) (n := wt L4) (by rw [eL4]) (by rw [eL4]) ?_
  refine W_st (st' := [.ref (ad6 c2), .ref (ad a)]) (by rw [ec2]) ?_
  have hT : y.1 = L4 ++ w3.1 := by rw [hT4, eL4]
  have h2 : y.2 = w3.2 := by rw [h2, ew3]
  have hl := lv_sub (l' := []) hl [] rfl
  refine W_st (st' := [.ref (ad6 c2), .ref (ad6 a)]) (by first | rfl | simp only [hn7 a hc]) ?_
  have hk : (xt G L4).2.1 a = 2 := by rw [eL4]; exact xt_k _ hc hk
  have hc : a < (xt G L4).1 := by rw [eL4]; exact xt_l _ hc
  have hag := agr_t (xt_ge _ _) hag hn7
  have hc2 : c2 < (xt G L4).1 := by rw [ec2, eL4]; exact cnt_new _ _ _
  have hk2 : (xt G L4).2.1 c2 = 13 := by rw [ec2, eL4]; exact (kind_new _ _ _ _).1
  refine va_putF (D := D) (ci := 2) (v := va_re ad6 (some c2)) (ty := (.array .int)) (C := RX2) (T := TX2) (N := 7) hx hb hts (by decide +kernel) tyX2 tyX2_ok nmX2 hown hK hP hD hS a (wld_o ct ad6 (xt G L4) M5 hc hk (by decide)) rfl 0 (by decide) (hts (.fieldLink RX2 9 "VideoSuite$Edges" "strength" "[I") (by decide +kernel)) (fun _ h9 => h9) rfl hin rfl (by decide +kernel) (nar_q ad6 (Or.inr ⟨_, rfl⟩) (some c2)).1 (nar_q ad6 (Or.inr ⟨_, rfl⟩) (some c2)).2 (Nat.le_of_ble_eq_true rfl) dX2_init_10 (fun H locs hP hD hS => ?_)
  obtain ⟨M8, eM8, hF⟩ := ltt_some hF
  rw [set_oP ct ad6 (xt G L4) M5 hc hk (by decide) (by rfl), ← eM8] at hP hD
  obtain rfl := Option.some.inj hF
  have e1 : y.1 = L4 := by rw [hT]; exact List.append_nil _
  have e2 : y.2 = M8 := h2
  refine W.widen (k := y.1.length) (n := wt y.1) (Nat.le_of_eq (by rw [e1])) (Nat.le_of_eq (by rw [e1])) ?_
  exact W.vret hx hb hr (fun t ht hW => ⟨⟨ad6, rfl, hag, (by unfold kE; rw [e1, e2]; exact ⟨by rw [ht]; exact hP, va_K.moved hW.alike hK, hD⟩)⟩, hS.F ht⟩) hS.2.2 dX2_init_13
theorem dX2_smooth_0 : decode cX2_smooth 0 = .ok (.aload_n 0, 1) := by decide +kernel
theorem dX2_smooth_1 : decode cX2_smooth 1 = .ok (.iload_n 1, 1) := by decide +kernel
theorem dX2_smooth_2 : decode cX2_smooth 2 = .ok (.iaload, 1) := by decide +kernel
theorem dX2_smooth_3 : decode cX2_smooth 3 = .ok (.istore 6, 2) := by decide +kernel
theorem dX2_smooth_5 : decode cX2_smooth 5 = .ok (.aload_n 0, 1) := by decide +kernel
theorem dX2_smooth_6 : decode cX2_smooth 6 = .ok (.iload_n 1, 1) := by decide +kernel
theorem dX2_smooth_7 : decode cX2_smooth 7 = .ok (.iload_n 2, 1) := by decide +kernel
theorem dX2_smooth_8 : decode cX2_smooth 8 = .ok (.iadd, 1) := by decide +kernel
theorem dX2_smooth_9 : decode cX2_smooth 9 = .ok (.iaload, 1) := by decide +kernel
theorem dX2_smooth_10 : decode cX2_smooth 10 = .ok (.istore 7, 2) := by decide +kernel
theorem dX2_smooth_12 : decode cX2_smooth 12 = .ok (.iload_n 3, 1) := by decide +kernel
theorem dX2_smooth_13 : decode cX2_smooth 13 = .ok (.ifCond .ne 21, 3) := by decide +kernel
theorem dX2_smooth_16 : decode cX2_smooth 16 = .ok (.aload_n 0, 1) := by decide +kernel
theorem dX2_smooth_17 : decode cX2_smooth 17 = .ok (.iload_n 1, 1) := by decide +kernel
theorem dX2_smooth_18 : decode cX2_smooth 18 = .ok (.iconst 2, 1) := by decide +kernel
theorem dX2_smooth_19 : decode cX2_smooth 19 = .ok (.iload 7, 2) := by decide +kernel
theorem dX2_smooth_21 : decode cX2_smooth 21 = .ok (.imul, 1) := by decide +kernel
theorem dX2_smooth_22 : decode cX2_smooth 22 = .ok (.iload 6, 2) := by decide +kernel
theorem dX2_smooth_24 : decode cX2_smooth 24 = .ok (.iadd, 1) := by decide +kernel
theorem dX2_smooth_25 : decode cX2_smooth 25 = .ok (.iload 5, 2) := by decide +kernel
theorem dX2_smooth_27 : decode cX2_smooth 27 = .ok (.iadd, 1) := by decide +kernel
theorem dX2_smooth_28 : decode cX2_smooth 28 = .ok (.iconst 2, 1) := by decide +kernel
theorem dX2_smooth_29 : decode cX2_smooth 29 = .ok (.iadd, 1) := by decide +kernel
theorem dX2_smooth_30 : decode cX2_smooth 30 = .ok (.iconst 2, 1) := by decide +kernel
theorem dX2_smooth_31 : decode cX2_smooth 31 = .ok (.ishr, 1) := by decide +kernel
theorem dX2_smooth_32 : decode cX2_smooth 32 = .ok (.iastore, 1) := by decide +kernel
theorem dX2_smooth_33 : decode cX2_smooth 33 = .ok (.return_, 1) := by decide +kernel
theorem dX2_smooth_34 : decode cX2_smooth 34 = .ok (.aload_n 0, 1) := by decide +kernel
theorem dX2_smooth_35 : decode cX2_smooth 35 = .ok (.iload_n 1, 1) := by decide +kernel
theorem dX2_smooth_36 : decode cX2_smooth 36 = .ok (.iconst 2, 1) := by decide +kernel
theorem dX2_smooth_37 : decode cX2_smooth 37 = .ok (.iload_n 2, 1) := by decide +kernel
theorem dX2_smooth_38 : decode cX2_smooth 38 = .ok (.imul, 1) := by decide +kernel
theorem dX2_smooth_39 : decode cX2_smooth 39 = .ok (.iadd, 1) := by decide +kernel
theorem dX2_smooth_40 : decode cX2_smooth 40 = .ok (.iaload, 1) := by decide +kernel
theorem dX2_smooth_41 : decode cX2_smooth 41 = .ok (.istore 8, 2) := by decide +kernel
theorem dX2_smooth_43 : decode cX2_smooth 43 = .ok (.aload_n 0, 1) := by decide +kernel
theorem dX2_smooth_44 : decode cX2_smooth 44 = .ok (.iload_n 1, 1) := by decide +kernel
theorem dX2_smooth_45 : decode cX2_smooth 45 = .ok (.iconst 3, 1) := by decide +kernel
theorem dX2_smooth_46 : decode cX2_smooth 46 = .ok (.iload_n 2, 1) := by decide +kernel
theorem dX2_smooth_47 : decode cX2_smooth 47 = .ok (.imul, 1) := by decide +kernel
theorem dX2_smooth_48 : decode cX2_smooth 48 = .ok (.iadd, 1) := by decide +kernel
theorem dX2_smooth_49 : decode cX2_smooth 49 = .ok (.iaload, 1) := by decide +kernel
theorem dX2_smooth_50 : decode cX2_smooth 50 = .ok (.istore 9, 2) := by decide +kernel
theorem dX2_smooth_52 : decode cX2_smooth 52 = .ok (.aload_n 0, 1) := by decide +kernel
theorem dX2_smooth_53 : decode cX2_smooth 53 = .ok (.iload_n 1, 1) := by decide +kernel
theorem dX2_smooth_54 : decode cX2_smooth 54 = .ok (.iload 8, 2) := by decide +kernel
theorem dX2_smooth_56 : decode cX2_smooth 56 = .ok (.iconst 2, 1) := by decide +kernel
theorem dX2_smooth_57 : decode cX2_smooth 57 = .ok (.iload 7, 2) := by decide +kernel
theorem dX2_smooth_59 : decode cX2_smooth 59 = .ok (.imul, 1) := by decide +kernel
theorem dX2_smooth_60 : decode cX2_smooth 60 = .ok (.iadd, 1) := by decide +kernel
theorem dX2_smooth_61 : decode cX2_smooth 61 = .ok (.iconst 2, 1) := by decide +kernel
theorem dX2_smooth_62 : decode cX2_smooth 62 = .ok (.iload 6, 2) := by decide +kernel
theorem dX2_smooth_64 : decode cX2_smooth 64 = .ok (.imul, 1) := by decide +kernel
theorem dX2_smooth_65 : decode cX2_smooth 65 = .ok (.iadd, 1) := by decide +kernel
theorem dX2_smooth_66 : decode cX2_smooth 66 = .ok (.iconst 2, 1) := by decide +kernel
theorem dX2_smooth_67 : decode cX2_smooth 67 = .ok (.iload 4, 2) := by decide +kernel
theorem dX2_smooth_69 : decode cX2_smooth 69 = .ok (.imul, 1) := by decide +kernel
theorem dX2_smooth_70 : decode cX2_smooth 70 = .ok (.iadd, 1) := by decide +kernel
theorem dX2_smooth_71 : decode cX2_smooth 71 = .ok (.iload 5, 2) := by decide +kernel
theorem dX2_smooth_73 : decode cX2_smooth 73 = .ok (.iadd, 1) := by decide +kernel
theorem dX2_smooth_74 : decode cX2_smooth 74 = .ok (.iconst 4, 1) := by decide +kernel
theorem dX2_smooth_75 : decode cX2_smooth 75 = .ok (.iadd, 1) := by decide +kernel
theorem dX2_smooth_76 : decode cX2_smooth 76 = .ok (.iconst 3, 1) := by decide +kernel
theorem dX2_smooth_77 : decode cX2_smooth 77 = .ok (.ishr, 1) := by decide +kernel
theorem dX2_smooth_78 : decode cX2_smooth 78 = .ok (.iastore, 1) := by decide +kernel
theorem dX2_smooth_79 : decode cX2_smooth 79 = .ok (.aload_n 0, 1) := by decide +kernel
theorem dX2_smooth_80 : decode cX2_smooth 80 = .ok (.iload_n 1, 1) := by decide +kernel
theorem dX2_smooth_81 : decode cX2_smooth 81 = .ok (.iload_n 2, 1) := by decide +kernel
theorem dX2_smooth_82 : decode cX2_smooth 82 = .ok (.iadd, 1) := by decide +kernel
theorem dX2_smooth_83 : decode cX2_smooth 83 = .ok (.iload 8, 2) := by decide +kernel
theorem dX2_smooth_85 : decode cX2_smooth 85 = .ok (.iload 7, 2) := by decide +kernel
theorem dX2_smooth_87 : decode cX2_smooth 87 = .ok (.iadd, 1) := by decide +kernel
theorem dX2_smooth_88 : decode cX2_smooth 88 = .ok (.iload 6, 2) := by decide +kernel
theorem dX2_smooth_90 : decode cX2_smooth 90 = .ok (.iadd, 1) := by decide +kernel
theorem dX2_smooth_91 : decode cX2_smooth 91 = .ok (.iload 4, 2) := by decide +kernel
theorem dX2_smooth_93 : decode cX2_smooth 93 = .ok (.iadd, 1) := by decide +kernel
theorem dX2_smooth_94 : decode cX2_smooth 94 = .ok (.iconst 2, 1) := by decide +kernel
theorem dX2_smooth_95 : decode cX2_smooth 95 = .ok (.iadd, 1) := by decide +kernel
theorem dX2_smooth_96 : decode cX2_smooth 96 = .ok (.iconst 2, 1) := by decide +kernel
theorem dX2_smooth_97 : decode cX2_smooth 97 = .ok (.ishr, 1) := by decide +kernel
theorem dX2_smooth_98 : decode cX2_smooth 98 = .ok (.iastore, 1) := by decide +kernel
theorem dX2_smooth_99 : decode cX2_smooth 99 = .ok (.aload_n 0, 1) := by decide +kernel
theorem dX2_smooth_100 : decode cX2_smooth 100 = .ok (.iload_n 1, 1) := by decide +kernel
theorem dX2_smooth_101 : decode cX2_smooth 101 = .ok (.iconst 2, 1) := by decide +kernel
theorem dX2_smooth_102 : decode cX2_smooth 102 = .ok (.iload_n 2, 1) := by decide +kernel
theorem dX2_smooth_103 : decode cX2_smooth 103 = .ok (.imul, 1) := by decide +kernel
theorem dX2_smooth_104 : decode cX2_smooth 104 = .ok (.iadd, 1) := by decide +kernel
theorem dX2_smooth_105 : decode cX2_smooth 105 = .ok (.iconst 2, 1) := by decide +kernel
theorem dX2_smooth_106 : decode cX2_smooth 106 = .ok (.iload 9, 2) := by decide +kernel
theorem dX2_smooth_108 : decode cX2_smooth 108 = .ok (.imul, 1) := by decide +kernel
theorem dX2_smooth_109 : decode cX2_smooth 109 = .ok (.iconst 3, 1) := by decide +kernel
theorem dX2_smooth_110 : decode cX2_smooth 110 = .ok (.iload 8, 2) := by decide +kernel
theorem dX2_smooth_112 : decode cX2_smooth 112 = .ok (.imul, 1) := by decide +kernel
theorem dX2_smooth_113 : decode cX2_smooth 113 = .ok (.iadd, 1) := by decide +kernel
theorem dX2_smooth_114 : decode cX2_smooth 114 = .ok (.iload 7, 2) := by decide +kernel
theorem dX2_smooth_116 : decode cX2_smooth 116 = .ok (.iadd, 1) := by decide +kernel
theorem dX2_smooth_117 : decode cX2_smooth 117 = .ok (.iload 6, 2) := by decide +kernel
theorem dX2_smooth_119 : decode cX2_smooth 119 = .ok (.iadd, 1) := by decide +kernel
theorem dX2_smooth_120 : decode cX2_smooth 120 = .ok (.iload 4, 2) := by decide +kernel
theorem dX2_smooth_122 : decode cX2_smooth 122 = .ok (.iadd, 1) := by decide +kernel
theorem dX2_smooth_123 : decode cX2_smooth 123 = .ok (.iconst 4, 1) := by decide +kernel
theorem dX2_smooth_124 : decode cX2_smooth 124 = .ok (.iadd, 1) := by decide +kernel
theorem dX2_smooth_125 : decode cX2_smooth 125 = .ok (.iconst 3, 1) := by decide +kernel
theorem dX2_smooth_126 : decode cX2_smooth 126 = .ok (.ishr, 1) := by decide +kernel
theorem dX2_smooth_127 : decode cX2_smooth 127 = .ok (.iastore, 1) := by decide +kernel
theorem dX2_smooth_128 : decode cX2_smooth 128 = .ok (.return_, 1) := by decide +kernel
def FX2_smooth (G : GG) (M : DD) (p0 : Option Nat) (p1 : Int32) (p2 : Int32) (p3 : Int32) (p4 : Int32) (p5 : Int32) : Option (DD) :=
  dr G 13 p0 fun b1 =>
  chk (¬ (p1 < 0 ∨ G.2.2 b1 ≤ p1.toNatClampNeg)) <|
  ltt (M.1 b1 p1.toNatClampNeg) fun x2 =>
  ltt ((p1 + p2)) fun x3 =>
  chk (¬ (x3 < 0 ∨ G.2.2 b1 ≤ x3.toNatClampNeg)) <|
  ltt (M.1 b1 x3.toNatClampNeg) fun x4 =>
  if p3 = ((0 : Int32)) then (ltt ((((2 : Int32)) * x4)) fun x40 =>
  ltt ((x40 + x2)) fun x41 =>
  ltt ((x41 + p5)) fun x42 =>
  ltt ((x42 + ((2 : Int32)))) fun x43 =>
  ltt ((x43 >>> (((2 : Int32)) &&& 31))) fun x44 =>
  chk (¬ (p1 < 0 ∨ G.2.2 b1 ≤ p1.toNatClampNeg)) <|
  ltt (uI M b1 p1.toNatClampNeg x44) fun M45 =>
  some M45) else
  (ltt ((((2 : Int32)) * p2)) fun x6 =>
  ltt ((p1 + x6)) fun x7 =>
  chk (¬ (x7 < 0 ∨ G.2.2 b1 ≤ x7.toNatClampNeg)) <|
  ltt (M.1 b1 x7.toNatClampNeg) fun x8 =>
  ltt ((((3 : Int32)) * p2)) fun x9 =>
  ltt ((p1 + x9)) fun x10 =>
  chk (¬ (x10 < 0 ∨ G.2.2 b1 ≤ x10.toNatClampNeg)) <|
  ltt (M.1 b1 x10.toNatClampNeg) fun x11 =>
  ltt ((((2 : Int32)) * x4)) fun x12 =>
  ltt ((x8 + x12)) fun x13 =>
  ltt ((((2 : Int32)) * x2)) fun x14 =>
  ltt ((x13 + x14)) fun x15 =>
  ltt ((((2 : Int32)) * p4)) fun x16 =>
  ltt ((x15 + x16)) fun x17 =>
  ltt ((x17 + p5)) fun x18 =>
  ltt ((x18 + ((4 : Int32)))) fun x19 =>
  ltt ((x19 >>> (((3 : Int32)) &&& 31))) fun x20 =>
  chk (¬ (p1 < 0 ∨ G.2.2 b1 ≤ p1.toNatClampNeg)) <|
  ltt (uI M b1 p1.toNatClampNeg x20) fun M21 =>
  ltt ((p1 + p2)) fun x22 =>
  ltt ((x8 + x4)) fun x23 =>
  ltt ((x23 + x2)) fun x24 =>
  ltt ((x24 + p4)) fun x25 =>
  ltt ((x25 + ((2 : Int32)))) fun x26 =>
  ltt ((x26 >>> (((2 : Int32)) &&& 31))) fun x27 =>
  chk (¬ (x22 < 0 ∨ G.2.2 b1 ≤ x22.toNatClampNeg)) <|
  ltt (uI M21 b1 x22.toNatClampNeg x27) fun M28 =>
  ltt ((((2 : Int32)) * p2)) fun x29 =>
  ltt ((p1 + x29)) fun x30 =>
  ltt ((((2 : Int32)) * x11)) fun x31 =>
  ltt ((((3 : Int32)) * x8)) fun x32 =>
  ltt ((x31 + x32)) fun x33 =>
  ltt ((x33 + x4)) fun x34 =>
  ltt ((x34 + x2)) fun x35 =>
  ltt ((x35 + p4)) fun x36 =>
  ltt ((x36 + ((4 : Int32)))) fun x37 =>
  ltt ((x37 >>> (((3 : Int32)) &&& 31))) fun x38 =>
  chk (¬ (x30 < 0 ∨ G.2.2 b1 ≤ x30.toNatClampNeg)) <|
  ltt (uI M28 b1 x30.toNatClampNeg x38) fun M39 =>
  some M39)
set_option maxHeartbeats 4000000 in
set_option maxRecDepth 100000 in
theorem kX2_smooth (l : Launch) (D : va_G) (ct : CT) (ad : Nat → Nat) (Z : Nat → Nat) (G : GG) (M : DD) (sz : Nat) (p0 : Option Nat) (p1 : Int32) (p2 : Int32) (p3 : Int32) (p4 : Int32) (p5 : Int32) (y : DD) (hF : FX2_smooth G M p0 p1 p2 p3 p4 p5 = some y) : Met l yX2_smooth wsX2_smooth ({ frames := 0, cells := 0, slots := 0, locals := 0 }) (va_Pc [va_re ad p0, .int p1, .int p2, .int p3, .int p4, .int p5] (kB D ct ad Z G M sz)) (va_Qv (fun (_ : Unit) => True) (fun _ t => kE D ct ad G (wA ad G sz) y t) (wA ad G sz)) 0 0 (wA ad G sz) := by
  refine Met.ofW (cc := cX2_smooth) (maxL := 10) (ret := none) (by decide) rfl ?_
  intro p e s m args below meth c s₁ B hml hv
  obtain ⟨rfl, hsz, hP, hK, hD0, hZ, hN⟩ := hv
  have hx := B.exec
  have hb := B.bytes
  have hr := B.returns
  have hts := atoms_spec (ws := wsX2_smooth) B.pre
  have hown : s.vm.findClass RX2 = some m.cls := findClass_of_methodNamed B.named
  have hlocks := B.notSynchronized
  subst hsz
  have hD := wD_self (sz := s.heap.size) hD0
  have hA9 : ∀ q, s.heap.size ≤ q → wA ad G s.heap.size q := fun q h => Or.inr h
  generalize hAe : wA ad G s.heap.size = A at hD hA9 hZ ⊢
  have hS : va_S A s.heap s.heap [] := va_S.rf
  have hl := lv_entry ([va_re ad p0, .int p1, .int p2, .int p3, .int p4, .int p5]) (n := 10) (by cases p0 <;> exact Nat.le_of_ble_eq_true rfl)
  rw [lg_entry_eq]
  generalize (lg_sl ([va_re ad p0, .int p1, .int p2, .int p3, .int p4, .int p5]) ++ List.replicate (10 - (lg_sl ([va_re ad p0, .int p1, .int p2, .int p3, .int p4, .int p5])).length) Slot.unset).toArray = ls at hl ⊢
  have hl : lv_has ls 10 [(0, va_re ad p0), (1, .int p1), (2, .int p2), (3, .int p3), (4, .int p4), (5, .int p5)] := by have e9 : lv_args 0 [va_re ad p0, .int p1, .int p2, .int p3, .int p4, .int p5] = [(0, va_re ad p0), (1, .int p1), (2, .int p2), (3, .int p3), (4, .int p4), (5, .int p5)] := (by cases p0 <;> rfl); rw [e9] at hl; exact hl
  unfold FX2_smooth at hF
  refine lv_aloadq_n hx hb dX2_smooth_0 rfl (lv_at hl 0 rfl) ?_
  refine lv_iload_n hx hb dX2_smooth_1 rfl (lv_at hl 1 rfl) ?_
  obtain ⟨b1, ho1, hc1, hk1, hF⟩ := dr_some hF
  refine W_st (st' := [.int p1, .ref (ad b1)]) (by rw [va_some ho1]) ?_
  obtain ⟨hvc, hF⟩ := chk_some hF
  refine va_iald hx hb hK hP b1 1 (wld_i ct ad G M hc1 hk1) rfl hvc dX2_smooth_2 ?_
  obtain ⟨x2, ex2, hF⟩ := ltt_some hF
  refine lv_topi (fun zx2 ezx2 => ?_)
  obtain rfl : x2 = zx2 := ex2.trans ezx2.symm
  refine lv_istore (lv' := [(6, .int x2), (0, va_re ad p0), (1, .int p1), (2, .int p2), (3, .int p3), (4, .int p4), (5, .int p5)]) hx hb dX2_smooth_3 hl (by decide) rfl (fun ls hl => ?_)
  refine lv_aloadq_n hx hb dX2_smooth_5 rfl (lv_at hl 1 rfl) ?_
  refine lv_iload_n hx hb dX2_smooth_6 rfl (lv_at hl 2 rfl) ?_
  refine lv_iload_n hx hb dX2_smooth_7 rfl (lv_at hl 3 rfl) ?_
  refine lv_iadd hx hb dX2_smooth_8 ?_
  obtain ⟨x3, ex3, hF⟩ := ltt_some hF
  refine lv_topi (fun zx3 ezx3 => ?_)
  obtain rfl : x3 = zx3 := ex3.trans ezx3.symm
  refine W_st (st' := [.int x3, .ref (ad b1)]) (by rw [va_some ho1]) ?_
  obtain ⟨hvc, hF⟩ := chk_some hF
  refine va_iald hx hb hK hP b1 1 (wld_i ct ad G M hc1 hk1) rfl hvc dX2_smooth_9 ?_
  obtain ⟨x4, ex4, hF⟩ := ltt_some hF
  refine lv_topi (fun zx4 ezx4 => ?_)
  obtain rfl : x4 = zx4 := ex4.trans ezx4.symm
  refine lv_istore (lv' := [(7, .int x4), (6, .int x2), (0, va_re ad p0), (1, .int p1), (2, .int p2), (3, .int p3), (4, .int p4), (5, .int p5)]) hx hb dX2_smooth_10 hl (by decide) rfl (fun ls hl => ?_)
  refine lv_iload_n hx hb dX2_smooth_12 rfl (lv_at hl 5 rfl) ?_
  refine lv_if_ne (tgt := 34) hx hb dX2_smooth_13 (by decide) (fun c5 => ?_) (fun c5 => ?_)
  · rw [if_neg c5] at hF
    refine lv_aloadq_n hx hb dX2_smooth_34 rfl (lv_at hl 2 rfl) ?_
    refine lv_iload_n hx hb dX2_smooth_35 rfl (lv_at hl 3 rfl) ?_
    refine lv_iconst (v := (2 : Int32)) hx hb dX2_smooth_36 (by decide) ?_
    refine lv_iload_n hx hb dX2_smooth_37 rfl (lv_at hl 4 rfl) ?_
    refine lv_imul hx hb dX2_smooth_38 ?_
    obtain ⟨x6, ex6, hF⟩ := ltt_some hF
    refine lv_topi (fun zx6 ezx6 => ?_)
    obtain rfl : x6 = zx6 := ex6.trans ezx6.symm
    refine lv_iadd hx hb dX2_smooth_39 ?_
    obtain ⟨x7, ex7, hF⟩ := ltt_some hF
    refine lv_topi (fun zx7 ezx7 => ?_)
    obtain rfl : x7 = zx7 := ex7.trans ezx7.symm
    refine W_st (st' := [.int x7, .ref (ad b1)]) (by rw [va_some ho1]) ?_
    obtain ⟨hvc, hF⟩ := chk_some hF
    refine va_iald hx hb hK hP b1 1 (wld_i ct ad G M hc1 hk1) rfl hvc dX2_smooth_40 ?_
    obtain ⟨x8, ex8, hF⟩ := ltt_some hF
    refine lv_topi (fun zx8 ezx8 => ?_)
    obtain rfl : x8 = zx8 := ex8.trans ezx8.symm
    refine lv_istore (lv' := [(8, .int x8), (7, .int x4), (6, .int x2), (0, va_re ad p0), (1, .int p1), (2, .int p2), (3, .int p3), (4, .int p4), (5, .int p5)]) hx hb dX2_smooth_41 hl (by decide) rfl (fun ls hl => ?_)
    refine lv_aloadq_n hx hb dX2_smooth_43 rfl (lv_at hl 3 rfl) ?_
    refine lv_iload_n hx hb dX2_smooth_44 rfl (lv_at hl 4 rfl) ?_
    refine lv_iconst (v := (3 : Int32)) hx hb dX2_smooth_45 (by decide) ?_
    refine lv_iload_n hx hb dX2_smooth_46 rfl (lv_at hl 5 rfl) ?_
    refine lv_imul hx hb dX2_smooth_47 ?_
    obtain ⟨x9, ex9, hF⟩ := ltt_some hF
    refine lv_topi (fun zx9 ezx9 => ?_)
    obtain rfl : x9 = zx9 := ex9.trans ezx9.symm
    refine lv_iadd hx hb dX2_smooth_48 ?_
    obtain ⟨x10, ex10, hF⟩ := ltt_some hF
    refine lv_topi (fun zx10 ezx10 => ?_)
    obtain rfl : x10 = zx10 := ex10.trans ezx10.symm
    refine W_st (st' := [.int x10, .ref (ad b1)]) (by rw [va_some ho1]) ?_
    obtain ⟨hvc, hF⟩ := chk_some hF
    refine va_iald hx hb hK hP b1 1 (wld_i ct ad G M hc1 hk1) rfl hvc dX2_smooth_49 ?_
    obtain ⟨x11, ex11, hF⟩ := ltt_some hF
    refine lv_topi (fun zx11 ezx11 => ?_)
    obtain rfl : x11 = zx11 := ex11.trans ezx11.symm
    refine lv_istore (lv' := [(9, .int x11), (8, .int x8), (7, .int x4), (6, .int x2), (0, va_re ad p0), (1, .int p1), (2, .int p2), (3, .int p3), (4, .int p4), (5, .int p5)]) hx hb dX2_smooth_50 hl (by decide) rfl (fun ls hl => ?_)
    refine lv_aloadq_n hx hb dX2_smooth_52 rfl (lv_at hl 4 rfl) ?_
    refine lv_iload_n hx hb dX2_smooth_53 rfl (lv_at hl 5 rfl) ?_
    refine lv_iload hx hb dX2_smooth_54 (lv_at hl 1 rfl) ?_
    refine lv_iconst (v := (2 : Int32)) hx hb dX2_smooth_56 (by decide) ?_
    refine lv_iload hx hb dX2_smooth_57 (lv_at hl 2 rfl) ?_
    refine lv_imul hx hb dX2_smooth_59 ?_
    obtain ⟨x12, ex12, hF⟩ := ltt_some hF
    refine lv_topi (fun zx12 ezx12 => ?_)
    obtain rfl : x12 = zx12 := ex12.trans ezx12.symm
    refine lv_iadd hx hb dX2_smooth_60 ?_
    obtain ⟨x13, ex13, hF⟩ := ltt_some hF
    refine lv_topi (fun zx13 ezx13 => ?_)
    obtain rfl : x13 = zx13 := ex13.trans ezx13.symm
    refine lv_iconst (v := (2 : Int32)) hx hb dX2_smooth_61 (by decide) ?_
    refine lv_iload hx hb dX2_smooth_62 (lv_at hl 3 rfl) ?_
    refine lv_imul hx hb dX2_smooth_64 ?_
    obtain ⟨x14, ex14, hF⟩ := ltt_some hF
    refine lv_topi (fun zx14 ezx14 => ?_)
    obtain rfl : x14 = zx14 := ex14.trans ezx14.symm
    refine lv_iadd hx hb dX2_smooth_65 ?_
    obtain ⟨x15, ex15, hF⟩ := ltt_some hF
    refine lv_topi (fun zx15 ezx15 => ?_)
    obtain rfl : x15 = zx15 := ex15.trans ezx15.symm
    refine lv_iconst (v := (2 : Int32)) hx hb dX2_smooth_66 (by decide) ?_
    refine lv_iload hx hb dX2_smooth_67 (lv_at hl 8 rfl) ?_
    refine lv_imul hx hb dX2_smooth_69 ?_
    obtain ⟨x16, ex16, hF⟩ := ltt_some hF
    refine lv_topi (fun zx16 ezx16 => ?_)
    obtain rfl : x16 = zx16 := ex16.trans ezx16.symm
    refine lv_iadd hx hb dX2_smooth_70 ?_
    obtain ⟨x17, ex17, hF⟩ := ltt_some hF
    refine lv_topi (fun zx17 ezx17 => ?_)
    obtain rfl : x17 = zx17 := ex17.trans ezx17.symm
    refine lv_iload hx hb dX2_smooth_71 (lv_at hl 9 rfl) ?_
    refine lv_iadd hx hb dX2_smooth_73 ?_
    obtain ⟨x18, ex18, hF⟩ := ltt_some hF
    refine lv_topi (fun zx18 ezx18 => ?_)
    obtain rfl : x18 = zx18 := ex18.trans ezx18.symm
    refine lv_iconst (v := (4 : Int32)) hx hb dX2_smooth_74 (by decide) ?_
    refine lv_iadd hx hb dX2_smooth_75 ?_
    obtain ⟨x19, ex19, hF⟩ := ltt_some hF
    refine lv_topi (fun zx19 ezx19 => ?_)
    obtain rfl : x19 = zx19 := ex19.trans ezx19.symm
    refine lv_iconst (v := (3 : Int32)) hx hb dX2_smooth_76 (by decide) ?_
    refine lv_ishr hx hb dX2_smooth_77 ?_
    obtain ⟨x20, ex20, hF⟩ := ltt_some hF
    refine lv_topi (fun zx20 ezx20 => ?_)
    obtain rfl : x20 = zx20 := ex20.trans ezx20.symm
    refine W_st (st' := [.int x20, .int p1, .ref (ad b1)]) (by rw [va_some ho1]) ?_
    obtain ⟨hvc, hF⟩ := chk_some hF
    refine va_iast hx hb hK hP hD hS b1 1 (wld_i ct ad G M hc1 hk1) rfl hvc dX2_smooth_78 (fun H locs hP hD hS => ?_)
    obtain ⟨M21, eM21, hF⟩ := ltt_some hF
    rw [set_i ct ad G M hc1 hk1, ← eM21] at hP hD
    refine lv_aloadq_n hx hb dX2_smooth_79 rfl (lv_at hl 4 rfl) ?_
    refine lv_iload_n hx hb dX2_smooth_80 rfl (lv_at hl 5 rfl) ?_
    refine lv_iload_n hx hb dX2_smooth_81 rfl (lv_at hl 6 rfl) ?_
    refine lv_iadd hx hb dX2_smooth_82 ?_
    obtain ⟨x22, ex22, hF⟩ := ltt_some hF
    refine lv_topi (fun zx22 ezx22 => ?_)
    obtain rfl : x22 = zx22 := ex22.trans ezx22.symm
    refine lv_iload hx hb dX2_smooth_83 (lv_at hl 1 rfl) ?_
    refine lv_iload hx hb dX2_smooth_85 (lv_at hl 2 rfl) ?_
    refine lv_iadd hx hb dX2_smooth_87 ?_
    obtain ⟨x23, ex23, hF⟩ := ltt_some hF
    refine lv_topi (fun zx23 ezx23 => ?_)
    obtain rfl : x23 = zx23 := ex23.trans ezx23.symm
    refine lv_iload hx hb dX2_smooth_88 (lv_at hl 3 rfl) ?_
    refine lv_iadd hx hb dX2_smooth_90 ?_
    obtain ⟨x24, ex24, hF⟩ := ltt_some hF
    refine lv_topi (fun zx24 ezx24 => ?_)
    obtain rfl : x24 = zx24 := ex24.trans ezx24.symm
    refine lv_iload hx hb dX2_smooth_91 (lv_at hl 8 rfl) ?_
    refine lv_iadd hx hb dX2_smooth_93 ?_
    obtain ⟨x25, ex25, hF⟩ := ltt_some hF
    refine lv_topi (fun zx25 ezx25 => ?_)
    obtain rfl : x25 = zx25 := ex25.trans ezx25.symm
    refine lv_iconst (v := (2 : Int32)) hx hb dX2_smooth_94 (by decide) ?_
    refine lv_iadd hx hb dX2_smooth_95 ?_
    obtain ⟨x26, ex26, hF⟩ := ltt_some hF
    refine lv_topi (fun zx26 ezx26 => ?_)
    obtain rfl : x26 = zx26 := ex26.trans ezx26.symm
    refine lv_iconst (v := (2 : Int32)) hx hb dX2_smooth_96 (by decide) ?_
    refine lv_ishr hx hb dX2_smooth_97 ?_
    obtain ⟨x27, ex27, hF⟩ := ltt_some hF
    refine lv_topi (fun zx27 ezx27 => ?_)
    obtain rfl : x27 = zx27 := ex27.trans ezx27.symm
    refine W_st (st' := [.int x27, .int x22, .ref (ad b1)]) (by rw [va_some ho1]) ?_
    obtain ⟨hvc, hF⟩ := chk_some hF
    refine va_iast hx hb hK hP hD hS b1 1 (wld_i ct ad G M21 hc1 hk1) rfl hvc dX2_smooth_98 (fun H locs hP hD hS => ?_)
    obtain ⟨M28, eM28, hF⟩ := ltt_some hF
    rw [set_i ct ad G M21 hc1 hk1, ← eM28] at hP hD
    refine lv_aloadq_n hx hb dX2_smooth_99 rfl (lv_at hl 4 rfl) ?_
    refine lv_iload_n hx hb dX2_smooth_100 rfl (lv_at hl 5 rfl) ?_
    refine lv_iconst (v := (2 : Int32)) hx hb dX2_smooth_101 (by decide) ?_
    refine lv_iload_n hx hb dX2_smooth_102 rfl (lv_at hl 6 rfl) ?_
    refine lv_imul hx hb dX2_smooth_103 ?_
    obtain ⟨x29, ex29, hF⟩ := ltt_some hF
    refine lv_topi (fun zx29 ezx29 => ?_)
    obtain rfl : x29 = zx29 := ex29.trans ezx29.symm
    refine lv_iadd hx hb dX2_smooth_104 ?_
    obtain ⟨x30, ex30, hF⟩ := ltt_some hF
    refine lv_topi (fun zx30 ezx30 => ?_)
    obtain rfl : x30 = zx30 := ex30.trans ezx30.symm
    refine lv_iconst (v := (2 : Int32)) hx hb dX2_smooth_105 (by decide) ?_
    refine lv_iload hx hb dX2_smooth_106 (lv_at hl 0 rfl) ?_
    refine lv_imul hx hb dX2_smooth_108 ?_
    obtain ⟨x31, ex31, hF⟩ := ltt_some hF
    refine lv_topi (fun zx31 ezx31 => ?_)
    obtain rfl : x31 = zx31 := ex31.trans ezx31.symm
    refine lv_iconst (v := (3 : Int32)) hx hb dX2_smooth_109 (by decide) ?_
    refine lv_iload hx hb dX2_smooth_110 (lv_at hl 1 rfl) ?_
    refine lv_imul hx hb dX2_smooth_112 ?_
    obtain ⟨x32, ex32, hF⟩ := ltt_some hF
    refine lv_topi (fun zx32 ezx32 => ?_)
    obtain rfl : x32 = zx32 := ex32.trans ezx32.symm
    refine lv_iadd hx hb dX2_smooth_113 ?_
    obtain ⟨x33, ex33, hF⟩ := ltt_some hF
    refine lv_topi (fun zx33 ezx33 => ?_)
    obtain rfl : x33 = zx33 := ex33.trans ezx33.symm
    refine lv_iload hx hb dX2_smooth_114 (lv_at hl 2 rfl) ?_
    refine lv_iadd hx hb dX2_smooth_116 ?_
    obtain ⟨x34, ex34, hF⟩ := ltt_some hF
    refine lv_topi (fun zx34 ezx34 => ?_)
    obtain rfl : x34 = zx34 := ex34.trans ezx34.symm
    refine lv_iload hx hb dX2_smooth_117 (lv_at hl 3 rfl) ?_
    refine lv_iadd hx hb dX2_smooth_119 ?_
    obtain ⟨x35, ex35, hF⟩ := ltt_some hF
    refine lv_topi (fun zx35 ezx35 => ?_)
    obtain rfl : x35 = zx35 := ex35.trans ezx35.symm
    refine lv_iload hx hb dX2_smooth_120 (lv_at hl 8 rfl) ?_
    refine lv_iadd hx hb dX2_smooth_122 ?_
    obtain ⟨x36, ex36, hF⟩ := ltt_some hF
    refine lv_topi (fun zx36 ezx36 => ?_)
    obtain rfl : x36 = zx36 := ex36.trans ezx36.symm
    refine lv_iconst (v := (4 : Int32)) hx hb dX2_smooth_123 (by decide) ?_
    refine lv_iadd hx hb dX2_smooth_124 ?_
    obtain ⟨x37, ex37, hF⟩ := ltt_some hF
    refine lv_topi (fun zx37 ezx37 => ?_)
    obtain rfl : x37 = zx37 := ex37.trans ezx37.symm
    refine lv_iconst (v := (3 : Int32)) hx hb dX2_smooth_125 (by decide) ?_
    refine lv_ishr hx hb dX2_smooth_126 ?_
    obtain ⟨x38, ex38, hF⟩ := ltt_some hF
    refine lv_topi (fun zx38 ezx38 => ?_)
    obtain rfl : x38 = zx38 := ex38.trans ezx38.symm
    refine W_st (st' := [.int x38, .int x30, .ref (ad b1)]) (by rw [va_some ho1]) ?_
    obtain ⟨hvc, hF⟩ := chk_some hF
    refine va_iast hx hb hK hP hD hS b1 1 (wld_i ct ad G M28 hc1 hk1) rfl hvc dX2_smooth_127 (fun H locs hP hD hS => ?_)
    obtain ⟨M39, eM39, hF⟩ := ltt_some hF
    rw [set_i ct ad G M28 hc1 hk1, ← eM39] at hP hD
    obtain rfl := Option.some.inj hF
    exact W.vret hx hb hr (fun t ht hW => ⟨⟨(), rfl, trivial, ⟨by rw [ht]; exact hP, va_K.moved hW.alike hK, hD⟩⟩, hS.F ht⟩) hS.2.2 dX2_smooth_128
  · rw [if_pos c5] at hF
    refine lv_aloadq_n hx hb dX2_smooth_16 rfl (lv_at hl 2 rfl) ?_
    refine lv_iload_n hx hb dX2_smooth_17 rfl (lv_at hl 3 rfl) ?_
    refine lv_iconst (v := (2 : Int32)) hx hb dX2_smooth_18 (by decide) ?_
    refine lv_iload hx hb dX2_smooth_19 (lv_at hl 0 rfl) ?_
    refine lv_imul hx hb dX2_smooth_21 ?_
    obtain ⟨x40, ex40, hF⟩ := ltt_some hF
    refine lv_topi (fun zx40 ezx40 => ?_)
    obtain rfl : x40 = zx40 := ex40.trans ezx40.symm
    refine lv_iload hx hb dX2_smooth_22 (lv_at hl 1 rfl) ?_
    refine lv_iadd hx hb dX2_smooth_24 ?_
    obtain ⟨x41, ex41, hF⟩ := ltt_some hF
    refine lv_topi (fun zx41 ezx41 => ?_)
    obtain rfl : x41 = zx41 := ex41.trans ezx41.symm
    refine lv_iload hx hb dX2_smooth_25 (lv_at hl 7 rfl) ?_
    refine lv_iadd hx hb dX2_smooth_27 ?_
    obtain ⟨x42, ex42, hF⟩ := ltt_some hF
    refine lv_topi (fun zx42 ezx42 => ?_)
    obtain rfl : x42 = zx42 := ex42.trans ezx42.symm
    refine lv_iconst (v := (2 : Int32)) hx hb dX2_smooth_28 (by decide) ?_
    refine lv_iadd hx hb dX2_smooth_29 ?_
    obtain ⟨x43, ex43, hF⟩ := ltt_some hF
    refine lv_topi (fun zx43 ezx43 => ?_)
    obtain rfl : x43 = zx43 := ex43.trans ezx43.symm
    refine lv_iconst (v := (2 : Int32)) hx hb dX2_smooth_30 (by decide) ?_
    refine lv_ishr hx hb dX2_smooth_31 ?_
    obtain ⟨x44, ex44, hF⟩ := ltt_some hF
    refine lv_topi (fun zx44 ezx44 => ?_)
    obtain rfl : x44 = zx44 := ex44.trans ezx44.symm
    refine W_st (st' := [.int x44, .int p1, .ref (ad b1)]) (by rw [va_some ho1]) ?_
    obtain ⟨hvc, hF⟩ := chk_some hF
    refine va_iast hx hb hK hP hD hS b1 1 (wld_i ct ad G M hc1 hk1) rfl hvc dX2_smooth_32 (fun H locs hP hD hS => ?_)
    obtain ⟨M45, eM45, hF⟩ := ltt_some hF
    rw [set_i ct ad G M hc1 hk1, ← eM45] at hP hD
    obtain rfl := Option.some.inj hF
    exact W.vret hx hb hr (fun t ht hW => ⟨⟨(), rfl, trivial, ⟨by rw [ht]; exact hP, va_K.moved hW.alike hK, hD⟩⟩, hS.F ht⟩) hS.2.2 dX2_smooth_33
theorem dX3_beginsBehind_0 : decode cX3_beginsBehind 0 = .ok (.aload_n 1, 1) := by decide +kernel
theorem dX3_beginsBehind_1 : decode cX3_beginsBehind 1 = .ok (.getfield 7, 3) := by decide +kernel
theorem dX3_beginsBehind_4 : decode cX3_beginsBehind 4 = .ok (.astore_n 2, 1) := by decide +kernel
theorem dX3_beginsBehind_5 : decode cX3_beginsBehind 5 = .ok (.aload_n 0, 1) := by decide +kernel
theorem dX3_beginsBehind_6 : decode cX3_beginsBehind 6 = .ok (.getfield 7, 3) := by decide +kernel
theorem dX3_beginsBehind_9 : decode cX3_beginsBehind 9 = .ok (.iconst 0, 1) := by decide +kernel
theorem dX3_beginsBehind_10 : decode cX3_beginsBehind 10 = .ok (.iaload, 1) := by decide +kernel
theorem dX3_beginsBehind_11 : decode cX3_beginsBehind 11 = .ok (.ifCond .eq 123, 3) := by decide +kernel
theorem dX3_beginsBehind_14 : decode cX3_beginsBehind 14 = .ok (.aload_n 0, 1) := by decide +kernel
theorem dX3_beginsBehind_15 : decode cX3_beginsBehind 15 = .ok (.getfield 7, 3) := by decide +kernel
theorem dX3_beginsBehind_18 : decode cX3_beginsBehind 18 = .ok (.bipush 18, 2) := by decide +kernel
theorem dX3_beginsBehind_20 : decode cX3_beginsBehind 20 = .ok (.iaload, 1) := by decide +kernel
theorem dX3_beginsBehind_21 : decode cX3_beginsBehind 21 = .ok (.aload_n 2, 1) := by decide +kernel
theorem dX3_beginsBehind_22 : decode cX3_beginsBehind 22 = .ok (.bipush 18, 2) := by decide +kernel
theorem dX3_beginsBehind_24 : decode cX3_beginsBehind 24 = .ok (.iaload, 1) := by decide +kernel
theorem dX3_beginsBehind_25 : decode cX3_beginsBehind 25 = .ok (.if_icmp .ne 109, 3) := by decide +kernel
theorem dX3_beginsBehind_28 : decode cX3_beginsBehind 28 = .ok (.aload_n 0, 1) := by decide +kernel
theorem dX3_beginsBehind_29 : decode cX3_beginsBehind 29 = .ok (.getfield 7, 3) := by decide +kernel
theorem dX3_beginsBehind_32 : decode cX3_beginsBehind 32 = .ok (.iconst 3, 1) := by decide +kernel
theorem dX3_beginsBehind_33 : decode cX3_beginsBehind 33 = .ok (.iaload, 1) := by decide +kernel
theorem dX3_beginsBehind_34 : decode cX3_beginsBehind 34 = .ok (.aload_n 2, 1) := by decide +kernel
theorem dX3_beginsBehind_35 : decode cX3_beginsBehind 35 = .ok (.iconst 3, 1) := by decide +kernel
theorem dX3_beginsBehind_36 : decode cX3_beginsBehind 36 = .ok (.iaload, 1) := by decide +kernel
theorem dX3_beginsBehind_37 : decode cX3_beginsBehind 37 = .ok (.if_icmp .ne 97, 3) := by decide +kernel
theorem dX3_beginsBehind_40 : decode cX3_beginsBehind 40 = .ok (.aload_n 0, 1) := by decide +kernel
theorem dX3_beginsBehind_41 : decode cX3_beginsBehind 41 = .ok (.getfield 7, 3) := by decide +kernel
theorem dX3_beginsBehind_44 : decode cX3_beginsBehind 44 = .ok (.iconst 2, 1) := by decide +kernel
theorem dX3_beginsBehind_45 : decode cX3_beginsBehind 45 = .ok (.iaload, 1) := by decide +kernel
theorem dX3_beginsBehind_46 : decode cX3_beginsBehind 46 = .ok (.aload_n 2, 1) := by decide +kernel
theorem dX3_beginsBehind_47 : decode cX3_beginsBehind 47 = .ok (.iconst 2, 1) := by decide +kernel
theorem dX3_beginsBehind_48 : decode cX3_beginsBehind 48 = .ok (.iaload, 1) := by decide +kernel
theorem dX3_beginsBehind_49 : decode cX3_beginsBehind 49 = .ok (.if_icmp .ne 85, 3) := by decide +kernel
theorem dX3_beginsBehind_52 : decode cX3_beginsBehind 52 = .ok (.aload_n 0, 1) := by decide +kernel
theorem dX3_beginsBehind_53 : decode cX3_beginsBehind 53 = .ok (.getfield 7, 3) := by decide +kernel
theorem dX3_beginsBehind_56 : decode cX3_beginsBehind 56 = .ok (.bipush 11, 2) := by decide +kernel
theorem dX3_beginsBehind_58 : decode cX3_beginsBehind 58 = .ok (.iaload, 1) := by decide +kernel
theorem dX3_beginsBehind_59 : decode cX3_beginsBehind 59 = .ok (.ifCond .ne 7, 3) := by decide +kernel
theorem dX3_beginsBehind_62 : decode cX3_beginsBehind 62 = .ok (.iconst 1, 1) := by decide +kernel
theorem dX3_beginsBehind_63 : decode cX3_beginsBehind 63 = .ok (.goto 4, 3) := by decide +kernel
theorem dX3_beginsBehind_66 : decode cX3_beginsBehind 66 = .ok (.iconst 0, 1) := by decide +kernel
theorem dX3_beginsBehind_67 : decode cX3_beginsBehind 67 = .ok (.aload_n 2, 1) := by decide +kernel
theorem dX3_beginsBehind_68 : decode cX3_beginsBehind 68 = .ok (.bipush 11, 2) := by decide +kernel
theorem dX3_beginsBehind_70 : decode cX3_beginsBehind 70 = .ok (.iaload, 1) := by decide +kernel
theorem dX3_beginsBehind_71 : decode cX3_beginsBehind 71 = .ok (.ifCond .ne 7, 3) := by decide +kernel
theorem dX3_beginsBehind_74 : decode cX3_beginsBehind 74 = .ok (.iconst 1, 1) := by decide +kernel
theorem dX3_beginsBehind_75 : decode cX3_beginsBehind 75 = .ok (.goto 4, 3) := by decide +kernel
theorem dX3_beginsBehind_78 : decode cX3_beginsBehind 78 = .ok (.iconst 0, 1) := by decide +kernel
theorem dX3_beginsBehind_79 : decode cX3_beginsBehind 79 = .ok (.if_icmp .ne 55, 3) := by decide +kernel
theorem dX3_beginsBehind_82 : decode cX3_beginsBehind 82 = .ok (.aload_n 0, 1) := by decide +kernel
theorem dX3_beginsBehind_83 : decode cX3_beginsBehind 83 = .ok (.getfield 7, 3) := by decide +kernel
theorem dX3_beginsBehind_86 : decode cX3_beginsBehind 86 = .ok (.iconst 4, 1) := by decide +kernel
theorem dX3_beginsBehind_87 : decode cX3_beginsBehind 87 = .ok (.iaload, 1) := by decide +kernel
theorem dX3_beginsBehind_88 : decode cX3_beginsBehind 88 = .ok (.aload_n 2, 1) := by decide +kernel
theorem dX3_beginsBehind_89 : decode cX3_beginsBehind 89 = .ok (.iconst 4, 1) := by decide +kernel
theorem dX3_beginsBehind_90 : decode cX3_beginsBehind 90 = .ok (.iaload, 1) := by decide +kernel
theorem dX3_beginsBehind_91 : decode cX3_beginsBehind 91 = .ok (.if_icmp .ne 43, 3) := by decide +kernel
theorem dX3_beginsBehind_94 : decode cX3_beginsBehind 94 = .ok (.aload_n 0, 1) := by decide +kernel
theorem dX3_beginsBehind_95 : decode cX3_beginsBehind 95 = .ok (.getfield 7, 3) := by decide +kernel
theorem dX3_beginsBehind_98 : decode cX3_beginsBehind 98 = .ok (.iconst 5, 1) := by decide +kernel
theorem dX3_beginsBehind_99 : decode cX3_beginsBehind 99 = .ok (.iaload, 1) := by decide +kernel
theorem dX3_beginsBehind_100 : decode cX3_beginsBehind 100 = .ok (.aload_n 2, 1) := by decide +kernel
theorem dX3_beginsBehind_101 : decode cX3_beginsBehind 101 = .ok (.iconst 5, 1) := by decide +kernel
theorem dX3_beginsBehind_102 : decode cX3_beginsBehind 102 = .ok (.iaload, 1) := by decide +kernel
theorem dX3_beginsBehind_103 : decode cX3_beginsBehind 103 = .ok (.if_icmp .ne 31, 3) := by decide +kernel
theorem dX3_beginsBehind_106 : decode cX3_beginsBehind 106 = .ok (.aload_n 0, 1) := by decide +kernel
theorem dX3_beginsBehind_107 : decode cX3_beginsBehind 107 = .ok (.getfield 7, 3) := by decide +kernel
theorem dX3_beginsBehind_110 : decode cX3_beginsBehind 110 = .ok (.bipush 6, 2) := by decide +kernel
theorem dX3_beginsBehind_112 : decode cX3_beginsBehind 112 = .ok (.iaload, 1) := by decide +kernel
theorem dX3_beginsBehind_113 : decode cX3_beginsBehind 113 = .ok (.aload_n 2, 1) := by decide +kernel
theorem dX3_beginsBehind_114 : decode cX3_beginsBehind 114 = .ok (.bipush 6, 2) := by decide +kernel
theorem dX3_beginsBehind_116 : decode cX3_beginsBehind 116 = .ok (.iaload, 1) := by decide +kernel
theorem dX3_beginsBehind_117 : decode cX3_beginsBehind 117 = .ok (.if_icmp .ne 17, 3) := by decide +kernel
theorem dX3_beginsBehind_120 : decode cX3_beginsBehind 120 = .ok (.aload_n 0, 1) := by decide +kernel
theorem dX3_beginsBehind_121 : decode cX3_beginsBehind 121 = .ok (.getfield 7, 3) := by decide +kernel
theorem dX3_beginsBehind_124 : decode cX3_beginsBehind 124 = .ok (.bipush 7, 2) := by decide +kernel
theorem dX3_beginsBehind_126 : decode cX3_beginsBehind 126 = .ok (.iaload, 1) := by decide +kernel
theorem dX3_beginsBehind_127 : decode cX3_beginsBehind 127 = .ok (.aload_n 2, 1) := by decide +kernel
theorem dX3_beginsBehind_128 : decode cX3_beginsBehind 128 = .ok (.bipush 7, 2) := by decide +kernel
theorem dX3_beginsBehind_130 : decode cX3_beginsBehind 130 = .ok (.iaload, 1) := by decide +kernel
theorem dX3_beginsBehind_131 : decode cX3_beginsBehind 131 = .ok (.if_icmp .eq 7, 3) := by decide +kernel
theorem dX3_beginsBehind_134 : decode cX3_beginsBehind 134 = .ok (.iconst 1, 1) := by decide +kernel
theorem dX3_beginsBehind_135 : decode cX3_beginsBehind 135 = .ok (.goto 4, 3) := by decide +kernel
theorem dX3_beginsBehind_138 : decode cX3_beginsBehind 138 = .ok (.iconst 0, 1) := by decide +kernel
theorem dX3_beginsBehind_139 : decode cX3_beginsBehind 139 = .ok (.ireturn, 1) := by decide +kernel
def FX3_beginsBehind (G : GG) (M : DD) (a : Nat) (p0 : Option Nat) : Option (DD × Int32) :=
  dr G 3 p0 fun b1 =>
  dr G 13 ((M.2 a 0)) fun b2 =>
  chk (¬ (((0 : Int32)) < 0 ∨ G.2.2 b2 ≤ ((0 : Int32)).toNatClampNeg)) <|
  ltt (M.1 b2 ((0 : Int32)).toNatClampNeg) fun x3 =>
  bnd (if x3 = ((0 : Int32)) then (some ((1 : Int32))) else
  (chk (¬ (((18 : Int32)) < 0 ∨ G.2.2 b2 ≤ ((18 : Int32)).toNatClampNeg)) <|
  ltt (M.1 b2 ((18 : Int32)).toNatClampNeg) fun x6 =>
  dr G 13 ((M.2 b1 0)) fun b7 =>
  chk (¬ (((18 : Int32)) < 0 ∨ G.2.2 b7 ≤ ((18 : Int32)).toNatClampNeg)) <|
  ltt (M.1 b7 ((18 : Int32)).toNatClampNeg) fun x8 =>
  bnd (if x6 = x8 then (chk (¬ (((3 : Int32)) < 0 ∨ G.2.2 b2 ≤ ((3 : Int32)).toNatClampNeg)) <|
  ltt (M.1 b2 ((3 : Int32)).toNatClampNeg) fun x11 =>
  chk (¬ (((3 : Int32)) < 0 ∨ G.2.2 b7 ≤ ((3 : Int32)).toNatClampNeg)) <|
  ltt (M.1 b7 ((3 : Int32)).toNatClampNeg) fun x12 =>
  bnd (if x11 = x12 then (chk (¬ (((2 : Int32)) < 0 ∨ G.2.2 b2 ≤ ((2 : Int32)).toNatClampNeg)) <|
  ltt (M.1 b2 ((2 : Int32)).toNatClampNeg) fun x15 =>
  chk (¬ (((2 : Int32)) < 0 ∨ G.2.2 b7 ≤ ((2 : Int32)).toNatClampNeg)) <|
  ltt (M.1 b7 ((2 : Int32)).toNatClampNeg) fun x16 =>
  bnd (if x15 = x16 then (chk (¬ (((11 : Int32)) < 0 ∨ G.2.2 b2 ≤ ((11 : Int32)).toNatClampNeg)) <|
  ltt (M.1 b2 ((11 : Int32)).toNatClampNeg) fun x19 =>
  bnd (if x19 = ((0 : Int32)) then (some ((1 : Int32))) else
  (some ((0 : Int32)))) fun (y20 : Int32) =>
  chk (¬ (((11 : Int32)) < 0 ∨ G.2.2 b7 ≤ ((11 : Int32)).toNatClampNeg)) <|
  ltt (M.1 b7 ((11 : Int32)).toNatClampNeg) fun x21 =>
  bnd (if x21 = ((0 : Int32)) then (some ((1 : Int32))) else
  (some ((0 : Int32)))) fun (y22 : Int32) =>
  bnd (if y20 = y22 then (chk (¬ (((4 : Int32)) < 0 ∨ G.2.2 b2 ≤ ((4 : Int32)).toNatClampNeg)) <|
  ltt (M.1 b2 ((4 : Int32)).toNatClampNeg) fun x25 =>
  chk (¬ (((4 : Int32)) < 0 ∨ G.2.2 b7 ≤ ((4 : Int32)).toNatClampNeg)) <|
  ltt (M.1 b7 ((4 : Int32)).toNatClampNeg) fun x26 =>
  bnd (if x25 = x26 then (chk (¬ (((5 : Int32)) < 0 ∨ G.2.2 b2 ≤ ((5 : Int32)).toNatClampNeg)) <|
  ltt (M.1 b2 ((5 : Int32)).toNatClampNeg) fun x29 =>
  chk (¬ (((5 : Int32)) < 0 ∨ G.2.2 b7 ≤ ((5 : Int32)).toNatClampNeg)) <|
  ltt (M.1 b7 ((5 : Int32)).toNatClampNeg) fun x30 =>
  bnd (if x29 = x30 then (chk (¬ (((6 : Int32)) < 0 ∨ G.2.2 b2 ≤ ((6 : Int32)).toNatClampNeg)) <|
  ltt (M.1 b2 ((6 : Int32)).toNatClampNeg) fun x33 =>
  chk (¬ (((6 : Int32)) < 0 ∨ G.2.2 b7 ≤ ((6 : Int32)).toNatClampNeg)) <|
  ltt (M.1 b7 ((6 : Int32)).toNatClampNeg) fun x34 =>
  bnd (if x33 = x34 then (chk (¬ (((7 : Int32)) < 0 ∨ G.2.2 b2 ≤ ((7 : Int32)).toNatClampNeg)) <|
  ltt (M.1 b2 ((7 : Int32)).toNatClampNeg) fun x37 =>
  chk (¬ (((7 : Int32)) < 0 ∨ G.2.2 b7 ≤ ((7 : Int32)).toNatClampNeg)) <|
  ltt (M.1 b7 ((7 : Int32)).toNatClampNeg) fun x38 =>
  bnd (if x37 = x38 then (some ((0 : Int32))) else
  (some ((1 : Int32)))) fun (y39 : Int32) =>
  some (y39)) else
  (some ((1 : Int32)))) fun (y35 : Int32) =>
  some (y35)) else
  (some ((1 : Int32)))) fun (y31 : Int32) =>
  some (y31)) else
  (some ((1 : Int32)))) fun (y27 : Int32) =>
  some (y27)) else
  (some ((1 : Int32)))) fun (y23 : Int32) =>
  some (y23)) else
  (some ((1 : Int32)))) fun (y17 : Int32) =>
  some (y17)) else
  (some ((1 : Int32)))) fun (y13 : Int32) =>
  some (y13)) else
  (some ((1 : Int32)))) fun (y9 : Int32) =>
  some (y9))) fun (y4 : Int32) =>
  chk (y4 = 0 ∨ y4 = 1) <|
  some (M, y4)
set_option maxHeartbeats 4000000 in
set_option maxRecDepth 100000 in
theorem kX3_beginsBehind (l : Launch) (D : va_G) (ct : CT) (ad : Nat → Nat) (Z : Nat → Nat) (G : GG) (M : DD) (sz : Nat) (a : Nat) (p0 : Option Nat) (y : DD × Int32) (hc : a < G.1) (hk : G.2.1 a = 3) (hF : FX3_beginsBehind G M a p0 = some y) : Met l yX3_beginsBehind wsX3_beginsBehind ({ frames := 0, cells := 0, slots := 0, locals := 0 }) (va_Pc [.ref (ad a), va_re ad p0] (kB D ct ad Z G M sz)) (va_Qi (fun (q : Int32) (_ : Unit) => q = y.2) (fun _ t => kE D ct ad G (wA ad G sz) y.1 t) (wA ad G sz)) 0 0 (wA ad G sz) := by
  refine Met.ofW (cc := cX3_beginsBehind) (maxL := 3) (ret := (some .boolean)) (by decide) rfl ?_
  intro p e s m args below meth c s₁ B hml hv
  obtain ⟨rfl, hsz, hP, hK, hD0, hZ, hN⟩ := hv
  have hx := B.exec
  have hb := B.bytes
  have hr := B.returns
  have hts := atoms_spec (ws := wsX3_beginsBehind) B.pre
  have hown : s.vm.findClass RX3 = some m.cls := findClass_of_methodNamed B.named
  have hlocks := B.notSynchronized
  subst hsz
  have hD := wD_self (sz := s.heap.size) hD0
  have hA9 : ∀ q, s.heap.size ≤ q → wA ad G s.heap.size q := fun q h => Or.inr h
  generalize hAe : wA ad G s.heap.size = A at hD hA9 hZ ⊢
  have hS : va_S A s.heap s.heap [] := va_S.rf
  have hl := lv_entry ([.ref (ad a), va_re ad p0]) (n := 3) (by cases p0 <;> exact Nat.le_of_ble_eq_true rfl)
  rw [lg_entry_eq]
  generalize (lg_sl ([.ref (ad a), va_re ad p0]) ++ List.replicate (3 - (lg_sl ([.ref (ad a), va_re ad p0])).length) Slot.unset).toArray = ls at hl ⊢
  have hl : lv_has ls 3 [(0, .ref (ad a)), (1, va_re ad p0)] := by have e9 : lv_args 0 [.ref (ad a), va_re ad p0] = [(0, .ref (ad a)), (1, va_re ad p0)] := (by cases p0 <;> rfl); rw [e9] at hl; exact hl
  unfold FX3_beginsBehind at hF
  refine lv_aloadq_n hx hb dX3_beginsBehind_0 rfl (lv_at hl 1 rfl) ?_
  obtain ⟨b1, ho1, hc1, hk1, hF⟩ := dr_some hF
  refine W_st (st' := [.ref (ad b1)]) (by rw [va_some ho1]) ?_
  refine va_get (D := D) (ci := 3) (v := va_re ad (M.2 b1 0)) (C := RX3) (T := TX3) (N := 4) hx hb hts (by decide +kernel) hown hK hP b1 (wld_o ct ad G M hc1 hk1 (by decide)) rfl 0 (by decide) (hts (.fieldLink RX3 7 "VideoSuite$Header" "v" "[I") (by decide +kernel)) (fun _ h9 => h9) rfl dX3_beginsBehind_1 ?_
  refine lv_astoreq_n (lv' := [(2, va_re ad (M.2 b1 0)), (0, .ref (ad a)), (1, va_re ad p0)]) hx hb dX3_beginsBehind_4 rfl hl (by decide) (by generalize p0 = o9; cases o9 <;> rfl) (fun ls hl => ?_)
  refine lv_aload_n hx hb dX3_beginsBehind_5 rfl (lv_at hl 1 rfl) ?_
  refine va_get (D := D) (ci := 3) (v := va_re ad (M.2 a 0)) (C := RX3) (T := TX3) (N := 4) hx hb hts (by decide +kernel) hown hK hP a (wld_o ct ad G M hc hk (by decide)) rfl 0 (by decide) (hts (.fieldLink RX3 7 "VideoSuite$Header" "v" "[I") (by decide +kernel)) (fun _ h9 => h9) rfl dX3_beginsBehind_6 ?_
  refine lv_iconst (v := (0 : Int32)) hx hb dX3_beginsBehind_9 (by decide) ?_
  obtain ⟨b2, ho2, hc2, hk2, hF⟩ := dr_some hF
  refine W_st (st' := [.int (0 : Int32), .ref (ad b2)]) (by rw [va_some ho2]) ?_
  obtain ⟨hvc, hF⟩ := chk_some hF
  refine va_iald hx hb hK hP b2 1 (wld_i ct ad G M hc2 hk2) rfl hvc dX3_beginsBehind_10 ?_
  obtain ⟨x3, ex3, hF⟩ := ltt_some hF
  refine lv_topi (fun zx3 ezx3 => ?_)
  obtain rfl : x3 = zx3 := ex3.trans ezx3.symm
  obtain ⟨y4, hy4, hF⟩ := bnd_some hF
  have J4 : ∀ (H : Heap) (locs : List Loc) (ls : Array Slot), va_P D classes (wld ct ad G M) H → va_D A (wld ct ad G M) → va_S A s.heap H locs → lv_has ls 3 [(2, va_re ad (M.2 b1 0)), (0, .ref (ad a)), (1, va_re ad p0)] → W p l e (headSpec wsX3_beginsBehind ({ frames := 0, cells := 0, slots := 0, locals := 0 })).room s m ([.ref (ad a), va_re ad p0] : List Value).toArray below meth c H locs 0 0 (MQ below (va_Qi (fun (q : Int32) (_ : Unit) => q = y.2) (fun _ t => kE D ct ad G A y.1 t) A) ([.ref (ad a), va_re ad p0] : List Value).toArray s 0 0 A) (F0 m 139 ls [.int y4]) := by
    intro H locs ls hP hD hS hl
    obtain ⟨hz9, hF⟩ := chk_some hF
    obtain rfl := Option.some.inj hF
    exact W.zret (v := y4) (ty := .boolean) hx hb hr (nar_z hz9).1 (fun t ht hW => ⟨⟨_, (), rfl, rfl, ⟨by rw [ht]; exact hP, va_K.moved hW.alike hK, hD⟩⟩, hS.F ht⟩) hS.2.2 dX3_beginsBehind_139
  clear hF
  have hF := hy4
  clear hy4
  refine lv_if_eq (tgt := 134) hx hb dX3_beginsBehind_11 (by decide) (fun c5 => ?_) (fun c5 => ?_)
  · rw [if_pos c5] at hF
    refine lv_iconst (v := (1 : Int32)) hx hb dX3_beginsBehind_134 (by decide) ?_
    refine lv_goto (tgt := 139) hx hb dX3_beginsBehind_135 (by decide) ?_
    obtain rfl := Option.some.inj hF
    exact J4 _ _ _ hP hD hS (lv_sub hl [0, 1, 2] rfl)
  · rw [if_neg c5] at hF
    refine lv_aload_n hx hb dX3_beginsBehind_14 rfl (lv_at hl 1 rfl) ?_
    refine va_get (D := D) (ci := 3) (v := va_re ad (M.2 a 0)) (C := RX3) (T := TX3) (N := 4) hx hb hts (by decide +kernel) hown hK hP a (wld_o ct ad G M hc hk (by decide)) rfl 0 (by decide) (hts (.fieldLink RX3 7 "VideoSuite$Header" "v" "[I") (by decide +kernel)) (fun _ h9 => h9) rfl dX3_beginsBehind_15 ?_
    refine lv_bipush (v := (18 : Int32)) hx hb dX3_beginsBehind_18 (by decide) ?_
    refine W_st (st' := [.int (18 : Int32), .ref (ad b2)]) (by rw [va_some ho2]) ?_
    obtain ⟨hvc, hF⟩ := chk_some hF
    refine va_iald hx hb hK hP b2 1 (wld_i ct ad G M hc2 hk2) rfl hvc dX3_beginsBehind_20 ?_
    obtain ⟨x6, ex6, hF⟩ := ltt_some hF
    refine lv_topi (fun zx6 ezx6 => ?_)
    obtain rfl : x6 = zx6 := ex6.trans ezx6.symm
    refine lv_aloadq_n hx hb dX3_beginsBehind_21 rfl (lv_at hl 0 rfl) ?_
    refine lv_bipush (v := (18 : Int32)) hx hb dX3_beginsBehind_22 (by decide) ?_
    obtain ⟨b7, ho7, hc7, hk7, hF⟩ := dr_some hF
    refine W_st (st' := [.int (18 : Int32), .ref (ad b7), .int x6]) (by rw [va_some ho7]) ?_
    obtain ⟨hvc, hF⟩ := chk_some hF
    refine va_iald hx hb hK hP b7 1 (wld_i ct ad G M hc7 hk7) rfl hvc dX3_beginsBehind_24 ?_
    obtain ⟨x8, ex8, hF⟩ := ltt_some hF
    refine lv_topi (fun zx8 ezx8 => ?_)
    obtain rfl : x8 = zx8 := ex8.trans ezx8.symm
    obtain ⟨y9, hy9, hF⟩ := bnd_some hF
    have J9 : ∀ (H : Heap) (locs : List Loc) (ls : Array Slot), va_P D classes (wld ct ad G M) H → va_D A (wld ct ad G M) → va_S A s.heap H locs → lv_has ls 3 [(2, va_re ad (M.2 b1 0)), (0, .ref (ad a)), (1, va_re ad p0)] → W p l e (headSpec wsX3_beginsBehind ({ frames := 0, cells := 0, slots := 0, locals := 0 })).room s m ([.ref (ad a), va_re ad p0] : List Value).toArray below meth c H locs 0 0 (MQ below (va_Qi (fun (q : Int32) (_ : Unit) => q = y.2) (fun _ t => kE D ct ad G A y.1 t) A) ([.ref (ad a), va_re ad p0] : List Value).toArray s 0 0 A) (F0 m 139 ls [.int y9]) := by
      intro H locs ls hP hD hS hl
      obtain rfl := Option.some.inj hF
      exact J4 _ _ _ hP hD hS (lv_sub hl [0, 1, 2] rfl)
    clear hF
    have hF := hy9
    clear hy9
    refine lv_icmp_ne (tgt := 134) hx hb dX3_beginsBehind_25 (by decide) (fun c10 => ?_) (fun c10 => ?_)
    · rw [if_neg c10] at hF
      refine lv_iconst (v := (1 : Int32)) hx hb dX3_beginsBehind_134 (by decide) ?_
      refine lv_goto (tgt := 139) hx hb dX3_beginsBehind_135 (by decide) ?_
      obtain rfl := Option.some.inj hF
      exact J9 _ _ _ hP hD hS (lv_sub hl [0, 1, 2] rfl)
    · rw [if_pos c10] at hF
      refine lv_aload_n hx hb dX3_beginsBehind_28 rfl (lv_at hl 1 rfl) ?_
      refine va_get (D := D) (ci := 3) (v := va_re ad (M.2 a 0)) (C := RX3) (T := TX3) (N := 4) hx hb hts (by decide +kernel) hown hK hP a (wld_o ct ad G M hc hk (by decide)) rfl 0 (by decide) (hts (.fieldLink RX3 7 "VideoSuite$Header" "v" "[I") (by decide +kernel)) (fun _ h9 => h9) rfl dX3_beginsBehind_29 ?_
      refine lv_iconst (v := (3 : Int32)) hx hb dX3_beginsBehind_32 (by decide) ?_
      refine W_st (st' := [.int (3 : Int32), .ref (ad b2)]) (by rw [va_some ho2]) ?_
      obtain ⟨hvc, hF⟩ := chk_some hF
      refine va_iald hx hb hK hP b2 1 (wld_i ct ad G M hc2 hk2) rfl hvc dX3_beginsBehind_33 ?_
      obtain ⟨x11, ex11, hF⟩ := ltt_some hF
      refine lv_topi (fun zx11 ezx11 => ?_)
      obtain rfl : x11 = zx11 := ex11.trans ezx11.symm
      refine lv_aloadq_n hx hb dX3_beginsBehind_34 rfl (lv_at hl 0 rfl) ?_
      refine lv_iconst (v := (3 : Int32)) hx hb dX3_beginsBehind_35 (by decide) ?_
      refine W_st (st' := [.int (3 : Int32), .ref (ad b7), .int x11]) (by rw [va_some ho7]) ?_
      obtain ⟨hvc, hF⟩ := chk_some hF
      refine va_iald hx hb hK hP b7 1 (wld_i ct ad G M hc7 hk7) rfl hvc dX3_beginsBehind_36 ?_
      obtain ⟨x12, ex12, hF⟩ := ltt_some hF
      refine lv_topi (fun zx12 ezx12 => ?_)
      obtain rfl : x12 = zx12 := ex12.trans ezx12.symm
      obtain ⟨y13, hy13, hF⟩ := bnd_some hF
      have J13 : ∀ (H : Heap) (locs : List Loc) (ls : Array Slot), va_P D classes (wld ct ad G M) H → va_D A (wld ct ad G M) → va_S A s.heap H locs → lv_has ls 3 [(2, va_re ad (M.2 b1 0)), (0, .ref (ad a)), (1, va_re ad p0)] → W p l e (headSpec wsX3_beginsBehind ({ frames := 0, cells := 0, slots := 0, locals := 0 })).room s m ([.ref (ad a), va_re ad p0] : List Value).toArray below meth c H locs 0 0 (MQ below (va_Qi (fun (q : Int32) (_ : Unit) => q = y.2) (fun _ t => kE D ct ad G A y.1 t) A) ([.ref (ad a), va_re ad p0] : List Value).toArray s 0 0 A) (F0 m 139 ls [.int y13]) := by
        intro H locs ls hP hD hS hl
        obtain rfl := Option.some.inj hF
        exact J9 _ _ _ hP hD hS (lv_sub hl [0, 1, 2] rfl)
      clear hF
      have hF := hy13
      clear hy13
      refine lv_icmp_ne (tgt := 134) hx hb dX3_beginsBehind_37 (by decide) (fun c14 => ?_) (fun c14 => ?_)
      · rw [if_neg c14] at hF
        refine lv_iconst (v := (1 : Int32)) hx hb dX3_beginsBehind_134 (by decide) ?_
        refine lv_goto (tgt := 139) hx hb dX3_beginsBehind_135 (by decide) ?_
        obtain rfl := Option.some.inj hF
        exact J13 _ _ _ hP hD hS (lv_sub hl [0, 1, 2] rfl)
      · rw [if_pos c14] at hF
        refine lv_aload_n hx hb dX3_beginsBehind_40 rfl (lv_at hl 1 rfl) ?_
        refine va_get (D := D) (ci := 3) (v := va_re ad (M.2 a 0)) (C := RX3) (T := TX3) (N := 4) hx hb hts (by decide +kernel) hown hK hP a (wld_o ct ad G M hc hk (by decide)) rfl 0 (by decide) (hts (.fieldLink RX3 7 "VideoSuite$Header" "v" "[I") (by decide +kernel)) (fun _ h9 => h9) rfl dX3_beginsBehind_41 ?_
        refine lv_iconst (v := (2 : Int32)) hx hb dX3_beginsBehind_44 (by decide) ?_
        refine W_st (st' := [.int (2 : Int32), .ref (ad b2)]) (by rw [va_some ho2]) ?_
        obtain ⟨hvc, hF⟩ := chk_some hF
        refine va_iald hx hb hK hP b2 1 (wld_i ct ad G M hc2 hk2) rfl hvc dX3_beginsBehind_45 ?_
        obtain ⟨x15, ex15, hF⟩ := ltt_some hF
        refine lv_topi (fun zx15 ezx15 => ?_)
        obtain rfl : x15 = zx15 := ex15.trans ezx15.symm
        refine lv_aloadq_n hx hb dX3_beginsBehind_46 rfl (lv_at hl 0 rfl) ?_
        refine lv_iconst (v := (2 : Int32)) hx hb dX3_beginsBehind_47 (by decide) ?_
        refine W_st (st' := [.int (2 : Int32), .ref (ad b7), .int x15]) (by rw [va_some ho7]) ?_
        obtain ⟨hvc, hF⟩ := chk_some hF
        refine va_iald hx hb hK hP b7 1 (wld_i ct ad G M hc7 hk7) rfl hvc dX3_beginsBehind_48 ?_
        obtain ⟨x16, ex16, hF⟩ := ltt_some hF
        refine lv_topi (fun zx16 ezx16 => ?_)
        obtain rfl : x16 = zx16 := ex16.trans ezx16.symm
        obtain ⟨y17, hy17, hF⟩ := bnd_some hF
        have J17 : ∀ (H : Heap) (locs : List Loc) (ls : Array Slot), va_P D classes (wld ct ad G M) H → va_D A (wld ct ad G M) → va_S A s.heap H locs → lv_has ls 3 [(2, va_re ad (M.2 b1 0)), (0, .ref (ad a)), (1, va_re ad p0)] → W p l e (headSpec wsX3_beginsBehind ({ frames := 0, cells := 0, slots := 0, locals := 0 })).room s m ([.ref (ad a), va_re ad p0] : List Value).toArray below meth c H locs 0 0 (MQ below (va_Qi (fun (q : Int32) (_ : Unit) => q = y.2) (fun _ t => kE D ct ad G A y.1 t) A) ([.ref (ad a), va_re ad p0] : List Value).toArray s 0 0 A) (F0 m 139 ls [.int y17]) := by
          intro H locs ls hP hD hS hl
          obtain rfl := Option.some.inj hF
          exact J13 _ _ _ hP hD hS (lv_sub hl [0, 1, 2] rfl)
        clear hF
        have hF := hy17
        clear hy17
        refine lv_icmp_ne (tgt := 134) hx hb dX3_beginsBehind_49 (by decide) (fun c18 => ?_) (fun c18 => ?_)
        · rw [if_neg c18] at hF
          refine lv_iconst (v := (1 : Int32)) hx hb dX3_beginsBehind_134 (by decide) ?_
          refine lv_goto (tgt := 139) hx hb dX3_beginsBehind_135 (by decide) ?_
          obtain rfl := Option.some.inj hF
          exact J17 _ _ _ hP hD hS (lv_sub hl [0, 1, 2] rfl)
        · rw [if_pos c18] at hF
          refine lv_aload_n hx hb dX3_beginsBehind_52 rfl (lv_at hl 1 rfl) ?_
          refine va_get (D := D) (ci := 3) (v := va_re ad (M.2 a 0)) (C := RX3) (T := TX3) (N := 4) hx hb hts (by decide +kernel) hown hK hP a (wld_o ct ad G M hc hk (by decide)) rfl 0 (by decide) (hts (.fieldLink RX3 7 "VideoSuite$Header" "v" "[I") (by decide +kernel)) (fun _ h9 => h9) rfl dX3_beginsBehind_53 ?_
          refine lv_bipush (v := (11 : Int32)) hx hb dX3_beginsBehind_56 (by decide) ?_
          refine W_st (st' := [.int (11 : Int32), .ref (ad b2)]) (by rw [va_some ho2]) ?_
          obtain ⟨hvc, hF⟩ := chk_some hF
          refine va_iald hx hb hK hP b2 1 (wld_i ct ad G M hc2 hk2) rfl hvc dX3_beginsBehind_58 ?_
          obtain ⟨x19, ex19, hF⟩ := ltt_some hF
          refine lv_topi (fun zx19 ezx19 => ?_)
          obtain rfl : x19 = zx19 := ex19.trans ezx19.symm
          obtain ⟨y20, hy20, hF⟩ := bnd_some hF
          have J20 : ∀ (H : Heap) (locs : List Loc) (ls : Array Slot), va_P D classes (wld ct ad G M) H → va_D A (wld ct ad G M) → va_S A s.heap H locs → lv_has ls 3 [(2, va_re ad (M.2 b1 0)), (0, .ref (ad a)), (1, va_re ad p0)] → W p l e (headSpec wsX3_beginsBehind ({ frames := 0, cells := 0, slots := 0, locals := 0 })).room s m ([.ref (ad a), va_re ad p0] : List Value).toArray below meth c H locs 0 0 (MQ below (va_Qi (fun (q : Int32) (_ : Unit) => q = y.2) (fun _ t => kE D ct ad G A y.1 t) A) ([.ref (ad a), va_re ad p0] : List Value).toArray s 0 0 A) (F0 m 67 ls [.int y20]) := by
            intro H locs ls hP hD hS hl
            refine lv_aloadq_n hx hb dX3_beginsBehind_67 rfl (lv_at hl 0 rfl) ?_
            refine lv_bipush (v := (11 : Int32)) hx hb dX3_beginsBehind_68 (by decide) ?_
            refine W_st (st' := [.int (11 : Int32), .ref (ad b7), .int y20]) (by rw [va_some ho7]) ?_
            obtain ⟨hvc, hF⟩ := chk_some hF
            refine va_iald hx hb hK hP b7 1 (wld_i ct ad G M hc7 hk7) rfl hvc dX3_beginsBehind_70 ?_
            obtain ⟨x21, ex21, hF⟩ := ltt_some hF
            refine lv_topi (fun zx21 ezx21 => ?_)
            obtain rfl : x21 = zx21 := ex21.trans ezx21.symm
            obtain ⟨y22, hy22, hF⟩ := bnd_some hF
            have J22 : ∀ (H : Heap) (locs : List Loc) (ls : Array Slot), va_P D classes (wld ct ad G M) H → va_D A (wld ct ad G M) → va_S A s.heap H locs → lv_has ls 3 [(2, va_re ad (M.2 b1 0)), (0, .ref (ad a)), (1, va_re ad p0)] → W p l e (headSpec wsX3_beginsBehind ({ frames := 0, cells := 0, slots := 0, locals := 0 })).room s m ([.ref (ad a), va_re ad p0] : List Value).toArray below meth c H locs 0 0 (MQ below (va_Qi (fun (q : Int32) (_ : Unit) => q = y.2) (fun _ t => kE D ct ad G A y.1 t) A) ([.ref (ad a), va_re ad p0] : List Value).toArray s 0 0 A) (F0 m 79 ls [.int y22, .int y20]) := by
              intro H locs ls hP hD hS hl
              obtain ⟨y23, hy23, hF⟩ := bnd_some hF
              have J23 : ∀ (H : Heap) (locs : List Loc) (ls : Array Slot), va_P D classes (wld ct ad G M) H → va_D A (wld ct ad G M) → va_S A s.heap H locs → lv_has ls 3 [(2, va_re ad (M.2 b1 0)), (0, .ref (ad a)), (1, va_re ad p0)] → W p l e (headSpec wsX3_beginsBehind ({ frames := 0, cells := 0, slots := 0, locals := 0 })).room s m ([.ref (ad a), va_re ad p0] : List Value).toArray below meth c H locs 0 0 (MQ below (va_Qi (fun (q : Int32) (_ : Unit) => q = y.2) (fun _ t => kE D ct ad G A y.1 t) A) ([.ref (ad a), va_re ad p0] : List Value).toArray s 0 0 A) (F0 m 139 ls [.int y23]) := by
                intro H locs ls hP hD hS hl
                obtain rfl := Option.some.inj hF
                exact J17 _ _ _ hP hD hS (lv_sub hl [0, 1, 2] rfl)
              clear hF
              have hF := hy23
              clear hy23
              refine lv_icmp_ne (tgt := 134) hx hb dX3_beginsBehind_79 (by decide) (fun c24 => ?_) (fun c24 => ?_)
              · rw [if_neg c24] at hF
                refine lv_iconst (v := (1 : Int32)) hx hb dX3_beginsBehind_134 (by decide) ?_
                refine lv_goto (tgt := 139) hx hb dX3_beginsBehind_135 (by decide) ?_
                obtain rfl := Option.some.inj hF
                exact J23 _ _ _ hP hD hS (lv_sub hl [0, 1, 2] rfl)
              · rw [if_pos c24] at hF
                refine lv_aload_n hx hb dX3_beginsBehind_82 rfl (lv_at hl 1 rfl) ?_
                refine va_get (D := D) (ci := 3) (v := va_re ad (M.2 a 0)) (C := RX3) (T := TX3) (N := 4) hx hb hts (by decide +kernel) hown hK hP a (wld_o ct ad G M hc hk (by decide)) rfl 0 (by decide) (hts (.fieldLink RX3 7 "VideoSuite$Header" "v" "[I") (by decide +kernel)) (fun _ h9 => h9) rfl dX3_beginsBehind_83 ?_
                refine lv_iconst (v := (4 : Int32)) hx hb dX3_beginsBehind_86 (by decide) ?_
                refine W_st (st' := [.int (4 : Int32), .ref (ad b2)]) (by rw [va_some ho2]) ?_
                obtain ⟨hvc, hF⟩ := chk_some hF
                refine va_iald hx hb hK hP b2 1 (wld_i ct ad G M hc2 hk2) rfl hvc dX3_beginsBehind_87 ?_
                obtain ⟨x25, ex25, hF⟩ := ltt_some hF
                refine lv_topi (fun zx25 ezx25 => ?_)
                obtain rfl : x25 = zx25 := ex25.trans ezx25.symm
                refine lv_aloadq_n hx hb dX3_beginsBehind_88 rfl (lv_at hl 0 rfl) ?_
                refine lv_iconst (v := (4 : Int32)) hx hb dX3_beginsBehind_89 (by decide) ?_
                refine W_st (st' := [.int (4 : Int32), .ref (ad b7), .int x25]) (by rw [va_some ho7]) ?_
                obtain ⟨hvc, hF⟩ := chk_some hF
                refine va_iald hx hb hK hP b7 1 (wld_i ct ad G M hc7 hk7) rfl hvc dX3_beginsBehind_90 ?_
                obtain ⟨x26, ex26, hF⟩ := ltt_some hF
                refine lv_topi (fun zx26 ezx26 => ?_)
                obtain rfl : x26 = zx26 := ex26.trans ezx26.symm
                obtain ⟨y27, hy27, hF⟩ := bnd_some hF
                have J27 : ∀ (H : Heap) (locs : List Loc) (ls : Array Slot), va_P D classes (wld ct ad G M) H → va_D A (wld ct ad G M) → va_S A s.heap H locs → lv_has ls 3 [(2, va_re ad (M.2 b1 0)), (0, .ref (ad a)), (1, va_re ad p0)] → W p l e (headSpec wsX3_beginsBehind ({ frames := 0, cells := 0, slots := 0, locals := 0 })).room s m ([.ref (ad a), va_re ad p0] : List Value).toArray below meth c H locs 0 0 (MQ below (va_Qi (fun (q : Int32) (_ : Unit) => q = y.2) (fun _ t => kE D ct ad G A y.1 t) A) ([.ref (ad a), va_re ad p0] : List Value).toArray s 0 0 A) (F0 m 139 ls [.int y27]) := by
                  intro H locs ls hP hD hS hl
                  obtain rfl := Option.some.inj hF
                  exact J23 _ _ _ hP hD hS (lv_sub hl [0, 1, 2] rfl)
                clear hF
                have hF := hy27
                clear hy27
                refine lv_icmp_ne (tgt := 134) hx hb dX3_beginsBehind_91 (by decide) (fun c28 => ?_) (fun c28 => ?_)
                · rw [if_neg c28] at hF
                  refine lv_iconst (v := (1 : Int32)) hx hb dX3_beginsBehind_134 (by decide) ?_
                  refine lv_goto (tgt := 139) hx hb dX3_beginsBehind_135 (by decide) ?_
                  obtain rfl := Option.some.inj hF
                  exact J27 _ _ _ hP hD hS (lv_sub hl [0, 1, 2] rfl)
                · rw [if_pos c28] at hF
                  refine lv_aload_n hx hb dX3_beginsBehind_94 rfl (lv_at hl 1 rfl) ?_
                  refine va_get (D := D) (ci := 3) (v := va_re ad (M.2 a 0)) (C := RX3) (T := TX3) (N := 4) hx hb hts (by decide +kernel) hown hK hP a (wld_o ct ad G M hc hk (by decide)) rfl 0 (by decide) (hts (.fieldLink RX3 7 "VideoSuite$Header" "v" "[I") (by decide +kernel)) (fun _ h9 => h9) rfl dX3_beginsBehind_95 ?_
                  refine lv_iconst (v := (5 : Int32)) hx hb dX3_beginsBehind_98 (by decide) ?_
                  refine W_st (st' := [.int (5 : Int32), .ref (ad b2)]) (by rw [va_some ho2]) ?_
                  obtain ⟨hvc, hF⟩ := chk_some hF
                  refine va_iald hx hb hK hP b2 1 (wld_i ct ad G M hc2 hk2) rfl hvc dX3_beginsBehind_99 ?_
                  obtain ⟨x29, ex29, hF⟩ := ltt_some hF
                  refine lv_topi (fun zx29 ezx29 => ?_)
                  obtain rfl : x29 = zx29 := ex29.trans ezx29.symm
                  refine lv_aloadq_n hx hb dX3_beginsBehind_100 rfl (lv_at hl 0 rfl) ?_
                  refine lv_iconst (v := (5 : Int32)) hx hb dX3_beginsBehind_101 (by decide) ?_
                  refine W_st (st' := [.int (5 : Int32), .ref (ad b7), .int x29]) (by rw [va_some ho7]) ?_
                  obtain ⟨hvc, hF⟩ := chk_some hF
                  refine va_iald hx hb hK hP b7 1 (wld_i ct ad G M hc7 hk7) rfl hvc dX3_beginsBehind_102 ?_
                  obtain ⟨x30, ex30, hF⟩ := ltt_some hF
                  refine lv_topi (fun zx30 ezx30 => ?_)
                  obtain rfl : x30 = zx30 := ex30.trans ezx30.symm
                  obtain ⟨y31, hy31, hF⟩ := bnd_some hF
                  have J31 : ∀ (H : Heap) (locs : List Loc) (ls : Array Slot), va_P D classes (wld ct ad G M) H → va_D A (wld ct ad G M) → va_S A s.heap H locs → lv_has ls 3 [(2, va_re ad (M.2 b1 0)), (0, .ref (ad a)), (1, va_re ad p0)] → W p l e (headSpec wsX3_beginsBehind ({ frames := 0, cells := 0, slots := 0, locals := 0 })).room s m ([.ref (ad a), va_re ad p0] : List Value).toArray below meth c H locs 0 0 (MQ below (va_Qi (fun (q : Int32) (_ : Unit) => q = y.2) (fun _ t => kE D ct ad G A y.1 t) A) ([.ref (ad a), va_re ad p0] : List Value).toArray s 0 0 A) (F0 m 139 ls [.int y31]) := by
                    intro H locs ls hP hD hS hl
                    obtain rfl := Option.some.inj hF
                    exact J27 _ _ _ hP hD hS (lv_sub hl [0, 1, 2] rfl)
                  clear hF
                  have hF := hy31
                  clear hy31
                  refine lv_icmp_ne (tgt := 134) hx hb dX3_beginsBehind_103 (by decide) (fun c32 => ?_) (fun c32 => ?_)
                  · rw [if_neg c32] at hF
                    refine lv_iconst (v := (1 : Int32)) hx hb dX3_beginsBehind_134 (by decide) ?_
                    refine lv_goto (tgt := 139) hx hb dX3_beginsBehind_135 (by decide) ?_
                    obtain rfl := Option.some.inj hF
                    exact J31 _ _ _ hP hD hS (lv_sub hl [0, 1, 2] rfl)
                  · rw [if_pos c32] at hF
                    refine lv_aload_n hx hb dX3_beginsBehind_106 rfl (lv_at hl 1 rfl) ?_
                    refine va_get (D := D) (ci := 3) (v := va_re ad (M.2 a 0)) (C := RX3) (T := TX3) (N := 4) hx hb hts (by decide +kernel) hown hK hP a (wld_o ct ad G M hc hk (by decide)) rfl 0 (by decide) (hts (.fieldLink RX3 7 "VideoSuite$Header" "v" "[I") (by decide +kernel)) (fun _ h9 => h9) rfl dX3_beginsBehind_107 ?_
                    refine lv_bipush (v := (6 : Int32)) hx hb dX3_beginsBehind_110 (by decide) ?_
                    refine W_st (st' := [.int (6 : Int32), .ref (ad b2)]) (by rw [va_some ho2]) ?_
                    obtain ⟨hvc, hF⟩ := chk_some hF
                    refine va_iald hx hb hK hP b2 1 (wld_i ct ad G M hc2 hk2) rfl hvc dX3_beginsBehind_112 ?_
                    obtain ⟨x33, ex33, hF⟩ := ltt_some hF
                    refine lv_topi (fun zx33 ezx33 => ?_)
                    obtain rfl : x33 = zx33 := ex33.trans ezx33.symm
                    refine lv_aloadq_n hx hb dX3_beginsBehind_113 rfl (lv_at hl 0 rfl) ?_
                    refine lv_bipush (v := (6 : Int32)) hx hb dX3_beginsBehind_114 (by decide) ?_
                    refine W_st (st' := [.int (6 : Int32), .ref (ad b7), .int x33]) (by rw [va_some ho7]) ?_
                    obtain ⟨hvc, hF⟩ := chk_some hF
                    refine va_iald hx hb hK hP b7 1 (wld_i ct ad G M hc7 hk7) rfl hvc dX3_beginsBehind_116 ?_
                    obtain ⟨x34, ex34, hF⟩ := ltt_some hF
                    refine lv_topi (fun zx34 ezx34 => ?_)
                    obtain rfl : x34 = zx34 := ex34.trans ezx34.symm
                    obtain ⟨y35, hy35, hF⟩ := bnd_some hF
                    have J35 : ∀ (H : Heap) (locs : List Loc) (ls : Array Slot), va_P D classes (wld ct ad G M) H → va_D A (wld ct ad G M) → va_S A s.heap H locs → lv_has ls 3 [(2, va_re ad (M.2 b1 0)), (0, .ref (ad a)), (1, va_re ad p0)] → W p l e (headSpec wsX3_beginsBehind ({ frames := 0, cells := 0, slots := 0, locals := 0 })).room s m ([.ref (ad a), va_re ad p0] : List Value).toArray below meth c H locs 0 0 (MQ below (va_Qi (fun (q : Int32) (_ : Unit) => q = y.2) (fun _ t => kE D ct ad G A y.1 t) A) ([.ref (ad a), va_re ad p0] : List Value).toArray s 0 0 A) (F0 m 139 ls [.int y35]) := by
                      intro H locs ls hP hD hS hl
                      obtain rfl := Option.some.inj hF
                      exact J31 _ _ _ hP hD hS (lv_sub hl [0, 1, 2] rfl)
                    clear hF
                    have hF := hy35
                    clear hy35
                    refine lv_icmp_ne (tgt := 134) hx hb dX3_beginsBehind_117 (by decide) (fun c36 => ?_) (fun c36 => ?_)
                    · rw [if_neg c36] at hF
                      refine lv_iconst (v := (1 : Int32)) hx hb dX3_beginsBehind_134 (by decide) ?_
                      refine lv_goto (tgt := 139) hx hb dX3_beginsBehind_135 (by decide) ?_
                      obtain rfl := Option.some.inj hF
                      exact J35 _ _ _ hP hD hS (lv_sub hl [0, 1, 2] rfl)
                    · rw [if_pos c36] at hF
                      refine lv_aload_n hx hb dX3_beginsBehind_120 rfl (lv_at hl 1 rfl) ?_
                      refine va_get (D := D) (ci := 3) (v := va_re ad (M.2 a 0)) (C := RX3) (T := TX3) (N := 4) hx hb hts (by decide +kernel) hown hK hP a (wld_o ct ad G M hc hk (by decide)) rfl 0 (by decide) (hts (.fieldLink RX3 7 "VideoSuite$Header" "v" "[I") (by decide +kernel)) (fun _ h9 => h9) rfl dX3_beginsBehind_121 ?_
                      refine lv_bipush (v := (7 : Int32)) hx hb dX3_beginsBehind_124 (by decide) ?_
                      refine W_st (st' := [.int (7 : Int32), .ref (ad b2)]) (by rw [va_some ho2]) ?_
                      obtain ⟨hvc, hF⟩ := chk_some hF
                      refine va_iald hx hb hK hP b2 1 (wld_i ct ad G M hc2 hk2) rfl hvc dX3_beginsBehind_126 ?_
                      obtain ⟨x37, ex37, hF⟩ := ltt_some hF
                      refine lv_topi (fun zx37 ezx37 => ?_)
                      obtain rfl : x37 = zx37 := ex37.trans ezx37.symm
                      refine lv_aloadq_n hx hb dX3_beginsBehind_127 rfl (lv_at hl 0 rfl) ?_
                      refine lv_bipush (v := (7 : Int32)) hx hb dX3_beginsBehind_128 (by decide) ?_
                      refine W_st (st' := [.int (7 : Int32), .ref (ad b7), .int x37]) (by rw [va_some ho7]) ?_
                      obtain ⟨hvc, hF⟩ := chk_some hF
                      refine va_iald hx hb hK hP b7 1 (wld_i ct ad G M hc7 hk7) rfl hvc dX3_beginsBehind_130 ?_
                      obtain ⟨x38, ex38, hF⟩ := ltt_some hF
                      refine lv_topi (fun zx38 ezx38 => ?_)
                      obtain rfl : x38 = zx38 := ex38.trans ezx38.symm
                      obtain ⟨y39, hy39, hF⟩ := bnd_some hF
                      have J39 : ∀ (H : Heap) (locs : List Loc) (ls : Array Slot), va_P D classes (wld ct ad G M) H → va_D A (wld ct ad G M) → va_S A s.heap H locs → lv_has ls 3 [(2, va_re ad (M.2 b1 0)), (0, .ref (ad a)), (1, va_re ad p0)] → W p l e (headSpec wsX3_beginsBehind ({ frames := 0, cells := 0, slots := 0, locals := 0 })).room s m ([.ref (ad a), va_re ad p0] : List Value).toArray below meth c H locs 0 0 (MQ below (va_Qi (fun (q : Int32) (_ : Unit) => q = y.2) (fun _ t => kE D ct ad G A y.1 t) A) ([.ref (ad a), va_re ad p0] : List Value).toArray s 0 0 A) (F0 m 139 ls [.int y39]) := by
                        intro H locs ls hP hD hS hl
                        obtain rfl := Option.some.inj hF
                        exact J35 _ _ _ hP hD hS (lv_sub hl [0, 1, 2] rfl)
                      clear hF
                      have hF := hy39
                      clear hy39
                      refine lv_icmp_eq (tgt := 138) hx hb dX3_beginsBehind_131 (by decide) (fun c40 => ?_) (fun c40 => ?_)
                      · rw [if_pos c40] at hF
                        refine lv_iconst (v := (0 : Int32)) hx hb dX3_beginsBehind_138 (by decide) ?_
                        obtain rfl := Option.some.inj hF
                        exact J39 _ _ _ hP hD hS (lv_sub hl [0, 1, 2] rfl)
                      · rw [if_neg c40] at hF
                        refine lv_iconst (v := (1 : Int32)) hx hb dX3_beginsBehind_134 (by decide) ?_
                        refine lv_goto (tgt := 139) hx hb dX3_beginsBehind_135 (by decide) ?_
                        obtain rfl := Option.some.inj hF
                        exact J39 _ _ _ hP hD hS (lv_sub hl [0, 1, 2] rfl)
            clear hF
            have hF := hy22
            clear hy22
            refine lv_if_ne (tgt := 78) hx hb dX3_beginsBehind_71 (by decide) (fun c41 => ?_) (fun c41 => ?_)
            · rw [if_neg c41] at hF
              refine lv_iconst (v := (0 : Int32)) hx hb dX3_beginsBehind_78 (by decide) ?_
              obtain rfl := Option.some.inj hF
              exact J22 _ _ _ hP hD hS (lv_sub hl [0, 1, 2] rfl)
            · rw [if_pos c41] at hF
              refine lv_iconst (v := (1 : Int32)) hx hb dX3_beginsBehind_74 (by decide) ?_
              refine lv_goto (tgt := 79) hx hb dX3_beginsBehind_75 (by decide) ?_
              obtain rfl := Option.some.inj hF
              exact J22 _ _ _ hP hD hS (lv_sub hl [0, 1, 2] rfl)
          clear hF
          have hF := hy20
          clear hy20
          refine lv_if_ne (tgt := 66) hx hb dX3_beginsBehind_59 (by decide) (fun c42 => ?_) (fun c42 => ?_)
          · rw [if_neg c42] at hF
            refine lv_iconst (v := (0 : Int32)) hx hb dX3_beginsBehind_66 (by decide) ?_
            obtain rfl := Option.some.inj hF
            exact J20 _ _ _ hP hD hS (lv_sub hl [0, 1, 2] rfl)
          · rw [if_pos c42] at hF
            refine lv_iconst (v := (1 : Int32)) hx hb dX3_beginsBehind_62 (by decide) ?_
            refine lv_goto (tgt := 67) hx hb dX3_beginsBehind_63 (by decide) ?_
            obtain rfl := Option.some.inj hF
            exact J20 _ _ _ hP hD hS (lv_sub hl [0, 1, 2] rfl)
theorem dX3_clearWeights_0 : decode cX3_clearWeights 0 = .ok (.iconst 0, 1) := by decide +kernel
theorem dX3_clearWeights_1 : decode cX3_clearWeights 1 = .ok (.istore_n 1, 1) := by decide +kernel
theorem dX3_clearWeights_2 : decode cX3_clearWeights 2 = .ok (.iload_n 1, 1) := by decide +kernel
theorem dX3_clearWeights_3 : decode cX3_clearWeights 3 = .ok (.bipush 48, 2) := by decide +kernel
theorem dX3_clearWeights_5 : decode cX3_clearWeights 5 = .ok (.if_icmp .ge 53, 3) := by decide +kernel
theorem dX3_clearWeights_8 : decode cX3_clearWeights 8 = .ok (.aload_n 0, 1) := by decide +kernel
theorem dX3_clearWeights_9 : decode cX3_clearWeights 9 = .ok (.getfield 19, 3) := by decide +kernel
theorem dX3_clearWeights_12 : decode cX3_clearWeights 12 = .ok (.iconst 2, 1) := by decide +kernel
theorem dX3_clearWeights_13 : decode cX3_clearWeights 13 = .ok (.iload_n 1, 1) := by decide +kernel
theorem dX3_clearWeights_14 : decode cX3_clearWeights 14 = .ok (.imul, 1) := by decide +kernel
theorem dX3_clearWeights_15 : decode cX3_clearWeights 15 = .ok (.iconst 1, 1) := by decide +kernel
theorem dX3_clearWeights_16 : decode cX3_clearWeights 16 = .ok (.iload_n 1, 1) := by decide +kernel
theorem dX3_clearWeights_17 : decode cX3_clearWeights 17 = .ok (.iconst 3, 1) := by decide +kernel
theorem dX3_clearWeights_18 : decode cX3_clearWeights 18 = .ok (.irem, 1) := by decide +kernel
theorem dX3_clearWeights_19 : decode cX3_clearWeights 19 = .ok (.ifCond .ne 13, 3) := by decide +kernel
theorem dX3_clearWeights_22 : decode cX3_clearWeights 22 = .ok (.aload_n 0, 1) := by decide +kernel
theorem dX3_clearWeights_23 : decode cX3_clearWeights 23 = .ok (.getfield 7, 3) := by decide +kernel
theorem dX3_clearWeights_26 : decode cX3_clearWeights 26 = .ok (.bipush 22, 2) := by decide +kernel
theorem dX3_clearWeights_28 : decode cX3_clearWeights 28 = .ok (.iaload, 1) := by decide +kernel
theorem dX3_clearWeights_29 : decode cX3_clearWeights 29 = .ok (.goto 10, 3) := by decide +kernel
theorem dX3_clearWeights_32 : decode cX3_clearWeights 32 = .ok (.aload_n 0, 1) := by decide +kernel
theorem dX3_clearWeights_33 : decode cX3_clearWeights 33 = .ok (.getfield 7, 3) := by decide +kernel
theorem dX3_clearWeights_36 : decode cX3_clearWeights 36 = .ok (.bipush 23, 2) := by decide +kernel
theorem dX3_clearWeights_38 : decode cX3_clearWeights 38 = .ok (.iaload, 1) := by decide +kernel
theorem dX3_clearWeights_39 : decode cX3_clearWeights 39 = .ok (.ishl, 1) := by decide +kernel
theorem dX3_clearWeights_40 : decode cX3_clearWeights 40 = .ok (.iastore, 1) := by decide +kernel
theorem dX3_clearWeights_41 : decode cX3_clearWeights 41 = .ok (.aload_n 0, 1) := by decide +kernel
theorem dX3_clearWeights_42 : decode cX3_clearWeights 42 = .ok (.getfield 19, 3) := by decide +kernel
theorem dX3_clearWeights_45 : decode cX3_clearWeights 45 = .ok (.iconst 2, 1) := by decide +kernel
theorem dX3_clearWeights_46 : decode cX3_clearWeights 46 = .ok (.iload_n 1, 1) := by decide +kernel
theorem dX3_clearWeights_47 : decode cX3_clearWeights 47 = .ok (.imul, 1) := by decide +kernel
theorem dX3_clearWeights_48 : decode cX3_clearWeights 48 = .ok (.iconst 1, 1) := by decide +kernel
theorem dX3_clearWeights_49 : decode cX3_clearWeights 49 = .ok (.iadd, 1) := by decide +kernel
theorem dX3_clearWeights_50 : decode cX3_clearWeights 50 = .ok (.iconst 0, 1) := by decide +kernel
theorem dX3_clearWeights_51 : decode cX3_clearWeights 51 = .ok (.iastore, 1) := by decide +kernel
theorem dX3_clearWeights_52 : decode cX3_clearWeights 52 = .ok (.iinc 1 1, 3) := by decide +kernel
theorem dX3_clearWeights_55 : decode cX3_clearWeights 55 = .ok (.goto (-53), 3) := by decide +kernel
theorem dX3_clearWeights_58 : decode cX3_clearWeights 58 = .ok (.return_, 1) := by decide +kernel
def FX3_clearWeights (G : GG) (M : DD) (a : Nat)  : Option (DD) :=
  bnd (itr (fun (s2 : Int32 × DD) => ((if ((48 : Int32)) ≤ s2.1 then (some (.inr (s2.1, s2.2))) else
  (ltt ((((2 : Int32)) * s2.1)) fun x6 =>
  ltt (s2.1 - s2.1 / ((3 : Int32)) * ((3 : Int32))) fun x7 =>
  bnd (if x7 = ((0 : Int32)) then (dr G 13 ((s2.2.2 a 0)) fun b20 =>
  chk (¬ (((22 : Int32)) < 0 ∨ G.2.2 b20 ≤ ((22 : Int32)).toNatClampNeg)) <|
  ltt (s2.2.1 b20 ((22 : Int32)).toNatClampNeg) fun x21 =>
  some (x21)) else
  (dr G 13 ((s2.2.2 a 0)) fun b18 =>
  chk (¬ (((23 : Int32)) < 0 ∨ G.2.2 b18 ≤ ((23 : Int32)).toNatClampNeg)) <|
  ltt (s2.2.1 b18 ((23 : Int32)).toNatClampNeg) fun x19 =>
  some (x19))) fun (y8 : Int32) =>
  ltt ((((1 : Int32)) <<< (y8 &&& 31))) fun x9 =>
  dr G 13 ((s2.2.2 a 3)) fun b10 =>
  chk (¬ (x6 < 0 ∨ G.2.2 b10 ≤ x6.toNatClampNeg)) <|
  ltt (uI s2.2 b10 x6.toNatClampNeg x9) fun M11 =>
  ltt ((((2 : Int32)) * s2.1)) fun x12 =>
  ltt ((x12 + ((1 : Int32)))) fun x13 =>
  dr G 13 ((M11.2 a 3)) fun b14 =>
  chk (¬ (x13 < 0 ∨ G.2.2 b14 ≤ x13.toNatClampNeg)) <|
  ltt (uI M11 b14 x13.toNatClampNeg ((0 : Int32))) fun M15 =>
  ltt (s2.1 + (1 : Int32)) fun x16 =>
  some (.inl (x16, M15)))) : Option ((Int32 × DD) ⊕ (Int32 × DD)))) 1000000 ((0 : Int32), M)) fun (y1 : Int32 × DD) =>
  some y1.2
set_option maxHeartbeats 4000000 in
set_option maxRecDepth 100000 in
theorem kX3_clearWeights (l : Launch) (D : va_G) (ct : CT) (ad : Nat → Nat) (Z : Nat → Nat) (G : GG) (M : DD) (sz : Nat) (a : Nat)  (y : DD) (hc : a < G.1) (hk : G.2.1 a = 3) (hF : FX3_clearWeights G M a  = some y) : Met l yX3_clearWeights wsX3_clearWeights ({ frames := 0, cells := 0, slots := 0, locals := 0 }) (va_Pc [.ref (ad a)] (kB D ct ad Z G M sz)) (va_Qv (fun (_ : Unit) => True) (fun _ t => kE D ct ad G (wA ad G sz) y t) (wA ad G sz)) 0 0 (wA ad G sz) := by
  refine Met.ofW (cc := cX3_clearWeights) (maxL := 2) (ret := none) (by decide) rfl ?_
  intro p e s m args below meth c s₁ B hml hv
  obtain ⟨rfl, hsz, hP, hK, hD0, hZ, hN⟩ := hv
  have hx := B.exec
  have hb := B.bytes
  have hr := B.returns
  have hts := atoms_spec (ws := wsX3_clearWeights) B.pre
  have hown : s.vm.findClass RX3 = some m.cls := findClass_of_methodNamed B.named
  have hlocks := B.notSynchronized
  subst hsz
  have hD := wD_self (sz := s.heap.size) hD0
  have hA9 : ∀ q, s.heap.size ≤ q → wA ad G s.heap.size q := fun q h => Or.inr h
  generalize hAe : wA ad G s.heap.size = A at hD hA9 hZ ⊢
  have hS : va_S A s.heap s.heap [] := va_S.rf
  have hl := lv_entry ([.ref (ad a)]) (n := 2) (Nat.le_of_ble_eq_true rfl)
  rw [lg_entry_eq]
  generalize (lg_sl ([.ref (ad a)]) ++ List.replicate (2 - (lg_sl ([.ref (ad a)])).length) Slot.unset).toArray = ls at hl ⊢
  have hl : lv_has ls 2 [(0, .ref (ad a))] := hl
  unfold FX3_clearWeights at hF
  refine lv_iconst (v := (0 : Int32)) hx hb dX3_clearWeights_0 (by decide) ?_
  refine lv_istore_n (lv' := [(1, .int (0 : Int32)), (0, .ref (ad a))]) hx hb dX3_clearWeights_1 rfl hl (by decide) rfl (fun ls hl => ?_)
  obtain ⟨y1, hy1, hF⟩ := bnd_some hF
  have K1 : ∀ (H : Heap) (locs : List Loc) (ls : Array Slot), va_P D classes (wld ct ad G y1.2) H → va_D A (wld ct ad G y1.2) → va_S A s.heap H locs → lv_has ls 2 [(1, .int y1.1), (0, .ref (ad a))] → W p l e (headSpec wsX3_clearWeights ({ frames := 0, cells := 0, slots := 0, locals := 0 })).room s m ([.ref (ad a)] : List Value).toArray below meth c H locs 0 0 (MQ below (va_Qv (fun (_ : Unit) => True) (fun _ t => kE D ct ad G A y t) A) ([.ref (ad a)] : List Value).toArray s 0 0 A) (F0 m 58 ls []) := by
    intro H locs ls hP hD hS hl
    obtain rfl := Option.some.inj hF
    exact W.vret hx hb hr (fun t ht hW => ⟨⟨(), rfl, trivial, ⟨by rw [ht]; exact hP, va_K.moved hW.alike hK, hD⟩⟩, hS.F ht⟩) hS.2.2 dX3_clearWeights_58
  clear hF
  refine itr_rule (fun (s2 : Int32 × DD) => ∀ (H : Heap) (locs : List Loc) (ls : Array Slot), va_P D classes (wld ct ad G s2.2) H → va_D A (wld ct ad G s2.2) → va_S A s.heap H locs → lv_has ls 2 [(1, .int s2.1), (0, .ref (ad a))] → W p l e (headSpec wsX3_clearWeights ({ frames := 0, cells := 0, slots := 0, locals := 0 })).room s m ([.ref (ad a)] : List Value).toArray below meth c H locs 0 0 (MQ below (va_Qv (fun (_ : Unit) => True) (fun _ t => kE D ct ad G A y t) A) ([.ref (ad a)] : List Value).toArray s 0 0 A) (F0 m 2 ls [])) ?_ _ _ hy1 _ _ _ hP hD hS (lv_sub hl [0, 1] rfl)
  rintro s2 ⟨z4, hF, hwz4⟩ H locs ls hP hD hS hl
  try dsimp only at hF
  refine lv_iload_n hx hb dX3_clearWeights_2 rfl (lv_at hl 0 rfl) ?_
  refine lv_bipush (v := (48 : Int32)) hx hb dX3_clearWeights_3 (by decide) ?_
  refine lv_icmp_ge (tgt := 58) hx hb dX3_clearWeights_5 (by decide) (fun c5 => ?_) (fun c5 => ?_)
  · rw [if_pos c5] at hF
    obtain rfl := Option.some.inj hF
    subst hwz4
    exact K1 _ _ _ hP hD hS (lv_sub hl [0, 1] rfl)
  · rw [if_neg c5] at hF
    refine lv_aload_n hx hb dX3_clearWeights_8 rfl (lv_at hl 1 rfl) ?_
    refine va_get (D := D) (ci := 3) (v := va_re ad (s2.2.2 a 3)) (C := RX3) (T := TX3) (N := 4) hx hb hts (by decide +kernel) hown hK hP a (wld_o ct ad G s2.2 hc hk (by decide)) rfl 3 (by decide) (hts (.fieldLink RX3 19 "VideoSuite$Header" "weight" "[I") (by decide +kernel)) (fun _ h9 => h9) rfl dX3_clearWeights_9 ?_
    refine lv_iconst (v := (2 : Int32)) hx hb dX3_clearWeights_12 (by decide) ?_
    refine lv_iload_n hx hb dX3_clearWeights_13 rfl (lv_at hl 0 rfl) ?_
    refine lv_imul hx hb dX3_clearWeights_14 ?_
    obtain ⟨x6, ex6, hF⟩ := ltt_some hF
    refine lv_topi (fun zx6 ezx6 => ?_)
    obtain rfl : x6 = zx6 := ex6.trans ezx6.symm
    refine lv_iconst (v := (1 : Int32)) hx hb dX3_clearWeights_15 (by decide) ?_
    refine lv_iload_n hx hb dX3_clearWeights_16 rfl (lv_at hl 0 rfl) ?_
    refine lv_iconst (v := (3 : Int32)) hx hb dX3_clearWeights_17 (by decide) ?_
    refine lv_irem hx hb dX3_clearWeights_18 (by decide) ?_
    obtain ⟨x7, ex7, hF⟩ := ltt_some hF
    refine lv_topi (fun zx7 ezx7 => ?_)
    obtain rfl : x7 = zx7 := ex7.trans ezx7.symm
    obtain ⟨y8, hy8, hF⟩ := bnd_some hF
    have J8 : ∀ (H : Heap) (locs : List Loc) (ls : Array Slot), va_P D classes (wld ct ad G s2.2) H → va_D A (wld ct ad G s2.2) → va_S A s.heap H locs → lv_has ls 2 [(1, .int s2.1), (0, .ref (ad a))] → W p l e (headSpec wsX3_clearWeights ({ frames := 0, cells := 0, slots := 0, locals := 0 })).room s m ([.ref (ad a)] : List Value).toArray below meth c H locs 0 0 (MQ below (va_Qv (fun (_ : Unit) => True) (fun _ t => kE D ct ad G A y t) A) ([.ref (ad a)] : List Value).toArray s 0 0 A) (F0 m 39 ls [.int y8, .int (1 : Int32), .int x6, va_re ad (s2.2.2 a 3)]) := by
      intro H locs ls hP hD hS hl
      refine lv_ishl hx hb dX3_clearWeights_39 ?_
      obtain ⟨x9, ex9, hF⟩ := ltt_some hF
      refine lv_topi (fun zx9 ezx9 => ?_)
      obtain rfl : x9 = zx9 := ex9.trans ezx9.symm
      obtain ⟨b10, ho10, hc10, hk10, hF⟩ := dr_some hF
      refine W_st (st' := [.int x9, .int x6, .ref (ad b10)]) (by rw [va_some ho10]) ?_
      obtain ⟨hvc, hF⟩ := chk_some hF
      refine va_iast hx hb hK hP hD hS b10 1 (wld_i ct ad G s2.2 hc10 hk10) rfl hvc dX3_clearWeights_40 (fun H locs hP hD hS => ?_)
      obtain ⟨M11, eM11, hF⟩ := ltt_some hF
      rw [set_i ct ad G s2.2 hc10 hk10, ← eM11] at hP hD
      refine lv_aload_n hx hb dX3_clearWeights_41 rfl (lv_at hl 1 rfl) ?_
      refine va_get (D := D) (ci := 3) (v := va_re ad (M11.2 a 3)) (C := RX3) (T := TX3) (N := 4) hx hb hts (by decide +kernel) hown hK hP a (wld_o ct ad G M11 hc hk (by decide)) rfl 3 (by decide) (hts (.fieldLink RX3 19 "VideoSuite$Header" "weight" "[I") (by decide +kernel)) (fun _ h9 => h9) rfl dX3_clearWeights_42 ?_
      refine lv_iconst (v := (2 : Int32)) hx hb dX3_clearWeights_45 (by decide) ?_
      refine lv_iload_n hx hb dX3_clearWeights_46 rfl (lv_at hl 0 rfl) ?_
      refine lv_imul hx hb dX3_clearWeights_47 ?_
      obtain ⟨x12, ex12, hF⟩ := ltt_some hF
      refine lv_topi (fun zx12 ezx12 => ?_)
      obtain rfl : x12 = zx12 := ex12.trans ezx12.symm
      refine lv_iconst (v := (1 : Int32)) hx hb dX3_clearWeights_48 (by decide) ?_
      refine lv_iadd hx hb dX3_clearWeights_49 ?_
      obtain ⟨x13, ex13, hF⟩ := ltt_some hF
      refine lv_topi (fun zx13 ezx13 => ?_)
      obtain rfl : x13 = zx13 := ex13.trans ezx13.symm
      refine lv_iconst (v := (0 : Int32)) hx hb dX3_clearWeights_50 (by decide) ?_
      obtain ⟨b14, ho14, hc14, hk14, hF⟩ := dr_some hF
      refine W_st (st' := [.int (0 : Int32), .int x13, .ref (ad b14)]) (by rw [va_some ho14]) ?_
      obtain ⟨hvc, hF⟩ := chk_some hF
      refine va_iast hx hb hK hP hD hS b14 1 (wld_i ct ad G M11 hc14 hk14) rfl hvc dX3_clearWeights_51 (fun H locs hP hD hS => ?_)
      obtain ⟨M15, eM15, hF⟩ := ltt_some hF
      rw [set_i ct ad G M11 hc14 hk14, ← eM15] at hP hD
      obtain ⟨x16, ex16, hF⟩ := ltt_some hF
      refine lv_iinc (v := x16) (lv' := [(1, .int x16), (0, .ref (ad a))]) hx hb dX3_clearWeights_52 hl (k := 0) rfl (by rw [ex16]; rfl) (by decide) rfl (fun ls hl => ?_)
      refine lv_goto (tgt := 2) hx hb dX3_clearWeights_55 (by decide) ?_
      obtain rfl := Option.some.inj hF
      exact hwz4 _ _ _ hP hD hS (lv_sub hl [0, 1] rfl)
    clear hF
    have hF := hy8
    clear hy8
    refine lv_if_ne (tgt := 32) hx hb dX3_clearWeights_19 (by decide) (fun c17 => ?_) (fun c17 => ?_)
    · rw [if_neg c17] at hF
      refine lv_aload_n hx hb dX3_clearWeights_32 rfl (lv_at hl 1 rfl) ?_
      refine va_get (D := D) (ci := 3) (v := va_re ad (s2.2.2 a 0)) (C := RX3) (T := TX3) (N := 4) hx hb hts (by decide +kernel) hown hK hP a (wld_o ct ad G s2.2 hc hk (by decide)) rfl 0 (by decide) (hts (.fieldLink RX3 7 "VideoSuite$Header" "v" "[I") (by decide +kernel)) (fun _ h9 => h9) rfl dX3_clearWeights_33 ?_
      refine lv_bipush (v := (23 : Int32)) hx hb dX3_clearWeights_36 (by decide) ?_
      obtain ⟨b18, ho18, hc18, hk18, hF⟩ := dr_some hF
      refine W_st (st' := [.int (23 : Int32), .ref (ad b18), .int (1 : Int32), .int x6, va_re ad (s2.2.2 a 3)]) (by rw [va_some ho18]) ?_
      obtain ⟨hvc, hF⟩ := chk_some hF
      refine va_iald hx hb hK hP b18 1 (wld_i ct ad G s2.2 hc18 hk18) rfl hvc dX3_clearWeights_38 ?_
      obtain ⟨x19, ex19, hF⟩ := ltt_some hF
      refine lv_topi (fun zx19 ezx19 => ?_)
      obtain rfl : x19 = zx19 := ex19.trans ezx19.symm
      obtain rfl := Option.some.inj hF
      exact J8 _ _ _ hP hD hS (lv_sub hl [0, 1] rfl)
    · rw [if_pos c17] at hF
      refine lv_aload_n hx hb dX3_clearWeights_22 rfl (lv_at hl 1 rfl) ?_
      refine va_get (D := D) (ci := 3) (v := va_re ad (s2.2.2 a 0)) (C := RX3) (T := TX3) (N := 4) hx hb hts (by decide +kernel) hown hK hP a (wld_o ct ad G s2.2 hc hk (by decide)) rfl 0 (by decide) (hts (.fieldLink RX3 7 "VideoSuite$Header" "v" "[I") (by decide +kernel)) (fun _ h9 => h9) rfl dX3_clearWeights_23 ?_
      refine lv_bipush (v := (22 : Int32)) hx hb dX3_clearWeights_26 (by decide) ?_
      obtain ⟨b20, ho20, hc20, hk20, hF⟩ := dr_some hF
      refine W_st (st' := [.int (22 : Int32), .ref (ad b20), .int (1 : Int32), .int x6, va_re ad (s2.2.2 a 3)]) (by rw [va_some ho20]) ?_
      obtain ⟨hvc, hF⟩ := chk_some hF
      refine va_iald hx hb hK hP b20 1 (wld_i ct ad G s2.2 hc20 hk20) rfl hvc dX3_clearWeights_28 ?_
      obtain ⟨x21, ex21, hF⟩ := ltt_some hF
      refine lv_topi (fun zx21 ezx21 => ?_)
      obtain rfl : x21 = zx21 := ex21.trans ezx21.symm
      refine lv_goto (tgt := 39) hx hb dX3_clearWeights_29 (by decide) ?_
      obtain rfl := Option.some.inj hF
      exact J8 _ _ _ hP hD hS (lv_sub hl [0, 1] rfl)
