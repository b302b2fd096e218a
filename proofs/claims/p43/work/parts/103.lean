theorem dX11_count_0 : decode cX11_count 0 = .ok (.iload_n 1, 1) := by decide +kernel
theorem dX11_count_1 : decode cX11_count 1 = .ok (.tableswitch 212 0 14 #[75, 80, 88, 96, 107, 115, 126, 142, 150, 161, 172, 180, 188, 196, 204], 75) := by decide +kernel
theorem dX11_count_76 : decode cX11_count 76 = .ok (.aload_n 0, 1) := by decide +kernel
theorem dX11_count_77 : decode cX11_count 77 = .ok (.getfield 35, 3) := by decide +kernel
theorem dX11_count_80 : decode cX11_count 80 = .ok (.ireturn, 1) := by decide +kernel
theorem dX11_count_81 : decode cX11_count 81 = .ok (.aload_n 0, 1) := by decide +kernel
theorem dX11_count_82 : decode cX11_count 82 = .ok (.getfield 17, 3) := by decide +kernel
theorem dX11_count_85 : decode cX11_count 85 = .ok (.getfield 82, 3) := by decide +kernel
theorem dX11_count_88 : decode cX11_count 88 = .ok (.ireturn, 1) := by decide +kernel
theorem dX11_count_89 : decode cX11_count 89 = .ok (.aload_n 0, 1) := by decide +kernel
theorem dX11_count_90 : decode cX11_count 90 = .ok (.getfield 17, 3) := by decide +kernel
theorem dX11_count_93 : decode cX11_count 93 = .ok (.getfield 114, 3) := by decide +kernel
theorem dX11_count_96 : decode cX11_count 96 = .ok (.ireturn, 1) := by decide +kernel
theorem dX11_count_97 : decode cX11_count 97 = .ok (.aload_n 0, 1) := by decide +kernel
theorem dX11_count_98 : decode cX11_count 98 = .ok (.getfield 24, 3) := by decide +kernel
theorem dX11_count_101 : decode cX11_count 101 = .ok (.getfield 146, 3) := by decide +kernel
theorem dX11_count_104 : decode cX11_count 104 = .ok (.getfield 155, 3) := by decide +kernel
theorem dX11_count_107 : decode cX11_count 107 = .ok (.ireturn, 1) := by decide +kernel
theorem dX11_count_108 : decode cX11_count 108 = .ok (.aload_n 0, 1) := by decide +kernel
theorem dX11_count_109 : decode cX11_count 109 = .ok (.getfield 24, 3) := by decide +kernel
theorem dX11_count_112 : decode cX11_count 112 = .ok (.getfield 285, 3) := by decide +kernel
theorem dX11_count_115 : decode cX11_count 115 = .ok (.ireturn, 1) := by decide +kernel
theorem dX11_count_116 : decode cX11_count 116 = .ok (.aload_n 0, 1) := by decide +kernel
theorem dX11_count_117 : decode cX11_count 117 = .ok (.getfield 24, 3) := by decide +kernel
theorem dX11_count_120 : decode cX11_count 120 = .ok (.getfield 146, 3) := by decide +kernel
theorem dX11_count_123 : decode cX11_count 123 = .ok (.getfield 264, 3) := by decide +kernel
theorem dX11_count_126 : decode cX11_count 126 = .ok (.ireturn, 1) := by decide +kernel
theorem dX11_count_127 : decode cX11_count 127 = .ok (.aload_n 0, 1) := by decide +kernel
theorem dX11_count_128 : decode cX11_count 128 = .ok (.getfield 24, 3) := by decide +kernel
theorem dX11_count_131 : decode cX11_count 131 = .ok (.getfield 453, 3) := by decide +kernel
theorem dX11_count_134 : decode cX11_count 134 = .ok (.ifCond .eq 7, 3) := by decide +kernel
theorem dX11_count_137 : decode cX11_count 137 = .ok (.iconst 1, 1) := by decide +kernel
theorem dX11_count_138 : decode cX11_count 138 = .ok (.goto 4, 3) := by decide +kernel
theorem dX11_count_141 : decode cX11_count 141 = .ok (.iconst 0, 1) := by decide +kernel
theorem dX11_count_142 : decode cX11_count 142 = .ok (.ireturn, 1) := by decide +kernel
theorem dX11_count_143 : decode cX11_count 143 = .ok (.aload_n 0, 1) := by decide +kernel
theorem dX11_count_144 : decode cX11_count 144 = .ok (.getfield 24, 3) := by decide +kernel
theorem dX11_count_147 : decode cX11_count 147 = .ok (.getfield 194, 3) := by decide +kernel
theorem dX11_count_150 : decode cX11_count 150 = .ok (.ireturn, 1) := by decide +kernel
theorem dX11_count_151 : decode cX11_count 151 = .ok (.aload_n 0, 1) := by decide +kernel
theorem dX11_count_152 : decode cX11_count 152 = .ok (.getfield 24, 3) := by decide +kernel
theorem dX11_count_155 : decode cX11_count 155 = .ok (.getfield 293, 3) := by decide +kernel
theorem dX11_count_158 : decode cX11_count 158 = .ok (.getfield 297, 3) := by decide +kernel
theorem dX11_count_161 : decode cX11_count 161 = .ok (.ireturn, 1) := by decide +kernel
theorem dX11_count_162 : decode cX11_count 162 = .ok (.aload_n 0, 1) := by decide +kernel
theorem dX11_count_163 : decode cX11_count 163 = .ok (.getfield 31, 3) := by decide +kernel
theorem dX11_count_166 : decode cX11_count 166 = .ok (.getfield 373, 3) := by decide +kernel
theorem dX11_count_169 : decode cX11_count 169 = .ok (.getfield 377, 3) := by decide +kernel
theorem dX11_count_172 : decode cX11_count 172 = .ok (.ireturn, 1) := by decide +kernel
theorem dX11_count_173 : decode cX11_count 173 = .ok (.aload_n 0, 1) := by decide +kernel
theorem dX11_count_174 : decode cX11_count 174 = .ok (.getfield 31, 3) := by decide +kernel
theorem dX11_count_177 : decode cX11_count 177 = .ok (.getfield 370, 3) := by decide +kernel
theorem dX11_count_180 : decode cX11_count 180 = .ok (.ireturn, 1) := by decide +kernel
theorem dX11_count_181 : decode cX11_count 181 = .ok (.aload_n 0, 1) := by decide +kernel
theorem dX11_count_182 : decode cX11_count 182 = .ok (.getfield 31, 3) := by decide +kernel
theorem dX11_count_185 : decode cX11_count 185 = .ok (.getfield 361, 3) := by decide +kernel
theorem dX11_count_188 : decode cX11_count 188 = .ok (.ireturn, 1) := by decide +kernel
theorem dX11_count_189 : decode cX11_count 189 = .ok (.aload_n 0, 1) := by decide +kernel
theorem dX11_count_190 : decode cX11_count 190 = .ok (.getfield 17, 3) := by decide +kernel
theorem dX11_count_193 : decode cX11_count 193 = .ok (.getfield 406, 3) := by decide +kernel
theorem dX11_count_196 : decode cX11_count 196 = .ok (.ireturn, 1) := by decide +kernel
theorem dX11_count_197 : decode cX11_count 197 = .ok (.aload_n 0, 1) := by decide +kernel
theorem dX11_count_198 : decode cX11_count 198 = .ok (.getfield 31, 3) := by decide +kernel
theorem dX11_count_201 : decode cX11_count 201 = .ok (.getfield 457, 3) := by decide +kernel
theorem dX11_count_204 : decode cX11_count 204 = .ok (.ireturn, 1) := by decide +kernel
theorem dX11_count_205 : decode cX11_count 205 = .ok (.aload_n 0, 1) := by decide +kernel
theorem dX11_count_206 : decode cX11_count 206 = .ok (.getfield 24, 3) := by decide +kernel
theorem dX11_count_209 : decode cX11_count 209 = .ok (.getfield 460, 3) := by decide +kernel
theorem dX11_count_212 : decode cX11_count 212 = .ok (.ireturn, 1) := by decide +kernel
theorem dX11_count_213 : decode cX11_count 213 = .ok (.iconst (-1), 1) := by decide +kernel
theorem dX11_count_214 : decode cX11_count 214 = .ok (.ireturn, 1) := by decide +kernel
def FX11_count (G : GG) (M : DD) (a : Nat) (p0 : Int32) : Option (DD × Int32) :=
  if p0 = (0 : Int32) then (ltt (M.1 a 1) fun x2 =>
  some (M, x2)) else
  (if p0 = (1 : Int32) then (dr G 8 ((M.2 a 2)) fun b4 =>
  ltt (M.1 b4 3) fun x5 =>
  some (M, x5)) else
  (if p0 = (2 : Int32) then (dr G 8 ((M.2 a 2)) fun b7 =>
  ltt (M.1 b7 4) fun x8 =>
  some (M, x8)) else
  (if p0 = (3 : Int32) then (dr G 1 ((M.2 a 3)) fun b10 =>
  dr G 7 ((M.2 b10 1)) fun b11 =>
  ltt (M.1 b11 14) fun x12 =>
  some (M, x12)) else
  (if p0 = (4 : Int32) then (dr G 1 ((M.2 a 3)) fun b14 =>
  ltt (M.1 b14 14) fun x15 =>
  some (M, x15)) else
  (if p0 = (5 : Int32) then (dr G 1 ((M.2 a 3)) fun b17 =>
  dr G 7 ((M.2 b17 1)) fun b18 =>
  ltt (M.1 b18 3) fun x19 =>
  some (M, x19)) else
  (if p0 = (6 : Int32) then (dr G 1 ((M.2 a 3)) fun b21 =>
  ltt (M.1 b21 16) fun x22 =>
  bnd (if x22 = ((0 : Int32)) then (some ((0 : Int32))) else
  (some ((1 : Int32)))) fun (y23 : Int32) =>
  some (M, y23)) else
  (if p0 = (7 : Int32) then (dr G 1 ((M.2 a 3)) fun b26 =>
  ltt (M.1 b26 15) fun x27 =>
  some (M, x27)) else
  (if p0 = (8 : Int32) then (dr G 1 ((M.2 a 3)) fun b29 =>
  dr G 5 ((M.2 b29 0)) fun b30 =>
  ltt (M.1 b30 12) fun x31 =>
  some (M, x31)) else
  (if p0 = (9 : Int32) then (dr G 0 ((M.2 a 4)) fun b33 =>
  dr G 10 ((M.2 b33 2)) fun b34 =>
  ltt (M.1 b34 1) fun x35 =>
  some (M, x35)) else
  (if p0 = (10 : Int32) then (dr G 0 ((M.2 a 4)) fun b37 =>
  ltt (M.1 b37 16) fun x38 =>
  some (M, x38)) else
  (if p0 = (11 : Int32) then (dr G 0 ((M.2 a 4)) fun b40 =>
  ltt (M.1 b40 10) fun x41 =>
  some (M, x41)) else
  (if p0 = (12 : Int32) then (dr G 8 ((M.2 a 2)) fun b43 =>
  ltt (M.1 b43 11) fun x44 =>
  some (M, x44)) else
  (if p0 = (13 : Int32) then (dr G 0 ((M.2 a 4)) fun b46 =>
  ltt (M.1 b46 14) fun x47 =>
  some (M, x47)) else
  (if p0 = (14 : Int32) then (dr G 1 ((M.2 a 3)) fun b49 =>
  ltt (M.1 b49 18) fun x50 =>
  some (M, x50)) else
  (chk (p0.toInt < 0 ∨ 14 < p0.toInt) <|
  some (M, (-1 : Int32)))))))))))))))))
set_option maxHeartbeats 4000000 in
set_option maxRecDepth 100000 in
theorem kX11_count (l : Launch) (D : va_G) (ct : CT) (ad : Nat → Nat) (Z : Nat → Nat) (G : GG) (M : DD) (sz : Nat) (a : Nat) (p0 : Int32) (y : DD × Int32) (hc : a < G.1) (hk : G.2.1 a = 11) (hF : FX11_count G M a p0 = some y) : Met l yX11_count wuX11_count ({ frames := 0, cells := 0, slots := 0, locals := 0 }) (va_Pc [.ref (ad a), .int p0] (kB D ct ad Z G M sz)) (va_Qi (fun (q : Int32) (_ : Unit) => q = y.2) (fun _ t => kE D ct ad G (wA ad G sz) y.1 t) (wA ad G sz)) 0 0 (wA ad G sz) := by
  refine Met.ofW (cc := cX11_count) (maxL := 2) (ret := (some .int)) (by decide) rfl ?_
  intro p e s m args below meth c s₁ B hml hv
  obtain ⟨rfl, hsz, hP, hK, hD0, hZ, hN⟩ := hv
  have hx := B.exec
  have hb := B.bytes
  have hr := B.returns
  have hts := atoms_spec (ws := wuX11_count) B.pre
  have hown : s.vm.findClass RX11 = some m.cls := findClass_of_methodNamed B.named
  have hlocks := B.notSynchronized
  subst hsz
  have hD := wD_self (sz := s.heap.size) hD0
  have hA9 : ∀ q, s.heap.size ≤ q → wA ad G s.heap.size q := fun q h => Or.inr h
  generalize hAe : wA ad G s.heap.size = A at hD hA9 hZ ⊢
  have hS : va_S A s.heap s.heap [] := va_S.rf
  have hl := lv_entry ([.ref (ad a), .int p0]) (n := 2) (Nat.le_of_ble_eq_true rfl)
  rw [lg_entry_eq]
  generalize (lg_sl ([.ref (ad a), .int p0]) ++ List.replicate (2 - (lg_sl ([.ref (ad a), .int p0])).length) Slot.unset).toArray = ls at hl ⊢
  have hl : lv_has ls 2 [(0, .ref (ad a)), (1, .int p0)] := hl
  unfold FX11_count at hF
  refine lv_iload_n hx hb dX11_count_0 rfl (lv_at hl 1 rfl) ?_
  by_cases c1 : p0 = (0 : Int32)
  · rw [if_pos c1] at hF
    refine lv_tableIn (tgt := 76) hx hb dX11_count_1 (by rw [c1]; decide) (by rw [c1]; decide) (by rw [c1]; rfl) (by decide) ?_
    refine lv_aload_n hx hb dX11_count_76 rfl (lv_at hl 0 rfl) ?_
    refine va_get (D := D) (ci := 11) (v := .int (M.1 a 1)) (C := RX11) (T := TX11) (N := 5) hx hb hts (mus hf_X11) hown hK hP a (wld_o ct ad G M hc hk (by decide)) rfl 1 (by decide) (hts (.fieldLink RX11 35 "VideoSuite" "tapeLength" "I") (mu mw_883)) (fun _ h9 => h9) rfl dX11_count_77 ?_
    obtain ⟨x2, ex2, hF⟩ := ltt_some hF
    refine lv_topi (fun zx2 ezx2 => ?_)
    obtain rfl : x2 = zx2 := ex2.trans ezx2.symm
    obtain rfl := Option.some.inj hF
    exact W.iret (v := x2) hx hb hr (fun t ht hW => ⟨⟨_, (), rfl, rfl, ⟨by rw [ht]; exact hP, va_K.moved hW.alike hK, hD⟩⟩, hS.F ht⟩) hS.2.2 dX11_count_80
  · rw [if_neg c1] at hF
    by_cases c3 : p0 = (1 : Int32)
    · rw [if_pos c3] at hF
      refine lv_tableIn (tgt := 81) hx hb dX11_count_1 (by rw [c3]; decide) (by rw [c3]; decide) (by rw [c3]; rfl) (by decide) ?_
      refine lv_aload_n hx hb dX11_count_81 rfl (lv_at hl 0 rfl) ?_
      refine va_get (D := D) (ci := 11) (v := va_re ad (M.2 a 2)) (C := RX11) (T := TX11) (N := 5) hx hb hts (mus hf_X11) hown hK hP a (wld_o ct ad G M hc hk (by decide)) rfl 2 (by decide) (hts (.fieldLink RX11 17 "VideoSuite" "units" "LVideoSuite$Units;") (mu mw_884)) (fun _ h9 => h9) rfl dX11_count_82 ?_
      obtain ⟨b4, ho4, hc4, hk4, hF⟩ := dr_some hF
      refine W_st (st' := [.ref (ad b4)]) (by rw [va_some ho4]) ?_
      refine va_get (D := D) (ci := 8) (v := .int (M.1 b4 3)) (C := RX8) (T := TX8) (N := 15) hx hb hts (mus hf_X8) hown hK hP b4 (wld_o ct ad G M hc4 hk4 (by decide)) rfl 3 (by decide) (hts (.fieldLink RX11 82 "VideoSuite$Units" "count" "I") (mu mw_215)) (fun _ h9 => h9) rfl dX11_count_85 ?_
      obtain ⟨x5, ex5, hF⟩ := ltt_some hF
      refine lv_topi (fun zx5 ezx5 => ?_)
      obtain rfl : x5 = zx5 := ex5.trans ezx5.symm
      obtain rfl := Option.some.inj hF
      exact W.iret (v := x5) hx hb hr (fun t ht hW => ⟨⟨_, (), rfl, rfl, ⟨by rw [ht]; exact hP, va_K.moved hW.alike hK, hD⟩⟩, hS.F ht⟩) hS.2.2 dX11_count_88
    · rw [if_neg c3] at hF
      by_cases c6 : p0 = (2 : Int32)
      · rw [if_pos c6] at hF
        refine lv_tableIn (tgt := 89) hx hb dX11_count_1 (by rw [c6]; decide) (by rw [c6]; decide) (by rw [c6]; rfl) (by decide) ?_
        refine lv_aload_n hx hb dX11_count_89 rfl (lv_at hl 0 rfl) ?_
        refine va_get (D := D) (ci := 11) (v := va_re ad (M.2 a 2)) (C := RX11) (T := TX11) (N := 5) hx hb hts (mus hf_X11) hown hK hP a (wld_o ct ad G M hc hk (by decide)) rfl 2 (by decide) (hts (.fieldLink RX11 17 "VideoSuite" "units" "LVideoSuite$Units;") (mu mw_884)) (fun _ h9 => h9) rfl dX11_count_90 ?_
        obtain ⟨b7, ho7, hc7, hk7, hF⟩ := dr_some hF
        refine W_st (st' := [.ref (ad b7)]) (by rw [va_some ho7]) ?_
        refine va_get (D := D) (ci := 8) (v := .int (M.1 b7 4)) (C := RX8) (T := TX8) (N := 15) hx hb hts (mus hf_X8) hown hK hP b7 (wld_o ct ad G M hc7 hk7 (by decide)) rfl 4 (by decide) (hts (.fieldLink RX11 114 "VideoSuite$Units" "decoded" "I") (mu mw_219)) (fun _ h9 => h9) rfl dX11_count_93 ?_
        obtain ⟨x8, ex8, hF⟩ := ltt_some hF
        refine lv_topi (fun zx8 ezx8 => ?_)
        obtain rfl : x8 = zx8 := ex8.trans ezx8.symm
        obtain rfl := Option.some.inj hF
        exact W.iret (v := x8) hx hb hr (fun t ht hW => ⟨⟨_, (), rfl, rfl, ⟨by rw [ht]; exact hP, va_K.moved hW.alike hK, hD⟩⟩, hS.F ht⟩) hS.2.2 dX11_count_96
      · rw [if_neg c6] at hF
        by_cases c9 : p0 = (3 : Int32)
        · rw [if_pos c9] at hF
          refine lv_tableIn (tgt := 97) hx hb dX11_count_1 (by rw [c9]; decide) (by rw [c9]; decide) (by rw [c9]; rfl) (by decide) ?_
          refine lv_aload_n hx hb dX11_count_97 rfl (lv_at hl 0 rfl) ?_
          refine va_get (D := D) (ci := 11) (v := va_re ad (M.2 a 3)) (C := RX11) (T := TX11) (N := 5) hx hb hts (mus hf_X11) hown hK hP a (wld_o ct ad G M hc hk (by decide)) rfl 3 (by decide) (hts (.fieldLink RX11 24 "VideoSuite" "decoder" "LVideoSuite$Decoder;") (mu mw_885)) (fun _ h9 => h9) rfl dX11_count_98 ?_
          obtain ⟨b10, ho10, hc10, hk10, hF⟩ := dr_some hF
          refine W_st (st' := [.ref (ad b10)]) (by rw [va_some ho10]) ?_
          refine va_get (D := D) (ci := 1) (v := va_re ad (M.2 b10 1)) (C := RX1) (T := TX1) (N := 22) hx hb hts (mus hf_X1) hown hK hP b10 (wld_o ct ad G M hc10 hk10 (by decide)) rfl 1 (by decide) (hts (.fieldLink RX11 146 "VideoSuite$Decoder" "store" "LVideoSuite$Store;") (mu mw_643)) (fun _ h9 => h9) rfl dX11_count_101 ?_
          obtain ⟨b11, ho11, hc11, hk11, hF⟩ := dr_some hF
          refine W_st (st' := [.ref (ad b11)]) (by rw [va_some ho11]) ?_
          refine va_get (D := D) (ci := 7) (v := .int (M.1 b11 14)) (C := RX7) (T := TX7) (N := 17) hx hb hts (mus hf_X7) hown hK hP b11 (wld_o ct ad G M hc11 hk11 (by decide)) rfl 14 (by decide) (hts (.fieldLink RX11 155 "VideoSuite$Store" "outputs" "I") (mu mw_374)) (fun _ h9 => h9) rfl dX11_count_104 ?_
          obtain ⟨x12, ex12, hF⟩ := ltt_some hF
          refine lv_topi (fun zx12 ezx12 => ?_)
          obtain rfl : x12 = zx12 := ex12.trans ezx12.symm
          obtain rfl := Option.some.inj hF
          exact W.iret (v := x12) hx hb hr (fun t ht hW => ⟨⟨_, (), rfl, rfl, ⟨by rw [ht]; exact hP, va_K.moved hW.alike hK, hD⟩⟩, hS.F ht⟩) hS.2.2 dX11_count_107
        · rw [if_neg c9] at hF
          by_cases c13 : p0 = (4 : Int32)
          · rw [if_pos c13] at hF
            refine lv_tableIn (tgt := 108) hx hb dX11_count_1 (by rw [c13]; decide) (by rw [c13]; decide) (by rw [c13]; rfl) (by decide) ?_
            refine lv_aload_n hx hb dX11_count_108 rfl (lv_at hl 0 rfl) ?_
            refine va_get (D := D) (ci := 11) (v := va_re ad (M.2 a 3)) (C := RX11) (T := TX11) (N := 5) hx hb hts (mus hf_X11) hown hK hP a (wld_o ct ad G M hc hk (by decide)) rfl 3 (by decide) (hts (.fieldLink RX11 24 "VideoSuite" "decoder" "LVideoSuite$Decoder;") (mu mw_885)) (fun _ h9 => h9) rfl dX11_count_109 ?_
            obtain ⟨b14, ho14, hc14, hk14, hF⟩ := dr_some hF
            refine W_st (st' := [.ref (ad b14)]) (by rw [va_some ho14]) ?_
            refine va_get (D := D) (ci := 1) (v := .int (M.1 b14 14)) (C := RX1) (T := TX1) (N := 22) hx hb hts (mus hf_X1) hown hK hP b14 (wld_o ct ad G M hc14 hk14 (by decide)) rfl 14 (by decide) (hts (.fieldLink RX11 285 "VideoSuite$Decoder" "faultCount" "I") (mu mw_657)) (fun _ h9 => h9) rfl dX11_count_112 ?_
            obtain ⟨x15, ex15, hF⟩ := ltt_some hF
            refine lv_topi (fun zx15 ezx15 => ?_)
            obtain rfl : x15 = zx15 := ex15.trans ezx15.symm
            obtain rfl := Option.some.inj hF
            exact W.iret (v := x15) hx hb hr (fun t ht hW => ⟨⟨_, (), rfl, rfl, ⟨by rw [ht]; exact hP, va_K.moved hW.alike hK, hD⟩⟩, hS.F ht⟩) hS.2.2 dX11_count_115
          · rw [if_neg c13] at hF
            by_cases c16 : p0 = (5 : Int32)
            · rw [if_pos c16] at hF
              refine lv_tableIn (tgt := 116) hx hb dX11_count_1 (by rw [c16]; decide) (by rw [c16]; decide) (by rw [c16]; rfl) (by decide) ?_
              refine lv_aload_n hx hb dX11_count_116 rfl (lv_at hl 0 rfl) ?_
              refine va_get (D := D) (ci := 11) (v := va_re ad (M.2 a 3)) (C := RX11) (T := TX11) (N := 5) hx hb hts (mus hf_X11) hown hK hP a (wld_o ct ad G M hc hk (by decide)) rfl 3 (by decide) (hts (.fieldLink RX11 24 "VideoSuite" "decoder" "LVideoSuite$Decoder;") (mu mw_885)) (fun _ h9 => h9) rfl dX11_count_117 ?_
              obtain ⟨b17, ho17, hc17, hk17, hF⟩ := dr_some hF
              refine W_st (st' := [.ref (ad b17)]) (by rw [va_some ho17]) ?_
              refine va_get (D := D) (ci := 1) (v := va_re ad (M.2 b17 1)) (C := RX1) (T := TX1) (N := 22) hx hb hts (mus hf_X1) hown hK hP b17 (wld_o ct ad G M hc17 hk17 (by decide)) rfl 1 (by decide) (hts (.fieldLink RX11 146 "VideoSuite$Decoder" "store" "LVideoSuite$Store;") (mu mw_643)) (fun _ h9 => h9) rfl dX11_count_120 ?_
              obtain ⟨b18, ho18, hc18, hk18, hF⟩ := dr_some hF
              refine W_st (st' := [.ref (ad b18)]) (by rw [va_some ho18]) ?_
              refine va_get (D := D) (ci := 7) (v := .int (M.1 b18 3)) (C := RX7) (T := TX7) (N := 17) hx hb hts (mus hf_X7) hown hK hP b18 (wld_o ct ad G M hc18 hk18 (by decide)) rfl 3 (by decide) (hts (.fieldLink RX11 264 "VideoSuite$Store" "count" "I") (mu mw_359)) (fun _ h9 => h9) rfl dX11_count_123 ?_
              obtain ⟨x19, ex19, hF⟩ := ltt_some hF
              refine lv_topi (fun zx19 ezx19 => ?_)
              obtain rfl : x19 = zx19 := ex19.trans ezx19.symm
              obtain rfl := Option.some.inj hF
              exact W.iret (v := x19) hx hb hr (fun t ht hW => ⟨⟨_, (), rfl, rfl, ⟨by rw [ht]; exact hP, va_K.moved hW.alike hK, hD⟩⟩, hS.F ht⟩) hS.2.2 dX11_count_126
            · rw [if_neg c16] at hF
              by_cases c20 : p0 = (6 : Int32)
              · rw [if_pos c20] at hF
                refine lv_tableIn (tgt := 127) hx hb dX11_count_1 (by rw [c20]; decide) (by rw [c20]; decide) (by rw [c20]; rfl) (by decide) ?_
                refine lv_aload_n hx hb dX11_count_127 rfl (lv_at hl 0 rfl) ?_
                refine va_get (D := D) (ci := 11) (v := va_re ad (M.2 a 3)) (C := RX11) (T := TX11) (N := 5) hx hb hts (mus hf_X11) hown hK hP a (wld_o ct ad G M hc hk (by decide)) rfl 3 (by decide) (hts (.fieldLink RX11 24 "VideoSuite" "decoder" "LVideoSuite$Decoder;") (mu mw_885)) (fun _ h9 => h9) rfl dX11_count_128 ?_
                obtain ⟨b21, ho21, hc21, hk21, hF⟩ := dr_some hF
                refine W_st (st' := [.ref (ad b21)]) (by rw [va_some ho21]) ?_
                refine va_get (D := D) (ci := 1) (v := .int (M.1 b21 16)) (C := RX1) (T := TX1) (N := 22) hx hb hts (mus hf_X1) hown hK hP b21 (wld_o ct ad G M hc21 hk21 (by decide)) rfl 16 (by decide) (hts (.fieldLink RX11 453 "VideoSuite$Decoder" "underWay" "Z") (mu mw_661)) (fun _ h9 => h9) rfl dX11_count_131 ?_
                obtain ⟨x22, ex22, hF⟩ := ltt_some hF
                refine lv_topi (fun zx22 ezx22 => ?_)
                obtain rfl : x22 = zx22 := ex22.trans ezx22.symm
                obtain ⟨y23, hy23, hF⟩ := bnd_some hF
                have J23 : ∀ (H : Heap) (locs : List Loc) (ls : Array Slot), va_P D classes (wld ct ad G M) H → va_D A (wld ct ad G M) → va_S A s.heap H locs → lv_has ls 2 [(0, .ref (ad a)), (1, .int p0)] → W p l e (headSpec wuX11_count ({ frames := 0, cells := 0, slots := 0, locals := 0 })).room s m ([.ref (ad a), .int p0] : List Value).toArray below meth c H locs 0 0 (MQ below (va_Qi (fun (q : Int32) (_ : Unit) => q = y.2) (fun _ t => kE D ct ad G A y.1 t) A) ([.ref (ad a), .int p0] : List Value).toArray s 0 0 A) (F0 m 142 ls [.int y23]) := by
                  intro H locs ls hP hD hS hl
                  obtain rfl := Option.some.inj hF
                  exact W.iret (v := y23) hx hb hr (fun t ht hW => ⟨⟨_, (), rfl, rfl, ⟨by rw [ht]; exact hP, va_K.moved hW.alike hK, hD⟩⟩, hS.F ht⟩) hS.2.2 dX11_count_142
                clear hF
                have hF := hy23
                clear hy23
                refine lv_if_eq (tgt := 141) hx hb dX11_count_134 (by decide) (fun c24 => ?_) (fun c24 => ?_)
                · rw [if_pos c24] at hF
                  refine lv_iconst (v := (0 : Int32)) hx hb dX11_count_141 (by decide) ?_
                  obtain rfl := Option.some.inj hF
                  exact J23 _ _ _ hP hD hS (lv_sub hl [0, 1] rfl)
                · rw [if_neg c24] at hF
                  refine lv_iconst (v := (1 : Int32)) hx hb dX11_count_137 (by decide) ?_
                  refine lv_goto (tgt := 142) hx hb dX11_count_138 (by decide) ?_
                  obtain rfl := Option.some.inj hF
                  exact J23 _ _ _ hP hD hS (lv_sub hl [0, 1] rfl)
              · rw [if_neg c20] at hF
                by_cases c25 : p0 = (7 : Int32)
                · rw [if_pos c25] at hF
                  refine lv_tableIn (tgt := 143) hx hb dX11_count_1 (by rw [c25]; decide) (by rw [c25]; decide) (by rw [c25]; rfl) (by decide) ?_
                  refine lv_aload_n hx hb dX11_count_143 rfl (lv_at hl 0 rfl) ?_
                  refine va_get (D := D) (ci := 11) (v := va_re ad (M.2 a 3)) (C := RX11) (T := TX11) (N := 5) hx hb hts (mus hf_X11) hown hK hP a (wld_o ct ad G M hc hk (by decide)) rfl 3 (by decide) (hts (.fieldLink RX11 24 "VideoSuite" "decoder" "LVideoSuite$Decoder;") (mu mw_885)) (fun _ h9 => h9) rfl dX11_count_144 ?_
                  obtain ⟨b26, ho26, hc26, hk26, hF⟩ := dr_some hF
                  refine W_st (st' := [.ref (ad b26)]) (by rw [va_some ho26]) ?_
                  refine va_get (D := D) (ci := 1) (v := .int (M.1 b26 15)) (C := RX1) (T := TX1) (N := 22) hx hb hts (mus hf_X1) hown hK hP b26 (wld_o ct ad G M hc26 hk26 (by decide)) rfl 15 (by decide) (hts (.fieldLink RX11 194 "VideoSuite$Decoder" "slices" "I") (mu mw_659)) (fun _ h9 => h9) rfl dX11_count_147 ?_
                  obtain ⟨x27, ex27, hF⟩ := ltt_some hF
                  refine lv_topi (fun zx27 ezx27 => ?_)
                  obtain rfl : x27 = zx27 := ex27.trans ezx27.symm
                  obtain rfl := Option.some.inj hF
                  exact W.iret (v := x27) hx hb hr (fun t ht hW => ⟨⟨_, (), rfl, rfl, ⟨by rw [ht]; exact hP, va_K.moved hW.alike hK, hD⟩⟩, hS.F ht⟩) hS.2.2 dX11_count_150
                · rw [if_neg c25] at hF
                  by_cases c28 : p0 = (8 : Int32)
                  · rw [if_pos c28] at hF
                    refine lv_tableIn (tgt := 151) hx hb dX11_count_1 (by rw [c28]; decide) (by rw [c28]; decide) (by rw [c28]; rfl) (by decide) ?_
                    refine lv_aload_n hx hb dX11_count_151 rfl (lv_at hl 0 rfl) ?_
                    refine va_get (D := D) (ci := 11) (v := va_re ad (M.2 a 3)) (C := RX11) (T := TX11) (N := 5) hx hb hts (mus hf_X11) hown hK hP a (wld_o ct ad G M hc hk (by decide)) rfl 3 (by decide) (hts (.fieldLink RX11 24 "VideoSuite" "decoder" "LVideoSuite$Decoder;") (mu mw_885)) (fun _ h9 => h9) rfl dX11_count_152 ?_
                    obtain ⟨b29, ho29, hc29, hk29, hF⟩ := dr_some hF
                    refine W_st (st' := [.ref (ad b29)]) (by rw [va_some ho29]) ?_
                    refine va_get (D := D) (ci := 1) (v := va_re ad (M.2 b29 0)) (C := RX1) (T := TX1) (N := 22) hx hb hts (mus hf_X1) hown hK hP b29 (wld_o ct ad G M hc29 hk29 (by decide)) rfl 0 (by decide) (hts (.fieldLink RX11 293 "VideoSuite$Decoder" "reader" "LVideoSuite$Reader;") (mu mw_641)) (fun _ h9 => h9) rfl dX11_count_155 ?_
                    obtain ⟨b30, ho30, hc30, hk30, hF⟩ := dr_some hF
                    refine W_st (st' := [.ref (ad b30)]) (by rw [va_some ho30]) ?_
                    refine va_get (D := D) (ci := 5) (v := .int (M.1 b30 12)) (C := RX5) (T := TX5) (N := 17) hx hb hts (mus hf_X5) hown hK hP b30 (wld_o ct ad G M hc30 hk30 (by decide)) rfl 12 (by decide) (hts (.fieldLink RX11 297 "VideoSuite$Reader" "elementCount" "I") (mu mw_303)) (fun _ h9 => h9) rfl dX11_count_158 ?_
                    obtain ⟨x31, ex31, hF⟩ := ltt_some hF
                    refine lv_topi (fun zx31 ezx31 => ?_)
                    obtain rfl : x31 = zx31 := ex31.trans ezx31.symm
                    obtain rfl := Option.some.inj hF
                    exact W.iret (v := x31) hx hb hr (fun t ht hW => ⟨⟨_, (), rfl, rfl, ⟨by rw [ht]; exact hP, va_K.moved hW.alike hK, hD⟩⟩, hS.F ht⟩) hS.2.2 dX11_count_161
                  · rw [if_neg c28] at hF
                    by_cases c32 : p0 = (9 : Int32)
                    · rw [if_pos c32] at hF
                      refine lv_tableIn (tgt := 162) hx hb dX11_count_1 (by rw [c32]; decide) (by rw [c32]; decide) (by rw [c32]; rfl) (by decide) ?_
                      refine lv_aload_n hx hb dX11_count_162 rfl (lv_at hl 0 rfl) ?_
                      refine va_get (D := D) (ci := 11) (v := va_re ad (M.2 a 4)) (C := RX11) (T := TX11) (N := 5) hx hb hts (mus hf_X11) hown hK hP a (wld_o ct ad G M hc hk (by decide)) rfl 4 (by decide) (hts (.fieldLink RX11 31 "VideoSuite" "coder" "LVideoSuite$Coder;") (mu mw_886)) (fun _ h9 => h9) rfl dX11_count_163 ?_
                      obtain ⟨b33, ho33, hc33, hk33, hF⟩ := dr_some hF
                      refine W_st (st' := [.ref (ad b33)]) (by rw [va_some ho33]) ?_
                      refine va_get (D := D) (ci := 0) (v := va_re ad (M.2 b33 2)) (C := RX0) (T := TX0) (N := 21) hx hb hts (mus hf_X0) hown hK hP b33 (wld_o ct ad G M hc33 hk33 (by decide)) rfl 2 (by decide) (hts (.fieldLink RX11 373 "VideoSuite$Coder" "writer" "LVideoSuite$Writer;") (mu mw_816)) (fun _ h9 => h9) rfl dX11_count_166 ?_
                      obtain ⟨b34, ho34, hc34, hk34, hF⟩ := dr_some hF
                      refine W_st (st' := [.ref (ad b34)]) (by rw [va_some ho34]) ?_
                      refine va_get (D := D) (ci := 10) (v := .int (M.1 b34 1)) (C := RX10) (T := TX10) (N := 20) hx hb hts (mus hf_X10) hown hK hP b34 (wld_o ct ad G M hc34 hk34 (by decide)) rfl 1 (by decide) (hts (.fieldLink RX11 377 "VideoSuite$Writer" "length" "I") (mu mw_739)) (fun _ h9 => h9) rfl dX11_count_169 ?_
                      obtain ⟨x35, ex35, hF⟩ := ltt_some hF
                      refine lv_topi (fun zx35 ezx35 => ?_)
                      obtain rfl : x35 = zx35 := ex35.trans ezx35.symm
                      obtain rfl := Option.some.inj hF
                      exact W.iret (v := x35) hx hb hr (fun t ht hW => ⟨⟨_, (), rfl, rfl, ⟨by rw [ht]; exact hP, va_K.moved hW.alike hK, hD⟩⟩, hS.F ht⟩) hS.2.2 dX11_count_172
                    · rw [if_neg c32] at hF
                      by_cases c36 : p0 = (10 : Int32)
                      · rw [if_pos c36] at hF
                        refine lv_tableIn (tgt := 173) hx hb dX11_count_1 (by rw [c36]; decide) (by rw [c36]; decide) (by rw [c36]; rfl) (by decide) ?_
                        refine lv_aload_n hx hb dX11_count_173 rfl (lv_at hl 0 rfl) ?_
                        refine va_get (D := D) (ci := 11) (v := va_re ad (M.2 a 4)) (C := RX11) (T := TX11) (N := 5) hx hb hts (mus hf_X11) hown hK hP a (wld_o ct ad G M hc hk (by decide)) rfl 4 (by decide) (hts (.fieldLink RX11 31 "VideoSuite" "coder" "LVideoSuite$Coder;") (mu mw_886)) (fun _ h9 => h9) rfl dX11_count_174 ?_
                        obtain ⟨b37, ho37, hc37, hk37, hF⟩ := dr_some hF
                        refine W_st (st' := [.ref (ad b37)]) (by rw [va_some ho37]) ?_
                        refine va_get (D := D) (ci := 0) (v := .int (M.1 b37 16)) (C := RX0) (T := TX0) (N := 21) hx hb hts (mus hf_X0) hown hK hP b37 (wld_o ct ad G M hc37 hk37 (by decide)) rfl 16 (by decide) (hts (.fieldLink RX11 370 "VideoSuite$Coder" "codedCount" "I") (mu mw_833)) (fun _ h9 => h9) rfl dX11_count_177 ?_
                        obtain ⟨x38, ex38, hF⟩ := ltt_some hF
                        refine lv_topi (fun zx38 ezx38 => ?_)
                        obtain rfl : x38 = zx38 := ex38.trans ezx38.symm
                        obtain rfl := Option.some.inj hF
                        exact W.iret (v := x38) hx hb hr (fun t ht hW => ⟨⟨_, (), rfl, rfl, ⟨by rw [ht]; exact hP, va_K.moved hW.alike hK, hD⟩⟩, hS.F ht⟩) hS.2.2 dX11_count_180
                      · rw [if_neg c36] at hF
                        by_cases c39 : p0 = (11 : Int32)
                        · rw [if_pos c39] at hF
                          refine lv_tableIn (tgt := 181) hx hb dX11_count_1 (by rw [c39]; decide) (by rw [c39]; decide) (by rw [c39]; rfl) (by decide) ?_
                          refine lv_aload_n hx hb dX11_count_181 rfl (lv_at hl 0 rfl) ?_
                          refine va_get (D := D) (ci := 11) (v := va_re ad (M.2 a 4)) (C := RX11) (T := TX11) (N := 5) hx hb hts (mus hf_X11) hown hK hP a (wld_o ct ad G M hc hk (by decide)) rfl 4 (by decide) (hts (.fieldLink RX11 31 "VideoSuite" "coder" "LVideoSuite$Coder;") (mu mw_886)) (fun _ h9 => h9) rfl dX11_count_182 ?_
                          obtain ⟨b40, ho40, hc40, hk40, hF⟩ := dr_some hF
                          refine W_st (st' := [.ref (ad b40)]) (by rw [va_some ho40]) ?_
                          refine va_get (D := D) (ci := 0) (v := .int (M.1 b40 10)) (C := RX0) (T := TX0) (N := 21) hx hb hts (mus hf_X0) hown hK hP b40 (wld_o ct ad G M hc40 hk40 (by decide)) rfl 10 (by decide) (hts (.fieldLink RX11 361 "VideoSuite$Coder" "waiting" "I") (mu mw_825)) (fun _ h9 => h9) rfl dX11_count_185 ?_
                          obtain ⟨x41, ex41, hF⟩ := ltt_some hF
                          refine lv_topi (fun zx41 ezx41 => ?_)
                          obtain rfl : x41 = zx41 := ex41.trans ezx41.symm
                          obtain rfl := Option.some.inj hF
                          exact W.iret (v := x41) hx hb hr (fun t ht hW => ⟨⟨_, (), rfl, rfl, ⟨by rw [ht]; exact hP, va_K.moved hW.alike hK, hD⟩⟩, hS.F ht⟩) hS.2.2 dX11_count_188
                        · rw [if_neg c39] at hF
                          by_cases c42 : p0 = (12 : Int32)
                          · rw [if_pos c42] at hF
                            refine lv_tableIn (tgt := 189) hx hb dX11_count_1 (by rw [c42]; decide) (by rw [c42]; decide) (by rw [c42]; rfl) (by decide) ?_
                            refine lv_aload_n hx hb dX11_count_189 rfl (lv_at hl 0 rfl) ?_
                            refine va_get (D := D) (ci := 11) (v := va_re ad (M.2 a 2)) (C := RX11) (T := TX11) (N := 5) hx hb hts (mus hf_X11) hown hK hP a (wld_o ct ad G M hc hk (by decide)) rfl 2 (by decide) (hts (.fieldLink RX11 17 "VideoSuite" "units" "LVideoSuite$Units;") (mu mw_884)) (fun _ h9 => h9) rfl dX11_count_190 ?_
                            obtain ⟨b43, ho43, hc43, hk43, hF⟩ := dr_some hF
                            refine W_st (st' := [.ref (ad b43)]) (by rw [va_some ho43]) ?_
                            refine va_get (D := D) (ci := 8) (v := .int (M.1 b43 11)) (C := RX8) (T := TX8) (N := 15) hx hb hts (mus hf_X8) hown hK hP b43 (wld_o ct ad G M hc43 hk43 (by decide)) rfl 11 (by decide) (hts (.fieldLink RX11 406 "VideoSuite$Units" "boxCount" "I") (mu mw_230)) (fun _ h9 => h9) rfl dX11_count_193 ?_
                            obtain ⟨x44, ex44, hF⟩ := ltt_some hF
                            refine lv_topi (fun zx44 ezx44 => ?_)
                            obtain rfl : x44 = zx44 := ex44.trans ezx44.symm
                            obtain rfl := Option.some.inj hF
                            exact W.iret (v := x44) hx hb hr (fun t ht hW => ⟨⟨_, (), rfl, rfl, ⟨by rw [ht]; exact hP, va_K.moved hW.alike hK, hD⟩⟩, hS.F ht⟩) hS.2.2 dX11_count_196
                          · rw [if_neg c42] at hF
                            by_cases c45 : p0 = (13 : Int32)
                            · rw [if_pos c45] at hF
                              refine lv_tableIn (tgt := 197) hx hb dX11_count_1 (by rw [c45]; decide) (by rw [c45]; decide) (by rw [c45]; rfl) (by decide) ?_
                              refine lv_aload_n hx hb dX11_count_197 rfl (lv_at hl 0 rfl) ?_
                              refine va_get (D := D) (ci := 11) (v := va_re ad (M.2 a 4)) (C := RX11) (T := TX11) (N := 5) hx hb hts (mus hf_X11) hown hK hP a (wld_o ct ad G M hc hk (by decide)) rfl 4 (by decide) (hts (.fieldLink RX11 31 "VideoSuite" "coder" "LVideoSuite$Coder;") (mu mw_886)) (fun _ h9 => h9) rfl dX11_count_198 ?_
                              obtain ⟨b46, ho46, hc46, hk46, hF⟩ := dr_some hF
                              refine W_st (st' := [.ref (ad b46)]) (by rw [va_some ho46]) ?_
                              refine va_get (D := D) (ci := 0) (v := .int (M.1 b46 14)) (C := RX0) (T := TX0) (N := 21) hx hb hts (mus hf_X0) hown hK hP b46 (wld_o ct ad G M hc46 hk46 (by decide)) rfl 14 (by decide) (hts (.fieldLink RX11 457 "VideoSuite$Coder" "chance" "I") (mu mw_830)) (fun _ h9 => h9) rfl dX11_count_201 ?_
                              obtain ⟨x47, ex47, hF⟩ := ltt_some hF
                              refine lv_topi (fun zx47 ezx47 => ?_)
                              obtain rfl : x47 = zx47 := ex47.trans ezx47.symm
                              obtain rfl := Option.some.inj hF
                              exact W.iret (v := x47) hx hb hr (fun t ht hW => ⟨⟨_, (), rfl, rfl, ⟨by rw [ht]; exact hP, va_K.moved hW.alike hK, hD⟩⟩, hS.F ht⟩) hS.2.2 dX11_count_204
                            · rw [if_neg c45] at hF
                              by_cases c48 : p0 = (14 : Int32)
                              · rw [if_pos c48] at hF
                                refine lv_tableIn (tgt := 205) hx hb dX11_count_1 (by rw [c48]; decide) (by rw [c48]; decide) (by rw [c48]; rfl) (by decide) ?_
                                refine lv_aload_n hx hb dX11_count_205 rfl (lv_at hl 0 rfl) ?_
                                refine va_get (D := D) (ci := 11) (v := va_re ad (M.2 a 3)) (C := RX11) (T := TX11) (N := 5) hx hb hts (mus hf_X11) hown hK hP a (wld_o ct ad G M hc hk (by decide)) rfl 3 (by decide) (hts (.fieldLink RX11 24 "VideoSuite" "decoder" "LVideoSuite$Decoder;") (mu mw_885)) (fun _ h9 => h9) rfl dX11_count_206 ?_
                                obtain ⟨b49, ho49, hc49, hk49, hF⟩ := dr_some hF
                                refine W_st (st' := [.ref (ad b49)]) (by rw [va_some ho49]) ?_
                                refine va_get (D := D) (ci := 1) (v := .int (M.1 b49 18)) (C := RX1) (T := TX1) (N := 22) hx hb hts (mus hf_X1) hown hK hP b49 (wld_o ct ad G M hc49 hk49 (by decide)) rfl 18 (by decide) (hts (.fieldLink RX11 460 "VideoSuite$Decoder" "mended" "I") (mu mw_664)) (fun _ h9 => h9) rfl dX11_count_209 ?_
                                obtain ⟨x50, ex50, hF⟩ := ltt_some hF
                                refine lv_topi (fun zx50 ezx50 => ?_)
                                obtain rfl : x50 = zx50 := ex50.trans ezx50.symm
                                obtain rfl := Option.some.inj hF
                                exact W.iret (v := x50) hx hb hr (fun t ht hW => ⟨⟨_, (), rfl, rfl, ⟨by rw [ht]; exact hP, va_K.moved hW.alike hK, hD⟩⟩, hS.F ht⟩) hS.2.2 dX11_count_212
                              · rw [if_neg c48] at hF
                                obtain ⟨hsw, hF⟩ := chk_some hF
                                refine lv_tableOut (tgt := 213) hx hb dX11_count_1 hsw (by decide) ?_
                                refine lv_iconst (v := (-1 : Int32)) hx hb dX11_count_213 (by decide) ?_
                                obtain rfl := Option.some.inj hF
                                exact W.iret (v := (-1 : Int32)) hx hb hr (fun t ht hW => ⟨⟨_, (), rfl, rfl, ⟨by rw [ht]; exact hP, va_K.moved hW.alike hK, hD⟩⟩, hS.F ht⟩) hS.2.2 dX11_count_214
theorem dX11_hash_0 : decode cX11_hash 0 = .ok (.iconst 0, 1) := by decide +kernel
theorem dX11_hash_1 : decode cX11_hash 1 = .ok (.istore_n 3, 1) := by decide +kernel
theorem dX11_hash_2 : decode cX11_hash 2 = .ok (.iload_n 1, 1) := by decide +kernel
theorem dX11_hash_3 : decode cX11_hash 3 = .ok (.istore 4, 2) := by decide +kernel
theorem dX11_hash_5 : decode cX11_hash 5 = .ok (.iload 4, 2) := by decide +kernel
theorem dX11_hash_7 : decode cX11_hash 7 = .ok (.iload_n 1, 1) := by decide +kernel
theorem dX11_hash_8 : decode cX11_hash 8 = .ok (.iload_n 2, 1) := by decide +kernel
theorem dX11_hash_9 : decode cX11_hash 9 = .ok (.iadd, 1) := by decide +kernel
theorem dX11_hash_10 : decode cX11_hash 10 = .ok (.if_icmp .ge 26, 3) := by decide +kernel
theorem dX11_hash_13 : decode cX11_hash 13 = .ok (.iload 4, 2) := by decide +kernel
theorem dX11_hash_15 : decode cX11_hash 15 = .ok (.aload_n 0, 1) := by decide +kernel
theorem dX11_hash_16 : decode cX11_hash 16 = .ok (.arraylength, 1) := by decide +kernel
theorem dX11_hash_17 : decode cX11_hash 17 = .ok (.if_icmp .ge 19, 3) := by decide +kernel
theorem dX11_hash_20 : decode cX11_hash 20 = .ok (.bipush 31, 2) := by decide +kernel
theorem dX11_hash_22 : decode cX11_hash 22 = .ok (.iload_n 3, 1) := by decide +kernel
theorem dX11_hash_23 : decode cX11_hash 23 = .ok (.imul, 1) := by decide +kernel
theorem dX11_hash_24 : decode cX11_hash 24 = .ok (.aload_n 0, 1) := by decide +kernel
theorem dX11_hash_25 : decode cX11_hash 25 = .ok (.iload 4, 2) := by decide +kernel
theorem dX11_hash_27 : decode cX11_hash 27 = .ok (.iaload, 1) := by decide +kernel
theorem dX11_hash_28 : decode cX11_hash 28 = .ok (.iadd, 1) := by decide +kernel
theorem dX11_hash_29 : decode cX11_hash 29 = .ok (.istore_n 3, 1) := by decide +kernel
theorem dX11_hash_30 : decode cX11_hash 30 = .ok (.iinc 4 1, 3) := by decide +kernel
theorem dX11_hash_33 : decode cX11_hash 33 = .ok (.goto (-28), 3) := by decide +kernel
theorem dX11_hash_36 : decode cX11_hash 36 = .ok (.iload_n 3, 1) := by decide +kernel
theorem dX11_hash_37 : decode cX11_hash 37 = .ok (.ireturn, 1) := by decide +kernel
def FX11_hash (G : GG) (M : DD) (p0 : Option Nat) (p1 : Int32) (p2 : Int32) : Option (DD × Int32) :=
  bnd (itr (fun (s2 : Int32 × Int32) => ((ltt ((p1 + p2)) fun x5 =>
  if x5 ≤ s2.2 then (some (.inr (s2.1, s2.2))) else
  (dr G 13 p0 fun b7 =>
  ltt (Int32.ofNat (G.2.2 b7)) fun x8 =>
  if x8 ≤ s2.2 then (some (.inr (s2.1, s2.2))) else
  (ltt ((((31 : Int32)) * s2.1)) fun x10 =>
  chk (¬ (s2.2 < 0 ∨ G.2.2 b7 ≤ s2.2.toNatClampNeg)) <|
  ltt (M.1 b7 s2.2.toNatClampNeg) fun x11 =>
  ltt ((x10 + x11)) fun x12 =>
  ltt (s2.2 + (1 : Int32)) fun x13 =>
  some (.inl (x12, x13))))) : Option ((Int32 × Int32) ⊕ (Int32 × Int32)))) 1000000 ((0 : Int32), p1)) fun (y1 : Int32 × Int32) =>
  some (M, y1.1)
set_option maxHeartbeats 4000000 in
set_option maxRecDepth 100000 in
theorem kX11_hash (l : Launch) (D : va_G) (ct : CT) (ad : Nat → Nat) (Z : Nat → Nat) (G : GG) (M : DD) (sz : Nat) (p0 : Option Nat) (p1 : Int32) (p2 : Int32) (y : DD × Int32) (hF : FX11_hash G M p0 p1 p2 = some y) : Met l yX11_hash wuX11_hash ({ frames := 0, cells := 0, slots := 0, locals := 0 }) (va_Pc [va_re ad p0, .int p1, .int p2] (kB D ct ad Z G M sz)) (va_Qi (fun (q : Int32) (_ : Unit) => q = y.2) (fun _ t => kE D ct ad G (wA ad G sz) y.1 t) (wA ad G sz)) 0 0 (wA ad G sz) := by
  refine Met.ofW (cc := cX11_hash) (maxL := 5) (ret := (some .int)) (by decide) rfl ?_
  intro p e s m args below meth c s₁ B hml hv
  obtain ⟨rfl, hsz, hP, hK, hD0, hZ, hN⟩ := hv
  have hx := B.exec
  have hb := B.bytes
  have hr := B.returns
  have hts := atoms_spec (ws := wuX11_hash) B.pre
  have hown : s.vm.findClass RX11 = some m.cls := findClass_of_methodNamed B.named
  have hlocks := B.notSynchronized
  subst hsz
  have hD := wD_self (sz := s.heap.size) hD0
  have hA9 : ∀ q, s.heap.size ≤ q → wA ad G s.heap.size q := fun q h => Or.inr h
  generalize hAe : wA ad G s.heap.size = A at hD hA9 hZ ⊢
  have hS : va_S A s.heap s.heap [] := va_S.rf
  have hl := lv_entry ([va_re ad p0, .int p1, .int p2]) (n := 5) (by cases p0 <;> exact Nat.le_of_ble_eq_true rfl)
  rw [lg_entry_eq]
  generalize (lg_sl ([va_re ad p0, .int p1, .int p2]) ++ List.replicate (5 - (lg_sl ([va_re ad p0, .int p1, .int p2])).length) Slot.unset).toArray = ls at hl ⊢
  have hl : lv_has ls 5 [(0, va_re ad p0), (1, .int p1), (2, .int p2)] := by have e9 : lv_args 0 [va_re ad p0, .int p1, .int p2] = [(0, va_re ad p0), (1, .int p1), (2, .int p2)] := (by cases p0 <;> rfl); rw [e9] at hl; exact hl
  unfold FX11_hash at hF
  refine lv_iconst (v := (0 : Int32)) hx hb dX11_hash_0 (by decide) ?_
  refine lv_istore_n (lv' := [(3, .int (0 : Int32)), (0, va_re ad p0), (1, .int p1), (2, .int p2)]) hx hb dX11_hash_1 rfl hl (by decide) rfl (fun ls hl => ?_)
  refine lv_iload_n hx hb dX11_hash_2 rfl (lv_at hl 2 rfl) ?_
  refine lv_istore (lv' := [(4, .int p1), (3, .int (0 : Int32)), (0, va_re ad p0), (1, .int p1), (2, .int p2)]) hx hb dX11_hash_3 hl (by decide) rfl (fun ls hl => ?_)
  obtain ⟨y1, hy1, hF⟩ := bnd_some hF
  have K1 : ∀ (H : Heap) (locs : List Loc) (ls : Array Slot), va_P D classes (wld ct ad G M) H → va_D A (wld ct ad G M) → va_S A s.heap H locs → lv_has ls 5 [(4, .int y1.2), (3, .int y1.1), (0, va_re ad p0), (1, .int p1), (2, .int p2)] → W p l e (headSpec wuX11_hash ({ frames := 0, cells := 0, slots := 0, locals := 0 })).room s m ([va_re ad p0, .int p1, .int p2] : List Value).toArray below meth c H locs 0 0 (MQ below (va_Qi (fun (q : Int32) (_ : Unit) => q = y.2) (fun _ t => kE D ct ad G A y.1 t) A) ([va_re ad p0, .int p1, .int p2] : List Value).toArray s 0 0 A) (F0 m 36 ls []) := by
    intro H locs ls hP hD hS hl
    refine lv_iload_n hx hb dX11_hash_36 rfl (lv_at hl 1 rfl) ?_
    obtain rfl := Option.some.inj hF
    exact W.iret (v := y1.1) hx hb hr (fun t ht hW => ⟨⟨_, (), rfl, rfl, ⟨by rw [ht]; exact hP, va_K.moved hW.alike hK, hD⟩⟩, hS.F ht⟩) hS.2.2 dX11_hash_37
  clear hF
  refine itr_rule (fun (s2 : Int32 × Int32) => ∀ (H : Heap) (locs : List Loc) (ls : Array Slot), va_P D classes (wld ct ad G M) H → va_D A (wld ct ad G M) → va_S A s.heap H locs → lv_has ls 5 [(4, .int s2.2), (3, .int s2.1), (0, va_re ad p0), (1, .int p1), (2, .int p2)] → W p l e (headSpec wuX11_hash ({ frames := 0, cells := 0, slots := 0, locals := 0 })).room s m ([va_re ad p0, .int p1, .int p2] : List Value).toArray below meth c H locs 0 0 (MQ below (va_Qi (fun (q : Int32) (_ : Unit) => q = y.2) (fun _ t => kE D ct ad G A y.1 t) A) ([va_re ad p0, .int p1, .int p2] : List Value).toArray s 0 0 A) (F0 m 5 ls [])) ?_ _ _ hy1 _ _ _ hP hD hS (lv_sub hl [0, 1, 2, 3, 4] rfl)
  rintro s2 ⟨z4, hF, hwz4⟩ H locs ls hP hD hS hl
  try dsimp only at hF
  refine lv_iload hx hb dX11_hash_5 (lv_at hl 0 rfl) ?_
  refine lv_iload_n hx hb dX11_hash_7 rfl (lv_at hl 3 rfl) ?_
  refine lv_iload_n hx hb dX11_hash_8 rfl (lv_at hl 4 rfl) ?_
  refine lv_iadd hx hb dX11_hash_9 ?_
  obtain ⟨x5, ex5, hF⟩ := ltt_some hF
  refine lv_topi (fun zx5 ezx5 => ?_)
  obtain rfl : x5 = zx5 := ex5.trans ezx5.symm
  refine lv_icmp_ge (tgt := 36) hx hb dX11_hash_10 (by decide) (fun c6 => ?_) (fun c6 => ?_)
  · rw [if_pos c6] at hF
    obtain rfl := Option.some.inj hF
    subst hwz4
    exact K1 _ _ _ hP hD hS (lv_sub hl [0, 1, 2, 3, 4] rfl)
  · rw [if_neg c6] at hF
    refine lv_iload hx hb dX11_hash_13 (lv_at hl 0 rfl) ?_
    refine lv_aloadq_n hx hb dX11_hash_15 rfl (lv_at hl 2 rfl) ?_
    obtain ⟨b7, ho7, hc7, hk7, hF⟩ := dr_some hF
    refine W_st (st' := [.ref (ad b7), .int s2.2]) (by rw [va_some ho7]) ?_
    refine va_alen (v := Int32.ofNat (G.2.2 b7)) hx hb hK hP b7 1 (wld_i ct ad G M hc7 hk7) rfl rfl dX11_hash_16 ?_
    obtain ⟨x8, ex8, hF⟩ := ltt_some hF
    refine lv_topi (fun zx8 ezx8 => ?_)
    obtain rfl : x8 = zx8 := ex8.trans ezx8.symm
    refine lv_icmp_ge (tgt := 36) hx hb dX11_hash_17 (by decide) (fun c9 => ?_) (fun c9 => ?_)
    · rw [if_pos c9] at hF
      obtain rfl := Option.some.inj hF
      subst hwz4
      exact K1 _ _ _ hP hD hS (lv_sub hl [0, 1, 2, 3, 4] rfl)
    · rw [if_neg c9] at hF
      refine lv_bipush (v := (31 : Int32)) hx hb dX11_hash_20 (by decide) ?_
      refine lv_iload_n hx hb dX11_hash_22 rfl (lv_at hl 1 rfl) ?_
      refine lv_imul hx hb dX11_hash_23 ?_
      obtain ⟨x10, ex10, hF⟩ := ltt_some hF
      refine lv_topi (fun zx10 ezx10 => ?_)
      obtain rfl : x10 = zx10 := ex10.trans ezx10.symm
      refine lv_aloadq_n hx hb dX11_hash_24 rfl (lv_at hl 2 rfl) ?_
      refine lv_iload hx hb dX11_hash_25 (lv_at hl 0 rfl) ?_
      refine W_st (st' := [.int s2.2, .ref (ad b7), .int x10]) (by rw [va_some ho7]) ?_
      obtain ⟨hvc, hF⟩ := chk_some hF
      refine va_iald hx hb hK hP b7 1 (wld_i ct ad G M hc7 hk7) rfl hvc dX11_hash_27 ?_
      obtain ⟨x11, ex11, hF⟩ := ltt_some hF
      refine lv_topi (fun zx11 ezx11 => ?_)
      obtain rfl : x11 = zx11 := ex11.trans ezx11.symm
      refine lv_iadd hx hb dX11_hash_28 ?_
      obtain ⟨x12, ex12, hF⟩ := ltt_some hF
      refine lv_topi (fun zx12 ezx12 => ?_)
      obtain rfl : x12 = zx12 := ex12.trans ezx12.symm
      refine lv_istore_n (lv' := [(3, .int x12), (4, .int s2.2), (0, va_re ad p0), (1, .int p1), (2, .int p2)]) hx hb dX11_hash_29 rfl hl (by decide) rfl (fun ls hl => ?_)
      obtain ⟨x13, ex13, hF⟩ := ltt_some hF
      refine lv_iinc (v := x13) (lv' := [(4, .int x13), (3, .int x12), (0, va_re ad p0), (1, .int p1), (2, .int p2)]) hx hb dX11_hash_30 hl (k := 1) rfl (by rw [ex13]; rfl) (by decide) rfl (fun ls hl => ?_)
      refine lv_goto (tgt := 5) hx hb dX11_hash_33 (by decide) ?_
      obtain rfl := Option.some.inj hF
      exact hwz4 _ _ _ hP hD hS (lv_sub hl [0, 1, 2, 3, 4] rfl)
set_option maxRecDepth 20000 in
theorem gX11_setting_X0_maySet : GoodIn wuX11_setting (wsV RX11 307 RX0 yX0_maySet wuX0_maySet) := gu_V mw_2349 mw_2350 mw_2351 mw_175 mw_2352
theorem dX11_setting_0 : decode cX11_setting 0 = .ok (.aload_n 0, 1) := by decide +kernel
theorem dX11_setting_1 : decode cX11_setting 1 = .ok (.getfield 31, 3) := by decide +kernel
theorem dX11_setting_4 : decode cX11_setting 4 = .ok (.iload_n 1, 1) := by decide +kernel
theorem dX11_setting_5 : decode cX11_setting 5 = .ok (.iload_n 2, 1) := by decide +kernel
theorem dX11_setting_6 : decode cX11_setting 6 = .ok (.invokevirtual 307, 3) := by decide +kernel
theorem dX11_setting_9 : decode cX11_setting 9 = .ok (.ifCond .ne 14, 3) := by decide +kernel
theorem dX11_setting_12 : decode cX11_setting 12 = .ok (.new 51, 3) := by decide +kernel
theorem dX11_setting_15 : decode cX11_setting 15 = .ok (.dup, 1) := by decide +kernel
theorem dX11_setting_16 : decode cX11_setting 16 = .ok (.ldc_w 311, 3) := by decide +kernel
theorem dX11_setting_19 : decode cX11_setting 19 = .ok (.invokespecial 55, 3) := by decide +kernel
theorem dX11_setting_22 : decode cX11_setting 22 = .ok (.athrow, 1) := by decide +kernel
theorem dX11_setting_23 : decode cX11_setting 23 = .ok (.aload_n 0, 1) := by decide +kernel
theorem dX11_setting_24 : decode cX11_setting 24 = .ok (.getfield 31, 3) := by decide +kernel
theorem dX11_setting_27 : decode cX11_setting 27 = .ok (.getfield 313, 3) := by decide +kernel
theorem dX11_setting_30 : decode cX11_setting 30 = .ok (.iload_n 1, 1) := by decide +kernel
theorem dX11_setting_31 : decode cX11_setting 31 = .ok (.iaload, 1) := by decide +kernel
theorem dX11_setting_32 : decode cX11_setting 32 = .ok (.istore_n 3, 1) := by decide +kernel
theorem dX11_setting_33 : decode cX11_setting 33 = .ok (.aload_n 0, 1) := by decide +kernel
theorem dX11_setting_34 : decode cX11_setting 34 = .ok (.getfield 31, 3) := by decide +kernel
theorem dX11_setting_37 : decode cX11_setting 37 = .ok (.getfield 313, 3) := by decide +kernel
theorem dX11_setting_40 : decode cX11_setting 40 = .ok (.iload_n 1, 1) := by decide +kernel
theorem dX11_setting_41 : decode cX11_setting 41 = .ok (.iload_n 2, 1) := by decide +kernel
theorem dX11_setting_42 : decode cX11_setting 42 = .ok (.iastore, 1) := by decide +kernel
theorem dX11_setting_43 : decode cX11_setting 43 = .ok (.iload_n 3, 1) := by decide +kernel
theorem dX11_setting_44 : decode cX11_setting 44 = .ok (.ireturn, 1) := by decide +kernel
def FX11_setting (G : GG) (M : DD) (a : Nat) (p0 : Int32) (p1 : Int32) : Option (DD × Int32) :=
  dr G 0 ((M.2 a 4)) fun b2 =>
  bnd (FX0_maySet G M b2 p0 p1) fun y3 =>
  bnd (if y3.2 = ((0 : Int32)) then (none) else
  (some ())) fun (y4 : Unit) =>
  dr G 0 ((y3.1.2 a 4)) fun b5 =>
  dr G 13 ((y3.1.2 b5 0)) fun b6 =>
  chk (¬ (p0 < 0 ∨ G.2.2 b6 ≤ p0.toNatClampNeg)) <|
  ltt (y3.1.1 b6 p0.toNatClampNeg) fun x7 =>
  chk (¬ (p0 < 0 ∨ G.2.2 b6 ≤ p0.toNatClampNeg)) <|
  ltt (uI y3.1 b6 p0.toNatClampNeg p1) fun M8 =>
  some (M8, x7)
set_option maxHeartbeats 4000000 in
set_option maxRecDepth 100000 in
theorem kX11_setting (l : Launch) (D : va_G) (ct : CT) (ad : Nat → Nat) (Z : Nat → Nat) (G : GG) (M : DD) (sz : Nat) (a : Nat) (p0 : Int32) (p1 : Int32) (y : DD × Int32) (hc : a < G.1) (hk : G.2.1 a = 11) (hF : FX11_setting G M a p0 p1 = some y) : Met l yX11_setting wuX11_setting ({ frames := 1, cells := 0, slots := 0, locals := 22 }) (va_Pc [.ref (ad a), .int p0, .int p1] (kB D ct ad Z G M sz)) (va_Qi (fun (q : Int32) (_ : Unit) => q = y.2) (fun _ t => kE D ct ad G (wA ad G sz) y.1 t) (wA ad G sz)) 0 0 (wA ad G sz) := by
  refine Met.ofW (cc := cX11_setting) (maxL := 4) (ret := (some .int)) (by decide) rfl ?_
  intro p e s m args below meth c s₁ B hml hv
  obtain ⟨rfl, hsz, hP, hK, hD0, hZ, hN⟩ := hv
  have hx := B.exec
  have hb := B.bytes
  have hr := B.returns
  have hts := atoms_spec (ws := wuX11_setting) B.pre
  have hown : s.vm.findClass RX11 = some m.cls := findClass_of_methodNamed B.named
  have hlocks := B.notSynchronized
  subst hsz
  have hD := wD_self (sz := s.heap.size) hD0
  have hA9 : ∀ q, s.heap.size ≤ q → wA ad G s.heap.size q := fun q h => Or.inr h
  generalize hAe : wA ad G s.heap.size = A at hD hA9 hZ ⊢
  have hS : va_S A s.heap s.heap [] := va_S.rf
  have hl := lv_entry ([.ref (ad a), .int p0, .int p1]) (n := 4) (Nat.le_of_ble_eq_true rfl)
  rw [lg_entry_eq]
  generalize (lg_sl ([.ref (ad a), .int p0, .int p1]) ++ List.replicate (4 - (lg_sl ([.ref (ad a), .int p0, .int p1])).length) Slot.unset).toArray = ls at hl ⊢
  have hl : lv_has ls 4 [(0, .ref (ad a)), (1, .int p0), (2, .int p1)] := hl
  unfold FX11_setting at hF
  refine lv_aload_n hx hb dX11_setting_0 rfl (lv_at hl 0 rfl) ?_
  refine va_get (D := D) (ci := 11) (v := va_re ad (M.2 a 4)) (C := RX11) (T := TX11) (N := 5) hx hb hts (mus hf_X11) hown hK hP a (wld_o ct ad G M hc hk (by decide)) rfl 4 (by decide) (hts (.fieldLink RX11 31 "VideoSuite" "coder" "LVideoSuite$Coder;") (mu mw_886)) (fun _ h9 => h9) rfl dX11_setting_1 ?_
  refine lv_iload_n hx hb dX11_setting_4 rfl (lv_at hl 1 rfl) ?_
  refine lv_iload_n hx hb dX11_setting_5 rfl (lv_at hl 2 rfl) ?_
  obtain ⟨b2, ho2, hc2, hk2, hF⟩ := dr_some hF
  refine W_st (st' := [.int p1, .int p0, .ref (ad b2)]) (by rw [va_some ho2]) ?_
  obtain ⟨y3, hy3, hF⟩ := bnd_some hF
  have hf9 := wA_in hD hA9 hS
  refine va_calli (va_runV (As := [.int p0, .int p1]) (rest := []) ⟨hx, hb, hml, hown, hts⟩ (kX0_maySet l D ct ad Z G M s.heap.size b2 p0 p1 y3 hc2 hk2 hy3) (cwV 2 hts gX11_setting_X0_maySet rfl rfl rfl (by decide +kernel) ⟨Nat.le_of_ble_eq_true rfl, Nat.le_of_ble_eq_true rfl⟩) ⟨fun a U g mk q => by obtain ⟨q0, q1, qP, qK, qD, qZ, qN⟩ := q; exact ⟨q0, q1, qP, va_K.moved (u := U) (U := U.calling g mk a) (Vm.Alike.refl U.vm) qK, qD, sF.moved (u := U) (U := U.calling g mk a) (Vm.Alike.refl U.vm) qZ, nF.same rfl qN⟩, va_recv hK hP (ci := 0) (q0 := b2) rfl (wld_o ct ad G M hc2 hk2 (by decide)), fun U hU hW => ⟨rfl, by rw [hU], by rw [hU]; exact hP, va_K.moved hW.alike hK, hD.weaken (fun _ _ _ _ => trivial), by rw [hU]; exact ((hZ.kept hS.2.1).narrow hf9).moved hW.alike, hN.warm hW⟩⟩ rfl rfl hl.1 rfl (lv_room (Nat.le_of_ble_eq_true rfl)) dX11_setting_6 ⟨(Nat.zero_le _), (Nat.zero_le _)⟩) hS (fun q _ h => hf9 q h) hf9 (fun r u t H locs ht hvm hw hB hz1 hk1 hS => ?_)
  obtain ⟨hP, hK9, hD9⟩ := hB
  rw [ht] at hP
  try dsimp only at hw
  subst hw
  have hD := hD9.weaken (fun _ q _ h => hf9 q.1 h)
  obtain ⟨y4, hy4, hF⟩ := bnd_some hF
  have J4 : ∀ (H : Heap) (locs : List Loc) (ls : Array Slot), va_P D classes (wld ct ad G y3.1) H → va_D A (wld ct ad G y3.1) → va_S A s.heap H locs → lv_has ls 4 [(0, .ref (ad a)), (1, .int p0), (2, .int p1)] → W p l e (headSpec wuX11_setting ({ frames := 1, cells := 0, slots := 0, locals := 22 })).room s m ([.ref (ad a), .int p0, .int p1] : List Value).toArray below meth c H locs 0 0 (MQ below (va_Qi (fun (q : Int32) (_ : Unit) => q = y.2) (fun _ t => kE D ct ad G A y.1 t) A) ([.ref (ad a), .int p0, .int p1] : List Value).toArray s 0 0 A) (F0 m 23 ls []) := by
    intro H locs ls hP hD hS hl
    refine lv_aload_n hx hb dX11_setting_23 rfl (lv_at hl 0 rfl) ?_
    refine va_get (D := D) (ci := 11) (v := va_re ad (y3.1.2 a 4)) (C := RX11) (T := TX11) (N := 5) hx hb hts (mus hf_X11) hown hK hP a (wld_o ct ad G y3.1 hc hk (by decide)) rfl 4 (by decide) (hts (.fieldLink RX11 31 "VideoSuite" "coder" "LVideoSuite$Coder;") (mu mw_886)) (fun _ h9 => h9) rfl dX11_setting_24 ?_
    obtain ⟨b5, ho5, hc5, hk5, hF⟩ := dr_some hF
    refine W_st (st' := [.ref (ad b5)]) (by rw [va_some ho5]) ?_
    refine va_get (D := D) (ci := 0) (v := va_re ad (y3.1.2 b5 0)) (C := RX0) (T := TX0) (N := 21) hx hb hts (mus hf_X0) hown hK hP b5 (wld_o ct ad G y3.1 hc5 hk5 (by decide)) rfl 0 (by decide) (hts (.fieldLink RX11 313 "VideoSuite$Coder" "setting" "[I") (mu mw_812)) (fun _ h9 => h9) rfl dX11_setting_27 ?_
    refine lv_iload_n hx hb dX11_setting_30 rfl (lv_at hl 1 rfl) ?_
    obtain ⟨b6, ho6, hc6, hk6, hF⟩ := dr_some hF
    refine W_st (st' := [.int p0, .ref (ad b6)]) (by rw [va_some ho6]) ?_
    obtain ⟨hvc, hF⟩ := chk_some hF
    refine va_iald hx hb hK hP b6 1 (wld_i ct ad G y3.1 hc6 hk6) rfl hvc dX11_setting_31 ?_
    obtain ⟨x7, ex7, hF⟩ := ltt_some hF
    refine lv_topi (fun zx7 ezx7 => ?_)
    obtain rfl : x7 = zx7 := ex7.trans ezx7.symm
    refine lv_istore_n (lv' := [(3, .int x7), (0, .ref (ad a)), (1, .int p0), (2, .int p1)]) hx hb dX11_setting_32 rfl hl (by decide) rfl (fun ls hl => ?_)
    refine lv_aload_n hx hb dX11_setting_33 rfl (lv_at hl 1 rfl) ?_
    refine va_get (D := D) (ci := 11) (v := va_re ad (y3.1.2 a 4)) (C := RX11) (T := TX11) (N := 5) hx hb hts (mus hf_X11) hown hK hP a (wld_o ct ad G y3.1 hc hk (by decide)) rfl 4 (by decide) (hts (.fieldLink RX11 31 "VideoSuite" "coder" "LVideoSuite$Coder;") (mu mw_886)) (fun _ h9 => h9) rfl dX11_setting_34 ?_
    refine W_st (st' := [.ref (ad b5)]) (by rw [va_some ho5]) ?_
    refine va_get (D := D) (ci := 0) (v := va_re ad (y3.1.2 b5 0)) (C := RX0) (T := TX0) (N := 21) hx hb hts (mus hf_X0) hown hK hP b5 (wld_o ct ad G y3.1 hc5 hk5 (by decide)) rfl 0 (by decide) (hts (.fieldLink RX11 313 "VideoSuite$Coder" "setting" "[I") (mu mw_812)) (fun _ h9 => h9) rfl dX11_setting_37 ?_
    refine lv_iload_n hx hb dX11_setting_40 rfl (lv_at hl 2 rfl) ?_
    refine lv_iload_n hx hb dX11_setting_41 rfl (lv_at hl 3 rfl) ?_
    refine W_st (st' := [.int p1, .int p0, .ref (ad b6)]) (by rw [va_some ho6]) ?_
    obtain ⟨hvc, hF⟩ := chk_some hF
    refine va_iast hx hb hK hP hD hS b6 1 (wld_i ct ad G y3.1 hc6 hk6) rfl hvc dX11_setting_42 (fun H locs hP hD hS => ?_)
    obtain ⟨M8, eM8, hF⟩ := ltt_some hF
    rw [set_i ct ad G y3.1 hc6 hk6, ← eM8] at hP hD
    refine lv_iload_n hx hb dX11_setting_43 rfl (lv_at hl 0 rfl) ?_
    obtain rfl := Option.some.inj hF
    exact W.iret (v := x7) hx hb hr (fun t ht hW => ⟨⟨_, (), rfl, rfl, ⟨by rw [ht]; exact hP, va_K.moved hW.alike hK, hD⟩⟩, hS.F ht⟩) hS.2.2 dX11_setting_44
  clear hF
  have hF := hy4
  clear hy4
  refine lv_if_ne (tgt := 23) hx hb dX11_setting_9 (by decide) (fun c9 => ?_) (fun c9 => ?_)
  · rw [if_neg c9] at hF
    obtain rfl := Option.some.inj hF
    exact J4 _ _ _ hP hD hS (lv_sub hl [0, 1, 2] rfl)
  · rw [if_pos c9] at hF
    cases hF
theorem dX2_init_0 : decode cX2_init 0 = .ok (.aload_n 0, 1) := by decide +kernel
theorem dX2_init_1 : decode cX2_init 1 = .ok (.invokespecial 3, 3) := by decide +kernel
theorem dX2_init_4 : decode cX2_init 4 = .ok (.aload_n 0, 1) := by decide +kernel
theorem dX2_init_5 : decode cX2_init 5 = .ok (.sipush 1024, 3) := by decide +kernel
theorem dX2_init_8 : decode cX2_init 8 = .ok (.newarray .int, 2) := by decide +kernel
theorem dX2_init_10 : decode cX2_init 10 = .ok (.putfield 9, 3) := by decide +kernel
theorem dX2_init_13 : decode cX2_init 13 = .ok (.return_, 1) := by decide +kernel
noncomputable def FX2_init (G : GG) (M : DD) (a : Nat)  : Option (NN × DD) :=
  chkP (Clo (xt G []) M) <|
  chk (¬ ((1024 : Int32)) < 0 ∧ ((1024 : Int32)).toNatClampNeg * 4 ≤ 536870912) <|
  ltt ((xt G []).1) fun c2 =>
  app [(13, ((1024 : Int32)).toNatClampNeg)] <|
  ltt ([] ++ [(13, ((1024 : Int32)).toNatClampNeg)]) fun L4 =>
  ltt (rO M c2) fun M5 =>
  ltt (uP M5 a 0 (some c2)) fun M8 =>
  some ([], M8)
set_option maxHeartbeats 4000000 in
set_option maxRecDepth 100000 in
theorem kX2_init (l : Launch) (D : va_G) (ct : CT) (ad : Nat → Nat) (Z : Nat → Nat) (G : GG) (M : DD) (sz : Nat) (a : Nat)  (y : NN × DD) (hc : a < G.1) (hk : G.2.1 a = 2) (hF : FX2_init G M a  = some y) : Met l yX2_init wuX2_init ({ frames := 1, cells := y.1.length, slots := wt y.1, locals := 20 }) (va_Pc [.ref (ad a)] (kB D ct ad Z G M sz)) (va_Qv (fun (u : Nat → Nat) => agr G.1 ad u) (fun u t => kE D ct u (xt G y.1) (wA ad G sz) y.2 t) (wA ad G sz)) y.1.length (wt y.1) (wA ad G sz) := by
  refine Met.ofW (cc := cX2_init) (maxL := 1) (ret := none) (by decide) rfl ?_
  intro p e s m args below meth c s₁ B hml hv
  obtain ⟨rfl, hsz, hP, hK, hD0, hZ, hN⟩ := hv
  have hx := B.exec
  have hb := B.bytes
  have hr := B.returns
  have hts := atoms_spec (ws := wuX2_init) B.pre
  have hown : s.vm.findClass RX2 = some m.cls := findClass_of_methodNamed B.named
  have hlocks := B.notSynchronized
  have hin : meth.name = "<init>" := (name_of_methodNamed B.named B.method).1
  subst hsz
  have hD := wD_self (sz := s.heap.size) hD0
  have hA9 : ∀ q, s.heap.size ≤ q → wA ad G s.heap.size q := fun q h => Or.inr h
  generalize hAe : wA ad G s.heap.size = A at hD hA9 hZ ⊢
  have hS : va_S A s.heap s.heap [] := va_S.rf
  have hl := lv_entry ([.ref (ad a)]) (n := 1) (Nat.le_of_ble_eq_true rfl)
  rw [lg_entry_eq]
  generalize (lg_sl ([.ref (ad a)]) ++ List.replicate (1 - (lg_sl ([.ref (ad a)])).length) Slot.unset).toArray = ls at hl ⊢
  have hl : lv_has ls 1 [(0, .ref (ad a))] := hl
  unfold FX2_init at hF
  rw [← wld_0 ct ad G M] at hP hD
  have hk := xt_k0 hc hk
  have hc := xt_l0 hc
  have hag := agr_rf G.1 ad
  obtain ⟨w0, hw0⟩ : ∃ z, z = y := ⟨_, rfl⟩
  rw [← hw0] at hF
  have hT : y.1 = [] ++ w0.1 := by rw [hw0]; rfl
  have h2 : y.2 = w0.2 := by rw [hw0]
  have hbl : y.1.length ≤ y.1.length ∧ wt y.1 ≤ wt y.1 := ⟨Nat.le_refl _, Nat.le_refl _⟩
  refine lv_aload_n hx hb dX2_init_0 rfl (lv_at hl 0 rfl) ?_
  refine W.objInit hx hb hown (hts (.methodLink RX2 3 objectInit) (mu mw_584)) (hts (.instanceMethod objectInit) (mu mw_202)) (hts (.code objectInit ⟨#[0xb1]⟩ 1 none) (mu mw_203)) rfl (by rw [hml]; exact hl.1) rfl dX2_init_1 (Nat.le_of_ble_eq_true rfl) (Nat.le_of_ble_eq_true rfl) ?_
  refine W.eq (g2 := F0 m 4 ls []) rfl ?_
  refine lv_aload_n hx hb dX2_init_4 rfl (lv_at hl 0 rfl) ?_
  refine lv_sipush (v := (1024 : Int32)) hx hb dX2_init_5 (by decide) ?_
  obtain ⟨hC1, hF⟩ := chkP_some hF
  obtain ⟨hz9, hF⟩ := chk_some hF
  obtain ⟨c2, ec2, hF⟩ := ltt_some hF
  obtain ⟨w3, hF, ew3⟩ := app_some hF
  obtain ⟨L4, eL4, hF⟩ := ltt_some hF
  have hT4 : y.1 = ([] ++ [(13, ((1024 : Int32)).toNatClampNeg)]) ++ w3.1 := by rw [hT, ew3]; simp only [List.append_assoc]
  obtain ⟨M5, eM5, hF⟩ := ltt_some hF
  refine new_i hx hb (hts (.arrayClass .int) (mu mw_266)) hK hP hD hS hA9 hz9.1 hz9.2 hC1 (room_1s hT4 hbl) dX2_init_8 (fun ad6 H hn7 hP hD hS => ?_)
  rw [← ec2, ← eL4, ← eM5] at hP hD
  refine W_cs (k := L4.length) (n := wt L4) (by rw [eL4]) (by rw [eL4]) ?_
  refine W_st (st' := [.ref (ad6 c2), .ref (ad a)]) (by rw [ec2]) ?_
  have hT : y.1 = L4 ++ w3.1 := by rw [hT4, eL4]
  have h2 : y.2 = w3.2 := by rw [h2, ew3]
  have hl := lv_sub (l' := []) hl [] rfl
  refine W_st (st' := [.ref (ad6 c2), .ref (ad6 a)]) (by first | rfl | simp only [hn7 a hc]) ?_
  have hk : (xt G L4).2.1 a = 2 := by rw [eL4]; exact xt_k _ hc hk
  have hc : a < (xt G L4).1 := by rw [eL4]; exact xt_l _ hc
  have hag := agr_t (xt_ge _ _) hag hn7
  have hc2 : c2 < (xt G L4).1 := by rw [ec2, eL4]; exact cnt_new _ _ _
  have hk2 : (xt G L4).2.1 c2 = 13 := by rw [ec2, eL4]; exact (kind_new _ _ _ _).1
  refine va_putF (D := D) (ci := 2) (v := va_re ad6 (some c2)) (ty := (.array .int)) (C := RX2) (T := TX2) (N := 7) hx hb hts (mus hf_X2) tyX2 tyX2_ok nmX2 hown hK hP hD hS a (wld_o ct ad6 (xt G L4) M5 hc hk (by decide)) rfl 0 (by decide) (hts (.fieldLink RX2 9 "VideoSuite$Edges" "strength" "[I") (mu mw_585)) (fun _ h9 => h9) rfl hin rfl (by decide +kernel) (nar_q ad6 (Or.inr ⟨_, rfl⟩) (some c2)).1 (nar_q ad6 (Or.inr ⟨_, rfl⟩) (some c2)).2 (Nat.le_of_ble_eq_true rfl) dX2_init_10 (fun H locs hP hD hS => ?_)
  obtain ⟨M8, eM8, hF⟩ := ltt_some hF
  rw [set_oP ct ad6 (xt G L4) M5 hc hk (by decide) (by rfl), ← eM8] at hP hD
  obtain rfl := Option.some.inj hF
  have e1 : y.1 = L4 := by rw [hT]; exact List.append_nil _
  have e2 : y.2 = M8 := h2
  refine W.widen (k := y.1.length) (n := wt y.1) (Nat.le_of_eq (by rw [e1])) (Nat.le_of_eq (by rw [e1])) ?_
  exact W.vret hx hb hr (fun t ht hW => ⟨⟨ad6, rfl, hag, (by unfold kE; rw [e1, e2]; exact ⟨by rw [ht]; exact hP, va_K.moved hW.alike hK, hD⟩)⟩, hS.F ht⟩) hS.2.2 dX2_init_13
theorem dX2_smooth_0 : decode cX2_smooth 0 = .ok (.aload_n 0, 1) := by decide +kernel
theorem dX2_smooth_1 : decode cX2_smooth 1 = .ok (.iload_n 1, 1) := by decide +kernel
theorem dX2_smooth_2 : decode cX2_smooth 2 = .ok (.iaload, 1) := by decide +kernel
theorem dX2_smooth_3 : decode cX2_smooth 3 = .ok (.istore 6, 2) := by decide +kernel
theorem dX2_smooth_5 : decode cX2_smooth 5 = .ok (.aload_n 0, 1) := by decide +kernel
theorem dX2_smooth_6 : decode cX2_smooth 6 = .ok (.iload_n 1, 1) := by decide +kernel
theorem dX2_smooth_7 : decode cX2_smooth 7 = .ok (.iload_n 2, 1) := by decide +kernel
theorem dX2_smooth_8 : decode cX2_smooth 8 = .ok (.iadd, 1) := by decide +kernel
theorem dX2_smooth_9 : decode cX2_smooth 9 = .ok (.iaload, 1) := by decide +kernel
theorem dX2_smooth_10 : decode cX2_smooth 10 = .ok (.istore 7, 2) := by decide +kernel
theorem dX2_smooth_12 : decode cX2_smooth 12 = .ok (.iload_n 3, 1) := by decide +kernel
theorem dX2_smooth_13 : decode cX2_smooth 13 = .ok (.ifCond .ne 21, 3) := by decide +kernel
theorem dX2_smooth_16 : decode cX2_smooth 16 = .ok (.aload_n 0, 1) := by decide +kernel
theorem dX2_smooth_17 : decode cX2_smooth 17 = .ok (.iload_n 1, 1) := by decide +kernel
theorem dX2_smooth_18 : decode cX2_smooth 18 = .ok (.iconst 2, 1) := by decide +kernel
theorem dX2_smooth_19 : decode cX2_smooth 19 = .ok (.iload 7, 2) := by decide +kernel
theorem dX2_smooth_21 : decode cX2_smooth 21 = .ok (.imul, 1) := by decide +kernel
theorem dX2_smooth_22 : decode cX2_smooth 22 = .ok (.iload 6, 2) := by decide +kernel
theorem dX2_smooth_24 : decode cX2_smooth 24 = .ok (.iadd, 1) := by decide +kernel
theorem dX2_smooth_25 : decode cX2_smooth 25 = .ok (.iload 5, 2) := by decide +kernel
theorem dX2_smooth_27 : decode cX2_smooth 27 = .ok (.iadd, 1) := by decide +kernel
theorem dX2_smooth_28 : decode cX2_smooth 28 = .ok (.iconst 2, 1) := by decide +kernel
theorem dX2_smooth_29 : decode cX2_smooth 29 = .ok (.iadd, 1) := by decide +kernel
theorem dX2_smooth_30 : decode cX2_smooth 30 = .ok (.iconst 2, 1) := by decide +kernel
theorem dX2_smooth_31 : decode cX2_smooth 31 = .ok (.ishr, 1) := by decide +kernel
theorem dX2_smooth_32 : decode cX2_smooth 32 = .ok (.iastore, 1) := by decide +kernel
theorem dX2_smooth_33 : decode cX2_smooth 33 = .ok (.return_, 1) := by decide +kernel
theorem dX2_smooth_34 : decode cX2_smooth 34 = .ok (.aload_n 0, 1) := by decide +kernel
theorem dX2_smooth_35 : decode cX2_smooth 35 = .ok (.iload_n 1, 1) := by decide +kernel
theorem dX2_smooth_36 : decode cX2_smooth 36 = .ok (.iconst 2, 1) := by decide +kernel
theorem dX2_smooth_37 : decode cX2_smooth 37 = .ok (.iload_n 2, 1) := by decide +kernel
theorem dX2_smooth_38 : decode cX2_smooth 38 = .ok (.imul, 1) := by decide +kernel
theorem dX2_smooth_39 : decode cX2_smooth 39 = .ok (.iadd, 1) := by decide +kernel
theorem dX2_smooth_40 : decode cX2_smooth 40 = .ok (.iaload, 1) := by decide +kernel
theorem dX2_smooth_41 : decode cX2_smooth 41 = .ok (.istore 8, 2) := by decide +kernel
theorem dX2_smooth_43 : decode cX2_smooth 43 = .ok (.aload_n 0, 1) := by decide +kernel
theorem dX2_smooth_44 : decode cX2_smooth 44 = .ok (.iload_n 1, 1) := by decide +kernel
theorem dX2_smooth_45 : decode cX2_smooth 45 = .ok (.iconst 3, 1) := by decide +kernel
theorem dX2_smooth_46 : decode cX2_smooth 46 = .ok (.iload_n 2, 1) := by decide +kernel
theorem dX2_smooth_47 : decode cX2_smooth 47 = .ok (.imul, 1) := by decide +kernel
theorem dX2_smooth_48 : decode cX2_smooth 48 = .ok (.iadd, 1) := by decide +kernel
theorem dX2_smooth_49 : decode cX2_smooth 49 = .ok (.iaload, 1) := by decide +kernel
theorem dX2_smooth_50 : decode cX2_smooth 50 = .ok (.istore 9, 2) := by decide +kernel
theorem dX2_smooth_52 : decode cX2_smooth 52 = .ok (.aload_n 0, 1) := by decide +kernel
theorem dX2_smooth_53 : decode cX2_smooth 53 = .ok (.iload_n 1, 1) := by decide +kernel
theorem dX2_smooth_54 : decode cX2_smooth 54 = .ok (.iload 8, 2) := by decide +kernel
theorem dX2_smooth_56 : decode cX2_smooth 56 = .ok (.iconst 2, 1) := by decide +kernel
theorem dX2_smooth_57 : decode cX2_smooth 57 = .ok (.iload 7, 2) := by decide +kernel
theorem dX2_smooth_59 : decode cX2_smooth 59 = .ok (.imul, 1) := by decide +kernel
theorem dX2_smooth_60 : decode cX2_smooth 60 = .ok (.iadd, 1) := by decide +kernel
theorem dX2_smooth_61 : decode cX2_smooth 61 = .ok (.iconst 2, 1) := by decide +kernel
theorem dX2_smooth_62 : decode cX2_smooth 62 = .ok (.iload 6, 2) := by decide +kernel
theorem dX2_smooth_64 : decode cX2_smooth 64 = .ok (.imul, 1) := by decide +kernel
theorem dX2_smooth_65 : decode cX2_smooth 65 = .ok (.iadd, 1) := by decide +kernel
theorem dX2_smooth_66 : decode cX2_smooth 66 = .ok (.iconst 2, 1) := by decide +kernel
theorem dX2_smooth_67 : decode cX2_smooth 67 = .ok (.iload 4, 2) := by decide +kernel
theorem dX2_smooth_69 : decode cX2_smooth 69 = .ok (.imul, 1) := by decide +kernel
theorem dX2_smooth_70 : decode cX2_smooth 70 = .ok (.iadd, 1) := by decide +kernel
theorem dX2_smooth_71 : decode cX2_smooth 71 = .ok (.iload 5, 2) := by decide +kernel
theorem dX2_smooth_73 : decode cX2_smooth 73 = .ok (.iadd, 1) := by decide +kernel
theorem dX2_smooth_74 : decode cX2_smooth 74 = .ok (.iconst 4, 1) := by decide +kernel
theorem dX2_smooth_75 : decode cX2_smooth 75 = .ok (.iadd, 1) := by decide +kernel
theorem dX2_smooth_76 : decode cX2_smooth 76 = .ok (.iconst 3, 1) := by decide +kernel
theorem dX2_smooth_77 : decode cX2_smooth 77 = .ok (.ishr, 1) := by decide +kernel
theorem dX2_smooth_78 : decode cX2_smooth 78 = .ok (.iastore, 1) := by decide +kernel
theorem dX2_smooth_79 : decode cX2_smooth 79 = .ok (.aload_n 0, 1) := by decide +kernel
theorem dX2_smooth_80 : decode cX2_smooth 80 = .ok (.iload_n 1, 1) := by decide +kernel
theorem dX2_smooth_81 : decode cX2_smooth 81 = .ok (.iload_n 2, 1) := by decide +kernel
theorem dX2_smooth_82 : decode cX2_smooth 82 = .ok (.iadd, 1) := by decide +kernel
theorem dX2_smooth_83 : decode cX2_smooth 83 = .ok (.iload 8, 2) := by decide +kernel
theorem dX2_smooth_85 : decode cX2_smooth 85 = .ok (.iload 7, 2) := by decide +kernel
theorem dX2_smooth_87 : decode cX2_smooth 87 = .ok (.iadd, 1) := by decide +kernel
theorem dX2_smooth_88 : decode cX2_smooth 88 = .ok (.iload 6, 2) := by decide +kernel
theorem dX2_smooth_90 : decode cX2_smooth 90 = .ok (.iadd, 1) := by decide +kernel
theorem dX2_smooth_91 : decode cX2_smooth 91 = .ok (.iload 4, 2) := by decide +kernel
theorem dX2_smooth_93 : decode cX2_smooth 93 = .ok (.iadd, 1) := by decide +kernel
theorem dX2_smooth_94 : decode cX2_smooth 94 = .ok (.iconst 2, 1) := by decide +kernel
theorem dX2_smooth_95 : decode cX2_smooth 95 = .ok (.iadd, 1) := by decide +kernel
theorem dX2_smooth_96 : decode cX2_smooth 96 = .ok (.iconst 2, 1) := by decide +kernel
theorem dX2_smooth_97 : decode cX2_smooth 97 = .ok (.ishr, 1) := by decide +kernel
theorem dX2_smooth_98 : decode cX2_smooth 98 = .ok (.iastore, 1) := by decide +kernel
theorem dX2_smooth_99 : decode cX2_smooth 99 = .ok (.aload_n 0, 1) := by decide +kernel
theorem dX2_smooth_100 : decode cX2_smooth 100 = .ok (.iload_n 1, 1) := by decide +kernel
theorem dX2_smooth_101 : decode cX2_smooth 101 = .ok (.iconst 2, 1) := by decide +kernel
theorem dX2_smooth_102 : decode cX2_smooth 102 = .ok (.iload_n 2, 1) := by decide +kernel
theorem dX2_smooth_103 : decode cX2_smooth 103 = .ok (.imul, 1) := by decide +kernel
theorem dX2_smooth_104 : decode cX2_smooth 104 = .ok (.iadd, 1) := by decide +kernel
theorem dX2_smooth_105 : decode cX2_smooth 105 = .ok (.iconst 2, 1) := by decide +kernel
theorem dX2_smooth_106 : decode cX2_smooth 106 = .ok (.iload 9, 2) := by decide +kernel
theorem dX2_smooth_108 : decode cX2_smooth 108 = .ok (.imul, 1) := by decide +kernel
theorem dX2_smooth_109 : decode cX2_smooth 109 = .ok (.iconst 3, 1) := by decide +kernel
theorem dX2_smooth_110 : decode cX2_smooth 110 = .ok (.iload 8, 2) := by decide +kernel
theorem dX2_smooth_112 : decode cX2_smooth 112 = .ok (.imul, 1) := by decide +kernel
theorem dX2_smooth_113 : decode cX2_smooth 113 = .ok (.iadd, 1) := by decide +kernel
theorem dX2_smooth_114 : decode cX2_smooth 114 = .ok (.iload 7, 2) := by decide +kernel
theorem dX2_smooth_116 : decode cX2_smooth 116 = .ok (.iadd, 1) := by decide +kernel
theorem dX2_smooth_117 : decode cX2_smooth 117 = .ok (.iload 6, 2) := by decide +kernel
theorem dX2_smooth_119 : decode cX2_smooth 119 = .ok (.iadd, 1) := by decide +kernel
theorem dX2_smooth_120 : decode cX2_smooth 120 = .ok (.iload 4, 2) := by decide +kernel
theorem dX2_smooth_122 : decode cX2_smooth 122 = .ok (.iadd, 1) := by decide +kernel
theorem dX2_smooth_123 : decode cX2_smooth 123 = .ok (.iconst 4, 1) := by decide +kernel
theorem dX2_smooth_124 : decode cX2_smooth 124 = .ok (.iadd, 1) := by decide +kernel
theorem dX2_smooth_125 : decode cX2_smooth 125 = .ok (.iconst 3, 1) := by decide +kernel
theorem dX2_smooth_126 : decode cX2_smooth 126 = .ok (.ishr, 1) := by decide +kernel
theorem dX2_smooth_127 : decode cX2_smooth 127 = .ok (.iastore, 1) := by decide +kernel
theorem dX2_smooth_128 : decode cX2_smooth 128 = .ok (.return_, 1) := by decide +kernel
def FX2_smooth (G : GG) (M : DD) (p0 : Option Nat) (p1 : Int32) (p2 : Int32) (p3 : Int32) (p4 : Int32) (p5 : Int32) : Option (DD) :=
  dr G 13 p0 fun b1 =>
  chk (¬ (p1 < 0 ∨ G.2.2 b1 ≤ p1.toNatClampNeg)) <|
  ltt (M.1 b1 p1.toNatClampNeg) fun x2 =>
  ltt ((p1 + p2)) fun x3 =>
  chk (¬ (x3 < 0 ∨ G.2.2 b1 ≤ x3.toNatClampNeg)) <|
  ltt (M.1 b1 x3.toNatClampNeg) fun x4 =>
  if p3 = ((0 : Int32)) then (ltt ((((2 : Int32)) * x4)) fun x40 =>
  ltt ((x40 + x2)) fun x41 =>
  ltt ((x41 + p5)) fun x42 =>
  ltt ((x42 + ((2 : Int32)))) fun x43 =>
  ltt ((x43 >>> (((2 : Int32)) &&& 31))) fun x44 =>
  chk (¬ (p1 < 0 ∨ G.2.2 b1 ≤ p1.toNatClampNeg)) <|
  ltt (uI M b1 p1.toNatClampNeg x44) fun M45 =>
  some M45) else
  (ltt ((((2 : Int32)) * p2)) fun x6 =>
  ltt ((p1 + x6)) fun x7 =>
  chk (¬ (x7 < 0 ∨ G.2.2 b1 ≤ x7.toNatClampNeg)) <|
  ltt (M.1 b1 x7.toNatClampNeg) fun x8 =>
  ltt ((((3 : Int32)) * p2)) fun x9 =>
  ltt ((p1 + x9)) fun x10 =>
  chk (¬ (x10 < 0 ∨ G.2.2 b1 ≤ x10.toNatClampNeg)) <|
  ltt (M.1 b1 x10.toNatClampNeg) fun x11 =>
  ltt ((((2 : Int32)) * x4)) fun x12 =>
  ltt ((x8 + x12)) fun x13 =>
  ltt ((((2 : Int32)) * x2)) fun x14 =>
  ltt ((x13 + x14)) fun x15 =>
  ltt ((((2 : Int32)) * p4)) fun x16 =>
  ltt ((x15 + x16)) fun x17 =>
  ltt ((x17 + p5)) fun x18 =>
  ltt ((x18 + ((4 : Int32)))) fun x19 =>
  ltt ((x19 >>> (((3 : Int32)) &&& 31))) fun x20 =>
  chk (¬ (p1 < 0 ∨ G.2.2 b1 ≤ p1.toNatClampNeg)) <|
  ltt (uI M b1 p1.toNatClampNeg x20) fun M21 =>
  ltt ((p1 + p2)) fun x22 =>
  ltt ((x8 + x4)) fun x23 =>
  ltt ((x23 + x2)) fun x24 =>
  ltt ((x24 + p4)) fun x25 =>
  ltt ((x25 + ((2 : Int32)))) fun x26 =>
  ltt ((x26 >>> (((2 : Int32)) &&& 31))) fun x27 =>
  chk (¬ (x22 < 0 ∨ G.2.2 b1 ≤ x22.toNatClampNeg)) <|
  ltt (uI M21 b1 x22.toNatClampNeg x27) fun M28 =>
  ltt ((((2 : Int32)) * p2)) fun x29 =>
  ltt ((p1 + x29)) fun x30 =>
  ltt ((((2 : Int32)) * x11)) fun x31 =>
  ltt ((((3 : Int32)) * x8)) fun x32 =>
  ltt ((x31 + x32)) fun x33 =>
  ltt ((x33 + x4)) fun x34 =>
  ltt ((x34 + x2)) fun x35 =>
  ltt ((x35 + p4)) fun x36 =>
  ltt ((x36 + ((4 : Int32)))) fun x37 =>
  ltt ((x37 >>> (((3 : Int32)) &&& 31))) fun x38 =>
  chk (¬ (x30 < 0 ∨ G.2.2 b1 ≤ x30.toNatClampNeg)) <|
  ltt (uI M28 b1 x30.toNatClampNeg x38) fun M39 =>
  some M39)
set_option maxHeartbeats 4000000 in
set_option maxRecDepth 100000 in
theorem kX2_smooth (l : Launch) (D : va_G) (ct : CT) (ad : Nat → Nat) (Z : Nat → Nat) (G : GG) (M : DD) (sz : Nat) (p0 : Option Nat) (p1 : Int32) (p2 : Int32) (p3 : Int32) (p4 : Int32) (p5 : Int32) (y : DD) (hF : FX2_smooth G M p0 p1 p2 p3 p4 p5 = some y) : Met l yX2_smooth wuX2_smooth ({ frames := 0, cells := 0, slots := 0, locals := 0 }) (va_Pc [va_re ad p0, .int p1, .int p2, .int p3, .int p4, .int p5] (kB D ct ad Z G M sz)) (va_Qv (fun (_ : Unit) => True) (fun _ t => kE D ct ad G (wA ad G sz) y t) (wA ad G sz)) 0 0 (wA ad G sz) := by
  refine Met.ofW (cc := cX2_smooth) (maxL := 10) (ret := none) (by decide) rfl ?_
  intro p e s m args below meth c s₁ B hml hv
  obtain ⟨rfl, hsz, hP, hK, hD0, hZ, hN⟩ := hv
  have hx := B.exec
  have hb := B.bytes
  have hr := B.returns
  have hts := atoms_spec (ws := wuX2_smooth) B.pre
  have hown : s.vm.findClass RX2 = some m.cls := findClass_of_methodNamed B.named
  have hlocks := B.notSynchronized
  subst hsz
  have hD := wD_self (sz := s.heap.size) hD0
  have hA9 : ∀ q, s.heap.size ≤ q → wA ad G s.heap.size q := fun q h => Or.inr h
  generalize hAe : wA ad G s.heap.size = A at hD hA9 hZ ⊢
  have hS : va_S A s.heap s.heap [] := va_S.rf
  have hl := lv_entry ([va_re ad p0, .int p1, .int p2, .int p3, .int p4, .int p5]) (n := 10) (by cases p0 <;> exact Nat.le_of_ble_eq_true rfl)
  rw [lg_entry_eq]
  generalize (lg_sl ([va_re ad p0, .int p1, .int p2, .int p3, .int p4, .int p5]) ++ List.replicate (10 - (lg_sl ([va_re ad p0, .int p1, .int p2, .int p3, .int p4, .int p5])).length) Slot.unset).toArray = ls at hl ⊢
  have hl : lv_has ls 10 [(0, va_re ad p0), (1, .int p1), (2, .int p2), (3, .int p3), (4, .int p4), (5, .int p5)] := by have e9 : lv_args 0 [va_re ad p0, .int p1, .int p2, .int p3, .int p4, .int p5] = [(0, va_re ad p0), (1, .int p1), (2, .int p2), (3, .int p3), (4, .int p4), (5, .int p5)] := (by cases p0 <;> rfl); rw [e9] at hl; exact hl
  unfold FX2_smooth at hF
  refine lv_aloadq_n hx hb dX2_smooth_0 rfl (lv_at hl 0 rfl) ?_
  refine lv_iload_n hx hb dX2_smooth_1 rfl (lv_at hl 1 rfl) ?_
  obtain ⟨b1, ho1, hc1, hk1, hF⟩ := dr_some hF
  refine W_st (st' := [.int p1, .ref (ad b1)]) (by rw [va_some ho1]) ?_
  obtain ⟨hvc, hF⟩ := chk_some hF
  refine va_iald hx hb hK hP b1 1 (wld_i ct ad G M hc1 hk1) rfl hvc dX2_smooth_2 ?_
  obtain ⟨x2, ex2, hF⟩ := ltt_some hF
  refine lv_topi (fun zx2 ezx2 => ?_)
  obtain rfl : x2 = zx2 := ex2.trans ezx2.symm
  refine lv_istore (lv' := [(6, .int x2), (0, va_re ad p0), (1, .int p1), (2, .int p2), (3, .int p3), (4, .int p4), (5, .int p5)]) hx hb dX2_smooth_3 hl (by decide) rfl (fun ls hl => ?_)
  refine lv_aloadq_n hx hb dX2_smooth_5 rfl (lv_at hl 1 rfl) ?_
  refine lv_iload_n hx hb dX2_smooth_6 rfl (lv_at hl 2 rfl) ?_
  refine lv_iload_n hx hb dX2_smooth_7 rfl (lv_at hl 3 rfl) ?_
  refine lv_iadd hx hb dX2_smooth_8 ?_
  obtain ⟨x3, ex3, hF⟩ := ltt_some hF
  refine lv_topi (fun zx3 ezx3 => ?_)
  obtain rfl : x3 = zx3 := ex3.trans ezx3.symm
  refine W_st (st' := [.int x3, .ref (ad b1)]) (by rw [va_some ho1]) ?_
  obtain ⟨hvc, hF⟩ := chk_some hF
  refine va_iald hx hb hK hP b1 1 (wld_i ct ad G M hc1 hk1) rfl hvc dX2_smooth_9 ?_
  obtain ⟨x4, ex4, hF⟩ := ltt_some hF
  refine lv_topi (fun zx4 ezx4 => ?_)
  obtain rfl : x4 = zx4 := ex4.trans ezx4.symm
  refine lv_istore (lv' := [(7, .int x4), (6, .int x2), (0, va_re ad p0), (1, .int p1), (2, .int p2), (3, .int p3), (4, .int p4), (5, .int p5)]) hx hb dX2_smooth_10 hl (by decide) rfl (fun ls hl => ?_)
  refine lv_iload_n hx hb dX2_smooth_12 rfl (lv_at hl 5 rfl) ?_
  refine lv_if_ne (tgt := 34) hx hb dX2_smooth_13 (by decide) (fun c5 => ?_) (fun c5 => ?_)
  · rw [if_neg c5] at hF
    refine lv_aloadq_n hx hb dX2_smooth_34 rfl (lv_at hl 2 rfl) ?_
    refine lv_iload_n hx hb dX2_smooth_35 rfl (lv_at hl 3 rfl) ?_
    refine lv_iconst (v := (2 : Int32)) hx hb dX2_smooth_36 (by decide) ?_
    refine lv_iload_n hx hb dX2_smooth_37 rfl (lv_at hl 4 rfl) ?_
    refine lv_imul hx hb dX2_smooth_38 ?_
    obtain ⟨x6, ex6, hF⟩ := ltt_some hF
    refine lv_topi (fun zx6 ezx6 => ?_)
    obtain rfl : x6 = zx6 := ex6.trans ezx6.symm
    refine lv_iadd hx hb dX2_smooth_39 ?_
    obtain ⟨x7, ex7, hF⟩ := ltt_some hF
    refine lv_topi (fun zx7 ezx7 => ?_)
    obtain rfl : x7 = zx7 := ex7.trans ezx7.symm
    refine W_st (st' := [.int x7, .ref (ad b1)]) (by rw [va_some ho1]) ?_
    obtain ⟨hvc, hF⟩ := chk_some hF
    refine va_iald hx hb hK hP b1 1 (wld_i ct ad G M hc1 hk1) rfl hvc dX2_smooth_40 ?_
    obtain ⟨x8, ex8, hF⟩ := ltt_some hF
    refine lv_topi (fun zx8 ezx8 => ?_)
    obtain rfl : x8 = zx8 := ex8.trans ezx8.symm
    refine lv_istore (lv' := [(8, .int x8), (7, .int x4), (6, .int x2), (0, va_re ad p0), (1, .int p1), (2, .int p2), (3, .int p3), (4, .int p4), (5, .int p5)]) hx hb dX2_smooth_41 hl (by decide) rfl (fun ls hl => ?_)
    refine lv_aloadq_n hx hb dX2_smooth_43 rfl (lv_at hl 3 rfl) ?_
    refine lv_iload_n hx hb dX2_smooth_44 rfl (lv_at hl 4 rfl) ?_
    refine lv_iconst (v := (3 : Int32)) hx hb dX2_smooth_45 (by decide) ?_
    refine lv_iload_n hx hb dX2_smooth_46 rfl (lv_at hl 5 rfl) ?_
    refine lv_imul hx hb dX2_smooth_47 ?_
    obtain ⟨x9, ex9, hF⟩ := ltt_some hF
    refine lv_topi (fun zx9 ezx9 => ?_)
    obtain rfl : x9 = zx9 := ex9.trans ezx9.symm
    refine lv_iadd hx hb dX2_smooth_48 ?_
    obtain ⟨x10, ex10, hF⟩ := ltt_some hF
    refine lv_topi (fun zx10 ezx10 => ?_)
    obtain rfl : x10 = zx10 := ex10.trans ezx10.symm
    refine W_st (st' := [.int x10, .ref (ad b1)]) (by rw [va_some ho1]) ?_
    obtain ⟨hvc, hF⟩ := chk_some hF
    refine va_iald hx hb hK hP b1 1 (wld_i ct ad G M hc1 hk1) rfl hvc dX2_smooth_49 ?_
    obtain ⟨x11, ex11, hF⟩ := ltt_some hF
    refine lv_topi (fun zx11 ezx11 => ?_)
    obtain rfl : x11 = zx11 := ex11.trans ezx11.symm
    refine lv_istore (lv' := [(9, .int x11), (8, .int x8), (7, .int x4), (6, .int x2), (0, va_re ad p0), (1, .int p1), (2, .int p2), (3, .int p3), (4, .int p4), (5, .int p5)]) hx hb dX2_smooth_50 hl (by decide) rfl (fun ls hl => ?_)
    refine lv_aloadq_n hx hb dX2_smooth_52 rfl (lv_at hl 4 rfl) ?_
    refine lv_iload_n hx hb dX2_smooth_53 rfl (lv_at hl 5 rfl) ?_
    refine lv_iload hx hb dX2_smooth_54 (lv_at hl 1 rfl) ?_
    refine lv_iconst (v := (2 : Int32)) hx hb dX2_smooth_56 (by decide) ?_
    refine lv_iload hx hb dX2_smooth_57 (lv_at hl 2 rfl) ?_
    refine lv_imul hx hb dX2_smooth_59 ?_
    obtain ⟨x12, ex12, hF⟩ := ltt_some hF
    refine lv_topi (fun zx12 ezx12 => ?_)
    obtain rfl : x12 = zx12 := ex12.trans ezx12.symm
    refine lv_iadd hx hb dX2_smooth_60 ?_
    obtain ⟨x13, ex13, hF⟩ := ltt_some hF
    refine lv_topi (fun zx13 ezx13 => ?_)
    obtain rfl : x13 = zx13 := ex13.trans ezx13.symm
    refine lv_iconst (v := (2 : Int32)) hx hb dX2_smooth_61 (by decide) ?_
    refine lv_iload hx hb dX2_smooth_62 (lv_at hl 3 rfl) ?_
    refine lv_imul hx hb dX2_smooth_64 ?_
    obtain ⟨x14, ex14, hF⟩ := ltt_some hF
    refine lv_topi (fun zx14 ezx14 => ?_)
    obtain rfl : x14 = zx14 := ex14.trans ezx14.symm
    refine lv_iadd hx hb dX2_smooth_65 ?_
    obtain ⟨x15, ex15, hF⟩ := ltt_some hF
    refine lv_topi (fun zx15 ezx15 => ?_)
    obtain rfl : x15 = zx15 := ex15.trans ezx15.symm
    refine lv_iconst (v := (2 : Int32)) hx hb dX2_smooth_66 (by decide) ?_
    refine lv_iload hx hb dX2_smooth_67 (lv_at hl 8 rfl) ?_
    refine lv_imul hx hb dX2_smooth_69 ?_
    obtain ⟨x16, ex16, hF⟩ := ltt_some hF
    refine lv_topi (fun zx16 ezx16 => ?_)
    obtain rfl : x16 = zx16 := ex16.trans ezx16.symm
    refine lv_iadd hx hb dX2_smooth_70 ?_
    obtain ⟨x17, ex17, hF⟩ := ltt_some hF
    refine lv_topi (fun zx17 ezx17 => ?_)
    obtain rfl : x17 = zx17 := ex17.trans ezx17.symm
    refine lv_iload hx hb dX2_smooth_71 (lv_at hl 9 rfl) ?_
    refine lv_iadd hx hb dX2_smooth_73 ?_
    obtain ⟨x18, ex18, hF⟩ := ltt_some hF
    refine lv_topi (fun zx18 ezx18 => ?_)
    obtain rfl : x18 = zx18 := ex18.trans ezx18.symm
    refine lv_iconst (v := (4 : Int32)) hx hb dX2_smooth_74 (by decide) ?_
    refine lv_iadd hx hb dX2_smooth_75 ?_
    obtain ⟨x19, ex19, hF⟩ := ltt_some hF
    refine lv_topi (fun zx19 ezx19 => ?_)
    obtain rfl : x19 = zx19 := ex19.trans ezx19.symm
    refine lv_iconst (v := (3 : Int32)) hx hb dX2_smooth_76 (by decide) ?_
    refine lv_ishr hx hb dX2_smooth_77 ?_
    obtain ⟨x20, ex20, hF⟩ := ltt_some hF
    refine lv_topi (fun zx20 ezx20 => ?_)
    obtain rfl : x20 = zx20 := ex20.trans ezx20.symm
    refine W_st (st' := [.int x20, .int p1, .ref (ad b1)]) (by rw [va_some ho1]) ?_
    obtain ⟨hvc, hF⟩ := chk_some hF
    refine va_iast hx hb hK hP hD hS b1 1 (wld_i ct ad G M hc1 hk1) rfl hvc dX2_smooth_78 (fun H locs hP hD hS => ?_)
    obtain ⟨M21, eM21, hF⟩ := ltt_some hF
    rw [set_i ct ad G M hc1 hk1, ← eM21] at hP hD
    refine lv_aloadq_n hx hb dX2_smooth_79 rfl (lv_at hl 4 rfl) ?_
    refine lv_iload_n hx hb dX2_smooth_80 rfl (lv_at hl 5 rfl) ?_
    refine lv_iload_n hx hb dX2_smooth_81 rfl (lv_at hl 6 rfl) ?_
    refine lv_iadd hx hb dX2_smooth_82 ?_
    obtain ⟨x22, ex22, hF⟩ := ltt_some hF
    refine lv_topi (fun zx22 ezx22 => ?_)
    obtain rfl : x22 = zx22 := ex22.trans ezx22.symm
    refine lv_iload hx hb dX2_smooth_83 (lv_at hl 1 rfl) ?_
    refine lv_iload hx hb dX2_smooth_85 (lv_at hl 2 rfl) ?_
    refine lv_iadd hx hb dX2_smooth_87 ?_
    obtain ⟨x23, ex23, hF⟩ := ltt_some hF
    refine lv_topi (fun zx23 ezx23 => ?_)
    obtain rfl : x23 = zx23 := ex23.trans ezx23.symm
    refine lv_iload hx hb dX2_smooth_88 (lv_at hl 3 rfl) ?_
    refine lv_iadd hx hb dX2_smooth_90 ?_
    obtain ⟨x24, ex24, hF⟩ := ltt_some hF
    refine lv_topi (fun zx24 ezx24 => ?_)
    obtain rfl : x24 = zx24 := ex24.trans ezx24.symm
    refine lv_iload hx hb dX2_smooth_91 (lv_at hl 8 rfl) ?_
    refine lv_iadd hx hb dX2_smooth_93 ?_
    obtain ⟨x25, ex25, hF⟩ := ltt_some hF
    refine lv_topi (fun zx25 ezx25 => ?_)
    obtain rfl : x25 = zx25 := ex25.trans ezx25.symm
    refine lv_iconst (v := (2 : Int32)) hx hb dX2_smooth_94 (by decide) ?_
    refine lv_iadd hx hb dX2_smooth_95 ?_
    obtain ⟨x26, ex26, hF⟩ := ltt_some hF
    refine lv_topi (fun zx26 ezx26 => ?_)
    obtain rfl : x26 = zx26 := ex26.trans ezx26.symm
    refine lv_iconst (v := (2 : Int32)) hx hb dX2_smooth_96 (by decide) ?_
    refine lv_ishr hx hb dX2_smooth_97 ?_
    obtain ⟨x27, ex27, hF⟩ := ltt_some hF
    refine lv_topi (fun zx27 ezx27 => ?_)
    obtain rfl : x27 = zx27 := ex27.trans ezx27.symm
    refine W_st (st' := [.int x27, .int x22, .ref (ad b1)]) (by rw [va_some ho1]) ?_
    obtain ⟨hvc, hF⟩ := chk_some hF
    refine va_iast hx hb hK hP hD hS b1 1 (wld_i ct ad G M21 hc1 hk1) rfl hvc dX2_smooth_98 (fun H locs hP hD hS => ?_)
    obtain ⟨M28, eM28, hF⟩ := ltt_some hF
    rw [set_i ct ad G M21 hc1 hk1, ← eM28] at hP hD
    refine lv_aloadq_n hx hb dX2_smooth_99 rfl (lv_at hl 4 rfl) ?_
    refine lv_iload_n hx hb dX2_smooth_100 rfl (lv_at hl 5 rfl) ?_
    refine lv_iconst (v := (2 : Int32)) hx hb dX2_smooth_101 (by decide) ?_
    refine lv_iload_n hx hb dX2_smooth_102 rfl (lv_at hl 6 rfl) ?_
    refine lv_imul hx hb dX2_smooth_103 ?_
    obtain ⟨x29, ex29, hF⟩ := ltt_some hF
    refine lv_topi (fun zx29 ezx29 => ?_)
    obtain rfl : x29 = zx29 := ex29.trans ezx29.symm
    refine lv_iadd hx hb dX2_smooth_104 ?_
    obtain ⟨x30, ex30, hF⟩ := ltt_some hF
    refine lv_topi (fun zx30 ezx30 => ?_)
    obtain rfl : x30 = zx30 := ex30.trans ezx30.symm
    refine lv_iconst (v := (2 : Int32)) hx hb dX2_smooth_105 (by decide) ?_
    refine lv_iload hx hb dX2_smooth_106 (lv_at hl 0 rfl) ?_
    refine lv_imul hx hb dX2_smooth_108 ?_
    obtain ⟨x31, ex31, hF⟩ := ltt_some hF
    refine lv_topi (fun zx31 ezx31 => ?_)
    obtain rfl : x31 = zx31 := ex31.trans ezx31.symm
    refine lv_iconst (v := (3 : Int32)) hx hb dX2_smooth_109 (by decide) ?_
    refine lv_iload hx hb dX2_smooth_110 (lv_at hl 1 rfl) ?_
    refine lv_imul hx hb dX2_smooth_112 ?_
    obtain ⟨x32, ex32, hF⟩ := ltt_some hF
    refine lv_topi (fun zx32 ezx32 => ?_)
    obtain rfl : x32 = zx32 := ex32.trans ezx32.symm
    refine lv_iadd hx hb dX2_smooth_113 ?_
    obtain ⟨x33, ex33, hF⟩ := ltt_some hF
    refine lv_topi (fun zx33 ezx33 => ?_)
    obtain rfl : x33 = zx33 := ex33.trans ezx33.symm
    refine lv_iload hx hb dX2_smooth_114 (lv_at hl 2 rfl) ?_
    refine lv_iadd hx hb dX2_smooth_116 ?_
    obtain ⟨x34, ex34, hF⟩ := ltt_some hF
    refine lv_topi (fun zx34 ezx34 => ?_)
    obtain rfl : x34 = zx34 := ex34.trans ezx34.symm
    refine lv_iload hx hb dX2_smooth_117 (lv_at hl 3 rfl) ?_
    refine lv_iadd hx hb dX2_smooth_119 ?_
    obtain ⟨x35, ex35, hF⟩ := ltt_some hF
    refine lv_topi (fun zx35 ezx35 => ?_)
    obtain rfl : x35 = zx35 := ex35.trans ezx35.symm
    refine lv_iload hx hb dX2_smooth_120 (lv_at hl 8 rfl) ?_
    refine lv_iadd hx hb dX2_smooth_122 ?_
    obtain ⟨x36, ex36, hF⟩ := ltt_some hF
    refine lv_topi (fun zx36 ezx36 => ?_)
    obtain rfl : x36 = zx36 := ex36.trans ezx36.symm
    refine lv_iconst (v := (4 : Int32)) hx hb dX2_smooth_123 (by decide) ?_
    refine lv_iadd hx hb dX2_smooth_124 ?_
    obtain ⟨x37, ex37, hF⟩ := ltt_some hF
    refine lv_topi (fun zx37 ezx37 => ?_)
    obtain rfl : x37 = zx37 := ex37.trans ezx37.symm
    refine lv_iconst (v := (3 : Int32)) hx hb dX2_smooth_125 (by decide) ?_
    refine lv_ishr hx hb dX2_smooth_126 ?_
    obtain ⟨x38, ex38, hF⟩ := ltt_some hF
    refine lv_topi (fun zx38 ezx38 => ?_)
    obtain rfl : x38 = zx38 := ex38.trans ezx38.symm
    refine W_st (st' := [.int x38, .int x30, .ref (ad b1)]) (by rw [va_some ho1]) ?_
    obtain ⟨hvc, hF⟩ := chk_some hF
    refine va_iast hx hb hK hP hD hS b1 1 (wld_i ct ad G M28 hc1 hk1) rfl hvc dX2_smooth_127 (fun H locs hP hD hS => ?_)
    obtain ⟨M39, eM39, hF⟩ := ltt_some hF
    rw [set_i ct ad G M28 hc1 hk1, ← eM39] at hP hD
    obtain rfl := Option.some.inj hF
    exact W.vret hx hb hr (fun t ht hW => ⟨⟨(), rfl, trivial, ⟨by rw [ht]; exact hP, va_K.moved hW.alike hK, hD⟩⟩, hS.F ht⟩) hS.2.2 dX2_smooth_128
  · rw [if_pos c5] at hF
    refine lv_aloadq_n hx hb dX2_smooth_16 rfl (lv_at hl 2 rfl) ?_
    refine lv_iload_n hx hb dX2_smooth_17 rfl (lv_at hl 3 rfl) ?_
    refine lv_iconst (v := (2 : Int32)) hx hb dX2_smooth_18 (by decide) ?_
    refine lv_iload hx hb dX2_smooth_19 (lv_at hl 0 rfl) ?_
    refine lv_imul hx hb dX2_smooth_21 ?_
    obtain ⟨x40, ex40, hF⟩ := ltt_some hF
    refine lv_topi (fun zx40 ezx40 => ?_)
    obtain rfl : x40 = zx40 := ex40.trans ezx40.symm
    refine lv_iload hx hb dX2_smooth_22 (lv_at hl 1 rfl) ?_
    refine lv_iadd hx hb dX2_smooth_24 ?_
    obtain ⟨x41, ex41, hF⟩ := ltt_some hF
    refine lv_topi (fun zx41 ezx41 => ?_)
    obtain rfl : x41 = zx41 := ex41.trans ezx41.symm
    refine lv_iload hx hb dX2_smooth_25 (lv_at hl 7 rfl) ?_
    refine lv_iadd hx hb dX2_smooth_27 ?_
    obtain ⟨x42, ex42, hF⟩ := ltt_some hF
    refine lv_topi (fun zx42 ezx42 => ?_)
    obtain rfl : x42 = zx42 := ex42.trans ezx42.symm
    refine lv_iconst (v := (2 : Int32)) hx hb dX2_smooth_28 (by decide) ?_
    refine lv_iadd hx hb dX2_smooth_29 ?_
    obtain ⟨x43, ex43, hF⟩ := ltt_some hF
    refine lv_topi (fun zx43 ezx43 => ?_)
    obtain rfl : x43 = zx43 := ex43.trans ezx43.symm
    refine lv_iconst (v := (2 : Int32)) hx hb dX2_smooth_30 (by decide) ?_
    refine lv_ishr hx hb dX2_smooth_31 ?_
    obtain ⟨x44, ex44, hF⟩ := ltt_some hF
    refine lv_topi (fun zx44 ezx44 => ?_)
    obtain rfl : x44 = zx44 := ex44.trans ezx44.symm
    refine W_st (st' := [.int x44, .int p1, .ref (ad b1)]) (by rw [va_some ho1]) ?_
    obtain ⟨hvc, hF⟩ := chk_some hF
    refine va_iast hx hb hK hP hD hS b1 1 (wld_i ct ad G M hc1 hk1) rfl hvc dX2_smooth_32 (fun H locs hP hD hS => ?_)
    obtain ⟨M45, eM45, hF⟩ := ltt_some hF
    rw [set_i ct ad G M hc1 hk1, ← eM45] at hP hD
    obtain rfl := Option.some.inj hF
    exact W.vret hx hb hr (fun t ht hW => ⟨⟨(), rfl, trivial, ⟨by rw [ht]; exact hP, va_K.moved hW.alike hK, hD⟩⟩, hS.F ht⟩) hS.2.2 dX2_smooth_33
theorem dX3_beginsBehind_0 : decode cX3_beginsBehind 0 = .ok (.aload_n 1, 1) := by decide +kernel
theorem dX3_beginsBehind_1 : decode cX3_beginsBehind 1 = .ok (.getfield 7, 3) := by decide +kernel
theorem dX3_beginsBehind_4 : decode cX3_beginsBehind 4 = .ok (.astore_n 2, 1) := by decide +kernel
theorem dX3_beginsBehind_5 : decode cX3_beginsBehind 5 = .ok (.aload_n 0, 1) := by decide +kernel
theorem dX3_beginsBehind_6 : decode cX3_beginsBehind 6 = .ok (.getfield 7, 3) := by decide +kernel
theorem dX3_beginsBehind_9 : decode cX3_beginsBehind 9 = .ok (.iconst 0, 1) := by decide +kernel
theorem dX3_beginsBehind_10 : decode cX3_beginsBehind 10 = .ok (.iaload, 1) := by decide +kernel
theorem dX3_beginsBehind_11 : decode cX3_beginsBehind 11 = .ok (.ifCond .eq 123, 3) := by decide +kernel
theorem dX3_beginsBehind_14 : decode cX3_beginsBehind 14 = .ok (.aload_n 0, 1) := by decide +kernel
theorem dX3_beginsBehind_15 : decode cX3_beginsBehind 15 = .ok (.getfield 7, 3) := by decide +kernel
theorem dX3_beginsBehind_18 : decode cX3_beginsBehind 18 = .ok (.bipush 18, 2) := by decide +kernel
theorem dX3_beginsBehind_20 : decode cX3_beginsBehind 20 = .ok (.iaload, 1) := by decide +kernel
theorem dX3_beginsBehind_21 : decode cX3_beginsBehind 21 = .ok (.aload_n 2, 1) := by decide +kernel
theorem dX3_beginsBehind_22 : decode cX3_beginsBehind 22 = .ok (.bipush 18, 2) := by decide +kernel
theorem dX3_beginsBehind_24 : decode cX3_beginsBehind 24 = .ok (.iaload, 1) := by decide +kernel
theorem dX3_beginsBehind_25 : decode cX3_beginsBehind 25 = .ok (.if_icmp .ne 109, 3) := by decide +kernel
theorem dX3_beginsBehind_28 : decode cX3_beginsBehind 28 = .ok (.aload_n 0, 1) := by decide +kernel
theorem dX3_beginsBehind_29 : decode cX3_beginsBehind 29 = .ok (.getfield 7, 3) := by decide +kernel
theorem dX3_beginsBehind_32 : decode cX3_beginsBehind 32 = .ok (.iconst 3, 1) := by decide +kernel
theorem dX3_beginsBehind_33 : decode cX3_beginsBehind 33 = .ok (.iaload, 1) := by decide +kernel
theorem dX3_beginsBehind_34 : decode cX3_beginsBehind 34 = .ok (.aload_n 2, 1) := by decide +kernel
theorem dX3_beginsBehind_35 : decode cX3_beginsBehind 35 = .ok (.iconst 3, 1) := by decide +kernel
theorem dX3_beginsBehind_36 : decode cX3_beginsBehind 36 = .ok (.iaload, 1) := by decide +kernel
theorem dX3_beginsBehind_37 : decode cX3_beginsBehind 37 = .ok (.if_icmp .ne 97, 3) := by decide +kernel
theorem dX3_beginsBehind_40 : decode cX3_beginsBehind 40 = .ok (.aload_n 0, 1) := by decide +kernel
theorem dX3_beginsBehind_41 : decode cX3_beginsBehind 41 = .ok (.getfield 7, 3) := by decide +kernel
theorem dX3_beginsBehind_44 : decode cX3_beginsBehind 44 = .ok (.iconst 2, 1) := by decide +kernel
theorem dX3_beginsBehind_45 : decode cX3_beginsBehind 45 = .ok (.iaload, 1) := by decide +kernel
theorem dX3_beginsBehind_46 : decode cX3_beginsBehind 46 = .ok (.aload_n 2, 1) := by decide +kernel
theorem dX3_beginsBehind_47 : decode cX3_beginsBehind 47 = .ok (.iconst 2, 1) := by decide +kernel
theorem dX3_beginsBehind_48 : decode cX3_beginsBehind 48 = .ok (.iaload, 1) := by decide +kernel
theorem dX3_beginsBehind_49 : decode cX3_beginsBehind 49 = .ok (.if_icmp .ne 85, 3) := by decide +kernel
theorem dX3_beginsBehind_52 : decode cX3_beginsBehind 52 = .ok (.aload_n 0, 1) := by decide +kernel
theorem dX3_beginsBehind_53 : decode cX3_beginsBehind 53 = .ok (.getfield 7, 3) := by decide +kernel
theorem dX3_beginsBehind_56 : decode cX3_beginsBehind 56 = .ok (.bipush 11, 2) := by decide +kernel
theorem dX3_beginsBehind_58 : decode cX3_beginsBehind 58 = .ok (.iaload, 1) := by decide +kernel
theorem dX3_beginsBehind_59 : decode cX3_beginsBehind 59 = .ok (.ifCond .ne 7, 3) := by decide +kernel
theorem dX3_beginsBehind_62 : decode cX3_beginsBehind 62 = .ok (.iconst 1, 1) := by decide +kernel
theorem dX3_beginsBehind_63 : decode cX3_beginsBehind 63 = .ok (.goto 4, 3) := by decide +kernel
theorem dX3_beginsBehind_66 : decode cX3_beginsBehind 66 = .ok (.iconst 0, 1) := by decide +kernel
theorem dX3_beginsBehind_67 : decode cX3_beginsBehind 67 = .ok (.aload_n 2, 1) := by decide +kernel
theorem dX3_beginsBehind_68 : decode cX3_beginsBehind 68 = .ok (.bipush 11, 2) := by decide +kernel
theorem dX3_beginsBehind_70 : decode cX3_beginsBehind 70 = .ok (.iaload, 1) := by decide +kernel
theorem dX3_beginsBehind_71 : decode cX3_beginsBehind 71 = .ok (.ifCond .ne 7, 3) := by decide +kernel
theorem dX3_beginsBehind_74 : decode cX3_beginsBehind 74 = .ok (.iconst 1, 1) := by decide +kernel
theorem dX3_beginsBehind_75 : decode cX3_beginsBehind 75 = .ok (.goto 4, 3) := by decide +kernel
theorem dX3_beginsBehind_78 : decode cX3_beginsBehind 78 = .ok (.iconst 0, 1) := by decide +kernel
theorem dX3_beginsBehind_79 : decode cX3_beginsBehind 79 = .ok (.if_icmp .ne 55, 3) := by decide +kernel
theorem dX3_beginsBehind_82 : decode cX3_beginsBehind 82 = .ok (.aload_n 0, 1) := by decide +kernel
theorem dX3_beginsBehind_83 : decode cX3_beginsBehind 83 = .ok (.getfield 7, 3) := by decide +kernel
theorem dX3_beginsBehind_86 : decode cX3_beginsBehind 86 = .ok (.iconst 4, 1) := by decide +kernel
theorem dX3_beginsBehind_87 : decode cX3_beginsBehind 87 = .ok (.iaload, 1) := by decide +kernel
theorem dX3_beginsBehind_88 : decode cX3_beginsBehind 88 = .ok (.aload_n 2, 1) := by decide +kernel
theorem dX3_beginsBehind_89 : decode cX3_beginsBehind 89 = .ok (.iconst 4, 1) := by decide +kernel
theorem dX3_beginsBehind_90 : decode cX3_beginsBehind 90 = .ok (.iaload, 1) := by decide +kernel
theorem dX3_beginsBehind_91 : decode cX3_beginsBehind 91 = .ok (.if_icmp .ne 43, 3) := by decide +kernel
theorem dX3_beginsBehind_94 : decode cX3_beginsBehind 94 = .ok (.aload_n 0, 1) := by decide +kernel
theorem dX3_beginsBehind_95 : decode cX3_beginsBehind 95 = .ok (.getfield 7, 3) := by decide +kernel
theorem dX3_beginsBehind_98 : decode cX3_beginsBehind 98 = .ok (.iconst 5, 1) := by decide +kernel
theorem dX3_beginsBehind_99 : decode cX3_beginsBehind 99 = .ok (.iaload, 1) := by decide +kernel
theorem dX3_beginsBehind_100 : decode cX3_beginsBehind 100 = .ok (.aload_n 2, 1) := by decide +kernel
theorem dX3_beginsBehind_101 : decode cX3_beginsBehind 101 = .ok (.iconst 5, 1) := by decide +kernel
theorem dX3_beginsBehind_102 : decode cX3_beginsBehind 102 = .ok (.iaload, 1) := by decide +kernel
theorem dX3_beginsBehind_103 : decode cX3_beginsBehind 103 = .ok (.if_icmp .ne 31, 3) := by decide +kernel
theorem dX3_beginsBehind_106 : decode cX3_beginsBehind 106 = .ok (.aload_n 0, 1) := by decide +kernel
theorem dX3_beginsBehind_107 : decode cX3_beginsBehind 107 = .ok (.getfield 7, 3) := by decide +kernel
theorem dX3_beginsBehind_110 : decode cX3_beginsBehind 110 = .ok (.bipush 6, 2) := by decide +kernel
theorem dX3_beginsBehind_112 : decode cX3_beginsBehind 112 = .ok (.iaload, 1) := by decide +kernel
theorem dX3_beginsBehind_113 : decode cX3_beginsBehind 113 = .ok (.aload_n 2, 1) := by decide +kernel
theorem dX3_beginsBehind_114 : decode cX3_beginsBehind 114 = .ok (.bipush 6, 2) := by decide +kernel
theorem dX3_beginsBehind_116 : decode cX3_beginsBehind 116 = .ok (.iaload, 1) := by decide +kernel
theorem dX3_beginsBehind_117 : decode cX3_beginsBehind 117 = .ok (.if_icmp .ne 17, 3) := by decide +kernel
theorem dX3_beginsBehind_120 : decode cX3_beginsBehind 120 = .ok (.aload_n 0, 1) := by decide +kernel
theorem dX3_beginsBehind_121 : decode cX3_beginsBehind 121 = .ok (.getfield 7, 3) := by decide +kernel
theorem dX3_beginsBehind_124 : decode cX3_beginsBehind 124 = .ok (.bipush 7, 2) := by decide +kernel
theorem dX3_beginsBehind_126 : decode cX3_beginsBehind 126 = .ok (.iaload, 1) := by decide +kernel
theorem dX3_beginsBehind_127 : decode cX3_beginsBehind 127 = .ok (.aload_n 2, 1) := by decide +kernel
theorem dX3_beginsBehind_128 : decode cX3_beginsBehind 128 = .ok (.bipush 7, 2) := by decide +kernel
theorem dX3_beginsBehind_130 : decode cX3_beginsBehind 130 = .ok (.iaload, 1) := by decide +kernel
theorem dX3_beginsBehind_131 : decode cX3_beginsBehind 131 = .ok (.if_icmp .eq 7, 3) := by decide +kernel
theorem dX3_beginsBehind_134 : decode cX3_beginsBehind 134 = .ok (.iconst 1, 1) := by decide +kernel
theorem dX3_beginsBehind_135 : decode cX3_beginsBehind 135 = .ok (.goto 4, 3) := by decide +kernel
theorem dX3_beginsBehind_138 : decode cX3_beginsBehind 138 = .ok (.iconst 0, 1) := by decide +kernel
theorem dX3_beginsBehind_139 : decode cX3_beginsBehind 139 = .ok (.ireturn, 1) := by decide +kernel
def FX3_beginsBehind (G : GG) (M : DD) (a : Nat) (p0 : Option Nat) : Option (DD × Int32) :=
  dr G 3 p0 fun b1 =>
  dr G 13 ((M.2 a 0)) fun b2 =>
  chk (¬ (((0 : Int32)) < 0 ∨ G.2.2 b2 ≤ ((0 : Int32)).toNatClampNeg)) <|
  ltt (M.1 b2 ((0 : Int32)).toNatClampNeg) fun x3 =>
  bnd (if x3 = ((0 : Int32)) then (some ((1 : Int32))) else
  (chk (¬ (((18 : Int32)) < 0 ∨ G.2.2 b2 ≤ ((18 : Int32)).toNatClampNeg)) <|
  ltt (M.1 b2 ((18 : Int32)).toNatClampNeg) fun x6 =>
  dr G 13 ((M.2 b1 0)) fun b7 =>
  chk (¬ (((18 : Int32)) < 0 ∨ G.2.2 b7 ≤ ((18 : Int32)).toNatClampNeg)) <|
  ltt (M.1 b7 ((18 : Int32)).toNatClampNeg) fun x8 =>
  bnd (if x6 = x8 then (chk (¬ (((3 : Int32)) < 0 ∨ G.2.2 b2 ≤ ((3 : Int32)).toNatClampNeg)) <|
  ltt (M.1 b2 ((3 : Int32)).toNatClampNeg) fun x11 =>
  chk (¬ (((3 : Int32)) < 0 ∨ G.2.2 b7 ≤ ((3 : Int32)).toNatClampNeg)) <|
  ltt (M.1 b7 ((3 : Int32)).toNatClampNeg) fun x12 =>
  bnd (if x11 = x12 then (chk (¬ (((2 : Int32)) < 0 ∨ G.2.2 b2 ≤ ((2 : Int32)).toNatClampNeg)) <|
  ltt (M.1 b2 ((2 : Int32)).toNatClampNeg) fun x15 =>
  chk (¬ (((2 : Int32)) < 0 ∨ G.2.2 b7 ≤ ((2 : Int32)).toNatClampNeg)) <|
  ltt (M.1 b7 ((2 : Int32)).toNatClampNeg) fun x16 =>
  bnd (if x15 = x16 then (chk (¬ (((11 : Int32)) < 0 ∨ G.2.2 b2 ≤ ((11 : Int32)).toNatClampNeg)) <|
  ltt (M.1 b2 ((11 : Int32)).toNatClampNeg) fun x19 =>
  bnd (if x19 = ((0 : Int32)) then (some ((1 : Int32))) else
  (some ((0 : Int32)))) fun (y20 : Int32) =>
  chk (¬ (((11 : Int32)) < 0 ∨ G.2.2 b7 ≤ ((11 : Int32)).toNatClampNeg)) <|
  ltt (M.1 b7 ((11 : Int32)).toNatClampNeg) fun x21 =>
  bnd (if x21 = ((0 : Int32)) then (some ((1 : Int32))) else
  (some ((0 : Int32)))) fun (y22 : Int32) =>
  bnd (if y20 = y22 then (chk (¬ (((4 : Int32)) < 0 ∨ G.2.2 b2 ≤ ((4 : Int32)).toNatClampNeg)) <|
  ltt (M.1 b2 ((4 : Int32)).toNatClampNeg) fun x25 =>
  chk (¬ (((4 : Int32)) < 0 ∨ G.2.2 b7 ≤ ((4 : Int32)).toNatClampNeg)) <|
  ltt (M.1 b7 ((4 : Int32)).toNatClampNeg) fun x26 =>
  bnd (if x25 = x26 then (chk (¬ (((5 : Int32)) < 0 ∨ G.2.2 b2 ≤ ((5 : Int32)).toNatClampNeg)) <|
  ltt (M.1 b2 ((5 : Int32)).toNatClampNeg) fun x29 =>
  chk (¬ (((5 : Int32)) < 0 ∨ G.2.2 b7 ≤ ((5 : Int32)).toNatClampNeg)) <|
  ltt (M.1 b7 ((5 : Int32)).toNatClampNeg) fun x30 =>
  bnd (if x29 = x30 then (chk (¬ (((6 : Int32)) < 0 ∨ G.2.2 b2 ≤ ((6 : Int32)).toNatClampNeg)) <|
  ltt (M.1 b2 ((6 : Int32)).toNatClampNeg) fun x33 =>
  chk (¬ (((6 : Int32)) < 0 ∨ G.2.2 b7 ≤ ((6 : Int32)).toNatClampNeg)) <|
  ltt (M.1 b7 ((6 : Int32)).toNatClampNeg) fun x34 =>
  bnd (if x33 = x34 then (chk (¬ (((7 : Int32)) < 0 ∨ G.2.2 b2 ≤ ((7 : Int32)).toNatClampNeg)) <|
  ltt (M.1 b2 ((7 : Int32)).toNatClampNeg) fun x37 =>
  chk (¬ (((7 : Int32)) < 0 ∨ G.2.2 b7 ≤ ((7 : Int32)).toNatClampNeg)) <|
  ltt (M.1 b7 ((7 : Int32)).toNatClampNeg) fun x38 =>
  bnd (if x37 = x38 then (some ((0 : Int32))) else
  (some ((1 : Int32)))) fun (y39 : Int32) =>
  some (y39)) else
  (some ((1 : Int32)))) fun (y35 : Int32) =>
  some (y35)) else
  (some ((1 : Int32)))) fun (y31 : Int32) =>
  some (y31)) else
  (some ((1 : Int32)))) fun (y27 : Int32) =>
  some (y27)) else
  (some ((1 : Int32)))) fun (y23 : Int32) =>
  some (y23)) else
  (some ((1 : Int32)))) fun (y17 : Int32) =>
  some (y17)) else
  (some ((1 : Int32)))) fun (y13 : Int32) =>
  some (y13)) else
  (some ((1 : Int32)))) fun (y9 : Int32) =>
  some (y9))) fun (y4 : Int32) =>
  chk (y4 = 0 ∨ y4 = 1) <|
  some (M, y4)
set_option maxHeartbeats 4000000 in
set_option maxRecDepth 100000 in
theorem kX3_beginsBehind (l : Launch) (D : va_G) (ct : CT) (ad : Nat → Nat) (Z : Nat → Nat) (G : GG) (M : DD) (sz : Nat) (a : Nat) (p0 : Option Nat) (y : DD × Int32) (hc : a < G.1) (hk : G.2.1 a = 3) (hF : FX3_beginsBehind G M a p0 = some y) : Met l yX3_beginsBehind wuX3_beginsBehind ({ frames := 0, cells := 0, slots := 0, locals := 0 }) (va_Pc [.ref (ad a), va_re ad p0] (kB D ct ad Z G M sz)) (va_Qi (fun (q : Int32) (_ : Unit) => q = y.2) (fun _ t => kE D ct ad G (wA ad G sz) y.1 t) (wA ad G sz)) 0 0 (wA ad G sz) := by
  refine Met.ofW (cc := cX3_beginsBehind) (maxL := 3) (ret := (some .boolean)) (by decide) rfl ?_
  intro p e s m args below meth c s₁ B hml hv
  obtain ⟨rfl, hsz, hP, hK, hD0, hZ, hN⟩ := hv
  have hx := B.exec
  have hb := B.bytes
  have hr := B.returns
  have hts := atoms_spec (ws := wuX3_beginsBehind) B.pre
  have hown : s.vm.findClass RX3 = some m.cls := findClass_of_methodNamed B.named
  have hlocks := B.notSynchronized
  subst hsz
  have hD := wD_self (sz := s.heap.size) hD0
  have hA9 : ∀ q, s.heap.size ≤ q → wA ad G s.heap.size q := fun q h => Or.inr h
  generalize hAe : wA ad G s.heap.size = A at hD hA9 hZ ⊢
  have hS : va_S A s.heap s.heap [] := va_S.rf
  have hl := lv_entry ([.ref (ad a), va_re ad p0]) (n := 3) (by cases p0 <;> exact Nat.le_of_ble_eq_true rfl)
  rw [lg_entry_eq]
  generalize (lg_sl ([.ref (ad a), va_re ad p0]) ++ List.replicate (3 - (lg_sl ([.ref (ad a), va_re ad p0])).length) Slot.unset).toArray = ls at hl ⊢
  have hl : lv_has ls 3 [(0, .ref (ad a)), (1, va_re ad p0)] := by have e9 : lv_args 0 [.ref (ad a), va_re ad p0] = [(0, .ref (ad a)), (1, va_re ad p0)] := (by cases p0 <;> rfl); rw [e9] at hl; exact hl
  unfold FX3_beginsBehind at hF
  refine lv_aloadq_n hx hb dX3_beginsBehind_0 rfl (lv_at hl 1 rfl) ?_
  obtain ⟨b1, ho1, hc1, hk1, hF⟩ := dr_some hF
  refine W_st (st' := [.ref (ad b1)]) (by rw [va_some ho1]) ?_
  refine va_get (D := D) (ci := 3) (v := va_re ad (M.2 b1 0)) (C := RX3) (T := TX3) (N := 4) hx hb hts (mus hf_X3) hown hK hP b1 (wld_o ct ad G M hc1 hk1 (by decide)) rfl 0 (by decide) (hts (.fieldLink RX3 7 "VideoSuite$Header" "v" "[I") (mu mw_615)) (fun _ h9 => h9) rfl dX3_beginsBehind_1 ?_
  refine lv_astoreq_n (lv' := [(2, va_re ad (M.2 b1 0)), (0, .ref (ad a)), (1, va_re ad p0)]) hx hb dX3_beginsBehind_4 rfl hl (by decide) (by generalize p0 = o9; cases o9 <;> rfl) (fun ls hl => ?_)
  refine lv_aload_n hx hb dX3_beginsBehind_5 rfl (lv_at hl 1 rfl) ?_
  refine va_get (D := D) (ci := 3) (v := va_re ad (M.2 a 0)) (C := RX3) (T := TX3) (N := 4) hx hb hts (mus hf_X3) hown hK hP a (wld_o ct ad G M hc hk (by decide)) rfl 0 (by decide) (hts (.fieldLink RX3 7 "VideoSuite$Header" "v" "[I") (mu mw_615)) (fun _ h9 => h9) rfl dX3_beginsBehind_6 ?_
  refine lv_iconst (v := (0 : Int32)) hx hb dX3_beginsBehind_9 (by decide) ?_
  obtain ⟨b2, ho2, hc2, hk2, hF⟩ := dr_some hF
  refine W_st (st' := [.int (0 : Int32), .ref (ad b2)]) (by rw [va_some ho2]) ?_
  obtain ⟨hvc, hF⟩ := chk_some hF
  refine va_iald hx hb hK hP b2 1 (wld_i ct ad G M hc2 hk2) rfl hvc dX3_beginsBehind_10 ?_
  obtain ⟨x3, ex3, hF⟩ := ltt_some hF
  refine lv_topi (fun zx3 ezx3 => ?_)
  obtain rfl : x3 = zx3 := ex3.trans ezx3.symm
  obtain ⟨y4, hy4, hF⟩ := bnd_some hF
  have J4 : ∀ (H : Heap) (locs : List Loc) (ls : Array Slot), va_P D classes (wld ct ad G M) H → va_D A (wld ct ad G M) → va_S A s.heap H locs → lv_has ls 3 [(2, va_re ad (M.2 b1 0)), (0, .ref (ad a)), (1, va_re ad p0)] → W p l e (headSpec wuX3_beginsBehind ({ frames := 0, cells := 0, slots := 0, locals := 0 })).room s m ([.ref (ad a), va_re ad p0] : List Value).toArray below meth c H locs 0 0 (MQ below (va_Qi (fun (q : Int32) (_ : Unit) => q = y.2) (fun _ t => kE D ct ad G A y.1 t) A) ([.ref (ad a), va_re ad p0] : List Value).toArray s 0 0 A) (F0 m 139 ls [.int y4]) := by
    intro H locs ls hP hD hS hl
    obtain ⟨hz9, hF⟩ := chk_some hF
    obtain rfl := Option.some.inj hF
    exact W.zret (v := y4) (ty := .boolean) hx hb hr (nar_z hz9).1 (fun t ht hW => ⟨⟨_, (), rfl, rfl, ⟨by rw [ht]; exact hP, va_K.moved hW.alike hK, hD⟩⟩, hS.F ht⟩) hS.2.2 dX3_beginsBehind_139
  clear hF
  have hF := hy4
  clear hy4
  refine lv_if_eq (tgt := 134) hx hb dX3_beginsBehind_11 (by decide) (fun c5 => ?_) (fun c5 => ?_)
  · rw [if_pos c5] at hF
    refine lv_iconst (v := (1 : Int32)) hx hb dX3_beginsBehind_134 (by decide) ?_
    refine lv_goto (tgt := 139) hx hb dX3_beginsBehind_135 (by decide) ?_
    obtain rfl := Option.some.inj hF
    exact J4 _ _ _ hP hD hS (lv_sub hl [0, 1, 2] rfl)
  · rw [if_neg c5] at hF
    refine lv_aload_n hx hb dX3_beginsBehind_14 rfl (lv_at hl 1 rfl) ?_
    refine va_get (D := D) (ci := 3) (v := va_re ad (M.2 a 0)) (C := RX3) (T := TX3) (N := 4) hx hb hts (mus hf_X3) hown hK hP a (wld_o ct ad G M hc hk (by decide)) rfl 0 (by decide) (hts (.fieldLink RX3 7 "VideoSuite$Header" "v" "[I") (mu mw_615)) (fun _ h9 => h9) rfl dX3_beginsBehind_15 ?_
    refine lv_bipush (v := (18 : Int32)) hx hb dX3_beginsBehind_18 (by decide) ?_
    refine W_st (st' := [.int (18 : Int32), .ref (ad b2)]) (by rw [va_some ho2]) ?_
    obtain ⟨hvc, hF⟩ := chk_some hF
    refine va_iald hx hb hK hP b2 1 (wld_i ct ad G M hc2 hk2) rfl hvc dX3_beginsBehind_20 ?_
    obtain ⟨x6, ex6, hF⟩ := ltt_some hF
    refine lv_topi (fun zx6 ezx6 => ?_)
    obtain rfl : x6 = zx6 := ex6.trans ezx6.symm
    refine lv_aloadq_n hx hb dX3_beginsBehind_21 rfl (lv_at hl 0 rfl) ?_
    refine lv_bipush (v := (18 : Int32)) hx hb dX3_beginsBehind_22 (by decide) ?_
    obtain ⟨b7, ho7, hc7, hk7, hF⟩ := dr_some hF
    refine W_st (st' := [.int (18 : Int32), .ref (ad b7), .int x6]) (by rw [va_some ho7]) ?_
    obtain ⟨hvc, hF⟩ := chk_some hF
    refine va_iald hx hb hK hP b7 1 (wld_i ct ad G M hc7 hk7) rfl hvc dX3_beginsBehind_24 ?_
    obtain ⟨x8, ex8, hF⟩ := ltt_some hF
    refine lv_topi (fun zx8 ezx8 => ?_)
    obtain rfl : x8 = zx8 := ex8.trans ezx8.symm
    obtain ⟨y9, hy9, hF⟩ := bnd_some hF
    have J9 : ∀ (H : Heap) (locs : List Loc) (ls : Array Slot), va_P D classes (wld ct ad G M) H → va_D A (wld ct ad G M) → va_S A s.heap H locs → lv_has ls 3 [(2, va_re ad (M.2 b1 0)), (0, .ref (ad a)), (1, va_re ad p0)] → W p l e (headSpec wuX3_beginsBehind ({ frames := 0, cells := 0, slots := 0, locals := 0 })).room s m ([.ref (ad a), va_re ad p0] : List Value).toArray below meth c H locs 0 0 (MQ below (va_Qi (fun (q : Int32) (_ : Unit) => q = y.2) (fun _ t => kE D ct ad G A y.1 t) A) ([.ref (ad a), va_re ad p0] : List Value).toArray s 0 0 A) (F0 m 139 ls [.int y9]) := by
      intro H locs ls hP hD hS hl
      obtain rfl := Option.some.inj hF
      exact J4 _ _ _ hP hD hS (lv_sub hl [0, 1, 2] rfl)
    clear hF
    have hF := hy9
    clear hy9
    refine lv_icmp_ne (tgt := 134) hx hb dX3_beginsBehind_25 (by decide) (fun c10 => ?_) (fun c10 => ?_)
    · rw [if_neg c10] at hF
      refine lv_iconst (v := (1 : Int32)) hx hb dX3_beginsBehind_134 (by decide) ?_
      refine lv_goto (tgt := 139) hx hb dX3_beginsBehind_135 (by decide) ?_
      obtain rfl := Option.some.inj hF
      exact J9 _ _ _ hP hD hS (lv_sub hl [0, 1, 2] rfl)
    · rw [if_pos c10] at hF
      refine lv_aload_n hx hb dX3_beginsBehind_28 rfl (lv_at hl 1 rfl) ?_
      refine va_get (D := D) (ci := 3) (v := va_re ad (M.2 a 0)) (C := RX3) (T := TX3) (N := 4) hx hb hts (mus hf_X3) hown hK hP a (wld_o ct ad G M hc hk (by decide)) rfl 0 (by decide) (hts (.fieldLink RX3 7 "VideoSuite$Header" "v" "[I") (mu mw_615)) (fun _ h9 => h9) rfl dX3_beginsBehind_29 ?_
      refine lv_iconst (v := (3 : Int32)) hx hb dX3_beginsBehind_32 (by decide) ?_
      refine W_st (st' := [.int (3 : Int32), .ref (ad b2)]) (by rw [va_some ho2]) ?_
      obtain ⟨hvc, hF⟩ := chk_some hF
      refine va_iald hx hb hK hP b2 1 (wld_i ct ad G M hc2 hk2) rfl hvc dX3_beginsBehind_33 ?_
      obtain ⟨x11, ex11, hF⟩ := ltt_some hF
      refine lv_topi (fun zx11 ezx11 => ?_)
      obtain rfl : x11 = zx11 := ex11.trans ezx11.symm
      refine lv_aloadq_n hx hb dX3_beginsBehind_34 rfl (lv_at hl 0 rfl) ?_
      refine lv_iconst (v := (3 : Int32)) hx hb dX3_beginsBehind_35 (by decide) ?_
      refine W_st (st' := [.int (3 : Int32), .ref (ad b7), .int x11]) (by rw [va_some ho7]) ?_
      obtain ⟨hvc, hF⟩ := chk_some hF
      refine va_iald hx hb hK hP b7 1 (wld_i ct ad G M hc7 hk7) rfl hvc dX3_beginsBehind_36 ?_
      obtain ⟨x12, ex12, hF⟩ := ltt_some hF
      refine lv_topi (fun zx12 ezx12 => ?_)
      obtain rfl : x12 = zx12 := ex12.trans ezx12.symm
      obtain ⟨y13, hy13, hF⟩ := bnd_some hF
      have J13 : ∀ (H : Heap) (locs : List Loc) (ls : Array Slot), va_P D classes (wld ct ad G M) H → va_D A (wld ct ad G M) → va_S A s.heap H locs → lv_has ls 3 [(2, va_re ad (M.2 b1 0)), (0, .ref (ad a)), (1, va_re ad p0)] → W p l e (headSpec wuX3_beginsBehind ({ frames := 0, cells := 0, slots := 0, locals := 0 })).room s m ([.ref (ad a), va_re ad p0] : List Value).toArray below meth c H locs 0 0 (MQ below (va_Qi (fun (q : Int32) (_ : Unit) => q = y.2) (fun _ t => kE D ct ad G A y.1 t) A) ([.ref (ad a), va_re ad p0] : List Value).toArray s 0 0 A) (F0 m 139 ls [.int y13]) := by
        intro H locs ls hP hD hS hl
        obtain rfl := Option.some.inj hF
        exact J9 _ _ _ hP hD hS (lv_sub hl [0, 1, 2] rfl)
      clear hF
      have hF := hy13
      clear hy13
      refine lv_icmp_ne (tgt := 134) hx hb dX3_beginsBehind_37 (by decide) (fun c14 => ?_) (fun c14 => ?_)
      · rw [if_neg c14] at hF
        refine lv_iconst (v := (1 : Int32)) hx hb dX3_beginsBehind_134 (by decide) ?_
        refine lv_goto (tgt := 139) hx hb dX3_beginsBehind_135 (by decide) ?_
        obtain rfl := Option.some.inj hF
        exact J13 _ _ _ hP hD hS (lv_sub hl [0, 1, 2] rfl)
      · rw [if_pos c14] at hF
        refine lv_aload_n hx hb dX3_beginsBehind_40 rfl (lv_at hl 1 rfl) ?_
        refine va_get (D := D) (ci := 3) (v := va_re ad (M.2 a 0)) (C := RX3) (T := TX3) (N := 4) hx hb hts (mus hf_X3) hown hK hP a (wld_o ct ad G M hc hk (by decide)) rfl 0 (by decide) (hts (.fieldLink RX3 7 "VideoSuite$Header" "v" "[I") (mu mw_615)) (fun _ h9 => h9) rfl dX3_beginsBehind_41 ?_
        refine lv_iconst (v := (2 : Int32)) hx hb dX3_beginsBehind_44 (by decide) ?_
        refine W_st (st' := [.int (2 : Int32), .ref (ad b2)]) (by rw [va_some ho2]) ?_
        obtain ⟨hvc, hF⟩ := chk_some hF
        refine va_iald hx hb hK hP b2 1 (wld_i ct ad G M hc2 hk2) rfl hvc dX3_beginsBehind_45 ?_
        obtain ⟨x15, ex15, hF⟩ := ltt_some hF
        refine lv_topi (fun zx15 ezx15 => ?_)
        obtain rfl : x15 = zx15 := ex15.trans ezx15.symm
        refine lv_aloadq_n hx hb dX3_beginsBehind_46 rfl (lv_at hl 0 rfl) ?_
        refine lv_iconst (v := (2 : Int32)) hx hb dX3_beginsBehind_47 (by decide) ?_
        refine W_st (st' := [.int (2 : Int32), .ref (ad b7), .int x15]) (by rw [va_some ho7]) ?_
        obtain ⟨hvc, hF⟩ := chk_some hF
        refine va_iald hx hb hK hP b7 1 (wld_i ct ad G M hc7 hk7) rfl hvc dX3_beginsBehind_48 ?_
        obtain ⟨x16, ex16, hF⟩ := ltt_some hF
        refine lv_topi (fun zx16 ezx16 => ?_)
        obtain rfl : x16 = zx16 := ex16.trans ezx16.symm
        obtain ⟨y17, hy17, hF⟩ := bnd_some hF
        have J17 : ∀ (H : Heap) (locs : List Loc) (ls : Array Slot), va_P D classes (wld ct ad G M) H → va_D A (wld ct ad G M) → va_S A s.heap H locs → lv_has ls 3 [(2, va_re ad (M.2 b1 0)), (0, .ref (ad a)), (1, va_re ad p0)] → W p l e (headSpec wuX3_beginsBehind ({ frames := 0, cells := 0, slots := 0, locals := 0 })).room s m ([.ref (ad a), va_re ad p0] : List Value).toArray below meth c H locs 0 0 (MQ below (va_Qi (fun (q : Int32) (_ : Unit) => q = y.2) (fun _ t => kE D ct ad G A y.1 t) A) ([.ref (ad a), va_re ad p0] : List Value).toArray s 0 0 A) (F0 m 139 ls [.int y17]) := by
          intro H locs ls hP hD hS hl
          obtain rfl := Option.some.inj hF
          exact J13 _ _ _ hP hD hS (lv_sub hl [0, 1, 2] rfl)
        clear hF
        have hF := hy17
        clear hy17
        refine lv_icmp_ne (tgt := 134) hx hb dX3_beginsBehind_49 (by decide) (fun c18 => ?_) (fun c18 => ?_)
        · rw [if_neg c18] at hF
          refine lv_iconst (v := (1 : Int32)) hx hb dX3_beginsBehind_134 (by decide) ?_
          refine lv_goto (tgt := 139) hx hb dX3_beginsBehind_135 (by decide) ?_
          obtain rfl := Option.some.inj hF
          exact J17 _ _ _ hP hD hS (lv_sub hl [0, 1, 2] rfl)
        · rw [if_pos c18] at hF
          refine lv_aload_n hx hb dX3_beginsBehind_52 rfl (lv_at hl 1 rfl) ?_
          refine va_get (D := D) (ci := 3) (v := va_re ad (M.2 a 0)) (C := RX3) (T := TX3) (N := 4) hx hb hts (mus hf_X3) hown hK hP a (wld_o ct ad G M hc hk (by decide)) rfl 0 (by decide) (hts (.fieldLink RX3 7 "VideoSuite$Header" "v" "[I") (mu mw_615)) (fun _ h9 => h9) rfl dX3_beginsBehind_53 ?_
          refine lv_bipush (v := (11 : Int32)) hx hb dX3_beginsBehind_56 (by decide) ?_
          refine W_st (st' := [.int (11 : Int32), .ref (ad b2)]) (by rw [va_some ho2]) ?_
          obtain ⟨hvc, hF⟩ := chk_some hF
          refine va_iald hx hb hK hP b2 1 (wld_i ct ad G M hc2 hk2) rfl hvc dX3_beginsBehind_58 ?_
          obtain ⟨x19, ex19, hF⟩ := ltt_some hF
          refine lv_topi (fun zx19 ezx19 => ?_)
          obtain rfl : x19 = zx19 := ex19.trans ezx19.symm
          obtain ⟨y20, hy20, hF⟩ := bnd_some hF
          have J20 : ∀ (H : Heap) (locs : List Loc) (ls : Array Slot), va_P D classes (wld ct ad G M) H → va_D A (wld ct ad G M) → va_S A s.heap H locs → lv_has ls 3 [(2, va_re ad (M.2 b1 0)), (0, .ref (ad a)), (1, va_re ad p0)] → W p l e (headSpec wuX3_beginsBehind ({ frames := 0, cells := 0, slots := 0, locals := 0 })).room s m ([.ref (ad a), va_re ad p0] : List Value).toArray below meth c H locs 0 0 (MQ below (va_Qi (fun (q : Int32) (_ : Unit) => q = y.2) (fun _ t => kE D ct ad G A y.1 t) A) ([.ref (ad a), va_re ad p0] : List Value).toArray s 0 0 A) (F0 m 67 ls [.int y20]) := by
            intro H locs ls hP hD hS hl
            refine lv_aloadq_n hx hb dX3_beginsBehind_67 rfl (lv_at hl 0 rfl) ?_
            refine lv_bipush (v := (11 : Int32)) hx hb dX3_beginsBehind_68 (by decide) ?_
            refine W_st (st' := [.int (11 : Int32), .ref (ad b7), .int y20]) (by rw [va_some ho7]) ?_
            obtain ⟨hvc, hF⟩ := chk_some hF
            refine va_iald hx hb hK hP b7 1 (wld_i ct ad G M hc7 hk7) rfl hvc dX3_beginsBehind_70 ?_
            obtain ⟨x21, ex21, hF⟩ := ltt_some hF
            refine lv_topi (fun zx21 ezx21 => ?_)
            obtain rfl : x21 = zx21 := ex21.trans ezx21.symm
            obtain ⟨y22, hy22, hF⟩ := bnd_some hF
            have J22 : ∀ (H : Heap) (locs : List Loc) (ls : Array Slot), va_P D classes (wld ct ad G M) H → va_D A (wld ct ad G M) → va_S A s.heap H locs → lv_has ls 3 [(2, va_re ad (M.2 b1 0)), (0, .ref (ad a)), (1, va_re ad p0)] → W p l e (headSpec wuX3_beginsBehind ({ frames := 0, cells := 0, slots := 0, locals := 0 })).room s m ([.ref (ad a), va_re ad p0] : List Value).toArray below meth c H locs 0 0 (MQ below (va_Qi (fun (q : Int32) (_ : Unit) => q = y.2) (fun _ t => kE D ct ad G A y.1 t) A) ([.ref (ad a), va_re ad p0] : List Value).toArray s 0 0 A) (F0 m 79 ls [.int y22, .int y20]) := by
              intro H locs ls hP hD hS hl
              obtain ⟨y23, hy23, hF⟩ := bnd_some hF
              have J23 : ∀ (H : Heap) (locs : List Loc) (ls : Array Slot), va_P D classes (wld ct ad G M) H → va_D A (wld ct ad G M) → va_S A s.heap H locs → lv_has ls 3 [(2, va_re ad (M.2 b1 0)), (0, .ref (ad a)), (1, va_re ad p0)] → W p l e (headSpec wuX3_beginsBehind ({ frames := 0, cells := 0, slots := 0, locals := 0 })).room s m ([.ref (ad a), va_re ad p0] : List Value).toArray below meth c H locs 0 0 (MQ below (va_Qi (fun (q : Int32) (_ : Unit) => q = y.2) (fun _ t => kE D ct ad G A y.1 t) A) ([.ref (ad a), va_re ad p0] : List Value).toArray s 0 0 A) (F0 m 139 ls [.int y23]) := by
                intro H locs ls hP hD hS hl
                obtain rfl := Option.some.inj hF
                exact J17 _ _ _ hP hD hS (lv_sub hl [0, 1, 2] rfl)
              clear hF
              have hF := hy23
              clear hy23
              refine lv_icmp_ne (tgt := 134) hx hb dX3_beginsBehind_79 (by decide) (fun c24 => ?_) (fun c24 => ?_)
              · rw [if_neg c24] at hF
                refine lv_iconst (v := (1 : Int32)) hx hb dX3_beginsBehind_134 (by decide) ?_
                refine lv_goto (tgt := 139) hx hb dX3_beginsBehind_135 (by decide) ?_
                obtain rfl := Option.some.inj hF
                exact J23 _ _ _ hP hD hS (lv_sub hl [0, 1, 2] rfl)
              · rw [if_pos c24] at hF
                refine lv_aload_n hx hb dX3_beginsBehind_82 rfl (lv_at hl 1 rfl) ?_
                refine va_get (D := D) (ci := 3) (v := va_re ad (M.2 a 0)) (C := RX3) (T := TX3) (N := 4) hx hb hts (mus hf_X3) hown hK hP a (wld_o ct ad G M hc hk (by decide)) rfl 0 (by decide) (hts (.fieldLink RX3 7 "VideoSuite$Header" "v" "[I") (mu mw_615)) (fun _ h9 => h9) rfl dX3_beginsBehind_83 ?_
                refine lv_iconst (v := (4 : Int32)) hx hb dX3_beginsBehind_86 (by decide) ?_
                refine W_st (st' := [.int (4 : Int32), .ref (ad b2)]) (by rw [va_some ho2]) ?_
                obtain ⟨hvc, hF⟩ := chk_some hF
                refine va_iald hx hb hK hP b2 1 (wld_i ct ad G M hc2 hk2) rfl hvc dX3_beginsBehind_87 ?_
                obtain ⟨x25, ex25, hF⟩ := ltt_some hF
                refine lv_topi (fun zx25 ezx25 => ?_)
                obtain rfl : x25 = zx25 := ex25.trans ezx25.symm
                refine lv_aloadq_n hx hb dX3_beginsBehind_88 rfl (lv_at hl 0 rfl) ?_
                refine lv_iconst (v := (4 : Int32)) hx hb dX3_beginsBehind_89 (by decide) ?_
                refine W_st (st' := [.int (4 : Int32), .ref (ad b7), .int x25]) (by rw [va_some ho7]) ?_
                obtain ⟨hvc, hF⟩ := chk_some hF
                refine va_iald hx hb hK hP b7 1 (wld_i ct ad G M hc7 hk7) rfl hvc dX3_beginsBehind_90 ?_
                obtain ⟨x26, ex26, hF⟩ := ltt_some hF
                refine lv_topi (fun zx26 ezx26 => ?_)
                obtain rfl : x26 = zx26 := ex26.trans ezx26.symm
                obtain ⟨y27, hy27, hF⟩ := bnd_some hF
                have J27 : ∀ (H : Heap) (locs : List Loc) (ls : Array Slot), va_P D classes (wld ct ad G M) H → va_D A (wld ct ad G M) → va_S A s.heap H locs → lv_has ls 3 [(2, va_re ad (M.2 b1 0)), (0, .ref (ad a)), (1, va_re ad p0)] → W p l e (headSpec wuX3_beginsBehind ({ frames := 0, cells := 0, slots := 0, locals := 0 })).room s m ([.ref (ad a), va_re ad p0] : List Value).toArray below meth c H locs 0 0 (MQ below (va_Qi (fun (q : Int32) (_ : Unit) => q = y.2) (fun _ t => kE D ct ad G A y.1 t) A) ([.ref (ad a), va_re ad p0] : List Value).toArray s 0 0 A) (F0 m 139 ls [.int y27]) := by
                  intro H locs ls hP hD hS hl
                  obtain rfl := Option.some.inj hF
                  exact J23 _ _ _ hP hD hS (lv_sub hl [0, 1, 2] rfl)
                clear hF
                have hF := hy27
                clear hy27
                refine lv_icmp_ne (tgt := 134) hx hb dX3_beginsBehind_91 (by decide) (fun c28 => ?_) (fun c28 => ?_)
                · rw [if_neg c28] at hF
                  refine lv_iconst (v := (1 : Int32)) hx hb dX3_beginsBehind_134 (by decide) ?_
                  refine lv_goto (tgt := 139) hx hb dX3_beginsBehind_135 (by decide) ?_
                  obtain rfl := Option.some.inj hF
                  exact J27 _ _ _ hP hD hS (lv_sub hl [0, 1, 2] rfl)
                · rw [if_pos c28] at hF
                  refine lv_aload_n hx hb dX3_beginsBehind_94 rfl (lv_at hl 1 rfl) ?_
                  refine va_get (D := D) (ci := 3) (v := va_re ad (M.2 a 0)) (C := RX3) (T := TX3) (N := 4) hx hb hts (mus hf_X3) hown hK hP a (wld_o ct ad G M hc hk (by decide)) rfl 0 (by decide) (hts (.fieldLink RX3 7 "VideoSuite$Header" "v" "[I") (mu mw_615)) (fun _ h9 => h9) rfl dX3_beginsBehind_95 ?_
                  refine lv_iconst (v := (5 : Int32)) hx hb dX3_beginsBehind_98 (by decide) ?_
                  refine W_st (st' := [.int (5 : Int32), .ref (ad b2)]) (by rw [va_some ho2]) ?_
                  obtain ⟨hvc, hF⟩ := chk_some hF
                  refine va_iald hx hb hK hP b2 1 (wld_i ct ad G M hc2 hk2) rfl hvc dX3_beginsBehind_99 ?_
                  obtain ⟨x29, ex29, hF⟩ := ltt_some hF
                  refine lv_topi (fun zx29 ezx29 => ?_)
                  obtain rfl : x29 = zx29 := ex29.trans ezx29.symm
                  refine lv_aloadq_n hx hb dX3_beginsBehind_100 rfl (lv_at hl 0 rfl) ?_
                  refine lv_iconst (v := (5 : Int32)) hx hb dX3_beginsBehind_101 (by decide) ?_
                  refine W_st (st' := [.int (5 : Int32), .ref (ad b7), .int x29]) (by rw [va_some ho7]) ?_
                  obtain ⟨hvc, hF⟩ := chk_some hF
                  refine va_iald hx hb hK hP b7 1 (wld_i ct ad G M hc7 hk7) rfl hvc dX3_beginsBehind_102 ?_
                  obtain ⟨x30, ex30, hF⟩ := ltt_some hF
                  refine lv_topi (fun zx30 ezx30 => ?_)
                  obtain rfl : x30 = zx30 := ex30.trans ezx30.symm
                  obtain ⟨y31, hy31, hF⟩ := bnd_some hF
                  have J31 : ∀ (H : Heap) (locs : List Loc) (ls : Array Slot), va_P D classes (wld ct ad G M) H → va_D A (wld ct ad G M) → va_S A s.heap H locs → lv_has ls 3 [(2, va_re ad (M.2 b1 0)), (0, .ref (ad a)), (1, va_re ad p0)] → W p l e (headSpec wuX3_beginsBehind ({ frames := 0, cells := 0, slots := 0, locals := 0 })).room s m ([.ref (ad a), va_re ad p0] : List Value).toArray below meth c H locs 0 0 (MQ below (va_Qi (fun (q : Int32) (_ : Unit) => q = y.2) (fun _ t => kE D ct ad G A y.1 t) A) ([.ref (ad a), va_re ad p0] : List Value).toArray s 0 0 A) (F0 m 139 ls [.int y31]) := by
                    intro H locs ls hP hD hS hl
                    obtain rfl := Option.some.inj hF
                    exact J27 _ _ _ hP hD hS (lv_sub hl [0, 1, 2] rfl)
                  clear hF
                  have hF := hy31
                  clear hy31
                  refine lv_icmp_ne (tgt := 134) hx hb dX3_beginsBehind_103 (by decide) (fun c32 => ?_) (fun c32 => ?_)
                  · rw [if_neg c32] at hF
                    refine lv_iconst (v := (1 : Int32)) hx hb dX3_beginsBehind_134 (by decide) ?_
                    refine lv_goto (tgt := 139) hx hb dX3_beginsBehind_135 (by decide) ?_
                    obtain rfl := Option.some.inj hF
                    exact J31 _ _ _ hP hD hS (lv_sub hl [0, 1, 2] rfl)
                  · rw [if_pos c32] at hF
                    refine lv_aload_n hx hb dX3_beginsBehind_106 rfl (lv_at hl 1 rfl) ?_
                    refine va_get (D := D) (ci := 3) (v := va_re ad (M.2 a 0)) (C := RX3) (T := TX3) (N := 4) hx hb hts (mus hf_X3) hown hK hP a (wld_o ct ad G M hc hk (by decide)) rfl 0 (by decide) (hts (.fieldLink RX3 7 "VideoSuite$Header" "v" "[I") (mu mw_615)) (fun _ h9 => h9) rfl dX3_beginsBehind_107 ?_
                    refine lv_bipush (v := (6 : Int32)) hx hb dX3_beginsBehind_110 (by decide) ?_
                    refine W_st (st' := [.int (6 : Int32), .ref (ad b2)]) (by rw [va_some ho2]) ?_
                    obtain ⟨hvc, hF⟩ := chk_some hF
                    refine va_iald hx hb hK hP b2 1 (wld_i ct ad G M hc2 hk2) rfl hvc dX3_beginsBehind_112 ?_
                    obtain ⟨x33, ex33, hF⟩ := ltt_some hF
                    refine lv_topi (fun zx33 ezx33 => ?_)
                    obtain rfl : x33 = zx33 := ex33.trans ezx33.symm
                    refine lv_aloadq_n hx hb dX3_beginsBehind_113 rfl (lv_at hl 0 rfl) ?_
                    refine lv_bipush (v := (6 : Int32)) hx hb dX3_beginsBehind_114 (by decide) ?_
                    refine W_st (st' := [.int (6 : Int32), .ref (ad b7), .int x33]) (by rw [va_some ho7]) ?_
                    obtain ⟨hvc, hF⟩ := chk_some hF
                    refine va_iald hx hb hK hP b7 1 (wld_i ct ad G M hc7 hk7) rfl hvc dX3_beginsBehind_116 ?_
                    obtain ⟨x34, ex34, hF⟩ := ltt_some hF
                    refine lv_topi (fun zx34 ezx34 => ?_)
                    obtain rfl : x34 = zx34 := ex34.trans ezx34.symm
                    obtain ⟨y35, hy35, hF⟩ := bnd_some hF
                    have J35 : ∀ (H : Heap) (locs : List Loc) (ls : Array Slot), va_P D classes (wld ct ad G M) H → va_D A (wld ct ad G M) → va_S A s.heap H locs → lv_has ls 3 [(2, va_re ad (M.2 b1 0)), (0, .ref (ad a)), (1, va_re ad p0)] → W p l e (headSpec wuX3_beginsBehind ({ frames := 0, cells := 0, slots := 0, locals := 0 })).room s m ([.ref (ad a), va_re ad p0] : List Value).toArray below meth c H locs 0 0 (MQ below (va_Qi (fun (q : Int32) (_ : Unit) => q = y.2) (fun _ t => kE D ct ad G A y.1 t) A) ([.ref (ad a), va_re ad p0] : List Value).toArray s 0 0 A) (F0 m 139 ls [.int y35]) := by
                      intro H locs ls hP hD hS hl
                      obtain rfl := Option.some.inj hF
                      exact J31 _ _ _ hP hD hS (lv_sub hl [0, 1, 2] rfl)
                    clear hF
                    have hF := hy35
                    clear hy35
                    refine lv_icmp_ne (tgt := 134) hx hb dX3_beginsBehind_117 (by decide) (fun c36 => ?_) (fun c36 => ?_)
                    · rw [if_neg c36] at hF
                      refine lv_iconst (v := (1 : Int32)) hx hb dX3_beginsBehind_134 (by decide) ?_
                      refine lv_goto (tgt := 139) hx hb dX3_beginsBehind_135 (by decide) ?_
                      obtain rfl := Option.some.inj hF
                      exact J35 _ _ _ hP hD hS (lv_sub hl [0, 1, 2] rfl)
                    · rw [if_pos c36] at hF
                      refine lv_aload_n hx hb dX3_beginsBehind_120 rfl (lv_at hl 1 rfl) ?_
                      refine va_get (D := D) (ci := 3) (v := va_re ad (M.2 a 0)) (C := RX3) (T := TX3) (N := 4) hx hb hts (mus hf_X3) hown hK hP a (wld_o ct ad G M hc hk (by decide)) rfl 0 (by decide) (hts (.fieldLink RX3 7 "VideoSuite$Header" "v" "[I") (mu mw_615)) (fun _ h9 => h9) rfl dX3_beginsBehind_121 ?_
                      refine lv_bipush (v := (7 : Int32)) hx hb dX3_beginsBehind_124 (by decide) ?_
                      refine W_st (st' := [.int (7 : Int32), .ref (ad b2)]) (by rw [va_some ho2]) ?_
                      obtain ⟨hvc, hF⟩ := chk_some hF
                      refine va_iald hx hb hK hP b2 1 (wld_i ct ad G M hc2 hk2) rfl hvc dX3_beginsBehind_126 ?_
                      obtain ⟨x37, ex37, hF⟩ := ltt_some hF
                      refine lv_topi (fun zx37 ezx37 => ?_)
                      obtain rfl : x37 = zx37 := ex37.trans ezx37.symm
                      refine lv_aloadq_n hx hb dX3_beginsBehind_127 rfl (lv_at hl 0 rfl) ?_
                      refine lv_bipush (v := (7 : Int32)) hx hb dX3_beginsBehind_128 (by decide) ?_
                      refine W_st (st' := [.int (7 : Int32), .ref (ad b7), .int x37]) (by rw [va_some ho7]) ?_
                      obtain ⟨hvc, hF⟩ := chk_some hF
                      refine va_iald hx hb hK hP b7 1 (wld_i ct ad G M hc7 hk7) rfl hvc dX3_beginsBehind_130 ?_
                      obtain ⟨x38, ex38, hF⟩ := ltt_some hF
                      refine lv_topi (fun zx38 ezx38 => ?_)
                      obtain rfl : x38 = zx38 := ex38.trans ezx38.symm
                      obtain ⟨y39, hy39, hF⟩ := bnd_some hF
                      have J39 : ∀ (H : Heap) (locs : List Loc) (ls : Array Slot), va_P D classes (wld ct ad G M) H → va_D A (wld ct ad G M) → va_S A s.heap H locs → lv_has ls 3 [(2, va_re ad (M.2 b1 0)), (0, .ref (ad a)), (1, va_re ad p0)] → W p l e (headSpec wuX3_beginsBehind ({ frames := 0, cells := 0, slots := 0, locals := 0 })).room s m ([.ref (ad a), va_re ad p0] : List Value).toArray below meth c H locs 0 0 (MQ below (va_Qi (fun (q : Int32) (_ : Unit) => q = y.2) (fun _ t => kE D ct ad G A y.1 t) A) ([.ref (ad a), va_re ad p0] : List Value).toArray s 0 0 A) (F0 m 139 ls [.int y39]) := by
                        intro H locs ls hP hD hS hl
                        obtain rfl := Option.some.inj hF
                        exact J35 _ _ _ hP hD hS (lv_sub hl [0, 1, 2] rfl)
                      clear hF
                      have hF := hy39
                      clear hy39
                      refine lv_icmp_eq (tgt := 138) hx hb dX3_beginsBehind_131 (by decide) (fun c40 => ?_) (fun c40 => ?_)
                      · rw [if_pos c40] at hF
                        refine lv_iconst (v := (0 : Int32)) hx hb dX3_beginsBehind_138 (by decide) ?_
                        obtain rfl := Option.some.inj hF
                        exact J39 _ _ _ hP hD hS (lv_sub hl [0, 1, 2] rfl)
                      · rw [if_neg c40] at hF
                        refine lv_iconst (v := (1 : Int32)) hx hb dX3_beginsBehind_134 (by decide) ?_
                        refine lv_goto (tgt := 139) hx hb dX3_beginsBehind_135 (by decide) ?_
                        obtain rfl := Option.some.inj hF
                        exact J39 _ _ _ hP hD hS (lv_sub hl [0, 1, 2] rfl)
            clear hF
            have hF := hy22
            clear hy22
            refine lv_if_ne (tgt := 78) hx hb dX3_beginsBehind_71 (by decide) (fun c41 => ?_) (fun c41 => ?_)
            · rw [if_neg c41] at hF
              refine lv_iconst (v := (0 : Int32)) hx hb dX3_beginsBehind_78 (by decide) ?_
              obtain rfl := Option.some.inj hF
              exact J22 _ _ _ hP hD hS (lv_sub hl [0, 1, 2] rfl)
            · rw [if_pos c41] at hF
              refine lv_iconst (v := (1 : Int32)) hx hb dX3_beginsBehind_74 (by decide) ?_
              refine lv_goto (tgt := 79) hx hb dX3_beginsBehind_75 (by decide) ?_
              obtain rfl := Option.some.inj hF
              exact J22 _ _ _ hP hD hS (lv_sub hl [0, 1, 2] rfl)
          clear hF
          have hF := hy20
          clear hy20
          refine lv_if_ne (tgt := 66) hx hb dX3_beginsBehind_59 (by decide) (fun c42 => ?_) (fun c42 => ?_)
          · rw [if_neg c42] at hF
            refine lv_iconst (v := (0 : Int32)) hx hb dX3_beginsBehind_66 (by decide) ?_
            obtain rfl := Option.some.inj hF
            exact J20 _ _ _ hP hD hS (lv_sub hl [0, 1, 2] rfl)
          · rw [if_pos c42] at hF
            refine lv_iconst (v := (1 : Int32)) hx hb dX3_beginsBehind_62 (by decide) ?_
            refine lv_goto (tgt := 67) hx hb dX3_beginsBehind_63 (by decide) ?_
            obtain rfl := Option.some.inj hF
            exact J20 _ _ _ hP hD hS (lv_sub hl [0, 1, 2] rfl)
theorem dX3_clearWeights_0 : decode cX3_clearWeights 0 = .ok (.iconst 0, 1) := by decide +kernel
theorem dX3_clearWeights_1 : decode cX3_clearWeights 1 = .ok (.istore_n 1, 1) := by decide +kernel
theorem dX3_clearWeights_2 : decode cX3_clearWeights 2 = .ok (.iload_n 1, 1) := by decide +kernel
theorem dX3_clearWeights_3 : decode cX3_clearWeights 3 = .ok (.bipush 48, 2) := by decide +kernel
theorem dX3_clearWeights_5 : decode cX3_clearWeights 5 = .ok (.if_icmp .ge 53, 3) := by decide +kernel
theorem dX3_clearWeights_8 : decode cX3_clearWeights 8 = .ok (.aload_n 0, 1) := by decide +kernel
theorem dX3_clearWeights_9 : decode cX3_clearWeights 9 = .ok (.getfield 19, 3) := by decide +kernel
theorem dX3_clearWeights_12 : decode cX3_clearWeights 12 = .ok (.iconst 2, 1) := by decide +kernel
theorem dX3_clearWeights_13 : decode cX3_clearWeights 13 = .ok (.iload_n 1, 1) := by decide +kernel
theorem dX3_clearWeights_14 : decode cX3_clearWeights 14 = .ok (.imul, 1) := by decide +kernel
theorem dX3_clearWeights_15 : decode cX3_clearWeights 15 = .ok (.iconst 1, 1) := by decide +kernel
theorem dX3_clearWeights_16 : decode cX3_clearWeights 16 = .ok (.iload_n 1, 1) := by decide +kernel
theorem dX3_clearWeights_17 : decode cX3_clearWeights 17 = .ok (.iconst 3, 1) := by decide +kernel
theorem dX3_clearWeights_18 : decode cX3_clearWeights 18 = .ok (.irem, 1) := by decide +kernel
theorem dX3_clearWeights_19 : decode cX3_clearWeights 19 = .ok (.ifCond .ne 13, 3) := by decide +kernel
theorem dX3_clearWeights_22 : decode cX3_clearWeights 22 = .ok (.aload_n 0, 1) := by decide +kernel
theorem dX3_clearWeights_23 : decode cX3_clearWeights 23 = .ok (.getfield 7, 3) := by decide +kernel
theorem dX3_clearWeights_26 : decode cX3_clearWeights 26 = .ok (.bipush 22, 2) := by decide +kernel
theorem dX3_clearWeights_28 : decode cX3_clearWeights 28 = .ok (.iaload, 1) := by decide +kernel
theorem dX3_clearWeights_29 : decode cX3_clearWeights 29 = .ok (.goto 10, 3) := by decide +kernel
theorem dX3_clearWeights_32 : decode cX3_clearWeights 32 = .ok (.aload_n 0, 1) := by decide +kernel
theorem dX3_clearWeights_33 : decode cX3_clearWeights 33 = .ok (.getfield 7, 3) := by decide +kernel
theorem dX3_clearWeights_36 : decode cX3_clearWeights 36 = .ok (.bipush 23, 2) := by decide +kernel
theorem dX3_clearWeights_38 : decode cX3_clearWeights 38 = .ok (.iaload, 1) := by decide +kernel
theorem dX3_clearWeights_39 : decode cX3_clearWeights 39 = .ok (.ishl, 1) := by decide +kernel
theorem dX3_clearWeights_40 : decode cX3_clearWeights 40 = .ok (.iastore, 1) := by decide +kernel
theorem dX3_clearWeights_41 : decode cX3_clearWeights 41 = .ok (.aload_n 0, 1) := by decide +kernel
theorem dX3_clearWeights_42 : decode cX3_clearWeights 42 = .ok (.getfield 19, 3) := by decide +kernel
theorem dX3_clearWeights_45 : decode cX3_clearWeights 45 = .ok (.iconst 2, 1) := by decide +kernel
theorem dX3_clearWeights_46 : decode cX3_clearWeights 46 = .ok (.iload_n 1, 1) := by decide +kernel
theorem dX3_clearWeights_47 : decode cX3_clearWeights 47 = .ok (.imul, 1) := by decide +kernel
theorem dX3_clearWeights_48 : decode cX3_clearWeights 48 = .ok (.iconst 1, 1) := by decide +kernel
theorem dX3_clearWeights_49 : decode cX3_clearWeights 49 = .ok (.iadd, 1) := by decide +kernel
theorem dX3_clearWeights_50 : decode cX3_clearWeights 50 = .ok (.iconst 0, 1) := by decide +kernel
theorem dX3_clearWeights_51 : decode cX3_clearWeights 51 = .ok (.iastore, 1) := by decide +kernel
theorem dX3_clearWeights_52 : decode cX3_clearWeights 52 = .ok (.iinc 1 1, 3) := by decide +kernel
theorem dX3_clearWeights_55 : decode cX3_clearWeights 55 = .ok (.goto (-53), 3) := by decide +kernel
theorem dX3_clearWeights_58 : decode cX3_clearWeights 58 = .ok (.return_, 1) := by decide +kernel
def FX3_clearWeights (G : GG) (M : DD) (a : Nat)  : Option (DD) :=
  bnd (itr (fun (s2 : Int32 × DD) => ((if ((48 : Int32)) ≤ s2.1 then (some (.inr (s2.1, s2.2))) else
  (ltt ((((2 : Int32)) * s2.1)) fun x6 =>
  ltt (s2.1 - s2.1 / ((3 : Int32)) * ((3 : Int32))) fun x7 =>
  bnd (if x7 = ((0 : Int32)) then (dr G 13 ((s2.2.2 a 0)) fun b20 =>
  chk (¬ (((22 : Int32)) < 0 ∨ G.2.2 b20 ≤ ((22 : Int32)).toNatClampNeg)) <|
  ltt (s2.2.1 b20 ((22 : Int32)).toNatClampNeg) fun x21 =>
  some (x21)) else
  (dr G 13 ((s2.2.2 a 0)) fun b18 =>
  chk (¬ (((23 : Int32)) < 0 ∨ G.2.2 b18 ≤ ((23 : Int32)).toNatClampNeg)) <|
  ltt (s2.2.1 b18 ((23 : Int32)).toNatClampNeg) fun x19 =>
  some (x19))) fun (y8 : Int32) =>
  ltt ((((1 : Int32)) <<< (y8 &&& 31))) fun x9 =>
  dr G 13 ((s2.2.2 a 3)) fun b10 =>
  chk (¬ (x6 < 0 ∨ G.2.2 b10 ≤ x6.toNatClampNeg)) <|
  ltt (uI s2.2 b10 x6.toNatClampNeg x9) fun M11 =>
  ltt ((((2 : Int32)) * s2.1)) fun x12 =>
  ltt ((x12 + ((1 : Int32)))) fun x13 =>
  dr G 13 ((M11.2 a 3)) fun b14 =>
  chk (¬ (x13 < 0 ∨ G.2.2 b14 ≤ x13.toNatClampNeg)) <|
  ltt (uI M11 b14 x13.toNatClampNeg ((0 : Int32))) fun M15 =>
  ltt (s2.1 + (1 : Int32)) fun x16 =>
  some (.inl (x16, M15)))) : Option ((Int32 × DD) ⊕ (Int32 × DD)))) 1000000 ((0 : Int32), M)) fun (y1 : Int32 × DD) =>
  some y1.2
set_option maxHeartbeats 4000000 in
set_option maxRecDepth 100000 in
theorem kX3_clearWeights (l : Launch) (D : va_G) (ct : CT) (ad : Nat → Nat) (Z : Nat → Nat) (G : GG) (M : DD) (sz : Nat) (a : Nat)  (y : DD) (hc : a < G.1) (hk : G.2.1 a = 3) (hF : FX3_clearWeights G M a  = some y) : Met l yX3_clearWeights wuX3_clearWeights ({ frames := 0, cells := 0, slots := 0, locals := 0 }) (va_Pc [.ref (ad a)] (kB D ct ad Z G M sz)) (va_Qv (fun (_ : Unit) => True) (fun _ t => kE D ct ad G (wA ad G sz) y t) (wA ad G sz)) 0 0 (wA ad G sz) := by
  refine Met.ofW (cc := cX3_clearWeights) (maxL := 2) (ret := none) (by decide) rfl ?_
  intro p e s m args below meth c s₁ B hml hv
  obtain ⟨rfl, hsz, hP, hK, hD0, hZ, hN⟩ := hv
  have hx := B.exec
  have hb := B.bytes
  have hr := B.returns
  have hts := atoms_spec (ws := wuX3_clearWeights) B.pre
  have hown : s.vm.findClass RX3 = some m.cls := findClass_of_methodNamed B.named
  have hlocks := B.notSynchronized
  subst hsz
  have hD := wD_self (sz := s.heap.size) hD0
  have hA9 : ∀ q, s.heap.size ≤ q → wA ad G s.heap.size q := fun q h => Or.inr h
  generalize hAe : wA ad G s.heap.size = A at hD hA9 hZ ⊢
  have hS : va_S A s.heap s.heap [] := va_S.rf
  have hl := lv_entry ([.ref (ad a)]) (n := 2) (Nat.le_of_ble_eq_true rfl)
  rw [lg_entry_eq]
  generalize (lg_sl ([.ref (ad a)]) ++ List.replicate (2 - (lg_sl ([.ref (ad a)])).length) Slot.unset).toArray = ls at hl ⊢
  have hl : lv_has ls 2 [(0, .ref (ad a))] := hl
  unfold FX3_clearWeights at hF
  refine lv_iconst (v := (0 : Int32)) hx hb dX3_clearWeights_0 (by decide) ?_
  refine lv_istore_n (lv' := [(1, .int (0 : Int32)), (0, .ref (ad a))]) hx hb dX3_clearWeights_1 rfl hl (by decide) rfl (fun ls hl => ?_)
  obtain ⟨y1, hy1, hF⟩ := bnd_some hF
  have K1 : ∀ (H : Heap) (locs : List Loc) (ls : Array Slot), va_P D classes (wld ct ad G y1.2) H → va_D A (wld ct ad G y1.2) → va_S A s.heap H locs → lv_has ls 2 [(1, .int y1.1), (0, .ref (ad a))] → W p l e (headSpec wuX3_clearWeights ({ frames := 0, cells := 0, slots := 0, locals := 0 })).room s m ([.ref (ad a)] : List Value).toArray below meth c H locs 0 0 (MQ below (va_Qv (fun (_ : Unit) => True) (fun _ t => kE D ct ad G A y t) A) ([.ref (ad a)] : List Value).toArray s 0 0 A) (F0 m 58 ls []) := by
    intro H locs ls hP hD hS hl
    obtain rfl := Option.some.inj hF
    exact W.vret hx hb hr (fun t ht hW => ⟨⟨(), rfl, trivial, ⟨by rw [ht]; exact hP, va_K.moved hW.alike hK, hD⟩⟩, hS.F ht⟩) hS.2.2 dX3_clearWeights_58
  clear hF
  refine itr_rule (fun (s2 : Int32 × DD) => ∀ (H : Heap) (locs : List Loc) (ls : Array Slot), va_P D classes (wld ct ad G s2.2) H → va_D A (wld ct ad G s2.2) → va_S A s.heap H locs → lv_has ls 2 [(1, .int s2.1), (0, .ref (ad a))] → W p l e (headSpec wuX3_clearWeights ({ frames := 0, cells := 0, slots := 0, locals := 0 })).room s m ([.ref (ad a)] : List Value).toArray below meth c H locs 0 0 (MQ below (va_Qv (fun (_ : Unit) => True) (fun _ t => kE D ct ad G A y t) A) ([.ref (ad a)] : List Value).toArray s 0 0 A) (F0 m 2 ls [])) ?_ _ _ hy1 _ _ _ hP hD hS (lv_sub hl [0, 1] rfl)
  rintro s2 ⟨z4, hF, hwz4⟩ H locs ls hP hD hS hl
  try dsimp only at hF
  refine lv_iload_n hx hb dX3_clearWeights_2 rfl (lv_at hl 0 rfl) ?_
  refine lv_bipush (v := (48 : Int32)) hx hb dX3_clearWeights_3 (by decide) ?_
  refine lv_icmp_ge (tgt := 58) hx hb dX3_clearWeights_5 (by decide) (fun c5 => ?_) (fun c5 => ?_)
  · rw [if_pos c5] at hF
    obtain rfl := Option.some.inj hF
    subst hwz4
    exact K1 _ _ _ hP hD hS (lv_sub hl [0, 1] rfl)
  · rw [if_neg c5] at hF
    refine lv_aload_n hx hb dX3_clearWeights_8 rfl (lv_at hl 1 rfl) ?_
    refine va_get (D := D) (ci := 3) (v := va_re ad (s2.2.2 a 3)) (C := RX3) (T := TX3) (N := 4) hx hb hts (mus hf_X3) hown hK hP a (wld_o ct ad G s2.2 hc hk (by decide)) rfl 3 (by decide) (hts (.fieldLink RX3 19 "VideoSuite$Header" "weight" "[I") (mu mw_627)) (fun _ h9 => h9) rfl dX3_clearWeights_9 ?_
    refine lv_iconst (v := (2 : Int32)) hx hb dX3_clearWeights_12 (by decide) ?_
    refine lv_iload_n hx hb dX3_clearWeights_13 rfl (lv_at hl 0 rfl) ?_
    refine lv_imul hx hb dX3_clearWeights_14 ?_
    obtain ⟨x6, ex6, hF⟩ := ltt_some hF
    refine lv_topi (fun zx6 ezx6 => ?_)
    obtain rfl : x6 = zx6 := ex6.trans ezx6.symm
    refine lv_iconst (v := (1 : Int32)) hx hb dX3_clearWeights_15 (by decide) ?_
    refine lv_iload_n hx hb dX3_clearWeights_16 rfl (lv_at hl 0 rfl) ?_
    refine lv_iconst (v := (3 : Int32)) hx hb dX3_clearWeights_17 (by decide) ?_
    refine lv_irem hx hb dX3_clearWeights_18 (by decide) ?_
    obtain ⟨x7, ex7, hF⟩ := ltt_some hF
    refine lv_topi (fun zx7 ezx7 => ?_)
    obtain rfl : x7 = zx7 := ex7.trans ezx7.symm
    obtain ⟨y8, hy8, hF⟩ := bnd_some hF
    have J8 : ∀ (H : Heap) (locs : List Loc) (ls : Array Slot), va_P D classes (wld ct ad G s2.2) H → va_D A (wld ct ad G s2.2) → va_S A s.heap H locs → lv_has ls 2 [(1, .int s2.1), (0, .ref (ad a))] → W p l e (headSpec wuX3_clearWeights ({ frames := 0, cells := 0, slots := 0, locals := 0 })).room s m ([.ref (ad a)] : List Value).toArray below meth c H locs 0 0 (MQ below (va_Qv (fun (_ : Unit) => True) (fun _ t => kE D ct ad G A y t) A) ([.ref (ad a)] : List Value).toArray s 0 0 A) (F0 m 39 ls [.int y8, .int (1 : Int32), .int x6, va_re ad (s2.2.2 a 3)]) := by
      intro H locs ls hP hD hS hl
      refine lv_ishl hx hb dX3_clearWeights_39 ?_
      obtain ⟨x9, ex9, hF⟩ := ltt_some hF
      refine lv_topi (fun zx9 ezx9 => ?_)
      obtain rfl : x9 = zx9 := ex9.trans ezx9.symm
      obtain ⟨b10, ho10, hc10, hk10, hF⟩ := dr_some hF
      refine W_st (st' := [.int x9, .int x6, .ref (ad b10)]) (by rw [va_some ho10]) ?_
      obtain ⟨hvc, hF⟩ := chk_some hF
      refine va_iast hx hb hK hP hD hS b10 1 (wld_i ct ad G s2.2 hc10 hk10) rfl hvc dX3_clearWeights_40 (fun H locs hP hD hS => ?_)
      obtain ⟨M11, eM11, hF⟩ := ltt_some hF
      rw [set_i ct ad G s2.2 hc10 hk10, ← eM11] at hP hD
      refine lv_aload_n hx hb dX3_clearWeights_41 rfl (lv_at hl 1 rfl) ?_
      refine va_get (D := D) (ci := 3) (v := va_re ad (M11.2 a 3)) (C := RX3) (T := TX3) (N := 4) hx hb hts (mus hf_X3) hown hK hP a (wld_o ct ad G M11 hc hk (by decide)) rfl 3 (by decide) (hts (.fieldLink RX3 19 "VideoSuite$Header" "weight" "[I") (mu mw_627)) (fun _ h9 => h9) rfl dX3_clearWeights_42 ?_
      refine lv_iconst (v := (2 : Int32)) hx hb dX3_clearWeights_45 (by decide) ?_
      refine lv_iload_n hx hb dX3_clearWeights_46 rfl (lv_at hl 0 rfl) ?_
      refine lv_imul hx hb dX3_clearWeights_47 ?_
      obtain ⟨x12, ex12, hF⟩ := ltt_some hF
      refine lv_topi (fun zx12 ezx12 => ?_)
      obtain rfl : x12 = zx12 := ex12.trans ezx12.symm
      refine lv_iconst (v := (1 : Int32)) hx hb dX3_clearWeights_48 (by decide) ?_
      refine lv_iadd hx hb dX3_clearWeights_49 ?_
      obtain ⟨x13, ex13, hF⟩ := ltt_some hF
      refine lv_topi (fun zx13 ezx13 => ?_)
      obtain rfl : x13 = zx13 := ex13.trans ezx13.symm
      refine lv_iconst (v := (0 : Int32)) hx hb dX3_clearWeights_50 (by decide) ?_
      obtain ⟨b14, ho14, hc14, hk14, hF⟩ := dr_some hF
      refine W_st (st' := [.int (0 : Int32), .int x13, .ref (ad b14)]) (by rw [va_some ho14]) ?_
      obtain ⟨hvc, hF⟩ := chk_some hF
      refine va_iast hx hb hK hP hD hS b14 1 (wld_i ct ad G M11 hc14 hk14) rfl hvc dX3_clearWeights_51 (fun H locs hP hD hS => ?_)
      obtain ⟨M15, eM15, hF⟩ := ltt_some hF
      rw [set_i ct ad G M11 hc14 hk14, ← eM15] at hP hD
      obtain ⟨x16, ex16, hF⟩ := ltt_some hF
      refine lv_iinc (v := x16) (lv' := [(1, .int x16), (0, .ref (ad a))]) hx hb dX3_clearWeights_52 hl (k := 0) rfl (by rw [ex16]; rfl) (by decide) rfl (fun ls hl => ?_)
      refine lv_goto (tgt := 2) hx hb dX3_clearWeights_55 (by decide) ?_
      obtain rfl := Option.some.inj hF
      exact hwz4 _ _ _ hP hD hS (lv_sub hl [0, 1] rfl)
    clear hF
    have hF := hy8
    clear hy8
    refine lv_if_ne (tgt := 32) hx hb dX3_clearWeights_19 (by decide) (fun c17 => ?_) (fun c17 => ?_)
    · rw [if_neg c17] at hF
      refine lv_aload_n hx hb dX3_clearWeights_32 rfl (lv_at hl 1 rfl) ?_
      refine va_get (D := D) (ci := 3) (v := va_re ad (s2.2.2 a 0)) (C := RX3) (T := TX3) (N := 4) hx hb hts (mus hf_X3) hown hK hP a (wld_o ct ad G s2.2 hc hk (by decide)) rfl 0 (by decide) (hts (.fieldLink RX3 7 "VideoSuite$Header" "v" "[I") (mu mw_615)) (fun _ h9 => h9) rfl dX3_clearWeights_33 ?_
      refine lv_bipush (v := (23 : Int32)) hx hb dX3_clearWeights_36 (by decide) ?_
      obtain ⟨b18, ho18, hc18, hk18, hF⟩ := dr_some hF
      refine W_st (st' := [.int (23 : Int32), .ref (ad b18), .int (1 : Int32), .int x6, va_re ad (s2.2.2 a 3)]) (by rw [va_some ho18]) ?_
      obtain ⟨hvc, hF⟩ := chk_some hF
      refine va_iald hx hb hK hP b18 1 (wld_i ct ad G s2.2 hc18 hk18) rfl hvc dX3_clearWeights_38 ?_
      obtain ⟨x19, ex19, hF⟩ := ltt_some hF
      refine lv_topi (fun zx19 ezx19 => ?_)
      obtain rfl : x19 = zx19 := ex19.trans ezx19.symm
      obtain rfl := Option.some.inj hF
      exact J8 _ _ _ hP hD hS (lv_sub hl [0, 1] rfl)
    · rw [if_pos c17] at hF
      refine lv_aload_n hx hb dX3_clearWeights_22 rfl (lv_at hl 1 rfl) ?_
      refine va_get (D := D) (ci := 3) (v := va_re ad (s2.2.2 a 0)) (C := RX3) (T := TX3) (N := 4) hx hb hts (mus hf_X3) hown hK hP a (wld_o ct ad G s2.2 hc hk (by decide)) rfl 0 (by decide) (hts (.fieldLink RX3 7 "VideoSuite$Header" "v" "[I") (mu mw_615)) (fun _ h9 => h9) rfl dX3_clearWeights_23 ?_
      refine lv_bipush (v := (22 : Int32)) hx hb dX3_clearWeights_26 (by decide) ?_
      obtain ⟨b20, ho20, hc20, hk20, hF⟩ := dr_some hF
      refine W_st (st' := [.int (22 : Int32), .ref (ad b20), .int (1 : Int32), .int x6, va_re ad (s2.2.2 a 3)]) (by rw [va_some ho20]) ?_
      obtain ⟨hvc, hF⟩ := chk_some hF
      refine va_iald hx hb hK hP b20 1 (wld_i ct ad G s2.2 hc20 hk20) rfl hvc dX3_clearWeights_28 ?_
      obtain ⟨x21, ex21, hF⟩ := ltt_some hF
      refine lv_topi (fun zx21 ezx21 => ?_)
      obtain rfl : x21 = zx21 := ex21.trans ezx21.symm
      refine lv_goto (tgt := 39) hx hb dX3_clearWeights_29 (by decide) ?_
      obtain rfl := Option.some.inj hF
      exact J8 _ _ _ hP hD hS (lv_sub hl [0, 1] rfl)
theorem dX3_copyFrom_0 : decode cX3_copyFrom 0 = .ok (.aload_n 1, 1) := by decide +kernel
theorem dX3_copyFrom_1 : decode cX3_copyFrom 1 = .ok (.getfield 7, 3) := by decide +kernel
theorem dX3_copyFrom_4 : decode cX3_copyFrom 4 = .ok (.iconst 0, 1) := by decide +kernel
theorem dX3_copyFrom_5 : decode cX3_copyFrom 5 = .ok (.aload_n 0, 1) := by decide +kernel
theorem dX3_copyFrom_6 : decode cX3_copyFrom 6 = .ok (.getfield 7, 3) := by decide +kernel
theorem dX3_copyFrom_9 : decode cX3_copyFrom 9 = .ok (.iconst 0, 1) := by decide +kernel
theorem dX3_copyFrom_10 : decode cX3_copyFrom 10 = .ok (.aload_n 0, 1) := by decide +kernel
theorem dX3_copyFrom_11 : decode cX3_copyFrom 11 = .ok (.getfield 7, 3) := by decide +kernel
theorem dX3_copyFrom_14 : decode cX3_copyFrom 14 = .ok (.arraylength, 1) := by decide +kernel
theorem dX3_copyFrom_15 : decode cX3_copyFrom 15 = .ok (.invokestatic 22, 3) := by decide +kernel
theorem dX3_copyFrom_18 : decode cX3_copyFrom 18 = .ok (.aload_n 1, 1) := by decide +kernel
theorem dX3_copyFrom_19 : decode cX3_copyFrom 19 = .ok (.getfield 16, 3) := by decide +kernel
theorem dX3_copyFrom_22 : decode cX3_copyFrom 22 = .ok (.iconst 0, 1) := by decide +kernel
theorem dX3_copyFrom_23 : decode cX3_copyFrom 23 = .ok (.aload_n 0, 1) := by decide +kernel
theorem dX3_copyFrom_24 : decode cX3_copyFrom 24 = .ok (.getfield 16, 3) := by decide +kernel
theorem dX3_copyFrom_27 : decode cX3_copyFrom 27 = .ok (.iconst 0, 1) := by decide +kernel
theorem dX3_copyFrom_28 : decode cX3_copyFrom 28 = .ok (.aload_n 0, 1) := by decide +kernel
theorem dX3_copyFrom_29 : decode cX3_copyFrom 29 = .ok (.getfield 16, 3) := by decide +kernel
theorem dX3_copyFrom_32 : decode cX3_copyFrom 32 = .ok (.arraylength, 1) := by decide +kernel
theorem dX3_copyFrom_33 : decode cX3_copyFrom 33 = .ok (.invokestatic 22, 3) := by decide +kernel
theorem dX3_copyFrom_36 : decode cX3_copyFrom 36 = .ok (.return_, 1) := by decide +kernel
def FX3_copyFrom (G : GG) (M : DD) (a : Nat) (p0 : Option Nat) : Option (DD) :=
  dr G 3 p0 fun b1 =>
  dr G 13 ((M.2 a 0)) fun b2 =>
  ltt (Int32.ofNat (G.2.2 b2)) fun x3 =>
  dr G 13 ((M.2 b1 0)) fun b4 =>
  chk (¬ ((0 : Int32)) < 0 ∧ ¬ ((0 : Int32)) < 0 ∧ ¬ x3 < 0 ∧ ((0 : Int32)).toNatClampNeg + x3.toNatClampNeg ≤ G.2.2 b4 ∧ ((0 : Int32)).toNatClampNeg + x3.toNatClampNeg ≤ G.2.2 b2) <|
  ltt (rI M b2 (va_cpy (M.1 b4) (M.1 b2) ((0 : Int32)).toNatClampNeg ((0 : Int32)).toNatClampNeg x3.toNatClampNeg)) fun M5 =>
  dr G 13 ((M5.2 a 2)) fun b6 =>
  ltt (Int32.ofNat (G.2.2 b6)) fun x7 =>
  dr G 13 ((M5.2 b1 2)) fun b8 =>
  chk (¬ ((0 : Int32)) < 0 ∧ ¬ ((0 : Int32)) < 0 ∧ ¬ x7 < 0 ∧ ((0 : Int32)).toNatClampNeg + x7.toNatClampNeg ≤ G.2.2 b8 ∧ ((0 : Int32)).toNatClampNeg + x7.toNatClampNeg ≤ G.2.2 b6) <|
  ltt (rI M5 b6 (va_cpy (M5.1 b8) (M5.1 b6) ((0 : Int32)).toNatClampNeg ((0 : Int32)).toNatClampNeg x7.toNatClampNeg)) fun M9 =>
  some M9
set_option maxHeartbeats 4000000 in
set_option maxRecDepth 100000 in
theorem kX3_copyFrom (l : Launch) (D : va_G) (ct : CT) (ad : Nat → Nat) (Z : Nat → Nat) (G : GG) (M : DD) (sz : Nat) (a : Nat) (p0 : Option Nat) (y : DD) (hc : a < G.1) (hk : G.2.1 a = 3) (hF : FX3_copyFrom G M a p0 = some y) : Met l yX3_copyFrom wuX3_copyFrom ({ frames := 1, cells := 0, slots := 0, locals := 80 }) (va_Pc [.ref (ad a), va_re ad p0] (kB D ct ad Z G M sz)) (va_Qv (fun (_ : Unit) => True) (fun _ t => kE D ct ad G (wA ad G sz) y t) (wA ad G sz)) 0 0 (wA ad G sz) := by
  refine Met.ofW (cc := cX3_copyFrom) (maxL := 2) (ret := none) (by decide) rfl ?_
  intro p e s m args below meth c s₁ B hml hv
  obtain ⟨rfl, hsz, hP, hK, hD0, hZ, hN⟩ := hv
  have hx := B.exec
  have hb := B.bytes
  have hr := B.returns
  have hts := atoms_spec (ws := wuX3_copyFrom) B.pre
  have hown : s.vm.findClass RX3 = some m.cls := findClass_of_methodNamed B.named
  have hlocks := B.notSynchronized
  subst hsz
  have hD := wD_self (sz := s.heap.size) hD0
  have hA9 : ∀ q, s.heap.size ≤ q → wA ad G s.heap.size q := fun q h => Or.inr h
  generalize hAe : wA ad G s.heap.size = A at hD hA9 hZ ⊢
  have hS : va_S A s.heap s.heap [] := va_S.rf
  have hl := lv_entry ([.ref (ad a), va_re ad p0]) (n := 2) (by cases p0 <;> exact Nat.le_of_ble_eq_true rfl)
  rw [lg_entry_eq]
  generalize (lg_sl ([.ref (ad a), va_re ad p0]) ++ List.replicate (2 - (lg_sl ([.ref (ad a), va_re ad p0])).length) Slot.unset).toArray = ls at hl ⊢
  have hl : lv_has ls 2 [(0, .ref (ad a)), (1, va_re ad p0)] := by have e9 : lv_args 0 [.ref (ad a), va_re ad p0] = [(0, .ref (ad a)), (1, va_re ad p0)] := (by cases p0 <;> rfl); rw [e9] at hl; exact hl
  unfold FX3_copyFrom at hF
  refine lv_aloadq_n hx hb dX3_copyFrom_0 rfl (lv_at hl 1 rfl) ?_
  obtain ⟨b1, ho1, hc1, hk1, hF⟩ := dr_some hF
  refine W_st (st' := [.ref (ad b1)]) (by rw [va_some ho1]) ?_
  refine va_get (D := D) (ci := 3) (v := va_re ad (M.2 b1 0)) (C := RX3) (T := TX3) (N := 4) hx hb hts (mus hf_X3) hown hK hP b1 (wld_o ct ad G M hc1 hk1 (by decide)) rfl 0 (by decide) (hts (.fieldLink RX3 7 "VideoSuite$Header" "v" "[I") (mu mw_615)) (fun _ h9 => h9) rfl dX3_copyFrom_1 ?_
  refine lv_iconst (v := (0 : Int32)) hx hb dX3_copyFrom_4 (by decide) ?_
  refine lv_aload_n hx hb dX3_copyFrom_5 rfl (lv_at hl 0 rfl) ?_
  refine va_get (D := D) (ci := 3) (v := va_re ad (M.2 a 0)) (C := RX3) (T := TX3) (N := 4) hx hb hts (mus hf_X3) hown hK hP a (wld_o ct ad G M hc hk (by decide)) rfl 0 (by decide) (hts (.fieldLink RX3 7 "VideoSuite$Header" "v" "[I") (mu mw_615)) (fun _ h9 => h9) rfl dX3_copyFrom_6 ?_
  refine lv_iconst (v := (0 : Int32)) hx hb dX3_copyFrom_9 (by decide) ?_
  refine lv_aload_n hx hb dX3_copyFrom_10 rfl (lv_at hl 0 rfl) ?_
  refine va_get (D := D) (ci := 3) (v := va_re ad (M.2 a 0)) (C := RX3) (T := TX3) (N := 4) hx hb hts (mus hf_X3) hown hK hP a (wld_o ct ad G M hc hk (by decide)) rfl 0 (by decide) (hts (.fieldLink RX3 7 "VideoSuite$Header" "v" "[I") (mu mw_615)) (fun _ h9 => h9) rfl dX3_copyFrom_11 ?_
  obtain ⟨b2, ho2, hc2, hk2, hF⟩ := dr_some hF
  refine W_st (st' := [.ref (ad b2), .int (0 : Int32), .ref (ad b2), .int (0 : Int32), va_re ad (M.2 b1 0)]) (by rw [va_some ho2]) ?_
  refine va_alen (v := Int32.ofNat (G.2.2 b2)) hx hb hK hP b2 1 (wld_i ct ad G M hc2 hk2) rfl rfl dX3_copyFrom_14 ?_
  obtain ⟨x3, ex3, hF⟩ := ltt_some hF
  refine lv_topi (fun zx3 ezx3 => ?_)
  obtain rfl : x3 = zx3 := ex3.trans ezx3.symm
  obtain ⟨b4, ho4, hc4, hk4, hF⟩ := dr_some hF
  refine W_st (st' := [.int x3, .int (0 : Int32), .ref (ad b2), .int (0 : Int32), .ref (ad b4)]) (by rw [va_some ho4]) ?_
  obtain ⟨hv9, hF⟩ := chk_some hF
  refine va_copyi (ty := .int) hx hb (hml.trans hl.1.symm) hown (hts (.methodLink RX3 22 arraycopyName) (mu mw_1802)) (hts (.native arraycopyName) (mu mw_1093)) (hts (.static arraycopyName) (mu mw_1092)) (hts (.initialized "java/lang/System") (mu mw_181)) hK hP hD hS b4 b2 1 1 (wld_i ct ad G M hc4 hk4) (wld_i ct ad G M hc2 hk2) rfl rfl rfl hv9.1 hv9.2.1 hv9.2.2.1 hv9.2.2.2.1 hv9.2.2.2.2 (fun _ _ => rfl) (Nat.le_of_ble_eq_true rfl) (by decide +kernel) dX3_copyFrom_15 (fun H locs hP hD hS => ?_)
  obtain ⟨M5, eM5, hF⟩ := ltt_some hF
  rw [set_ri ct ad G M hc2 hk2, ← eM5] at hP hD
  refine lv_aloadq_n hx hb dX3_copyFrom_18 rfl (lv_at hl 1 rfl) ?_
  refine W_st (st' := [.ref (ad b1)]) (by rw [va_some ho1]) ?_
  refine va_get (D := D) (ci := 3) (v := va_re ad (M5.2 b1 2)) (C := RX3) (T := TX3) (N := 4) hx hb hts (mus hf_X3) hown hK hP b1 (wld_o ct ad G M5 hc1 hk1 (by decide)) rfl 2 (by decide) (hts (.fieldLink RX3 16 "VideoSuite$Header" "op" "[I") (mu mw_624)) (fun _ h9 => h9) rfl dX3_copyFrom_19 ?_
  refine lv_iconst (v := (0 : Int32)) hx hb dX3_copyFrom_22 (by decide) ?_
  refine lv_aload_n hx hb dX3_copyFrom_23 rfl (lv_at hl 0 rfl) ?_
  refine va_get (D := D) (ci := 3) (v := va_re ad (M5.2 a 2)) (C := RX3) (T := TX3) (N := 4) hx hb hts (mus hf_X3) hown hK hP a (wld_o ct ad G M5 hc hk (by decide)) rfl 2 (by decide) (hts (.fieldLink RX3 16 "VideoSuite$Header" "op" "[I") (mu mw_624)) (fun _ h9 => h9) rfl dX3_copyFrom_24 ?_
  refine lv_iconst (v := (0 : Int32)) hx hb dX3_copyFrom_27 (by decide) ?_
  refine lv_aload_n hx hb dX3_copyFrom_28 rfl (lv_at hl 0 rfl) ?_
  refine va_get (D := D) (ci := 3) (v := va_re ad (M5.2 a 2)) (C := RX3) (T := TX3) (N := 4) hx hb hts (mus hf_X3) hown hK hP a (wld_o ct ad G M5 hc hk (by decide)) rfl 2 (by decide) (hts (.fieldLink RX3 16 "VideoSuite$Header" "op" "[I") (mu mw_624)) (fun _ h9 => h9) rfl dX3_copyFrom_29 ?_
  obtain ⟨b6, ho6, hc6, hk6, hF⟩ := dr_some hF
  refine W_st (st' := [.ref (ad b6), .int (0 : Int32), .ref (ad b6), .int (0 : Int32), va_re ad (M5.2 b1 2)]) (by rw [va_some ho6]) ?_
  refine va_alen (v := Int32.ofNat (G.2.2 b6)) hx hb hK hP b6 1 (wld_i ct ad G M5 hc6 hk6) rfl rfl dX3_copyFrom_32 ?_
  obtain ⟨x7, ex7, hF⟩ := ltt_some hF
  refine lv_topi (fun zx7 ezx7 => ?_)
  obtain rfl : x7 = zx7 := ex7.trans ezx7.symm
  obtain ⟨b8, ho8, hc8, hk8, hF⟩ := dr_some hF
  refine W_st (st' := [.int x7, .int (0 : Int32), .ref (ad b6), .int (0 : Int32), .ref (ad b8)]) (by rw [va_some ho8]) ?_
  obtain ⟨hv9, hF⟩ := chk_some hF
  refine va_copyi (ty := .int) hx hb (hml.trans hl.1.symm) hown (hts (.methodLink RX3 22 arraycopyName) (mu mw_1802)) (hts (.native arraycopyName) (mu mw_1093)) (hts (.static arraycopyName) (mu mw_1092)) (hts (.initialized "java/lang/System") (mu mw_181)) hK hP hD hS b8 b6 1 1 (wld_i ct ad G M5 hc8 hk8) (wld_i ct ad G M5 hc6 hk6) rfl rfl rfl hv9.1 hv9.2.1 hv9.2.2.1 hv9.2.2.2.1 hv9.2.2.2.2 (fun _ _ => rfl) (Nat.le_of_ble_eq_true rfl) (by decide +kernel) dX3_copyFrom_33 (fun H locs hP hD hS => ?_)
  obtain ⟨M9, eM9, hF⟩ := ltt_some hF
  rw [set_ri ct ad G M5 hc6 hk6, ← eM9] at hP hD
  obtain rfl := Option.some.inj hF
  exact W.vret hx hb hr (fun t ht hW => ⟨⟨(), rfl, trivial, ⟨by rw [ht]; exact hP, va_K.moved hW.alike hK, hD⟩⟩, hS.F ht⟩) hS.2.2 dX3_copyFrom_36
theorem dX3_init_0 : decode cX3_init 0 = .ok (.aload_n 0, 1) := by decide +kernel
theorem dX3_init_1 : decode cX3_init 1 = .ok (.invokespecial 1, 3) := by decide +kernel
theorem dX3_init_4 : decode cX3_init 4 = .ok (.aload_n 0, 1) := by decide +kernel
theorem dX3_init_5 : decode cX3_init 5 = .ok (.bipush 27, 2) := by decide +kernel
theorem dX3_init_7 : decode cX3_init 7 = .ok (.newarray .int, 2) := by decide +kernel
theorem dX3_init_9 : decode cX3_init 9 = .ok (.putfield 7, 3) := by decide +kernel
theorem dX3_init_12 : decode cX3_init 12 = .ok (.aload_n 0, 1) := by decide +kernel
theorem dX3_init_13 : decode cX3_init 13 = .ok (.bipush 32, 2) := by decide +kernel
theorem dX3_init_15 : decode cX3_init 15 = .ok (.newarray .int, 2) := by decide +kernel
theorem dX3_init_17 : decode cX3_init 17 = .ok (.putfield 13, 3) := by decide +kernel
theorem dX3_init_20 : decode cX3_init 20 = .ok (.aload_n 0, 1) := by decide +kernel
theorem dX3_init_21 : decode cX3_init 21 = .ok (.bipush 36, 2) := by decide +kernel
theorem dX3_init_23 : decode cX3_init 23 = .ok (.newarray .int, 2) := by decide +kernel
theorem dX3_init_25 : decode cX3_init 25 = .ok (.putfield 16, 3) := by decide +kernel
theorem dX3_init_28 : decode cX3_init 28 = .ok (.aload_n 0, 1) := by decide +kernel
theorem dX3_init_29 : decode cX3_init 29 = .ok (.bipush 96, 2) := by decide +kernel
theorem dX3_init_31 : decode cX3_init 31 = .ok (.newarray .int, 2) := by decide +kernel
theorem dX3_init_33 : decode cX3_init 33 = .ok (.putfield 19, 3) := by decide +kernel
theorem dX3_init_36 : decode cX3_init 36 = .ok (.return_, 1) := by decide +kernel
noncomputable def FX3_init (G : GG) (M : DD) (a : Nat)  : Option (NN × DD) :=
  chkP (Clo (xt G []) M) <|
  chk (¬ ((27 : Int32)) < 0 ∧ ((27 : Int32)).toNatClampNeg * 4 ≤ 536870912) <|
  ltt ((xt G []).1) fun c2 =>
  app [(13, ((27 : Int32)).toNatClampNeg)] <|
  ltt ([] ++ [(13, ((27 : Int32)).toNatClampNeg)]) fun L4 =>
  ltt (rO M c2) fun M5 =>
  ltt (uP M5 a 0 (some c2)) fun M8 =>
  chkP (Clo (xt G L4) M8) <|
  chk (¬ ((32 : Int32)) < 0 ∧ ((32 : Int32)).toNatClampNeg * 4 ≤ 536870912) <|
  ltt ((xt G L4).1) fun c10 =>
  app [(13, ((32 : Int32)).toNatClampNeg)] <|
  ltt (L4 ++ [(13, ((32 : Int32)).toNatClampNeg)]) fun L12 =>
  ltt (rO M8 c10) fun M13 =>
  ltt (uP M13 a 1 (some c10)) fun M16 =>
  chkP (Clo (xt G L12) M16) <|
  chk (¬ ((36 : Int32)) < 0 ∧ ((36 : Int32)).toNatClampNeg * 4 ≤ 536870912) <|
  ltt ((xt G L12).1) fun c18 =>
  app [(13, ((36 : Int32)).toNatClampNeg)] <|
  ltt (L12 ++ [(13, ((36 : Int32)).toNatClampNeg)]) fun L20 =>
  ltt (rO M16 c18) fun M21 =>
  ltt (uP M21 a 2 (some c18)) fun M24 =>
  chkP (Clo (xt G L20) M24) <|
  chk (¬ ((96 : Int32)) < 0 ∧ ((96 : Int32)).toNatClampNeg * 4 ≤ 536870912) <|
  ltt ((xt G L20).1) fun c26 =>
  app [(13, ((96 : Int32)).toNatClampNeg)] <|
  ltt (L20 ++ [(13, ((96 : Int32)).toNatClampNeg)]) fun L28 =>
  ltt (rO M24 c26) fun M29 =>
  ltt (uP M29 a 3 (some c26)) fun M32 =>
  some ([], M32)
set_option maxHeartbeats 4000000 in
set_option maxRecDepth 100000 in
theorem kX3_init (l : Launch) (D : va_G) (ct : CT) (ad : Nat → Nat) (Z : Nat → Nat) (G : GG) (M : DD) (sz : Nat) (a : Nat)  (y : NN × DD) (hc : a < G.1) (hk : G.2.1 a = 3) (hF : FX3_init G M a  = some y) : Met l yX3_init wuX3_init ({ frames := 1, cells := y.1.length, slots := wt y.1, locals := 20 }) (va_Pc [.ref (ad a)] (kB D ct ad Z G M sz)) (va_Qv (fun (u : Nat → Nat) => agr G.1 ad u) (fun u t => kE D ct u (xt G y.1) (wA ad G sz) y.2 t) (wA ad G sz)) y.1.length (wt y.1) (wA ad G sz) := by
  refine Met.ofW (cc := cX3_init) (maxL := 1) (ret := none) (by decide) rfl ?_
  intro p e s m args below meth c s₁ B hml hv
  obtain ⟨rfl, hsz, hP, hK, hD0, hZ, hN⟩ := hv
  have hx := B.exec
  have hb := B.bytes
  have hr := B.returns
  have hts := atoms_spec (ws := wuX3_init) B.pre
  have hown : s.vm.findClass RX3 = some m.cls := findClass_of_methodNamed B.named
  have hlocks := B.notSynchronized
  have hin : meth.name = "<init>" := (name_of_methodNamed B.named B.method).1
  subst hsz
  have hD := wD_self (sz := s.heap.size) hD0
  have hA9 : ∀ q, s.heap.size ≤ q → wA ad G s.heap.size q := fun q h => Or.inr h
  generalize hAe : wA ad G s.heap.size = A at hD hA9 hZ ⊢
  have hS : va_S A s.heap s.heap [] := va_S.rf
  have hl := lv_entry ([.ref (ad a)]) (n := 1) (Nat.le_of_ble_eq_true rfl)
  rw [lg_entry_eq]
  generalize (lg_sl ([.ref (ad a)]) ++ List.replicate (1 - (lg_sl ([.ref (ad a)])).length) Slot.unset).toArray = ls at hl ⊢
  have hl : lv_has ls 1 [(0, .ref (ad a))] := hl
  unfold FX3_init at hF
  rw [← wld_0 ct ad G M] at hP hD
  have hk := xt_k0 hc hk
  have hc := xt_l0 hc
  have hag := agr_rf G.1 ad
  obtain ⟨w0, hw0⟩ : ∃ z, z = y := ⟨_, rfl⟩
  rw [← hw0] at hF
  have hT : y.1 = [] ++ w0.1 := by rw [hw0]; rfl
  have h2 : y.2 = w0.2 := by rw [hw0]
  have hbl : y.1.length ≤ y.1.length ∧ wt y.1 ≤ wt y.1 := ⟨Nat.le_refl _, Nat.le_refl _⟩
  refine lv_aload_n hx hb dX3_init_0 rfl (lv_at hl 0 rfl) ?_
  refine W.objInit hx hb hown (hts (.methodLink RX3 1 objectInit) (mu mw_614)) (hts (.instanceMethod objectInit) (mu mw_202)) (hts (.code objectInit ⟨#[0xb1]⟩ 1 none) (mu mw_203)) rfl (by rw [hml]; exact hl.1) rfl dX3_init_1 (Nat.le_of_ble_eq_true rfl) (Nat.le_of_ble_eq_true rfl) ?_
  refine W.eq (g2 := F0 m 4 ls []) rfl ?_
  refine lv_aload_n hx hb dX3_init_4 rfl (lv_at hl 0 rfl) ?_
  refine lv_bipush (v := (27 : Int32)) hx hb dX3_init_5 (by decide) ?_
  obtain ⟨hC1, hF⟩ := chkP_some hF
  obtain ⟨hz9, hF⟩ := chk_some hF
  obtain ⟨c2, ec2, hF⟩ := ltt_some hF
  obtain ⟨w3, hF, ew3⟩ := app_some hF
  obtain ⟨L4, eL4, hF⟩ := ltt_some hF
  have hT4 : y.1 = ([] ++ [(13, ((27 : Int32)).toNatClampNeg)]) ++ w3.1 := by rw [hT, ew3]; simp only [List.append_assoc]
  obtain ⟨M5, eM5, hF⟩ := ltt_some hF
  refine new_i hx hb (hts (.arrayClass .int) (mu mw_266)) hK hP hD hS hA9 hz9.1 hz9.2 hC1 (room_1s hT4 hbl) dX3_init_7 (fun ad6 H hn7 hP hD hS => ?_)
  rw [← ec2, ← eL4, ← eM5] at hP hD
  refine W_cs (k := L4.length) (n := wt L4) (by rw [eL4]) (by rw [eL4]) ?_
  refine W_st (st' := [.ref (ad6 c2), .ref (ad a)]) (by rw [ec2]) ?_
  have hT : y.1 = L4 ++ w3.1 := by rw [hT4, eL4]
  have h2 : y.2 = w3.2 := by rw [h2, ew3]
  have hl := lv_sub (l' := [(0, .ref (ad a))]) hl [0] rfl
  have e9 : ([(0, .ref (ad a))] : List (Nat × Value)) = [(0, .ref (ad6 a))] := (by first | rfl | simp only [hn7 a hc])
  rw [e9] at hl
  clear e9
  refine W_st (st' := [.ref (ad6 c2), .ref (ad6 a)]) (by first | rfl | simp only [hn7 a hc]) ?_
  have hk : (xt G L4).2.1 a = 3 := by rw [eL4]; exact xt_k _ hc hk
  have hc : a < (xt G L4).1 := by rw [eL4]; exact xt_l _ hc
  have hag := agr_t (xt_ge _ _) hag hn7
  have hc2 : c2 < (xt G L4).1 := by rw [ec2, eL4]; exact cnt_new _ _ _
  have hk2 : (xt G L4).2.1 c2 = 13 := by rw [ec2, eL4]; exact (kind_new _ _ _ _).1
  refine va_putF (D := D) (ci := 3) (v := va_re ad6 (some c2)) (ty := (.array .int)) (C := RX3) (T := TX3) (N := 4) hx hb hts (mus hf_X3) tyX3 tyX3_ok nmX3 hown hK hP hD hS a (wld_o ct ad6 (xt G L4) M5 hc hk (by decide)) rfl 0 (by decide) (hts (.fieldLink RX3 7 "VideoSuite$Header" "v" "[I") (mu mw_615)) (fun _ h9 => h9) rfl hin rfl (by decide +kernel) (nar_q ad6 (Or.inr ⟨_, rfl⟩) (some c2)).1 (nar_q ad6 (Or.inr ⟨_, rfl⟩) (some c2)).2 (Nat.le_of_ble_eq_true rfl) dX3_init_9 (fun H locs hP hD hS => ?_)
  obtain ⟨M8, eM8, hF⟩ := ltt_some hF
  rw [set_oP ct ad6 (xt G L4) M5 hc hk (by decide) (by rfl), ← eM8] at hP hD
  refine lv_aload_n hx hb dX3_init_12 rfl (lv_at hl 0 rfl) ?_
  refine lv_bipush (v := (32 : Int32)) hx hb dX3_init_13 (by decide) ?_
  obtain ⟨hC9, hF⟩ := chkP_some hF
  obtain ⟨hz9, hF⟩ := chk_some hF
  obtain ⟨c10, ec10, hF⟩ := ltt_some hF
  obtain ⟨w11, hF, ew11⟩ := app_some hF
  obtain ⟨L12, eL12, hF⟩ := ltt_some hF
  have hT12 : y.1 = (L4 ++ [(13, ((32 : Int32)).toNatClampNeg)]) ++ w11.1 := by rw [hT, ew11]; simp only [List.append_assoc]
  obtain ⟨M13, eM13, hF⟩ := ltt_some hF
  refine new_i hx hb (hts (.arrayClass .int) (mu mw_266)) hK hP hD hS hA9 hz9.1 hz9.2 hC9 (room_1s hT12 hbl) dX3_init_15 (fun ad14 H hn15 hP hD hS => ?_)
  rw [← ec10, ← eL12, ← eM13] at hP hD
  refine W_cs (k := L12.length) (n := wt L12) (by rw [eL12]) (by rw [eL12]) ?_
  refine W_st (st' := [.ref (ad14 c10), .ref (ad6 a)]) (by rw [ec10]) ?_
  have hT : y.1 = L12 ++ w11.1 := by rw [hT12, eL12]
  have h2 : y.2 = w11.2 := by rw [h2, ew11]
  have hl := lv_sub (l' := [(0, .ref (ad6 a))]) hl [0] rfl
  have e9 : ([(0, .ref (ad6 a))] : List (Nat × Value)) = [(0, .ref (ad14 a))] := (by first | rfl | simp only [hn15 a hc])
  rw [e9] at hl
  clear e9
  refine W_st (st' := [.ref (ad14 c10), .ref (ad14 a)]) (by first | rfl | simp only [hn15 a hc]) ?_
  have hk : (xt G L12).2.1 a = 3 := by rw [eL12]; exact xt_k _ hc hk
  have hc : a < (xt G L12).1 := by rw [eL12]; exact xt_l _ hc
  have hk2 : (xt G L12).2.1 c2 = 13 := by rw [eL12]; exact xt_k _ hc2 hk2
  have hc2 : c2 < (xt G L12).1 := by rw [eL12]; exact xt_l _ hc2
  have hag := agr_t (xt_ge _ _) hag hn15
  have hc10 : c10 < (xt G L12).1 := by rw [ec10, eL12]; exact cnt_new _ _ _
  have hk10 : (xt G L12).2.1 c10 = 13 := by rw [ec10, eL12]; exact (kind_new _ _ _ _).1
  refine va_putF (D := D) (ci := 3) (v := va_re ad14 (some c10)) (ty := (.array .int)) (C := RX3) (T := TX3) (N := 4) hx hb hts (mus hf_X3) tyX3 tyX3_ok nmX3 hown hK hP hD hS a (wld_o ct ad14 (xt G L12) M13 hc hk (by decide)) rfl 1 (by decide) (hts (.fieldLink RX3 13 "VideoSuite$Header" "move" "[I") (mu mw_621)) (fun _ h9 => h9) rfl hin rfl (by decide +kernel) (nar_q ad14 (Or.inr ⟨_, rfl⟩) (some c10)).1 (nar_q ad14 (Or.inr ⟨_, rfl⟩) (some c10)).2 (Nat.le_of_ble_eq_true rfl) dX3_init_17 (fun H locs hP hD hS => ?_)
  obtain ⟨M16, eM16, hF⟩ := ltt_some hF
  rw [set_oP ct ad14 (xt G L12) M13 hc hk (by decide) (by rfl), ← eM16] at hP hD
  refine lv_aload_n hx hb dX3_init_20 rfl (lv_at hl 0 rfl) ?_
  refine lv_bipush (v := (36 : Int32)) hx hb dX3_init_21 (by decide) ?_
  obtain ⟨hC17, hF⟩ := chkP_some hF
  obtain ⟨hz9, hF⟩ := chk_some hF
  obtain ⟨c18, ec18, hF⟩ := ltt_some hF
  obtain ⟨w19, hF, ew19⟩ := app_some hF
  obtain ⟨L20, eL20, hF⟩ := ltt_some hF
  have hT20 : y.1 = (L12 ++ [(13, ((36 : Int32)).toNatClampNeg)]) ++ w19.1 := by rw [hT, ew19]; simp only [List.append_assoc]
  obtain ⟨M21, eM21, hF⟩ := ltt_some hF
  refine new_i hx hb (hts (.arrayClass .int) (mu mw_266)) hK hP hD hS hA9 hz9.1 hz9.2 hC17 (room_1s hT20 hbl) dX3_init_23 (fun ad22 H hn23 hP hD hS => ?_)
  rw [← ec18, ← eL20, ← eM21] at hP hD
  refine W_cs (k := L20.length) (n := wt L20) (by rw [eL20]) (by rw [eL20]) ?_
  refine W_st (st' := [.ref (ad22 c18), .ref (ad14 a)]) (by rw [ec18]) ?_
  have hT : y.1 = L20 ++ w19.1 := by rw [hT20, eL20]
  have h2 : y.2 = w19.2 := by rw [h2, ew19]
  have hl := lv_sub (l' := [(0, .ref (ad14 a))]) hl [0] rfl
  have e9 : ([(0, .ref (ad14 a))] : List (Nat × Value)) = [(0, .ref (ad22 a))] := (by first | rfl | simp only [hn23 a hc])
  rw [e9] at hl
  clear e9
  refine W_st (st' := [.ref (ad22 c18), .ref (ad22 a)]) (by first | rfl | simp only [hn23 a hc]) ?_
  have hk : (xt G L20).2.1 a = 3 := by rw [eL20]; exact xt_k _ hc hk
  have hc : a < (xt G L20).1 := by rw [eL20]; exact xt_l _ hc
  have hk2 : (xt G L20).2.1 c2 = 13 := by rw [eL20]; exact xt_k _ hc2 hk2
  have hc2 : c2 < (xt G L20).1 := by rw [eL20]; exact xt_l _ hc2
  have hk10 : (xt G L20).2.1 c10 = 13 := by rw [eL20]; exact xt_k _ hc10 hk10
  have hc10 : c10 < (xt G L20).1 := by rw [eL20]; exact xt_l _ hc10
  have hag := agr_t (xt_ge _ _) hag hn23
  have hc18 : c18 < (xt G L20).1 := by rw [ec18, eL20]; exact cnt_new _ _ _
  have hk18 : (xt G L20).2.1 c18 = 13 := by rw [ec18, eL20]; exact (kind_new _ _ _ _).1
  refine va_putF (D := D) (ci := 3) (v := va_re ad22 (some c18)) (ty := (.array .int)) (C := RX3) (T := TX3) (N := 4) hx hb hts (mus hf_X3) tyX3 tyX3_ok nmX3 hown hK hP hD hS a (wld_o ct ad22 (xt G L20) M21 hc hk (by decide)) rfl 2 (by decide) (hts (.fieldLink RX3 16 "VideoSuite$Header" "op" "[I") (mu mw_624)) (fun _ h9 => h9) rfl hin rfl (by decide +kernel) (nar_q ad22 (Or.inr ⟨_, rfl⟩) (some c18)).1 (nar_q ad22 (Or.inr ⟨_, rfl⟩) (some c18)).2 (Nat.le_of_ble_eq_true rfl) dX3_init_25 (fun H locs hP hD hS => ?_)
  obtain ⟨M24, eM24, hF⟩ := ltt_some hF
  rw [set_oP ct ad22 (xt G L20) M21 hc hk (by decide) (by rfl), ← eM24] at hP hD
  refine lv_aload_n hx hb dX3_init_28 rfl (lv_at hl 0 rfl) ?_
  refine lv_bipush (v := (96 : Int32)) hx hb dX3_init_29 (by decide) ?_
  obtain ⟨hC25, hF⟩ := chkP_some hF
  obtain ⟨hz9, hF⟩ := chk_some hF
  obtain ⟨c26, ec26, hF⟩ := ltt_some hF
  obtain ⟨w27, hF, ew27⟩ := app_some hF
  obtain ⟨L28, eL28, hF⟩ := ltt_some hF
  have hT28 : y.1 = (L20 ++ [(13, ((96 : Int32)).toNatClampNeg)]) ++ w27.1 := by rw [hT, ew27]; simp only [List.append_assoc]
  obtain ⟨M29, eM29, hF⟩ := ltt_some hF
  refine new_i hx hb (hts (.arrayClass .int) (mu mw_266)) hK hP hD hS hA9 hz9.1 hz9.2 hC25 (room_1s hT28 hbl) dX3_init_31 (fun ad30 H hn31 hP hD hS => ?_)
  rw [← ec26, ← eL28, ← eM29] at hP hD
  refine W_cs (k := L28.length) (n := wt L28) (by rw [eL28]) (by rw [eL28]) ?_
  refine W_st (st' := [.ref (ad30 c26), .ref (ad22 a)]) (by rw [ec26]) ?_
  have hT : y.1 = L28 ++ w27.1 := by rw [hT28, eL28]
  have h2 : y.2 = w27.2 := by rw [h2, ew27]
  have hl := lv_sub (l' := []) hl [] rfl
  refine W_st (st' := [.ref (ad30 c26), .ref (ad30 a)]) (by first | rfl | simp only [hn31 a hc]) ?_
  have hk : (xt G L28).2.1 a = 3 := by rw [eL28]; exact xt_k _ hc hk
  have hc : a < (xt G L28).1 := by rw [eL28]; exact xt_l _ hc
  have hk2 : (xt G L28).2.1 c2 = 13 := by rw [eL28]; exact xt_k _ hc2 hk2
  have hc2 : c2 < (xt G L28).1 := by rw [eL28]; exact xt_l _ hc2
  have hk10 : (xt G L28).2.1 c10 = 13 := by rw [eL28]; exact xt_k _ hc10 hk10
  have hc10 : c10 < (xt G L28).1 := by rw [eL28]; exact xt_l _ hc10
  have hk18 : (xt G L28).2.1 c18 = 13 := by rw [eL28]; exact xt_k _ hc18 hk18
  have hc18 : c18 < (xt G L28).1 := by rw [eL28]; exact xt_l _ hc18
  have hag := agr_t (xt_ge _ _) hag hn31
  have hc26 : c26 < (xt G L28).1 := by rw [ec26, eL28]; exact cnt_new _ _ _
  have hk26 : (xt G L28).2.1 c26 = 13 := by rw [ec26, eL28]; exact (kind_new _ _ _ _).1
  refine va_putF (D := D) (ci := 3) (v := va_re ad30 (some c26)) (ty := (.array .int)) (C := RX3) (T := TX3) (N := 4) hx hb hts (mus hf_X3) tyX3 tyX3_ok nmX3 hown hK hP hD hS a (wld_o ct ad30 (xt G L28) M29 hc hk (by decide)) rfl 3 (by decide) (hts (.fieldLink RX3 19 "VideoSuite$Header" "weight" "[I") (mu mw_627)) (fun _ h9 => h9) rfl hin rfl (by decide +kernel) (nar_q ad30 (Or.inr ⟨_, rfl⟩) (some c26)).1 (nar_q ad30 (Or.inr ⟨_, rfl⟩) (some c26)).2 (Nat.le_of_ble_eq_true rfl) dX3_init_33 (fun H locs hP hD hS => ?_)
  obtain ⟨M32, eM32, hF⟩ := ltt_some hF
  rw [set_oP ct ad30 (xt G L28) M29 hc hk (by decide) (by rfl), ← eM32] at hP hD
  obtain rfl := Option.some.inj hF
  have e1 : y.1 = L28 := by rw [hT]; exact List.append_nil _
  have e2 : y.2 = M32 := h2
  refine W.widen (k := y.1.length) (n := wt y.1) (Nat.le_of_eq (by rw [e1])) (Nat.le_of_eq (by rw [e1])) ?_
  exact W.vret hx hb hr (fun t ht hW => ⟨⟨ad30, rfl, hag, (by unfold kE; rw [e1, e2]; exact ⟨by rw [ht]; exact hP, va_K.moved hW.alike hK, hD⟩)⟩, hS.F ht⟩) hS.2.2 dX3_init_36
theorem dX3_isOwn_0 : decode cX3_isOwn 0 = .ok (.aload_n 0, 1) := by decide +kernel
theorem dX3_isOwn_1 : decode cX3_isOwn 1 = .ok (.getfield 7, 3) := by decide +kernel
theorem dX3_isOwn_4 : decode cX3_isOwn 4 = .ok (.bipush 18, 2) := by decide +kernel
theorem dX3_isOwn_6 : decode cX3_isOwn 6 = .ok (.iaload, 1) := by decide +kernel
theorem dX3_isOwn_7 : decode cX3_isOwn 7 = .ok (.iconst 5, 1) := by decide +kernel
theorem dX3_isOwn_8 : decode cX3_isOwn 8 = .ok (.if_icmp .ne 7, 3) := by decide +kernel
theorem dX3_isOwn_11 : decode cX3_isOwn 11 = .ok (.iconst 1, 1) := by decide +kernel
theorem dX3_isOwn_12 : decode cX3_isOwn 12 = .ok (.goto 4, 3) := by decide +kernel
theorem dX3_isOwn_15 : decode cX3_isOwn 15 = .ok (.iconst 0, 1) := by decide +kernel
theorem dX3_isOwn_16 : decode cX3_isOwn 16 = .ok (.ireturn, 1) := by decide +kernel
def FX3_isOwn (G : GG) (M : DD) (a : Nat)  : Option (DD × Int32) :=
  dr G 13 ((M.2 a 0)) fun b1 =>
  chk (¬ (((18 : Int32)) < 0 ∨ G.2.2 b1 ≤ ((18 : Int32)).toNatClampNeg)) <|
  ltt (M.1 b1 ((18 : Int32)).toNatClampNeg) fun x2 =>
  bnd (if x2 = ((5 : Int32)) then (some ((1 : Int32))) else
  (some ((0 : Int32)))) fun (y3 : Int32) =>
  chk (y3 = 0 ∨ y3 = 1) <|
  some (M, y3)
set_option maxHeartbeats 4000000 in
set_option maxRecDepth 100000 in
theorem kX3_isOwn (l : Launch) (D : va_G) (ct : CT) (ad : Nat → Nat) (Z : Nat → Nat) (G : GG) (M : DD) (sz : Nat) (a : Nat)  (y : DD × Int32) (hc : a < G.1) (hk : G.2.1 a = 3) (hF : FX3_isOwn G M a  = some y) : Met l yX3_isOwn wuX3_isOwn ({ frames := 0, cells := 0, slots := 0, locals := 0 }) (va_Pc [.ref (ad a)] (kB D ct ad Z G M sz)) (va_Qi (fun (q : Int32) (_ : Unit) => q = y.2) (fun _ t => kE D ct ad G (wA ad G sz) y.1 t) (wA ad G sz)) 0 0 (wA ad G sz) := by
  refine Met.ofW (cc := cX3_isOwn) (maxL := 1) (ret := (some .boolean)) (by decide) rfl ?_
  intro p e s m args below meth c s₁ B hml hv
  obtain ⟨rfl, hsz, hP, hK, hD0, hZ, hN⟩ := hv
  have hx := B.exec
  have hb := B.bytes
  have hr := B.returns
  have hts := atoms_spec (ws := wuX3_isOwn) B.pre
  have hown : s.vm.findClass RX3 = some m.cls := findClass_of_methodNamed B.named
  have hlocks := B.notSynchronized
  subst hsz
  have hD := wD_self (sz := s.heap.size) hD0
  have hA9 : ∀ q, s.heap.size ≤ q → wA ad G s.heap.size q := fun q h => Or.inr h
  generalize hAe : wA ad G s.heap.size = A at hD hA9 hZ ⊢
  have hS : va_S A s.heap s.heap [] := va_S.rf
  have hl := lv_entry ([.ref (ad a)]) (n := 1) (Nat.le_of_ble_eq_true rfl)
  rw [lg_entry_eq]
  generalize (lg_sl ([.ref (ad a)]) ++ List.replicate (1 - (lg_sl ([.ref (ad a)])).length) Slot.unset).toArray = ls at hl ⊢
  have hl : lv_has ls 1 [(0, .ref (ad a))] := hl
  unfold FX3_isOwn at hF
  refine lv_aload_n hx hb dX3_isOwn_0 rfl (lv_at hl 0 rfl) ?_
  refine va_get (D := D) (ci := 3) (v := va_re ad (M.2 a 0)) (C := RX3) (T := TX3) (N := 4) hx hb hts (mus hf_X3) hown hK hP a (wld_o ct ad G M hc hk (by decide)) rfl 0 (by decide) (hts (.fieldLink RX3 7 "VideoSuite$Header" "v" "[I") (mu mw_615)) (fun _ h9 => h9) rfl dX3_isOwn_1 ?_
  refine lv_bipush (v := (18 : Int32)) hx hb dX3_isOwn_4 (by decide) ?_
  obtain ⟨b1, ho1, hc1, hk1, hF⟩ := dr_some hF
  refine W_st (st' := [.int (18 : Int32), .ref (ad b1)]) (by rw [va_some ho1]) ?_
  obtain ⟨hvc, hF⟩ := chk_some hF
  refine va_iald hx hb hK hP b1 1 (wld_i ct ad G M hc1 hk1) rfl hvc dX3_isOwn_6 ?_
  obtain ⟨x2, ex2, hF⟩ := ltt_some hF
  refine lv_topi (fun zx2 ezx2 => ?_)
  obtain rfl : x2 = zx2 := ex2.trans ezx2.symm
  refine lv_iconst (v := (5 : Int32)) hx hb dX3_isOwn_7 (by decide) ?_
  obtain ⟨y3, hy3, hF⟩ := bnd_some hF
  have J3 : ∀ (H : Heap) (locs : List Loc) (ls : Array Slot), va_P D classes (wld ct ad G M) H → va_D A (wld ct ad G M) → va_S A s.heap H locs → lv_has ls 1 [(0, .ref (ad a))] → W p l e (headSpec wuX3_isOwn ({ frames := 0, cells := 0, slots := 0, locals := 0 })).room s m ([.ref (ad a)] : List Value).toArray below meth c H locs 0 0 (MQ below (va_Qi (fun (q : Int32) (_ : Unit) => q = y.2) (fun _ t => kE D ct ad G A y.1 t) A) ([.ref (ad a)] : List Value).toArray s 0 0 A) (F0 m 16 ls [.int y3]) := by
    intro H locs ls hP hD hS hl
    obtain ⟨hz9, hF⟩ := chk_some hF
    obtain rfl := Option.some.inj hF
    exact W.zret (v := y3) (ty := .boolean) hx hb hr (nar_z hz9).1 (fun t ht hW => ⟨⟨_, (), rfl, rfl, ⟨by rw [ht]; exact hP, va_K.moved hW.alike hK, hD⟩⟩, hS.F ht⟩) hS.2.2 dX3_isOwn_16
  clear hF
  have hF := hy3
  clear hy3
  refine lv_icmp_ne (tgt := 15) hx hb dX3_isOwn_8 (by decide) (fun c4 => ?_) (fun c4 => ?_)
  · rw [if_neg c4] at hF
    refine lv_iconst (v := (0 : Int32)) hx hb dX3_isOwn_15 (by decide) ?_
    obtain rfl := Option.some.inj hF
    exact J3 _ _ _ hP hD hS (lv_sub hl [0] rfl)
  · rw [if_pos c4] at hF
    refine lv_iconst (v := (1 : Int32)) hx hb dX3_isOwn_11 (by decide) ?_
    refine lv_goto (tgt := 16) hx hb dX3_isOwn_12 (by decide) ?_
    obtain rfl := Option.some.inj hF
    exact J3 _ _ _ hP hD hS (lv_sub hl [0] rfl)
theorem dX3_weightAt_0 : decode cX3_weightAt 0 = .ok (.iconst 2, 1) := by decide +kernel
theorem dX3_weightAt_1 : decode cX3_weightAt 1 = .ok (.iconst 3, 1) := by decide +kernel
theorem dX3_weightAt_2 : decode cX3_weightAt 2 = .ok (.bipush 8, 2) := by decide +kernel
theorem dX3_weightAt_4 : decode cX3_weightAt 4 = .ok (.iload_n 0, 1) := by decide +kernel
theorem dX3_weightAt_5 : decode cX3_weightAt 5 = .ok (.imul, 1) := by decide +kernel
theorem dX3_weightAt_6 : decode cX3_weightAt 6 = .ok (.iload_n 1, 1) := by decide +kernel
theorem dX3_weightAt_7 : decode cX3_weightAt 7 = .ok (.iadd, 1) := by decide +kernel
theorem dX3_weightAt_8 : decode cX3_weightAt 8 = .ok (.imul, 1) := by decide +kernel
theorem dX3_weightAt_9 : decode cX3_weightAt 9 = .ok (.iload_n 2, 1) := by decide +kernel
theorem dX3_weightAt_10 : decode cX3_weightAt 10 = .ok (.iadd, 1) := by decide +kernel
theorem dX3_weightAt_11 : decode cX3_weightAt 11 = .ok (.imul, 1) := by decide +kernel
theorem dX3_weightAt_12 : decode cX3_weightAt 12 = .ok (.ireturn, 1) := by decide +kernel
def FX3_weightAt (G : GG) (M : DD) (p0 : Int32) (p1 : Int32) (p2 : Int32) : Option (DD × Int32) :=
  ltt ((((8 : Int32)) * p0)) fun x1 =>
  ltt ((x1 + p1)) fun x2 =>
  ltt ((((3 : Int32)) * x2)) fun x3 =>
  ltt ((x3 + p2)) fun x4 =>
  ltt ((((2 : Int32)) * x4)) fun x5 =>
  some (M, x5)
set_option maxHeartbeats 4000000 in
set_option maxRecDepth 100000 in
theorem kX3_weightAt (l : Launch) (D : va_G) (ct : CT) (ad : Nat → Nat) (Z : Nat → Nat) (G : GG) (M : DD) (sz : Nat) (p0 : Int32) (p1 : Int32) (p2 : Int32) (y : DD × Int32) (hF : FX3_weightAt G M p0 p1 p2 = some y) : Met l yX3_weightAt wuX3_weightAt ({ frames := 0, cells := 0, slots := 0, locals := 0 }) (va_Pc [.int p0, .int p1, .int p2] (kB D ct ad Z G M sz)) (va_Qi (fun (q : Int32) (_ : Unit) => q = y.2) (fun _ t => kE D ct ad G (wA ad G sz) y.1 t) (wA ad G sz)) 0 0 (wA ad G sz) := by
  refine Met.ofW (cc := cX3_weightAt) (maxL := 3) (ret := (some .int)) (by decide) rfl ?_
  intro p e s m args below meth c s₁ B hml hv
  obtain ⟨rfl, hsz, hP, hK, hD0, hZ, hN⟩ := hv
  have hx := B.exec
  have hb := B.bytes
  have hr := B.returns
  have hts := atoms_spec (ws := wuX3_weightAt) B.pre
  have hown : s.vm.findClass RX3 = some m.cls := findClass_of_methodNamed B.named
  have hlocks := B.notSynchronized
  subst hsz
  have hD := wD_self (sz := s.heap.size) hD0
  have hA9 : ∀ q, s.heap.size ≤ q → wA ad G s.heap.size q := fun q h => Or.inr h
  generalize hAe : wA ad G s.heap.size = A at hD hA9 hZ ⊢
  have hS : va_S A s.heap s.heap [] := va_S.rf
  have hl := lv_entry ([.int p0, .int p1, .int p2]) (n := 3) (Nat.le_of_ble_eq_true rfl)
  rw [lg_entry_eq]
  generalize (lg_sl ([.int p0, .int p1, .int p2]) ++ List.replicate (3 - (lg_sl ([.int p0, .int p1, .int p2])).length) Slot.unset).toArray = ls at hl ⊢
  have hl : lv_has ls 3 [(0, .int p0), (1, .int p1), (2, .int p2)] := hl
  unfold FX3_weightAt at hF
  refine lv_iconst (v := (2 : Int32)) hx hb dX3_weightAt_0 (by decide) ?_
  refine lv_iconst (v := (3 : Int32)) hx hb dX3_weightAt_1 (by decide) ?_
  refine lv_bipush (v := (8 : Int32)) hx hb dX3_weightAt_2 (by decide) ?_
  refine lv_iload_n hx hb dX3_weightAt_4 rfl (lv_at hl 0 rfl) ?_
  refine lv_imul hx hb dX3_weightAt_5 ?_
  obtain ⟨x1, ex1, hF⟩ := ltt_some hF
  refine lv_topi (fun zx1 ezx1 => ?_)
  obtain rfl : x1 = zx1 := ex1.trans ezx1.symm
  refine lv_iload_n hx hb dX3_weightAt_6 rfl (lv_at hl 1 rfl) ?_
  refine lv_iadd hx hb dX3_weightAt_7 ?_
  obtain ⟨x2, ex2, hF⟩ := ltt_some hF
  refine lv_topi (fun zx2 ezx2 => ?_)
  obtain rfl : x2 = zx2 := ex2.trans ezx2.symm
  refine lv_imul hx hb dX3_weightAt_8 ?_
  obtain ⟨x3, ex3, hF⟩ := ltt_some hF
  refine lv_topi (fun zx3 ezx3 => ?_)
  obtain rfl : x3 = zx3 := ex3.trans ezx3.symm
  refine lv_iload_n hx hb dX3_weightAt_9 rfl (lv_at hl 2 rfl) ?_
  refine lv_iadd hx hb dX3_weightAt_10 ?_
  obtain ⟨x4, ex4, hF⟩ := ltt_some hF
  refine lv_topi (fun zx4 ezx4 => ?_)
  obtain rfl : x4 = zx4 := ex4.trans ezx4.symm
  refine lv_imul hx hb dX3_weightAt_11 ?_
  obtain ⟨x5, ex5, hF⟩ := ltt_some hF
  refine lv_topi (fun zx5 ezx5 => ?_)
  obtain rfl : x5 = zx5 := ex5.trans ezx5.symm
  obtain rfl := Option.some.inj hF
  exact W.iret (v := x5) hx hb hr (fun t ht hW => ⟨⟨_, (), rfl, rfl, ⟨by rw [ht]; exact hP, va_K.moved hW.alike hK, hD⟩⟩, hS.F ht⟩) hS.2.2 dX3_weightAt_12
theorem dX4_at_0 : decode cX4_at 0 = .ok (.sipush 512, 3) := by decide +kernel
theorem dX4_at_3 : decode cX4_at 3 = .ok (.iload_n 0, 1) := by decide +kernel
theorem dX4_at_4 : decode cX4_at 4 = .ok (.imul, 1) := by decide +kernel
theorem dX4_at_5 : decode cX4_at 5 = .ok (.iload_n 1, 1) := by decide +kernel
theorem dX4_at_6 : decode cX4_at 6 = .ok (.iadd, 1) := by decide +kernel
theorem dX4_at_7 : decode cX4_at 7 = .ok (.ireturn, 1) := by decide +kernel
def FX4_at (G : GG) (M : DD) (p0 : Int32) (p1 : Int32) : Option (DD × Int32) :=
  ltt ((((512 : Int32)) * p0)) fun x1 =>
  ltt ((x1 + p1)) fun x2 =>
  some (M, x2)
set_option maxHeartbeats 4000000 in
set_option maxRecDepth 100000 in
theorem kX4_at (l : Launch) (D : va_G) (ct : CT) (ad : Nat → Nat) (Z : Nat → Nat) (G : GG) (M : DD) (sz : Nat) (p0 : Int32) (p1 : Int32) (y : DD × Int32) (hF : FX4_at G M p0 p1 = some y) : Met l yX4_at wuX4_at ({ frames := 0, cells := 0, slots := 0, locals := 0 }) (va_Pc [.int p0, .int p1] (kB D ct ad Z G M sz)) (va_Qi (fun (q : Int32) (_ : Unit) => q = y.2) (fun _ t => kE D ct ad G (wA ad G sz) y.1 t) (wA ad G sz)) 0 0 (wA ad G sz) := by
  refine Met.ofW (cc := cX4_at) (maxL := 2) (ret := (some .int)) (by decide) rfl ?_
  intro p e s m args below meth c s₁ B hml hv
  obtain ⟨rfl, hsz, hP, hK, hD0, hZ, hN⟩ := hv
  have hx := B.exec
  have hb := B.bytes
  have hr := B.returns
  have hts := atoms_spec (ws := wuX4_at) B.pre
  have hown : s.vm.findClass RX4 = some m.cls := findClass_of_methodNamed B.named
  have hlocks := B.notSynchronized
  subst hsz
  have hD := wD_self (sz := s.heap.size) hD0
  have hA9 : ∀ q, s.heap.size ≤ q → wA ad G s.heap.size q := fun q h => Or.inr h
  generalize hAe : wA ad G s.heap.size = A at hD hA9 hZ ⊢
  have hS : va_S A s.heap s.heap [] := va_S.rf
  have hl := lv_entry ([.int p0, .int p1]) (n := 2) (Nat.le_of_ble_eq_true rfl)
  rw [lg_entry_eq]
  generalize (lg_sl ([.int p0, .int p1]) ++ List.replicate (2 - (lg_sl ([.int p0, .int p1])).length) Slot.unset).toArray = ls at hl ⊢
  have hl : lv_has ls 2 [(0, .int p0), (1, .int p1)] := hl
  unfold FX4_at at hF
  refine lv_sipush (v := (512 : Int32)) hx hb dX4_at_0 (by decide) ?_
  refine lv_iload_n hx hb dX4_at_3 rfl (lv_at hl 0 rfl) ?_
  refine lv_imul hx hb dX4_at_4 ?_
  obtain ⟨x1, ex1, hF⟩ := ltt_some hF
  refine lv_topi (fun zx1 ezx1 => ?_)
  obtain rfl : x1 = zx1 := ex1.trans ezx1.symm
  refine lv_iload_n hx hb dX4_at_5 rfl (lv_at hl 1 rfl) ?_
  refine lv_iadd hx hb dX4_at_6 ?_
  obtain ⟨x2, ex2, hF⟩ := ltt_some hF
  refine lv_topi (fun zx2 ezx2 => ?_)
  obtain rfl : x2 = zx2 := ex2.trans ezx2.symm
  obtain rfl := Option.some.inj hF
  exact W.iret (v := x2) hx hb hr (fun t ht hW => ⟨⟨_, (), rfl, rfl, ⟨by rw [ht]; exact hP, va_K.moved hW.alike hK, hD⟩⟩, hS.F ht⟩) hS.2.2 dX4_at_7
set_option maxRecDepth 20000 in
theorem gX4_become_J7_fill_53178 : GoodIn wuX4_become (va_wsS RX4 39 yJ7_fill_53178 wuJ7_fill_53178) := gu_S mw_1527 mw_1125 mw_182 mw_1126
theorem dX4_become_0 : decode cX4_become 0 = .ok (.aload_n 0, 1) := by decide +kernel
theorem dX4_become_1 : decode cX4_become 1 = .ok (.iload_n 1, 1) := by decide +kernel
theorem dX4_become_2 : decode cX4_become 2 = .ok (.putfield 29, 3) := by decide +kernel
theorem dX4_become_5 : decode cX4_become 5 = .ok (.aload_n 0, 1) := by decide +kernel
theorem dX4_become_6 : decode cX4_become 6 = .ok (.iload_n 2, 1) := by decide +kernel
theorem dX4_become_7 : decode cX4_become 7 = .ok (.putfield 33, 3) := by decide +kernel
theorem dX4_become_10 : decode cX4_become 10 = .ok (.aload_n 0, 1) := by decide +kernel
theorem dX4_become_11 : decode cX4_become 11 = .ok (.iload_n 3, 1) := by decide +kernel
theorem dX4_become_12 : decode cX4_become 12 = .ok (.putfield 36, 3) := by decide +kernel
theorem dX4_become_15 : decode cX4_become 15 = .ok (.sipush 256, 3) := by decide +kernel
theorem dX4_become_18 : decode cX4_become 18 = .ok (.iload_n 2, 1) := by decide +kernel
theorem dX4_become_19 : decode cX4_become 19 = .ok (.imul, 1) := by decide +kernel
theorem dX4_become_20 : decode cX4_become 20 = .ok (.iload_n 3, 1) := by decide +kernel
theorem dX4_become_21 : decode cX4_become 21 = .ok (.imul, 1) := by decide +kernel
theorem dX4_become_22 : decode cX4_become 22 = .ok (.istore 4, 2) := by decide +kernel
theorem dX4_become_24 : decode cX4_become 24 = .ok (.aload_n 0, 1) := by decide +kernel
theorem dX4_become_25 : decode cX4_become 25 = .ok (.getfield 17, 3) := by decide +kernel
theorem dX4_become_28 : decode cX4_become 28 = .ok (.iconst 0, 1) := by decide +kernel
theorem dX4_become_29 : decode cX4_become 29 = .ok (.aaload, 1) := by decide +kernel
theorem dX4_become_30 : decode cX4_become 30 = .ok (.arraylength, 1) := by decide +kernel
theorem dX4_become_31 : decode cX4_become 31 = .ok (.iload 4, 2) := by decide +kernel
theorem dX4_become_33 : decode cX4_become 33 = .ok (.if_icmp .ge 57, 3) := by decide +kernel
theorem dX4_become_36 : decode cX4_become 36 = .ok (.aload_n 0, 1) := by decide +kernel
theorem dX4_become_37 : decode cX4_become 37 = .ok (.getfield 17, 3) := by decide +kernel
theorem dX4_become_40 : decode cX4_become 40 = .ok (.iconst 0, 1) := by decide +kernel
theorem dX4_become_41 : decode cX4_become 41 = .ok (.aaload, 1) := by decide +kernel
theorem dX4_become_42 : decode cX4_become 42 = .ok (.arraylength, 1) := by decide +kernel
theorem dX4_become_43 : decode cX4_become 43 = .ok (.ifCond .ne 8, 3) := by decide +kernel
theorem dX4_become_46 : decode cX4_become 46 = .ok (.iload 4, 2) := by decide +kernel
theorem dX4_become_48 : decode cX4_become 48 = .ok (.goto 6, 3) := by decide +kernel
theorem dX4_become_51 : decode cX4_become 51 = .ok (.sipush 8192, 3) := by decide +kernel
theorem dX4_become_54 : decode cX4_become 54 = .ok (.istore 5, 2) := by decide +kernel
theorem dX4_become_56 : decode cX4_become 56 = .ok (.aload_n 0, 1) := by decide +kernel
theorem dX4_become_57 : decode cX4_become 57 = .ok (.getfield 17, 3) := by decide +kernel
theorem dX4_become_60 : decode cX4_become 60 = .ok (.iconst 0, 1) := by decide +kernel
theorem dX4_become_61 : decode cX4_become 61 = .ok (.iload 5, 2) := by decide +kernel
theorem dX4_become_63 : decode cX4_become 63 = .ok (.newarray .int, 2) := by decide +kernel
theorem dX4_become_65 : decode cX4_become 65 = .ok (.aastore, 1) := by decide +kernel
theorem dX4_become_66 : decode cX4_become 66 = .ok (.aload_n 0, 1) := by decide +kernel
theorem dX4_become_67 : decode cX4_become 67 = .ok (.getfield 17, 3) := by decide +kernel
theorem dX4_become_70 : decode cX4_become 70 = .ok (.iconst 1, 1) := by decide +kernel
theorem dX4_become_71 : decode cX4_become 71 = .ok (.iload 5, 2) := by decide +kernel
theorem dX4_become_73 : decode cX4_become 73 = .ok (.iconst 4, 1) := by decide +kernel
theorem dX4_become_74 : decode cX4_become 74 = .ok (.idiv, 1) := by decide +kernel
theorem dX4_become_75 : decode cX4_become 75 = .ok (.newarray .int, 2) := by decide +kernel
theorem dX4_become_77 : decode cX4_become 77 = .ok (.aastore, 1) := by decide +kernel
theorem dX4_become_78 : decode cX4_become 78 = .ok (.aload_n 0, 1) := by decide +kernel
theorem dX4_become_79 : decode cX4_become 79 = .ok (.getfield 17, 3) := by decide +kernel
theorem dX4_become_82 : decode cX4_become 82 = .ok (.iconst 2, 1) := by decide +kernel
theorem dX4_become_83 : decode cX4_become 83 = .ok (.iload 5, 2) := by decide +kernel
theorem dX4_become_85 : decode cX4_become 85 = .ok (.iconst 4, 1) := by decide +kernel
theorem dX4_become_86 : decode cX4_become 86 = .ok (.idiv, 1) := by decide +kernel
theorem dX4_become_87 : decode cX4_become 87 = .ok (.newarray .int, 2) := by decide +kernel
theorem dX4_become_89 : decode cX4_become 89 = .ok (.aastore, 1) := by decide +kernel
theorem dX4_become_90 : decode cX4_become 90 = .ok (.aload_n 0, 1) := by decide +kernel
theorem dX4_become_91 : decode cX4_become 91 = .ok (.getfield 9, 3) := by decide +kernel
theorem dX4_become_94 : decode cX4_become 94 = .ok (.iconst 0, 1) := by decide +kernel
theorem dX4_become_95 : decode cX4_become 95 = .ok (.invokestatic 39, 3) := by decide +kernel
theorem dX4_become_98 : decode cX4_become 98 = .ok (.aload_n 0, 1) := by decide +kernel
theorem dX4_become_99 : decode cX4_become 99 = .ok (.getfield 20, 3) := by decide +kernel
theorem dX4_become_102 : decode cX4_become 102 = .ok (.iconst (-1), 1) := by decide +kernel
theorem dX4_become_103 : decode cX4_become 103 = .ok (.invokestatic 39, 3) := by decide +kernel
theorem dX4_become_106 : decode cX4_become 106 = .ok (.aload_n 0, 1) := by decide +kernel
theorem dX4_become_107 : decode cX4_become 107 = .ok (.getfield 23, 3) := by decide +kernel
theorem dX4_become_110 : decode cX4_become 110 = .ok (.iconst 0, 1) := by decide +kernel
theorem dX4_become_111 : decode cX4_become 111 = .ok (.invokestatic 39, 3) := by decide +kernel
theorem dX4_become_114 : decode cX4_become 114 = .ok (.aload_n 0, 1) := by decide +kernel
theorem dX4_become_115 : decode cX4_become 115 = .ok (.getfield 26, 3) := by decide +kernel
theorem dX4_become_118 : decode cX4_become 118 = .ok (.iconst 0, 1) := by decide +kernel
theorem dX4_become_119 : decode cX4_become 119 = .ok (.invokestatic 39, 3) := by decide +kernel
theorem dX4_become_122 : decode cX4_become 122 = .ok (.aload_n 0, 1) := by decide +kernel
theorem dX4_become_123 : decode cX4_become 123 = .ok (.iconst 0, 1) := by decide +kernel
theorem dX4_become_124 : decode cX4_become 124 = .ok (.putfield 45, 3) := by decide +kernel
theorem dX4_become_127 : decode cX4_become 127 = .ok (.aload_n 0, 1) := by decide +kernel
theorem dX4_become_128 : decode cX4_become 128 = .ok (.iconst 0, 1) := by decide +kernel
theorem dX4_become_129 : decode cX4_become 129 = .ok (.putfield 48, 3) := by decide +kernel
theorem dX4_become_132 : decode cX4_become 132 = .ok (.aload_n 0, 1) := by decide +kernel
theorem dX4_become_133 : decode cX4_become 133 = .ok (.iconst 0, 1) := by decide +kernel
theorem dX4_become_134 : decode cX4_become 134 = .ok (.putfield 51, 3) := by decide +kernel
theorem dX4_become_137 : decode cX4_become 137 = .ok (.aload_n 0, 1) := by decide +kernel
theorem dX4_become_138 : decode cX4_become 138 = .ok (.iconst (-1), 1) := by decide +kernel
theorem dX4_become_139 : decode cX4_become 139 = .ok (.putfield 54, 3) := by decide +kernel
theorem dX4_become_142 : decode cX4_become 142 = .ok (.aload_n 0, 1) := by decide +kernel
theorem dX4_become_143 : decode cX4_become 143 = .ok (.iconst 0, 1) := by decide +kernel
theorem dX4_become_144 : decode cX4_become 144 = .ok (.putfield 57, 3) := by decide +kernel
theorem dX4_become_147 : decode cX4_become 147 = .ok (.aload_n 0, 1) := by decide +kernel
theorem dX4_become_148 : decode cX4_become 148 = .ok (.iconst 0, 1) := by decide +kernel
theorem dX4_become_149 : decode cX4_become 149 = .ok (.putfield 61, 3) := by decide +kernel
theorem dX4_become_152 : decode cX4_become 152 = .ok (.aload_n 0, 1) := by decide +kernel
theorem dX4_become_153 : decode cX4_become 153 = .ok (.iconst 1, 1) := by decide +kernel
theorem dX4_become_154 : decode cX4_become 154 = .ok (.putfield 64, 3) := by decide +kernel
theorem dX4_become_157 : decode cX4_become 157 = .ok (.aload_n 0, 1) := by decide +kernel
theorem dX4_become_158 : decode cX4_become 158 = .ok (.iconst (-1), 1) := by decide +kernel
theorem dX4_become_159 : decode cX4_become 159 = .ok (.putfield 67, 3) := by decide +kernel
theorem dX4_become_162 : decode cX4_become 162 = .ok (.aload_n 0, 1) := by decide +kernel
theorem dX4_become_163 : decode cX4_become 163 = .ok (.iconst 0, 1) := by decide +kernel
theorem dX4_become_164 : decode cX4_become 164 = .ok (.putfield 70, 3) := by decide +kernel
theorem dX4_become_167 : decode cX4_become 167 = .ok (.aload_n 0, 1) := by decide +kernel
theorem dX4_become_168 : decode cX4_become 168 = .ok (.iconst 0, 1) := by decide +kernel
theorem dX4_become_169 : decode cX4_become 169 = .ok (.putfield 73, 3) := by decide +kernel
theorem dX4_become_172 : decode cX4_become 172 = .ok (.return_, 1) := by decide +kernel
noncomputable def FX4_become (G : GG) (M : DD) (a : Nat) (p0 : Int32) (p1 : Int32) (p2 : Int32) : Option (NN × DD) :=
  ltt (uI M a 0 p0) fun M1 =>
  ltt (uI M1 a 1 p1) fun M2 =>
  ltt (uI M2 a 2 p2) fun M3 =>
  ltt ((((256 : Int32)) * p1)) fun x4 =>
  ltt ((x4 * p2)) fun x5 =>
  dr (xt G []) 15 ((M3.2 a 4)) fun b6 =>
  chk (¬ (((0 : Int32)) < 0 ∨ (xt G []).2.2 b6 ≤ ((0 : Int32)).toNatClampNeg)) <|
  dr (xt G []) 13 ((M3.2 b6 ((0 : Int32)).toNatClampNeg)) fun b7 =>
  ltt (Int32.ofNat ((xt G []).2.2 b7)) fun x8 =>
  bnd (if x5 ≤ x8 then (some ([], M3)) else
  (chk (¬ (((0 : Int32)) < 0 ∨ (xt G []).2.2 b6 ≤ ((0 : Int32)).toNatClampNeg)) <|
  ltt (Int32.ofNat ((xt G []).2.2 b7)) fun x29 =>
  bnd (if x29 = ((0 : Int32)) then (some (x5)) else
  (some ((8192 : Int32)))) fun (y30 : Int32) =>
  chkP (Clo (xt G []) M3) <|
  chk (¬ y30 < 0 ∧ y30.toNatClampNeg * 4 ≤ 536870912) <|
  chk (okd (xt G []) ((M3.2 a 4)) = true) <|
  ltt ((xt G []).1) fun c33 =>
  app [(13, y30.toNatClampNeg)] <|
  ltt ([] ++ [(13, y30.toNatClampNeg)]) fun L35 =>
  ltt (rO M3 c33) fun M36 =>
  chk (¬ (((0 : Int32)) < 0 ∨ (xt G L35).2.2 b6 ≤ ((0 : Int32)).toNatClampNeg)) <|
  ltt (uP M36 b6 ((0 : Int32)).toNatClampNeg (some c33)) fun M39 =>
  ltt (y30 / ((4 : Int32))) fun x40 =>
  chkP (Clo (xt G L35) M39) <|
  chk (¬ x40 < 0 ∧ x40.toNatClampNeg * 4 ≤ 536870912) <|
  chk (okd (xt G L35) ((M39.2 a 4)) = true) <|
  ltt ((xt G L35).1) fun c43 =>
  app [(13, x40.toNatClampNeg)] <|
  ltt (L35 ++ [(13, x40.toNatClampNeg)]) fun L45 =>
  ltt (rO M39 c43) fun M46 =>
  dr (xt G L45) 15 ((M39.2 a 4)) fun b49 =>
  chk (¬ (((1 : Int32)) < 0 ∨ (xt G L45).2.2 b49 ≤ ((1 : Int32)).toNatClampNeg)) <|
  ltt (uP M46 b49 ((1 : Int32)).toNatClampNeg (some c43)) fun M50 =>
  ltt (y30 / ((4 : Int32))) fun x51 =>
  chkP (Clo (xt G L45) M50) <|
  chk (¬ x51 < 0 ∧ x51.toNatClampNeg * 4 ≤ 536870912) <|
  chk (okd (xt G L45) ((M50.2 a 4)) = true) <|
  ltt ((xt G L45).1) fun c54 =>
  app [(13, x51.toNatClampNeg)] <|
  ltt (L45 ++ [(13, x51.toNatClampNeg)]) fun L56 =>
  ltt (rO M50 c54) fun M57 =>
  dr (xt G L56) 15 ((M50.2 a 4)) fun b60 =>
  chk (¬ (((2 : Int32)) < 0 ∨ (xt G L56).2.2 b60 ≤ ((2 : Int32)).toNatClampNeg)) <|
  ltt (uP M57 b60 ((2 : Int32)).toNatClampNeg (some c54)) fun M61 =>
  some ([], M61))) fun (y9 : NN × DD) =>
  app y9.1 <|
  ltt ([] ++ y9.1) fun L11 =>
  bnd (FJ7_fill_53178 (xt G L11) y9.2 ((y9.2.2 a 3)) ((0 : Int32))) fun y13 =>
  bnd (FJ7_fill_53178 (xt G L11) y13 ((y13.2 a 5)) ((-1 : Int32))) fun y14 =>
  bnd (FJ7_fill_53178 (xt G L11) y14 ((y14.2 a 6)) ((0 : Int32))) fun y15 =>
  bnd (FJ7_fill_53178 (xt G L11) y15 ((y15.2 a 7)) ((0 : Int32))) fun y16 =>
  ltt (uI y16 a 8 ((0 : Int32))) fun M17 =>
  ltt (uI M17 a 9 ((0 : Int32))) fun M18 =>
  ltt (uI M18 a 10 ((0 : Int32))) fun M19 =>
  ltt (uI M19 a 11 ((-1 : Int32))) fun M20 =>
  chk (((0 : Int32)) = 0 ∨ ((0 : Int32)) = 1) <|
  ltt (uI M20 a 12 ((0 : Int32))) fun M21 =>
  chk (((0 : Int32)) = 0 ∨ ((0 : Int32)) = 1) <|
  ltt (uI M21 a 13 ((0 : Int32))) fun M22 =>
  chk (((1 : Int32)) = 0 ∨ ((1 : Int32)) = 1) <|
  ltt (uI M22 a 14 ((1 : Int32))) fun M23 =>
  ltt (uI M23 a 15 ((-1 : Int32))) fun M24 =>
  ltt (uI M24 a 16 ((0 : Int32))) fun M25 =>
  ltt (uI M25 a 17 ((0 : Int32))) fun M26 =>
  some ([], M26)
set_option maxHeartbeats 4000000 in
set_option maxRecDepth 100000 in
theorem kX4_become (l : Launch) (D : va_G) (ct : CT) (ad : Nat → Nat) (Z : Nat → Nat) (G : GG) (M : DD) (sz : Nat) (a : Nat) (p0 : Int32) (p1 : Int32) (p2 : Int32) (y : NN × DD) (hc : a < G.1) (hk : G.2.1 a = 4) (hF : FX4_become G M a p0 p1 p2 = some y) : Met l yX4_become wuX4_become ({ frames := 1, cells := y.1.length, slots := wt y.1, locals := 23 }) (va_Pc [.ref (ad a), .int p0, .int p1, .int p2] (kB D ct ad Z G M sz)) (va_Qv (fun (u : Nat → Nat) => agr G.1 ad u) (fun u t => kE D ct u (xt G y.1) (wA ad G sz) y.2 t) (wA ad G sz)) y.1.length (wt y.1) (wA ad G sz) := by
  refine Met.ofW (cc := cX4_become) (maxL := 6) (ret := none) (by decide) rfl ?_
  intro p e s m args below meth c s₁ B hml hv
  obtain ⟨rfl, hsz, hP, hK, hD0, hZ, hN⟩ := hv
  have hx := B.exec
  have hb := B.bytes
  have hr := B.returns
  have hts := atoms_spec (ws := wuX4_become) B.pre
  have hown : s.vm.findClass RX4 = some m.cls := findClass_of_methodNamed B.named
  have hlocks := B.notSynchronized
  subst hsz
  have hD := wD_self (sz := s.heap.size) hD0
  have hA9 : ∀ q, s.heap.size ≤ q → wA ad G s.heap.size q := fun q h => Or.inr h
  generalize hAe : wA ad G s.heap.size = A at hD hA9 hZ ⊢
  have hS : va_S A s.heap s.heap [] := va_S.rf
  have hl := lv_entry ([.ref (ad a), .int p0, .int p1, .int p2]) (n := 6) (Nat.le_of_ble_eq_true rfl)
  rw [lg_entry_eq]
  generalize (lg_sl ([.ref (ad a), .int p0, .int p1, .int p2]) ++ List.replicate (6 - (lg_sl ([.ref (ad a), .int p0, .int p1, .int p2])).length) Slot.unset).toArray = ls at hl ⊢
  have hl : lv_has ls 6 [(0, .ref (ad a)), (1, .int p0), (2, .int p1), (3, .int p2)] := hl
  unfold FX4_become at hF
  rw [← wld_0 ct ad G M] at hP hD
  have hk := xt_k0 hc hk
  have hc := xt_l0 hc
  have hag := agr_rf G.1 ad
  obtain ⟨w0, hw0⟩ : ∃ z, z = y := ⟨_, rfl⟩
  rw [← hw0] at hF
  have hT : y.1 = [] ++ w0.1 := by rw [hw0]; rfl
  have h2 : y.2 = w0.2 := by rw [hw0]
  have hbl : y.1.length ≤ y.1.length ∧ wt y.1 ≤ wt y.1 := ⟨Nat.le_refl _, Nat.le_refl _⟩
  refine lv_aload_n hx hb dX4_become_0 rfl (lv_at hl 0 rfl) ?_
  refine lv_iload_n hx hb dX4_become_1 rfl (lv_at hl 1 rfl) ?_
  refine va_put (D := D) (ci := 4) (v := .int p0) (ty := .int) (C := RX4) (T := TX4) (N := 18) hx hb hts (mus hf_X4) tyX4 tyX4_ok nmX4 hown hK hP hD hS a (wld_o ct ad (xt G []) M hc hk (by decide)) rfl 0 (by decide) (hts (.fieldLink RX4 29 "VideoSuite$Picture" "id" "I") (mu mw_1418)) (fun _ h9 => h9) rfl (by decide +kernel) rfl rfl (Nat.le_of_ble_eq_true rfl) dX4_become_2 (fun H locs hP hD hS => ?_)
  obtain ⟨M1, eM1, hF⟩ := ltt_some hF
  rw [set_oI ct ad (xt G []) M hc hk (by decide) (by rfl), ← eM1] at hP hD
  refine lv_aload_n hx hb dX4_become_5 rfl (lv_at hl 0 rfl) ?_
  refine lv_iload_n hx hb dX4_become_6 rfl (lv_at hl 2 rfl) ?_
  refine va_put (D := D) (ci := 4) (v := .int p1) (ty := .int) (C := RX4) (T := TX4) (N := 18) hx hb hts (mus hf_X4) tyX4 tyX4_ok nmX4 hown hK hP hD hS a (wld_o ct ad (xt G []) M1 hc hk (by decide)) rfl 1 (by decide) (hts (.fieldLink RX4 33 "VideoSuite$Picture" "width" "I") (mu mw_1421)) (fun _ h9 => h9) rfl (by decide +kernel) rfl rfl (Nat.le_of_ble_eq_true rfl) dX4_become_7 (fun H locs hP hD hS => ?_)
  obtain ⟨M2, eM2, hF⟩ := ltt_some hF
  rw [set_oI ct ad (xt G []) M1 hc hk (by decide) (by rfl), ← eM2] at hP hD
  refine lv_aload_n hx hb dX4_become_10 rfl (lv_at hl 0 rfl) ?_
  refine lv_iload_n hx hb dX4_become_11 rfl (lv_at hl 3 rfl) ?_
  refine va_put (D := D) (ci := 4) (v := .int p2) (ty := .int) (C := RX4) (T := TX4) (N := 18) hx hb hts (mus hf_X4) tyX4 tyX4_ok nmX4 hown hK hP hD hS a (wld_o ct ad (xt G []) M2 hc hk (by decide)) rfl 2 (by decide) (hts (.fieldLink RX4 36 "VideoSuite$Picture" "height" "I") (mu mw_1425)) (fun _ h9 => h9) rfl (by decide +kernel) rfl rfl (Nat.le_of_ble_eq_true rfl) dX4_become_12 (fun H locs hP hD hS => ?_)
  obtain ⟨M3, eM3, hF⟩ := ltt_some hF
  rw [set_oI ct ad (xt G []) M2 hc hk (by decide) (by rfl), ← eM3] at hP hD
  refine lv_sipush (v := (256 : Int32)) hx hb dX4_become_15 (by decide) ?_
  refine lv_iload_n hx hb dX4_become_18 rfl (lv_at hl 2 rfl) ?_
  refine lv_imul hx hb dX4_become_19 ?_
  obtain ⟨x4, ex4, hF⟩ := ltt_some hF
  refine lv_topi (fun zx4 ezx4 => ?_)
  obtain rfl : x4 = zx4 := ex4.trans ezx4.symm
  refine lv_iload_n hx hb dX4_become_20 rfl (lv_at hl 3 rfl) ?_
  refine lv_imul hx hb dX4_become_21 ?_
  obtain ⟨x5, ex5, hF⟩ := ltt_some hF
  refine lv_topi (fun zx5 ezx5 => ?_)
  obtain rfl : x5 = zx5 := ex5.trans ezx5.symm
  refine lv_istore (lv' := [(4, .int x5), (0, .ref (ad a)), (1, .int p0), (2, .int p1), (3, .int p2)]) hx hb dX4_become_22 hl (by decide) rfl (fun ls hl => ?_)
  refine lv_aload_n hx hb dX4_become_24 rfl (lv_at hl 1 rfl) ?_
  refine va_get (D := D) (ci := 4) (v := va_re ad (M3.2 a 4)) (C := RX4) (T := TX4) (N := 18) hx hb hts (mus hf_X4) hown hK hP a (wld_o ct ad (xt G []) M3 hc hk (by decide)) rfl 4 (by decide) (hts (.fieldLink RX4 17 "VideoSuite$Picture" "plane" "[[I") (mu mw_1431)) (fun _ h9 => h9) rfl dX4_become_25 ?_
  refine lv_iconst (v := (0 : Int32)) hx hb dX4_become_28 (by decide) ?_
  obtain ⟨b6, ho6, hc6, hk6, hF⟩ := dr_some hF
  refine W_st (st' := [.int (0 : Int32), .ref (ad b6)]) (by rw [va_some ho6]) ?_
  obtain ⟨hvc, hF⟩ := chk_some hF
  refine ld_g hx hb hK hP hc6 hk6 hvc dX4_become_29 ?_
  obtain ⟨b7, ho7, hc7, hk7, hF⟩ := dr_some hF
  refine W_st (st' := [.ref (ad b7)]) (by rw [va_some ho7]) ?_
  refine va_alen (v := Int32.ofNat ((xt G []).2.2 b7)) hx hb hK hP b7 1 (wld_i ct ad (xt G []) M3 hc7 hk7) rfl rfl dX4_become_30 ?_
  obtain ⟨x8, ex8, hF⟩ := ltt_some hF
  refine lv_topi (fun zx8 ezx8 => ?_)
  obtain rfl : x8 = zx8 := ex8.trans ezx8.symm
  refine lv_iload hx hb dX4_become_31 (lv_at hl 0 rfl) ?_
  obtain ⟨y9, hy9, hF⟩ := bnd_some hF
  obtain ⟨w10, hF, ew10⟩ := app_some hF
  obtain ⟨L11, eL11, hF⟩ := ltt_some hF
  have hT11 : y.1 = ([] ++ y9.1) ++ w10.1 := by rw [hT, ew10]; simp only [List.append_assoc]
  have hbl11 : L11.length ≤ y.1.length ∧ wt L11 ≤ wt y.1 := by rw [eL11]; exact room_d hT11 hbl
  have J9 : ∀ (ad12 : Nat → Nat), agr G.1 ad ad12 → ∀ (H : Heap) (locs : List Loc) (ls : Array Slot), va_P D classes (wld ct ad12 (xt G L11) y9.2) H → va_D A (wld ct ad12 (xt G L11) y9.2) → va_S A s.heap H locs → lv_has ls 6 [(0, .ref (ad12 a))] → W p l e (headSpec wuX4_become ({ frames := 1, cells := y.1.length, slots := wt y.1, locals := 23 })).room s m ([.ref (ad a), .int p0, .int p1, .int p2] : List Value).toArray below meth c H locs (L11 : NN).length (wt L11) (MQ below (va_Qv (fun (u : Nat → Nat) => agr G.1 ad u) (fun u t => kE D ct u (xt G y.1) A y.2 t) A) ([.ref (ad a), .int p0, .int p1, .int p2] : List Value).toArray s y.1.length (wt y.1) A) (F0 m 90 ls []) := by
    intro ad12 hag H locs ls hP hD hS hl
    have hT : y.1 = L11 ++ w10.1 := by rw [hT11, eL11]
    have h2 : y.2 = w10.2 := by rw [h2, ew10]
    have hk : (xt G L11).2.1 a = 4 := by rw [eL11]; exact xt_k _ hc hk
    have hc : a < (xt G L11).1 := by rw [eL11]; exact xt_l _ hc
    have hk6 : (xt G L11).2.1 b6 = 15 := by rw [eL11]; exact xt_k _ hc6 hk6
    have hc6 : b6 < (xt G L11).1 := by rw [eL11]; exact xt_l _ hc6
    have hk7 : (xt G L11).2.1 b7 = 13 := by rw [eL11]; exact xt_k _ hc7 hk7
    have hc7 : b7 < (xt G L11).1 := by rw [eL11]; exact xt_l _ hc7
    refine lv_aload_n hx hb dX4_become_90 rfl (lv_at hl 0 rfl) ?_
    refine va_get (D := D) (ci := 4) (v := va_re ad12 (y9.2.2 a 3)) (C := RX4) (T := TX4) (N := 18) hx hb hts (mus hf_X4) hown hK hP a (wld_o ct ad12 (xt G L11) y9.2 hc hk (by decide)) rfl 3 (by decide) (hts (.fieldLink RX4 9 "VideoSuite$Picture" "crop" "[I") (mu mw_1428)) (fun _ h9 => h9) rfl dX4_become_91 ?_
    refine lv_iconst (v := (0 : Int32)) hx hb dX4_become_94 (by decide) ?_
    obtain ⟨y13, hy13, hF⟩ := bnd_some hF
    have hf9 := wA_in hD hA9 hS
    refine va_callv (va_runS (As := [va_re ad12 (y9.2.2 a 3), .int (0 : Int32)]) (rest := []) ⟨hx, hb, hml, hown, hts⟩ (kJ7_fill_53178 l D ct ad12 Z (xt G L11) y9.2 H.size ((y9.2.2 a 3)) ((0 : Int32)) y13 hy13) (va_cwS 2 hts gX4_become_J7_fill_53178 rfl rfl rfl (by decide +kernel) ⟨Nat.le_of_ble_eq_true rfl, Nat.le_of_ble_eq_true rfl⟩) ⟨fun a U g mk q => by obtain ⟨q0, q1, qP, qK, qD, qZ, qN⟩ := q; exact ⟨q0, q1, qP, va_K.moved (u := U) (U := U.calling g mk a) (Vm.Alike.refl U.vm) qK, qD, sF.moved (u := U) (U := U.calling g mk a) (Vm.Alike.refl U.vm) qZ, nF.same rfl qN⟩, fun U hU hW => ⟨rfl, by rw [hU], by rw [hU]; exact hP, va_K.moved hW.alike hK, hD.weaken (fun _ _ _ _ => trivial), by rw [hU]; exact ((hZ.kept hS.2.1).narrow hf9).moved hW.alike, hN.warm hW⟩⟩ rfl rfl hl.1 rfl (lv_room (Nat.le_of_ble_eq_true rfl)) dX4_become_95 (room_d hT hbl)) hS (fun q _ h => hf9 q h) hf9 (fun u t H locs ht hvm hw hB hz1 hk1 hS => ?_)
    obtain ⟨hP, hK9, hD9⟩ := hB
    rw [ht] at hP
    refine W_cs (k := (L11 : NN).length) (n := wt L11) rfl rfl ?_
    have hD := hD9.weaken (fun _ q _ h => hf9 q.1 h)
    refine lv_aload_n hx hb dX4_become_98 rfl (lv_at hl 0 rfl) ?_
    refine va_get (D := D) (ci := 4) (v := va_re ad12 (y13.2 a 5)) (C := RX4) (T := TX4) (N := 18) hx hb hts (mus hf_X4) hown hK hP a (wld_o ct ad12 (xt G L11) y13 hc hk (by decide)) rfl 5 (by decide) (hts (.fieldLink RX4 20 "VideoSuite$Picture" "reference" "[I") (mu mw_1436)) (fun _ h9 => h9) rfl dX4_become_99 ?_
    refine lv_iconst (v := (-1 : Int32)) hx hb dX4_become_102 (by decide) ?_
    obtain ⟨y14, hy14, hF⟩ := bnd_some hF
    have hf9 := wA_in hD hA9 hS
    refine va_callv (va_runS (As := [va_re ad12 (y13.2 a 5), .int (-1 : Int32)]) (rest := []) ⟨hx, hb, hml, hown, hts⟩ (kJ7_fill_53178 l D ct ad12 Z (xt G L11) y13 H.size ((y13.2 a 5)) ((-1 : Int32)) y14 hy14) (va_cwS 2 hts gX4_become_J7_fill_53178 rfl rfl rfl (by decide +kernel) ⟨Nat.le_of_ble_eq_true rfl, Nat.le_of_ble_eq_true rfl⟩) ⟨fun a U g mk q => by obtain ⟨q0, q1, qP, qK, qD, qZ, qN⟩ := q; exact ⟨q0, q1, qP, va_K.moved (u := U) (U := U.calling g mk a) (Vm.Alike.refl U.vm) qK, qD, sF.moved (u := U) (U := U.calling g mk a) (Vm.Alike.refl U.vm) qZ, nF.same rfl qN⟩, fun U hU hW => ⟨rfl, by rw [hU], by rw [hU]; exact hP, va_K.moved hW.alike hK, hD.weaken (fun _ _ _ _ => trivial), by rw [hU]; exact ((hZ.kept hS.2.1).narrow hf9).moved hW.alike, hN.warm hW⟩⟩ rfl rfl hl.1 rfl (lv_room (Nat.le_of_ble_eq_true rfl)) dX4_become_103 (room_d hT hbl)) hS (fun q _ h => hf9 q h) hf9 (fun u t H locs ht hvm hw hB hz1 hk1 hS => ?_)
    obtain ⟨hP, hK9, hD9⟩ := hB
    rw [ht] at hP
    refine W_cs (k := (L11 : NN).length) (n := wt L11) rfl rfl ?_
    have hD := hD9.weaken (fun _ q _ h => hf9 q.1 h)
    refine lv_aload_n hx hb dX4_become_106 rfl (lv_at hl 0 rfl) ?_
    refine va_get (D := D) (ci := 4) (v := va_re ad12 (y14.2 a 6)) (C := RX4) (T := TX4) (N := 18) hx hb hts (mus hf_X4) hown hK hP a (wld_o ct ad12 (xt G L11) y14 hc hk (by decide)) rfl 6 (by decide) (hts (.fieldLink RX4 23 "VideoSuite$Picture" "referenceId" "[I") (mu mw_1442)) (fun _ h9 => h9) rfl dX4_become_107 ?_
    refine lv_iconst (v := (0 : Int32)) hx hb dX4_become_110 (by decide) ?_
    obtain ⟨y15, hy15, hF⟩ := bnd_some hF
    have hf9 := wA_in hD hA9 hS
    refine va_callv (va_runS (As := [va_re ad12 (y14.2 a 6), .int (0 : Int32)]) (rest := []) ⟨hx, hb, hml, hown, hts⟩ (kJ7_fill_53178 l D ct ad12 Z (xt G L11) y14 H.size ((y14.2 a 6)) ((0 : Int32)) y15 hy15) (va_cwS 2 hts gX4_become_J7_fill_53178 rfl rfl rfl (by decide +kernel) ⟨Nat.le_of_ble_eq_true rfl, Nat.le_of_ble_eq_true rfl⟩) ⟨fun a U g mk q => by obtain ⟨q0, q1, qP, qK, qD, qZ, qN⟩ := q; exact ⟨q0, q1, qP, va_K.moved (u := U) (U := U.calling g mk a) (Vm.Alike.refl U.vm) qK, qD, sF.moved (u := U) (U := U.calling g mk a) (Vm.Alike.refl U.vm) qZ, nF.same rfl qN⟩, fun U hU hW => ⟨rfl, by rw [hU], by rw [hU]; exact hP, va_K.moved hW.alike hK, hD.weaken (fun _ _ _ _ => trivial), by rw [hU]; exact ((hZ.kept hS.2.1).narrow hf9).moved hW.alike, hN.warm hW⟩⟩ rfl rfl hl.1 rfl (lv_room (Nat.le_of_ble_eq_true rfl)) dX4_become_111 (room_d hT hbl)) hS (fun q _ h => hf9 q h) hf9 (fun u t H locs ht hvm hw hB hz1 hk1 hS => ?_)
    obtain ⟨hP, hK9, hD9⟩ := hB
    rw [ht] at hP
    refine W_cs (k := (L11 : NN).length) (n := wt L11) rfl rfl ?_
    have hD := hD9.weaken (fun _ q _ h => hf9 q.1 h)
    refine lv_aload_n hx hb dX4_become_114 rfl (lv_at hl 0 rfl) ?_
    refine va_get (D := D) (ci := 4) (v := va_re ad12 (y15.2 a 7)) (C := RX4) (T := TX4) (N := 18) hx hb hts (mus hf_X4) hown hK hP a (wld_o ct ad12 (xt G L11) y15 hc hk (by decide)) rfl 7 (by decide) (hts (.fieldLink RX4 26 "VideoSuite$Picture" "move" "[I") (mu mw_1444)) (fun _ h9 => h9) rfl dX4_become_115 ?_
    refine lv_iconst (v := (0 : Int32)) hx hb dX4_become_118 (by decide) ?_
    obtain ⟨y16, hy16, hF⟩ := bnd_some hF
    have hf9 := wA_in hD hA9 hS
    refine va_callv (va_runS (As := [va_re ad12 (y15.2 a 7), .int (0 : Int32)]) (rest := []) ⟨hx, hb, hml, hown, hts⟩ (kJ7_fill_53178 l D ct ad12 Z (xt G L11) y15 H.size ((y15.2 a 7)) ((0 : Int32)) y16 hy16) (va_cwS 2 hts gX4_become_J7_fill_53178 rfl rfl rfl (by decide +kernel) ⟨Nat.le_of_ble_eq_true rfl, Nat.le_of_ble_eq_true rfl⟩) ⟨fun a U g mk q => by obtain ⟨q0, q1, qP, qK, qD, qZ, qN⟩ := q; exact ⟨q0, q1, qP, va_K.moved (u := U) (U := U.calling g mk a) (Vm.Alike.refl U.vm) qK, qD, sF.moved (u := U) (U := U.calling g mk a) (Vm.Alike.refl U.vm) qZ, nF.same rfl qN⟩, fun U hU hW => ⟨rfl, by rw [hU], by rw [hU]; exact hP, va_K.moved hW.alike hK, hD.weaken (fun _ _ _ _ => trivial), by rw [hU]; exact ((hZ.kept hS.2.1).narrow hf9).moved hW.alike, hN.warm hW⟩⟩ rfl rfl hl.1 rfl (lv_room (Nat.le_of_ble_eq_true rfl)) dX4_become_119 (room_d hT hbl)) hS (fun q _ h => hf9 q h) hf9 (fun u t H locs ht hvm hw hB hz1 hk1 hS => ?_)
    obtain ⟨hP, hK9, hD9⟩ := hB
    rw [ht] at hP
    refine W_cs (k := (L11 : NN).length) (n := wt L11) rfl rfl ?_
    have hD := hD9.weaken (fun _ q _ h => hf9 q.1 h)
    refine lv_aload_n hx hb dX4_become_122 rfl (lv_at hl 0 rfl) ?_
    refine lv_iconst (v := (0 : Int32)) hx hb dX4_become_123 (by decide) ?_
    refine va_put (D := D) (ci := 4) (v := .int (0 : Int32)) (ty := .int) (C := RX4) (T := TX4) (N := 18) hx hb hts (mus hf_X4) tyX4 tyX4_ok nmX4 hown hK hP hD hS a (wld_o ct ad12 (xt G L11) y16 hc hk (by decide)) rfl 8 (by decide) (hts (.fieldLink RX4 45 "VideoSuite$Picture" "frame" "I") (mu mw_1449)) (fun _ h9 => h9) rfl (by decide +kernel) rfl rfl (Nat.le_of_ble_eq_true rfl) dX4_become_124 (fun H locs hP hD hS => ?_)
    obtain ⟨M17, eM17, hF⟩ := ltt_some hF
    rw [set_oI ct ad12 (xt G L11) y16 hc hk (by decide) (by rfl), ← eM17] at hP hD
    refine lv_aload_n hx hb dX4_become_127 rfl (lv_at hl 0 rfl) ?_
    refine lv_iconst (v := (0 : Int32)) hx hb dX4_become_128 (by decide) ?_
    refine va_put (D := D) (ci := 4) (v := .int (0 : Int32)) (ty := .int) (C := RX4) (T := TX4) (N := 18) hx hb hts (mus hf_X4) tyX4 tyX4_ok nmX4 hown hK hP hD hS a (wld_o ct ad12 (xt G L11) M17 hc hk (by decide)) rfl 9 (by decide) (hts (.fieldLink RX4 48 "VideoSuite$Picture" "order" "I") (mu mw_1453)) (fun _ h9 => h9) rfl (by decide +kernel) rfl rfl (Nat.le_of_ble_eq_true rfl) dX4_become_129 (fun H locs hP hD hS => ?_)
    obtain ⟨M18, eM18, hF⟩ := ltt_some hF
    rw [set_oI ct ad12 (xt G L11) M17 hc hk (by decide) (by rfl), ← eM18] at hP hD
    refine lv_aload_n hx hb dX4_become_132 rfl (lv_at hl 0 rfl) ?_
    refine lv_iconst (v := (0 : Int32)) hx hb dX4_become_133 (by decide) ?_
    refine va_put (D := D) (ci := 4) (v := .int (0 : Int32)) (ty := .int) (C := RX4) (T := TX4) (N := 18) hx hb hts (mus hf_X4) tyX4 tyX4_ok nmX4 hown hK hP hD hS a (wld_o ct ad12 (xt G L11) M18 hc hk (by decide)) rfl 10 (by decide) (hts (.fieldLink RX4 51 "VideoSuite$Picture" "use" "I") (mu mw_1459)) (fun _ h9 => h9) rfl (by decide +kernel) rfl rfl (Nat.le_of_ble_eq_true rfl) dX4_become_134 (fun H locs hP hD hS => ?_)
    obtain ⟨M19, eM19, hF⟩ := ltt_some hF
    rw [set_oI ct ad12 (xt G L11) M18 hc hk (by decide) (by rfl), ← eM19] at hP hD
    refine lv_aload_n hx hb dX4_become_137 rfl (lv_at hl 0 rfl) ?_
    refine lv_iconst (v := (-1 : Int32)) hx hb dX4_become_138 (by decide) ?_
    refine va_put (D := D) (ci := 4) (v := .int (-1 : Int32)) (ty := .int) (C := RX4) (T := TX4) (N := 18) hx hb hts (mus hf_X4) tyX4 tyX4_ok nmX4 hown hK hP hD hS a (wld_o ct ad12 (xt G L11) M19 hc hk (by decide)) rfl 11 (by decide) (hts (.fieldLink RX4 54 "VideoSuite$Picture" "number" "I") (mu mw_1463)) (fun _ h9 => h9) rfl (by decide +kernel) rfl rfl (Nat.le_of_ble_eq_true rfl) dX4_become_139 (fun H locs hP hD hS => ?_)
    obtain ⟨M20, eM20, hF⟩ := ltt_some hF
    rw [set_oI ct ad12 (xt G L11) M19 hc hk (by decide) (by rfl), ← eM20] at hP hD
    refine lv_aload_n hx hb dX4_become_142 rfl (lv_at hl 0 rfl) ?_
    refine lv_iconst (v := (0 : Int32)) hx hb dX4_become_143 (by decide) ?_
    obtain ⟨hz9, hF⟩ := chk_some hF
    refine va_put (D := D) (ci := 4) (v := .int (0 : Int32)) (ty := .boolean) (C := RX4) (T := TX4) (N := 18) hx hb hts (mus hf_X4) tyX4 tyX4_ok nmX4 hown hK hP hD hS a (wld_o ct ad12 (xt G L11) M20 hc hk (by decide)) rfl 12 (by decide) (hts (.fieldLink RX4 57 "VideoSuite$Picture" "isWaiting" "Z") (mu mw_1465)) (fun _ h9 => h9) rfl (by decide +kernel) (nar_z hz9).1 (nar_z hz9).2 (Nat.le_of_ble_eq_true rfl) dX4_become_144 (fun H locs hP hD hS => ?_)
    obtain ⟨M21, eM21, hF⟩ := ltt_some hF
    rw [set_oI ct ad12 (xt G L11) M20 hc hk (by decide) (by rfl), ← eM21] at hP hD
    refine lv_aload_n hx hb dX4_become_147 rfl (lv_at hl 0 rfl) ?_
    refine lv_iconst (v := (0 : Int32)) hx hb dX4_become_148 (by decide) ?_
    obtain ⟨hz9, hF⟩ := chk_some hF
    refine va_put (D := D) (ci := 4) (v := .int (0 : Int32)) (ty := .boolean) (C := RX4) (T := TX4) (N := 18) hx hb hts (mus hf_X4) tyX4 tyX4_ok nmX4 hown hK hP hD hS a (wld_o ct ad12 (xt G L11) M21 hc hk (by decide)) rfl 13 (by decide) (hts (.fieldLink RX4 61 "VideoSuite$Picture" "isMadeUp" "Z") (mu mw_1467)) (fun _ h9 => h9) rfl (by decide +kernel) (nar_z hz9).1 (nar_z hz9).2 (Nat.le_of_ble_eq_true rfl) dX4_become_149 (fun H locs hP hD hS => ?_)
    obtain ⟨M22, eM22, hF⟩ := ltt_some hF
    rw [set_oI ct ad12 (xt G L11) M21 hc hk (by decide) (by rfl), ← eM22] at hP hD
    refine lv_aload_n hx hb dX4_become_152 rfl (lv_at hl 0 rfl) ?_
    refine lv_iconst (v := (1 : Int32)) hx hb dX4_become_153 (by decide) ?_
    obtain ⟨hz9, hF⟩ := chk_some hF
    refine va_put (D := D) (ci := 4) (v := .int (1 : Int32)) (ty := .boolean) (C := RX4) (T := TX4) (N := 18) hx hb hts (mus hf_X4) tyX4 tyX4_ok nmX4 hown hK hP hD hS a (wld_o ct ad12 (xt G L11) M22 hc hk (by decide)) rfl 14 (by decide) (hts (.fieldLink RX4 64 "VideoSuite$Picture" "isTrusted" "Z") (mu mw_1469)) (fun _ h9 => h9) rfl (by decide +kernel) (nar_z hz9).1 (nar_z hz9).2 (Nat.le_of_ble_eq_true rfl) dX4_become_154 (fun H locs hP hD hS => ?_)
    obtain ⟨M23, eM23, hF⟩ := ltt_some hF
    rw [set_oI ct ad12 (xt G L11) M22 hc hk (by decide) (by rfl), ← eM23] at hP hD
    refine lv_aload_n hx hb dX4_become_157 rfl (lv_at hl 0 rfl) ?_
    refine lv_iconst (v := (-1 : Int32)) hx hb dX4_become_158 (by decide) ?_
    refine va_put (D := D) (ci := 4) (v := .int (-1 : Int32)) (ty := .int) (C := RX4) (T := TX4) (N := 18) hx hb hts (mus hf_X4) tyX4 tyX4_ok nmX4 hown hK hP hD hS a (wld_o ct ad12 (xt G L11) M23 hc hk (by decide)) rfl 15 (by decide) (hts (.fieldLink RX4 67 "VideoSuite$Picture" "sort" "I") (mu mw_1473)) (fun _ h9 => h9) rfl (by decide +kernel) rfl rfl (Nat.le_of_ble_eq_true rfl) dX4_become_159 (fun H locs hP hD hS => ?_)
    obtain ⟨M24, eM24, hF⟩ := ltt_some hF
    rw [set_oI ct ad12 (xt G L11) M23 hc hk (by decide) (by rfl), ← eM24] at hP hD
    refine lv_aload_n hx hb dX4_become_162 rfl (lv_at hl 0 rfl) ?_
    refine lv_iconst (v := (0 : Int32)) hx hb dX4_become_163 (by decide) ?_
    refine va_put (D := D) (ci := 4) (v := .int (0 : Int32)) (ty := .int) (C := RX4) (T := TX4) (N := 18) hx hb hts (mus hf_X4) tyX4 tyX4_ok nmX4 hown hK hP hD hS a (wld_o ct ad12 (xt G L11) M24 hc hk (by decide)) rfl 16 (by decide) (hts (.fieldLink RX4 70 "VideoSuite$Picture" "ref" "I") (mu mw_1476)) (fun _ h9 => h9) rfl (by decide +kernel) rfl rfl (Nat.le_of_ble_eq_true rfl) dX4_become_164 (fun H locs hP hD hS => ?_)
    obtain ⟨M25, eM25, hF⟩ := ltt_some hF
    rw [set_oI ct ad12 (xt G L11) M24 hc hk (by decide) (by rfl), ← eM25] at hP hD
    refine lv_aload_n hx hb dX4_become_167 rfl (lv_at hl 0 rfl) ?_
    refine lv_iconst (v := (0 : Int32)) hx hb dX4_become_168 (by decide) ?_
    refine va_put (D := D) (ci := 4) (v := .int (0 : Int32)) (ty := .int) (C := RX4) (T := TX4) (N := 18) hx hb hts (mus hf_X4) tyX4 tyX4_ok nmX4 hown hK hP hD hS a (wld_o ct ad12 (xt G L11) M25 hc hk (by decide)) rfl 17 (by decide) (hts (.fieldLink RX4 73 "VideoSuite$Picture" "mended" "I") (mu mw_1479)) (fun _ h9 => h9) rfl (by decide +kernel) rfl rfl (Nat.le_of_ble_eq_true rfl) dX4_become_169 (fun H locs hP hD hS => ?_)
    obtain ⟨M26, eM26, hF⟩ := ltt_some hF
    rw [set_oI ct ad12 (xt G L11) M25 hc hk (by decide) (by rfl), ← eM26] at hP hD
    obtain rfl := Option.some.inj hF
    have e1 : y.1 = L11 := by rw [hT]; exact List.append_nil _
    have e2 : y.2 = M26 := h2
    refine W.widen (k := y.1.length) (n := wt y.1) (Nat.le_of_eq (by rw [e1])) (Nat.le_of_eq (by rw [e1])) ?_
    exact W.vret hx hb hr (fun t ht hW => ⟨⟨ad12, rfl, hag, (by unfold kE; rw [e1, e2]; exact ⟨by rw [ht]; exact hP, va_K.moved hW.alike hK, hD⟩)⟩, hS.F ht⟩) hS.2.2 dX4_become_172
  clear hF
  obtain ⟨w27, hw27⟩ : ∃ z, z = y9 := ⟨_, rfl⟩
  have hF := hy9
  rw [← hw27] at hF
  clear hy9
  have hT : L11 = [] ++ w27.1 := by rw [eL11, hw27]
  have h2 : y9.2 = w27.2 := by rw [hw27]
  have hbl := hbl11
  refine lv_icmp_ge (tgt := 90) hx hb dX4_become_33 (by decide) (fun c28 => ?_) (fun c28 => ?_)
  · rw [if_pos c28] at hF
    obtain rfl := Option.some.inj hF
    have e1 : L11 = [] := by rw [hT]; exact List.append_nil _
    have e2 : y9.2 = M3 := h2
    rw [e1] at J9
    try rw [e2] at J9
    exact J9 _ hag _ _ _ hP hD hS (lv_sub hl [1] rfl)
  · rw [if_neg c28] at hF
    refine lv_aload_n hx hb dX4_become_36 rfl (lv_at hl 1 rfl) ?_
    refine va_get (D := D) (ci := 4) (v := va_re ad (M3.2 a 4)) (C := RX4) (T := TX4) (N := 18) hx hb hts (mus hf_X4) hown hK hP a (wld_o ct ad (xt G []) M3 hc hk (by decide)) rfl 4 (by decide) (hts (.fieldLink RX4 17 "VideoSuite$Picture" "plane" "[[I") (mu mw_1431)) (fun _ h9 => h9) rfl dX4_become_37 ?_
    refine lv_iconst (v := (0 : Int32)) hx hb dX4_become_40 (by decide) ?_
    refine W_st (st' := [.int (0 : Int32), .ref (ad b6)]) (by rw [va_some ho6]) ?_
    obtain ⟨hvc, hF⟩ := chk_some hF
    refine ld_g hx hb hK hP hc6 hk6 hvc dX4_become_41 ?_
    refine W_st (st' := [.ref (ad b7)]) (by rw [va_some ho7]) ?_
    refine va_alen (v := Int32.ofNat ((xt G []).2.2 b7)) hx hb hK hP b7 1 (wld_i ct ad (xt G []) M3 hc7 hk7) rfl rfl dX4_become_42 ?_
    obtain ⟨x29, ex29, hF⟩ := ltt_some hF
    refine lv_topi (fun zx29 ezx29 => ?_)
    obtain rfl : x29 = zx29 := ex29.trans ezx29.symm
    obtain ⟨y30, hy30, hF⟩ := bnd_some hF
    have J30 : ∀ (H : Heap) (locs : List Loc) (ls : Array Slot), va_P D classes (wld ct ad (xt G []) M3) H → va_D A (wld ct ad (xt G []) M3) → va_S A s.heap H locs → lv_has ls 6 [(4, .int x5), (0, .ref (ad a)), (1, .int p0), (2, .int p1), (3, .int p2)] → W p l e (headSpec wuX4_become ({ frames := 1, cells := y.1.length, slots := wt y.1, locals := 23 })).room s m ([.ref (ad a), .int p0, .int p1, .int p2] : List Value).toArray below meth c H locs ([] : NN).length (wt []) (MQ below (va_Qv (fun (u : Nat → Nat) => agr G.1 ad u) (fun u t => kE D ct u (xt G y.1) A y.2 t) A) ([.ref (ad a), .int p0, .int p1, .int p2] : List Value).toArray s y.1.length (wt y.1) A) (F0 m 54 ls [.int y30]) := by
      intro H locs ls hP hD hS hl
      refine lv_istore (lv' := [(5, .int y30), (4, .int x5), (0, .ref (ad a)), (1, .int p0), (2, .int p1), (3, .int p2)]) hx hb dX4_become_54 hl (by decide) rfl (fun ls hl => ?_)
      refine lv_aload_n hx hb dX4_become_56 rfl (lv_at hl 2 rfl) ?_
      refine va_get (D := D) (ci := 4) (v := va_re ad (M3.2 a 4)) (C := RX4) (T := TX4) (N := 18) hx hb hts (mus hf_X4) hown hK hP a (wld_o ct ad (xt G []) M3 hc hk (by decide)) rfl 4 (by decide) (hts (.fieldLink RX4 17 "VideoSuite$Picture" "plane" "[[I") (mu mw_1431)) (fun _ h9 => h9) rfl dX4_become_57 ?_
      refine lv_iconst (v := (0 : Int32)) hx hb dX4_become_60 (by decide) ?_
      refine lv_iload hx hb dX4_become_61 (lv_at hl 0 rfl) ?_
      obtain ⟨hC31, hF⟩ := chkP_some hF
      obtain ⟨hz9, hF⟩ := chk_some hF
      obtain ⟨hq32, hF⟩ := chk_some hF
      obtain ⟨c33, ec33, hF⟩ := ltt_some hF
      obtain ⟨w34, hF, ew34⟩ := app_some hF
      obtain ⟨L35, eL35, hF⟩ := ltt_some hF
      have hT35 : L11 = ([] ++ [(13, y30.toNatClampNeg)]) ++ w34.1 := by rw [hT, ew34]; simp only [List.append_assoc]
      obtain ⟨M36, eM36, hF⟩ := ltt_some hF
      refine new_i hx hb (hts (.arrayClass .int) (mu mw_266)) hK hP hD hS hA9 hz9.1 hz9.2 hC31 (room_1s hT35 hbl) dX4_become_63 (fun ad37 H hn38 hP hD hS => ?_)
      rw [← ec33, ← eL35, ← eM36] at hP hD
      refine W_cs (k := L35.length) (n := wt L35) (by rw [eL35]) (by rw [eL35]) ?_
      refine W_st (st' := [.ref (ad37 c33), .int (0 : Int32), va_re ad (M3.2 a 4)]) (by rw [ec33]) ?_
      have hT : L11 = L35 ++ w34.1 := by rw [hT35, eL35]
      have h2 : y9.2 = w34.2 := by rw [h2, ew34]
      have hl := lv_sub (l' := [(5, .int y30), (0, .ref (ad a))]) hl [0, 2] rfl
      have e9 : ([(5, .int y30), (0, .ref (ad a))] : List (Nat × Value)) = [(5, .int y30), (0, .ref (ad37 a))] := (by first | rfl | simp only [hn38 a hc])
      rw [e9] at hl
      clear e9
      refine W_st (st' := [.ref (ad37 c33), .int (0 : Int32), va_re ad37 (M3.2 a 4)]) (by first | rfl | simp only [agr_re hn38 hq32]) ?_
      have hk : (xt G L35).2.1 a = 4 := by rw [eL35]; exact xt_k _ hc hk
      have hc : a < (xt G L35).1 := by rw [eL35]; exact xt_l _ hc
      have hk6 : (xt G L35).2.1 b6 = 15 := by rw [eL35]; exact xt_k _ hc6 hk6
      have hc6 : b6 < (xt G L35).1 := by rw [eL35]; exact xt_l _ hc6
      have hk7 : (xt G L35).2.1 b7 = 13 := by rw [eL35]; exact xt_k _ hc7 hk7
      have hc7 : b7 < (xt G L35).1 := by rw [eL35]; exact xt_l _ hc7
      have hag := agr_t (xt_ge _ _) hag hn38
      have hc33 : c33 < (xt G L35).1 := by rw [ec33, eL35]; exact cnt_new _ _ _
      have hk33 : (xt G L35).2.1 c33 = 13 := by rw [ec33, eL35]; exact (kind_new _ _ _ _).1
      refine W_st (st' := [.ref (ad37 c33), .int (0 : Int32), .ref (ad37 b6)]) (by rw [va_some ho6]) ?_
      obtain ⟨hvc, hF⟩ := chk_some hF
      refine st_g hx hb hN hK hP hD hS hc6 hk6 hc33 hk33 hvc dX4_become_65 (fun H locs hP hD hS => ?_)
      obtain ⟨M39, eM39, hF⟩ := ltt_some hF
      rw [← eM39] at hP hD
      refine lv_aload_n hx hb dX4_become_66 rfl (lv_at hl 1 rfl) ?_
      refine va_get (D := D) (ci := 4) (v := va_re ad37 (M39.2 a 4)) (C := RX4) (T := TX4) (N := 18) hx hb hts (mus hf_X4) hown hK hP a (wld_o ct ad37 (xt G L35) M39 hc hk (by decide)) rfl 4 (by decide) (hts (.fieldLink RX4 17 "VideoSuite$Picture" "plane" "[[I") (mu mw_1431)) (fun _ h9 => h9) rfl dX4_become_67 ?_
      refine lv_iconst (v := (1 : Int32)) hx hb dX4_become_70 (by decide) ?_
      refine lv_iload hx hb dX4_become_71 (lv_at hl 0 rfl) ?_
      refine lv_iconst (v := (4 : Int32)) hx hb dX4_become_73 (by decide) ?_
      refine lv_idiv hx hb dX4_become_74 (by decide) ?_
      obtain ⟨x40, ex40, hF⟩ := ltt_some hF
      refine lv_topi (fun zx40 ezx40 => ?_)
      obtain rfl : x40 = zx40 := ex40.trans ezx40.symm
      obtain ⟨hC41, hF⟩ := chkP_some hF
      obtain ⟨hz9, hF⟩ := chk_some hF
      obtain ⟨hq42, hF⟩ := chk_some hF
      obtain ⟨c43, ec43, hF⟩ := ltt_some hF
      obtain ⟨w44, hF, ew44⟩ := app_some hF
      obtain ⟨L45, eL45, hF⟩ := ltt_some hF
      have hT45 : L11 = (L35 ++ [(13, x40.toNatClampNeg)]) ++ w44.1 := by rw [hT, ew44]; simp only [List.append_assoc]
      obtain ⟨M46, eM46, hF⟩ := ltt_some hF
      refine new_i hx hb (hts (.arrayClass .int) (mu mw_266)) hK hP hD hS hA9 hz9.1 hz9.2 hC41 (room_1s hT45 hbl) dX4_become_75 (fun ad47 H hn48 hP hD hS => ?_)
      rw [← ec43, ← eL45, ← eM46] at hP hD
      refine W_cs (k := L45.length) (n := wt L45) (by rw [eL45]) (by rw [eL45]) ?_
      refine W_st (st' := [.ref (ad47 c43), .int (1 : Int32), va_re ad37 (M39.2 a 4)]) (by rw [ec43]) ?_
      have hT : L11 = L45 ++ w44.1 := by rw [hT45, eL45]
      have h2 : y9.2 = w44.2 := by rw [h2, ew44]
      have hl := lv_sub (l' := [(5, .int y30), (0, .ref (ad37 a))]) hl [0, 1] rfl
      have e9 : ([(5, .int y30), (0, .ref (ad37 a))] : List (Nat × Value)) = [(5, .int y30), (0, .ref (ad47 a))] := (by first | rfl | simp only [hn48 a hc])
      rw [e9] at hl
      clear e9
      refine W_st (st' := [.ref (ad47 c43), .int (1 : Int32), va_re ad47 (M39.2 a 4)]) (by first | rfl | simp only [agr_re hn48 hq42]) ?_
      have hk : (xt G L45).2.1 a = 4 := by rw [eL45]; exact xt_k _ hc hk
      have hc : a < (xt G L45).1 := by rw [eL45]; exact xt_l _ hc
      have hk6 : (xt G L45).2.1 b6 = 15 := by rw [eL45]; exact xt_k _ hc6 hk6
      have hc6 : b6 < (xt G L45).1 := by rw [eL45]; exact xt_l _ hc6
      have hk7 : (xt G L45).2.1 b7 = 13 := by rw [eL45]; exact xt_k _ hc7 hk7
      have hc7 : b7 < (xt G L45).1 := by rw [eL45]; exact xt_l _ hc7
      have hk33 : (xt G L45).2.1 c33 = 13 := by rw [eL45]; exact xt_k _ hc33 hk33
      have hc33 : c33 < (xt G L45).1 := by rw [eL45]; exact xt_l _ hc33
      have hag := agr_t (xt_ge _ _) hag hn48
      have hc43 : c43 < (xt G L45).1 := by rw [ec43, eL45]; exact cnt_new _ _ _
      have hk43 : (xt G L45).2.1 c43 = 13 := by rw [ec43, eL45]; exact (kind_new _ _ _ _).1
      obtain ⟨b49, ho49, hc49, hk49, hF⟩ := dr_some hF
      refine W_st (st' := [.ref (ad47 c43), .int (1 : Int32), .ref (ad47 b49)]) (by rw [va_some ho49]) ?_
      obtain ⟨hvc, hF⟩ := chk_some hF
      refine st_g hx hb hN hK hP hD hS hc49 hk49 hc43 hk43 hvc dX4_become_77 (fun H locs hP hD hS => ?_)
      obtain ⟨M50, eM50, hF⟩ := ltt_some hF
      rw [← eM50] at hP hD
      refine lv_aload_n hx hb dX4_become_78 rfl (lv_at hl 1 rfl) ?_
      refine va_get (D := D) (ci := 4) (v := va_re ad47 (M50.2 a 4)) (C := RX4) (T := TX4) (N := 18) hx hb hts (mus hf_X4) hown hK hP a (wld_o ct ad47 (xt G L45) M50 hc hk (by decide)) rfl 4 (by decide) (hts (.fieldLink RX4 17 "VideoSuite$Picture" "plane" "[[I") (mu mw_1431)) (fun _ h9 => h9) rfl dX4_become_79 ?_
      refine lv_iconst (v := (2 : Int32)) hx hb dX4_become_82 (by decide) ?_
      refine lv_iload hx hb dX4_become_83 (lv_at hl 0 rfl) ?_
      refine lv_iconst (v := (4 : Int32)) hx hb dX4_become_85 (by decide) ?_
      refine lv_idiv hx hb dX4_become_86 (by decide) ?_
      obtain ⟨x51, ex51, hF⟩ := ltt_some hF
      refine lv_topi (fun zx51 ezx51 => ?_)
      obtain rfl : x51 = zx51 := ex51.trans ezx51.symm
      obtain ⟨hC52, hF⟩ := chkP_some hF
      obtain ⟨hz9, hF⟩ := chk_some hF
      obtain ⟨hq53, hF⟩ := chk_some hF
      obtain ⟨c54, ec54, hF⟩ := ltt_some hF
      obtain ⟨w55, hF, ew55⟩ := app_some hF
      obtain ⟨L56, eL56, hF⟩ := ltt_some hF
      have hT56 : L11 = (L45 ++ [(13, x51.toNatClampNeg)]) ++ w55.1 := by rw [hT, ew55]; simp only [List.append_assoc]
      obtain ⟨M57, eM57, hF⟩ := ltt_some hF
      refine new_i hx hb (hts (.arrayClass .int) (mu mw_266)) hK hP hD hS hA9 hz9.1 hz9.2 hC52 (room_1s hT56 hbl) dX4_become_87 (fun ad58 H hn59 hP hD hS => ?_)
      rw [← ec54, ← eL56, ← eM57] at hP hD
      refine W_cs (k := L56.length) (n := wt L56) (by rw [eL56]) (by rw [eL56]) ?_
      refine W_st (st' := [.ref (ad58 c54), .int (2 : Int32), va_re ad47 (M50.2 a 4)]) (by rw [ec54]) ?_
      have hT : L11 = L56 ++ w55.1 := by rw [hT56, eL56]
      have h2 : y9.2 = w55.2 := by rw [h2, ew55]
      have hl := lv_sub (l' := [(0, .ref (ad47 a))]) hl [1] rfl
      have e9 : ([(0, .ref (ad47 a))] : List (Nat × Value)) = [(0, .ref (ad58 a))] := (by first | rfl | simp only [hn59 a hc])
      rw [e9] at hl
      clear e9
      refine W_st (st' := [.ref (ad58 c54), .int (2 : Int32), va_re ad58 (M50.2 a 4)]) (by first | rfl | simp only [agr_re hn59 hq53]) ?_
      have hk : (xt G L56).2.1 a = 4 := by rw [eL56]; exact xt_k _ hc hk
      have hc : a < (xt G L56).1 := by rw [eL56]; exact xt_l _ hc
      have hk6 : (xt G L56).2.1 b6 = 15 := by rw [eL56]; exact xt_k _ hc6 hk6
      have hc6 : b6 < (xt G L56).1 := by rw [eL56]; exact xt_l _ hc6
      have hk7 : (xt G L56).2.1 b7 = 13 := by rw [eL56]; exact xt_k _ hc7 hk7
      have hc7 : b7 < (xt G L56).1 := by rw [eL56]; exact xt_l _ hc7
      have hk33 : (xt G L56).2.1 c33 = 13 := by rw [eL56]; exact xt_k _ hc33 hk33
      have hc33 : c33 < (xt G L56).1 := by rw [eL56]; exact xt_l _ hc33
      have hk43 : (xt G L56).2.1 c43 = 13 := by rw [eL56]; exact xt_k _ hc43 hk43
      have hc43 : c43 < (xt G L56).1 := by rw [eL56]; exact xt_l _ hc43
      have hk49 : (xt G L56).2.1 b49 = 15 := by rw [eL56]; exact xt_k _ hc49 hk49
      have hc49 : b49 < (xt G L56).1 := by rw [eL56]; exact xt_l _ hc49
      have hag := agr_t (xt_ge _ _) hag hn59
      have hc54 : c54 < (xt G L56).1 := by rw [ec54, eL56]; exact cnt_new _ _ _
      have hk54 : (xt G L56).2.1 c54 = 13 := by rw [ec54, eL56]; exact (kind_new _ _ _ _).1
      obtain ⟨b60, ho60, hc60, hk60, hF⟩ := dr_some hF
      refine W_st (st' := [.ref (ad58 c54), .int (2 : Int32), .ref (ad58 b60)]) (by rw [va_some ho60]) ?_
      obtain ⟨hvc, hF⟩ := chk_some hF
      refine st_g hx hb hN hK hP hD hS hc60 hk60 hc54 hk54 hvc dX4_become_89 (fun H locs hP hD hS => ?_)
      obtain ⟨M61, eM61, hF⟩ := ltt_some hF
      rw [← eM61] at hP hD
      obtain rfl := Option.some.inj hF
      have e1 : L11 = L56 := by rw [hT]; exact List.append_nil _
      have e2 : y9.2 = M61 := h2
      rw [e1] at J9
      try rw [e2] at J9
      exact J9 _ hag _ _ _ hP hD hS (lv_sub hl [0] rfl)
    clear hF
    have hF := hy30
    clear hy30
    refine lv_if_ne (tgt := 51) hx hb dX4_become_43 (by decide) (fun c62 => ?_) (fun c62 => ?_)
    · rw [if_neg c62] at hF
      refine lv_sipush (v := (8192 : Int32)) hx hb dX4_become_51 (by decide) ?_
      obtain rfl := Option.some.inj hF
      exact J30 _ _ _ hP hD hS (lv_sub hl [0, 1, 2, 3, 4] rfl)
    · rw [if_pos c62] at hF
      refine lv_iload hx hb dX4_become_46 (lv_at hl 0 rfl) ?_
      refine lv_goto (tgt := 54) hx hb dX4_become_48 (by decide) ?_
      obtain rfl := Option.some.inj hF
      exact J30 _ _ _ hP hD hS (lv_sub hl [0, 1, 2, 3, 4] rfl)
theorem dX4_blocks_0 : decode cX4_blocks 0 = .ok (.aload_n 0, 1) := by decide +kernel
theorem dX4_blocks_1 : decode cX4_blocks 1 = .ok (.getfield 33, 3) := by decide +kernel
theorem dX4_blocks_4 : decode cX4_blocks 4 = .ok (.aload_n 0, 1) := by decide +kernel
theorem dX4_blocks_5 : decode cX4_blocks 5 = .ok (.getfield 36, 3) := by decide +kernel
theorem dX4_blocks_8 : decode cX4_blocks 8 = .ok (.imul, 1) := by decide +kernel
theorem dX4_blocks_9 : decode cX4_blocks 9 = .ok (.ireturn, 1) := by decide +kernel
def FX4_blocks (G : GG) (M : DD) (a : Nat)  : Option (DD × Int32) :=
  ltt (M.1 a 1) fun x1 =>
  ltt (M.1 a 2) fun x2 =>
  ltt ((x1 * x2)) fun x3 =>
  some (M, x3)
set_option maxHeartbeats 4000000 in
set_option maxRecDepth 100000 in
theorem kX4_blocks (l : Launch) (D : va_G) (ct : CT) (ad : Nat → Nat) (Z : Nat → Nat) (G : GG) (M : DD) (sz : Nat) (a : Nat)  (y : DD × Int32) (hc : a < G.1) (hk : G.2.1 a = 4) (hF : FX4_blocks G M a  = some y) : Met l yX4_blocks wuX4_blocks ({ frames := 0, cells := 0, slots := 0, locals := 0 }) (va_Pc [.ref (ad a)] (kB D ct ad Z G M sz)) (va_Qi (fun (q : Int32) (_ : Unit) => q = y.2) (fun _ t => kE D ct ad G (wA ad G sz) y.1 t) (wA ad G sz)) 0 0 (wA ad G sz) := by
  refine Met.ofW (cc := cX4_blocks) (maxL := 1) (ret := (some .int)) (by decide) rfl ?_
  intro p e s m args below meth c s₁ B hml hv
  obtain ⟨rfl, hsz, hP, hK, hD0, hZ, hN⟩ := hv
  have hx := B.exec
  have hb := B.bytes
  have hr := B.returns
  have hts := atoms_spec (ws := wuX4_blocks) B.pre
  have hown : s.vm.findClass RX4 = some m.cls := findClass_of_methodNamed B.named
  have hlocks := B.notSynchronized
  subst hsz
  have hD := wD_self (sz := s.heap.size) hD0
  have hA9 : ∀ q, s.heap.size ≤ q → wA ad G s.heap.size q := fun q h => Or.inr h
  generalize hAe : wA ad G s.heap.size = A at hD hA9 hZ ⊢
  have hS : va_S A s.heap s.heap [] := va_S.rf
  have hl := lv_entry ([.ref (ad a)]) (n := 1) (Nat.le_of_ble_eq_true rfl)
  rw [lg_entry_eq]
  generalize (lg_sl ([.ref (ad a)]) ++ List.replicate (1 - (lg_sl ([.ref (ad a)])).length) Slot.unset).toArray = ls at hl ⊢
  have hl : lv_has ls 1 [(0, .ref (ad a))] := hl
  unfold FX4_blocks at hF
  refine lv_aload_n hx hb dX4_blocks_0 rfl (lv_at hl 0 rfl) ?_
  refine va_get (D := D) (ci := 4) (v := .int (M.1 a 1)) (C := RX4) (T := TX4) (N := 18) hx hb hts (mus hf_X4) hown hK hP a (wld_o ct ad G M hc hk (by decide)) rfl 1 (by decide) (hts (.fieldLink RX4 33 "VideoSuite$Picture" "width" "I") (mu mw_1421)) (fun _ h9 => h9) rfl dX4_blocks_1 ?_
  obtain ⟨x1, ex1, hF⟩ := ltt_some hF
  refine lv_topi (fun zx1 ezx1 => ?_)
  obtain rfl : x1 = zx1 := ex1.trans ezx1.symm
  refine lv_aload_n hx hb dX4_blocks_4 rfl (lv_at hl 0 rfl) ?_
  refine va_get (D := D) (ci := 4) (v := .int (M.1 a 2)) (C := RX4) (T := TX4) (N := 18) hx hb hts (mus hf_X4) hown hK hP a (wld_o ct ad G M hc hk (by decide)) rfl 2 (by decide) (hts (.fieldLink RX4 36 "VideoSuite$Picture" "height" "I") (mu mw_1425)) (fun _ h9 => h9) rfl dX4_blocks_5 ?_
  obtain ⟨x2, ex2, hF⟩ := ltt_some hF
  refine lv_topi (fun zx2 ezx2 => ?_)
  obtain rfl : x2 = zx2 := ex2.trans ezx2.symm
  refine lv_imul hx hb dX4_blocks_8 ?_
  obtain ⟨x3, ex3, hF⟩ := ltt_some hF
  refine lv_topi (fun zx3 ezx3 => ?_)
  obtain rfl : x3 = zx3 := ex3.trans ezx3.symm
  obtain rfl := Option.some.inj hF
  exact W.iret (v := x3) hx hb hr (fun t ht hW => ⟨⟨_, (), rfl, rfl, ⟨by rw [ht]; exact hP, va_K.moved hW.alike hK, hD⟩⟩, hS.F ht⟩) hS.2.2 dX4_blocks_9
theorem dX4_farApart_0 : decode cX4_farApart 0 = .ok (.aload_n 0, 1) := by decide +kernel
theorem dX4_farApart_1 : decode cX4_farApart 1 = .ok (.getfield 26, 3) := by decide +kernel
theorem dX4_farApart_4 : decode cX4_farApart 4 = .ok (.iconst 2, 1) := by decide +kernel
theorem dX4_farApart_5 : decode cX4_farApart 5 = .ok (.iload_n 1, 1) := by decide +kernel
theorem dX4_farApart_6 : decode cX4_farApart 6 = .ok (.imul, 1) := by decide +kernel
theorem dX4_farApart_7 : decode cX4_farApart 7 = .ok (.iaload, 1) := by decide +kernel
theorem dX4_farApart_8 : decode cX4_farApart 8 = .ok (.aload_n 0, 1) := by decide +kernel
theorem dX4_farApart_9 : decode cX4_farApart 9 = .ok (.getfield 26, 3) := by decide +kernel
theorem dX4_farApart_12 : decode cX4_farApart 12 = .ok (.iconst 2, 1) := by decide +kernel
theorem dX4_farApart_13 : decode cX4_farApart 13 = .ok (.iload_n 2, 1) := by decide +kernel
theorem dX4_farApart_14 : decode cX4_farApart 14 = .ok (.imul, 1) := by decide +kernel
theorem dX4_farApart_15 : decode cX4_farApart 15 = .ok (.iaload, 1) := by decide +kernel
theorem dX4_farApart_16 : decode cX4_farApart 16 = .ok (.isub, 1) := by decide +kernel
theorem dX4_farApart_17 : decode cX4_farApart 17 = .ok (.istore_n 3, 1) := by decide +kernel
theorem dX4_farApart_18 : decode cX4_farApart 18 = .ok (.aload_n 0, 1) := by decide +kernel
theorem dX4_farApart_19 : decode cX4_farApart 19 = .ok (.getfield 26, 3) := by decide +kernel
theorem dX4_farApart_22 : decode cX4_farApart 22 = .ok (.iconst 2, 1) := by decide +kernel
theorem dX4_farApart_23 : decode cX4_farApart 23 = .ok (.iload_n 1, 1) := by decide +kernel
theorem dX4_farApart_24 : decode cX4_farApart 24 = .ok (.imul, 1) := by decide +kernel
theorem dX4_farApart_25 : decode cX4_farApart 25 = .ok (.iconst 1, 1) := by decide +kernel
theorem dX4_farApart_26 : decode cX4_farApart 26 = .ok (.iadd, 1) := by decide +kernel
theorem dX4_farApart_27 : decode cX4_farApart 27 = .ok (.iaload, 1) := by decide +kernel
theorem dX4_farApart_28 : decode cX4_farApart 28 = .ok (.aload_n 0, 1) := by decide +kernel
theorem dX4_farApart_29 : decode cX4_farApart 29 = .ok (.getfield 26, 3) := by decide +kernel
theorem dX4_farApart_32 : decode cX4_farApart 32 = .ok (.iconst 2, 1) := by decide +kernel
theorem dX4_farApart_33 : decode cX4_farApart 33 = .ok (.iload_n 2, 1) := by decide +kernel
theorem dX4_farApart_34 : decode cX4_farApart 34 = .ok (.imul, 1) := by decide +kernel
theorem dX4_farApart_35 : decode cX4_farApart 35 = .ok (.iconst 1, 1) := by decide +kernel
theorem dX4_farApart_36 : decode cX4_farApart 36 = .ok (.iadd, 1) := by decide +kernel
theorem dX4_farApart_37 : decode cX4_farApart 37 = .ok (.iaload, 1) := by decide +kernel
theorem dX4_farApart_38 : decode cX4_farApart 38 = .ok (.isub, 1) := by decide +kernel
theorem dX4_farApart_39 : decode cX4_farApart 39 = .ok (.istore 4, 2) := by decide +kernel
theorem dX4_farApart_41 : decode cX4_farApart 41 = .ok (.iload_n 3, 1) := by decide +kernel
theorem dX4_farApart_42 : decode cX4_farApart 42 = .ok (.iconst 4, 1) := by decide +kernel
theorem dX4_farApart_43 : decode cX4_farApart 43 = .ok (.if_icmp .ge 22, 3) := by decide +kernel
theorem dX4_farApart_46 : decode cX4_farApart 46 = .ok (.iload_n 3, 1) := by decide +kernel
theorem dX4_farApart_47 : decode cX4_farApart 47 = .ok (.bipush (-4), 2) := by decide +kernel
theorem dX4_farApart_49 : decode cX4_farApart 49 = .ok (.if_icmp .le 16, 3) := by decide +kernel
theorem dX4_farApart_52 : decode cX4_farApart 52 = .ok (.iload 4, 2) := by decide +kernel
theorem dX4_farApart_54 : decode cX4_farApart 54 = .ok (.iconst 4, 1) := by decide +kernel
theorem dX4_farApart_55 : decode cX4_farApart 55 = .ok (.if_icmp .ge 10, 3) := by decide +kernel
theorem dX4_farApart_58 : decode cX4_farApart 58 = .ok (.iload 4, 2) := by decide +kernel
theorem dX4_farApart_60 : decode cX4_farApart 60 = .ok (.bipush (-4), 2) := by decide +kernel
theorem dX4_farApart_62 : decode cX4_farApart 62 = .ok (.if_icmp .gt 7, 3) := by decide +kernel
theorem dX4_farApart_65 : decode cX4_farApart 65 = .ok (.iconst 1, 1) := by decide +kernel
theorem dX4_farApart_66 : decode cX4_farApart 66 = .ok (.goto 4, 3) := by decide +kernel
theorem dX4_farApart_69 : decode cX4_farApart 69 = .ok (.iconst 0, 1) := by decide +kernel
theorem dX4_farApart_70 : decode cX4_farApart 70 = .ok (.ireturn, 1) := by decide +kernel
def FX4_farApart (G : GG) (M : DD) (a : Nat) (p0 : Int32) (p1 : Int32) : Option (DD × Int32) :=
  ltt ((((2 : Int32)) * p0)) fun x1 =>
  dr G 13 ((M.2 a 7)) fun b2 =>
  chk (¬ (x1 < 0 ∨ G.2.2 b2 ≤ x1.toNatClampNeg)) <|
  ltt (M.1 b2 x1.toNatClampNeg) fun x3 =>
  ltt ((((2 : Int32)) * p1)) fun x4 =>
  chk (¬ (x4 < 0 ∨ G.2.2 b2 ≤ x4.toNatClampNeg)) <|
  ltt (M.1 b2 x4.toNatClampNeg) fun x5 =>
  ltt ((x3 - x5)) fun x6 =>
  ltt ((((2 : Int32)) * p0)) fun x7 =>
  ltt ((x7 + ((1 : Int32)))) fun x8 =>
  chk (¬ (x8 < 0 ∨ G.2.2 b2 ≤ x8.toNatClampNeg)) <|
  ltt (M.1 b2 x8.toNatClampNeg) fun x9 =>
  ltt ((((2 : Int32)) * p1)) fun x10 =>
  ltt ((x10 + ((1 : Int32)))) fun x11 =>
  chk (¬ (x11 < 0 ∨ G.2.2 b2 ≤ x11.toNatClampNeg)) <|
  ltt (M.1 b2 x11.toNatClampNeg) fun x12 =>
  ltt ((x9 - x12)) fun x13 =>
  bnd (if ((4 : Int32)) ≤ x6 then (some ((1 : Int32))) else
  (bnd (if x6 ≤ ((-4 : Int32)) then (some ((1 : Int32))) else
  (bnd (if ((4 : Int32)) ≤ x13 then (some ((1 : Int32))) else
  (bnd (if ((-4 : Int32)) < x13 then (some ((0 : Int32))) else
  (some ((1 : Int32)))) fun (y20 : Int32) =>
  some (y20))) fun (y18 : Int32) =>
  some (y18))) fun (y16 : Int32) =>
  some (y16))) fun (y14 : Int32) =>
  chk (y14 = 0 ∨ y14 = 1) <|
  some (M, y14)
set_option maxHeartbeats 4000000 in
set_option maxRecDepth 100000 in
theorem kX4_farApart (l : Launch) (D : va_G) (ct : CT) (ad : Nat → Nat) (Z : Nat → Nat) (G : GG) (M : DD) (sz : Nat) (a : Nat) (p0 : Int32) (p1 : Int32) (y : DD × Int32) (hc : a < G.1) (hk : G.2.1 a = 4) (hF : FX4_farApart G M a p0 p1 = some y) : Met l yX4_farApart wuX4_farApart ({ frames := 0, cells := 0, slots := 0, locals := 0 }) (va_Pc [.ref (ad a), .int p0, .int p1] (kB D ct ad Z G M sz)) (va_Qi (fun (q : Int32) (_ : Unit) => q = y.2) (fun _ t => kE D ct ad G (wA ad G sz) y.1 t) (wA ad G sz)) 0 0 (wA ad G sz) := by
  refine Met.ofW (cc := cX4_farApart) (maxL := 5) (ret := (some .boolean)) (by decide) rfl ?_
  intro p e s m args below meth c s₁ B hml hv
  obtain ⟨rfl, hsz, hP, hK, hD0, hZ, hN⟩ := hv
  have hx := B.exec
  have hb := B.bytes
  have hr := B.returns
  have hts := atoms_spec (ws := wuX4_farApart) B.pre
  have hown : s.vm.findClass RX4 = some m.cls := findClass_of_methodNamed B.named
  have hlocks := B.notSynchronized
  subst hsz
  have hD := wD_self (sz := s.heap.size) hD0
  have hA9 : ∀ q, s.heap.size ≤ q → wA ad G s.heap.size q := fun q h => Or.inr h
  generalize hAe : wA ad G s.heap.size = A at hD hA9 hZ ⊢
  have hS : va_S A s.heap s.heap [] := va_S.rf
  have hl := lv_entry ([.ref (ad a), .int p0, .int p1]) (n := 5) (Nat.le_of_ble_eq_true rfl)
  rw [lg_entry_eq]
  generalize (lg_sl ([.ref (ad a), .int p0, .int p1]) ++ List.replicate (5 - (lg_sl ([.ref (ad a), .int p0, .int p1])).length) Slot.unset).toArray = ls at hl ⊢
  have hl : lv_has ls 5 [(0, .ref (ad a)), (1, .int p0), (2, .int p1)] := hl
  unfold FX4_farApart at hF
  refine lv_aload_n hx hb dX4_farApart_0 rfl (lv_at hl 0 rfl) ?_
  refine va_get (D := D) (ci := 4) (v := va_re ad (M.2 a 7)) (C := RX4) (T := TX4) (N := 18) hx hb hts (mus hf_X4) hown hK hP a (wld_o ct ad G M hc hk (by decide)) rfl 7 (by decide) (hts (.fieldLink RX4 26 "VideoSuite$Picture" "move" "[I") (mu mw_1444)) (fun _ h9 => h9) rfl dX4_farApart_1 ?_
  refine lv_iconst (v := (2 : Int32)) hx hb dX4_farApart_4 (by decide) ?_
  refine lv_iload_n hx hb dX4_farApart_5 rfl (lv_at hl 1 rfl) ?_
  refine lv_imul hx hb dX4_farApart_6 ?_
  obtain ⟨x1, ex1, hF⟩ := ltt_some hF
  refine lv_topi (fun zx1 ezx1 => ?_)
  obtain rfl : x1 = zx1 := ex1.trans ezx1.symm
  obtain ⟨b2, ho2, hc2, hk2, hF⟩ := dr_some hF
  refine W_st (st' := [.int x1, .ref (ad b2)]) (by rw [va_some ho2]) ?_
  obtain ⟨hvc, hF⟩ := chk_some hF
  refine va_iald hx hb hK hP b2 1 (wld_i ct ad G M hc2 hk2) rfl hvc dX4_farApart_7 ?_
  obtain ⟨x3, ex3, hF⟩ := ltt_some hF
  refine lv_topi (fun zx3 ezx3 => ?_)
  obtain rfl : x3 = zx3 := ex3.trans ezx3.symm
  refine lv_aload_n hx hb dX4_farApart_8 rfl (lv_at hl 0 rfl) ?_
  refine va_get (D := D) (ci := 4) (v := va_re ad (M.2 a 7)) (C := RX4) (T := TX4) (N := 18) hx hb hts (mus hf_X4) hown hK hP a (wld_o ct ad G M hc hk (by decide)) rfl 7 (by decide) (hts (.fieldLink RX4 26 "VideoSuite$Picture" "move" "[I") (mu mw_1444)) (fun _ h9 => h9) rfl dX4_farApart_9 ?_
  refine lv_iconst (v := (2 : Int32)) hx hb dX4_farApart_12 (by decide) ?_
  refine lv_iload_n hx hb dX4_farApart_13 rfl (lv_at hl 2 rfl) ?_
  refine lv_imul hx hb dX4_farApart_14 ?_
  obtain ⟨x4, ex4, hF⟩ := ltt_some hF
  refine lv_topi (fun zx4 ezx4 => ?_)
  obtain rfl : x4 = zx4 := ex4.trans ezx4.symm
  refine W_st (st' := [.int x4, .ref (ad b2), .int x3]) (by rw [va_some ho2]) ?_
  obtain ⟨hvc, hF⟩ := chk_some hF
  refine va_iald hx hb hK hP b2 1 (wld_i ct ad G M hc2 hk2) rfl hvc dX4_farApart_15 ?_
  obtain ⟨x5, ex5, hF⟩ := ltt_some hF
  refine lv_topi (fun zx5 ezx5 => ?_)
  obtain rfl : x5 = zx5 := ex5.trans ezx5.symm
  refine lv_isub hx hb dX4_farApart_16 ?_
  obtain ⟨x6, ex6, hF⟩ := ltt_some hF
  refine lv_topi (fun zx6 ezx6 => ?_)
  obtain rfl : x6 = zx6 := ex6.trans ezx6.symm
  refine lv_istore_n (lv' := [(3, .int x6), (0, .ref (ad a)), (1, .int p0), (2, .int p1)]) hx hb dX4_farApart_17 rfl hl (by decide) rfl (fun ls hl => ?_)
  refine lv_aload_n hx hb dX4_farApart_18 rfl (lv_at hl 1 rfl) ?_
  refine va_get (D := D) (ci := 4) (v := va_re ad (M.2 a 7)) (C := RX4) (T := TX4) (N := 18) hx hb hts (mus hf_X4) hown hK hP a (wld_o ct ad G M hc hk (by decide)) rfl 7 (by decide) (hts (.fieldLink RX4 26 "VideoSuite$Picture" "move" "[I") (mu mw_1444)) (fun _ h9 => h9) rfl dX4_farApart_19 ?_
  refine lv_iconst (v := (2 : Int32)) hx hb dX4_farApart_22 (by decide) ?_
  refine lv_iload_n hx hb dX4_farApart_23 rfl (lv_at hl 2 rfl) ?_
  refine lv_imul hx hb dX4_farApart_24 ?_
  obtain ⟨x7, ex7, hF⟩ := ltt_some hF
  refine lv_topi (fun zx7 ezx7 => ?_)
  obtain rfl : x7 = zx7 := ex7.trans ezx7.symm
  refine lv_iconst (v := (1 : Int32)) hx hb dX4_farApart_25 (by decide) ?_
  refine lv_iadd hx hb dX4_farApart_26 ?_
  obtain ⟨x8, ex8, hF⟩ := ltt_some hF
  refine lv_topi (fun zx8 ezx8 => ?_)
  obtain rfl : x8 = zx8 := ex8.trans ezx8.symm
  refine W_st (st' := [.int x8, .ref (ad b2)]) (by rw [va_some ho2]) ?_
  obtain ⟨hvc, hF⟩ := chk_some hF
  refine va_iald hx hb hK hP b2 1 (wld_i ct ad G M hc2 hk2) rfl hvc dX4_farApart_27 ?_
  obtain ⟨x9, ex9, hF⟩ := ltt_some hF
  refine lv_topi (fun zx9 ezx9 => ?_)
  obtain rfl : x9 = zx9 := ex9.trans ezx9.symm
  refine lv_aload_n hx hb dX4_farApart_28 rfl (lv_at hl 1 rfl) ?_
  refine va_get (D := D) (ci := 4) (v := va_re ad (M.2 a 7)) (C := RX4) (T := TX4) (N := 18) hx hb hts (mus hf_X4) hown hK hP a (wld_o ct ad G M hc hk (by decide)) rfl 7 (by decide) (hts (.fieldLink RX4 26 "VideoSuite$Picture" "move" "[I") (mu mw_1444)) (fun _ h9 => h9) rfl dX4_farApart_29 ?_
  refine lv_iconst (v := (2 : Int32)) hx hb dX4_farApart_32 (by decide) ?_
  refine lv_iload_n hx hb dX4_farApart_33 rfl (lv_at hl 3 rfl) ?_
  refine lv_imul hx hb dX4_farApart_34 ?_
  obtain ⟨x10, ex10, hF⟩ := ltt_some hF
  refine lv_topi (fun zx10 ezx10 => ?_)
  obtain rfl : x10 = zx10 := ex10.trans ezx10.symm
  refine lv_iconst (v := (1 : Int32)) hx hb dX4_farApart_35 (by decide) ?_
  refine lv_iadd hx hb dX4_farApart_36 ?_
  obtain ⟨x11, ex11, hF⟩ := ltt_some hF
  refine lv_topi (fun zx11 ezx11 => ?_)
  obtain rfl : x11 = zx11 := ex11.trans ezx11.symm
  refine W_st (st' := [.int x11, .ref (ad b2), .int x9]) (by rw [va_some ho2]) ?_
  obtain ⟨hvc, hF⟩ := chk_some hF
  refine va_iald hx hb hK hP b2 1 (wld_i ct ad G M hc2 hk2) rfl hvc dX4_farApart_37 ?_
  obtain ⟨x12, ex12, hF⟩ := ltt_some hF
  refine lv_topi (fun zx12 ezx12 => ?_)
  obtain rfl : x12 = zx12 := ex12.trans ezx12.symm
  refine lv_isub hx hb dX4_farApart_38 ?_
  obtain ⟨x13, ex13, hF⟩ := ltt_some hF
  refine lv_topi (fun zx13 ezx13 => ?_)
  obtain rfl : x13 = zx13 := ex13.trans ezx13.symm
  refine lv_istore (lv' := [(4, .int x13), (3, .int x6), (0, .ref (ad a)), (1, .int p0), (2, .int p1)]) hx hb dX4_farApart_39 hl (by decide) rfl (fun ls hl => ?_)
  refine lv_iload_n hx hb dX4_farApart_41 rfl (lv_at hl 1 rfl) ?_
  refine lv_iconst (v := (4 : Int32)) hx hb dX4_farApart_42 (by decide) ?_
  obtain ⟨y14, hy14, hF⟩ := bnd_some hF
  have J14 : ∀ (H : Heap) (locs : List Loc) (ls : Array Slot), va_P D classes (wld ct ad G M) H → va_D A (wld ct ad G M) → va_S A s.heap H locs → lv_has ls 5 [(4, .int x13), (3, .int x6), (0, .ref (ad a)), (1, .int p0), (2, .int p1)] → W p l e (headSpec wuX4_farApart ({ frames := 0, cells := 0, slots := 0, locals := 0 })).room s m ([.ref (ad a), .int p0, .int p1] : List Value).toArray below meth c H locs 0 0 (MQ below (va_Qi (fun (q : Int32) (_ : Unit) => q = y.2) (fun _ t => kE D ct ad G A y.1 t) A) ([.ref (ad a), .int p0, .int p1] : List Value).toArray s 0 0 A) (F0 m 70 ls [.int y14]) := by
    intro H locs ls hP hD hS hl
    obtain ⟨hz9, hF⟩ := chk_some hF
    obtain rfl := Option.some.inj hF
    exact W.zret (v := y14) (ty := .boolean) hx hb hr (nar_z hz9).1 (fun t ht hW => ⟨⟨_, (), rfl, rfl, ⟨by rw [ht]; exact hP, va_K.moved hW.alike hK, hD⟩⟩, hS.F ht⟩) hS.2.2 dX4_farApart_70
  clear hF
  have hF := hy14
  clear hy14
  refine lv_icmp_ge (tgt := 65) hx hb dX4_farApart_43 (by decide) (fun c15 => ?_) (fun c15 => ?_)
  · rw [if_pos c15] at hF
    refine lv_iconst (v := (1 : Int32)) hx hb dX4_farApart_65 (by decide) ?_
    refine lv_goto (tgt := 70) hx hb dX4_farApart_66 (by decide) ?_
    obtain rfl := Option.some.inj hF
    exact J14 _ _ _ hP hD hS (lv_sub hl [0, 1, 2, 3, 4] rfl)
  · rw [if_neg c15] at hF
    refine lv_iload_n hx hb dX4_farApart_46 rfl (lv_at hl 1 rfl) ?_
    refine lv_bipush (v := (-4 : Int32)) hx hb dX4_farApart_47 (by decide) ?_
    obtain ⟨y16, hy16, hF⟩ := bnd_some hF
    have J16 : ∀ (H : Heap) (locs : List Loc) (ls : Array Slot), va_P D classes (wld ct ad G M) H → va_D A (wld ct ad G M) → va_S A s.heap H locs → lv_has ls 5 [(4, .int x13), (3, .int x6), (0, .ref (ad a)), (1, .int p0), (2, .int p1)] → W p l e (headSpec wuX4_farApart ({ frames := 0, cells := 0, slots := 0, locals := 0 })).room s m ([.ref (ad a), .int p0, .int p1] : List Value).toArray below meth c H locs 0 0 (MQ below (va_Qi (fun (q : Int32) (_ : Unit) => q = y.2) (fun _ t => kE D ct ad G A y.1 t) A) ([.ref (ad a), .int p0, .int p1] : List Value).toArray s 0 0 A) (F0 m 70 ls [.int y16]) := by
      intro H locs ls hP hD hS hl
      obtain rfl := Option.some.inj hF
      exact J14 _ _ _ hP hD hS (lv_sub hl [0, 1, 2, 3, 4] rfl)
    clear hF
    have hF := hy16
    clear hy16
    refine lv_icmp_le (tgt := 65) hx hb dX4_farApart_49 (by decide) (fun c17 => ?_) (fun c17 => ?_)
    · rw [if_pos c17] at hF
      refine lv_iconst (v := (1 : Int32)) hx hb dX4_farApart_65 (by decide) ?_
      refine lv_goto (tgt := 70) hx hb dX4_farApart_66 (by decide) ?_
      obtain rfl := Option.some.inj hF
      exact J16 _ _ _ hP hD hS (lv_sub hl [0, 1, 2, 3, 4] rfl)
    · rw [if_neg c17] at hF
      refine lv_iload hx hb dX4_farApart_52 (lv_at hl 0 rfl) ?_
      refine lv_iconst (v := (4 : Int32)) hx hb dX4_farApart_54 (by decide) ?_
      obtain ⟨y18, hy18, hF⟩ := bnd_some hF
      have J18 : ∀ (H : Heap) (locs : List Loc) (ls : Array Slot), va_P D classes (wld ct ad G M) H → va_D A (wld ct ad G M) → va_S A s.heap H locs → lv_has ls 5 [(4, .int x13), (3, .int x6), (0, .ref (ad a)), (1, .int p0), (2, .int p1)] → W p l e (headSpec wuX4_farApart ({ frames := 0, cells := 0, slots := 0, locals := 0 })).room s m ([.ref (ad a), .int p0, .int p1] : List Value).toArray below meth c H locs 0 0 (MQ below (va_Qi (fun (q : Int32) (_ : Unit) => q = y.2) (fun _ t => kE D ct ad G A y.1 t) A) ([.ref (ad a), .int p0, .int p1] : List Value).toArray s 0 0 A) (F0 m 70 ls [.int y18]) := by
        intro H locs ls hP hD hS hl
        obtain rfl := Option.some.inj hF
        exact J16 _ _ _ hP hD hS (lv_sub hl [0, 1, 2, 3, 4] rfl)
      clear hF
      have hF := hy18
      clear hy18
      refine lv_icmp_ge (tgt := 65) hx hb dX4_farApart_55 (by decide) (fun c19 => ?_) (fun c19 => ?_)
      · rw [if_pos c19] at hF
        refine lv_iconst (v := (1 : Int32)) hx hb dX4_farApart_65 (by decide) ?_
        refine lv_goto (tgt := 70) hx hb dX4_farApart_66 (by decide) ?_
        obtain rfl := Option.some.inj hF
        exact J18 _ _ _ hP hD hS (lv_sub hl [0, 1, 2, 3, 4] rfl)
      · rw [if_neg c19] at hF
        refine lv_iload hx hb dX4_farApart_58 (lv_at hl 0 rfl) ?_
        refine lv_bipush (v := (-4 : Int32)) hx hb dX4_farApart_60 (by decide) ?_
        obtain ⟨y20, hy20, hF⟩ := bnd_some hF
        have J20 : ∀ (H : Heap) (locs : List Loc) (ls : Array Slot), va_P D classes (wld ct ad G M) H → va_D A (wld ct ad G M) → va_S A s.heap H locs → lv_has ls 5 [(4, .int x13), (3, .int x6), (0, .ref (ad a)), (1, .int p0), (2, .int p1)] → W p l e (headSpec wuX4_farApart ({ frames := 0, cells := 0, slots := 0, locals := 0 })).room s m ([.ref (ad a), .int p0, .int p1] : List Value).toArray below meth c H locs 0 0 (MQ below (va_Qi (fun (q : Int32) (_ : Unit) => q = y.2) (fun _ t => kE D ct ad G A y.1 t) A) ([.ref (ad a), .int p0, .int p1] : List Value).toArray s 0 0 A) (F0 m 70 ls [.int y20]) := by
          intro H locs ls hP hD hS hl
          obtain rfl := Option.some.inj hF
          exact J18 _ _ _ hP hD hS (lv_sub hl [0, 1, 2, 3, 4] rfl)
        clear hF
        have hF := hy20
        clear hy20
        refine lv_icmp_gt (tgt := 69) hx hb dX4_farApart_62 (by decide) (fun c21 => ?_) (fun c21 => ?_)
        · rw [if_pos c21] at hF
          refine lv_iconst (v := (0 : Int32)) hx hb dX4_farApart_69 (by decide) ?_
          obtain rfl := Option.some.inj hF
          exact J20 _ _ _ hP hD hS (lv_sub hl [0, 1, 2, 3, 4] rfl)
        · rw [if_neg c21] at hF
          refine lv_iconst (v := (1 : Int32)) hx hb dX4_farApart_65 (by decide) ?_
          refine lv_goto (tgt := 70) hx hb dX4_farApart_66 (by decide) ?_
          obtain rfl := Option.some.inj hF
          exact J20 _ _ _ hP hD hS (lv_sub hl [0, 1, 2, 3, 4] rfl)
theorem dX4_init_0 : decode cX4_init 0 = .ok (.aload_n 0, 1) := by decide +kernel
theorem dX4_init_1 : decode cX4_init 1 = .ok (.invokespecial 3, 3) := by decide +kernel
theorem dX4_init_4 : decode cX4_init 4 = .ok (.aload_n 0, 1) := by decide +kernel
theorem dX4_init_5 : decode cX4_init 5 = .ok (.iconst 4, 1) := by decide +kernel
theorem dX4_init_6 : decode cX4_init 6 = .ok (.newarray .int, 2) := by decide +kernel
theorem dX4_init_8 : decode cX4_init 8 = .ok (.putfield 9, 3) := by decide +kernel
theorem dX4_init_11 : decode cX4_init 11 = .ok (.aload_n 0, 1) := by decide +kernel
theorem dX4_init_12 : decode cX4_init 12 = .ok (.iconst 3, 1) := by decide +kernel
theorem dX4_init_13 : decode cX4_init 13 = .ok (.iconst 0, 1) := by decide +kernel
theorem dX4_init_14 : decode cX4_init 14 = .ok (.multianewarray 15 2, 4) := by decide +kernel
theorem dX4_init_18 : decode cX4_init 18 = .ok (.putfield 17, 3) := by decide +kernel
theorem dX4_init_21 : decode cX4_init 21 = .ok (.aload_n 0, 1) := by decide +kernel
theorem dX4_init_22 : decode cX4_init 22 = .ok (.sipush 1024, 3) := by decide +kernel
theorem dX4_init_25 : decode cX4_init 25 = .ok (.newarray .int, 2) := by decide +kernel
theorem dX4_init_27 : decode cX4_init 27 = .ok (.putfield 20, 3) := by decide +kernel
theorem dX4_init_30 : decode cX4_init 30 = .ok (.aload_n 0, 1) := by decide +kernel
theorem dX4_init_31 : decode cX4_init 31 = .ok (.sipush 1024, 3) := by decide +kernel
theorem dX4_init_34 : decode cX4_init 34 = .ok (.newarray .int, 2) := by decide +kernel
theorem dX4_init_36 : decode cX4_init 36 = .ok (.putfield 23, 3) := by decide +kernel
theorem dX4_init_39 : decode cX4_init 39 = .ok (.aload_n 0, 1) := by decide +kernel
theorem dX4_init_40 : decode cX4_init 40 = .ok (.sipush 2048, 3) := by decide +kernel
theorem dX4_init_43 : decode cX4_init 43 = .ok (.newarray .int, 2) := by decide +kernel
theorem dX4_init_45 : decode cX4_init 45 = .ok (.putfield 26, 3) := by decide +kernel
theorem dX4_init_48 : decode cX4_init 48 = .ok (.return_, 1) := by decide +kernel
noncomputable def FX4_init (G : GG) (M : DD) (a : Nat)  : Option (NN × DD) :=
  chkP (Clo (xt G []) M) <|
  chk (¬ ((4 : Int32)) < 0 ∧ ((4 : Int32)).toNatClampNeg * 4 ≤ 536870912) <|
  ltt ((xt G []).1) fun c2 =>
  app [(13, ((4 : Int32)).toNatClampNeg)] <|
  ltt ([] ++ [(13, ((4 : Int32)).toNatClampNeg)]) fun L4 =>
  ltt (rO M c2) fun M5 =>
  ltt (uP M5 a 3 (some c2)) fun M8 =>
  chkP (Clo (xt G L4) M8) <|
  ltt ((xt G L4).1) fun c10 =>
  app (mrel 3 0) <|
  ltt (L4 ++ mrel 3 0) fun L12 =>
  ltt (mM M8 c10 3) fun M13 =>
  ltt (uP M13 a 4 (some c10)) fun M16 =>
  chkP (Clo (xt G L12) M16) <|
  chk (¬ ((1024 : Int32)) < 0 ∧ ((1024 : Int32)).toNatClampNeg * 4 ≤ 536870912) <|
  ltt ((xt G L12).1) fun c18 =>
  app [(13, ((1024 : Int32)).toNatClampNeg)] <|
  ltt (L12 ++ [(13, ((1024 : Int32)).toNatClampNeg)]) fun L20 =>
  ltt (rO M16 c18) fun M21 =>
  ltt (uP M21 a 5 (some c18)) fun M24 =>
  chkP (Clo (xt G L20) M24) <|
  chk (¬ ((1024 : Int32)) < 0 ∧ ((1024 : Int32)).toNatClampNeg * 4 ≤ 536870912) <|
  ltt ((xt G L20).1) fun c26 =>
  app [(13, ((1024 : Int32)).toNatClampNeg)] <|
  ltt (L20 ++ [(13, ((1024 : Int32)).toNatClampNeg)]) fun L28 =>
  ltt (rO M24 c26) fun M29 =>
  ltt (uP M29 a 6 (some c26)) fun M32 =>
  chkP (Clo (xt G L28) M32) <|
  chk (¬ ((2048 : Int32)) < 0 ∧ ((2048 : Int32)).toNatClampNeg * 4 ≤ 536870912) <|
  ltt ((xt G L28).1) fun c34 =>
  app [(13, ((2048 : Int32)).toNatClampNeg)] <|
  ltt (L28 ++ [(13, ((2048 : Int32)).toNatClampNeg)]) fun L36 =>
  ltt (rO M32 c34) fun M37 =>
  ltt (uP M37 a 7 (some c34)) fun M40 =>
  some ([], M40)
set_option maxHeartbeats 4000000 in
set_option maxRecDepth 100000 in
theorem kX4_init (l : Launch) (D : va_G) (ct : CT) (ad : Nat → Nat) (Z : Nat → Nat) (G : GG) (M : DD) (sz : Nat) (a : Nat)  (y : NN × DD) (hc : a < G.1) (hk : G.2.1 a = 4) (hF : FX4_init G M a  = some y) : Met l yX4_init wuX4_init ({ frames := 1, cells := y.1.length, slots := wt y.1, locals := 20 }) (va_Pc [.ref (ad a)] (kB D ct ad Z G M sz)) (va_Qv (fun (u : Nat → Nat) => agr G.1 ad u) (fun u t => kE D ct u (xt G y.1) (wA ad G sz) y.2 t) (wA ad G sz)) y.1.length (wt y.1) (wA ad G sz) := by
  refine Met.ofW (cc := cX4_init) (maxL := 1) (ret := none) (by decide) rfl ?_
  intro p e s m args below meth c s₁ B hml hv
  obtain ⟨rfl, hsz, hP, hK, hD0, hZ, hN⟩ := hv
  have hx := B.exec
  have hb := B.bytes
  have hr := B.returns
  have hts := atoms_spec (ws := wuX4_init) B.pre
  have hown : s.vm.findClass RX4 = some m.cls := findClass_of_methodNamed B.named
  have hlocks := B.notSynchronized
  have hin : meth.name = "<init>" := (name_of_methodNamed B.named B.method).1
  subst hsz
  have hD := wD_self (sz := s.heap.size) hD0
  have hA9 : ∀ q, s.heap.size ≤ q → wA ad G s.heap.size q := fun q h => Or.inr h
  generalize hAe : wA ad G s.heap.size = A at hD hA9 hZ ⊢
  have hS : va_S A s.heap s.heap [] := va_S.rf
  have hl := lv_entry ([.ref (ad a)]) (n := 1) (Nat.le_of_ble_eq_true rfl)
  rw [lg_entry_eq]
  generalize (lg_sl ([.ref (ad a)]) ++ List.replicate (1 - (lg_sl ([.ref (ad a)])).length) Slot.unset).toArray = ls at hl ⊢
  have hl : lv_has ls 1 [(0, .ref (ad a))] := hl
  unfold FX4_init at hF
  rw [← wld_0 ct ad G M] at hP hD
  have hk := xt_k0 hc hk
  have hc := xt_l0 hc
  have hag := agr_rf G.1 ad
  obtain ⟨w0, hw0⟩ : ∃ z, z = y := ⟨_, rfl⟩
  rw [← hw0] at hF
  have hT : y.1 = [] ++ w0.1 := by rw [hw0]; rfl
  have h2 : y.2 = w0.2 := by rw [hw0]
  have hbl : y.1.length ≤ y.1.length ∧ wt y.1 ≤ wt y.1 := ⟨Nat.le_refl _, Nat.le_refl _⟩
  refine lv_aload_n hx hb dX4_init_0 rfl (lv_at hl 0 rfl) ?_
  refine W.objInit hx hb hown (hts (.methodLink RX4 3 objectInit) (mu mw_1416)) (hts (.instanceMethod objectInit) (mu mw_202)) (hts (.code objectInit ⟨#[0xb1]⟩ 1 none) (mu mw_203)) rfl (by rw [hml]; exact hl.1) rfl dX4_init_1 (Nat.le_of_ble_eq_true rfl) (Nat.le_of_ble_eq_true rfl) ?_
  refine W.eq (g2 := F0 m 4 ls []) rfl ?_
  refine lv_aload_n hx hb dX4_init_4 rfl (lv_at hl 0 rfl) ?_
  refine lv_iconst (v := (4 : Int32)) hx hb dX4_init_5 (by decide) ?_
  obtain ⟨hC1, hF⟩ := chkP_some hF
  obtain ⟨hz9, hF⟩ := chk_some hF
  obtain ⟨c2, ec2, hF⟩ := ltt_some hF
  obtain ⟨w3, hF, ew3⟩ := app_some hF
  obtain ⟨L4, eL4, hF⟩ := ltt_some hF
  have hT4 : y.1 = ([] ++ [(13, ((4 : Int32)).toNatClampNeg)]) ++ w3.1 := by rw [hT, ew3]; simp only [List.append_assoc]
  obtain ⟨M5, eM5, hF⟩ := ltt_some hF
  refine new_i hx hb (hts (.arrayClass .int) (mu mw_266)) hK hP hD hS hA9 hz9.1 hz9.2 hC1 (room_1s hT4 hbl) dX4_init_6 (fun ad6 H hn7 hP hD hS => ?_)
  rw [← ec2, ← eL4, ← eM5] at hP hD
  refine W_cs (k := L4.length) (n := wt L4) (by rw [eL4]) (by rw [eL4]) ?_
  refine W_st (st' := [.ref (ad6 c2), .ref (ad a)]) (by rw [ec2]) ?_
  have hT : y.1 = L4 ++ w3.1 := by rw [hT4, eL4]
  have h2 : y.2 = w3.2 := by rw [h2, ew3]
  have hl := lv_sub (l' := [(0, .ref (ad a))]) hl [0] rfl
  have e9 : ([(0, .ref (ad a))] : List (Nat × Value)) = [(0, .ref (ad6 a))] := (by first | rfl | simp only [hn7 a hc])
  rw [e9] at hl
  clear e9
  refine W_st (st' := [.ref (ad6 c2), .ref (ad6 a)]) (by first | rfl | simp only [hn7 a hc]) ?_
  have hk : (xt G L4).2.1 a = 4 := by rw [eL4]; exact xt_k _ hc hk
  have hc : a < (xt G L4).1 := by rw [eL4]; exact xt_l _ hc
  have hag := agr_t (xt_ge _ _) hag hn7
  have hc2 : c2 < (xt G L4).1 := by rw [ec2, eL4]; exact cnt_new _ _ _
  have hk2 : (xt G L4).2.1 c2 = 13 := by rw [ec2, eL4]; exact (kind_new _ _ _ _).1
  refine va_putF (D := D) (ci := 4) (v := va_re ad6 (some c2)) (ty := (.array .int)) (C := RX4) (T := TX4) (N := 18) hx hb hts (mus hf_X4) tyX4 tyX4_ok nmX4 hown hK hP hD hS a (wld_o ct ad6 (xt G L4) M5 hc hk (by decide)) rfl 3 (by decide) (hts (.fieldLink RX4 9 "VideoSuite$Picture" "crop" "[I") (mu mw_1428)) (fun _ h9 => h9) rfl hin rfl (by decide +kernel) (nar_q ad6 (Or.inr ⟨_, rfl⟩) (some c2)).1 (nar_q ad6 (Or.inr ⟨_, rfl⟩) (some c2)).2 (Nat.le_of_ble_eq_true rfl) dX4_init_8 (fun H locs hP hD hS => ?_)
  obtain ⟨M8, eM8, hF⟩ := ltt_some hF
  rw [set_oP ct ad6 (xt G L4) M5 hc hk (by decide) (by rfl), ← eM8] at hP hD
  refine lv_aload_n hx hb dX4_init_11 rfl (lv_at hl 0 rfl) ?_
  refine lv_iconst (v := (3 : Int32)) hx hb dX4_init_12 (by decide) ?_
  refine lv_iconst (v := (0 : Int32)) hx hb dX4_init_13 (by decide) ?_
  obtain ⟨hC9, hF⟩ := chkP_some hF
  obtain ⟨c10, ec10, hF⟩ := ltt_some hF
  obtain ⟨w11, hF, ew11⟩ := app_some hF
  obtain ⟨L12, eL12, hF⟩ := ltt_some hF
  have hT12 : y.1 = (L4 ++ mrel 3 0) ++ w11.1 := by rw [hT, ew11]; simp only [List.append_assoc]
  obtain ⟨M13, eM13, hF⟩ := ltt_some hF
  refine new_g (n := (3 : Int32)) (k := (0 : Int32)) (n0 := 3) (k0 := 0) hx hb hown (hts (.classLink RX4 15 "[[I") (mu mw_1417)) (va_AOA.use hN.2.2.1) (hts (.arrayClass .int) (mu mw_266)) hK hP hD hS hA9 (by decide) (by decide) rfl rfl (by decide) (by decide) hC9 (room_s hT12 hbl) dX4_init_14 (fun ad14 H hn15 hP hD hS => ?_)
  rw [← eL12, ← ec10] at hP hD
  rw [← eM13] at hP hD
  refine W_cs (k := L12.length) (n := wt L12) (by rw [eL12]) (by rw [eL12]) ?_
  refine W_st (st' := [.ref (ad14 c10), .ref (ad6 a)]) (by rw [ec10]) ?_
  have hT : y.1 = L12 ++ w11.1 := by rw [hT12, eL12]
  have h2 : y.2 = w11.2 := by rw [h2, ew11]
  have hl := lv_sub (l' := [(0, .ref (ad6 a))]) hl [0] rfl
  have e9 : ([(0, .ref (ad6 a))] : List (Nat × Value)) = [(0, .ref (ad14 a))] := (by first | rfl | simp only [hn15 a hc])
  rw [e9] at hl
  clear e9
  refine W_st (st' := [.ref (ad14 c10), .ref (ad14 a)]) (by first | rfl | simp only [hn15 a hc]) ?_
  have hk : (xt G L12).2.1 a = 4 := by rw [eL12]; exact xt_k _ hc hk
  have hc : a < (xt G L12).1 := by rw [eL12]; exact xt_l _ hc
  have hk2 : (xt G L12).2.1 c2 = 13 := by rw [eL12]; exact xt_k _ hc2 hk2
  have hc2 : c2 < (xt G L12).1 := by rw [eL12]; exact xt_l _ hc2
  have hag := agr_t (xt_ge _ _) hag hn15
  have hc10 : c10 < (xt G L12).1 := by rw [ec10, eL12]; exact cnt_g _ _ _ _
  have hk10 : (xt G L12).2.1 c10 = 15 := by rw [ec10, eL12]; exact kind_g _ _ _ _
  refine va_putF (D := D) (ci := 4) (v := va_re ad14 (some c10)) (ty := (.array (.array .int))) (C := RX4) (T := TX4) (N := 18) hx hb hts (mus hf_X4) tyX4 tyX4_ok nmX4 hown hK hP hD hS a (wld_o ct ad14 (xt G L12) M13 hc hk (by decide)) rfl 4 (by decide) (hts (.fieldLink RX4 17 "VideoSuite$Picture" "plane" "[[I") (mu mw_1431)) (fun _ h9 => h9) rfl hin rfl (by decide +kernel) (nar_q ad14 (Or.inr ⟨_, rfl⟩) (some c10)).1 (nar_q ad14 (Or.inr ⟨_, rfl⟩) (some c10)).2 (Nat.le_of_ble_eq_true rfl) dX4_init_18 (fun H locs hP hD hS => ?_)
  obtain ⟨M16, eM16, hF⟩ := ltt_some hF
  rw [set_oP ct ad14 (xt G L12) M13 hc hk (by decide) (by rfl), ← eM16] at hP hD
  refine lv_aload_n hx hb dX4_init_21 rfl (lv_at hl 0 rfl) ?_
  refine lv_sipush (v := (1024 : Int32)) hx hb dX4_init_22 (by decide) ?_
  obtain ⟨hC17, hF⟩ := chkP_some hF
  obtain ⟨hz9, hF⟩ := chk_some hF
  obtain ⟨c18, ec18, hF⟩ := ltt_some hF
  obtain ⟨w19, hF, ew19⟩ := app_some hF
  obtain ⟨L20, eL20, hF⟩ := ltt_some hF
  have hT20 : y.1 = (L12 ++ [(13, ((1024 : Int32)).toNatClampNeg)]) ++ w19.1 := by rw [hT, ew19]; simp only [List.append_assoc]
  obtain ⟨M21, eM21, hF⟩ := ltt_some hF
  refine new_i hx hb (hts (.arrayClass .int) (mu mw_266)) hK hP hD hS hA9 hz9.1 hz9.2 hC17 (room_1s hT20 hbl) dX4_init_25 (fun ad22 H hn23 hP hD hS => ?_)
  rw [← ec18, ← eL20, ← eM21] at hP hD
  refine W_cs (k := L20.length) (n := wt L20) (by rw [eL20]) (by rw [eL20]) ?_
  refine W_st (st' := [.ref (ad22 c18), .ref (ad14 a)]) (by rw [ec18]) ?_
  have hT : y.1 = L20 ++ w19.1 := by rw [hT20, eL20]
  have h2 : y.2 = w19.2 := by rw [h2, ew19]
  have hl := lv_sub (l' := [(0, .ref (ad14 a))]) hl [0] rfl
  have e9 : ([(0, .ref (ad14 a))] : List (Nat × Value)) = [(0, .ref (ad22 a))] := (by first | rfl | simp only [hn23 a hc])
  rw [e9] at hl
  clear e9
  refine W_st (st' := [.ref (ad22 c18), .ref (ad22 a)]) (by first | rfl | simp only [hn23 a hc]) ?_
  have hk : (xt G L20).2.1 a = 4 := by rw [eL20]; exact xt_k _ hc hk
  have hc : a < (xt G L20).1 := by rw [eL20]; exact xt_l _ hc
  have hk2 : (xt G L20).2.1 c2 = 13 := by rw [eL20]; exact xt_k _ hc2 hk2
  have hc2 : c2 < (xt G L20).1 := by rw [eL20]; exact xt_l _ hc2
  have hk10 : (xt G L20).2.1 c10 = 15 := by rw [eL20]; exact xt_k _ hc10 hk10
  have hc10 : c10 < (xt G L20).1 := by rw [eL20]; exact xt_l _ hc10
  have hag := agr_t (xt_ge _ _) hag hn23
  have hc18 : c18 < (xt G L20).1 := by rw [ec18, eL20]; exact cnt_new _ _ _
  have hk18 : (xt G L20).2.1 c18 = 13 := by rw [ec18, eL20]; exact (kind_new _ _ _ _).1
  refine va_putF (D := D) (ci := 4) (v := va_re ad22 (some c18)) (ty := (.array .int)) (C := RX4) (T := TX4) (N := 18) hx hb hts (mus hf_X4) tyX4 tyX4_ok nmX4 hown hK hP hD hS a (wld_o ct ad22 (xt G L20) M21 hc hk (by decide)) rfl 5 (by decide) (hts (.fieldLink RX4 20 "VideoSuite$Picture" "reference" "[I") (mu mw_1436)) (fun _ h9 => h9) rfl hin rfl (by decide +kernel) (nar_q ad22 (Or.inr ⟨_, rfl⟩) (some c18)).1 (nar_q ad22 (Or.inr ⟨_, rfl⟩) (some c18)).2 (Nat.le_of_ble_eq_true rfl) dX4_init_27 (fun H locs hP hD hS => ?_)
  obtain ⟨M24, eM24, hF⟩ := ltt_some hF
  rw [set_oP ct ad22 (xt G L20) M21 hc hk (by decide) (by rfl), ← eM24] at hP hD
  refine lv_aload_n hx hb dX4_init_30 rfl (lv_at hl 0 rfl) ?_
  refine lv_sipush (v := (1024 : Int32)) hx hb dX4_init_31 (by decide) ?_
  obtain ⟨hC25, hF⟩ := chkP_some hF
  obtain ⟨hz9, hF⟩ := chk_some hF
  obtain ⟨c26, ec26, hF⟩ := ltt_some hF
  obtain ⟨w27, hF, ew27⟩ := app_some hF
  obtain ⟨L28, eL28, hF⟩ := ltt_some hF
  have hT28 : y.1 = (L20 ++ [(13, ((1024 : Int32)).toNatClampNeg)]) ++ w27.1 := by rw [hT, ew27]; simp only [List.append_assoc]
  obtain ⟨M29, eM29, hF⟩ := ltt_some hF
  refine new_i hx hb (hts (.arrayClass .int) (mu mw_266)) hK hP hD hS hA9 hz9.1 hz9.2 hC25 (room_1s hT28 hbl) dX4_init_34 (fun ad30 H hn31 hP hD hS => ?_)
  rw [← ec26, ← eL28, ← eM29] at hP hD
  refine W_cs (k := L28.length) (n := wt L28) (by rw [eL28]) (by rw [eL28]) ?_
  refine W_st (st' := [.ref (ad30 c26), .ref (ad22 a)]) (by rw [ec26]) ?_
  have hT : y.1 = L28 ++ w27.1 := by rw [hT28, eL28]
  have h2 : y.2 = w27.2 := by rw [h2, ew27]
  have hl := lv_sub (l' := [(0, .ref (ad22 a))]) hl [0] rfl
  have e9 : ([(0, .ref (ad22 a))] : List (Nat × Value)) = [(0, .ref (ad30 a))] := (by first | rfl | simp only [hn31 a hc])
  rw [e9] at hl
  clear e9
  refine W_st (st' := [.ref (ad30 c26), .ref (ad30 a)]) (by first | rfl | simp only [hn31 a hc]) ?_
  have hk : (xt G L28).2.1 a = 4 := by rw [eL28]; exact xt_k _ hc hk
  have hc : a < (xt G L28).1 := by rw [eL28]; exact xt_l _ hc
  have hk2 : (xt G L28).2.1 c2 = 13 := by rw [eL28]; exact xt_k _ hc2 hk2
  have hc2 : c2 < (xt G L28).1 := by rw [eL28]; exact xt_l _ hc2
  have hk10 : (xt G L28).2.1 c10 = 15 := by rw [eL28]; exact xt_k _ hc10 hk10
  have hc10 : c10 < (xt G L28).1 := by rw [eL28]; exact xt_l _ hc10
  have hk18 : (xt G L28).2.1 c18 = 13 := by rw [eL28]; exact xt_k _ hc18 hk18
  have hc18 : c18 < (xt G L28).1 := by rw [eL28]; exact xt_l _ hc18
  have hag := agr_t (xt_ge _ _) hag hn31
  have hc26 : c26 < (xt G L28).1 := by rw [ec26, eL28]; exact cnt_new _ _ _
  have hk26 : (xt G L28).2.1 c26 = 13 := by rw [ec26, eL28]; exact (kind_new _ _ _ _).1
  refine va_putF (D := D) (ci := 4) (v := va_re ad30 (some c26)) (ty := (.array .int)) (C := RX4) (T := TX4) (N := 18) hx hb hts (mus hf_X4) tyX4 tyX4_ok nmX4 hown hK hP hD hS a (wld_o ct ad30 (xt G L28) M29 hc hk (by decide)) rfl 6 (by decide) (hts (.fieldLink RX4 23 "VideoSuite$Picture" "referenceId" "[I") (mu mw_1442)) (fun _ h9 => h9) rfl hin rfl (by decide +kernel) (nar_q ad30 (Or.inr ⟨_, rfl⟩) (some c26)).1 (nar_q ad30 (Or.inr ⟨_, rfl⟩) (some c26)).2 (Nat.le_of_ble_eq_true rfl) dX4_init_36 (fun H locs hP hD hS => ?_)
  obtain ⟨M32, eM32, hF⟩ := ltt_some hF
  rw [set_oP ct ad30 (xt G L28) M29 hc hk (by decide) (by rfl), ← eM32] at hP hD
  refine lv_aload_n hx hb dX4_init_39 rfl (lv_at hl 0 rfl) ?_
  refine lv_sipush (v := (2048 : Int32)) hx hb dX4_init_40 (by decide) ?_
  obtain ⟨hC33, hF⟩ := chkP_some hF
  obtain ⟨hz9, hF⟩ := chk_some hF
  obtain ⟨c34, ec34, hF⟩ := ltt_some hF
  obtain ⟨w35, hF, ew35⟩ := app_some hF
  obtain ⟨L36, eL36, hF⟩ := ltt_some hF
  have hT36 : y.1 = (L28 ++ [(13, ((2048 : Int32)).toNatClampNeg)]) ++ w35.1 := by rw [hT, ew35]; simp only [List.append_assoc]
  obtain ⟨M37, eM37, hF⟩ := ltt_some hF
  refine new_i hx hb (hts (.arrayClass .int) (mu mw_266)) hK hP hD hS hA9 hz9.1 hz9.2 hC33 (room_1s hT36 hbl) dX4_init_43 (fun ad38 H hn39 hP hD hS => ?_)
  rw [← ec34, ← eL36, ← eM37] at hP hD
  refine W_cs (k := L36.length) (n := wt L36) (by rw [eL36]) (by rw [eL36]) ?_
  refine W_st (st' := [.ref (ad38 c34), .ref (ad30 a)]) (by rw [ec34]) ?_
  have hT : y.1 = L36 ++ w35.1 := by rw [hT36, eL36]
  have h2 : y.2 = w35.2 := by rw [h2, ew35]
  have hl := lv_sub (l' := []) hl [] rfl
  refine W_st (st' := [.ref (ad38 c34), .ref (ad38 a)]) (by first | rfl | simp only [hn39 a hc]) ?_
  have hk : (xt G L36).2.1 a = 4 := by rw [eL36]; exact xt_k _ hc hk
  have hc : a < (xt G L36).1 := by rw [eL36]; exact xt_l _ hc
  have hk2 : (xt G L36).2.1 c2 = 13 := by rw [eL36]; exact xt_k _ hc2 hk2
  have hc2 : c2 < (xt G L36).1 := by rw [eL36]; exact xt_l _ hc2
  have hk10 : (xt G L36).2.1 c10 = 15 := by rw [eL36]; exact xt_k _ hc10 hk10
  have hc10 : c10 < (xt G L36).1 := by rw [eL36]; exact xt_l _ hc10
  have hk18 : (xt G L36).2.1 c18 = 13 := by rw [eL36]; exact xt_k _ hc18 hk18
  have hc18 : c18 < (xt G L36).1 := by rw [eL36]; exact xt_l _ hc18
  have hk26 : (xt G L36).2.1 c26 = 13 := by rw [eL36]; exact xt_k _ hc26 hk26
  have hc26 : c26 < (xt G L36).1 := by rw [eL36]; exact xt_l _ hc26
  have hag := agr_t (xt_ge _ _) hag hn39
  have hc34 : c34 < (xt G L36).1 := by rw [ec34, eL36]; exact cnt_new _ _ _
  have hk34 : (xt G L36).2.1 c34 = 13 := by rw [ec34, eL36]; exact (kind_new _ _ _ _).1
  refine va_putF (D := D) (ci := 4) (v := va_re ad38 (some c34)) (ty := (.array .int)) (C := RX4) (T := TX4) (N := 18) hx hb hts (mus hf_X4) tyX4 tyX4_ok nmX4 hown hK hP hD hS a (wld_o ct ad38 (xt G L36) M37 hc hk (by decide)) rfl 7 (by decide) (hts (.fieldLink RX4 26 "VideoSuite$Picture" "move" "[I") (mu mw_1444)) (fun _ h9 => h9) rfl hin rfl (by decide +kernel) (nar_q ad38 (Or.inr ⟨_, rfl⟩) (some c34)).1 (nar_q ad38 (Or.inr ⟨_, rfl⟩) (some c34)).2 (Nat.le_of_ble_eq_true rfl) dX4_init_45 (fun H locs hP hD hS => ?_)
  obtain ⟨M40, eM40, hF⟩ := ltt_some hF
  rw [set_oP ct ad38 (xt G L36) M37 hc hk (by decide) (by rfl), ← eM40] at hP hD
  obtain rfl := Option.some.inj hF
  have e1 : y.1 = L36 := by rw [hT]; exact List.append_nil _
  have e2 : y.2 = M40 := h2
  refine W.widen (k := y.1.length) (n := wt y.1) (Nat.le_of_eq (by rw [e1])) (Nat.le_of_eq (by rw [e1])) ?_
  exact W.vret hx hb hr (fun t ht hW => ⟨⟨ad38, rfl, hag, (by unfold kE; rw [e1, e2]; exact ⟨by rw [ht]; exact hP, va_K.moved hW.alike hK, hD⟩)⟩, hS.F ht⟩) hS.2.2 dX4_init_48
theorem dX4_listOf_0 : decode cX4_listOf 0 = .ok (.aload_n 0, 1) := by decide +kernel
theorem dX4_listOf_1 : decode cX4_listOf 1 = .ok (.getfield 20, 3) := by decide +kernel
theorem dX4_listOf_4 : decode cX4_listOf 4 = .ok (.iload_n 1, 1) := by decide +kernel
theorem dX4_listOf_5 : decode cX4_listOf 5 = .ok (.iaload, 1) := by decide +kernel
theorem dX4_listOf_6 : decode cX4_listOf 6 = .ok (.ifCond .lt 7, 3) := by decide +kernel
theorem dX4_listOf_9 : decode cX4_listOf 9 = .ok (.iconst 0, 1) := by decide +kernel
theorem dX4_listOf_10 : decode cX4_listOf 10 = .ok (.goto 21, 3) := by decide +kernel
theorem dX4_listOf_13 : decode cX4_listOf 13 = .ok (.aload_n 0, 1) := by decide +kernel
theorem dX4_listOf_14 : decode cX4_listOf 14 = .ok (.getfield 20, 3) := by decide +kernel
theorem dX4_listOf_17 : decode cX4_listOf 17 = .ok (.sipush 512, 3) := by decide +kernel
theorem dX4_listOf_20 : decode cX4_listOf 20 = .ok (.iload_n 1, 1) := by decide +kernel
theorem dX4_listOf_21 : decode cX4_listOf 21 = .ok (.iadd, 1) := by decide +kernel
theorem dX4_listOf_22 : decode cX4_listOf 22 = .ok (.iaload, 1) := by decide +kernel
theorem dX4_listOf_23 : decode cX4_listOf 23 = .ok (.ifCond .lt 7, 3) := by decide +kernel
theorem dX4_listOf_26 : decode cX4_listOf 26 = .ok (.iconst 1, 1) := by decide +kernel
theorem dX4_listOf_27 : decode cX4_listOf 27 = .ok (.goto 4, 3) := by decide +kernel
theorem dX4_listOf_30 : decode cX4_listOf 30 = .ok (.iconst (-1), 1) := by decide +kernel
theorem dX4_listOf_31 : decode cX4_listOf 31 = .ok (.ireturn, 1) := by decide +kernel
def FX4_listOf (G : GG) (M : DD) (a : Nat) (p0 : Int32) : Option (DD × Int32) :=
  dr G 13 ((M.2 a 5)) fun b1 =>
  chk (¬ (p0 < 0 ∨ G.2.2 b1 ≤ p0.toNatClampNeg)) <|
  ltt (M.1 b1 p0.toNatClampNeg) fun x2 =>
  bnd (if x2 < ((0 : Int32)) then (ltt ((((512 : Int32)) + p0)) fun x5 =>
  chk (¬ (x5 < 0 ∨ G.2.2 b1 ≤ x5.toNatClampNeg)) <|
  ltt (M.1 b1 x5.toNatClampNeg) fun x6 =>
  bnd (if x6 < ((0 : Int32)) then (some ((-1 : Int32))) else
  (some ((1 : Int32)))) fun (y7 : Int32) =>
  some (y7)) else
  (some ((0 : Int32)))) fun (y3 : Int32) =>
  some (M, y3)
set_option maxHeartbeats 4000000 in
set_option maxRecDepth 100000 in
theorem kX4_listOf (l : Launch) (D : va_G) (ct : CT) (ad : Nat → Nat) (Z : Nat → Nat) (G : GG) (M : DD) (sz : Nat) (a : Nat) (p0 : Int32) (y : DD × Int32) (hc : a < G.1) (hk : G.2.1 a = 4) (hF : FX4_listOf G M a p0 = some y) : Met l yX4_listOf wuX4_listOf ({ frames := 0, cells := 0, slots := 0, locals := 0 }) (va_Pc [.ref (ad a), .int p0] (kB D ct ad Z G M sz)) (va_Qi (fun (q : Int32) (_ : Unit) => q = y.2) (fun _ t => kE D ct ad G (wA ad G sz) y.1 t) (wA ad G sz)) 0 0 (wA ad G sz) := by
  refine Met.ofW (cc := cX4_listOf) (maxL := 2) (ret := (some .int)) (by decide) rfl ?_
  intro p e s m args below meth c s₁ B hml hv
  obtain ⟨rfl, hsz, hP, hK, hD0, hZ, hN⟩ := hv
  have hx := B.exec
  have hb := B.bytes
  have hr := B.returns
  have hts := atoms_spec (ws := wuX4_listOf) B.pre
  have hown : s.vm.findClass RX4 = some m.cls := findClass_of_methodNamed B.named
  have hlocks := B.notSynchronized
  subst hsz
  have hD := wD_self (sz := s.heap.size) hD0
  have hA9 : ∀ q, s.heap.size ≤ q → wA ad G s.heap.size q := fun q h => Or.inr h
  generalize hAe : wA ad G s.heap.size = A at hD hA9 hZ ⊢
  have hS : va_S A s.heap s.heap [] := va_S.rf
  have hl := lv_entry ([.ref (ad a), .int p0]) (n := 2) (Nat.le_of_ble_eq_true rfl)
  rw [lg_entry_eq]
  generalize (lg_sl ([.ref (ad a), .int p0]) ++ List.replicate (2 - (lg_sl ([.ref (ad a), .int p0])).length) Slot.unset).toArray = ls at hl ⊢
  have hl : lv_has ls 2 [(0, .ref (ad a)), (1, .int p0)] := hl
  unfold FX4_listOf at hF
  refine lv_aload_n hx hb dX4_listOf_0 rfl (lv_at hl 0 rfl) ?_
  refine va_get (D := D) (ci := 4) (v := va_re ad (M.2 a 5)) (C := RX4) (T := TX4) (N := 18) hx hb hts (mus hf_X4) hown hK hP a (wld_o ct ad G M hc hk (by decide)) rfl 5 (by decide) (hts (.fieldLink RX4 20 "VideoSuite$Picture" "reference" "[I") (mu mw_1436)) (fun _ h9 => h9) rfl dX4_listOf_1 ?_
  refine lv_iload_n hx hb dX4_listOf_4 rfl (lv_at hl 1 rfl) ?_
  obtain ⟨b1, ho1, hc1, hk1, hF⟩ := dr_some hF
  refine W_st (st' := [.int p0, .ref (ad b1)]) (by rw [va_some ho1]) ?_
  obtain ⟨hvc, hF⟩ := chk_some hF
  refine va_iald hx hb hK hP b1 1 (wld_i ct ad G M hc1 hk1) rfl hvc dX4_listOf_5 ?_
  obtain ⟨x2, ex2, hF⟩ := ltt_some hF
  refine lv_topi (fun zx2 ezx2 => ?_)
  obtain rfl : x2 = zx2 := ex2.trans ezx2.symm
  obtain ⟨y3, hy3, hF⟩ := bnd_some hF
  have J3 : ∀ (H : Heap) (locs : List Loc) (ls : Array Slot), va_P D classes (wld ct ad G M) H → va_D A (wld ct ad G M) → va_S A s.heap H locs → lv_has ls 2 [(0, .ref (ad a)), (1, .int p0)] → W p l e (headSpec wuX4_listOf ({ frames := 0, cells := 0, slots := 0, locals := 0 })).room s m ([.ref (ad a), .int p0] : List Value).toArray below meth c H locs 0 0 (MQ below (va_Qi (fun (q : Int32) (_ : Unit) => q = y.2) (fun _ t => kE D ct ad G A y.1 t) A) ([.ref (ad a), .int p0] : List Value).toArray s 0 0 A) (F0 m 31 ls [.int y3]) := by
    intro H locs ls hP hD hS hl
    obtain rfl := Option.some.inj hF
    exact W.iret (v := y3) hx hb hr (fun t ht hW => ⟨⟨_, (), rfl, rfl, ⟨by rw [ht]; exact hP, va_K.moved hW.alike hK, hD⟩⟩, hS.F ht⟩) hS.2.2 dX4_listOf_31
  clear hF
  have hF := hy3
  clear hy3
  refine lv_if_lt (tgt := 13) hx hb dX4_listOf_6 (by decide) (fun c4 => ?_) (fun c4 => ?_)
  · rw [if_pos c4] at hF
    refine lv_aload_n hx hb dX4_listOf_13 rfl (lv_at hl 0 rfl) ?_
    refine va_get (D := D) (ci := 4) (v := va_re ad (M.2 a 5)) (C := RX4) (T := TX4) (N := 18) hx hb hts (mus hf_X4) hown hK hP a (wld_o ct ad G M hc hk (by decide)) rfl 5 (by decide) (hts (.fieldLink RX4 20 "VideoSuite$Picture" "reference" "[I") (mu mw_1436)) (fun _ h9 => h9) rfl dX4_listOf_14 ?_
    refine lv_sipush (v := (512 : Int32)) hx hb dX4_listOf_17 (by decide) ?_
    refine lv_iload_n hx hb dX4_listOf_20 rfl (lv_at hl 1 rfl) ?_
    refine lv_iadd hx hb dX4_listOf_21 ?_
    obtain ⟨x5, ex5, hF⟩ := ltt_some hF
    refine lv_topi (fun zx5 ezx5 => ?_)
    obtain rfl : x5 = zx5 := ex5.trans ezx5.symm
    refine W_st (st' := [.int x5, .ref (ad b1)]) (by rw [va_some ho1]) ?_
    obtain ⟨hvc, hF⟩ := chk_some hF
    refine va_iald hx hb hK hP b1 1 (wld_i ct ad G M hc1 hk1) rfl hvc dX4_listOf_22 ?_
    obtain ⟨x6, ex6, hF⟩ := ltt_some hF
    refine lv_topi (fun zx6 ezx6 => ?_)
    obtain rfl : x6 = zx6 := ex6.trans ezx6.symm
    obtain ⟨y7, hy7, hF⟩ := bnd_some hF
    have J7 : ∀ (H : Heap) (locs : List Loc) (ls : Array Slot), va_P D classes (wld ct ad G M) H → va_D A (wld ct ad G M) → va_S A s.heap H locs → lv_has ls 2 [(0, .ref (ad a)), (1, .int p0)] → W p l e (headSpec wuX4_listOf ({ frames := 0, cells := 0, slots := 0, locals := 0 })).room s m ([.ref (ad a), .int p0] : List Value).toArray below meth c H locs 0 0 (MQ below (va_Qi (fun (q : Int32) (_ : Unit) => q = y.2) (fun _ t => kE D ct ad G A y.1 t) A) ([.ref (ad a), .int p0] : List Value).toArray s 0 0 A) (F0 m 31 ls [.int y7]) := by
      intro H locs ls hP hD hS hl
      obtain rfl := Option.some.inj hF
      exact J3 _ _ _ hP hD hS (lv_sub hl [0, 1] rfl)
    clear hF
    have hF := hy7
    clear hy7
    refine lv_if_lt (tgt := 30) hx hb dX4_listOf_23 (by decide) (fun c8 => ?_) (fun c8 => ?_)
    · rw [if_pos c8] at hF
      refine lv_iconst (v := (-1 : Int32)) hx hb dX4_listOf_30 (by decide) ?_
      obtain rfl := Option.some.inj hF
      exact J7 _ _ _ hP hD hS (lv_sub hl [0, 1] rfl)
    · rw [if_neg c8] at hF
      refine lv_iconst (v := (1 : Int32)) hx hb dX4_listOf_26 (by decide) ?_
      refine lv_goto (tgt := 31) hx hb dX4_listOf_27 (by decide) ?_
      obtain rfl := Option.some.inj hF
      exact J7 _ _ _ hP hD hS (lv_sub hl [0, 1] rfl)
  · rw [if_neg c4] at hF
    refine lv_iconst (v := (0 : Int32)) hx hb dX4_listOf_9 (by decide) ?_
    refine lv_goto (tgt := 31) hx hb dX4_listOf_10 (by decide) ?_
    obtain rfl := Option.some.inj hF
    exact J3 _ _ _ hP hD hS (lv_sub hl [0, 1] rfl)
set_option maxRecDepth 20000 in
theorem gX4_movesAlike_X4_at : GoodIn wuX4_movesAlike (va_wsS RX4 93 yX4_at wuX4_at) := gu_S mw_2004 mw_1796 mw_185 mw_1797
theorem dX4_movesAlike_0 : decode cX4_movesAlike 0 = .ok (.iconst 0, 1) := by decide +kernel
theorem dX4_movesAlike_1 : decode cX4_movesAlike 1 = .ok (.istore_n 3, 1) := by decide +kernel
theorem dX4_movesAlike_2 : decode cX4_movesAlike 2 = .ok (.iload_n 3, 1) := by decide +kernel
theorem dX4_movesAlike_3 : decode cX4_movesAlike 3 = .ok (.iconst 2, 1) := by decide +kernel
theorem dX4_movesAlike_4 : decode cX4_movesAlike 4 = .ok (.if_icmp .ge 88, 3) := by decide +kernel
theorem dX4_movesAlike_7 : decode cX4_movesAlike 7 = .ok (.iload_n 3, 1) := by decide +kernel
theorem dX4_movesAlike_8 : decode cX4_movesAlike 8 = .ok (.iload_n 1, 1) := by decide +kernel
theorem dX4_movesAlike_9 : decode cX4_movesAlike 9 = .ok (.invokestatic 93, 3) := by decide +kernel
theorem dX4_movesAlike_12 : decode cX4_movesAlike 12 = .ok (.istore 4, 2) := by decide +kernel
theorem dX4_movesAlike_14 : decode cX4_movesAlike 14 = .ok (.iload_n 3, 1) := by decide +kernel
theorem dX4_movesAlike_15 : decode cX4_movesAlike 15 = .ok (.iload_n 2, 1) := by decide +kernel
theorem dX4_movesAlike_16 : decode cX4_movesAlike 16 = .ok (.invokestatic 93, 3) := by decide +kernel
theorem dX4_movesAlike_19 : decode cX4_movesAlike 19 = .ok (.istore 5, 2) := by decide +kernel
theorem dX4_movesAlike_21 : decode cX4_movesAlike 21 = .ok (.aload_n 0, 1) := by decide +kernel
theorem dX4_movesAlike_22 : decode cX4_movesAlike 22 = .ok (.getfield 20, 3) := by decide +kernel
theorem dX4_movesAlike_25 : decode cX4_movesAlike 25 = .ok (.iload 4, 2) := by decide +kernel
theorem dX4_movesAlike_27 : decode cX4_movesAlike 27 = .ok (.iaload, 1) := by decide +kernel
theorem dX4_movesAlike_28 : decode cX4_movesAlike 28 = .ok (.aload_n 0, 1) := by decide +kernel
theorem dX4_movesAlike_29 : decode cX4_movesAlike 29 = .ok (.getfield 20, 3) := by decide +kernel
theorem dX4_movesAlike_32 : decode cX4_movesAlike 32 = .ok (.iload 5, 2) := by decide +kernel
theorem dX4_movesAlike_34 : decode cX4_movesAlike 34 = .ok (.iaload, 1) := by decide +kernel
theorem dX4_movesAlike_35 : decode cX4_movesAlike 35 = .ok (.if_icmp .ne 49, 3) := by decide +kernel
theorem dX4_movesAlike_38 : decode cX4_movesAlike 38 = .ok (.aload_n 0, 1) := by decide +kernel
theorem dX4_movesAlike_39 : decode cX4_movesAlike 39 = .ok (.getfield 26, 3) := by decide +kernel
theorem dX4_movesAlike_42 : decode cX4_movesAlike 42 = .ok (.iconst 2, 1) := by decide +kernel
theorem dX4_movesAlike_43 : decode cX4_movesAlike 43 = .ok (.iload 4, 2) := by decide +kernel
theorem dX4_movesAlike_45 : decode cX4_movesAlike 45 = .ok (.imul, 1) := by decide +kernel
theorem dX4_movesAlike_46 : decode cX4_movesAlike 46 = .ok (.iaload, 1) := by decide +kernel
theorem dX4_movesAlike_47 : decode cX4_movesAlike 47 = .ok (.aload_n 0, 1) := by decide +kernel
theorem dX4_movesAlike_48 : decode cX4_movesAlike 48 = .ok (.getfield 26, 3) := by decide +kernel
theorem dX4_movesAlike_51 : decode cX4_movesAlike 51 = .ok (.iconst 2, 1) := by decide +kernel
theorem dX4_movesAlike_52 : decode cX4_movesAlike 52 = .ok (.iload 5, 2) := by decide +kernel
theorem dX4_movesAlike_54 : decode cX4_movesAlike 54 = .ok (.imul, 1) := by decide +kernel
theorem dX4_movesAlike_55 : decode cX4_movesAlike 55 = .ok (.iaload, 1) := by decide +kernel
theorem dX4_movesAlike_56 : decode cX4_movesAlike 56 = .ok (.if_icmp .ne 28, 3) := by decide +kernel
theorem dX4_movesAlike_59 : decode cX4_movesAlike 59 = .ok (.aload_n 0, 1) := by decide +kernel
theorem dX4_movesAlike_60 : decode cX4_movesAlike 60 = .ok (.getfield 26, 3) := by decide +kernel
theorem dX4_movesAlike_63 : decode cX4_movesAlike 63 = .ok (.iconst 2, 1) := by decide +kernel
theorem dX4_movesAlike_64 : decode cX4_movesAlike 64 = .ok (.iload 4, 2) := by decide +kernel
theorem dX4_movesAlike_66 : decode cX4_movesAlike 66 = .ok (.imul, 1) := by decide +kernel
theorem dX4_movesAlike_67 : decode cX4_movesAlike 67 = .ok (.iconst 1, 1) := by decide +kernel
theorem dX4_movesAlike_68 : decode cX4_movesAlike 68 = .ok (.iadd, 1) := by decide +kernel
theorem dX4_movesAlike_69 : decode cX4_movesAlike 69 = .ok (.iaload, 1) := by decide +kernel
theorem dX4_movesAlike_70 : decode cX4_movesAlike 70 = .ok (.aload_n 0, 1) := by decide +kernel
theorem dX4_movesAlike_71 : decode cX4_movesAlike 71 = .ok (.getfield 26, 3) := by decide +kernel
theorem dX4_movesAlike_74 : decode cX4_movesAlike 74 = .ok (.iconst 2, 1) := by decide +kernel
theorem dX4_movesAlike_75 : decode cX4_movesAlike 75 = .ok (.iload 5, 2) := by decide +kernel
theorem dX4_movesAlike_77 : decode cX4_movesAlike 77 = .ok (.imul, 1) := by decide +kernel
theorem dX4_movesAlike_78 : decode cX4_movesAlike 78 = .ok (.iconst 1, 1) := by decide +kernel
theorem dX4_movesAlike_79 : decode cX4_movesAlike 79 = .ok (.iadd, 1) := by decide +kernel
theorem dX4_movesAlike_80 : decode cX4_movesAlike 80 = .ok (.iaload, 1) := by decide +kernel
theorem dX4_movesAlike_81 : decode cX4_movesAlike 81 = .ok (.if_icmp .eq 5, 3) := by decide +kernel
theorem dX4_movesAlike_84 : decode cX4_movesAlike 84 = .ok (.iconst 0, 1) := by decide +kernel
theorem dX4_movesAlike_85 : decode cX4_movesAlike 85 = .ok (.ireturn, 1) := by decide +kernel
theorem dX4_movesAlike_86 : decode cX4_movesAlike 86 = .ok (.iinc 3 1, 3) := by decide +kernel
theorem dX4_movesAlike_89 : decode cX4_movesAlike 89 = .ok (.goto (-87), 3) := by decide +kernel
theorem dX4_movesAlike_92 : decode cX4_movesAlike 92 = .ok (.iconst 1, 1) := by decide +kernel
theorem dX4_movesAlike_93 : decode cX4_movesAlike 93 = .ok (.ireturn, 1) := by decide +kernel
def FX4_movesAlike (G : GG) (M : DD) (a : Nat) (p0 : Int32) (p1 : Int32) : Option (DD × Int32) :=
  bnd (itr (fun (s2 : Int32 × DD) => ((if ((2 : Int32)) ≤ s2.1 then (some (.inr (.inl (s2.1, s2.2)))) else
  (bnd (FX4_at G s2.2 s2.1 p0) fun y6 =>
  bnd (FX4_at G y6.1 s2.1 p1) fun y7 =>
  dr G 13 ((y7.1.2 a 5)) fun b8 =>
  chk (¬ (y6.2 < 0 ∨ G.2.2 b8 ≤ y6.2.toNatClampNeg)) <|
  ltt (y7.1.1 b8 y6.2.toNatClampNeg) fun x9 =>
  chk (¬ (y7.2 < 0 ∨ G.2.2 b8 ≤ y7.2.toNatClampNeg)) <|
  ltt (y7.1.1 b8 y7.2.toNatClampNeg) fun x10 =>
  if x9 = x10 then (ltt ((((2 : Int32)) * y6.2)) fun x12 =>
  dr G 13 ((y7.1.2 a 7)) fun b13 =>
  chk (¬ (x12 < 0 ∨ G.2.2 b13 ≤ x12.toNatClampNeg)) <|
  ltt (y7.1.1 b13 x12.toNatClampNeg) fun x14 =>
  ltt ((((2 : Int32)) * y7.2)) fun x15 =>
  chk (¬ (x15 < 0 ∨ G.2.2 b13 ≤ x15.toNatClampNeg)) <|
  ltt (y7.1.1 b13 x15.toNatClampNeg) fun x16 =>
  if x14 = x16 then (ltt ((((2 : Int32)) * y6.2)) fun x18 =>
  ltt ((x18 + ((1 : Int32)))) fun x19 =>
  chk (¬ (x19 < 0 ∨ G.2.2 b13 ≤ x19.toNatClampNeg)) <|
  ltt (y7.1.1 b13 x19.toNatClampNeg) fun x20 =>
  ltt ((((2 : Int32)) * y7.2)) fun x21 =>
  ltt ((x21 + ((1 : Int32)))) fun x22 =>
  chk (¬ (x22 < 0 ∨ G.2.2 b13 ≤ x22.toNatClampNeg)) <|
  ltt (y7.1.1 b13 x22.toNatClampNeg) fun x23 =>
  if x20 = x23 then (ltt (s2.1 + (1 : Int32)) fun x25 =>
  some (.inl (x25, y7.1))) else
  (chk (((0 : Int32)) = 0 ∨ ((0 : Int32)) = 1) <|
  some (.inr (.inr (y7.1, (0 : Int32)))))) else
  (chk (((0 : Int32)) = 0 ∨ ((0 : Int32)) = 1) <|
  some (.inr (.inr (y7.1, (0 : Int32)))))) else
  (chk (((0 : Int32)) = 0 ∨ ((0 : Int32)) = 1) <|
  some (.inr (.inr (y7.1, (0 : Int32))))))) : Option ((Int32 × DD) ⊕ ((Int32 × DD) ⊕ (DD × Int32))))) 1000000 ((0 : Int32), M)) fun (y1 : (Int32 × DD) ⊕ (DD × Int32)) =>
  sel y1 (fun (z1k : Int32 × DD) =>
  chk (((1 : Int32)) = 0 ∨ ((1 : Int32)) = 1) <|
  some (z1k.2, (1 : Int32))) fun r9 => some r9
set_option maxHeartbeats 4000000 in
set_option maxRecDepth 100000 in
theorem kX4_movesAlike (l : Launch) (D : va_G) (ct : CT) (ad : Nat → Nat) (Z : Nat → Nat) (G : GG) (M : DD) (sz : Nat) (a : Nat) (p0 : Int32) (p1 : Int32) (y : DD × Int32) (hc : a < G.1) (hk : G.2.1 a = 4) (hF : FX4_movesAlike G M a p0 p1 = some y) : Met l yX4_movesAlike wuX4_movesAlike ({ frames := 1, cells := 0, slots := 0, locals := 21 }) (va_Pc [.ref (ad a), .int p0, .int p1] (kB D ct ad Z G M sz)) (va_Qi (fun (q : Int32) (_ : Unit) => q = y.2) (fun _ t => kE D ct ad G (wA ad G sz) y.1 t) (wA ad G sz)) 0 0 (wA ad G sz) := by
  refine Met.ofW (cc := cX4_movesAlike) (maxL := 6) (ret := (some .boolean)) (by decide) rfl ?_
  intro p e s m args below meth c s₁ B hml hv
  obtain ⟨rfl, hsz, hP, hK, hD0, hZ, hN⟩ := hv
  have hx := B.exec
  have hb := B.bytes
  have hr := B.returns
  have hts := atoms_spec (ws := wuX4_movesAlike) B.pre
  have hown : s.vm.findClass RX4 = some m.cls := findClass_of_methodNamed B.named
  have hlocks := B.notSynchronized
  subst hsz
  have hD := wD_self (sz := s.heap.size) hD0
  have hA9 : ∀ q, s.heap.size ≤ q → wA ad G s.heap.size q := fun q h => Or.inr h
  generalize hAe : wA ad G s.heap.size = A at hD hA9 hZ ⊢
  have hS : va_S A s.heap s.heap [] := va_S.rf
  have hl := lv_entry ([.ref (ad a), .int p0, .int p1]) (n := 6) (Nat.le_of_ble_eq_true rfl)
  rw [lg_entry_eq]
  generalize (lg_sl ([.ref (ad a), .int p0, .int p1]) ++ List.replicate (6 - (lg_sl ([.ref (ad a), .int p0, .int p1])).length) Slot.unset).toArray = ls at hl ⊢
  have hl : lv_has ls 6 [(0, .ref (ad a)), (1, .int p0), (2, .int p1)] := hl
  unfold FX4_movesAlike at hF
  refine lv_iconst (v := (0 : Int32)) hx hb dX4_movesAlike_0 (by decide) ?_
  refine lv_istore_n (lv' := [(3, .int (0 : Int32)), (0, .ref (ad a)), (1, .int p0), (2, .int p1)]) hx hb dX4_movesAlike_1 rfl hl (by decide) rfl (fun ls hl => ?_)
  obtain ⟨y1, hy1, hF⟩ := bnd_some hF
  have K1 : ∀ z1k : Int32 × DD, y1 = .inl z1k → ∀ (H : Heap) (locs : List Loc) (ls : Array Slot), va_P D classes (wld ct ad G z1k.2) H → va_D A (wld ct ad G z1k.2) → va_S A s.heap H locs → lv_has ls 6 [(3, .int z1k.1), (0, .ref (ad a)), (1, .int p0), (2, .int p1)] → W p l e (headSpec wuX4_movesAlike ({ frames := 1, cells := 0, slots := 0, locals := 21 })).room s m ([.ref (ad a), .int p0, .int p1] : List Value).toArray below meth c H locs 0 0 (MQ below (va_Qi (fun (q : Int32) (_ : Unit) => q = y.2) (fun _ t => kE D ct ad G A y.1 t) A) ([.ref (ad a), .int p0, .int p1] : List Value).toArray s 0 0 A) (F0 m 92 ls []) := by
    intro z1k hz1 H locs ls hP hD hS hl
    have hF := sel_inl (hz1 ▸ hF)
    refine lv_iconst (v := (1 : Int32)) hx hb dX4_movesAlike_92 (by decide) ?_
    obtain ⟨hz9, hF⟩ := chk_some hF
    obtain rfl := Option.some.inj hF
    exact W.zret (v := (1 : Int32)) (ty := .boolean) hx hb hr (nar_z hz9).1 (fun t ht hW => ⟨⟨_, (), rfl, rfl, ⟨by rw [ht]; exact hP, va_K.moved hW.alike hK, hD⟩⟩, hS.F ht⟩) hS.2.2 dX4_movesAlike_93
  have hR1 := hF
  clear hF
  refine itr_rule (fun (s2 : Int32 × DD) => ∀ (H : Heap) (locs : List Loc) (ls : Array Slot), va_P D classes (wld ct ad G s2.2) H → va_D A (wld ct ad G s2.2) → va_S A s.heap H locs → lv_has ls 6 [(3, .int s2.1), (0, .ref (ad a)), (1, .int p0), (2, .int p1)] → W p l e (headSpec wuX4_movesAlike ({ frames := 1, cells := 0, slots := 0, locals := 21 })).room s m ([.ref (ad a), .int p0, .int p1] : List Value).toArray below meth c H locs 0 0 (MQ below (va_Qi (fun (q : Int32) (_ : Unit) => q = y.2) (fun _ t => kE D ct ad G A y.1 t) A) ([.ref (ad a), .int p0, .int p1] : List Value).toArray s 0 0 A) (F0 m 2 ls [])) ?_ _ _ hy1 _ _ _ hP hD hS (lv_sub hl [0, 1, 2, 3] rfl)
  rintro s2 ⟨z4, hF, hwz4⟩ H locs ls hP hD hS hl
  try dsimp only at hF
  refine lv_iload_n hx hb dX4_movesAlike_2 rfl (lv_at hl 0 rfl) ?_
  refine lv_iconst (v := (2 : Int32)) hx hb dX4_movesAlike_3 (by decide) ?_
  refine lv_icmp_ge (tgt := 92) hx hb dX4_movesAlike_4 (by decide) (fun c5 => ?_) (fun c5 => ?_)
  · rw [if_pos c5] at hF
    obtain rfl := Option.some.inj hF
    exact K1 _ hwz4.symm _ _ _ hP hD hS (lv_sub hl [0, 1, 2, 3] rfl)
  · rw [if_neg c5] at hF
    refine lv_iload_n hx hb dX4_movesAlike_7 rfl (lv_at hl 0 rfl) ?_
    refine lv_iload_n hx hb dX4_movesAlike_8 rfl (lv_at hl 2 rfl) ?_
    obtain ⟨y6, hy6, hF⟩ := bnd_some hF
    have hf9 := wA_in hD hA9 hS
    refine va_calli (va_runS (As := [.int s2.1, .int p0]) (rest := []) ⟨hx, hb, hml, hown, hts⟩ (kX4_at l D ct ad Z G s2.2 H.size s2.1 p0 y6 hy6) (va_cwS 2 hts gX4_movesAlike_X4_at rfl rfl rfl (by decide +kernel) ⟨Nat.le_of_ble_eq_true rfl, Nat.le_of_ble_eq_true rfl⟩) ⟨fun a U g mk q => by obtain ⟨q0, q1, qP, qK, qD, qZ, qN⟩ := q; exact ⟨q0, q1, qP, va_K.moved (u := U) (U := U.calling g mk a) (Vm.Alike.refl U.vm) qK, qD, sF.moved (u := U) (U := U.calling g mk a) (Vm.Alike.refl U.vm) qZ, nF.same rfl qN⟩, fun U hU hW => ⟨rfl, by rw [hU], by rw [hU]; exact hP, va_K.moved hW.alike hK, hD.weaken (fun _ _ _ _ => trivial), by rw [hU]; exact ((hZ.kept hS.2.1).narrow hf9).moved hW.alike, hN.warm hW⟩⟩ rfl rfl hl.1 rfl (lv_room (Nat.le_of_ble_eq_true rfl)) dX4_movesAlike_9 ⟨(Nat.zero_le _), (Nat.zero_le _)⟩) hS (fun q _ h => hf9 q h) hf9 (fun r u t H locs ht hvm hw hB hz1 hk1 hS => ?_)
    obtain ⟨hP, hK9, hD9⟩ := hB
    rw [ht] at hP
    try dsimp only at hw
    subst hw
    have hD := hD9.weaken (fun _ q _ h => hf9 q.1 h)
    refine lv_istore (lv' := [(4, .int y6.2), (3, .int s2.1), (0, .ref (ad a)), (1, .int p0), (2, .int p1)]) hx hb dX4_movesAlike_12 hl (by decide) rfl (fun ls hl => ?_)
    refine lv_iload_n hx hb dX4_movesAlike_14 rfl (lv_at hl 1 rfl) ?_
    refine lv_iload_n hx hb dX4_movesAlike_15 rfl (lv_at hl 4 rfl) ?_
    obtain ⟨y7, hy7, hF⟩ := bnd_some hF
    have hf9 := wA_in hD hA9 hS
    refine va_calli (va_runS (As := [.int s2.1, .int p1]) (rest := []) ⟨hx, hb, hml, hown, hts⟩ (kX4_at l D ct ad Z G y6.1 H.size s2.1 p1 y7 hy7) (va_cwS 2 hts gX4_movesAlike_X4_at rfl rfl rfl (by decide +kernel) ⟨Nat.le_of_ble_eq_true rfl, Nat.le_of_ble_eq_true rfl⟩) ⟨fun a U g mk q => by obtain ⟨q0, q1, qP, qK, qD, qZ, qN⟩ := q; exact ⟨q0, q1, qP, va_K.moved (u := U) (U := U.calling g mk a) (Vm.Alike.refl U.vm) qK, qD, sF.moved (u := U) (U := U.calling g mk a) (Vm.Alike.refl U.vm) qZ, nF.same rfl qN⟩, fun U hU hW => ⟨rfl, by rw [hU], by rw [hU]; exact hP, va_K.moved hW.alike hK, hD.weaken (fun _ _ _ _ => trivial), by rw [hU]; exact ((hZ.kept hS.2.1).narrow hf9).moved hW.alike, hN.warm hW⟩⟩ rfl rfl hl.1 rfl (lv_room (Nat.le_of_ble_eq_true rfl)) dX4_movesAlike_16 ⟨(Nat.zero_le _), (Nat.zero_le _)⟩) hS (fun q _ h => hf9 q h) hf9 (fun r u t H locs ht hvm hw hB hz1 hk1 hS => ?_)
    obtain ⟨hP, hK9, hD9⟩ := hB
    rw [ht] at hP
    try dsimp only at hw
    subst hw
    have hD := hD9.weaken (fun _ q _ h => hf9 q.1 h)
    refine lv_istore (lv' := [(5, .int y7.2), (4, .int y6.2), (3, .int s2.1), (0, .ref (ad a)), (1, .int p0), (2, .int p1)]) hx hb dX4_movesAlike_19 hl (by decide) rfl (fun ls hl => ?_)
    refine lv_aload_n hx hb dX4_movesAlike_21 rfl (lv_at hl 3 rfl) ?_
    refine va_get (D := D) (ci := 4) (v := va_re ad (y7.1.2 a 5)) (C := RX4) (T := TX4) (N := 18) hx hb hts (mus hf_X4) hown hK hP a (wld_o ct ad G y7.1 hc hk (by decide)) rfl 5 (by decide) (hts (.fieldLink RX4 20 "VideoSuite$Picture" "reference" "[I") (mu mw_1436)) (fun _ h9 => h9) rfl dX4_movesAlike_22 ?_
    refine lv_iload hx hb dX4_movesAlike_25 (lv_at hl 1 rfl) ?_
    obtain ⟨b8, ho8, hc8, hk8, hF⟩ := dr_some hF
    refine W_st (st' := [.int y6.2, .ref (ad b8)]) (by rw [va_some ho8]) ?_
    obtain ⟨hvc, hF⟩ := chk_some hF
    refine va_iald hx hb hK hP b8 1 (wld_i ct ad G y7.1 hc8 hk8) rfl hvc dX4_movesAlike_27 ?_
    obtain ⟨x9, ex9, hF⟩ := ltt_some hF
    refine lv_topi (fun zx9 ezx9 => ?_)
    obtain rfl : x9 = zx9 := ex9.trans ezx9.symm
    refine lv_aload_n hx hb dX4_movesAlike_28 rfl (lv_at hl 3 rfl) ?_
    refine va_get (D := D) (ci := 4) (v := va_re ad (y7.1.2 a 5)) (C := RX4) (T := TX4) (N := 18) hx hb hts (mus hf_X4) hown hK hP a (wld_o ct ad G y7.1 hc hk (by decide)) rfl 5 (by decide) (hts (.fieldLink RX4 20 "VideoSuite$Picture" "reference" "[I") (mu mw_1436)) (fun _ h9 => h9) rfl dX4_movesAlike_29 ?_
    refine lv_iload hx hb dX4_movesAlike_32 (lv_at hl 0 rfl) ?_
    refine W_st (st' := [.int y7.2, .ref (ad b8), .int x9]) (by rw [va_some ho8]) ?_
    obtain ⟨hvc, hF⟩ := chk_some hF
    refine va_iald hx hb hK hP b8 1 (wld_i ct ad G y7.1 hc8 hk8) rfl hvc dX4_movesAlike_34 ?_
    obtain ⟨x10, ex10, hF⟩ := ltt_some hF
    refine lv_topi (fun zx10 ezx10 => ?_)
    obtain rfl : x10 = zx10 := ex10.trans ezx10.symm
    refine lv_icmp_ne (tgt := 84) hx hb dX4_movesAlike_35 (by decide) (fun c11 => ?_) (fun c11 => ?_)
    · rw [if_neg c11] at hF
      refine lv_iconst (v := (0 : Int32)) hx hb dX4_movesAlike_84 (by decide) ?_
      obtain ⟨hz9, hF⟩ := chk_some hF
      obtain rfl := Option.some.inj hF
      have hF := sel_inr (hwz4 ▸ hR1)
      obtain rfl := Option.some.inj hF
      exact W.zret (v := (0 : Int32)) (ty := .boolean) hx hb hr (nar_z hz9).1 (fun t ht hW => ⟨⟨_, (), rfl, rfl, ⟨by rw [ht]; exact hP, va_K.moved hW.alike hK, hD⟩⟩, hS.F ht⟩) hS.2.2 dX4_movesAlike_85
    · rw [if_pos c11] at hF
      refine lv_aload_n hx hb dX4_movesAlike_38 rfl (lv_at hl 3 rfl) ?_
      refine va_get (D := D) (ci := 4) (v := va_re ad (y7.1.2 a 7)) (C := RX4) (T := TX4) (N := 18) hx hb hts (mus hf_X4) hown hK hP a (wld_o ct ad G y7.1 hc hk (by decide)) rfl 7 (by decide) (hts (.fieldLink RX4 26 "VideoSuite$Picture" "move" "[I") (mu mw_1444)) (fun _ h9 => h9) rfl dX4_movesAlike_39 ?_
      refine lv_iconst (v := (2 : Int32)) hx hb dX4_movesAlike_42 (by decide) ?_
      refine lv_iload hx hb dX4_movesAlike_43 (lv_at hl 1 rfl) ?_
      refine lv_imul hx hb dX4_movesAlike_45 ?_
      obtain ⟨x12, ex12, hF⟩ := ltt_some hF
      refine lv_topi (fun zx12 ezx12 => ?_)
      obtain rfl : x12 = zx12 := ex12.trans ezx12.symm
      obtain ⟨b13, ho13, hc13, hk13, hF⟩ := dr_some hF
      refine W_st (st' := [.int x12, .ref (ad b13)]) (by rw [va_some ho13]) ?_
      obtain ⟨hvc, hF⟩ := chk_some hF
      refine va_iald hx hb hK hP b13 1 (wld_i ct ad G y7.1 hc13 hk13) rfl hvc dX4_movesAlike_46 ?_
      obtain ⟨x14, ex14, hF⟩ := ltt_some hF
      refine lv_topi (fun zx14 ezx14 => ?_)
      obtain rfl : x14 = zx14 := ex14.trans ezx14.symm
      refine lv_aload_n hx hb dX4_movesAlike_47 rfl (lv_at hl 3 rfl) ?_
      refine va_get (D := D) (ci := 4) (v := va_re ad (y7.1.2 a 7)) (C := RX4) (T := TX4) (N := 18) hx hb hts (mus hf_X4) hown hK hP a (wld_o ct ad G y7.1 hc hk (by decide)) rfl 7 (by decide) (hts (.fieldLink RX4 26 "VideoSuite$Picture" "move" "[I") (mu mw_1444)) (fun _ h9 => h9) rfl dX4_movesAlike_48 ?_
      refine lv_iconst (v := (2 : Int32)) hx hb dX4_movesAlike_51 (by decide) ?_
      refine lv_iload hx hb dX4_movesAlike_52 (lv_at hl 0 rfl) ?_
      refine lv_imul hx hb dX4_movesAlike_54 ?_
      obtain ⟨x15, ex15, hF⟩ := ltt_some hF
      refine lv_topi (fun zx15 ezx15 => ?_)
      obtain rfl : x15 = zx15 := ex15.trans ezx15.symm
      refine W_st (st' := [.int x15, .ref (ad b13), .int x14]) (by rw [va_some ho13]) ?_
      obtain ⟨hvc, hF⟩ := chk_some hF
      refine va_iald hx hb hK hP b13 1 (wld_i ct ad G y7.1 hc13 hk13) rfl hvc dX4_movesAlike_55 ?_
      obtain ⟨x16, ex16, hF⟩ := ltt_some hF
      refine lv_topi (fun zx16 ezx16 => ?_)
      obtain rfl : x16 = zx16 := ex16.trans ezx16.symm
      refine lv_icmp_ne (tgt := 84) hx hb dX4_movesAlike_56 (by decide) (fun c17 => ?_) (fun c17 => ?_)
      · rw [if_neg c17] at hF
        refine lv_iconst (v := (0 : Int32)) hx hb dX4_movesAlike_84 (by decide) ?_
        obtain ⟨hz9, hF⟩ := chk_some hF
        obtain rfl := Option.some.inj hF
        have hF := sel_inr (hwz4 ▸ hR1)
        obtain rfl := Option.some.inj hF
        exact W.zret (v := (0 : Int32)) (ty := .boolean) hx hb hr (nar_z hz9).1 (fun t ht hW => ⟨⟨_, (), rfl, rfl, ⟨by rw [ht]; exact hP, va_K.moved hW.alike hK, hD⟩⟩, hS.F ht⟩) hS.2.2 dX4_movesAlike_85
      · rw [if_pos c17] at hF
        refine lv_aload_n hx hb dX4_movesAlike_59 rfl (lv_at hl 3 rfl) ?_
        refine va_get (D := D) (ci := 4) (v := va_re ad (y7.1.2 a 7)) (C := RX4) (T := TX4) (N := 18) hx hb hts (mus hf_X4) hown hK hP a (wld_o ct ad G y7.1 hc hk (by decide)) rfl 7 (by decide) (hts (.fieldLink RX4 26 "VideoSuite$Picture" "move" "[I") (mu mw_1444)) (fun _ h9 => h9) rfl dX4_movesAlike_60 ?_
        refine lv_iconst (v := (2 : Int32)) hx hb dX4_movesAlike_63 (by decide) ?_
        refine lv_iload hx hb dX4_movesAlike_64 (lv_at hl 1 rfl) ?_
        refine lv_imul hx hb dX4_movesAlike_66 ?_
        obtain ⟨x18, ex18, hF⟩ := ltt_some hF
        refine lv_topi (fun zx18 ezx18 => ?_)
        obtain rfl : x18 = zx18 := ex18.trans ezx18.symm
        refine lv_iconst (v := (1 : Int32)) hx hb dX4_movesAlike_67 (by decide) ?_
        refine lv_iadd hx hb dX4_movesAlike_68 ?_
        obtain ⟨x19, ex19, hF⟩ := ltt_some hF
        refine lv_topi (fun zx19 ezx19 => ?_)
        obtain rfl : x19 = zx19 := ex19.trans ezx19.symm
        refine W_st (st' := [.int x19, .ref (ad b13)]) (by rw [va_some ho13]) ?_
        obtain ⟨hvc, hF⟩ := chk_some hF
        refine va_iald hx hb hK hP b13 1 (wld_i ct ad G y7.1 hc13 hk13) rfl hvc dX4_movesAlike_69 ?_
        obtain ⟨x20, ex20, hF⟩ := ltt_some hF
        refine lv_topi (fun zx20 ezx20 => ?_)
        obtain rfl : x20 = zx20 := ex20.trans ezx20.symm
        refine lv_aload_n hx hb dX4_movesAlike_70 rfl (lv_at hl 3 rfl) ?_
        refine va_get (D := D) (ci := 4) (v := va_re ad (y7.1.2 a 7)) (C := RX4) (T := TX4) (N := 18) hx hb hts (mus hf_X4) hown hK hP a (wld_o ct ad G y7.1 hc hk (by decide)) rfl 7 (by decide) (hts (.fieldLink RX4 26 "VideoSuite$Picture" "move" "[I") (mu mw_1444)) (fun _ h9 => h9) rfl dX4_movesAlike_71 ?_
        refine lv_iconst (v := (2 : Int32)) hx hb dX4_movesAlike_74 (by decide) ?_
        refine lv_iload hx hb dX4_movesAlike_75 (lv_at hl 0 rfl) ?_
        refine lv_imul hx hb dX4_movesAlike_77 ?_
        obtain ⟨x21, ex21, hF⟩ := ltt_some hF
        refine lv_topi (fun zx21 ezx21 => ?_)
        obtain rfl : x21 = zx21 := ex21.trans ezx21.symm
        refine lv_iconst (v := (1 : Int32)) hx hb dX4_movesAlike_78 (by decide) ?_
        refine lv_iadd hx hb dX4_movesAlike_79 ?_
        obtain ⟨x22, ex22, hF⟩ := ltt_some hF
        refine lv_topi (fun zx22 ezx22 => ?_)
        obtain rfl : x22 = zx22 := ex22.trans ezx22.symm
        refine W_st (st' := [.int x22, .ref (ad b13), .int x20]) (by rw [va_some ho13]) ?_
        obtain ⟨hvc, hF⟩ := chk_some hF
        refine va_iald hx hb hK hP b13 1 (wld_i ct ad G y7.1 hc13 hk13) rfl hvc dX4_movesAlike_80 ?_
        obtain ⟨x23, ex23, hF⟩ := ltt_some hF
        refine lv_topi (fun zx23 ezx23 => ?_)
        obtain rfl : x23 = zx23 := ex23.trans ezx23.symm
        refine lv_icmp_eq (tgt := 86) hx hb dX4_movesAlike_81 (by decide) (fun c24 => ?_) (fun c24 => ?_)
        · rw [if_pos c24] at hF
          obtain ⟨x25, ex25, hF⟩ := ltt_some hF
          refine lv_iinc (v := x25) (lv' := [(3, .int x25), (5, .int y7.2), (4, .int y6.2), (0, .ref (ad a)), (1, .int p0), (2, .int p1)]) hx hb dX4_movesAlike_86 hl (k := 2) rfl (by rw [ex25]; rfl) (by decide) rfl (fun ls hl => ?_)
          refine lv_goto (tgt := 2) hx hb dX4_movesAlike_89 (by decide) ?_
          obtain rfl := Option.some.inj hF
          exact hwz4 _ _ _ hP hD hS (lv_sub hl [0, 3, 4, 5] rfl)
        · rw [if_neg c24] at hF
          refine lv_iconst (v := (0 : Int32)) hx hb dX4_movesAlike_84 (by decide) ?_
          obtain ⟨hz9, hF⟩ := chk_some hF
          obtain rfl := Option.some.inj hF
          have hF := sel_inr (hwz4 ▸ hR1)
          obtain rfl := Option.some.inj hF
          exact W.zret (v := (0 : Int32)) (ty := .boolean) hx hb hr (nar_z hz9).1 (fun t ht hW => ⟨⟨_, (), rfl, rfl, ⟨by rw [ht]; exact hP, va_K.moved hW.alike hK, hD⟩⟩, hS.F ht⟩) hS.2.2 dX4_movesAlike_85
