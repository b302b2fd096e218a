theorem dX6_tapColumns_0 : decode cX6_tapColumns 0 = .ok (.aload_n 0, 1) := by decide +kernel
theorem dX6_tapColumns_1 : decode cX6_tapColumns 1 = .ok (.getfield 21, 3) := by decide +kernel
theorem dX6_tapColumns_4 : decode cX6_tapColumns 4 = .ok (.astore 6, 2) := by decide +kernel
theorem dX6_tapColumns_6 : decode cX6_tapColumns 6 = .ok (.iconst 0, 1) := by decide +kernel
theorem dX6_tapColumns_7 : decode cX6_tapColumns 7 = .ok (.istore 7, 2) := by decide +kernel
theorem dX6_tapColumns_9 : decode cX6_tapColumns 9 = .ok (.iload 7, 2) := by decide +kernel
theorem dX6_tapColumns_11 : decode cX6_tapColumns 11 = .ok (.iload_n 1, 1) := by decide +kernel
theorem dX6_tapColumns_12 : decode cX6_tapColumns 12 = .ok (.iload_n 1, 1) := by decide +kernel
theorem dX6_tapColumns_13 : decode cX6_tapColumns 13 = .ok (.imul, 1) := by decide +kernel
theorem dX6_tapColumns_14 : decode cX6_tapColumns 14 = .ok (.if_icmp .ge 161, 3) := by decide +kernel
theorem dX6_tapColumns_17 : decode cX6_tapColumns 17 = .ok (.iload 7, 2) := by decide +kernel
theorem dX6_tapColumns_19 : decode cX6_tapColumns 19 = .ok (.iload_n 1, 1) := by decide +kernel
theorem dX6_tapColumns_20 : decode cX6_tapColumns 20 = .ok (.idiv, 1) := by decide +kernel
theorem dX6_tapColumns_21 : decode cX6_tapColumns 21 = .ok (.bipush 21, 2) := by decide +kernel
theorem dX6_tapColumns_23 : decode cX6_tapColumns 23 = .ok (.imul, 1) := by decide +kernel
theorem dX6_tapColumns_24 : decode cX6_tapColumns 24 = .ok (.iload 7, 2) := by decide +kernel
theorem dX6_tapColumns_26 : decode cX6_tapColumns 26 = .ok (.iload_n 1, 1) := by decide +kernel
theorem dX6_tapColumns_27 : decode cX6_tapColumns 27 = .ok (.irem, 1) := by decide +kernel
theorem dX6_tapColumns_28 : decode cX6_tapColumns 28 = .ok (.iadd, 1) := by decide +kernel
theorem dX6_tapColumns_29 : decode cX6_tapColumns 29 = .ok (.iload_n 2, 1) := by decide +kernel
theorem dX6_tapColumns_30 : decode cX6_tapColumns 30 = .ok (.iadd, 1) := by decide +kernel
theorem dX6_tapColumns_31 : decode cX6_tapColumns 31 = .ok (.istore 8, 2) := by decide +kernel
theorem dX6_tapColumns_33 : decode cX6_tapColumns 33 = .ok (.aload 6, 2) := by decide +kernel
theorem dX6_tapColumns_35 : decode cX6_tapColumns 35 = .ok (.iload 8, 2) := by decide +kernel
theorem dX6_tapColumns_37 : decode cX6_tapColumns 37 = .ok (.iaload, 1) := by decide +kernel
theorem dX6_tapColumns_38 : decode cX6_tapColumns 38 = .ok (.iconst 5, 1) := by decide +kernel
theorem dX6_tapColumns_39 : decode cX6_tapColumns 39 = .ok (.aload 6, 2) := by decide +kernel
theorem dX6_tapColumns_41 : decode cX6_tapColumns 41 = .ok (.iload 8, 2) := by decide +kernel
theorem dX6_tapColumns_43 : decode cX6_tapColumns 43 = .ok (.bipush 21, 2) := by decide +kernel
theorem dX6_tapColumns_45 : decode cX6_tapColumns 45 = .ok (.iadd, 1) := by decide +kernel
theorem dX6_tapColumns_46 : decode cX6_tapColumns 46 = .ok (.iaload, 1) := by decide +kernel
theorem dX6_tapColumns_47 : decode cX6_tapColumns 47 = .ok (.imul, 1) := by decide +kernel
theorem dX6_tapColumns_48 : decode cX6_tapColumns 48 = .ok (.isub, 1) := by decide +kernel
theorem dX6_tapColumns_49 : decode cX6_tapColumns 49 = .ok (.bipush 20, 2) := by decide +kernel
theorem dX6_tapColumns_51 : decode cX6_tapColumns 51 = .ok (.aload 6, 2) := by decide +kernel
theorem dX6_tapColumns_53 : decode cX6_tapColumns 53 = .ok (.iload 8, 2) := by decide +kernel
theorem dX6_tapColumns_55 : decode cX6_tapColumns 55 = .ok (.bipush 42, 2) := by decide +kernel
theorem dX6_tapColumns_57 : decode cX6_tapColumns 57 = .ok (.iadd, 1) := by decide +kernel
theorem dX6_tapColumns_58 : decode cX6_tapColumns 58 = .ok (.iaload, 1) := by decide +kernel
theorem dX6_tapColumns_59 : decode cX6_tapColumns 59 = .ok (.imul, 1) := by decide +kernel
theorem dX6_tapColumns_60 : decode cX6_tapColumns 60 = .ok (.iadd, 1) := by decide +kernel
theorem dX6_tapColumns_61 : decode cX6_tapColumns 61 = .ok (.bipush 20, 2) := by decide +kernel
theorem dX6_tapColumns_63 : decode cX6_tapColumns 63 = .ok (.aload 6, 2) := by decide +kernel
theorem dX6_tapColumns_65 : decode cX6_tapColumns 65 = .ok (.iload 8, 2) := by decide +kernel
theorem dX6_tapColumns_67 : decode cX6_tapColumns 67 = .ok (.bipush 63, 2) := by decide +kernel
theorem dX6_tapColumns_69 : decode cX6_tapColumns 69 = .ok (.iadd, 1) := by decide +kernel
theorem dX6_tapColumns_70 : decode cX6_tapColumns 70 = .ok (.iaload, 1) := by decide +kernel
theorem dX6_tapColumns_71 : decode cX6_tapColumns 71 = .ok (.imul, 1) := by decide +kernel
theorem dX6_tapColumns_72 : decode cX6_tapColumns 72 = .ok (.iadd, 1) := by decide +kernel
theorem dX6_tapColumns_73 : decode cX6_tapColumns 73 = .ok (.iconst 5, 1) := by decide +kernel
theorem dX6_tapColumns_74 : decode cX6_tapColumns 74 = .ok (.aload 6, 2) := by decide +kernel
theorem dX6_tapColumns_76 : decode cX6_tapColumns 76 = .ok (.iload 8, 2) := by decide +kernel
theorem dX6_tapColumns_78 : decode cX6_tapColumns 78 = .ok (.bipush 84, 2) := by decide +kernel
theorem dX6_tapColumns_80 : decode cX6_tapColumns 80 = .ok (.iadd, 1) := by decide +kernel
theorem dX6_tapColumns_81 : decode cX6_tapColumns 81 = .ok (.iaload, 1) := by decide +kernel
theorem dX6_tapColumns_82 : decode cX6_tapColumns 82 = .ok (.imul, 1) := by decide +kernel
theorem dX6_tapColumns_83 : decode cX6_tapColumns 83 = .ok (.isub, 1) := by decide +kernel
theorem dX6_tapColumns_84 : decode cX6_tapColumns 84 = .ok (.aload 6, 2) := by decide +kernel
theorem dX6_tapColumns_86 : decode cX6_tapColumns 86 = .ok (.iload 8, 2) := by decide +kernel
theorem dX6_tapColumns_88 : decode cX6_tapColumns 88 = .ok (.bipush 105, 2) := by decide +kernel
theorem dX6_tapColumns_90 : decode cX6_tapColumns 90 = .ok (.iadd, 1) := by decide +kernel
theorem dX6_tapColumns_91 : decode cX6_tapColumns 91 = .ok (.iaload, 1) := by decide +kernel
theorem dX6_tapColumns_92 : decode cX6_tapColumns 92 = .ok (.iadd, 1) := by decide +kernel
theorem dX6_tapColumns_93 : decode cX6_tapColumns 93 = .ok (.bipush 16, 2) := by decide +kernel
theorem dX6_tapColumns_95 : decode cX6_tapColumns 95 = .ok (.iadd, 1) := by decide +kernel
theorem dX6_tapColumns_96 : decode cX6_tapColumns 96 = .ok (.iconst 5, 1) := by decide +kernel
theorem dX6_tapColumns_97 : decode cX6_tapColumns 97 = .ok (.ishr, 1) := by decide +kernel
theorem dX6_tapColumns_98 : decode cX6_tapColumns 98 = .ok (.istore 9, 2) := by decide +kernel
theorem dX6_tapColumns_100 : decode cX6_tapColumns 100 = .ok (.iload 9, 2) := by decide +kernel
theorem dX6_tapColumns_102 : decode cX6_tapColumns 102 = .ok (.ifCond .ge 7, 3) := by decide +kernel
theorem dX6_tapColumns_105 : decode cX6_tapColumns 105 = .ok (.iconst 0, 1) := by decide +kernel
theorem dX6_tapColumns_106 : decode cX6_tapColumns 106 = .ok (.goto 19, 3) := by decide +kernel
theorem dX6_tapColumns_109 : decode cX6_tapColumns 109 = .ok (.iload 9, 2) := by decide +kernel
theorem dX6_tapColumns_111 : decode cX6_tapColumns 111 = .ok (.sipush 255, 3) := by decide +kernel
theorem dX6_tapColumns_114 : decode cX6_tapColumns 114 = .ok (.if_icmp .le 9, 3) := by decide +kernel
theorem dX6_tapColumns_117 : decode cX6_tapColumns 117 = .ok (.sipush 255, 3) := by decide +kernel
theorem dX6_tapColumns_120 : decode cX6_tapColumns 120 = .ok (.goto 5, 3) := by decide +kernel
theorem dX6_tapColumns_123 : decode cX6_tapColumns 123 = .ok (.iload 9, 2) := by decide +kernel
theorem dX6_tapColumns_125 : decode cX6_tapColumns 125 = .ok (.istore 9, 2) := by decide +kernel
theorem dX6_tapColumns_127 : decode cX6_tapColumns 127 = .ok (.iload 4, 2) := by decide +kernel
theorem dX6_tapColumns_129 : decode cX6_tapColumns 129 = .ok (.iload 7, 2) := by decide +kernel
theorem dX6_tapColumns_131 : decode cX6_tapColumns 131 = .ok (.iload_n 1, 1) := by decide +kernel
theorem dX6_tapColumns_132 : decode cX6_tapColumns 132 = .ok (.idiv, 1) := by decide +kernel
theorem dX6_tapColumns_133 : decode cX6_tapColumns 133 = .ok (.bipush 16, 2) := by decide +kernel
theorem dX6_tapColumns_135 : decode cX6_tapColumns 135 = .ok (.imul, 1) := by decide +kernel
theorem dX6_tapColumns_136 : decode cX6_tapColumns 136 = .ok (.iadd, 1) := by decide +kernel
theorem dX6_tapColumns_137 : decode cX6_tapColumns 137 = .ok (.iload 7, 2) := by decide +kernel
theorem dX6_tapColumns_139 : decode cX6_tapColumns 139 = .ok (.iload_n 1, 1) := by decide +kernel
theorem dX6_tapColumns_140 : decode cX6_tapColumns 140 = .ok (.irem, 1) := by decide +kernel
theorem dX6_tapColumns_141 : decode cX6_tapColumns 141 = .ok (.iadd, 1) := by decide +kernel
theorem dX6_tapColumns_142 : decode cX6_tapColumns 142 = .ok (.istore 10, 2) := by decide +kernel
theorem dX6_tapColumns_144 : decode cX6_tapColumns 144 = .ok (.aload_n 3, 1) := by decide +kernel
theorem dX6_tapColumns_145 : decode cX6_tapColumns 145 = .ok (.iload 10, 2) := by decide +kernel
theorem dX6_tapColumns_147 : decode cX6_tapColumns 147 = .ok (.iload 5, 2) := by decide +kernel
theorem dX6_tapColumns_149 : decode cX6_tapColumns 149 = .ok (.ifCond .eq 17, 3) := by decide +kernel
theorem dX6_tapColumns_152 : decode cX6_tapColumns 152 = .ok (.aload_n 3, 1) := by decide +kernel
theorem dX6_tapColumns_153 : decode cX6_tapColumns 153 = .ok (.iload 10, 2) := by decide +kernel
theorem dX6_tapColumns_155 : decode cX6_tapColumns 155 = .ok (.iaload, 1) := by decide +kernel
theorem dX6_tapColumns_156 : decode cX6_tapColumns 156 = .ok (.iload 9, 2) := by decide +kernel
theorem dX6_tapColumns_158 : decode cX6_tapColumns 158 = .ok (.iadd, 1) := by decide +kernel
theorem dX6_tapColumns_159 : decode cX6_tapColumns 159 = .ok (.iconst 1, 1) := by decide +kernel
theorem dX6_tapColumns_160 : decode cX6_tapColumns 160 = .ok (.iadd, 1) := by decide +kernel
theorem dX6_tapColumns_161 : decode cX6_tapColumns 161 = .ok (.iconst 1, 1) := by decide +kernel
theorem dX6_tapColumns_162 : decode cX6_tapColumns 162 = .ok (.ishr, 1) := by decide +kernel
theorem dX6_tapColumns_163 : decode cX6_tapColumns 163 = .ok (.goto 5, 3) := by decide +kernel
theorem dX6_tapColumns_166 : decode cX6_tapColumns 166 = .ok (.iload 9, 2) := by decide +kernel
theorem dX6_tapColumns_168 : decode cX6_tapColumns 168 = .ok (.iastore, 1) := by decide +kernel
theorem dX6_tapColumns_169 : decode cX6_tapColumns 169 = .ok (.iinc 7 1, 3) := by decide +kernel
theorem dX6_tapColumns_172 : decode cX6_tapColumns 172 = .ok (.goto (-163), 3) := by decide +kernel
theorem dX6_tapColumns_175 : decode cX6_tapColumns 175 = .ok (.return_, 1) := by decide +kernel
def FX6_tapColumns (G : GG) (M : DD) (a : Nat) (p0 : Int32) (p1 : Int32) (p2 : Option Nat) (p3 : Int32) (p4 : Int32) : Option (DD) :=
  bnd (itr (fun (s2 : Int32 × DD) => ((ltt ((p0 * p0)) fun x5 =>
  if x5 ≤ s2.1 then (some (.inr (s2.1, s2.2))) else
  (chk (¬ p0 = 0) <|
  ltt (s2.1 / p0) fun x7 =>
  ltt ((x7 * ((21 : Int32)))) fun x8 =>
  chk (¬ p0 = 0) <|
  ltt (s2.1 - s2.1 / p0 * p0) fun x9 =>
  ltt ((x8 + x9)) fun x10 =>
  ltt ((x10 + p1)) fun x11 =>
  dr G 13 ((M.2 a 3)) fun b12 =>
  chk (¬ (x11 < 0 ∨ G.2.2 b12 ≤ x11.toNatClampNeg)) <|
  ltt (s2.2.1 b12 x11.toNatClampNeg) fun x13 =>
  ltt ((x11 + ((21 : Int32)))) fun x14 =>
  chk (¬ (x14 < 0 ∨ G.2.2 b12 ≤ x14.toNatClampNeg)) <|
  ltt (s2.2.1 b12 x14.toNatClampNeg) fun x15 =>
  ltt ((((5 : Int32)) * x15)) fun x16 =>
  ltt ((x13 - x16)) fun x17 =>
  ltt ((x11 + ((42 : Int32)))) fun x18 =>
  chk (¬ (x18 < 0 ∨ G.2.2 b12 ≤ x18.toNatClampNeg)) <|
  ltt (s2.2.1 b12 x18.toNatClampNeg) fun x19 =>
  ltt ((((20 : Int32)) * x19)) fun x20 =>
  ltt ((x17 + x20)) fun x21 =>
  ltt ((x11 + ((63 : Int32)))) fun x22 =>
  chk (¬ (x22 < 0 ∨ G.2.2 b12 ≤ x22.toNatClampNeg)) <|
  ltt (s2.2.1 b12 x22.toNatClampNeg) fun x23 =>
  ltt ((((20 : Int32)) * x23)) fun x24 =>
  ltt ((x21 + x24)) fun x25 =>
  ltt ((x11 + ((84 : Int32)))) fun x26 =>
  chk (¬ (x26 < 0 ∨ G.2.2 b12 ≤ x26.toNatClampNeg)) <|
  ltt (s2.2.1 b12 x26.toNatClampNeg) fun x27 =>
  ltt ((((5 : Int32)) * x27)) fun x28 =>
  ltt ((x25 - x28)) fun x29 =>
  ltt ((x11 + ((105 : Int32)))) fun x30 =>
  chk (¬ (x30 < 0 ∨ G.2.2 b12 ≤ x30.toNatClampNeg)) <|
  ltt (s2.2.1 b12 x30.toNatClampNeg) fun x31 =>
  ltt ((x29 + x31)) fun x32 =>
  ltt ((x32 + ((16 : Int32)))) fun x33 =>
  ltt ((x33 >>> (((5 : Int32)) &&& 31))) fun x34 =>
  bnd (if ((0 : Int32)) ≤ x34 then (bnd (if x34 ≤ ((255 : Int32)) then (some (x34)) else
  (some ((255 : Int32)))) fun (y52 : Int32) =>
  some (y52)) else
  (some ((0 : Int32)))) fun (y35 : Int32) =>
  chk (¬ p0 = 0) <|
  ltt (s2.1 / p0) fun x36 =>
  ltt ((x36 * ((16 : Int32)))) fun x37 =>
  ltt ((p3 + x37)) fun x38 =>
  chk (¬ p0 = 0) <|
  ltt (s2.1 - s2.1 / p0 * p0) fun x39 =>
  ltt ((x38 + x39)) fun x40 =>
  bnd (if p4 = ((0 : Int32)) then (some (y35)) else
  (dr G 13 p2 fun b46 =>
  chk (¬ (x40 < 0 ∨ G.2.2 b46 ≤ x40.toNatClampNeg)) <|
  ltt (s2.2.1 b46 x40.toNatClampNeg) fun x47 =>
  ltt ((x47 + y35)) fun x48 =>
  ltt ((x48 + ((1 : Int32)))) fun x49 =>
  ltt ((x49 >>> (((1 : Int32)) &&& 31))) fun x50 =>
  some (x50))) fun (y41 : Int32) =>
  dr G 13 p2 fun b42 =>
  chk (¬ (x40 < 0 ∨ G.2.2 b42 ≤ x40.toNatClampNeg)) <|
  ltt (uI s2.2 b42 x40.toNatClampNeg y41) fun M43 =>
  ltt (s2.1 + (1 : Int32)) fun x44 =>
  some (.inl (x44, M43)))) : Option ((Int32 × DD) ⊕ (Int32 × DD)))) 1000000 ((0 : Int32), M)) fun (y1 : Int32 × DD) =>
  some y1.2
set_option maxHeartbeats 4000000 in
set_option maxRecDepth 100000 in
theorem kX6_tapColumns (l : Launch) (D : va_G) (ct : CT) (ad : Nat → Nat) (Z : Nat → Nat) (G : GG) (M : DD) (sz : Nat) (a : Nat) (p0 : Int32) (p1 : Int32) (p2 : Option Nat) (p3 : Int32) (p4 : Int32) (y : DD) (hc : a < G.1) (hk : G.2.1 a = 6) (hF : FX6_tapColumns G M a p0 p1 p2 p3 p4 = some y) : Met l yX6_tapColumns wsX6_tapColumns ({ frames := 0, cells := 0, slots := 0, locals := 0 }) (va_Pc [.ref (ad a), .int p0, .int p1, va_re ad p2, .int p3, .int p4] (kB D ct ad Z G M sz)) (va_Qv (fun (_ : Unit) => True) (fun _ t => kE D ct ad G (wA ad G sz) y t) (wA ad G sz)) 0 0 (wA ad G sz) := by
  refine Met.ofW (cc := cX6_tapColumns) (maxL := 11) (ret := none) (by decide) rfl ?_
  intro p e s m args below meth c s₁ B hml hv
  obtain ⟨rfl, hsz, hP, hK, hD0, hZ, hN⟩ := hv
  have hx := B.exec
  have hb := B.bytes
  have hr := B.returns
  have hts := atoms_spec (ws := wsX6_tapColumns) B.pre
  have hown : s.vm.findClass RX6 = some m.cls := findClass_of_methodNamed B.named
  have hlocks := B.notSynchronized
  subst hsz
  have hD := wD_self (sz := s.heap.size) hD0
  have hA9 : ∀ q, s.heap.size ≤ q → wA ad G s.heap.size q := fun q h => Or.inr h
  generalize hAe : wA ad G s.heap.size = A at hD hA9 hZ ⊢
  have hS : va_S A s.heap s.heap [] := va_S.rf
  have hl := lv_entry ([.ref (ad a), .int p0, .int p1, va_re ad p2, .int p3, .int p4]) (n := 11) (by cases p2 <;> exact Nat.le_of_ble_eq_true rfl)
  rw [lg_entry_eq]
  generalize (lg_sl ([.ref (ad a), .int p0, .int p1, va_re ad p2, .int p3, .int p4]) ++ List.replicate (11 - (lg_sl ([.ref (ad a), .int p0, .int p1, va_re ad p2, .int p3, .int p4])).length) Slot.unset).toArray = ls at hl ⊢
  have hl : lv_has ls 11 [(0, .ref (ad a)), (1, .int p0), (2, .int p1), (3, va_re ad p2), (4, .int p3), (5, .int p4)] := by have e9 : lv_args 0 [.ref (ad a), .int p0, .int p1, va_re ad p2, .int p3, .int p4] = [(0, .ref (ad a)), (1, .int p0), (2, .int p1), (3, va_re ad p2), (4, .int p3), (5, .int p4)] := (by cases p2 <;> rfl); rw [e9] at hl; exact hl
  unfold FX6_tapColumns at hF
  refine lv_aload_n hx hb dX6_tapColumns_0 rfl (lv_at hl 0 rfl) ?_
  refine va_get (D := D) (ci := 6) (v := va_re ad (M.2 a 3)) (C := RX6) (T := TX6) (N := 14) hx hb hts (by decide +kernel) hown hK hP a (wld_o ct ad G M hc hk (by decide)) rfl 3 (by decide) (hts (.fieldLink RX6 21 "VideoSuite$Samples" "window" "[I") (by decide +kernel)) (fun _ h9 => h9) rfl dX6_tapColumns_1 ?_
  refine lv_astoreq (lv' := [(6, va_re ad (M.2 a 3)), (0, .ref (ad a)), (1, .int p0), (2, .int p1), (3, va_re ad p2), (4, .int p3), (5, .int p4)]) hx hb dX6_tapColumns_4 hl (by decide) rfl (fun ls hl => ?_)
  refine lv_iconst (v := (0 : Int32)) hx hb dX6_tapColumns_6 (by decide) ?_
  refine lv_istore (lv' := [(7, .int (0 : Int32)), (6, va_re ad (M.2 a 3)), (0, .ref (ad a)), (1, .int p0), (2, .int p1), (3, va_re ad p2), (4, .int p3), (5, .int p4)]) hx hb dX6_tapColumns_7 hl (by decide) (by generalize ((M.2 a 3)) = o9; cases o9 <;> rfl) (fun ls hl => ?_)
  obtain ⟨y1, hy1, hF⟩ := bnd_some hF
  have K1 : ∀ (H : Heap) (locs : List Loc) (ls : Array Slot), va_P D classes (wld ct ad G y1.2) H → va_D A (wld ct ad G y1.2) → va_S A s.heap H locs → lv_has ls 11 [(7, .int y1.1), (6, va_re ad (M.2 a 3)), (0, .ref (ad a)), (1, .int p0), (2, .int p1), (3, va_re ad p2), (4, .int p3), (5, .int p4)] → W p l e (headSpec wsX6_tapColumns ({ frames := 0, cells := 0, slots := 0, locals := 0 })).room s m ([.ref (ad a), .int p0, .int p1, va_re ad p2, .int p3, .int p4] : List Value).toArray below meth c H locs 0 0 (MQ below (va_Qv (fun (_ : Unit) => True) (fun _ t => kE D ct ad G A y t) A) ([.ref (ad a), .int p0, .int p1, va_re ad p2, .int p3, .int p4] : List Value).toArray s 0 0 A) (F0 m 175 ls []) := by
    intro H locs ls hP hD hS hl
    obtain rfl := Option.some.inj hF
    exact W.vret hx hb hr (fun t ht hW => ⟨⟨(), rfl, trivial, ⟨by rw [ht]; exact hP, va_K.moved hW.alike hK, hD⟩⟩, hS.F ht⟩) hS.2.2 dX6_tapColumns_175
  clear hF
  refine itr_rule (fun (s2 : Int32 × DD) => ∀ (H : Heap) (locs : List Loc) (ls : Array Slot), va_P D classes (wld ct ad G s2.2) H → va_D A (wld ct ad G s2.2) → va_S A s.heap H locs → lv_has ls 11 [(7, .int s2.1), (6, va_re ad (M.2 a 3)), (0, .ref (ad a)), (1, .int p0), (2, .int p1), (3, va_re ad p2), (4, .int p3), (5, .int p4)] → W p l e (headSpec wsX6_tapColumns ({ frames := 0, cells := 0, slots := 0, locals := 0 })).room s m ([.ref (ad a), .int p0, .int p1, va_re ad p2, .int p3, .int p4] : List Value).toArray below meth c H locs 0 0 (MQ below (va_Qv (fun (_ : Unit) => True) (fun _ t => kE D ct ad G A y t) A) ([.ref (ad a), .int p0, .int p1, va_re ad p2, .int p3, .int p4] : List Value).toArray s 0 0 A) (F0 m 9 ls [])) ?_ _ _ hy1 _ _ _ hP hD hS (lv_sub hl [0, 1, 2, 3, 4, 5, 6, 7] rfl)
  rintro s2 ⟨z4, hF, hwz4⟩ H locs ls hP hD hS hl
  try dsimp only at hF
  refine lv_iload hx hb dX6_tapColumns_9 (lv_at hl 0 rfl) ?_
  refine lv_iload_n hx hb dX6_tapColumns_11 rfl (lv_at hl 3 rfl) ?_
  refine lv_iload_n hx hb dX6_tapColumns_12 rfl (lv_at hl 3 rfl) ?_
  refine lv_imul hx hb dX6_tapColumns_13 ?_
  obtain ⟨x5, ex5, hF⟩ := ltt_some hF
  refine lv_topi (fun zx5 ezx5 => ?_)
  obtain rfl : x5 = zx5 := ex5.trans ezx5.symm
  refine lv_icmp_ge (tgt := 175) hx hb dX6_tapColumns_14 (by decide) (fun c6 => ?_) (fun c6 => ?_)
  · rw [if_pos c6] at hF
    obtain rfl := Option.some.inj hF
    subst hwz4
    exact K1 _ _ _ hP hD hS (lv_sub hl [0, 1, 2, 3, 4, 5, 6, 7] rfl)
  · rw [if_neg c6] at hF
    refine lv_iload hx hb dX6_tapColumns_17 (lv_at hl 0 rfl) ?_
    refine lv_iload_n hx hb dX6_tapColumns_19 rfl (lv_at hl 3 rfl) ?_
    obtain ⟨hne, hF⟩ := chk_some hF
    refine lv_idiv hx hb dX6_tapColumns_20 hne ?_
    obtain ⟨x7, ex7, hF⟩ := ltt_some hF
    refine lv_topi (fun zx7 ezx7 => ?_)
    obtain rfl : x7 = zx7 := ex7.trans ezx7.symm
    refine lv_bipush (v := (21 : Int32)) hx hb dX6_tapColumns_21 (by decide) ?_
    refine lv_imul hx hb dX6_tapColumns_23 ?_
    obtain ⟨x8, ex8, hF⟩ := ltt_some hF
    refine lv_topi (fun zx8 ezx8 => ?_)
    obtain rfl : x8 = zx8 := ex8.trans ezx8.symm
    refine lv_iload hx hb dX6_tapColumns_24 (lv_at hl 0 rfl) ?_
    refine lv_iload_n hx hb dX6_tapColumns_26 rfl (lv_at hl 3 rfl) ?_
    obtain ⟨hne, hF⟩ := chk_some hF
    refine lv_irem hx hb dX6_tapColumns_27 hne ?_
    obtain ⟨x9, ex9, hF⟩ := ltt_some hF
    refine lv_topi (fun zx9 ezx9 => ?_)
    obtain rfl : x9 = zx9 := ex9.trans ezx9.symm
    refine lv_iadd hx hb dX6_tapColumns_28 ?_
    obtain ⟨x10, ex10, hF⟩ := ltt_some hF
    refine lv_topi (fun zx10 ezx10 => ?_)
    obtain rfl : x10 = zx10 := ex10.trans ezx10.symm
    refine lv_iload_n hx hb dX6_tapColumns_29 rfl (lv_at hl 4 rfl) ?_
    refine lv_iadd hx hb dX6_tapColumns_30 ?_
    obtain ⟨x11, ex11, hF⟩ := ltt_some hF
    refine lv_topi (fun zx11 ezx11 => ?_)
    obtain rfl : x11 = zx11 := ex11.trans ezx11.symm
    refine lv_istore (lv' := [(8, .int x11), (7, .int s2.1), (6, va_re ad (M.2 a 3)), (0, .ref (ad a)), (1, .int p0), (2, .int p1), (3, va_re ad p2), (4, .int p3), (5, .int p4)]) hx hb dX6_tapColumns_31 hl (by decide) rfl (fun ls hl => ?_)
    refine lv_aloadq hx hb dX6_tapColumns_33 (lv_at hl 2 rfl) ?_
    refine lv_iload hx hb dX6_tapColumns_35 (lv_at hl 0 rfl) ?_
    obtain ⟨b12, ho12, hc12, hk12, hF⟩ := dr_some hF
    refine W_st (st' := [.int x11, .ref (ad b12)]) (by rw [va_some ho12]) ?_
    obtain ⟨hvc, hF⟩ := chk_some hF
    refine va_iald hx hb hK hP b12 1 (wld_i ct ad G s2.2 hc12 hk12) rfl hvc dX6_tapColumns_37 ?_
    obtain ⟨x13, ex13, hF⟩ := ltt_some hF
    refine lv_topi (fun zx13 ezx13 => ?_)
    obtain rfl : x13 = zx13 := ex13.trans ezx13.symm
    refine lv_iconst (v := (5 : Int32)) hx hb dX6_tapColumns_38 (by decide) ?_
    refine lv_aloadq hx hb dX6_tapColumns_39 (lv_at hl 2 rfl) ?_
    refine lv_iload hx hb dX6_tapColumns_41 (lv_at hl 0 rfl) ?_
    refine lv_bipush (v := (21 : Int32)) hx hb dX6_tapColumns_43 (by decide) ?_
    refine lv_iadd hx hb dX6_tapColumns_45 ?_
    obtain ⟨x14, ex14, hF⟩ := ltt_some hF
    refine lv_topi (fun zx14 ezx14 => ?_)
    obtain rfl : x14 = zx14 := ex14.trans ezx14.symm
    refine W_st (st' := [.int x14, .ref (ad b12), .int (5 : Int32), .int x13]) (by rw [va_some ho12]) ?_
    obtain ⟨hvc, hF⟩ := chk_some hF
    refine va_iald hx hb hK hP b12 1 (wld_i ct ad G s2.2 hc12 hk12) rfl hvc dX6_tapColumns_46 ?_
    obtain ⟨x15, ex15, hF⟩ := ltt_some hF
    refine lv_topi (fun zx15 ezx15 => ?_)
    obtain rfl : x15 = zx15 := ex15.trans ezx15.symm
    refine lv_imul hx hb dX6_tapColumns_47 ?_
    obtain ⟨x16, ex16, hF⟩ := ltt_some hF
    refine lv_topi (fun zx16 ezx16 => ?_)
    obtain rfl : x16 = zx16 := ex16.trans ezx16.symm
    refine lv_isub hx hb dX6_tapColumns_48 ?_
    obtain ⟨x17, ex17, hF⟩ := ltt_some hF
    refine lv_topi (fun zx17 ezx17 => ?_)
    obtain rfl : x17 = zx17 := ex17.trans ezx17.symm
    refine lv_bipush (v := (20 : Int32)) hx hb dX6_tapColumns_49 (by decide) ?_
    refine lv_aloadq hx hb dX6_tapColumns_51 (lv_at hl 2 rfl) ?_
    refine lv_iload hx hb dX6_tapColumns_53 (lv_at hl 0 rfl) ?_
    refine lv_bipush (v := (42 : Int32)) hx hb dX6_tapColumns_55 (by decide) ?_
    refine lv_iadd hx hb dX6_tapColumns_57 ?_
    obtain ⟨x18, ex18, hF⟩ := ltt_some hF
    refine lv_topi (fun zx18 ezx18 => ?_)
    obtain rfl : x18 = zx18 := ex18.trans ezx18.symm
    refine W_st (st' := [.int x18, .ref (ad b12), .int (20 : Int32), .int x17]) (by rw [va_some ho12]) ?_
    obtain ⟨hvc, hF⟩ := chk_some hF
    refine va_iald hx hb hK hP b12 1 (wld_i ct ad G s2.2 hc12 hk12) rfl hvc dX6_tapColumns_58 ?_
    obtain ⟨x19, ex19, hF⟩ := ltt_some hF
    refine lv_topi (fun zx19 ezx19 => ?_)
    obtain rfl : x19 = zx19 := ex19.trans ezx19.symm
    refine lv_imul hx hb dX6_tapColumns_59 ?_
    obtain ⟨x20, ex20, hF⟩ := ltt_some hF
    refine lv_topi (fun zx20 ezx20 => ?_)
    obtain rfl : x20 = zx20 := ex20.trans ezx20.symm
    refine lv_iadd hx hb dX6_tapColumns_60 ?_
    obtain ⟨x21, ex21, hF⟩ := ltt_some hF
    refine lv_topi (fun zx21 ezx21 => ?_)
    obtain rfl : x21 = zx21 := ex21.trans ezx21.symm
    refine lv_bipush (v := (20 : Int32)) hx hb dX6_tapColumns_61 (by decide) ?_
    refine lv_aloadq hx hb dX6_tapColumns_63 (lv_at hl 2 rfl) ?_
    refine lv_iload hx hb dX6_tapColumns_65 (lv_at hl 0 rfl) ?_
    refine lv_bipush (v := (63 : Int32)) hx hb dX6_tapColumns_67 (by decide) ?_
    refine lv_iadd hx hb dX6_tapColumns_69 ?_
    obtain ⟨x22, ex22, hF⟩ := ltt_some hF
    refine lv_topi (fun zx22 ezx22 => ?_)
    obtain rfl : x22 = zx22 := ex22.trans ezx22.symm
    refine W_st (st' := [.int x22, .ref (ad b12), .int (20 : Int32), .int x21]) (by rw [va_some ho12]) ?_
    obtain ⟨hvc, hF⟩ := chk_some hF
    refine va_iald hx hb hK hP b12 1 (wld_i ct ad G s2.2 hc12 hk12) rfl hvc dX6_tapColumns_70 ?_
    obtain ⟨x23, ex23, hF⟩ := ltt_some hF
    refine lv_topi (fun zx23 ezx23 => ?_)
    obtain rfl : x23 = zx23 := ex23.trans ezx23.symm
    refine lv_imul hx hb dX6_tapColumns_71 ?_
    obtain ⟨x24, ex24, hF⟩ := ltt_some hF
    refine lv_topi (fun zx24 ezx24 => ?_)
    obtain rfl : x24 = zx24 := ex24.trans ezx24.symm
    refine lv_iadd hx hb dX6_tapColumns_72 ?_
    obtain ⟨x25, ex25, hF⟩ := ltt_some hF
    refine lv_topi (fun zx25 ezx25 => ?_)
    obtain rfl : x25 = zx25 := ex25.trans ezx25.symm
    refine lv_iconst (v := (5 : Int32)) hx hb dX6_tapColumns_73 (by decide) ?_
    refine lv_aloadq hx hb dX6_tapColumns_74 (lv_at hl 2 rfl) ?_
    refine lv_iload hx hb dX6_tapColumns_76 (lv_at hl 0 rfl) ?_
    refine lv_bipush (v := (84 : Int32)) hx hb dX6_tapColumns_78 (by decide) ?_
    refine lv_iadd hx hb dX6_tapColumns_80 ?_
    obtain ⟨x26, ex26, hF⟩ := ltt_some hF
    refine lv_topi (fun zx26 ezx26 => ?_)
    obtain rfl : x26 = zx26 := ex26.trans ezx26.symm
    refine W_st (st' := [.int x26, .ref (ad b12), .int (5 : Int32), .int x25]) (by rw [va_some ho12]) ?_
    obtain ⟨hvc, hF⟩ := chk_some hF
    refine va_iald hx hb hK hP b12 1 (wld_i ct ad G s2.2 hc12 hk12) rfl hvc dX6_tapColumns_81 ?_
    obtain ⟨x27, ex27, hF⟩ := ltt_some hF
    refine lv_topi (fun zx27 ezx27 => ?_)
    obtain rfl : x27 = zx27 := ex27.trans ezx27.symm
    refine lv_imul hx hb dX6_tapColumns_82 ?_
    obtain ⟨x28, ex28, hF⟩ := ltt_some hF
    refine lv_topi (fun zx28 ezx28 => ?_)
    obtain rfl : x28 = zx28 := ex28.trans ezx28.symm
    refine lv_isub hx hb dX6_tapColumns_83 ?_
    obtain ⟨x29, ex29, hF⟩ := ltt_some hF
    refine lv_topi (fun zx29 ezx29 => ?_)
    obtain rfl : x29 = zx29 := ex29.trans ezx29.symm
    refine lv_aloadq hx hb dX6_tapColumns_84 (lv_at hl 2 rfl) ?_
    refine lv_iload hx hb dX6_tapColumns_86 (lv_at hl 0 rfl) ?_
    refine lv_bipush (v := (105 : Int32)) hx hb dX6_tapColumns_88 (by decide) ?_
    refine lv_iadd hx hb dX6_tapColumns_90 ?_
    obtain ⟨x30, ex30, hF⟩ := ltt_some hF
    refine lv_topi (fun zx30 ezx30 => ?_)
    obtain rfl : x30 = zx30 := ex30.trans ezx30.symm
    refine W_st (st' := [.int x30, .ref (ad b12), .int x29]) (by rw [va_some ho12]) ?_
    obtain ⟨hvc, hF⟩ := chk_some hF
    refine va_iald hx hb hK hP b12 1 (wld_i ct ad G s2.2 hc12 hk12) rfl hvc dX6_tapColumns_91 ?_
    obtain ⟨x31, ex31, hF⟩ := ltt_some hF
    refine lv_topi (fun zx31 ezx31 => ?_)
    obtain rfl : x31 = zx31 := ex31.trans ezx31.symm
    refine lv_iadd hx hb dX6_tapColumns_92 ?_
    obtain ⟨x32, ex32, hF⟩ := ltt_some hF
    refine lv_topi (fun zx32 ezx32 => ?_)
    obtain rfl : x32 = zx32 := ex32.trans ezx32.symm
    refine lv_bipush (v := (16 : Int32)) hx hb dX6_tapColumns_93 (by decide) ?_
    refine lv_iadd hx hb dX6_tapColumns_95 ?_
    obtain ⟨x33, ex33, hF⟩ := ltt_some hF
    refine lv_topi (fun zx33 ezx33 => ?_)
    obtain rfl : x33 = zx33 := ex33.trans ezx33.symm
    refine lv_iconst (v := (5 : Int32)) hx hb dX6_tapColumns_96 (by decide) ?_
    refine lv_ishr hx hb dX6_tapColumns_97 ?_
    obtain ⟨x34, ex34, hF⟩ := ltt_some hF
    refine lv_topi (fun zx34 ezx34 => ?_)
    obtain rfl : x34 = zx34 := ex34.trans ezx34.symm
    refine lv_istore (lv' := [(9, .int x34), (8, .int x11), (7, .int s2.1), (6, va_re ad (M.2 a 3)), (0, .ref (ad a)), (1, .int p0), (2, .int p1), (3, va_re ad p2), (4, .int p3), (5, .int p4)]) hx hb dX6_tapColumns_98 hl (by decide) rfl (fun ls hl => ?_)
    refine lv_iload hx hb dX6_tapColumns_100 (lv_at hl 0 rfl) ?_
    obtain ⟨y35, hy35, hF⟩ := bnd_some hF
    have J35 : ∀ (H : Heap) (locs : List Loc) (ls : Array Slot), va_P D classes (wld ct ad G s2.2) H → va_D A (wld ct ad G s2.2) → va_S A s.heap H locs → lv_has ls 11 [(9, .int x34), (8, .int x11), (7, .int s2.1), (6, va_re ad (M.2 a 3)), (0, .ref (ad a)), (1, .int p0), (2, .int p1), (3, va_re ad p2), (4, .int p3), (5, .int p4)] → W p l e (headSpec wsX6_tapColumns ({ frames := 0, cells := 0, slots := 0, locals := 0 })).room s m ([.ref (ad a), .int p0, .int p1, va_re ad p2, .int p3, .int p4] : List Value).toArray below meth c H locs 0 0 (MQ below (va_Qv (fun (_ : Unit) => True) (fun _ t => kE D ct ad G A y t) A) ([.ref (ad a), .int p0, .int p1, va_re ad p2, .int p3, .int p4] : List Value).toArray s 0 0 A) (F0 m 125 ls [.int y35]) := by
      intro H locs ls hP hD hS hl
      refine lv_istore (lv' := [(9, .int y35), (8, .int x11), (7, .int s2.1), (6, va_re ad (M.2 a 3)), (0, .ref (ad a)), (1, .int p0), (2, .int p1), (3, va_re ad p2), (4, .int p3), (5, .int p4)]) hx hb dX6_tapColumns_125 hl (by decide) rfl (fun ls hl => ?_)
      refine lv_iload hx hb dX6_tapColumns_127 (lv_at hl 8 rfl) ?_
      refine lv_iload hx hb dX6_tapColumns_129 (lv_at hl 2 rfl) ?_
      refine lv_iload_n hx hb dX6_tapColumns_131 rfl (lv_at hl 5 rfl) ?_
      obtain ⟨hne, hF⟩ := chk_some hF
      refine lv_idiv hx hb dX6_tapColumns_132 hne ?_
      obtain ⟨x36, ex36, hF⟩ := ltt_some hF
      refine lv_topi (fun zx36 ezx36 => ?_)
      obtain rfl : x36 = zx36 := ex36.trans ezx36.symm
      refine lv_bipush (v := (16 : Int32)) hx hb dX6_tapColumns_133 (by decide) ?_
      refine lv_imul hx hb dX6_tapColumns_135 ?_
      obtain ⟨x37, ex37, hF⟩ := ltt_some hF
      refine lv_topi (fun zx37 ezx37 => ?_)
      obtain rfl : x37 = zx37 := ex37.trans ezx37.symm
      refine lv_iadd hx hb dX6_tapColumns_136 ?_
      obtain ⟨x38, ex38, hF⟩ := ltt_some hF
      refine lv_topi (fun zx38 ezx38 => ?_)
      obtain rfl : x38 = zx38 := ex38.trans ezx38.symm
      refine lv_iload hx hb dX6_tapColumns_137 (lv_at hl 2 rfl) ?_
      refine lv_iload_n hx hb dX6_tapColumns_139 rfl (lv_at hl 5 rfl) ?_
      obtain ⟨hne, hF⟩ := chk_some hF
      refine lv_irem hx hb dX6_tapColumns_140 hne ?_
      obtain ⟨x39, ex39, hF⟩ := ltt_some hF
      refine lv_topi (fun zx39 ezx39 => ?_)
      obtain rfl : x39 = zx39 := ex39.trans ezx39.symm
      refine lv_iadd hx hb dX6_tapColumns_141 ?_
      obtain ⟨x40, ex40, hF⟩ := ltt_some hF
      refine lv_topi (fun zx40 ezx40 => ?_)
      obtain rfl : x40 = zx40 := ex40.trans ezx40.symm
      refine lv_istore (lv' := [(10, .int x40), (9, .int y35), (8, .int x11), (7, .int s2.1), (6, va_re ad (M.2 a 3)), (0, .ref (ad a)), (1, .int p0), (2, .int p1), (3, va_re ad p2), (4, .int p3), (5, .int p4)]) hx hb dX6_tapColumns_142 hl (by decide) rfl (fun ls hl => ?_)
      refine lv_aloadq_n hx hb dX6_tapColumns_144 rfl (lv_at hl 8 rfl) ?_
      refine lv_iload hx hb dX6_tapColumns_145 (lv_at hl 0 rfl) ?_
      refine lv_iload hx hb dX6_tapColumns_147 (lv_at hl 10 rfl) ?_
      obtain ⟨y41, hy41, hF⟩ := bnd_some hF
      have J41 : ∀ (H : Heap) (locs : List Loc) (ls : Array Slot), va_P D classes (wld ct ad G s2.2) H → va_D A (wld ct ad G s2.2) → va_S A s.heap H locs → lv_has ls 11 [(10, .int x40), (9, .int y35), (8, .int x11), (7, .int s2.1), (6, va_re ad (M.2 a 3)), (0, .ref (ad a)), (1, .int p0), (2, .int p1), (3, va_re ad p2), (4, .int p3), (5, .int p4)] → W p l e (headSpec wsX6_tapColumns ({ frames := 0, cells := 0, slots := 0, locals := 0 })).room s m ([.ref (ad a), .int p0, .int p1, va_re ad p2, .int p3, .int p4] : List Value).toArray below meth c H locs 0 0 (MQ below (va_Qv (fun (_ : Unit) => True) (fun _ t => kE D ct ad G A y t) A) ([.ref (ad a), .int p0, .int p1, va_re ad p2, .int p3, .int p4] : List Value).toArray s 0 0 A) (F0 m 168 ls [.int y41, .int x40, va_re ad p2]) := by
        intro H locs ls hP hD hS hl
        obtain ⟨b42, ho42, hc42, hk42, hF⟩ := dr_some hF
        refine W_st (st' := [.int y41, .int x40, .ref (ad b42)]) (by rw [va_some ho42]) ?_
        obtain ⟨hvc, hF⟩ := chk_some hF
        refine va_iast hx hb hK hP hD hS b42 1 (wld_i ct ad G s2.2 hc42 hk42) rfl hvc dX6_tapColumns_168 (fun H locs hP hD hS => ?_)
        obtain ⟨M43, eM43, hF⟩ := ltt_some hF
        rw [set_i ct ad G s2.2 hc42 hk42, ← eM43] at hP hD
        obtain ⟨x44, ex44, hF⟩ := ltt_some hF
        refine lv_iinc (v := x44) (lv' := [(7, .int x44), (10, .int x40), (9, .int y35), (8, .int x11), (6, va_re ad (M.2 a 3)), (0, .ref (ad a)), (1, .int p0), (2, .int p1), (3, va_re ad p2), (4, .int p3), (5, .int p4)]) hx hb dX6_tapColumns_169 hl (k := 3) rfl (by rw [ex44]; rfl) (by decide) (by generalize ((M.2 a 3)) = o9; cases o9 <;> rfl) (fun ls hl => ?_)
        refine lv_goto (tgt := 9) hx hb dX6_tapColumns_172 (by decide) ?_
        obtain rfl := Option.some.inj hF
        exact hwz4 _ _ _ hP hD hS (lv_sub hl [0, 4, 5, 6, 7, 8, 9, 10] rfl)
      clear hF
      have hF := hy41
      clear hy41
      refine lv_if_eq (tgt := 166) hx hb dX6_tapColumns_149 (by decide) (fun c45 => ?_) (fun c45 => ?_)
      · rw [if_pos c45] at hF
        refine lv_iload hx hb dX6_tapColumns_166 (lv_at hl 1 rfl) ?_
        obtain rfl := Option.some.inj hF
        exact J41 _ _ _ hP hD hS (lv_sub hl [0, 1, 2, 3, 4, 5, 6, 7, 8, 9, 10] rfl)
      · rw [if_neg c45] at hF
        refine lv_aloadq_n hx hb dX6_tapColumns_152 rfl (lv_at hl 8 rfl) ?_
        refine lv_iload hx hb dX6_tapColumns_153 (lv_at hl 0 rfl) ?_
        obtain ⟨b46, ho46, hc46, hk46, hF⟩ := dr_some hF
        refine W_st (st' := [.int x40, .ref (ad b46), .int x40, .ref (ad b46)]) (by rw [va_some ho46]) ?_
        obtain ⟨hvc, hF⟩ := chk_some hF
        refine va_iald hx hb hK hP b46 1 (wld_i ct ad G s2.2 hc46 hk46) rfl hvc dX6_tapColumns_155 ?_
        obtain ⟨x47, ex47, hF⟩ := ltt_some hF
        refine lv_topi (fun zx47 ezx47 => ?_)
        obtain rfl : x47 = zx47 := ex47.trans ezx47.symm
        refine lv_iload hx hb dX6_tapColumns_156 (lv_at hl 1 rfl) ?_
        refine lv_iadd hx hb dX6_tapColumns_158 ?_
        obtain ⟨x48, ex48, hF⟩ := ltt_some hF
        refine lv_topi (fun zx48 ezx48 => ?_)
        obtain rfl : x48 = zx48 := ex48.trans ezx48.symm
        refine lv_iconst (v := (1 : Int32)) hx hb dX6_tapColumns_159 (by decide) ?_
        refine lv_iadd hx hb dX6_tapColumns_160 ?_
        obtain ⟨x49, ex49, hF⟩ := ltt_some hF
        refine lv_topi (fun zx49 ezx49 => ?_)
        obtain rfl : x49 = zx49 := ex49.trans ezx49.symm
        refine lv_iconst (v := (1 : Int32)) hx hb dX6_tapColumns_161 (by decide) ?_
        refine lv_ishr hx hb dX6_tapColumns_162 ?_
        obtain ⟨x50, ex50, hF⟩ := ltt_some hF
        refine lv_topi (fun zx50 ezx50 => ?_)
        obtain rfl : x50 = zx50 := ex50.trans ezx50.symm
        refine lv_goto (tgt := 168) hx hb dX6_tapColumns_163 (by decide) ?_
        obtain rfl := Option.some.inj hF
        refine W_st (st' := [.int x50, .int x40, va_re ad p2]) (by rw [va_some ho46]) ?_
        exact J41 _ _ _ hP hD hS (lv_sub hl [0, 1, 2, 3, 4, 5, 6, 7, 8, 9, 10] rfl)
    clear hF
    have hF := hy35
    clear hy35
    refine lv_if_ge (tgt := 109) hx hb dX6_tapColumns_102 (by decide) (fun c51 => ?_) (fun c51 => ?_)
    · rw [if_pos c51] at hF
      refine lv_iload hx hb dX6_tapColumns_109 (lv_at hl 0 rfl) ?_
      refine lv_sipush (v := (255 : Int32)) hx hb dX6_tapColumns_111 (by decide) ?_
      obtain ⟨y52, hy52, hF⟩ := bnd_some hF
      have J52 : ∀ (H : Heap) (locs : List Loc) (ls : Array Slot), va_P D classes (wld ct ad G s2.2) H → va_D A (wld ct ad G s2.2) → va_S A s.heap H locs → lv_has ls 11 [(9, .int x34), (8, .int x11), (7, .int s2.1), (6, va_re ad (M.2 a 3)), (0, .ref (ad a)), (1, .int p0), (2, .int p1), (3, va_re ad p2), (4, .int p3), (5, .int p4)] → W p l e (headSpec wsX6_tapColumns ({ frames := 0, cells := 0, slots := 0, locals := 0 })).room s m ([.ref (ad a), .int p0, .int p1, va_re ad p2, .int p3, .int p4] : List Value).toArray below meth c H locs 0 0 (MQ below (va_Qv (fun (_ : Unit) => True) (fun _ t => kE D ct ad G A y t) A) ([.ref (ad a), .int p0, .int p1, va_re ad p2, .int p3, .int p4] : List Value).toArray s 0 0 A) (F0 m 125 ls [.int y52]) := by
        intro H locs ls hP hD hS hl
        obtain rfl := Option.some.inj hF
        exact J35 _ _ _ hP hD hS (lv_sub hl [0, 1, 2, 3, 4, 5, 6, 7, 8, 9] rfl)
      clear hF
      have hF := hy52
      clear hy52
      refine lv_icmp_le (tgt := 123) hx hb dX6_tapColumns_114 (by decide) (fun c53 => ?_) (fun c53 => ?_)
      · rw [if_pos c53] at hF
        refine lv_iload hx hb dX6_tapColumns_123 (lv_at hl 0 rfl) ?_
        obtain rfl := Option.some.inj hF
        exact J52 _ _ _ hP hD hS (lv_sub hl [0, 1, 2, 3, 4, 5, 6, 7, 8, 9] rfl)
      · rw [if_neg c53] at hF
        refine lv_sipush (v := (255 : Int32)) hx hb dX6_tapColumns_117 (by decide) ?_
        refine lv_goto (tgt := 125) hx hb dX6_tapColumns_120 (by decide) ?_
        obtain rfl := Option.some.inj hF
        exact J52 _ _ _ hP hD hS (lv_sub hl [0, 1, 2, 3, 4, 5, 6, 7, 8, 9] rfl)
    · rw [if_neg c51] at hF
      refine lv_iconst (v := (0 : Int32)) hx hb dX6_tapColumns_105 (by decide) ?_
      refine lv_goto (tgt := 125) hx hb dX6_tapColumns_106 (by decide) ?_
      obtain rfl := Option.some.inj hF
      exact J35 _ _ _ hP hD hS (lv_sub hl [0, 1, 2, 3, 4, 5, 6, 7, 8, 9] rfl)
theorem dX6_tapRows_0 : decode cX6_tapRows 0 = .ok (.aload_n 0, 1) := by decide +kernel
theorem dX6_tapRows_1 : decode cX6_tapRows 1 = .ok (.getfield 21, 3) := by decide +kernel
theorem dX6_tapRows_4 : decode cX6_tapRows 4 = .ok (.astore 6, 2) := by decide +kernel
theorem dX6_tapRows_6 : decode cX6_tapRows 6 = .ok (.iconst 0, 1) := by decide +kernel
theorem dX6_tapRows_7 : decode cX6_tapRows 7 = .ok (.istore 7, 2) := by decide +kernel
theorem dX6_tapRows_9 : decode cX6_tapRows 9 = .ok (.iload 7, 2) := by decide +kernel
theorem dX6_tapRows_11 : decode cX6_tapRows 11 = .ok (.iload_n 1, 1) := by decide +kernel
theorem dX6_tapRows_12 : decode cX6_tapRows 12 = .ok (.iload_n 1, 1) := by decide +kernel
theorem dX6_tapRows_13 : decode cX6_tapRows 13 = .ok (.imul, 1) := by decide +kernel
theorem dX6_tapRows_14 : decode cX6_tapRows 14 = .ok (.if_icmp .ge 156, 3) := by decide +kernel
theorem dX6_tapRows_17 : decode cX6_tapRows 17 = .ok (.iload 7, 2) := by decide +kernel
theorem dX6_tapRows_19 : decode cX6_tapRows 19 = .ok (.iload_n 1, 1) := by decide +kernel
theorem dX6_tapRows_20 : decode cX6_tapRows 20 = .ok (.idiv, 1) := by decide +kernel
theorem dX6_tapRows_21 : decode cX6_tapRows 21 = .ok (.iload_n 2, 1) := by decide +kernel
theorem dX6_tapRows_22 : decode cX6_tapRows 22 = .ok (.iadd, 1) := by decide +kernel
theorem dX6_tapRows_23 : decode cX6_tapRows 23 = .ok (.bipush 21, 2) := by decide +kernel
theorem dX6_tapRows_25 : decode cX6_tapRows 25 = .ok (.imul, 1) := by decide +kernel
theorem dX6_tapRows_26 : decode cX6_tapRows 26 = .ok (.iload 7, 2) := by decide +kernel
theorem dX6_tapRows_28 : decode cX6_tapRows 28 = .ok (.iload_n 1, 1) := by decide +kernel
theorem dX6_tapRows_29 : decode cX6_tapRows 29 = .ok (.irem, 1) := by decide +kernel
theorem dX6_tapRows_30 : decode cX6_tapRows 30 = .ok (.iadd, 1) := by decide +kernel
theorem dX6_tapRows_31 : decode cX6_tapRows 31 = .ok (.istore 8, 2) := by decide +kernel
theorem dX6_tapRows_33 : decode cX6_tapRows 33 = .ok (.aload 6, 2) := by decide +kernel
theorem dX6_tapRows_35 : decode cX6_tapRows 35 = .ok (.iload 8, 2) := by decide +kernel
theorem dX6_tapRows_37 : decode cX6_tapRows 37 = .ok (.iaload, 1) := by decide +kernel
theorem dX6_tapRows_38 : decode cX6_tapRows 38 = .ok (.iconst 5, 1) := by decide +kernel
theorem dX6_tapRows_39 : decode cX6_tapRows 39 = .ok (.aload 6, 2) := by decide +kernel
theorem dX6_tapRows_41 : decode cX6_tapRows 41 = .ok (.iload 8, 2) := by decide +kernel
theorem dX6_tapRows_43 : decode cX6_tapRows 43 = .ok (.iconst 1, 1) := by decide +kernel
theorem dX6_tapRows_44 : decode cX6_tapRows 44 = .ok (.iadd, 1) := by decide +kernel
theorem dX6_tapRows_45 : decode cX6_tapRows 45 = .ok (.iaload, 1) := by decide +kernel
theorem dX6_tapRows_46 : decode cX6_tapRows 46 = .ok (.imul, 1) := by decide +kernel
theorem dX6_tapRows_47 : decode cX6_tapRows 47 = .ok (.isub, 1) := by decide +kernel
theorem dX6_tapRows_48 : decode cX6_tapRows 48 = .ok (.bipush 20, 2) := by decide +kernel
theorem dX6_tapRows_50 : decode cX6_tapRows 50 = .ok (.aload 6, 2) := by decide +kernel
theorem dX6_tapRows_52 : decode cX6_tapRows 52 = .ok (.iload 8, 2) := by decide +kernel
theorem dX6_tapRows_54 : decode cX6_tapRows 54 = .ok (.iconst 2, 1) := by decide +kernel
theorem dX6_tapRows_55 : decode cX6_tapRows 55 = .ok (.iadd, 1) := by decide +kernel
theorem dX6_tapRows_56 : decode cX6_tapRows 56 = .ok (.iaload, 1) := by decide +kernel
theorem dX6_tapRows_57 : decode cX6_tapRows 57 = .ok (.imul, 1) := by decide +kernel
theorem dX6_tapRows_58 : decode cX6_tapRows 58 = .ok (.iadd, 1) := by decide +kernel
theorem dX6_tapRows_59 : decode cX6_tapRows 59 = .ok (.bipush 20, 2) := by decide +kernel
theorem dX6_tapRows_61 : decode cX6_tapRows 61 = .ok (.aload 6, 2) := by decide +kernel
theorem dX6_tapRows_63 : decode cX6_tapRows 63 = .ok (.iload 8, 2) := by decide +kernel
theorem dX6_tapRows_65 : decode cX6_tapRows 65 = .ok (.iconst 3, 1) := by decide +kernel
theorem dX6_tapRows_66 : decode cX6_tapRows 66 = .ok (.iadd, 1) := by decide +kernel
theorem dX6_tapRows_67 : decode cX6_tapRows 67 = .ok (.iaload, 1) := by decide +kernel
theorem dX6_tapRows_68 : decode cX6_tapRows 68 = .ok (.imul, 1) := by decide +kernel
theorem dX6_tapRows_69 : decode cX6_tapRows 69 = .ok (.iadd, 1) := by decide +kernel
theorem dX6_tapRows_70 : decode cX6_tapRows 70 = .ok (.iconst 5, 1) := by decide +kernel
theorem dX6_tapRows_71 : decode cX6_tapRows 71 = .ok (.aload 6, 2) := by decide +kernel
theorem dX6_tapRows_73 : decode cX6_tapRows 73 = .ok (.iload 8, 2) := by decide +kernel
theorem dX6_tapRows_75 : decode cX6_tapRows 75 = .ok (.iconst 4, 1) := by decide +kernel
theorem dX6_tapRows_76 : decode cX6_tapRows 76 = .ok (.iadd, 1) := by decide +kernel
theorem dX6_tapRows_77 : decode cX6_tapRows 77 = .ok (.iaload, 1) := by decide +kernel
theorem dX6_tapRows_78 : decode cX6_tapRows 78 = .ok (.imul, 1) := by decide +kernel
theorem dX6_tapRows_79 : decode cX6_tapRows 79 = .ok (.isub, 1) := by decide +kernel
theorem dX6_tapRows_80 : decode cX6_tapRows 80 = .ok (.aload 6, 2) := by decide +kernel
theorem dX6_tapRows_82 : decode cX6_tapRows 82 = .ok (.iload 8, 2) := by decide +kernel
theorem dX6_tapRows_84 : decode cX6_tapRows 84 = .ok (.iconst 5, 1) := by decide +kernel
theorem dX6_tapRows_85 : decode cX6_tapRows 85 = .ok (.iadd, 1) := by decide +kernel
theorem dX6_tapRows_86 : decode cX6_tapRows 86 = .ok (.iaload, 1) := by decide +kernel
theorem dX6_tapRows_87 : decode cX6_tapRows 87 = .ok (.iadd, 1) := by decide +kernel
theorem dX6_tapRows_88 : decode cX6_tapRows 88 = .ok (.bipush 16, 2) := by decide +kernel
theorem dX6_tapRows_90 : decode cX6_tapRows 90 = .ok (.iadd, 1) := by decide +kernel
theorem dX6_tapRows_91 : decode cX6_tapRows 91 = .ok (.iconst 5, 1) := by decide +kernel
theorem dX6_tapRows_92 : decode cX6_tapRows 92 = .ok (.ishr, 1) := by decide +kernel
theorem dX6_tapRows_93 : decode cX6_tapRows 93 = .ok (.istore 9, 2) := by decide +kernel
theorem dX6_tapRows_95 : decode cX6_tapRows 95 = .ok (.iload 9, 2) := by decide +kernel
theorem dX6_tapRows_97 : decode cX6_tapRows 97 = .ok (.ifCond .ge 7, 3) := by decide +kernel
theorem dX6_tapRows_100 : decode cX6_tapRows 100 = .ok (.iconst 0, 1) := by decide +kernel
theorem dX6_tapRows_101 : decode cX6_tapRows 101 = .ok (.goto 19, 3) := by decide +kernel
theorem dX6_tapRows_104 : decode cX6_tapRows 104 = .ok (.iload 9, 2) := by decide +kernel
theorem dX6_tapRows_106 : decode cX6_tapRows 106 = .ok (.sipush 255, 3) := by decide +kernel
theorem dX6_tapRows_109 : decode cX6_tapRows 109 = .ok (.if_icmp .le 9, 3) := by decide +kernel
theorem dX6_tapRows_112 : decode cX6_tapRows 112 = .ok (.sipush 255, 3) := by decide +kernel
theorem dX6_tapRows_115 : decode cX6_tapRows 115 = .ok (.goto 5, 3) := by decide +kernel
theorem dX6_tapRows_118 : decode cX6_tapRows 118 = .ok (.iload 9, 2) := by decide +kernel
theorem dX6_tapRows_120 : decode cX6_tapRows 120 = .ok (.istore 9, 2) := by decide +kernel
theorem dX6_tapRows_122 : decode cX6_tapRows 122 = .ok (.iload 4, 2) := by decide +kernel
theorem dX6_tapRows_124 : decode cX6_tapRows 124 = .ok (.iload 7, 2) := by decide +kernel
theorem dX6_tapRows_126 : decode cX6_tapRows 126 = .ok (.iload_n 1, 1) := by decide +kernel
theorem dX6_tapRows_127 : decode cX6_tapRows 127 = .ok (.idiv, 1) := by decide +kernel
theorem dX6_tapRows_128 : decode cX6_tapRows 128 = .ok (.bipush 16, 2) := by decide +kernel
theorem dX6_tapRows_130 : decode cX6_tapRows 130 = .ok (.imul, 1) := by decide +kernel
theorem dX6_tapRows_131 : decode cX6_tapRows 131 = .ok (.iadd, 1) := by decide +kernel
theorem dX6_tapRows_132 : decode cX6_tapRows 132 = .ok (.iload 7, 2) := by decide +kernel
theorem dX6_tapRows_134 : decode cX6_tapRows 134 = .ok (.iload_n 1, 1) := by decide +kernel
theorem dX6_tapRows_135 : decode cX6_tapRows 135 = .ok (.irem, 1) := by decide +kernel
theorem dX6_tapRows_136 : decode cX6_tapRows 136 = .ok (.iadd, 1) := by decide +kernel
theorem dX6_tapRows_137 : decode cX6_tapRows 137 = .ok (.istore 10, 2) := by decide +kernel
theorem dX6_tapRows_139 : decode cX6_tapRows 139 = .ok (.aload_n 3, 1) := by decide +kernel
theorem dX6_tapRows_140 : decode cX6_tapRows 140 = .ok (.iload 10, 2) := by decide +kernel
theorem dX6_tapRows_142 : decode cX6_tapRows 142 = .ok (.iload 5, 2) := by decide +kernel
theorem dX6_tapRows_144 : decode cX6_tapRows 144 = .ok (.ifCond .eq 17, 3) := by decide +kernel
theorem dX6_tapRows_147 : decode cX6_tapRows 147 = .ok (.aload_n 3, 1) := by decide +kernel
theorem dX6_tapRows_148 : decode cX6_tapRows 148 = .ok (.iload 10, 2) := by decide +kernel
theorem dX6_tapRows_150 : decode cX6_tapRows 150 = .ok (.iaload, 1) := by decide +kernel
theorem dX6_tapRows_151 : decode cX6_tapRows 151 = .ok (.iload 9, 2) := by decide +kernel
theorem dX6_tapRows_153 : decode cX6_tapRows 153 = .ok (.iadd, 1) := by decide +kernel
theorem dX6_tapRows_154 : decode cX6_tapRows 154 = .ok (.iconst 1, 1) := by decide +kernel
theorem dX6_tapRows_155 : decode cX6_tapRows 155 = .ok (.iadd, 1) := by decide +kernel
theorem dX6_tapRows_156 : decode cX6_tapRows 156 = .ok (.iconst 1, 1) := by decide +kernel
theorem dX6_tapRows_157 : decode cX6_tapRows 157 = .ok (.ishr, 1) := by decide +kernel
theorem dX6_tapRows_158 : decode cX6_tapRows 158 = .ok (.goto 5, 3) := by decide +kernel
theorem dX6_tapRows_161 : decode cX6_tapRows 161 = .ok (.iload 9, 2) := by decide +kernel
theorem dX6_tapRows_163 : decode cX6_tapRows 163 = .ok (.iastore, 1) := by decide +kernel
theorem dX6_tapRows_164 : decode cX6_tapRows 164 = .ok (.iinc 7 1, 3) := by decide +kernel
theorem dX6_tapRows_167 : decode cX6_tapRows 167 = .ok (.goto (-158), 3) := by decide +kernel
theorem dX6_tapRows_170 : decode cX6_tapRows 170 = .ok (.return_, 1) := by decide +kernel
def FX6_tapRows (G : GG) (M : DD) (a : Nat) (p0 : Int32) (p1 : Int32) (p2 : Option Nat) (p3 : Int32) (p4 : Int32) : Option (DD) :=
  bnd (itr (fun (s2 : Int32 × DD) => ((ltt ((p0 * p0)) fun x5 =>
  if x5 ≤ s2.1 then (some (.inr (s2.1, s2.2))) else
  (chk (¬ p0 = 0) <|
  ltt (s2.1 / p0) fun x7 =>
  ltt ((x7 + p1)) fun x8 =>
  ltt ((x8 * ((21 : Int32)))) fun x9 =>
  chk (¬ p0 = 0) <|
  ltt (s2.1 - s2.1 / p0 * p0) fun x10 =>
  ltt ((x9 + x10)) fun x11 =>
  dr G 13 ((M.2 a 3)) fun b12 =>
  chk (¬ (x11 < 0 ∨ G.2.2 b12 ≤ x11.toNatClampNeg)) <|
  ltt (s2.2.1 b12 x11.toNatClampNeg) fun x13 =>
  ltt ((x11 + ((1 : Int32)))) fun x14 =>
  chk (¬ (x14 < 0 ∨ G.2.2 b12 ≤ x14.toNatClampNeg)) <|
  ltt (s2.2.1 b12 x14.toNatClampNeg) fun x15 =>
  ltt ((((5 : Int32)) * x15)) fun x16 =>
  ltt ((x13 - x16)) fun x17 =>
  ltt ((x11 + ((2 : Int32)))) fun x18 =>
  chk (¬ (x18 < 0 ∨ G.2.2 b12 ≤ x18.toNatClampNeg)) <|
  ltt (s2.2.1 b12 x18.toNatClampNeg) fun x19 =>
  ltt ((((20 : Int32)) * x19)) fun x20 =>
  ltt ((x17 + x20)) fun x21 =>
  ltt ((x11 + ((3 : Int32)))) fun x22 =>
  chk (¬ (x22 < 0 ∨ G.2.2 b12 ≤ x22.toNatClampNeg)) <|
  ltt (s2.2.1 b12 x22.toNatClampNeg) fun x23 =>
  ltt ((((20 : Int32)) * x23)) fun x24 =>
  ltt ((x21 + x24)) fun x25 =>
  ltt ((x11 + ((4 : Int32)))) fun x26 =>
  chk (¬ (x26 < 0 ∨ G.2.2 b12 ≤ x26.toNatClampNeg)) <|
  ltt (s2.2.1 b12 x26.toNatClampNeg) fun x27 =>
  ltt ((((5 : Int32)) * x27)) fun x28 =>
  ltt ((x25 - x28)) fun x29 =>
  ltt ((x11 + ((5 : Int32)))) fun x30 =>
  chk (¬ (x30 < 0 ∨ G.2.2 b12 ≤ x30.toNatClampNeg)) <|
  ltt (s2.2.1 b12 x30.toNatClampNeg) fun x31 =>
  ltt ((x29 + x31)) fun x32 =>
  ltt ((x32 + ((16 : Int32)))) fun x33 =>
  ltt ((x33 >>> (((5 : Int32)) &&& 31))) fun x34 =>
  bnd (if ((0 : Int32)) ≤ x34 then (bnd (if x34 ≤ ((255 : Int32)) then (some (x34)) else
  (some ((255 : Int32)))) fun (y52 : Int32) =>
  some (y52)) else
  (some ((0 : Int32)))) fun (y35 : Int32) =>
  chk (¬ p0 = 0) <|
  ltt (s2.1 / p0) fun x36 =>
  ltt ((x36 * ((16 : Int32)))) fun x37 =>
  ltt ((p3 + x37)) fun x38 =>
  chk (¬ p0 = 0) <|
  ltt (s2.1 - s2.1 / p0 * p0) fun x39 =>
  ltt ((x38 + x39)) fun x40 =>
  bnd (if p4 = ((0 : Int32)) then (some (y35)) else
  (dr G 13 p2 fun b46 =>
  chk (¬ (x40 < 0 ∨ G.2.2 b46 ≤ x40.toNatClampNeg)) <|
  ltt (s2.2.1 b46 x40.toNatClampNeg) fun x47 =>
  ltt ((x47 + y35)) fun x48 =>
  ltt ((x48 + ((1 : Int32)))) fun x49 =>
  ltt ((x49 >>> (((1 : Int32)) &&& 31))) fun x50 =>
  some (x50))) fun (y41 : Int32) =>
  dr G 13 p2 fun b42 =>
  chk (¬ (x40 < 0 ∨ G.2.2 b42 ≤ x40.toNatClampNeg)) <|
  ltt (uI s2.2 b42 x40.toNatClampNeg y41) fun M43 =>
  ltt (s2.1 + (1 : Int32)) fun x44 =>
  some (.inl (x44, M43)))) : Option ((Int32 × DD) ⊕ (Int32 × DD)))) 1000000 ((0 : Int32), M)) fun (y1 : Int32 × DD) =>
  some y1.2
set_option maxHeartbeats 4000000 in
set_option maxRecDepth 100000 in
theorem kX6_tapRows (l : Launch) (D : va_G) (ct : CT) (ad : Nat → Nat) (Z : Nat → Nat) (G : GG) (M : DD) (sz : Nat) (a : Nat) (p0 : Int32) (p1 : Int32) (p2 : Option Nat) (p3 : Int32) (p4 : Int32) (y : DD) (hc : a < G.1) (hk : G.2.1 a = 6) (hF : FX6_tapRows G M a p0 p1 p2 p3 p4 = some y) : Met l yX6_tapRows wsX6_tapRows ({ frames := 0, cells := 0, slots := 0, locals := 0 }) (va_Pc [.ref (ad a), .int p0, .int p1, va_re ad p2, .int p3, .int p4] (kB D ct ad Z G M sz)) (va_Qv (fun (_ : Unit) => True) (fun _ t => kE D ct ad G (wA ad G sz) y t) (wA ad G sz)) 0 0 (wA ad G sz) := by
  refine Met.ofW (cc := cX6_tapRows) (maxL := 11) (ret := none) (by decide) rfl ?_
  intro p e s m args below meth c s₁ B hml hv
  obtain ⟨rfl, hsz, hP, hK, hD0, hZ, hN⟩ := hv
  have hx := B.exec
  have hb := B.bytes
  have hr := B.returns
  have hts := atoms_spec (ws := wsX6_tapRows) B.pre
  have hown : s.vm.findClass RX6 = some m.cls := findClass_of_methodNamed B.named
  have hlocks := B.notSynchronized
  subst hsz
  have hD := wD_self (sz := s.heap.size) hD0
  have hA9 : ∀ q, s.heap.size ≤ q → wA ad G s.heap.size q := fun q h => Or.inr h
  generalize hAe : wA ad G s.heap.size = A at hD hA9 hZ ⊢
  have hS : va_S A s.heap s.heap [] := va_S.rf
  have hl := lv_entry ([.ref (ad a), .int p0, .int p1, va_re ad p2, .int p3, .int p4]) (n := 11) (by cases p2 <;> exact Nat.le_of_ble_eq_true rfl)
  rw [lg_entry_eq]
  generalize (lg_sl ([.ref (ad a), .int p0, .int p1, va_re ad p2, .int p3, .int p4]) ++ List.replicate (11 - (lg_sl ([.ref (ad a), .int p0, .int p1, va_re ad p2, .int p3, .int p4])).length) Slot.unset).toArray = ls at hl ⊢
  have hl : lv_has ls 11 [(0, .ref (ad a)), (1, .int p0), (2, .int p1), (3, va_re ad p2), (4, .int p3), (5, .int p4)] := by have e9 : lv_args 0 [.ref (ad a), .int p0, .int p1, va_re ad p2, .int p3, .int p4] = [(0, .ref (ad a)), (1, .int p0), (2, .int p1), (3, va_re ad p2), (4, .int p3), (5, .int p4)] := (by cases p2 <;> rfl); rw [e9] at hl; exact hl
  unfold FX6_tapRows at hF
  refine lv_aload_n hx hb dX6_tapRows_0 rfl (lv_at hl 0 rfl) ?_
  refine va_get (D := D) (ci := 6) (v := va_re ad (M.2 a 3)) (C := RX6) (T := TX6) (N := 14) hx hb hts (by decide +kernel) hown hK hP a (wld_o ct ad G M hc hk (by decide)) rfl 3 (by decide) (hts (.fieldLink RX6 21 "VideoSuite$Samples" "window" "[I") (by decide +kernel)) (fun _ h9 => h9) rfl dX6_tapRows_1 ?_
  refine lv_astoreq (lv' := [(6, va_re ad (M.2 a 3)), (0, .ref (ad a)), (1, .int p0), (2, .int p1), (3, va_re ad p2), (4, .int p3), (5, .int p4)]) hx hb dX6_tapRows_4 hl (by decide) rfl (fun ls hl => ?_)
  refine lv_iconst (v := (0 : Int32)) hx hb dX6_tapRows_6 (by decide) ?_
  refine lv_istore (lv' := [(7, .int (0 : Int32)), (6, va_re ad (M.2 a 3)), (0, .ref (ad a)), (1, .int p0), (2, .int p1), (3, va_re ad p2), (4, .int p3), (5, .int p4)]) hx hb dX6_tapRows_7 hl (by decide) (by generalize ((M.2 a 3)) = o9; cases o9 <;> rfl) (fun ls hl => ?_)
  obtain ⟨y1, hy1, hF⟩ := bnd_some hF
  have K1 : ∀ (H : Heap) (locs : List Loc) (ls : Array Slot), va_P D classes (wld ct ad G y1.2) H → va_D A (wld ct ad G y1.2) → va_S A s.heap H locs → lv_has ls 11 [(7, .int y1.1), (6, va_re ad (M.2 a 3)), (0, .ref (ad a)), (1, .int p0), (2, .int p1), (3, va_re ad p2), (4, .int p3), (5, .int p4)] → W p l e (headSpec wsX6_tapRows ({ frames := 0, cells := 0, slots := 0, locals := 0 })).room s m ([.ref (ad a), .int p0, .int p1, va_re ad p2, .int p3, .int p4] : List Value).toArray below meth c H locs 0 0 (MQ below (va_Qv (fun (_ : Unit) => True) (fun _ t => kE D ct ad G A y t) A) ([.ref (ad a), .int p0, .int p1, va_re ad p2, .int p3, .int p4] : List Value).toArray s 0 0 A) (F0 m 170 ls []) := by
    intro H locs ls hP hD hS hl
    obtain rfl := Option.some.inj hF
    exact W.vret hx hb hr (fun t ht hW => ⟨⟨(), rfl, trivial, ⟨by rw [ht]; exact hP, va_K.moved hW.alike hK, hD⟩⟩, hS.F ht⟩) hS.2.2 dX6_tapRows_170
  clear hF
  refine itr_rule (fun (s2 : Int32 × DD) => ∀ (H : Heap) (locs : List Loc) (ls : Array Slot), va_P D classes (wld ct ad G s2.2) H → va_D A (wld ct ad G s2.2) → va_S A s.heap H locs → lv_has ls 11 [(7, .int s2.1), (6, va_re ad (M.2 a 3)), (0, .ref (ad a)), (1, .int p0), (2, .int p1), (3, va_re ad p2), (4, .int p3), (5, .int p4)] → W p l e (headSpec wsX6_tapRows ({ frames := 0, cells := 0, slots := 0, locals := 0 })).room s m ([.ref (ad a), .int p0, .int p1, va_re ad p2, .int p3, .int p4] : List Value).toArray below meth c H locs 0 0 (MQ below (va_Qv (fun (_ : Unit) => True) (fun _ t => kE D ct ad G A y t) A) ([.ref (ad a), .int p0, .int p1, va_re ad p2, .int p3, .int p4] : List Value).toArray s 0 0 A) (F0 m 9 ls [])) ?_ _ _ hy1 _ _ _ hP hD hS (lv_sub hl [0, 1, 2, 3, 4, 5, 6, 7] rfl)
  rintro s2 ⟨z4, hF, hwz4⟩ H locs ls hP hD hS hl
  try dsimp only at hF
  refine lv_iload hx hb dX6_tapRows_9 (lv_at hl 0 rfl) ?_
  refine lv_iload_n hx hb dX6_tapRows_11 rfl (lv_at hl 3 rfl) ?_
  refine lv_iload_n hx hb dX6_tapRows_12 rfl (lv_at hl 3 rfl) ?_
  refine lv_imul hx hb dX6_tapRows_13 ?_
  obtain ⟨x5, ex5, hF⟩ := ltt_some hF
  refine lv_topi (fun zx5 ezx5 => ?_)
  obtain rfl : x5 = zx5 := ex5.trans ezx5.symm
  refine lv_icmp_ge (tgt := 170) hx hb dX6_tapRows_14 (by decide) (fun c6 => ?_) (fun c6 => ?_)
  · rw [if_pos c6] at hF
    obtain rfl := Option.some.inj hF
    subst hwz4
    exact K1 _ _ _ hP hD hS (lv_sub hl [0, 1, 2, 3, 4, 5, 6, 7] rfl)
  · rw [if_neg c6] at hF
    refine lv_iload hx hb dX6_tapRows_17 (lv_at hl 0 rfl) ?_
    refine lv_iload_n hx hb dX6_tapRows_19 rfl (lv_at hl 3 rfl) ?_
    obtain ⟨hne, hF⟩ := chk_some hF
    refine lv_idiv hx hb dX6_tapRows_20 hne ?_
    obtain ⟨x7, ex7, hF⟩ := ltt_some hF
    refine lv_topi (fun zx7 ezx7 => ?_)
    obtain rfl : x7 = zx7 := ex7.trans ezx7.symm
    refine lv_iload_n hx hb dX6_tapRows_21 rfl (lv_at hl 4 rfl) ?_
    refine lv_iadd hx hb dX6_tapRows_22 ?_
    obtain ⟨x8, ex8, hF⟩ := ltt_some hF
    refine lv_topi (fun zx8 ezx8 => ?_)
    obtain rfl : x8 = zx8 := ex8.trans ezx8.symm
    refine lv_bipush (v := (21 : Int32)) hx hb dX6_tapRows_23 (by decide) ?_
    refine lv_imul hx hb dX6_tapRows_25 ?_
    obtain ⟨x9, ex9, hF⟩ := ltt_some hF
    refine lv_topi (fun zx9 ezx9 => ?_)
    obtain rfl : x9 = zx9 := ex9.trans ezx9.symm
    refine lv_iload hx hb dX6_tapRows_26 (lv_at hl 0 rfl) ?_
    refine lv_iload_n hx hb dX6_tapRows_28 rfl (lv_at hl 3 rfl) ?_
    obtain ⟨hne, hF⟩ := chk_some hF
    refine lv_irem hx hb dX6_tapRows_29 hne ?_
    obtain ⟨x10, ex10, hF⟩ := ltt_some hF
    refine lv_topi (fun zx10 ezx10 => ?_)
    obtain rfl : x10 = zx10 := ex10.trans ezx10.symm
    refine lv_iadd hx hb dX6_tapRows_30 ?_
    obtain ⟨x11, ex11, hF⟩ := ltt_some hF
    refine lv_topi (fun zx11 ezx11 => ?_)
    obtain rfl : x11 = zx11 := ex11.trans ezx11.symm
    refine lv_istore (lv' := [(8, .int x11), (7, .int s2.1), (6, va_re ad (M.2 a 3)), (0, .ref (ad a)), (1, .int p0), (2, .int p1), (3, va_re ad p2), (4, .int p3), (5, .int p4)]) hx hb dX6_tapRows_31 hl (by decide) rfl (fun ls hl => ?_)
    refine lv_aloadq hx hb dX6_tapRows_33 (lv_at hl 2 rfl) ?_
    refine lv_iload hx hb dX6_tapRows_35 (lv_at hl 0 rfl) ?_
    obtain ⟨b12, ho12, hc12, hk12, hF⟩ := dr_some hF
    refine W_st (st' := [.int x11, .ref (ad b12)]) (by rw [va_some ho12]) ?_
    obtain ⟨hvc, hF⟩ := chk_some hF
    refine va_iald hx hb hK hP b12 1 (wld_i ct ad G s2.2 hc12 hk12) rfl hvc dX6_tapRows_37 ?_
    obtain ⟨x13, ex13, hF⟩ := ltt_some hF
    refine lv_topi (fun zx13 ezx13 => ?_)
    obtain rfl : x13 = zx13 := ex13.trans ezx13.symm
    refine lv_iconst (v := (5 : Int32)) hx hb dX6_tapRows_38 (by decide) ?_
    refine lv_aloadq hx hb dX6_tapRows_39 (lv_at hl 2 rfl) ?_
    refine lv_iload hx hb dX6_tapRows_41 (lv_at hl 0 rfl) ?_
    refine lv_iconst (v := (1 : Int32)) hx hb dX6_tapRows_43 (by decide) ?_
    refine lv_iadd hx hb dX6_tapRows_44 ?_
    obtain ⟨x14, ex14, hF⟩ := ltt_some hF
    refine lv_topi (fun zx14 ezx14 => ?_)
    obtain rfl : x14 = zx14 := ex14.trans ezx14.symm
    refine W_st (st' := [.int x14, .ref (ad b12), .int (5 : Int32), .int x13]) (by rw [va_some ho12]) ?_
    obtain ⟨hvc, hF⟩ := chk_some hF
    refine va_iald hx hb hK hP b12 1 (wld_i ct ad G s2.2 hc12 hk12) rfl hvc dX6_tapRows_45 ?_
    obtain ⟨x15, ex15, hF⟩ := ltt_some hF
    refine lv_topi (fun zx15 ezx15 => ?_)
    obtain rfl : x15 = zx15 := ex15.trans ezx15.symm
    refine lv_imul hx hb dX6_tapRows_46 ?_
    obtain ⟨x16, ex16, hF⟩ := ltt_some hF
    refine lv_topi (fun zx16 ezx16 => ?_)
    obtain rfl : x16 = zx16 := ex16.trans ezx16.symm
    refine lv_isub hx hb dX6_tapRows_47 ?_
    obtain ⟨x17, ex17, hF⟩ := ltt_some hF
    refine lv_topi (fun zx17 ezx17 => ?_)
    obtain rfl : x17 = zx17 := ex17.trans ezx17.symm
    refine lv_bipush (v := (20 : Int32)) hx hb dX6_tapRows_48 (by decide) ?_
    refine lv_aloadq hx hb dX6_tapRows_50 (lv_at hl 2 rfl) ?_
    refine lv_iload hx hb dX6_tapRows_52 (lv_at hl 0 rfl) ?_
    refine lv_iconst (v := (2 : Int32)) hx hb dX6_tapRows_54 (by decide) ?_
    refine lv_iadd hx hb dX6_tapRows_55 ?_
    obtain ⟨x18, ex18, hF⟩ := ltt_some hF
    refine lv_topi (fun zx18 ezx18 => ?_)
    obtain rfl : x18 = zx18 := ex18.trans ezx18.symm
    refine W_st (st' := [.int x18, .ref (ad b12), .int (20 : Int32), .int x17]) (by rw [va_some ho12]) ?_
    obtain ⟨hvc, hF⟩ := chk_some hF
    refine va_iald hx hb hK hP b12 1 (wld_i ct ad G s2.2 hc12 hk12) rfl hvc dX6_tapRows_56 ?_
    obtain ⟨x19, ex19, hF⟩ := ltt_some hF
    refine lv_topi (fun zx19 ezx19 => ?_)
    obtain rfl : x19 = zx19 := ex19.trans ezx19.symm
    refine lv_imul hx hb dX6_tapRows_57 ?_
    obtain ⟨x20, ex20, hF⟩ := ltt_some hF
    refine lv_topi (fun zx20 ezx20 => ?_)
    obtain rfl : x20 = zx20 := ex20.trans ezx20.symm
    refine lv_iadd hx hb dX6_tapRows_58 ?_
    obtain ⟨x21, ex21, hF⟩ := ltt_some hF
    refine lv_topi (fun zx21 ezx21 => ?_)
    obtain rfl : x21 = zx21 := ex21.trans ezx21.symm
    refine lv_bipush (v := (20 : Int32)) hx hb dX6_tapRows_59 (by decide) ?_
    refine lv_aloadq hx hb dX6_tapRows_61 (lv_at hl 2 rfl) ?_
    refine lv_iload hx hb dX6_tapRows_63 (lv_at hl 0 rfl) ?_
    refine lv_iconst (v := (3 : Int32)) hx hb dX6_tapRows_65 (by decide) ?_
    refine lv_iadd hx hb dX6_tapRows_66 ?_
    obtain ⟨x22, ex22, hF⟩ := ltt_some hF
    refine lv_topi (fun zx22 ezx22 => ?_)
    obtain rfl : x22 = zx22 := ex22.trans ezx22.symm
    refine W_st (st' := [.int x22, .ref (ad b12), .int (20 : Int32), .int x21]) (by rw [va_some ho12]) ?_
    obtain ⟨hvc, hF⟩ := chk_some hF
    refine va_iald hx hb hK hP b12 1 (wld_i ct ad G s2.2 hc12 hk12) rfl hvc dX6_tapRows_67 ?_
    obtain ⟨x23, ex23, hF⟩ := ltt_some hF
    refine lv_topi (fun zx23 ezx23 => ?_)
    obtain rfl : x23 = zx23 := ex23.trans ezx23.symm
    refine lv_imul hx hb dX6_tapRows_68 ?_
    obtain ⟨x24, ex24, hF⟩ := ltt_some hF
    refine lv_topi (fun zx24 ezx24 => ?_)
    obtain rfl : x24 = zx24 := ex24.trans ezx24.symm
    refine lv_iadd hx hb dX6_tapRows_69 ?_
    obtain ⟨x25, ex25, hF⟩ := ltt_some hF
    refine lv_topi (fun zx25 ezx25 => ?_)
    obtain rfl : x25 = zx25 := ex25.trans ezx25.symm
    refine lv_iconst (v := (5 : Int32)) hx hb dX6_tapRows_70 (by decide) ?_
    refine lv_aloadq hx hb dX6_tapRows_71 (lv_at hl 2 rfl) ?_
    refine lv_iload hx hb dX6_tapRows_73 (lv_at hl 0 rfl) ?_
    refine lv_iconst (v := (4 : Int32)) hx hb dX6_tapRows_75 (by decide) ?_
    refine lv_iadd hx hb dX6_tapRows_76 ?_
    obtain ⟨x26, ex26, hF⟩ := ltt_some hF
    refine lv_topi (fun zx26 ezx26 => ?_)
    obtain rfl : x26 = zx26 := ex26.trans ezx26.symm
    refine W_st (st' := [.int x26, .ref (ad b12), .int (5 : Int32), .int x25]) (by rw [va_some ho12]) ?_
    obtain ⟨hvc, hF⟩ := chk_some hF
    refine va_iald hx hb hK hP b12 1 (wld_i ct ad G s2.2 hc12 hk12) rfl hvc dX6_tapRows_77 ?_
    obtain ⟨x27, ex27, hF⟩ := ltt_some hF
    refine lv_topi (fun zx27 ezx27 => ?_)
    obtain rfl : x27 = zx27 := ex27.trans ezx27.symm
    refine lv_imul hx hb dX6_tapRows_78 ?_
    obtain ⟨x28, ex28, hF⟩ := ltt_some hF
    refine lv_topi (fun zx28 ezx28 => ?_)
    obtain rfl : x28 = zx28 := ex28.trans ezx28.symm
    refine lv_isub hx hb dX6_tapRows_79 ?_
    obtain ⟨x29, ex29, hF⟩ := ltt_some hF
    refine lv_topi (fun zx29 ezx29 => ?_)
    obtain rfl : x29 = zx29 := ex29.trans ezx29.symm
    refine lv_aloadq hx hb dX6_tapRows_80 (lv_at hl 2 rfl) ?_
    refine lv_iload hx hb dX6_tapRows_82 (lv_at hl 0 rfl) ?_
    refine lv_iconst (v := (5 : Int32)) hx hb dX6_tapRows_84 (by decide) ?_
    refine lv_iadd hx hb dX6_tapRows_85 ?_
    obtain ⟨x30, ex30, hF⟩ := ltt_some hF
    refine lv_topi (fun zx30 ezx30 => ?_)
    obtain rfl : x30 = zx30 := ex30.trans ezx30.symm
    refine W_st (st' := [.int x30, .ref (ad b12), .int x29]) (by rw [va_some ho12]) ?_
    obtain ⟨hvc, hF⟩ := chk_some hF
    refine va_iald hx hb hK hP b12 1 (wld_i ct ad G s2.2 hc12 hk12) rfl hvc dX6_tapRows_86 ?_
    obtain ⟨x31, ex31, hF⟩ := ltt_some hF
    refine lv_topi (fun zx31 ezx31 => ?_)
    obtain rfl : x31 = zx31 := ex31.trans ezx31.symm
    refine lv_iadd hx hb dX6_tapRows_87 ?_
    obtain ⟨x32, ex32, hF⟩ := ltt_some hF
    refine lv_topi (fun zx32 ezx32 => ?_)
    obtain rfl : x32 = zx32 := ex32.trans ezx32.symm
    refine lv_bipush (v := (16 : Int32)) hx hb dX6_tapRows_88 (by decide) ?_
    refine lv_iadd hx hb dX6_tapRows_90 ?_
    obtain ⟨x33, ex33, hF⟩ := ltt_some hF
    refine lv_topi (fun zx33 ezx33 => ?_)
    obtain rfl : x33 = zx33 := ex33.trans ezx33.symm
    refine lv_iconst (v := (5 : Int32)) hx hb dX6_tapRows_91 (by decide) ?_
    refine lv_ishr hx hb dX6_tapRows_92 ?_
    obtain ⟨x34, ex34, hF⟩ := ltt_some hF
    refine lv_topi (fun zx34 ezx34 => ?_)
    obtain rfl : x34 = zx34 := ex34.trans ezx34.symm
    refine lv_istore (lv' := [(9, .int x34), (8, .int x11), (7, .int s2.1), (6, va_re ad (M.2 a 3)), (0, .ref (ad a)), (1, .int p0), (2, .int p1), (3, va_re ad p2), (4, .int p3), (5, .int p4)]) hx hb dX6_tapRows_93 hl (by decide) rfl (fun ls hl => ?_)
    refine lv_iload hx hb dX6_tapRows_95 (lv_at hl 0 rfl) ?_
    obtain ⟨y35, hy35, hF⟩ := bnd_some hF
    have J35 : ∀ (H : Heap) (locs : List Loc) (ls : Array Slot), va_P D classes (wld ct ad G s2.2) H → va_D A (wld ct ad G s2.2) → va_S A s.heap H locs → lv_has ls 11 [(9, .int x34), (8, .int x11), (7, .int s2.1), (6, va_re ad (M.2 a 3)), (0, .ref (ad a)), (1, .int p0), (2, .int p1), (3, va_re ad p2), (4, .int p3), (5, .int p4)] → W p l e (headSpec wsX6_tapRows ({ frames := 0, cells := 0, slots := 0, locals := 0 })).room s m ([.ref (ad a), .int p0, .int p1, va_re ad p2, .int p3, .int p4] : List Value).toArray below meth c H locs 0 0 (MQ below (va_Qv (fun (_ : Unit) => True) (fun _ t => kE D ct ad G A y t) A) ([.ref (ad a), .int p0, .int p1, va_re ad p2, .int p3, .int p4] : List Value).toArray s 0 0 A) (F0 m 120 ls [.int y35]) := by
      intro H locs ls hP hD hS hl
      refine lv_istore (lv' := [(9, .int y35), (8, .int x11), (7, .int s2.1), (6, va_re ad (M.2 a 3)), (0, .ref (ad a)), (1, .int p0), (2, .int p1), (3, va_re ad p2), (4, .int p3), (5, .int p4)]) hx hb dX6_tapRows_120 hl (by decide) rfl (fun ls hl => ?_)
      refine lv_iload hx hb dX6_tapRows_122 (lv_at hl 8 rfl) ?_
      refine lv_iload hx hb dX6_tapRows_124 (lv_at hl 2 rfl) ?_
      refine lv_iload_n hx hb dX6_tapRows_126 rfl (lv_at hl 5 rfl) ?_
      obtain ⟨hne, hF⟩ := chk_some hF
      refine lv_idiv hx hb dX6_tapRows_127 hne ?_
      obtain ⟨x36, ex36, hF⟩ := ltt_some hF
      refine lv_topi (fun zx36 ezx36 => ?_)
      obtain rfl : x36 = zx36 := ex36.trans ezx36.symm
      refine lv_bipush (v := (16 : Int32)) hx hb dX6_tapRows_128 (by decide) ?_
      refine lv_imul hx hb dX6_tapRows_130 ?_
      obtain ⟨x37, ex37, hF⟩ := ltt_some hF
      refine lv_topi (fun zx37 ezx37 => ?_)
      obtain rfl : x37 = zx37 := ex37.trans ezx37.symm
      refine lv_iadd hx hb dX6_tapRows_131 ?_
      obtain ⟨x38, ex38, hF⟩ := ltt_some hF
      refine lv_topi (fun zx38 ezx38 => ?_)
      obtain rfl : x38 = zx38 := ex38.trans ezx38.symm
      refine lv_iload hx hb dX6_tapRows_132 (lv_at hl 2 rfl) ?_
      refine lv_iload_n hx hb dX6_tapRows_134 rfl (lv_at hl 5 rfl) ?_
      obtain ⟨hne, hF⟩ := chk_some hF
      refine lv_irem hx hb dX6_tapRows_135 hne ?_
      obtain ⟨x39, ex39, hF⟩ := ltt_some hF
      refine lv_topi (fun zx39 ezx39 => ?_)
      obtain rfl : x39 = zx39 := ex39.trans ezx39.symm
      refine lv_iadd hx hb dX6_tapRows_136 ?_
      obtain ⟨x40, ex40, hF⟩ := ltt_some hF
      refine lv_topi (fun zx40 ezx40 => ?_)
      obtain rfl : x40 = zx40 := ex40.trans ezx40.symm
      refine lv_istore (lv' := [(10, .int x40), (9, .int y35), (8, .int x11), (7, .int s2.1), (6, va_re ad (M.2 a 3)), (0, .ref (ad a)), (1, .int p0), (2, .int p1), (3, va_re ad p2), (4, .int p3), (5, .int p4)]) hx hb dX6_tapRows_137 hl (by decide) rfl (fun ls hl => ?_)
      refine lv_aloadq_n hx hb dX6_tapRows_139 rfl (lv_at hl 8 rfl) ?_
      refine lv_iload hx hb dX6_tapRows_140 (lv_at hl 0 rfl) ?_
      refine lv_iload hx hb dX6_tapRows_142 (lv_at hl 10 rfl) ?_
      obtain ⟨y41, hy41, hF⟩ := bnd_some hF
      have J41 : ∀ (H : Heap) (locs : List Loc) (ls : Array Slot), va_P D classes (wld ct ad G s2.2) H → va_D A (wld ct ad G s2.2) → va_S A s.heap H locs → lv_has ls 11 [(10, .int x40), (9, .int y35), (8, .int x11), (7, .int s2.1), (6, va_re ad (M.2 a 3)), (0, .ref (ad a)), (1, .int p0), (2, .int p1), (3, va_re ad p2), (4, .int p3), (5, .int p4)] → W p l e (headSpec wsX6_tapRows ({ frames := 0, cells := 0, slots := 0, locals := 0 })).room s m ([.ref (ad a), .int p0, .int p1, va_re ad p2, .int p3, .int p4] : List Value).toArray below meth c H locs 0 0 (MQ below (va_Qv (fun (_ : Unit) => True) (fun _ t => kE D ct ad G A y t) A) ([.ref (ad a), .int p0, .int p1, va_re ad p2, .int p3, .int p4] : List Value).toArray s 0 0 A) (F0 m 163 ls [.int y41, .int x40, va_re ad p2]) := by
        intro H locs ls hP hD hS hl
        obtain ⟨b42, ho42, hc42, hk42, hF⟩ := dr_some hF
        refine W_st (st' := [.int y41, .int x40, .ref (ad b42)]) (by rw [va_some ho42]) ?_
        obtain ⟨hvc, hF⟩ := chk_some hF
        refine va_iast hx hb hK hP hD hS b42 1 (wld_i ct ad G s2.2 hc42 hk42) rfl hvc dX6_tapRows_163 (fun H locs hP hD hS => ?_)
        obtain ⟨M43, eM43, hF⟩ := ltt_some hF
        rw [set_i ct ad G s2.2 hc42 hk42, ← eM43] at hP hD
        obtain ⟨x44, ex44, hF⟩ := ltt_some hF
        refine lv_iinc (v := x44) (lv' := [(7, .int x44), (10, .int x40), (9, .int y35), (8, .int x11), (6, va_re ad (M.2 a 3)), (0, .ref (ad a)), (1, .int p0), (2, .int p1), (3, va_re ad p2), (4, .int p3), (5, .int p4)]) hx hb dX6_tapRows_164 hl (k := 3) rfl (by rw [ex44]; rfl) (by decide) (by generalize ((M.2 a 3)) = o9; cases o9 <;> rfl) (fun ls hl => ?_)
        refine lv_goto (tgt := 9) hx hb dX6_tapRows_167 (by decide) ?_
        obtain rfl := Option.some.inj hF
        exact hwz4 _ _ _ hP hD hS (lv_sub hl [0, 4, 5, 6, 7, 8, 9, 10] rfl)
      clear hF
      have hF := hy41
      clear hy41
      refine lv_if_eq (tgt := 161) hx hb dX6_tapRows_144 (by decide) (fun c45 => ?_) (fun c45 => ?_)
      · rw [if_pos c45] at hF
        refine lv_iload hx hb dX6_tapRows_161 (lv_at hl 1 rfl) ?_
        obtain rfl := Option.some.inj hF
        exact J41 _ _ _ hP hD hS (lv_sub hl [0, 1, 2, 3, 4, 5, 6, 7, 8, 9, 10] rfl)
      · rw [if_neg c45] at hF
        refine lv_aloadq_n hx hb dX6_tapRows_147 rfl (lv_at hl 8 rfl) ?_
        refine lv_iload hx hb dX6_tapRows_148 (lv_at hl 0 rfl) ?_
        obtain ⟨b46, ho46, hc46, hk46, hF⟩ := dr_some hF
        refine W_st (st' := [.int x40, .ref (ad b46), .int x40, .ref (ad b46)]) (by rw [va_some ho46]) ?_
        obtain ⟨hvc, hF⟩ := chk_some hF
        refine va_iald hx hb hK hP b46 1 (wld_i ct ad G s2.2 hc46 hk46) rfl hvc dX6_tapRows_150 ?_
        obtain ⟨x47, ex47, hF⟩ := ltt_some hF
        refine lv_topi (fun zx47 ezx47 => ?_)
        obtain rfl : x47 = zx47 := ex47.trans ezx47.symm
        refine lv_iload hx hb dX6_tapRows_151 (lv_at hl 1 rfl) ?_
        refine lv_iadd hx hb dX6_tapRows_153 ?_
        obtain ⟨x48, ex48, hF⟩ := ltt_some hF
        refine lv_topi (fun zx48 ezx48 => ?_)
        obtain rfl : x48 = zx48 := ex48.trans ezx48.symm
        refine lv_iconst (v := (1 : Int32)) hx hb dX6_tapRows_154 (by decide) ?_
        refine lv_iadd hx hb dX6_tapRows_155 ?_
        obtain ⟨x49, ex49, hF⟩ := ltt_some hF
        refine lv_topi (fun zx49 ezx49 => ?_)
        obtain rfl : x49 = zx49 := ex49.trans ezx49.symm
        refine lv_iconst (v := (1 : Int32)) hx hb dX6_tapRows_156 (by decide) ?_
        refine lv_ishr hx hb dX6_tapRows_157 ?_
        obtain ⟨x50, ex50, hF⟩ := ltt_some hF
        refine lv_topi (fun zx50 ezx50 => ?_)
        obtain rfl : x50 = zx50 := ex50.trans ezx50.symm
        refine lv_goto (tgt := 163) hx hb dX6_tapRows_158 (by decide) ?_
        obtain rfl := Option.some.inj hF
        refine W_st (st' := [.int x50, .int x40, va_re ad p2]) (by rw [va_some ho46]) ?_
        exact J41 _ _ _ hP hD hS (lv_sub hl [0, 1, 2, 3, 4, 5, 6, 7, 8, 9, 10] rfl)
    clear hF
    have hF := hy35
    clear hy35
    refine lv_if_ge (tgt := 104) hx hb dX6_tapRows_97 (by decide) (fun c51 => ?_) (fun c51 => ?_)
    · rw [if_pos c51] at hF
      refine lv_iload hx hb dX6_tapRows_104 (lv_at hl 0 rfl) ?_
      refine lv_sipush (v := (255 : Int32)) hx hb dX6_tapRows_106 (by decide) ?_
      obtain ⟨y52, hy52, hF⟩ := bnd_some hF
      have J52 : ∀ (H : Heap) (locs : List Loc) (ls : Array Slot), va_P D classes (wld ct ad G s2.2) H → va_D A (wld ct ad G s2.2) → va_S A s.heap H locs → lv_has ls 11 [(9, .int x34), (8, .int x11), (7, .int s2.1), (6, va_re ad (M.2 a 3)), (0, .ref (ad a)), (1, .int p0), (2, .int p1), (3, va_re ad p2), (4, .int p3), (5, .int p4)] → W p l e (headSpec wsX6_tapRows ({ frames := 0, cells := 0, slots := 0, locals := 0 })).room s m ([.ref (ad a), .int p0, .int p1, va_re ad p2, .int p3, .int p4] : List Value).toArray below meth c H locs 0 0 (MQ below (va_Qv (fun (_ : Unit) => True) (fun _ t => kE D ct ad G A y t) A) ([.ref (ad a), .int p0, .int p1, va_re ad p2, .int p3, .int p4] : List Value).toArray s 0 0 A) (F0 m 120 ls [.int y52]) := by
        intro H locs ls hP hD hS hl
        obtain rfl := Option.some.inj hF
        exact J35 _ _ _ hP hD hS (lv_sub hl [0, 1, 2, 3, 4, 5, 6, 7, 8, 9] rfl)
      clear hF
      have hF := hy52
      clear hy52
      refine lv_icmp_le (tgt := 118) hx hb dX6_tapRows_109 (by decide) (fun c53 => ?_) (fun c53 => ?_)
      · rw [if_pos c53] at hF
        refine lv_iload hx hb dX6_tapRows_118 (lv_at hl 0 rfl) ?_
        obtain rfl := Option.some.inj hF
        exact J52 _ _ _ hP hD hS (lv_sub hl [0, 1, 2, 3, 4, 5, 6, 7, 8, 9] rfl)
      · rw [if_neg c53] at hF
        refine lv_sipush (v := (255 : Int32)) hx hb dX6_tapRows_112 (by decide) ?_
        refine lv_goto (tgt := 120) hx hb dX6_tapRows_115 (by decide) ?_
        obtain rfl := Option.some.inj hF
        exact J52 _ _ _ hP hD hS (lv_sub hl [0, 1, 2, 3, 4, 5, 6, 7, 8, 9] rfl)
    · rw [if_neg c51] at hF
      refine lv_iconst (v := (0 : Int32)) hx hb dX6_tapRows_100 (by decide) ?_
      refine lv_goto (tgt := 120) hx hb dX6_tapRows_101 (by decide) ?_
      obtain rfl := Option.some.inj hF
      exact J35 _ _ _ hP hD hS (lv_sub hl [0, 1, 2, 3, 4, 5, 6, 7, 8, 9] rfl)
theorem dX6_three_0 : decode cX6_three 0 = .ok (.aload_n 0, 1) := by decide +kernel
theorem dX6_three_1 : decode cX6_three 1 = .ok (.getfield 36, 3) := by decide +kernel
theorem dX6_three_4 : decode cX6_three 4 = .ok (.iload_n 1, 1) := by decide +kernel
theorem dX6_three_5 : decode cX6_three 5 = .ok (.iaload, 1) := by decide +kernel
theorem dX6_three_6 : decode cX6_three 6 = .ok (.iconst 2, 1) := by decide +kernel
theorem dX6_three_7 : decode cX6_three 7 = .ok (.aload_n 0, 1) := by decide +kernel
theorem dX6_three_8 : decode cX6_three 8 = .ok (.getfield 36, 3) := by decide +kernel
theorem dX6_three_11 : decode cX6_three 11 = .ok (.iload_n 2, 1) := by decide +kernel
theorem dX6_three_12 : decode cX6_three 12 = .ok (.iaload, 1) := by decide +kernel
theorem dX6_three_13 : decode cX6_three 13 = .ok (.imul, 1) := by decide +kernel
theorem dX6_three_14 : decode cX6_three 14 = .ok (.iadd, 1) := by decide +kernel
theorem dX6_three_15 : decode cX6_three 15 = .ok (.aload_n 0, 1) := by decide +kernel
theorem dX6_three_16 : decode cX6_three 16 = .ok (.getfield 36, 3) := by decide +kernel
theorem dX6_three_19 : decode cX6_three 19 = .ok (.iload_n 3, 1) := by decide +kernel
theorem dX6_three_20 : decode cX6_three 20 = .ok (.iaload, 1) := by decide +kernel
theorem dX6_three_21 : decode cX6_three 21 = .ok (.iadd, 1) := by decide +kernel
theorem dX6_three_22 : decode cX6_three 22 = .ok (.iconst 2, 1) := by decide +kernel
theorem dX6_three_23 : decode cX6_three 23 = .ok (.iadd, 1) := by decide +kernel
theorem dX6_three_24 : decode cX6_three 24 = .ok (.iconst 2, 1) := by decide +kernel
theorem dX6_three_25 : decode cX6_three 25 = .ok (.ishr, 1) := by decide +kernel
theorem dX6_three_26 : decode cX6_three 26 = .ok (.ireturn, 1) := by decide +kernel
def FX6_three (G : GG) (M : DD) (a : Nat) (p0 : Int32) (p1 : Int32) (p2 : Int32) : Option (DD × Int32) :=
  dr G 13 ((M.2 a 8)) fun b1 =>
  chk (¬ (p0 < 0 ∨ G.2.2 b1 ≤ p0.toNatClampNeg)) <|
  ltt (M.1 b1 p0.toNatClampNeg) fun x2 =>
  chk (¬ (p1 < 0 ∨ G.2.2 b1 ≤ p1.toNatClampNeg)) <|
  ltt (M.1 b1 p1.toNatClampNeg) fun x3 =>
  ltt ((((2 : Int32)) * x3)) fun x4 =>
  ltt ((x2 + x4)) fun x5 =>
  chk (¬ (p2 < 0 ∨ G.2.2 b1 ≤ p2.toNatClampNeg)) <|
  ltt (M.1 b1 p2.toNatClampNeg) fun x6 =>
  ltt ((x5 + x6)) fun x7 =>
  ltt ((x7 + ((2 : Int32)))) fun x8 =>
  ltt ((x8 >>> (((2 : Int32)) &&& 31))) fun x9 =>
  some (M, x9)
set_option maxHeartbeats 4000000 in
set_option maxRecDepth 100000 in
theorem kX6_three (l : Launch) (D : va_G) (ct : CT) (ad : Nat → Nat) (Z : Nat → Nat) (G : GG) (M : DD) (sz : Nat) (a : Nat) (p0 : Int32) (p1 : Int32) (p2 : Int32) (y : DD × Int32) (hc : a < G.1) (hk : G.2.1 a = 6) (hF : FX6_three G M a p0 p1 p2 = some y) : Met l yX6_three wsX6_three ({ frames := 0, cells := 0, slots := 0, locals := 0 }) (va_Pc [.ref (ad a), .int p0, .int p1, .int p2] (kB D ct ad Z G M sz)) (va_Qi (fun (q : Int32) (_ : Unit) => q = y.2) (fun _ t => kE D ct ad G (wA ad G sz) y.1 t) (wA ad G sz)) 0 0 (wA ad G sz) := by
  refine Met.ofW (cc := cX6_three) (maxL := 4) (ret := (some .int)) (by decide) rfl ?_
  intro p e s m args below meth c s₁ B hml hv
  obtain ⟨rfl, hsz, hP, hK, hD0, hZ, hN⟩ := hv
  have hx := B.exec
  have hb := B.bytes
  have hr := B.returns
  have hts := atoms_spec (ws := wsX6_three) B.pre
  have hown : s.vm.findClass RX6 = some m.cls := findClass_of_methodNamed B.named
  have hlocks := B.notSynchronized
  subst hsz
  have hD := wD_self (sz := s.heap.size) hD0
  have hA9 : ∀ q, s.heap.size ≤ q → wA ad G s.heap.size q := fun q h => Or.inr h
  generalize hAe : wA ad G s.heap.size = A at hD hA9 hZ ⊢
  have hS : va_S A s.heap s.heap [] := va_S.rf
  have hl := lv_entry ([.ref (ad a), .int p0, .int p1, .int p2]) (n := 4) (Nat.le_of_ble_eq_true rfl)
  rw [lg_entry_eq]
  generalize (lg_sl ([.ref (ad a), .int p0, .int p1, .int p2]) ++ List.replicate (4 - (lg_sl ([.ref (ad a), .int p0, .int p1, .int p2])).length) Slot.unset).toArray = ls at hl ⊢
  have hl : lv_has ls 4 [(0, .ref (ad a)), (1, .int p0), (2, .int p1), (3, .int p2)] := hl
  unfold FX6_three at hF
  refine lv_aload_n hx hb dX6_three_0 rfl (lv_at hl 0 rfl) ?_
  refine va_get (D := D) (ci := 6) (v := va_re ad (M.2 a 8)) (C := RX6) (T := TX6) (N := 14) hx hb hts (by decide +kernel) hown hK hP a (wld_o ct ad G M hc hk (by decide)) rfl 8 (by decide) (hts (.fieldLink RX6 36 "VideoSuite$Samples" "around" "[I") (by decide +kernel)) (fun _ h9 => h9) rfl dX6_three_1 ?_
  refine lv_iload_n hx hb dX6_three_4 rfl (lv_at hl 1 rfl) ?_
  obtain ⟨b1, ho1, hc1, hk1, hF⟩ := dr_some hF
  refine W_st (st' := [.int p0, .ref (ad b1)]) (by rw [va_some ho1]) ?_
  obtain ⟨hvc, hF⟩ := chk_some hF
  refine va_iald hx hb hK hP b1 1 (wld_i ct ad G M hc1 hk1) rfl hvc dX6_three_5 ?_
  obtain ⟨x2, ex2, hF⟩ := ltt_some hF
  refine lv_topi (fun zx2 ezx2 => ?_)
  obtain rfl : x2 = zx2 := ex2.trans ezx2.symm
  refine lv_iconst (v := (2 : Int32)) hx hb dX6_three_6 (by decide) ?_
  refine lv_aload_n hx hb dX6_three_7 rfl (lv_at hl 0 rfl) ?_
  refine va_get (D := D) (ci := 6) (v := va_re ad (M.2 a 8)) (C := RX6) (T := TX6) (N := 14) hx hb hts (by decide +kernel) hown hK hP a (wld_o ct ad G M hc hk (by decide)) rfl 8 (by decide) (hts (.fieldLink RX6 36 "VideoSuite$Samples" "around" "[I") (by decide +kernel)) (fun _ h9 => h9) rfl dX6_three_8 ?_
  refine lv_iload_n hx hb dX6_three_11 rfl (lv_at hl 2 rfl) ?_
  refine W_st (st' := [.int p1, .ref (ad b1), .int (2 : Int32), .int x2]) (by rw [va_some ho1]) ?_
  obtain ⟨hvc, hF⟩ := chk_some hF
  refine va_iald hx hb hK hP b1 1 (wld_i ct ad G M hc1 hk1) rfl hvc dX6_three_12 ?_
  obtain ⟨x3, ex3, hF⟩ := ltt_some hF
  refine lv_topi (fun zx3 ezx3 => ?_)
  obtain rfl : x3 = zx3 := ex3.trans ezx3.symm
  refine lv_imul hx hb dX6_three_13 ?_
  obtain ⟨x4, ex4, hF⟩ := ltt_some hF
  refine lv_topi (fun zx4 ezx4 => ?_)
  obtain rfl : x4 = zx4 := ex4.trans ezx4.symm
  refine lv_iadd hx hb dX6_three_14 ?_
  obtain ⟨x5, ex5, hF⟩ := ltt_some hF
  refine lv_topi (fun zx5 ezx5 => ?_)
  obtain rfl : x5 = zx5 := ex5.trans ezx5.symm
  refine lv_aload_n hx hb dX6_three_15 rfl (lv_at hl 0 rfl) ?_
  refine va_get (D := D) (ci := 6) (v := va_re ad (M.2 a 8)) (C := RX6) (T := TX6) (N := 14) hx hb hts (by decide +kernel) hown hK hP a (wld_o ct ad G M hc hk (by decide)) rfl 8 (by decide) (hts (.fieldLink RX6 36 "VideoSuite$Samples" "around" "[I") (by decide +kernel)) (fun _ h9 => h9) rfl dX6_three_16 ?_
  refine lv_iload_n hx hb dX6_three_19 rfl (lv_at hl 3 rfl) ?_
  refine W_st (st' := [.int p2, .ref (ad b1), .int x5]) (by rw [va_some ho1]) ?_
  obtain ⟨hvc, hF⟩ := chk_some hF
  refine va_iald hx hb hK hP b1 1 (wld_i ct ad G M hc1 hk1) rfl hvc dX6_three_20 ?_
  obtain ⟨x6, ex6, hF⟩ := ltt_some hF
  refine lv_topi (fun zx6 ezx6 => ?_)
  obtain rfl : x6 = zx6 := ex6.trans ezx6.symm
  refine lv_iadd hx hb dX6_three_21 ?_
  obtain ⟨x7, ex7, hF⟩ := ltt_some hF
  refine lv_topi (fun zx7 ezx7 => ?_)
  obtain rfl : x7 = zx7 := ex7.trans ezx7.symm
  refine lv_iconst (v := (2 : Int32)) hx hb dX6_three_22 (by decide) ?_
  refine lv_iadd hx hb dX6_three_23 ?_
  obtain ⟨x8, ex8, hF⟩ := ltt_some hF
  refine lv_topi (fun zx8 ezx8 => ?_)
  obtain rfl : x8 = zx8 := ex8.trans ezx8.symm
  refine lv_iconst (v := (2 : Int32)) hx hb dX6_three_24 (by decide) ?_
  refine lv_ishr hx hb dX6_three_25 ?_
  obtain ⟨x9, ex9, hF⟩ := ltt_some hF
  refine lv_topi (fun zx9 ezx9 => ?_)
  obtain rfl : x9 = zx9 := ex9.trans ezx9.symm
  obtain rfl := Option.some.inj hF
  exact W.iret (v := x9) hx hb hr (fun t ht hW => ⟨⟨_, (), rfl, rfl, ⟨by rw [ht]; exact hP, va_K.moved hW.alike hK, hD⟩⟩, hS.F ht⟩) hS.2.2 dX6_three_26
theorem dX6_turn_0 : decode cX6_turn 0 = .ok (.iconst 0, 1) := by decide +kernel
theorem dX6_turn_1 : decode cX6_turn 1 = .ok (.istore 6, 2) := by decide +kernel
theorem dX6_turn_3 : decode cX6_turn 3 = .ok (.iload 6, 2) := by decide +kernel
theorem dX6_turn_5 : decode cX6_turn 5 = .ok (.bipush 16, 2) := by decide +kernel
theorem dX6_turn_7 : decode cX6_turn 7 = .ok (.if_icmp .ge 52, 3) := by decide +kernel
theorem dX6_turn_10 : decode cX6_turn 10 = .ok (.aload_n 0, 1) := by decide +kernel
theorem dX6_turn_11 : decode cX6_turn 11 = .ok (.getfield 30, 3) := by decide +kernel
theorem dX6_turn_14 : decode cX6_turn 14 = .ok (.iload 6, 2) := by decide +kernel
theorem dX6_turn_16 : decode cX6_turn 16 = .ok (.aload_n 1, 1) := by decide +kernel
theorem dX6_turn_17 : decode cX6_turn 17 = .ok (.iload_n 2, 1) := by decide +kernel
theorem dX6_turn_18 : decode cX6_turn 18 = .ok (.iload 6, 2) := by decide +kernel
theorem dX6_turn_20 : decode cX6_turn 20 = .ok (.iconst 4, 1) := by decide +kernel
theorem dX6_turn_21 : decode cX6_turn 21 = .ok (.idiv, 1) := by decide +kernel
theorem dX6_turn_22 : decode cX6_turn 22 = .ok (.iload_n 3, 1) := by decide +kernel
theorem dX6_turn_23 : decode cX6_turn 23 = .ok (.imul, 1) := by decide +kernel
theorem dX6_turn_24 : decode cX6_turn 24 = .ok (.iadd, 1) := by decide +kernel
theorem dX6_turn_25 : decode cX6_turn 25 = .ok (.iload 6, 2) := by decide +kernel
theorem dX6_turn_27 : decode cX6_turn 27 = .ok (.iconst 4, 1) := by decide +kernel
theorem dX6_turn_28 : decode cX6_turn 28 = .ok (.irem, 1) := by decide +kernel
theorem dX6_turn_29 : decode cX6_turn 29 = .ok (.iadd, 1) := by decide +kernel
theorem dX6_turn_30 : decode cX6_turn 30 = .ok (.iaload, 1) := by decide +kernel
theorem dX6_turn_31 : decode cX6_turn 31 = .ok (.aload_n 0, 1) := by decide +kernel
theorem dX6_turn_32 : decode cX6_turn 32 = .ok (.getfield 9, 3) := by decide +kernel
theorem dX6_turn_35 : decode cX6_turn 35 = .ok (.iload 4, 2) := by decide +kernel
theorem dX6_turn_37 : decode cX6_turn 37 = .ok (.iload 6, 2) := by decide +kernel
theorem dX6_turn_39 : decode cX6_turn 39 = .ok (.iconst 4, 1) := by decide +kernel
theorem dX6_turn_40 : decode cX6_turn 40 = .ok (.idiv, 1) := by decide +kernel
theorem dX6_turn_41 : decode cX6_turn 41 = .ok (.iload 5, 2) := by decide +kernel
theorem dX6_turn_43 : decode cX6_turn 43 = .ok (.imul, 1) := by decide +kernel
theorem dX6_turn_44 : decode cX6_turn 44 = .ok (.iadd, 1) := by decide +kernel
theorem dX6_turn_45 : decode cX6_turn 45 = .ok (.iload 6, 2) := by decide +kernel
theorem dX6_turn_47 : decode cX6_turn 47 = .ok (.iconst 4, 1) := by decide +kernel
theorem dX6_turn_48 : decode cX6_turn 48 = .ok (.irem, 1) := by decide +kernel
theorem dX6_turn_49 : decode cX6_turn 49 = .ok (.iadd, 1) := by decide +kernel
theorem dX6_turn_50 : decode cX6_turn 50 = .ok (.iaload, 1) := by decide +kernel
theorem dX6_turn_51 : decode cX6_turn 51 = .ok (.isub, 1) := by decide +kernel
theorem dX6_turn_52 : decode cX6_turn 52 = .ok (.iastore, 1) := by decide +kernel
theorem dX6_turn_53 : decode cX6_turn 53 = .ok (.iinc 6 1, 3) := by decide +kernel
theorem dX6_turn_56 : decode cX6_turn 56 = .ok (.goto (-53), 3) := by decide +kernel
theorem dX6_turn_59 : decode cX6_turn 59 = .ok (.iconst 0, 1) := by decide +kernel
theorem dX6_turn_60 : decode cX6_turn 60 = .ok (.istore 6, 2) := by decide +kernel
theorem dX6_turn_62 : decode cX6_turn 62 = .ok (.iload 6, 2) := by decide +kernel
theorem dX6_turn_64 : decode cX6_turn 64 = .ok (.iconst 2, 1) := by decide +kernel
theorem dX6_turn_65 : decode cX6_turn 65 = .ok (.if_icmp .ge 211, 3) := by decide +kernel
theorem dX6_turn_68 : decode cX6_turn 68 = .ok (.iload 6, 2) := by decide +kernel
theorem dX6_turn_70 : decode cX6_turn 70 = .ok (.ifCond .ne 7, 3) := by decide +kernel
theorem dX6_turn_73 : decode cX6_turn 73 = .ok (.iconst 1, 1) := by decide +kernel
theorem dX6_turn_74 : decode cX6_turn 74 = .ok (.goto 4, 3) := by decide +kernel
theorem dX6_turn_77 : decode cX6_turn 77 = .ok (.iconst 4, 1) := by decide +kernel
theorem dX6_turn_78 : decode cX6_turn 78 = .ok (.istore 7, 2) := by decide +kernel
theorem dX6_turn_80 : decode cX6_turn 80 = .ok (.iconst 0, 1) := by decide +kernel
theorem dX6_turn_81 : decode cX6_turn 81 = .ok (.istore 8, 2) := by decide +kernel
theorem dX6_turn_83 : decode cX6_turn 83 = .ok (.iload 8, 2) := by decide +kernel
theorem dX6_turn_85 : decode cX6_turn 85 = .ok (.iconst 4, 1) := by decide +kernel
theorem dX6_turn_86 : decode cX6_turn 86 = .ok (.if_icmp .ge 184, 3) := by decide +kernel
theorem dX6_turn_89 : decode cX6_turn 89 = .ok (.iload 6, 2) := by decide +kernel
theorem dX6_turn_91 : decode cX6_turn 91 = .ok (.ifCond .ne 10, 3) := by decide +kernel
theorem dX6_turn_94 : decode cX6_turn 94 = .ok (.iconst 4, 1) := by decide +kernel
theorem dX6_turn_95 : decode cX6_turn 95 = .ok (.iload 8, 2) := by decide +kernel
theorem dX6_turn_97 : decode cX6_turn 97 = .ok (.imul, 1) := by decide +kernel
theorem dX6_turn_98 : decode cX6_turn 98 = .ok (.goto 5, 3) := by decide +kernel
theorem dX6_turn_101 : decode cX6_turn 101 = .ok (.iload 8, 2) := by decide +kernel
theorem dX6_turn_103 : decode cX6_turn 103 = .ok (.istore 9, 2) := by decide +kernel
theorem dX6_turn_105 : decode cX6_turn 105 = .ok (.aload_n 0, 1) := by decide +kernel
theorem dX6_turn_106 : decode cX6_turn 106 = .ok (.getfield 30, 3) := by decide +kernel
theorem dX6_turn_109 : decode cX6_turn 109 = .ok (.iload 9, 2) := by decide +kernel
theorem dX6_turn_111 : decode cX6_turn 111 = .ok (.iaload, 1) := by decide +kernel
theorem dX6_turn_112 : decode cX6_turn 112 = .ok (.aload_n 0, 1) := by decide +kernel
theorem dX6_turn_113 : decode cX6_turn 113 = .ok (.getfield 30, 3) := by decide +kernel
theorem dX6_turn_116 : decode cX6_turn 116 = .ok (.iload 9, 2) := by decide +kernel
theorem dX6_turn_118 : decode cX6_turn 118 = .ok (.iconst 3, 1) := by decide +kernel
theorem dX6_turn_119 : decode cX6_turn 119 = .ok (.iload 7, 2) := by decide +kernel
theorem dX6_turn_121 : decode cX6_turn 121 = .ok (.imul, 1) := by decide +kernel
theorem dX6_turn_122 : decode cX6_turn 122 = .ok (.iadd, 1) := by decide +kernel
theorem dX6_turn_123 : decode cX6_turn 123 = .ok (.iaload, 1) := by decide +kernel
theorem dX6_turn_124 : decode cX6_turn 124 = .ok (.iadd, 1) := by decide +kernel
theorem dX6_turn_125 : decode cX6_turn 125 = .ok (.istore 10, 2) := by decide +kernel
theorem dX6_turn_127 : decode cX6_turn 127 = .ok (.aload_n 0, 1) := by decide +kernel
theorem dX6_turn_128 : decode cX6_turn 128 = .ok (.getfield 30, 3) := by decide +kernel
theorem dX6_turn_131 : decode cX6_turn 131 = .ok (.iload 9, 2) := by decide +kernel
theorem dX6_turn_133 : decode cX6_turn 133 = .ok (.iload 7, 2) := by decide +kernel
theorem dX6_turn_135 : decode cX6_turn 135 = .ok (.iadd, 1) := by decide +kernel
theorem dX6_turn_136 : decode cX6_turn 136 = .ok (.iaload, 1) := by decide +kernel
theorem dX6_turn_137 : decode cX6_turn 137 = .ok (.aload_n 0, 1) := by decide +kernel
theorem dX6_turn_138 : decode cX6_turn 138 = .ok (.getfield 30, 3) := by decide +kernel
theorem dX6_turn_141 : decode cX6_turn 141 = .ok (.iload 9, 2) := by decide +kernel
theorem dX6_turn_143 : decode cX6_turn 143 = .ok (.iconst 2, 1) := by decide +kernel
theorem dX6_turn_144 : decode cX6_turn 144 = .ok (.iload 7, 2) := by decide +kernel
theorem dX6_turn_146 : decode cX6_turn 146 = .ok (.imul, 1) := by decide +kernel
theorem dX6_turn_147 : decode cX6_turn 147 = .ok (.iadd, 1) := by decide +kernel
theorem dX6_turn_148 : decode cX6_turn 148 = .ok (.iaload, 1) := by decide +kernel
theorem dX6_turn_149 : decode cX6_turn 149 = .ok (.iadd, 1) := by decide +kernel
theorem dX6_turn_150 : decode cX6_turn 150 = .ok (.istore 11, 2) := by decide +kernel
theorem dX6_turn_152 : decode cX6_turn 152 = .ok (.aload_n 0, 1) := by decide +kernel
theorem dX6_turn_153 : decode cX6_turn 153 = .ok (.getfield 30, 3) := by decide +kernel
theorem dX6_turn_156 : decode cX6_turn 156 = .ok (.iload 9, 2) := by decide +kernel
theorem dX6_turn_158 : decode cX6_turn 158 = .ok (.iload 7, 2) := by decide +kernel
theorem dX6_turn_160 : decode cX6_turn 160 = .ok (.iadd, 1) := by decide +kernel
theorem dX6_turn_161 : decode cX6_turn 161 = .ok (.iaload, 1) := by decide +kernel
theorem dX6_turn_162 : decode cX6_turn 162 = .ok (.aload_n 0, 1) := by decide +kernel
theorem dX6_turn_163 : decode cX6_turn 163 = .ok (.getfield 30, 3) := by decide +kernel
theorem dX6_turn_166 : decode cX6_turn 166 = .ok (.iload 9, 2) := by decide +kernel
theorem dX6_turn_168 : decode cX6_turn 168 = .ok (.iconst 2, 1) := by decide +kernel
theorem dX6_turn_169 : decode cX6_turn 169 = .ok (.iload 7, 2) := by decide +kernel
theorem dX6_turn_171 : decode cX6_turn 171 = .ok (.imul, 1) := by decide +kernel
theorem dX6_turn_172 : decode cX6_turn 172 = .ok (.iadd, 1) := by decide +kernel
theorem dX6_turn_173 : decode cX6_turn 173 = .ok (.iaload, 1) := by decide +kernel
theorem dX6_turn_174 : decode cX6_turn 174 = .ok (.isub, 1) := by decide +kernel
theorem dX6_turn_175 : decode cX6_turn 175 = .ok (.istore 12, 2) := by decide +kernel
theorem dX6_turn_177 : decode cX6_turn 177 = .ok (.aload_n 0, 1) := by decide +kernel
theorem dX6_turn_178 : decode cX6_turn 178 = .ok (.getfield 30, 3) := by decide +kernel
theorem dX6_turn_181 : decode cX6_turn 181 = .ok (.iload 9, 2) := by decide +kernel
theorem dX6_turn_183 : decode cX6_turn 183 = .ok (.iaload, 1) := by decide +kernel
theorem dX6_turn_184 : decode cX6_turn 184 = .ok (.aload_n 0, 1) := by decide +kernel
theorem dX6_turn_185 : decode cX6_turn 185 = .ok (.getfield 30, 3) := by decide +kernel
theorem dX6_turn_188 : decode cX6_turn 188 = .ok (.iload 9, 2) := by decide +kernel
theorem dX6_turn_190 : decode cX6_turn 190 = .ok (.iconst 3, 1) := by decide +kernel
theorem dX6_turn_191 : decode cX6_turn 191 = .ok (.iload 7, 2) := by decide +kernel
theorem dX6_turn_193 : decode cX6_turn 193 = .ok (.imul, 1) := by decide +kernel
theorem dX6_turn_194 : decode cX6_turn 194 = .ok (.iadd, 1) := by decide +kernel
theorem dX6_turn_195 : decode cX6_turn 195 = .ok (.iaload, 1) := by decide +kernel
theorem dX6_turn_196 : decode cX6_turn 196 = .ok (.isub, 1) := by decide +kernel
theorem dX6_turn_197 : decode cX6_turn 197 = .ok (.istore 13, 2) := by decide +kernel
theorem dX6_turn_199 : decode cX6_turn 199 = .ok (.aload_n 0, 1) := by decide +kernel
theorem dX6_turn_200 : decode cX6_turn 200 = .ok (.getfield 30, 3) := by decide +kernel
theorem dX6_turn_203 : decode cX6_turn 203 = .ok (.iload 9, 2) := by decide +kernel
theorem dX6_turn_205 : decode cX6_turn 205 = .ok (.iload 10, 2) := by decide +kernel
theorem dX6_turn_207 : decode cX6_turn 207 = .ok (.iload 11, 2) := by decide +kernel
theorem dX6_turn_209 : decode cX6_turn 209 = .ok (.iadd, 1) := by decide +kernel
theorem dX6_turn_210 : decode cX6_turn 210 = .ok (.iastore, 1) := by decide +kernel
theorem dX6_turn_211 : decode cX6_turn 211 = .ok (.aload_n 0, 1) := by decide +kernel
theorem dX6_turn_212 : decode cX6_turn 212 = .ok (.getfield 30, 3) := by decide +kernel
theorem dX6_turn_215 : decode cX6_turn 215 = .ok (.iload 9, 2) := by decide +kernel
theorem dX6_turn_217 : decode cX6_turn 217 = .ok (.iload 7, 2) := by decide +kernel
theorem dX6_turn_219 : decode cX6_turn 219 = .ok (.iadd, 1) := by decide +kernel
theorem dX6_turn_220 : decode cX6_turn 220 = .ok (.iconst 2, 1) := by decide +kernel
theorem dX6_turn_221 : decode cX6_turn 221 = .ok (.iload 13, 2) := by decide +kernel
theorem dX6_turn_223 : decode cX6_turn 223 = .ok (.imul, 1) := by decide +kernel
theorem dX6_turn_224 : decode cX6_turn 224 = .ok (.iload 12, 2) := by decide +kernel
theorem dX6_turn_226 : decode cX6_turn 226 = .ok (.iadd, 1) := by decide +kernel
theorem dX6_turn_227 : decode cX6_turn 227 = .ok (.iastore, 1) := by decide +kernel
theorem dX6_turn_228 : decode cX6_turn 228 = .ok (.aload_n 0, 1) := by decide +kernel
theorem dX6_turn_229 : decode cX6_turn 229 = .ok (.getfield 30, 3) := by decide +kernel
theorem dX6_turn_232 : decode cX6_turn 232 = .ok (.iload 9, 2) := by decide +kernel
theorem dX6_turn_234 : decode cX6_turn 234 = .ok (.iconst 2, 1) := by decide +kernel
theorem dX6_turn_235 : decode cX6_turn 235 = .ok (.iload 7, 2) := by decide +kernel
theorem dX6_turn_237 : decode cX6_turn 237 = .ok (.imul, 1) := by decide +kernel
theorem dX6_turn_238 : decode cX6_turn 238 = .ok (.iadd, 1) := by decide +kernel
theorem dX6_turn_239 : decode cX6_turn 239 = .ok (.iload 10, 2) := by decide +kernel
theorem dX6_turn_241 : decode cX6_turn 241 = .ok (.iload 11, 2) := by decide +kernel
theorem dX6_turn_243 : decode cX6_turn 243 = .ok (.isub, 1) := by decide +kernel
theorem dX6_turn_244 : decode cX6_turn 244 = .ok (.iastore, 1) := by decide +kernel
theorem dX6_turn_245 : decode cX6_turn 245 = .ok (.aload_n 0, 1) := by decide +kernel
theorem dX6_turn_246 : decode cX6_turn 246 = .ok (.getfield 30, 3) := by decide +kernel
theorem dX6_turn_249 : decode cX6_turn 249 = .ok (.iload 9, 2) := by decide +kernel
theorem dX6_turn_251 : decode cX6_turn 251 = .ok (.iconst 3, 1) := by decide +kernel
theorem dX6_turn_252 : decode cX6_turn 252 = .ok (.iload 7, 2) := by decide +kernel
theorem dX6_turn_254 : decode cX6_turn 254 = .ok (.imul, 1) := by decide +kernel
theorem dX6_turn_255 : decode cX6_turn 255 = .ok (.iadd, 1) := by decide +kernel
theorem dX6_turn_256 : decode cX6_turn 256 = .ok (.iload 13, 2) := by decide +kernel
theorem dX6_turn_258 : decode cX6_turn 258 = .ok (.iconst 2, 1) := by decide +kernel
theorem dX6_turn_259 : decode cX6_turn 259 = .ok (.iload 12, 2) := by decide +kernel
theorem dX6_turn_261 : decode cX6_turn 261 = .ok (.imul, 1) := by decide +kernel
theorem dX6_turn_262 : decode cX6_turn 262 = .ok (.isub, 1) := by decide +kernel
theorem dX6_turn_263 : decode cX6_turn 263 = .ok (.iastore, 1) := by decide +kernel
theorem dX6_turn_264 : decode cX6_turn 264 = .ok (.iinc 8 1, 3) := by decide +kernel
theorem dX6_turn_267 : decode cX6_turn 267 = .ok (.goto (-184), 3) := by decide +kernel
theorem dX6_turn_270 : decode cX6_turn 270 = .ok (.iinc 6 1, 3) := by decide +kernel
theorem dX6_turn_273 : decode cX6_turn 273 = .ok (.goto (-211), 3) := by decide +kernel
theorem dX6_turn_276 : decode cX6_turn 276 = .ok (.return_, 1) := by decide +kernel
def FX6_turn (G : GG) (M : DD) (a : Nat) (p0 : Option Nat) (p1 : Int32) (p2 : Int32) (p3 : Int32) (p4 : Int32) : Option (DD) :=
  bnd (itr (fun (s2 : Int32 × DD) => ((if ((16 : Int32)) ≤ s2.1 then (some (.inr (s2.1, s2.2))) else
  (ltt (s2.1 / ((4 : Int32))) fun x64 =>
  ltt ((x64 * p2)) fun x65 =>
  ltt ((p1 + x65)) fun x66 =>
  ltt (s2.1 - s2.1 / ((4 : Int32)) * ((4 : Int32))) fun x67 =>
  ltt ((x66 + x67)) fun x68 =>
  dr G 13 p0 fun b69 =>
  chk (¬ (x68 < 0 ∨ G.2.2 b69 ≤ x68.toNatClampNeg)) <|
  ltt (s2.2.1 b69 x68.toNatClampNeg) fun x70 =>
  ltt (s2.1 / ((4 : Int32))) fun x71 =>
  ltt ((x71 * p4)) fun x72 =>
  ltt ((p3 + x72)) fun x73 =>
  ltt (s2.1 - s2.1 / ((4 : Int32)) * ((4 : Int32))) fun x74 =>
  ltt ((x73 + x74)) fun x75 =>
  dr G 13 ((s2.2.2 a 0)) fun b76 =>
  chk (¬ (x75 < 0 ∨ G.2.2 b76 ≤ x75.toNatClampNeg)) <|
  ltt (s2.2.1 b76 x75.toNatClampNeg) fun x77 =>
  ltt ((x70 - x77)) fun x78 =>
  dr G 13 ((s2.2.2 a 6)) fun b79 =>
  chk (¬ (s2.1 < 0 ∨ G.2.2 b79 ≤ s2.1.toNatClampNeg)) <|
  ltt (uI s2.2 b79 s2.1.toNatClampNeg x78) fun M80 =>
  ltt (s2.1 + (1 : Int32)) fun x81 =>
  some (.inl (x81, M80)))) : Option ((Int32 × DD) ⊕ (Int32 × DD)))) 1000000 ((0 : Int32), M)) fun (y1 : Int32 × DD) =>
  bnd (itr (fun (s5 : Int32 × DD) => ((if ((2 : Int32)) ≤ s5.1 then (some (.inr (s5.1, s5.2))) else
  (bnd (if s5.1 = ((0 : Int32)) then (some ((1 : Int32))) else
  (some ((4 : Int32)))) fun (y9 : Int32) =>
  bnd (itr (fun (s11 : Int32 × DD) => ((if ((4 : Int32)) ≤ s11.1 then (some (.inr (s11.1, s11.2))) else
  (bnd (if s5.1 = ((0 : Int32)) then (ltt ((((4 : Int32)) * s11.1)) fun x60 =>
  some (x60)) else
  (some (s11.1))) fun (y16 : Int32) =>
  dr G 13 ((s11.2.2 a 6)) fun b17 =>
  chk (¬ (y16 < 0 ∨ G.2.2 b17 ≤ y16.toNatClampNeg)) <|
  ltt (s11.2.1 b17 y16.toNatClampNeg) fun x18 =>
  ltt ((((3 : Int32)) * y9)) fun x19 =>
  ltt ((y16 + x19)) fun x20 =>
  chk (¬ (x20 < 0 ∨ G.2.2 b17 ≤ x20.toNatClampNeg)) <|
  ltt (s11.2.1 b17 x20.toNatClampNeg) fun x21 =>
  ltt ((x18 + x21)) fun x22 =>
  ltt ((y16 + y9)) fun x23 =>
  chk (¬ (x23 < 0 ∨ G.2.2 b17 ≤ x23.toNatClampNeg)) <|
  ltt (s11.2.1 b17 x23.toNatClampNeg) fun x24 =>
  ltt ((((2 : Int32)) * y9)) fun x25 =>
  ltt ((y16 + x25)) fun x26 =>
  chk (¬ (x26 < 0 ∨ G.2.2 b17 ≤ x26.toNatClampNeg)) <|
  ltt (s11.2.1 b17 x26.toNatClampNeg) fun x27 =>
  ltt ((x24 + x27)) fun x28 =>
  ltt ((y16 + y9)) fun x29 =>
  chk (¬ (x29 < 0 ∨ G.2.2 b17 ≤ x29.toNatClampNeg)) <|
  ltt (s11.2.1 b17 x29.toNatClampNeg) fun x30 =>
  ltt ((((2 : Int32)) * y9)) fun x31 =>
  ltt ((y16 + x31)) fun x32 =>
  chk (¬ (x32 < 0 ∨ G.2.2 b17 ≤ x32.toNatClampNeg)) <|
  ltt (s11.2.1 b17 x32.toNatClampNeg) fun x33 =>
  ltt ((x30 - x33)) fun x34 =>
  chk (¬ (y16 < 0 ∨ G.2.2 b17 ≤ y16.toNatClampNeg)) <|
  ltt (s11.2.1 b17 y16.toNatClampNeg) fun x35 =>
  ltt ((((3 : Int32)) * y9)) fun x36 =>
  ltt ((y16 + x36)) fun x37 =>
  chk (¬ (x37 < 0 ∨ G.2.2 b17 ≤ x37.toNatClampNeg)) <|
  ltt (s11.2.1 b17 x37.toNatClampNeg) fun x38 =>
  ltt ((x35 - x38)) fun x39 =>
  ltt ((x22 + x28)) fun x40 =>
  chk (¬ (y16 < 0 ∨ G.2.2 b17 ≤ y16.toNatClampNeg)) <|
  ltt (uI s11.2 b17 y16.toNatClampNeg x40) fun M41 =>
  ltt ((y16 + y9)) fun x42 =>
  ltt ((((2 : Int32)) * x39)) fun x43 =>
  ltt ((x43 + x34)) fun x44 =>
  dr G 13 ((M41.2 a 6)) fun b45 =>
  chk (¬ (x42 < 0 ∨ G.2.2 b45 ≤ x42.toNatClampNeg)) <|
  ltt (uI M41 b45 x42.toNatClampNeg x44) fun M46 =>
  ltt ((((2 : Int32)) * y9)) fun x47 =>
  ltt ((y16 + x47)) fun x48 =>
  ltt ((x22 - x28)) fun x49 =>
  dr G 13 ((M46.2 a 6)) fun b50 =>
  chk (¬ (x48 < 0 ∨ G.2.2 b50 ≤ x48.toNatClampNeg)) <|
  ltt (uI M46 b50 x48.toNatClampNeg x49) fun M51 =>
  ltt ((((3 : Int32)) * y9)) fun x52 =>
  ltt ((y16 + x52)) fun x53 =>
  ltt ((((2 : Int32)) * x34)) fun x54 =>
  ltt ((x39 - x54)) fun x55 =>
  dr G 13 ((M51.2 a 6)) fun b56 =>
  chk (¬ (x53 < 0 ∨ G.2.2 b56 ≤ x53.toNatClampNeg)) <|
  ltt (uI M51 b56 x53.toNatClampNeg x55) fun M57 =>
  ltt (s11.1 + (1 : Int32)) fun x58 =>
  some (.inl (x58, M57)))) : Option ((Int32 × DD) ⊕ (Int32 × DD)))) 1000000 ((0 : Int32), s5.2)) fun (y10 : Int32 × DD) =>
  ltt (s5.1 + (1 : Int32)) fun x13 =>
  some (.inl (x13, y10.2)))) : Option ((Int32 × DD) ⊕ (Int32 × DD)))) 1000000 ((0 : Int32), y1.2)) fun (y4 : Int32 × DD) =>
  some y4.2
set_option maxHeartbeats 4000000 in
set_option maxRecDepth 100000 in
theorem kX6_turn (l : Launch) (D : va_G) (ct : CT) (ad : Nat → Nat) (Z : Nat → Nat) (G : GG) (M : DD) (sz : Nat) (a : Nat) (p0 : Option Nat) (p1 : Int32) (p2 : Int32) (p3 : Int32) (p4 : Int32) (y : DD) (hc : a < G.1) (hk : G.2.1 a = 6) (hF : FX6_turn G M a p0 p1 p2 p3 p4 = some y) : Met l yX6_turn wsX6_turn ({ frames := 0, cells := 0, slots := 0, locals := 0 }) (va_Pc [.ref (ad a), va_re ad p0, .int p1, .int p2, .int p3, .int p4] (kB D ct ad Z G M sz)) (va_Qv (fun (_ : Unit) => True) (fun _ t => kE D ct ad G (wA ad G sz) y t) (wA ad G sz)) 0 0 (wA ad G sz) := by
  refine Met.ofW (cc := cX6_turn) (maxL := 14) (ret := none) (by decide) rfl ?_
  intro p e s m args below meth c s₁ B hml hv
  obtain ⟨rfl, hsz, hP, hK, hD0, hZ, hN⟩ := hv
  have hx := B.exec
  have hb := B.bytes
  have hr := B.returns
  have hts := atoms_spec (ws := wsX6_turn) B.pre
  have hown : s.vm.findClass RX6 = some m.cls := findClass_of_methodNamed B.named
  have hlocks := B.notSynchronized
  subst hsz
  have hD := wD_self (sz := s.heap.size) hD0
  have hA9 : ∀ q, s.heap.size ≤ q → wA ad G s.heap.size q := fun q h => Or.inr h
  generalize hAe : wA ad G s.heap.size = A at hD hA9 hZ ⊢
  have hS : va_S A s.heap s.heap [] := va_S.rf
  have hl := lv_entry ([.ref (ad a), va_re ad p0, .int p1, .int p2, .int p3, .int p4]) (n := 14) (by cases p0 <;> exact Nat.le_of_ble_eq_true rfl)
  rw [lg_entry_eq]
  generalize (lg_sl ([.ref (ad a), va_re ad p0, .int p1, .int p2, .int p3, .int p4]) ++ List.replicate (14 - (lg_sl ([.ref (ad a), va_re ad p0, .int p1, .int p2, .int p3, .int p4])).length) Slot.unset).toArray = ls at hl ⊢
  have hl : lv_has ls 14 [(0, .ref (ad a)), (1, va_re ad p0), (2, .int p1), (3, .int p2), (4, .int p3), (5, .int p4)] := by have e9 : lv_args 0 [.ref (ad a), va_re ad p0, .int p1, .int p2, .int p3, .int p4] = [(0, .ref (ad a)), (1, va_re ad p0), (2, .int p1), (3, .int p2), (4, .int p3), (5, .int p4)] := (by cases p0 <;> rfl); rw [e9] at hl; exact hl
  unfold FX6_turn at hF
  refine lv_iconst (v := (0 : Int32)) hx hb dX6_turn_0 (by decide) ?_
  refine lv_istore (lv' := [(6, .int (0 : Int32)), (0, .ref (ad a)), (1, va_re ad p0), (2, .int p1), (3, .int p2), (4, .int p3), (5, .int p4)]) hx hb dX6_turn_1 hl (by decide) rfl (fun ls hl => ?_)
  obtain ⟨y1, hy1, hF⟩ := bnd_some hF
  have K1 : ∀ (H : Heap) (locs : List Loc) (ls : Array Slot), va_P D classes (wld ct ad G y1.2) H → va_D A (wld ct ad G y1.2) → va_S A s.heap H locs → lv_has ls 14 [(6, .int y1.1), (0, .ref (ad a)), (1, va_re ad p0), (2, .int p1), (3, .int p2), (4, .int p3), (5, .int p4)] → W p l e (headSpec wsX6_turn ({ frames := 0, cells := 0, slots := 0, locals := 0 })).room s m ([.ref (ad a), va_re ad p0, .int p1, .int p2, .int p3, .int p4] : List Value).toArray below meth c H locs 0 0 (MQ below (va_Qv (fun (_ : Unit) => True) (fun _ t => kE D ct ad G A y t) A) ([.ref (ad a), va_re ad p0, .int p1, .int p2, .int p3, .int p4] : List Value).toArray s 0 0 A) (F0 m 59 ls []) := by
    intro H locs ls hP hD hS hl
    refine lv_iconst (v := (0 : Int32)) hx hb dX6_turn_59 (by decide) ?_
    refine lv_istore (lv' := [(6, .int (0 : Int32)), (0, .ref (ad a)), (1, va_re ad p0), (2, .int p1), (3, .int p2), (4, .int p3), (5, .int p4)]) hx hb dX6_turn_60 hl (by decide) rfl (fun ls hl => ?_)
    obtain ⟨y4, hy4, hF⟩ := bnd_some hF
    have K4 : ∀ (H : Heap) (locs : List Loc) (ls : Array Slot), va_P D classes (wld ct ad G y4.2) H → va_D A (wld ct ad G y4.2) → va_S A s.heap H locs → lv_has ls 14 [(6, .int y4.1), (0, .ref (ad a)), (1, va_re ad p0), (2, .int p1), (3, .int p2), (4, .int p3), (5, .int p4)] → W p l e (headSpec wsX6_turn ({ frames := 0, cells := 0, slots := 0, locals := 0 })).room s m ([.ref (ad a), va_re ad p0, .int p1, .int p2, .int p3, .int p4] : List Value).toArray below meth c H locs 0 0 (MQ below (va_Qv (fun (_ : Unit) => True) (fun _ t => kE D ct ad G A y t) A) ([.ref (ad a), va_re ad p0, .int p1, .int p2, .int p3, .int p4] : List Value).toArray s 0 0 A) (F0 m 276 ls []) := by
      intro H locs ls hP hD hS hl
      obtain rfl := Option.some.inj hF
      exact W.vret hx hb hr (fun t ht hW => ⟨⟨(), rfl, trivial, ⟨by rw [ht]; exact hP, va_K.moved hW.alike hK, hD⟩⟩, hS.F ht⟩) hS.2.2 dX6_turn_276
    clear hF
    refine itr_rule (fun (s5 : Int32 × DD) => ∀ (H : Heap) (locs : List Loc) (ls : Array Slot), va_P D classes (wld ct ad G s5.2) H → va_D A (wld ct ad G s5.2) → va_S A s.heap H locs → lv_has ls 14 [(6, .int s5.1), (0, .ref (ad a)), (1, va_re ad p0), (2, .int p1), (3, .int p2), (4, .int p3), (5, .int p4)] → W p l e (headSpec wsX6_turn ({ frames := 0, cells := 0, slots := 0, locals := 0 })).room s m ([.ref (ad a), va_re ad p0, .int p1, .int p2, .int p3, .int p4] : List Value).toArray below meth c H locs 0 0 (MQ below (va_Qv (fun (_ : Unit) => True) (fun _ t => kE D ct ad G A y t) A) ([.ref (ad a), va_re ad p0, .int p1, .int p2, .int p3, .int p4] : List Value).toArray s 0 0 A) (F0 m 62 ls [])) ?_ _ _ hy4 _ _ _ hP hD hS (lv_sub hl [0, 1, 2, 3, 4, 5, 6] rfl)
    rintro s5 ⟨z7, hF, hwz7⟩ H locs ls hP hD hS hl
    try dsimp only at hF
    refine lv_iload hx hb dX6_turn_62 (lv_at hl 0 rfl) ?_
    refine lv_iconst (v := (2 : Int32)) hx hb dX6_turn_64 (by decide) ?_
    refine lv_icmp_ge (tgt := 276) hx hb dX6_turn_65 (by decide) (fun c8 => ?_) (fun c8 => ?_)
    · rw [if_pos c8] at hF
      obtain rfl := Option.some.inj hF
      subst hwz7
      exact K4 _ _ _ hP hD hS (lv_sub hl [0, 1, 2, 3, 4, 5, 6] rfl)
    · rw [if_neg c8] at hF
      refine lv_iload hx hb dX6_turn_68 (lv_at hl 0 rfl) ?_
      obtain ⟨y9, hy9, hF⟩ := bnd_some hF
      have J9 : ∀ (H : Heap) (locs : List Loc) (ls : Array Slot), va_P D classes (wld ct ad G s5.2) H → va_D A (wld ct ad G s5.2) → va_S A s.heap H locs → lv_has ls 14 [(6, .int s5.1), (0, .ref (ad a)), (1, va_re ad p0), (2, .int p1), (3, .int p2), (4, .int p3), (5, .int p4)] → W p l e (headSpec wsX6_turn ({ frames := 0, cells := 0, slots := 0, locals := 0 })).room s m ([.ref (ad a), va_re ad p0, .int p1, .int p2, .int p3, .int p4] : List Value).toArray below meth c H locs 0 0 (MQ below (va_Qv (fun (_ : Unit) => True) (fun _ t => kE D ct ad G A y t) A) ([.ref (ad a), va_re ad p0, .int p1, .int p2, .int p3, .int p4] : List Value).toArray s 0 0 A) (F0 m 78 ls [.int y9]) := by
        intro H locs ls hP hD hS hl
        refine lv_istore (lv' := [(7, .int y9), (6, .int s5.1), (0, .ref (ad a)), (1, va_re ad p0), (2, .int p1), (3, .int p2), (4, .int p3), (5, .int p4)]) hx hb dX6_turn_78 hl (by decide) rfl (fun ls hl => ?_)
        refine lv_iconst (v := (0 : Int32)) hx hb dX6_turn_80 (by decide) ?_
        refine lv_istore (lv' := [(8, .int (0 : Int32)), (7, .int y9), (6, .int s5.1), (0, .ref (ad a)), (1, va_re ad p0), (2, .int p1), (3, .int p2), (4, .int p3), (5, .int p4)]) hx hb dX6_turn_81 hl (by decide) rfl (fun ls hl => ?_)
        obtain ⟨y10, hy10, hF⟩ := bnd_some hF
        have K10 : ∀ (H : Heap) (locs : List Loc) (ls : Array Slot), va_P D classes (wld ct ad G y10.2) H → va_D A (wld ct ad G y10.2) → va_S A s.heap H locs → lv_has ls 14 [(8, .int y10.1), (7, .int y9), (6, .int s5.1), (0, .ref (ad a)), (1, va_re ad p0), (2, .int p1), (3, .int p2), (4, .int p3), (5, .int p4)] → W p l e (headSpec wsX6_turn ({ frames := 0, cells := 0, slots := 0, locals := 0 })).room s m ([.ref (ad a), va_re ad p0, .int p1, .int p2, .int p3, .int p4] : List Value).toArray below meth c H locs 0 0 (MQ below (va_Qv (fun (_ : Unit) => True) (fun _ t => kE D ct ad G A y t) A) ([.ref (ad a), va_re ad p0, .int p1, .int p2, .int p3, .int p4] : List Value).toArray s 0 0 A) (F0 m 270 ls []) := by
          intro H locs ls hP hD hS hl
          obtain ⟨x13, ex13, hF⟩ := ltt_some hF
          refine lv_iinc (v := x13) (lv' := [(6, .int x13), (8, .int y10.1), (7, .int y9), (0, .ref (ad a)), (1, va_re ad p0), (2, .int p1), (3, .int p2), (4, .int p3), (5, .int p4)]) hx hb dX6_turn_270 hl (k := 2) rfl (by rw [ex13]; rfl) (by decide) rfl (fun ls hl => ?_)
          refine lv_goto (tgt := 62) hx hb dX6_turn_273 (by decide) ?_
          obtain rfl := Option.some.inj hF
          exact hwz7 _ _ _ hP hD hS (lv_sub hl [0, 3, 4, 5, 6, 7, 8] rfl)
        clear hF
        refine itr_rule (fun (s11 : Int32 × DD) => ∀ (H : Heap) (locs : List Loc) (ls : Array Slot), va_P D classes (wld ct ad G s11.2) H → va_D A (wld ct ad G s11.2) → va_S A s.heap H locs → lv_has ls 14 [(8, .int s11.1), (7, .int y9), (6, .int s5.1), (0, .ref (ad a)), (1, va_re ad p0), (2, .int p1), (3, .int p2), (4, .int p3), (5, .int p4)] → W p l e (headSpec wsX6_turn ({ frames := 0, cells := 0, slots := 0, locals := 0 })).room s m ([.ref (ad a), va_re ad p0, .int p1, .int p2, .int p3, .int p4] : List Value).toArray below meth c H locs 0 0 (MQ below (va_Qv (fun (_ : Unit) => True) (fun _ t => kE D ct ad G A y t) A) ([.ref (ad a), va_re ad p0, .int p1, .int p2, .int p3, .int p4] : List Value).toArray s 0 0 A) (F0 m 83 ls [])) ?_ _ _ hy10 _ _ _ hP hD hS (lv_sub hl [0, 1, 2, 3, 4, 5, 6, 7, 8] rfl)
        rintro s11 ⟨z14, hF, hwz14⟩ H locs ls hP hD hS hl
        try dsimp only at hF
        refine lv_iload hx hb dX6_turn_83 (lv_at hl 0 rfl) ?_
        refine lv_iconst (v := (4 : Int32)) hx hb dX6_turn_85 (by decide) ?_
        refine lv_icmp_ge (tgt := 270) hx hb dX6_turn_86 (by decide) (fun c15 => ?_) (fun c15 => ?_)
        · rw [if_pos c15] at hF
          obtain rfl := Option.some.inj hF
          subst hwz14
          exact K10 _ _ _ hP hD hS (lv_sub hl [0, 1, 2, 3, 4, 5, 6, 7, 8] rfl)
        · rw [if_neg c15] at hF
          refine lv_iload hx hb dX6_turn_89 (lv_at hl 2 rfl) ?_
          obtain ⟨y16, hy16, hF⟩ := bnd_some hF
          have J16 : ∀ (H : Heap) (locs : List Loc) (ls : Array Slot), va_P D classes (wld ct ad G s11.2) H → va_D A (wld ct ad G s11.2) → va_S A s.heap H locs → lv_has ls 14 [(8, .int s11.1), (7, .int y9), (6, .int s5.1), (0, .ref (ad a)), (1, va_re ad p0), (2, .int p1), (3, .int p2), (4, .int p3), (5, .int p4)] → W p l e (headSpec wsX6_turn ({ frames := 0, cells := 0, slots := 0, locals := 0 })).room s m ([.ref (ad a), va_re ad p0, .int p1, .int p2, .int p3, .int p4] : List Value).toArray below meth c H locs 0 0 (MQ below (va_Qv (fun (_ : Unit) => True) (fun _ t => kE D ct ad G A y t) A) ([.ref (ad a), va_re ad p0, .int p1, .int p2, .int p3, .int p4] : List Value).toArray s 0 0 A) (F0 m 103 ls [.int y16]) := by
            intro H locs ls hP hD hS hl
            refine lv_istore (lv' := [(9, .int y16), (8, .int s11.1), (7, .int y9), (6, .int s5.1), (0, .ref (ad a)), (1, va_re ad p0), (2, .int p1), (3, .int p2), (4, .int p3), (5, .int p4)]) hx hb dX6_turn_103 hl (by decide) rfl (fun ls hl => ?_)
            refine lv_aload_n hx hb dX6_turn_105 rfl (lv_at hl 4 rfl) ?_
            refine va_get (D := D) (ci := 6) (v := va_re ad (s11.2.2 a 6)) (C := RX6) (T := TX6) (N := 14) hx hb hts (by decide +kernel) hown hK hP a (wld_o ct ad G s11.2 hc hk (by decide)) rfl 6 (by decide) (hts (.fieldLink RX6 30 "VideoSuite$Samples" "rest" "[I") (by decide +kernel)) (fun _ h9 => h9) rfl dX6_turn_106 ?_
            refine lv_iload hx hb dX6_turn_109 (lv_at hl 0 rfl) ?_
            obtain ⟨b17, ho17, hc17, hk17, hF⟩ := dr_some hF
            refine W_st (st' := [.int y16, .ref (ad b17)]) (by rw [va_some ho17]) ?_
            obtain ⟨hvc, hF⟩ := chk_some hF
            refine va_iald hx hb hK hP b17 1 (wld_i ct ad G s11.2 hc17 hk17) rfl hvc dX6_turn_111 ?_
            obtain ⟨x18, ex18, hF⟩ := ltt_some hF
            refine lv_topi (fun zx18 ezx18 => ?_)
            obtain rfl : x18 = zx18 := ex18.trans ezx18.symm
            refine lv_aload_n hx hb dX6_turn_112 rfl (lv_at hl 4 rfl) ?_
            refine va_get (D := D) (ci := 6) (v := va_re ad (s11.2.2 a 6)) (C := RX6) (T := TX6) (N := 14) hx hb hts (by decide +kernel) hown hK hP a (wld_o ct ad G s11.2 hc hk (by decide)) rfl 6 (by decide) (hts (.fieldLink RX6 30 "VideoSuite$Samples" "rest" "[I") (by decide +kernel)) (fun _ h9 => h9) rfl dX6_turn_113 ?_
            refine lv_iload hx hb dX6_turn_116 (lv_at hl 0 rfl) ?_
            refine lv_iconst (v := (3 : Int32)) hx hb dX6_turn_118 (by decide) ?_
            refine lv_iload hx hb dX6_turn_119 (lv_at hl 2 rfl) ?_
            refine lv_imul hx hb dX6_turn_121 ?_
            obtain ⟨x19, ex19, hF⟩ := ltt_some hF
            refine lv_topi (fun zx19 ezx19 => ?_)
            obtain rfl : x19 = zx19 := ex19.trans ezx19.symm
            refine lv_iadd hx hb dX6_turn_122 ?_
            obtain ⟨x20, ex20, hF⟩ := ltt_some hF
            refine lv_topi (fun zx20 ezx20 => ?_)
            obtain rfl : x20 = zx20 := ex20.trans ezx20.symm
            refine W_st (st' := [.int x20, .ref (ad b17), .int x18]) (by rw [va_some ho17]) ?_
            obtain ⟨hvc, hF⟩ := chk_some hF
            refine va_iald hx hb hK hP b17 1 (wld_i ct ad G s11.2 hc17 hk17) rfl hvc dX6_turn_123 ?_
            obtain ⟨x21, ex21, hF⟩ := ltt_some hF
            refine lv_topi (fun zx21 ezx21 => ?_)
            obtain rfl : x21 = zx21 := ex21.trans ezx21.symm
            refine lv_iadd hx hb dX6_turn_124 ?_
            obtain ⟨x22, ex22, hF⟩ := ltt_some hF
            refine lv_topi (fun zx22 ezx22 => ?_)
            obtain rfl : x22 = zx22 := ex22.trans ezx22.symm
            refine lv_istore (lv' := [(10, .int x22), (9, .int y16), (8, .int s11.1), (7, .int y9), (6, .int s5.1), (0, .ref (ad a)), (1, va_re ad p0), (2, .int p1), (3, .int p2), (4, .int p3), (5, .int p4)]) hx hb dX6_turn_125 hl (by decide) rfl (fun ls hl => ?_)
            refine lv_aload_n hx hb dX6_turn_127 rfl (lv_at hl 5 rfl) ?_
            refine va_get (D := D) (ci := 6) (v := va_re ad (s11.2.2 a 6)) (C := RX6) (T := TX6) (N := 14) hx hb hts (by decide +kernel) hown hK hP a (wld_o ct ad G s11.2 hc hk (by decide)) rfl 6 (by decide) (hts (.fieldLink RX6 30 "VideoSuite$Samples" "rest" "[I") (by decide +kernel)) (fun _ h9 => h9) rfl dX6_turn_128 ?_
            refine lv_iload hx hb dX6_turn_131 (lv_at hl 1 rfl) ?_
            refine lv_iload hx hb dX6_turn_133 (lv_at hl 3 rfl) ?_
            refine lv_iadd hx hb dX6_turn_135 ?_
            obtain ⟨x23, ex23, hF⟩ := ltt_some hF
            refine lv_topi (fun zx23 ezx23 => ?_)
            obtain rfl : x23 = zx23 := ex23.trans ezx23.symm
            refine W_st (st' := [.int x23, .ref (ad b17)]) (by rw [va_some ho17]) ?_
            obtain ⟨hvc, hF⟩ := chk_some hF
            refine va_iald hx hb hK hP b17 1 (wld_i ct ad G s11.2 hc17 hk17) rfl hvc dX6_turn_136 ?_
            obtain ⟨x24, ex24, hF⟩ := ltt_some hF
            refine lv_topi (fun zx24 ezx24 => ?_)
            obtain rfl : x24 = zx24 := ex24.trans ezx24.symm
            refine lv_aload_n hx hb dX6_turn_137 rfl (lv_at hl 5 rfl) ?_
            refine va_get (D := D) (ci := 6) (v := va_re ad (s11.2.2 a 6)) (C := RX6) (T := TX6) (N := 14) hx hb hts (by decide +kernel) hown hK hP a (wld_o ct ad G s11.2 hc hk (by decide)) rfl 6 (by decide) (hts (.fieldLink RX6 30 "VideoSuite$Samples" "rest" "[I") (by decide +kernel)) (fun _ h9 => h9) rfl dX6_turn_138 ?_
            refine lv_iload hx hb dX6_turn_141 (lv_at hl 1 rfl) ?_
            refine lv_iconst (v := (2 : Int32)) hx hb dX6_turn_143 (by decide) ?_
            refine lv_iload hx hb dX6_turn_144 (lv_at hl 3 rfl) ?_
            refine lv_imul hx hb dX6_turn_146 ?_
            obtain ⟨x25, ex25, hF⟩ := ltt_some hF
            refine lv_topi (fun zx25 ezx25 => ?_)
            obtain rfl : x25 = zx25 := ex25.trans ezx25.symm
            refine lv_iadd hx hb dX6_turn_147 ?_
            obtain ⟨x26, ex26, hF⟩ := ltt_some hF
            refine lv_topi (fun zx26 ezx26 => ?_)
            obtain rfl : x26 = zx26 := ex26.trans ezx26.symm
            refine W_st (st' := [.int x26, .ref (ad b17), .int x24]) (by rw [va_some ho17]) ?_
            obtain ⟨hvc, hF⟩ := chk_some hF
            refine va_iald hx hb hK hP b17 1 (wld_i ct ad G s11.2 hc17 hk17) rfl hvc dX6_turn_148 ?_
            obtain ⟨x27, ex27, hF⟩ := ltt_some hF
            refine lv_topi (fun zx27 ezx27 => ?_)
            obtain rfl : x27 = zx27 := ex27.trans ezx27.symm
            refine lv_iadd hx hb dX6_turn_149 ?_
            obtain ⟨x28, ex28, hF⟩ := ltt_some hF
            refine lv_topi (fun zx28 ezx28 => ?_)
            obtain rfl : x28 = zx28 := ex28.trans ezx28.symm
            refine lv_istore (lv' := [(11, .int x28), (10, .int x22), (9, .int y16), (8, .int s11.1), (7, .int y9), (6, .int s5.1), (0, .ref (ad a)), (1, va_re ad p0), (2, .int p1), (3, .int p2), (4, .int p3), (5, .int p4)]) hx hb dX6_turn_150 hl (by decide) rfl (fun ls hl => ?_)
            refine lv_aload_n hx hb dX6_turn_152 rfl (lv_at hl 6 rfl) ?_
            refine va_get (D := D) (ci := 6) (v := va_re ad (s11.2.2 a 6)) (C := RX6) (T := TX6) (N := 14) hx hb hts (by decide +kernel) hown hK hP a (wld_o ct ad G s11.2 hc hk (by decide)) rfl 6 (by decide) (hts (.fieldLink RX6 30 "VideoSuite$Samples" "rest" "[I") (by decide +kernel)) (fun _ h9 => h9) rfl dX6_turn_153 ?_
            refine lv_iload hx hb dX6_turn_156 (lv_at hl 2 rfl) ?_
            refine lv_iload hx hb dX6_turn_158 (lv_at hl 4 rfl) ?_
            refine lv_iadd hx hb dX6_turn_160 ?_
            obtain ⟨x29, ex29, hF⟩ := ltt_some hF
            refine lv_topi (fun zx29 ezx29 => ?_)
            obtain rfl : x29 = zx29 := ex29.trans ezx29.symm
            refine W_st (st' := [.int x29, .ref (ad b17)]) (by rw [va_some ho17]) ?_
            obtain ⟨hvc, hF⟩ := chk_some hF
            refine va_iald hx hb hK hP b17 1 (wld_i ct ad G s11.2 hc17 hk17) rfl hvc dX6_turn_161 ?_
            obtain ⟨x30, ex30, hF⟩ := ltt_some hF
            refine lv_topi (fun zx30 ezx30 => ?_)
            obtain rfl : x30 = zx30 := ex30.trans ezx30.symm
            refine lv_aload_n hx hb dX6_turn_162 rfl (lv_at hl 6 rfl) ?_
            refine va_get (D := D) (ci := 6) (v := va_re ad (s11.2.2 a 6)) (C := RX6) (T := TX6) (N := 14) hx hb hts (by decide +kernel) hown hK hP a (wld_o ct ad G s11.2 hc hk (by decide)) rfl 6 (by decide) (hts (.fieldLink RX6 30 "VideoSuite$Samples" "rest" "[I") (by decide +kernel)) (fun _ h9 => h9) rfl dX6_turn_163 ?_
            refine lv_iload hx hb dX6_turn_166 (lv_at hl 2 rfl) ?_
            refine lv_iconst (v := (2 : Int32)) hx hb dX6_turn_168 (by decide) ?_
            refine lv_iload hx hb dX6_turn_169 (lv_at hl 4 rfl) ?_
            refine lv_imul hx hb dX6_turn_171 ?_
            obtain ⟨x31, ex31, hF⟩ := ltt_some hF
            refine lv_topi (fun zx31 ezx31 => ?_)
            obtain rfl : x31 = zx31 := ex31.trans ezx31.symm
            refine lv_iadd hx hb dX6_turn_172 ?_
            obtain ⟨x32, ex32, hF⟩ := ltt_some hF
            refine lv_topi (fun zx32 ezx32 => ?_)
            obtain rfl : x32 = zx32 := ex32.trans ezx32.symm
            refine W_st (st' := [.int x32, .ref (ad b17), .int x30]) (by rw [va_some ho17]) ?_
            obtain ⟨hvc, hF⟩ := chk_some hF
            refine va_iald hx hb hK hP b17 1 (wld_i ct ad G s11.2 hc17 hk17) rfl hvc dX6_turn_173 ?_
            obtain ⟨x33, ex33, hF⟩ := ltt_some hF
            refine lv_topi (fun zx33 ezx33 => ?_)
            obtain rfl : x33 = zx33 := ex33.trans ezx33.symm
            refine lv_isub hx hb dX6_turn_174 ?_
            obtain ⟨x34, ex34, hF⟩ := ltt_some hF
            refine lv_topi (fun zx34 ezx34 => ?_)
            obtain rfl : x34 = zx34 := ex34.trans ezx34.symm
            refine lv_istore (lv' := [(12, .int x34), (11, .int x28), (10, .int x22), (9, .int y16), (8, .int s11.1), (7, .int y9), (6, .int s5.1), (0, .ref (ad a)), (1, va_re ad p0), (2, .int p1), (3, .int p2), (4, .int p3), (5, .int p4)]) hx hb dX6_turn_175 hl (by decide) rfl (fun ls hl => ?_)
            refine lv_aload_n hx hb dX6_turn_177 rfl (lv_at hl 7 rfl) ?_
            refine va_get (D := D) (ci := 6) (v := va_re ad (s11.2.2 a 6)) (C := RX6) (T := TX6) (N := 14) hx hb hts (by decide +kernel) hown hK hP a (wld_o ct ad G s11.2 hc hk (by decide)) rfl 6 (by decide) (hts (.fieldLink RX6 30 "VideoSuite$Samples" "rest" "[I") (by decide +kernel)) (fun _ h9 => h9) rfl dX6_turn_178 ?_
            refine lv_iload hx hb dX6_turn_181 (lv_at hl 3 rfl) ?_
            refine W_st (st' := [.int y16, .ref (ad b17)]) (by rw [va_some ho17]) ?_
            obtain ⟨hvc, hF⟩ := chk_some hF
            refine va_iald hx hb hK hP b17 1 (wld_i ct ad G s11.2 hc17 hk17) rfl hvc dX6_turn_183 ?_
            obtain ⟨x35, ex35, hF⟩ := ltt_some hF
            refine lv_topi (fun zx35 ezx35 => ?_)
            obtain rfl : x35 = zx35 := ex35.trans ezx35.symm
            refine lv_aload_n hx hb dX6_turn_184 rfl (lv_at hl 7 rfl) ?_
            refine va_get (D := D) (ci := 6) (v := va_re ad (s11.2.2 a 6)) (C := RX6) (T := TX6) (N := 14) hx hb hts (by decide +kernel) hown hK hP a (wld_o ct ad G s11.2 hc hk (by decide)) rfl 6 (by decide) (hts (.fieldLink RX6 30 "VideoSuite$Samples" "rest" "[I") (by decide +kernel)) (fun _ h9 => h9) rfl dX6_turn_185 ?_
            refine lv_iload hx hb dX6_turn_188 (lv_at hl 3 rfl) ?_
            refine lv_iconst (v := (3 : Int32)) hx hb dX6_turn_190 (by decide) ?_
            refine lv_iload hx hb dX6_turn_191 (lv_at hl 5 rfl) ?_
            refine lv_imul hx hb dX6_turn_193 ?_
            obtain ⟨x36, ex36, hF⟩ := ltt_some hF
            refine lv_topi (fun zx36 ezx36 => ?_)
            obtain rfl : x36 = zx36 := ex36.trans ezx36.symm
            refine lv_iadd hx hb dX6_turn_194 ?_
            obtain ⟨x37, ex37, hF⟩ := ltt_some hF
            refine lv_topi (fun zx37 ezx37 => ?_)
            obtain rfl : x37 = zx37 := ex37.trans ezx37.symm
            refine W_st (st' := [.int x37, .ref (ad b17), .int x35]) (by rw [va_some ho17]) ?_
            obtain ⟨hvc, hF⟩ := chk_some hF
            refine va_iald hx hb hK hP b17 1 (wld_i ct ad G s11.2 hc17 hk17) rfl hvc dX6_turn_195 ?_
            obtain ⟨x38, ex38, hF⟩ := ltt_some hF
            refine lv_topi (fun zx38 ezx38 => ?_)
            obtain rfl : x38 = zx38 := ex38.trans ezx38.symm
            refine lv_isub hx hb dX6_turn_196 ?_
            obtain ⟨x39, ex39, hF⟩ := ltt_some hF
            refine lv_topi (fun zx39 ezx39 => ?_)
            obtain rfl : x39 = zx39 := ex39.trans ezx39.symm
            refine lv_istore (lv' := [(13, .int x39), (12, .int x34), (11, .int x28), (10, .int x22), (9, .int y16), (8, .int s11.1), (7, .int y9), (6, .int s5.1), (0, .ref (ad a)), (1, va_re ad p0), (2, .int p1), (3, .int p2), (4, .int p3), (5, .int p4)]) hx hb dX6_turn_197 hl (by decide) rfl (fun ls hl => ?_)
            refine lv_aload_n hx hb dX6_turn_199 rfl (lv_at hl 8 rfl) ?_
            refine va_get (D := D) (ci := 6) (v := va_re ad (s11.2.2 a 6)) (C := RX6) (T := TX6) (N := 14) hx hb hts (by decide +kernel) hown hK hP a (wld_o ct ad G s11.2 hc hk (by decide)) rfl 6 (by decide) (hts (.fieldLink RX6 30 "VideoSuite$Samples" "rest" "[I") (by decide +kernel)) (fun _ h9 => h9) rfl dX6_turn_200 ?_
            refine lv_iload hx hb dX6_turn_203 (lv_at hl 4 rfl) ?_
            refine lv_iload hx hb dX6_turn_205 (lv_at hl 3 rfl) ?_
            refine lv_iload hx hb dX6_turn_207 (lv_at hl 2 rfl) ?_
            refine lv_iadd hx hb dX6_turn_209 ?_
            obtain ⟨x40, ex40, hF⟩ := ltt_some hF
            refine lv_topi (fun zx40 ezx40 => ?_)
            obtain rfl : x40 = zx40 := ex40.trans ezx40.symm
            refine W_st (st' := [.int x40, .int y16, .ref (ad b17)]) (by rw [va_some ho17]) ?_
            obtain ⟨hvc, hF⟩ := chk_some hF
            refine va_iast hx hb hK hP hD hS b17 1 (wld_i ct ad G s11.2 hc17 hk17) rfl hvc dX6_turn_210 (fun H locs hP hD hS => ?_)
            obtain ⟨M41, eM41, hF⟩ := ltt_some hF
            rw [set_i ct ad G s11.2 hc17 hk17, ← eM41] at hP hD
            refine lv_aload_n hx hb dX6_turn_211 rfl (lv_at hl 8 rfl) ?_
            refine va_get (D := D) (ci := 6) (v := va_re ad (M41.2 a 6)) (C := RX6) (T := TX6) (N := 14) hx hb hts (by decide +kernel) hown hK hP a (wld_o ct ad G M41 hc hk (by decide)) rfl 6 (by decide) (hts (.fieldLink RX6 30 "VideoSuite$Samples" "rest" "[I") (by decide +kernel)) (fun _ h9 => h9) rfl dX6_turn_212 ?_
            refine lv_iload hx hb dX6_turn_215 (lv_at hl 4 rfl) ?_
            refine lv_iload hx hb dX6_turn_217 (lv_at hl 6 rfl) ?_
            refine lv_iadd hx hb dX6_turn_219 ?_
            obtain ⟨x42, ex42, hF⟩ := ltt_some hF
            refine lv_topi (fun zx42 ezx42 => ?_)
            obtain rfl : x42 = zx42 := ex42.trans ezx42.symm
            refine lv_iconst (v := (2 : Int32)) hx hb dX6_turn_220 (by decide) ?_
            refine lv_iload hx hb dX6_turn_221 (lv_at hl 0 rfl) ?_
            refine lv_imul hx hb dX6_turn_223 ?_
            obtain ⟨x43, ex43, hF⟩ := ltt_some hF
            refine lv_topi (fun zx43 ezx43 => ?_)
            obtain rfl : x43 = zx43 := ex43.trans ezx43.symm
            refine lv_iload hx hb dX6_turn_224 (lv_at hl 1 rfl) ?_
            refine lv_iadd hx hb dX6_turn_226 ?_
            obtain ⟨x44, ex44, hF⟩ := ltt_some hF
            refine lv_topi (fun zx44 ezx44 => ?_)
            obtain rfl : x44 = zx44 := ex44.trans ezx44.symm
            obtain ⟨b45, ho45, hc45, hk45, hF⟩ := dr_some hF
            refine W_st (st' := [.int x44, .int x42, .ref (ad b45)]) (by rw [va_some ho45]) ?_
            obtain ⟨hvc, hF⟩ := chk_some hF
            refine va_iast hx hb hK hP hD hS b45 1 (wld_i ct ad G M41 hc45 hk45) rfl hvc dX6_turn_227 (fun H locs hP hD hS => ?_)
            obtain ⟨M46, eM46, hF⟩ := ltt_some hF
            rw [set_i ct ad G M41 hc45 hk45, ← eM46] at hP hD
            refine lv_aload_n hx hb dX6_turn_228 rfl (lv_at hl 8 rfl) ?_
            refine va_get (D := D) (ci := 6) (v := va_re ad (M46.2 a 6)) (C := RX6) (T := TX6) (N := 14) hx hb hts (by decide +kernel) hown hK hP a (wld_o ct ad G M46 hc hk (by decide)) rfl 6 (by decide) (hts (.fieldLink RX6 30 "VideoSuite$Samples" "rest" "[I") (by decide +kernel)) (fun _ h9 => h9) rfl dX6_turn_229 ?_
            refine lv_iload hx hb dX6_turn_232 (lv_at hl 4 rfl) ?_
            refine lv_iconst (v := (2 : Int32)) hx hb dX6_turn_234 (by decide) ?_
            refine lv_iload hx hb dX6_turn_235 (lv_at hl 6 rfl) ?_
            refine lv_imul hx hb dX6_turn_237 ?_
            obtain ⟨x47, ex47, hF⟩ := ltt_some hF
            refine lv_topi (fun zx47 ezx47 => ?_)
            obtain rfl : x47 = zx47 := ex47.trans ezx47.symm
            refine lv_iadd hx hb dX6_turn_238 ?_
            obtain ⟨x48, ex48, hF⟩ := ltt_some hF
            refine lv_topi (fun zx48 ezx48 => ?_)
            obtain rfl : x48 = zx48 := ex48.trans ezx48.symm
            refine lv_iload hx hb dX6_turn_239 (lv_at hl 3 rfl) ?_
            refine lv_iload hx hb dX6_turn_241 (lv_at hl 2 rfl) ?_
            refine lv_isub hx hb dX6_turn_243 ?_
            obtain ⟨x49, ex49, hF⟩ := ltt_some hF
            refine lv_topi (fun zx49 ezx49 => ?_)
            obtain rfl : x49 = zx49 := ex49.trans ezx49.symm
            obtain ⟨b50, ho50, hc50, hk50, hF⟩ := dr_some hF
            refine W_st (st' := [.int x49, .int x48, .ref (ad b50)]) (by rw [va_some ho50]) ?_
            obtain ⟨hvc, hF⟩ := chk_some hF
            refine va_iast hx hb hK hP hD hS b50 1 (wld_i ct ad G M46 hc50 hk50) rfl hvc dX6_turn_244 (fun H locs hP hD hS => ?_)
            obtain ⟨M51, eM51, hF⟩ := ltt_some hF
            rw [set_i ct ad G M46 hc50 hk50, ← eM51] at hP hD
            refine lv_aload_n hx hb dX6_turn_245 rfl (lv_at hl 8 rfl) ?_
            refine va_get (D := D) (ci := 6) (v := va_re ad (M51.2 a 6)) (C := RX6) (T := TX6) (N := 14) hx hb hts (by decide +kernel) hown hK hP a (wld_o ct ad G M51 hc hk (by decide)) rfl 6 (by decide) (hts (.fieldLink RX6 30 "VideoSuite$Samples" "rest" "[I") (by decide +kernel)) (fun _ h9 => h9) rfl dX6_turn_246 ?_
            refine lv_iload hx hb dX6_turn_249 (lv_at hl 4 rfl) ?_
            refine lv_iconst (v := (3 : Int32)) hx hb dX6_turn_251 (by decide) ?_
            refine lv_iload hx hb dX6_turn_252 (lv_at hl 6 rfl) ?_
            refine lv_imul hx hb dX6_turn_254 ?_
            obtain ⟨x52, ex52, hF⟩ := ltt_some hF
            refine lv_topi (fun zx52 ezx52 => ?_)
            obtain rfl : x52 = zx52 := ex52.trans ezx52.symm
            refine lv_iadd hx hb dX6_turn_255 ?_
            obtain ⟨x53, ex53, hF⟩ := ltt_some hF
            refine lv_topi (fun zx53 ezx53 => ?_)
            obtain rfl : x53 = zx53 := ex53.trans ezx53.symm
            refine lv_iload hx hb dX6_turn_256 (lv_at hl 0 rfl) ?_
            refine lv_iconst (v := (2 : Int32)) hx hb dX6_turn_258 (by decide) ?_
            refine lv_iload hx hb dX6_turn_259 (lv_at hl 1 rfl) ?_
            refine lv_imul hx hb dX6_turn_261 ?_
            obtain ⟨x54, ex54, hF⟩ := ltt_some hF
            refine lv_topi (fun zx54 ezx54 => ?_)
            obtain rfl : x54 = zx54 := ex54.trans ezx54.symm
            refine lv_isub hx hb dX6_turn_262 ?_
            obtain ⟨x55, ex55, hF⟩ := ltt_some hF
            refine lv_topi (fun zx55 ezx55 => ?_)
            obtain rfl : x55 = zx55 := ex55.trans ezx55.symm
            obtain ⟨b56, ho56, hc56, hk56, hF⟩ := dr_some hF
            refine W_st (st' := [.int x55, .int x53, .ref (ad b56)]) (by rw [va_some ho56]) ?_
            obtain ⟨hvc, hF⟩ := chk_some hF
            refine va_iast hx hb hK hP hD hS b56 1 (wld_i ct ad G M51 hc56 hk56) rfl hvc dX6_turn_263 (fun H locs hP hD hS => ?_)
            obtain ⟨M57, eM57, hF⟩ := ltt_some hF
            rw [set_i ct ad G M51 hc56 hk56, ← eM57] at hP hD
            obtain ⟨x58, ex58, hF⟩ := ltt_some hF
            refine lv_iinc (v := x58) (lv' := [(8, .int x58), (13, .int x39), (12, .int x34), (11, .int x28), (10, .int x22), (9, .int y16), (7, .int y9), (6, .int s5.1), (0, .ref (ad a)), (1, va_re ad p0), (2, .int p1), (3, .int p2), (4, .int p3), (5, .int p4)]) hx hb dX6_turn_264 hl (k := 5) rfl (by rw [ex58]; rfl) (by decide) rfl (fun ls hl => ?_)
            refine lv_goto (tgt := 83) hx hb dX6_turn_267 (by decide) ?_
            obtain rfl := Option.some.inj hF
            exact hwz14 _ _ _ hP hD hS (lv_sub hl [0, 6, 7, 8, 9, 10, 11, 12, 13] rfl)
          clear hF
          have hF := hy16
          clear hy16
          refine lv_if_ne (tgt := 101) hx hb dX6_turn_91 (by decide) (fun c59 => ?_) (fun c59 => ?_)
          · rw [if_neg c59] at hF
            refine lv_iload hx hb dX6_turn_101 (lv_at hl 0 rfl) ?_
            obtain rfl := Option.some.inj hF
            exact J16 _ _ _ hP hD hS (lv_sub hl [0, 1, 2, 3, 4, 5, 6, 7, 8] rfl)
          · rw [if_pos c59] at hF
            refine lv_iconst (v := (4 : Int32)) hx hb dX6_turn_94 (by decide) ?_
            refine lv_iload hx hb dX6_turn_95 (lv_at hl 0 rfl) ?_
            refine lv_imul hx hb dX6_turn_97 ?_
            obtain ⟨x60, ex60, hF⟩ := ltt_some hF
            refine lv_topi (fun zx60 ezx60 => ?_)
            obtain rfl : x60 = zx60 := ex60.trans ezx60.symm
            refine lv_goto (tgt := 103) hx hb dX6_turn_98 (by decide) ?_
            obtain rfl := Option.some.inj hF
            exact J16 _ _ _ hP hD hS (lv_sub hl [0, 1, 2, 3, 4, 5, 6, 7, 8] rfl)
      clear hF
      have hF := hy9
      clear hy9
      refine lv_if_ne (tgt := 77) hx hb dX6_turn_70 (by decide) (fun c61 => ?_) (fun c61 => ?_)
      · rw [if_neg c61] at hF
        refine lv_iconst (v := (4 : Int32)) hx hb dX6_turn_77 (by decide) ?_
        obtain rfl := Option.some.inj hF
        exact J9 _ _ _ hP hD hS (lv_sub hl [0, 1, 2, 3, 4, 5, 6] rfl)
      · rw [if_pos c61] at hF
        refine lv_iconst (v := (1 : Int32)) hx hb dX6_turn_73 (by decide) ?_
        refine lv_goto (tgt := 78) hx hb dX6_turn_74 (by decide) ?_
        obtain rfl := Option.some.inj hF
        exact J9 _ _ _ hP hD hS (lv_sub hl [0, 1, 2, 3, 4, 5, 6] rfl)
  clear hF
  refine itr_rule (fun (s2 : Int32 × DD) => ∀ (H : Heap) (locs : List Loc) (ls : Array Slot), va_P D classes (wld ct ad G s2.2) H → va_D A (wld ct ad G s2.2) → va_S A s.heap H locs → lv_has ls 14 [(6, .int s2.1), (0, .ref (ad a)), (1, va_re ad p0), (2, .int p1), (3, .int p2), (4, .int p3), (5, .int p4)] → W p l e (headSpec wsX6_turn ({ frames := 0, cells := 0, slots := 0, locals := 0 })).room s m ([.ref (ad a), va_re ad p0, .int p1, .int p2, .int p3, .int p4] : List Value).toArray below meth c H locs 0 0 (MQ below (va_Qv (fun (_ : Unit) => True) (fun _ t => kE D ct ad G A y t) A) ([.ref (ad a), va_re ad p0, .int p1, .int p2, .int p3, .int p4] : List Value).toArray s 0 0 A) (F0 m 3 ls [])) ?_ _ _ hy1 _ _ _ hP hD hS (lv_sub hl [0, 1, 2, 3, 4, 5, 6] rfl)
  rintro s2 ⟨z62, hF, hwz62⟩ H locs ls hP hD hS hl
  try dsimp only at hF
  refine lv_iload hx hb dX6_turn_3 (lv_at hl 0 rfl) ?_
  refine lv_bipush (v := (16 : Int32)) hx hb dX6_turn_5 (by decide) ?_
  refine lv_icmp_ge (tgt := 59) hx hb dX6_turn_7 (by decide) (fun c63 => ?_) (fun c63 => ?_)
  · rw [if_pos c63] at hF
    obtain rfl := Option.some.inj hF
    subst hwz62
    exact K1 _ _ _ hP hD hS (lv_sub hl [0, 1, 2, 3, 4, 5, 6] rfl)
  · rw [if_neg c63] at hF
    refine lv_aload_n hx hb dX6_turn_10 rfl (lv_at hl 1 rfl) ?_
    refine va_get (D := D) (ci := 6) (v := va_re ad (s2.2.2 a 6)) (C := RX6) (T := TX6) (N := 14) hx hb hts (by decide +kernel) hown hK hP a (wld_o ct ad G s2.2 hc hk (by decide)) rfl 6 (by decide) (hts (.fieldLink RX6 30 "VideoSuite$Samples" "rest" "[I") (by decide +kernel)) (fun _ h9 => h9) rfl dX6_turn_11 ?_
    refine lv_iload hx hb dX6_turn_14 (lv_at hl 0 rfl) ?_
    refine lv_aloadq_n hx hb dX6_turn_16 rfl (lv_at hl 2 rfl) ?_
    refine lv_iload_n hx hb dX6_turn_17 rfl (lv_at hl 3 rfl) ?_
    refine lv_iload hx hb dX6_turn_18 (lv_at hl 0 rfl) ?_
    refine lv_iconst (v := (4 : Int32)) hx hb dX6_turn_20 (by decide) ?_
    refine lv_idiv hx hb dX6_turn_21 (by decide) ?_
    obtain ⟨x64, ex64, hF⟩ := ltt_some hF
    refine lv_topi (fun zx64 ezx64 => ?_)
    obtain rfl : x64 = zx64 := ex64.trans ezx64.symm
    refine lv_iload_n hx hb dX6_turn_22 rfl (lv_at hl 4 rfl) ?_
    refine lv_imul hx hb dX6_turn_23 ?_
    obtain ⟨x65, ex65, hF⟩ := ltt_some hF
    refine lv_topi (fun zx65 ezx65 => ?_)
    obtain rfl : x65 = zx65 := ex65.trans ezx65.symm
    refine lv_iadd hx hb dX6_turn_24 ?_
    obtain ⟨x66, ex66, hF⟩ := ltt_some hF
    refine lv_topi (fun zx66 ezx66 => ?_)
    obtain rfl : x66 = zx66 := ex66.trans ezx66.symm
    refine lv_iload hx hb dX6_turn_25 (lv_at hl 0 rfl) ?_
    refine lv_iconst (v := (4 : Int32)) hx hb dX6_turn_27 (by decide) ?_
    refine lv_irem hx hb dX6_turn_28 (by decide) ?_
    obtain ⟨x67, ex67, hF⟩ := ltt_some hF
    refine lv_topi (fun zx67 ezx67 => ?_)
    obtain rfl : x67 = zx67 := ex67.trans ezx67.symm
    refine lv_iadd hx hb dX6_turn_29 ?_
    obtain ⟨x68, ex68, hF⟩ := ltt_some hF
    refine lv_topi (fun zx68 ezx68 => ?_)
    obtain rfl : x68 = zx68 := ex68.trans ezx68.symm
    obtain ⟨b69, ho69, hc69, hk69, hF⟩ := dr_some hF
    refine W_st (st' := [.int x68, .ref (ad b69), .int s2.1, va_re ad (s2.2.2 a 6)]) (by rw [va_some ho69]) ?_
    obtain ⟨hvc, hF⟩ := chk_some hF
    refine va_iald hx hb hK hP b69 1 (wld_i ct ad G s2.2 hc69 hk69) rfl hvc dX6_turn_30 ?_
    obtain ⟨x70, ex70, hF⟩ := ltt_some hF
    refine lv_topi (fun zx70 ezx70 => ?_)
    obtain rfl : x70 = zx70 := ex70.trans ezx70.symm
    refine lv_aload_n hx hb dX6_turn_31 rfl (lv_at hl 1 rfl) ?_
    refine va_get (D := D) (ci := 6) (v := va_re ad (s2.2.2 a 0)) (C := RX6) (T := TX6) (N := 14) hx hb hts (by decide +kernel) hown hK hP a (wld_o ct ad G s2.2 hc hk (by decide)) rfl 0 (by decide) (hts (.fieldLink RX6 9 "VideoSuite$Samples" "guess" "[I") (by decide +kernel)) (fun _ h9 => h9) rfl dX6_turn_32 ?_
    refine lv_iload hx hb dX6_turn_35 (lv_at hl 5 rfl) ?_
    refine lv_iload hx hb dX6_turn_37 (lv_at hl 0 rfl) ?_
    refine lv_iconst (v := (4 : Int32)) hx hb dX6_turn_39 (by decide) ?_
    refine lv_idiv hx hb dX6_turn_40 (by decide) ?_
    obtain ⟨x71, ex71, hF⟩ := ltt_some hF
    refine lv_topi (fun zx71 ezx71 => ?_)
    obtain rfl : x71 = zx71 := ex71.trans ezx71.symm
    refine lv_iload hx hb dX6_turn_41 (lv_at hl 6 rfl) ?_
    refine lv_imul hx hb dX6_turn_43 ?_
    obtain ⟨x72, ex72, hF⟩ := ltt_some hF
    refine lv_topi (fun zx72 ezx72 => ?_)
    obtain rfl : x72 = zx72 := ex72.trans ezx72.symm
    refine lv_iadd hx hb dX6_turn_44 ?_
    obtain ⟨x73, ex73, hF⟩ := ltt_some hF
    refine lv_topi (fun zx73 ezx73 => ?_)
    obtain rfl : x73 = zx73 := ex73.trans ezx73.symm
    refine lv_iload hx hb dX6_turn_45 (lv_at hl 0 rfl) ?_
    refine lv_iconst (v := (4 : Int32)) hx hb dX6_turn_47 (by decide) ?_
    refine lv_irem hx hb dX6_turn_48 (by decide) ?_
    obtain ⟨x74, ex74, hF⟩ := ltt_some hF
    refine lv_topi (fun zx74 ezx74 => ?_)
    obtain rfl : x74 = zx74 := ex74.trans ezx74.symm
    refine lv_iadd hx hb dX6_turn_49 ?_
    obtain ⟨x75, ex75, hF⟩ := ltt_some hF
    refine lv_topi (fun zx75 ezx75 => ?_)
    obtain rfl : x75 = zx75 := ex75.trans ezx75.symm
    obtain ⟨b76, ho76, hc76, hk76, hF⟩ := dr_some hF
    refine W_st (st' := [.int x75, .ref (ad b76), .int x70, .int s2.1, va_re ad (s2.2.2 a 6)]) (by rw [va_some ho76]) ?_
    obtain ⟨hvc, hF⟩ := chk_some hF
    refine va_iald hx hb hK hP b76 1 (wld_i ct ad G s2.2 hc76 hk76) rfl hvc dX6_turn_50 ?_
    obtain ⟨x77, ex77, hF⟩ := ltt_some hF
    refine lv_topi (fun zx77 ezx77 => ?_)
    obtain rfl : x77 = zx77 := ex77.trans ezx77.symm
    refine lv_isub hx hb dX6_turn_51 ?_
    obtain ⟨x78, ex78, hF⟩ := ltt_some hF
    refine lv_topi (fun zx78 ezx78 => ?_)
    obtain rfl : x78 = zx78 := ex78.trans ezx78.symm
    obtain ⟨b79, ho79, hc79, hk79, hF⟩ := dr_some hF
    refine W_st (st' := [.int x78, .int s2.1, .ref (ad b79)]) (by rw [va_some ho79]) ?_
    obtain ⟨hvc, hF⟩ := chk_some hF
    refine va_iast hx hb hK hP hD hS b79 1 (wld_i ct ad G s2.2 hc79 hk79) rfl hvc dX6_turn_52 (fun H locs hP hD hS => ?_)
    obtain ⟨M80, eM80, hF⟩ := ltt_some hF
    rw [set_i ct ad G s2.2 hc79 hk79, ← eM80] at hP hD
    obtain ⟨x81, ex81, hF⟩ := ltt_some hF
    refine lv_iinc (v := x81) (lv' := [(6, .int x81), (0, .ref (ad a)), (1, va_re ad p0), (2, .int p1), (3, .int p2), (4, .int p3), (5, .int p4)]) hx hb dX6_turn_53 hl (k := 0) rfl (by rw [ex81]; rfl) (by decide) rfl (fun ls hl => ?_)
    refine lv_goto (tgt := 3) hx hb dX6_turn_56 (by decide) ?_
    obtain rfl := Option.some.inj hF
    exact hwz62 _ _ _ hP hD hS (lv_sub hl [0, 1, 2, 3, 4, 5, 6] rfl)
