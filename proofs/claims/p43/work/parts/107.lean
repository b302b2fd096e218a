theorem dX6_turnBack_0 : decode cX6_turnBack 0 = .ok (.iconst 0, 1) := by decide +kernel
theorem dX6_turnBack_1 : decode cX6_turnBack 1 = .ok (.istore_n 3, 1) := by decide +kernel
theorem dX6_turnBack_2 : decode cX6_turnBack 2 = .ok (.iload_n 3, 1) := by decide +kernel
theorem dX6_turnBack_3 : decode cX6_turnBack 3 = .ok (.iconst 4, 1) := by decide +kernel
theorem dX6_turnBack_4 : decode cX6_turnBack 4 = .ok (.if_icmp .ge 164, 3) := by decide +kernel
theorem dX6_turnBack_7 : decode cX6_turnBack 7 = .ok (.iload_n 3, 1) := by decide +kernel
theorem dX6_turnBack_8 : decode cX6_turnBack 8 = .ok (.iload_n 2, 1) := by decide +kernel
theorem dX6_turnBack_9 : decode cX6_turnBack 9 = .ok (.imul, 1) := by decide +kernel
theorem dX6_turnBack_10 : decode cX6_turnBack 10 = .ok (.istore 4, 2) := by decide +kernel
theorem dX6_turnBack_12 : decode cX6_turnBack 12 = .ok (.aload_n 0, 1) := by decide +kernel
theorem dX6_turnBack_13 : decode cX6_turnBack 13 = .ok (.getfield 30, 3) := by decide +kernel
theorem dX6_turnBack_16 : decode cX6_turnBack 16 = .ok (.iload 4, 2) := by decide +kernel
theorem dX6_turnBack_18 : decode cX6_turnBack 18 = .ok (.iaload, 1) := by decide +kernel
theorem dX6_turnBack_19 : decode cX6_turnBack 19 = .ok (.aload_n 0, 1) := by decide +kernel
theorem dX6_turnBack_20 : decode cX6_turnBack 20 = .ok (.getfield 30, 3) := by decide +kernel
theorem dX6_turnBack_23 : decode cX6_turnBack 23 = .ok (.iload 4, 2) := by decide +kernel
theorem dX6_turnBack_25 : decode cX6_turnBack 25 = .ok (.iconst 2, 1) := by decide +kernel
theorem dX6_turnBack_26 : decode cX6_turnBack 26 = .ok (.iload_n 1, 1) := by decide +kernel
theorem dX6_turnBack_27 : decode cX6_turnBack 27 = .ok (.imul, 1) := by decide +kernel
theorem dX6_turnBack_28 : decode cX6_turnBack 28 = .ok (.iadd, 1) := by decide +kernel
theorem dX6_turnBack_29 : decode cX6_turnBack 29 = .ok (.iaload, 1) := by decide +kernel
theorem dX6_turnBack_30 : decode cX6_turnBack 30 = .ok (.iadd, 1) := by decide +kernel
theorem dX6_turnBack_31 : decode cX6_turnBack 31 = .ok (.istore 5, 2) := by decide +kernel
theorem dX6_turnBack_33 : decode cX6_turnBack 33 = .ok (.aload_n 0, 1) := by decide +kernel
theorem dX6_turnBack_34 : decode cX6_turnBack 34 = .ok (.getfield 30, 3) := by decide +kernel
theorem dX6_turnBack_37 : decode cX6_turnBack 37 = .ok (.iload 4, 2) := by decide +kernel
theorem dX6_turnBack_39 : decode cX6_turnBack 39 = .ok (.iaload, 1) := by decide +kernel
theorem dX6_turnBack_40 : decode cX6_turnBack 40 = .ok (.aload_n 0, 1) := by decide +kernel
theorem dX6_turnBack_41 : decode cX6_turnBack 41 = .ok (.getfield 30, 3) := by decide +kernel
theorem dX6_turnBack_44 : decode cX6_turnBack 44 = .ok (.iload 4, 2) := by decide +kernel
theorem dX6_turnBack_46 : decode cX6_turnBack 46 = .ok (.iconst 2, 1) := by decide +kernel
theorem dX6_turnBack_47 : decode cX6_turnBack 47 = .ok (.iload_n 1, 1) := by decide +kernel
theorem dX6_turnBack_48 : decode cX6_turnBack 48 = .ok (.imul, 1) := by decide +kernel
theorem dX6_turnBack_49 : decode cX6_turnBack 49 = .ok (.iadd, 1) := by decide +kernel
theorem dX6_turnBack_50 : decode cX6_turnBack 50 = .ok (.iaload, 1) := by decide +kernel
theorem dX6_turnBack_51 : decode cX6_turnBack 51 = .ok (.isub, 1) := by decide +kernel
theorem dX6_turnBack_52 : decode cX6_turnBack 52 = .ok (.istore 6, 2) := by decide +kernel
theorem dX6_turnBack_54 : decode cX6_turnBack 54 = .ok (.aload_n 0, 1) := by decide +kernel
theorem dX6_turnBack_55 : decode cX6_turnBack 55 = .ok (.getfield 30, 3) := by decide +kernel
theorem dX6_turnBack_58 : decode cX6_turnBack 58 = .ok (.iload 4, 2) := by decide +kernel
theorem dX6_turnBack_60 : decode cX6_turnBack 60 = .ok (.iload_n 1, 1) := by decide +kernel
theorem dX6_turnBack_61 : decode cX6_turnBack 61 = .ok (.iadd, 1) := by decide +kernel
theorem dX6_turnBack_62 : decode cX6_turnBack 62 = .ok (.iaload, 1) := by decide +kernel
theorem dX6_turnBack_63 : decode cX6_turnBack 63 = .ok (.iconst 1, 1) := by decide +kernel
theorem dX6_turnBack_64 : decode cX6_turnBack 64 = .ok (.ishr, 1) := by decide +kernel
theorem dX6_turnBack_65 : decode cX6_turnBack 65 = .ok (.aload_n 0, 1) := by decide +kernel
theorem dX6_turnBack_66 : decode cX6_turnBack 66 = .ok (.getfield 30, 3) := by decide +kernel
theorem dX6_turnBack_69 : decode cX6_turnBack 69 = .ok (.iload 4, 2) := by decide +kernel
theorem dX6_turnBack_71 : decode cX6_turnBack 71 = .ok (.iconst 3, 1) := by decide +kernel
theorem dX6_turnBack_72 : decode cX6_turnBack 72 = .ok (.iload_n 1, 1) := by decide +kernel
theorem dX6_turnBack_73 : decode cX6_turnBack 73 = .ok (.imul, 1) := by decide +kernel
theorem dX6_turnBack_74 : decode cX6_turnBack 74 = .ok (.iadd, 1) := by decide +kernel
theorem dX6_turnBack_75 : decode cX6_turnBack 75 = .ok (.iaload, 1) := by decide +kernel
theorem dX6_turnBack_76 : decode cX6_turnBack 76 = .ok (.isub, 1) := by decide +kernel
theorem dX6_turnBack_77 : decode cX6_turnBack 77 = .ok (.istore 7, 2) := by decide +kernel
theorem dX6_turnBack_79 : decode cX6_turnBack 79 = .ok (.aload_n 0, 1) := by decide +kernel
theorem dX6_turnBack_80 : decode cX6_turnBack 80 = .ok (.getfield 30, 3) := by decide +kernel
theorem dX6_turnBack_83 : decode cX6_turnBack 83 = .ok (.iload 4, 2) := by decide +kernel
theorem dX6_turnBack_85 : decode cX6_turnBack 85 = .ok (.iload_n 1, 1) := by decide +kernel
theorem dX6_turnBack_86 : decode cX6_turnBack 86 = .ok (.iadd, 1) := by decide +kernel
theorem dX6_turnBack_87 : decode cX6_turnBack 87 = .ok (.iaload, 1) := by decide +kernel
theorem dX6_turnBack_88 : decode cX6_turnBack 88 = .ok (.aload_n 0, 1) := by decide +kernel
theorem dX6_turnBack_89 : decode cX6_turnBack 89 = .ok (.getfield 30, 3) := by decide +kernel
theorem dX6_turnBack_92 : decode cX6_turnBack 92 = .ok (.iload 4, 2) := by decide +kernel
theorem dX6_turnBack_94 : decode cX6_turnBack 94 = .ok (.iconst 3, 1) := by decide +kernel
theorem dX6_turnBack_95 : decode cX6_turnBack 95 = .ok (.iload_n 1, 1) := by decide +kernel
theorem dX6_turnBack_96 : decode cX6_turnBack 96 = .ok (.imul, 1) := by decide +kernel
theorem dX6_turnBack_97 : decode cX6_turnBack 97 = .ok (.iadd, 1) := by decide +kernel
theorem dX6_turnBack_98 : decode cX6_turnBack 98 = .ok (.iaload, 1) := by decide +kernel
theorem dX6_turnBack_99 : decode cX6_turnBack 99 = .ok (.iconst 1, 1) := by decide +kernel
theorem dX6_turnBack_100 : decode cX6_turnBack 100 = .ok (.ishr, 1) := by decide +kernel
theorem dX6_turnBack_101 : decode cX6_turnBack 101 = .ok (.iadd, 1) := by decide +kernel
theorem dX6_turnBack_102 : decode cX6_turnBack 102 = .ok (.istore 8, 2) := by decide +kernel
theorem dX6_turnBack_104 : decode cX6_turnBack 104 = .ok (.aload_n 0, 1) := by decide +kernel
theorem dX6_turnBack_105 : decode cX6_turnBack 105 = .ok (.getfield 30, 3) := by decide +kernel
theorem dX6_turnBack_108 : decode cX6_turnBack 108 = .ok (.iload 4, 2) := by decide +kernel
theorem dX6_turnBack_110 : decode cX6_turnBack 110 = .ok (.iload 5, 2) := by decide +kernel
theorem dX6_turnBack_112 : decode cX6_turnBack 112 = .ok (.iload 8, 2) := by decide +kernel
theorem dX6_turnBack_114 : decode cX6_turnBack 114 = .ok (.iadd, 1) := by decide +kernel
theorem dX6_turnBack_115 : decode cX6_turnBack 115 = .ok (.iastore, 1) := by decide +kernel
theorem dX6_turnBack_116 : decode cX6_turnBack 116 = .ok (.aload_n 0, 1) := by decide +kernel
theorem dX6_turnBack_117 : decode cX6_turnBack 117 = .ok (.getfield 30, 3) := by decide +kernel
theorem dX6_turnBack_120 : decode cX6_turnBack 120 = .ok (.iload 4, 2) := by decide +kernel
theorem dX6_turnBack_122 : decode cX6_turnBack 122 = .ok (.iload_n 1, 1) := by decide +kernel
theorem dX6_turnBack_123 : decode cX6_turnBack 123 = .ok (.iadd, 1) := by decide +kernel
theorem dX6_turnBack_124 : decode cX6_turnBack 124 = .ok (.iload 6, 2) := by decide +kernel
theorem dX6_turnBack_126 : decode cX6_turnBack 126 = .ok (.iload 7, 2) := by decide +kernel
theorem dX6_turnBack_128 : decode cX6_turnBack 128 = .ok (.iadd, 1) := by decide +kernel
theorem dX6_turnBack_129 : decode cX6_turnBack 129 = .ok (.iastore, 1) := by decide +kernel
theorem dX6_turnBack_130 : decode cX6_turnBack 130 = .ok (.aload_n 0, 1) := by decide +kernel
theorem dX6_turnBack_131 : decode cX6_turnBack 131 = .ok (.getfield 30, 3) := by decide +kernel
theorem dX6_turnBack_134 : decode cX6_turnBack 134 = .ok (.iload 4, 2) := by decide +kernel
theorem dX6_turnBack_136 : decode cX6_turnBack 136 = .ok (.iconst 2, 1) := by decide +kernel
theorem dX6_turnBack_137 : decode cX6_turnBack 137 = .ok (.iload_n 1, 1) := by decide +kernel
theorem dX6_turnBack_138 : decode cX6_turnBack 138 = .ok (.imul, 1) := by decide +kernel
theorem dX6_turnBack_139 : decode cX6_turnBack 139 = .ok (.iadd, 1) := by decide +kernel
theorem dX6_turnBack_140 : decode cX6_turnBack 140 = .ok (.iload 6, 2) := by decide +kernel
theorem dX6_turnBack_142 : decode cX6_turnBack 142 = .ok (.iload 7, 2) := by decide +kernel
theorem dX6_turnBack_144 : decode cX6_turnBack 144 = .ok (.isub, 1) := by decide +kernel
theorem dX6_turnBack_145 : decode cX6_turnBack 145 = .ok (.iastore, 1) := by decide +kernel
theorem dX6_turnBack_146 : decode cX6_turnBack 146 = .ok (.aload_n 0, 1) := by decide +kernel
theorem dX6_turnBack_147 : decode cX6_turnBack 147 = .ok (.getfield 30, 3) := by decide +kernel
theorem dX6_turnBack_150 : decode cX6_turnBack 150 = .ok (.iload 4, 2) := by decide +kernel
theorem dX6_turnBack_152 : decode cX6_turnBack 152 = .ok (.iconst 3, 1) := by decide +kernel
theorem dX6_turnBack_153 : decode cX6_turnBack 153 = .ok (.iload_n 1, 1) := by decide +kernel
theorem dX6_turnBack_154 : decode cX6_turnBack 154 = .ok (.imul, 1) := by decide +kernel
theorem dX6_turnBack_155 : decode cX6_turnBack 155 = .ok (.iadd, 1) := by decide +kernel
theorem dX6_turnBack_156 : decode cX6_turnBack 156 = .ok (.iload 5, 2) := by decide +kernel
theorem dX6_turnBack_158 : decode cX6_turnBack 158 = .ok (.iload 8, 2) := by decide +kernel
theorem dX6_turnBack_160 : decode cX6_turnBack 160 = .ok (.isub, 1) := by decide +kernel
theorem dX6_turnBack_161 : decode cX6_turnBack 161 = .ok (.iastore, 1) := by decide +kernel
theorem dX6_turnBack_162 : decode cX6_turnBack 162 = .ok (.iinc 3 1, 3) := by decide +kernel
theorem dX6_turnBack_165 : decode cX6_turnBack 165 = .ok (.goto (-163), 3) := by decide +kernel
theorem dX6_turnBack_168 : decode cX6_turnBack 168 = .ok (.return_, 1) := by decide +kernel
def FX6_turnBack (G : GG) (M : DD) (a : Nat) (p0 : Int32) (p1 : Int32) : Option (DD) :=
  bnd (itr (fun (s2 : Int32 × DD) => ((if ((4 : Int32)) ≤ s2.1 then (some (.inr (s2.1, s2.2))) else
  (ltt ((s2.1 * p1)) fun x6 =>
  dr G 13 ((s2.2.2 a 6)) fun b7 =>
  chk (¬ (x6 < 0 ∨ G.2.2 b7 ≤ x6.toNatClampNeg)) <|
  ltt (s2.2.1 b7 x6.toNatClampNeg) fun x8 =>
  ltt ((((2 : Int32)) * p0)) fun x9 =>
  ltt ((x6 + x9)) fun x10 =>
  chk (¬ (x10 < 0 ∨ G.2.2 b7 ≤ x10.toNatClampNeg)) <|
  ltt (s2.2.1 b7 x10.toNatClampNeg) fun x11 =>
  ltt ((x8 + x11)) fun x12 =>
  chk (¬ (x6 < 0 ∨ G.2.2 b7 ≤ x6.toNatClampNeg)) <|
  ltt (s2.2.1 b7 x6.toNatClampNeg) fun x13 =>
  ltt ((((2 : Int32)) * p0)) fun x14 =>
  ltt ((x6 + x14)) fun x15 =>
  chk (¬ (x15 < 0 ∨ G.2.2 b7 ≤ x15.toNatClampNeg)) <|
  ltt (s2.2.1 b7 x15.toNatClampNeg) fun x16 =>
  ltt ((x13 - x16)) fun x17 =>
  ltt ((x6 + p0)) fun x18 =>
  chk (¬ (x18 < 0 ∨ G.2.2 b7 ≤ x18.toNatClampNeg)) <|
  ltt (s2.2.1 b7 x18.toNatClampNeg) fun x19 =>
  ltt ((x19 >>> (((1 : Int32)) &&& 31))) fun x20 =>
  ltt ((((3 : Int32)) * p0)) fun x21 =>
  ltt ((x6 + x21)) fun x22 =>
  chk (¬ (x22 < 0 ∨ G.2.2 b7 ≤ x22.toNatClampNeg)) <|
  ltt (s2.2.1 b7 x22.toNatClampNeg) fun x23 =>
  ltt ((x20 - x23)) fun x24 =>
  ltt ((x6 + p0)) fun x25 =>
  chk (¬ (x25 < 0 ∨ G.2.2 b7 ≤ x25.toNatClampNeg)) <|
  ltt (s2.2.1 b7 x25.toNatClampNeg) fun x26 =>
  ltt ((((3 : Int32)) * p0)) fun x27 =>
  ltt ((x6 + x27)) fun x28 =>
  chk (¬ (x28 < 0 ∨ G.2.2 b7 ≤ x28.toNatClampNeg)) <|
  ltt (s2.2.1 b7 x28.toNatClampNeg) fun x29 =>
  ltt ((x29 >>> (((1 : Int32)) &&& 31))) fun x30 =>
  ltt ((x26 + x30)) fun x31 =>
  ltt ((x12 + x31)) fun x32 =>
  chk (¬ (x6 < 0 ∨ G.2.2 b7 ≤ x6.toNatClampNeg)) <|
  ltt (uI s2.2 b7 x6.toNatClampNeg x32) fun M33 =>
  ltt ((x6 + p0)) fun x34 =>
  ltt ((x17 + x24)) fun x35 =>
  dr G 13 ((M33.2 a 6)) fun b36 =>
  chk (¬ (x34 < 0 ∨ G.2.2 b36 ≤ x34.toNatClampNeg)) <|
  ltt (uI M33 b36 x34.toNatClampNeg x35) fun M37 =>
  ltt ((((2 : Int32)) * p0)) fun x38 =>
  ltt ((x6 + x38)) fun x39 =>
  ltt ((x17 - x24)) fun x40 =>
  dr G 13 ((M37.2 a 6)) fun b41 =>
  chk (¬ (x39 < 0 ∨ G.2.2 b41 ≤ x39.toNatClampNeg)) <|
  ltt (uI M37 b41 x39.toNatClampNeg x40) fun M42 =>
  ltt ((((3 : Int32)) * p0)) fun x43 =>
  ltt ((x6 + x43)) fun x44 =>
  ltt ((x12 - x31)) fun x45 =>
  dr G 13 ((M42.2 a 6)) fun b46 =>
  chk (¬ (x44 < 0 ∨ G.2.2 b46 ≤ x44.toNatClampNeg)) <|
  ltt (uI M42 b46 x44.toNatClampNeg x45) fun M47 =>
  ltt (s2.1 + (1 : Int32)) fun x48 =>
  some (.inl (x48, M47)))) : Option ((Int32 × DD) ⊕ (Int32 × DD)))) 1000000 ((0 : Int32), M)) fun (y1 : Int32 × DD) =>
  some y1.2
set_option maxHeartbeats 4000000 in
set_option maxRecDepth 100000 in
theorem kX6_turnBack (l : Launch) (D : va_G) (ct : CT) (ad : Nat → Nat) (Z : Nat → Nat) (G : GG) (M : DD) (sz : Nat) (a : Nat) (p0 : Int32) (p1 : Int32) (y : DD) (hc : a < G.1) (hk : G.2.1 a = 6) (hF : FX6_turnBack G M a p0 p1 = some y) : Met l yX6_turnBack wuX6_turnBack ({ frames := 0, cells := 0, slots := 0, locals := 0 }) (va_Pc [.ref (ad a), .int p0, .int p1] (kB D ct ad Z G M sz)) (va_Qv (fun (_ : Unit) => True) (fun _ t => kE D ct ad G (wA ad G sz) y t) (wA ad G sz)) 0 0 (wA ad G sz) := by
  refine Met.ofW (cc := cX6_turnBack) (maxL := 9) (ret := none) (by decide) rfl ?_
  intro p e s m args below meth c s₁ B hml hv
  obtain ⟨rfl, hsz, hP, hK, hD0, hZ, hN⟩ := hv
  have hx := B.exec
  have hb := B.bytes
  have hr := B.returns
  have hts := atoms_spec (ws := wuX6_turnBack) B.pre
  have hown : s.vm.findClass RX6 = some m.cls := findClass_of_methodNamed B.named
  have hlocks := B.notSynchronized
  subst hsz
  have hD := wD_self (sz := s.heap.size) hD0
  have hA9 : ∀ q, s.heap.size ≤ q → wA ad G s.heap.size q := fun q h => Or.inr h
  generalize hAe : wA ad G s.heap.size = A at hD hA9 hZ ⊢
  have hS : va_S A s.heap s.heap [] := va_S.rf
  have hl := lv_entry ([.ref (ad a), .int p0, .int p1]) (n := 9) (Nat.le_of_ble_eq_true rfl)
  rw [lg_entry_eq]
  generalize (lg_sl ([.ref (ad a), .int p0, .int p1]) ++ List.replicate (9 - (lg_sl ([.ref (ad a), .int p0, .int p1])).length) Slot.unset).toArray = ls at hl ⊢
  have hl : lv_has ls 9 [(0, .ref (ad a)), (1, .int p0), (2, .int p1)] := hl
  unfold FX6_turnBack at hF
  refine lv_iconst (v := (0 : Int32)) hx hb dX6_turnBack_0 (by decide) ?_
  refine lv_istore_n (lv' := [(3, .int (0 : Int32)), (0, .ref (ad a)), (1, .int p0), (2, .int p1)]) hx hb dX6_turnBack_1 rfl hl (by decide) rfl (fun ls hl => ?_)
  obtain ⟨y1, hy1, hF⟩ := bnd_some hF
  have K1 : ∀ (H : Heap) (locs : List Loc) (ls : Array Slot), va_P D classes (wld ct ad G y1.2) H → va_D A (wld ct ad G y1.2) → va_S A s.heap H locs → lv_has ls 9 [(3, .int y1.1), (0, .ref (ad a)), (1, .int p0), (2, .int p1)] → W p l e (headSpec wuX6_turnBack ({ frames := 0, cells := 0, slots := 0, locals := 0 })).room s m ([.ref (ad a), .int p0, .int p1] : List Value).toArray below meth c H locs 0 0 (MQ below (va_Qv (fun (_ : Unit) => True) (fun _ t => kE D ct ad G A y t) A) ([.ref (ad a), .int p0, .int p1] : List Value).toArray s 0 0 A) (F0 m 168 ls []) := by
    intro H locs ls hP hD hS hl
    obtain rfl := Option.some.inj hF
    exact W.vret hx hb hr (fun t ht hW => ⟨⟨(), rfl, trivial, ⟨by rw [ht]; exact hP, va_K.moved hW.alike hK, hD⟩⟩, hS.F ht⟩) hS.2.2 dX6_turnBack_168
  clear hF
  refine itr_rule (fun (s2 : Int32 × DD) => ∀ (H : Heap) (locs : List Loc) (ls : Array Slot), va_P D classes (wld ct ad G s2.2) H → va_D A (wld ct ad G s2.2) → va_S A s.heap H locs → lv_has ls 9 [(3, .int s2.1), (0, .ref (ad a)), (1, .int p0), (2, .int p1)] → W p l e (headSpec wuX6_turnBack ({ frames := 0, cells := 0, slots := 0, locals := 0 })).room s m ([.ref (ad a), .int p0, .int p1] : List Value).toArray below meth c H locs 0 0 (MQ below (va_Qv (fun (_ : Unit) => True) (fun _ t => kE D ct ad G A y t) A) ([.ref (ad a), .int p0, .int p1] : List Value).toArray s 0 0 A) (F0 m 2 ls [])) ?_ _ _ hy1 _ _ _ hP hD hS (lv_sub hl [0, 1, 2, 3] rfl)
  rintro s2 ⟨z4, hF, hwz4⟩ H locs ls hP hD hS hl
  try dsimp only at hF
  refine lv_iload_n hx hb dX6_turnBack_2 rfl (lv_at hl 0 rfl) ?_
  refine lv_iconst (v := (4 : Int32)) hx hb dX6_turnBack_3 (by decide) ?_
  refine lv_icmp_ge (tgt := 168) hx hb dX6_turnBack_4 (by decide) (fun c5 => ?_) (fun c5 => ?_)
  · rw [if_pos c5] at hF
    obtain rfl := Option.some.inj hF
    subst hwz4
    exact K1 _ _ _ hP hD hS (lv_sub hl [0, 1, 2, 3] rfl)
  · rw [if_neg c5] at hF
    refine lv_iload_n hx hb dX6_turnBack_7 rfl (lv_at hl 0 rfl) ?_
    refine lv_iload_n hx hb dX6_turnBack_8 rfl (lv_at hl 3 rfl) ?_
    refine lv_imul hx hb dX6_turnBack_9 ?_
    obtain ⟨x6, ex6, hF⟩ := ltt_some hF
    refine lv_topi (fun zx6 ezx6 => ?_)
    obtain rfl : x6 = zx6 := ex6.trans ezx6.symm
    refine lv_istore (lv' := [(4, .int x6), (3, .int s2.1), (0, .ref (ad a)), (1, .int p0), (2, .int p1)]) hx hb dX6_turnBack_10 hl (by decide) rfl (fun ls hl => ?_)
    refine lv_aload_n hx hb dX6_turnBack_12 rfl (lv_at hl 2 rfl) ?_
    refine va_get (D := D) (ci := 6) (v := va_re ad (s2.2.2 a 6)) (C := RX6) (T := TX6) (N := 14) hx hb hts (mus hf_X6) hown hK hP a (wld_o ct ad G s2.2 hc hk (by decide)) rfl 6 (by decide) (hts (.fieldLink RX6 30 "VideoSuite$Samples" "rest" "[I") (mu mw_542)) (fun _ h9 => h9) rfl dX6_turnBack_13 ?_
    refine lv_iload hx hb dX6_turnBack_16 (lv_at hl 0 rfl) ?_
    obtain ⟨b7, ho7, hc7, hk7, hF⟩ := dr_some hF
    refine W_st (st' := [.int x6, .ref (ad b7)]) (by rw [va_some ho7]) ?_
    obtain ⟨hvc, hF⟩ := chk_some hF
    refine va_iald hx hb hK hP b7 1 (wld_i ct ad G s2.2 hc7 hk7) rfl hvc dX6_turnBack_18 ?_
    obtain ⟨x8, ex8, hF⟩ := ltt_some hF
    refine lv_topi (fun zx8 ezx8 => ?_)
    obtain rfl : x8 = zx8 := ex8.trans ezx8.symm
    refine lv_aload_n hx hb dX6_turnBack_19 rfl (lv_at hl 2 rfl) ?_
    refine va_get (D := D) (ci := 6) (v := va_re ad (s2.2.2 a 6)) (C := RX6) (T := TX6) (N := 14) hx hb hts (mus hf_X6) hown hK hP a (wld_o ct ad G s2.2 hc hk (by decide)) rfl 6 (by decide) (hts (.fieldLink RX6 30 "VideoSuite$Samples" "rest" "[I") (mu mw_542)) (fun _ h9 => h9) rfl dX6_turnBack_20 ?_
    refine lv_iload hx hb dX6_turnBack_23 (lv_at hl 0 rfl) ?_
    refine lv_iconst (v := (2 : Int32)) hx hb dX6_turnBack_25 (by decide) ?_
    refine lv_iload_n hx hb dX6_turnBack_26 rfl (lv_at hl 3 rfl) ?_
    refine lv_imul hx hb dX6_turnBack_27 ?_
    obtain ⟨x9, ex9, hF⟩ := ltt_some hF
    refine lv_topi (fun zx9 ezx9 => ?_)
    obtain rfl : x9 = zx9 := ex9.trans ezx9.symm
    refine lv_iadd hx hb dX6_turnBack_28 ?_
    obtain ⟨x10, ex10, hF⟩ := ltt_some hF
    refine lv_topi (fun zx10 ezx10 => ?_)
    obtain rfl : x10 = zx10 := ex10.trans ezx10.symm
    refine W_st (st' := [.int x10, .ref (ad b7), .int x8]) (by rw [va_some ho7]) ?_
    obtain ⟨hvc, hF⟩ := chk_some hF
    refine va_iald hx hb hK hP b7 1 (wld_i ct ad G s2.2 hc7 hk7) rfl hvc dX6_turnBack_29 ?_
    obtain ⟨x11, ex11, hF⟩ := ltt_some hF
    refine lv_topi (fun zx11 ezx11 => ?_)
    obtain rfl : x11 = zx11 := ex11.trans ezx11.symm
    refine lv_iadd hx hb dX6_turnBack_30 ?_
    obtain ⟨x12, ex12, hF⟩ := ltt_some hF
    refine lv_topi (fun zx12 ezx12 => ?_)
    obtain rfl : x12 = zx12 := ex12.trans ezx12.symm
    refine lv_istore (lv' := [(5, .int x12), (4, .int x6), (3, .int s2.1), (0, .ref (ad a)), (1, .int p0), (2, .int p1)]) hx hb dX6_turnBack_31 hl (by decide) rfl (fun ls hl => ?_)
    refine lv_aload_n hx hb dX6_turnBack_33 rfl (lv_at hl 3 rfl) ?_
    refine va_get (D := D) (ci := 6) (v := va_re ad (s2.2.2 a 6)) (C := RX6) (T := TX6) (N := 14) hx hb hts (mus hf_X6) hown hK hP a (wld_o ct ad G s2.2 hc hk (by decide)) rfl 6 (by decide) (hts (.fieldLink RX6 30 "VideoSuite$Samples" "rest" "[I") (mu mw_542)) (fun _ h9 => h9) rfl dX6_turnBack_34 ?_
    refine lv_iload hx hb dX6_turnBack_37 (lv_at hl 1 rfl) ?_
    refine W_st (st' := [.int x6, .ref (ad b7)]) (by rw [va_some ho7]) ?_
    obtain ⟨hvc, hF⟩ := chk_some hF
    refine va_iald hx hb hK hP b7 1 (wld_i ct ad G s2.2 hc7 hk7) rfl hvc dX6_turnBack_39 ?_
    obtain ⟨x13, ex13, hF⟩ := ltt_some hF
    refine lv_topi (fun zx13 ezx13 => ?_)
    obtain rfl : x13 = zx13 := ex13.trans ezx13.symm
    refine lv_aload_n hx hb dX6_turnBack_40 rfl (lv_at hl 3 rfl) ?_
    refine va_get (D := D) (ci := 6) (v := va_re ad (s2.2.2 a 6)) (C := RX6) (T := TX6) (N := 14) hx hb hts (mus hf_X6) hown hK hP a (wld_o ct ad G s2.2 hc hk (by decide)) rfl 6 (by decide) (hts (.fieldLink RX6 30 "VideoSuite$Samples" "rest" "[I") (mu mw_542)) (fun _ h9 => h9) rfl dX6_turnBack_41 ?_
    refine lv_iload hx hb dX6_turnBack_44 (lv_at hl 1 rfl) ?_
    refine lv_iconst (v := (2 : Int32)) hx hb dX6_turnBack_46 (by decide) ?_
    refine lv_iload_n hx hb dX6_turnBack_47 rfl (lv_at hl 4 rfl) ?_
    refine lv_imul hx hb dX6_turnBack_48 ?_
    obtain ⟨x14, ex14, hF⟩ := ltt_some hF
    refine lv_topi (fun zx14 ezx14 => ?_)
    obtain rfl : x14 = zx14 := ex14.trans ezx14.symm
    refine lv_iadd hx hb dX6_turnBack_49 ?_
    obtain ⟨x15, ex15, hF⟩ := ltt_some hF
    refine lv_topi (fun zx15 ezx15 => ?_)
    obtain rfl : x15 = zx15 := ex15.trans ezx15.symm
    refine W_st (st' := [.int x15, .ref (ad b7), .int x13]) (by rw [va_some ho7]) ?_
    obtain ⟨hvc, hF⟩ := chk_some hF
    refine va_iald hx hb hK hP b7 1 (wld_i ct ad G s2.2 hc7 hk7) rfl hvc dX6_turnBack_50 ?_
    obtain ⟨x16, ex16, hF⟩ := ltt_some hF
    refine lv_topi (fun zx16 ezx16 => ?_)
    obtain rfl : x16 = zx16 := ex16.trans ezx16.symm
    refine lv_isub hx hb dX6_turnBack_51 ?_
    obtain ⟨x17, ex17, hF⟩ := ltt_some hF
    refine lv_topi (fun zx17 ezx17 => ?_)
    obtain rfl : x17 = zx17 := ex17.trans ezx17.symm
    refine lv_istore (lv' := [(6, .int x17), (5, .int x12), (4, .int x6), (3, .int s2.1), (0, .ref (ad a)), (1, .int p0), (2, .int p1)]) hx hb dX6_turnBack_52 hl (by decide) rfl (fun ls hl => ?_)
    refine lv_aload_n hx hb dX6_turnBack_54 rfl (lv_at hl 4 rfl) ?_
    refine va_get (D := D) (ci := 6) (v := va_re ad (s2.2.2 a 6)) (C := RX6) (T := TX6) (N := 14) hx hb hts (mus hf_X6) hown hK hP a (wld_o ct ad G s2.2 hc hk (by decide)) rfl 6 (by decide) (hts (.fieldLink RX6 30 "VideoSuite$Samples" "rest" "[I") (mu mw_542)) (fun _ h9 => h9) rfl dX6_turnBack_55 ?_
    refine lv_iload hx hb dX6_turnBack_58 (lv_at hl 2 rfl) ?_
    refine lv_iload_n hx hb dX6_turnBack_60 rfl (lv_at hl 5 rfl) ?_
    refine lv_iadd hx hb dX6_turnBack_61 ?_
    obtain ⟨x18, ex18, hF⟩ := ltt_some hF
    refine lv_topi (fun zx18 ezx18 => ?_)
    obtain rfl : x18 = zx18 := ex18.trans ezx18.symm
    refine W_st (st' := [.int x18, .ref (ad b7)]) (by rw [va_some ho7]) ?_
    obtain ⟨hvc, hF⟩ := chk_some hF
    refine va_iald hx hb hK hP b7 1 (wld_i ct ad G s2.2 hc7 hk7) rfl hvc dX6_turnBack_62 ?_
    obtain ⟨x19, ex19, hF⟩ := ltt_some hF
    refine lv_topi (fun zx19 ezx19 => ?_)
    obtain rfl : x19 = zx19 := ex19.trans ezx19.symm
    refine lv_iconst (v := (1 : Int32)) hx hb dX6_turnBack_63 (by decide) ?_
    refine lv_ishr hx hb dX6_turnBack_64 ?_
    obtain ⟨x20, ex20, hF⟩ := ltt_some hF
    refine lv_topi (fun zx20 ezx20 => ?_)
    obtain rfl : x20 = zx20 := ex20.trans ezx20.symm
    refine lv_aload_n hx hb dX6_turnBack_65 rfl (lv_at hl 4 rfl) ?_
    refine va_get (D := D) (ci := 6) (v := va_re ad (s2.2.2 a 6)) (C := RX6) (T := TX6) (N := 14) hx hb hts (mus hf_X6) hown hK hP a (wld_o ct ad G s2.2 hc hk (by decide)) rfl 6 (by decide) (hts (.fieldLink RX6 30 "VideoSuite$Samples" "rest" "[I") (mu mw_542)) (fun _ h9 => h9) rfl dX6_turnBack_66 ?_
    refine lv_iload hx hb dX6_turnBack_69 (lv_at hl 2 rfl) ?_
    refine lv_iconst (v := (3 : Int32)) hx hb dX6_turnBack_71 (by decide) ?_
    refine lv_iload_n hx hb dX6_turnBack_72 rfl (lv_at hl 5 rfl) ?_
    refine lv_imul hx hb dX6_turnBack_73 ?_
    obtain ⟨x21, ex21, hF⟩ := ltt_some hF
    refine lv_topi (fun zx21 ezx21 => ?_)
    obtain rfl : x21 = zx21 := ex21.trans ezx21.symm
    refine lv_iadd hx hb dX6_turnBack_74 ?_
    obtain ⟨x22, ex22, hF⟩ := ltt_some hF
    refine lv_topi (fun zx22 ezx22 => ?_)
    obtain rfl : x22 = zx22 := ex22.trans ezx22.symm
    refine W_st (st' := [.int x22, .ref (ad b7), .int x20]) (by rw [va_some ho7]) ?_
    obtain ⟨hvc, hF⟩ := chk_some hF
    refine va_iald hx hb hK hP b7 1 (wld_i ct ad G s2.2 hc7 hk7) rfl hvc dX6_turnBack_75 ?_
    obtain ⟨x23, ex23, hF⟩ := ltt_some hF
    refine lv_topi (fun zx23 ezx23 => ?_)
    obtain rfl : x23 = zx23 := ex23.trans ezx23.symm
    refine lv_isub hx hb dX6_turnBack_76 ?_
    obtain ⟨x24, ex24, hF⟩ := ltt_some hF
    refine lv_topi (fun zx24 ezx24 => ?_)
    obtain rfl : x24 = zx24 := ex24.trans ezx24.symm
    refine lv_istore (lv' := [(7, .int x24), (6, .int x17), (5, .int x12), (4, .int x6), (3, .int s2.1), (0, .ref (ad a)), (1, .int p0), (2, .int p1)]) hx hb dX6_turnBack_77 hl (by decide) rfl (fun ls hl => ?_)
    refine lv_aload_n hx hb dX6_turnBack_79 rfl (lv_at hl 5 rfl) ?_
    refine va_get (D := D) (ci := 6) (v := va_re ad (s2.2.2 a 6)) (C := RX6) (T := TX6) (N := 14) hx hb hts (mus hf_X6) hown hK hP a (wld_o ct ad G s2.2 hc hk (by decide)) rfl 6 (by decide) (hts (.fieldLink RX6 30 "VideoSuite$Samples" "rest" "[I") (mu mw_542)) (fun _ h9 => h9) rfl dX6_turnBack_80 ?_
    refine lv_iload hx hb dX6_turnBack_83 (lv_at hl 3 rfl) ?_
    refine lv_iload_n hx hb dX6_turnBack_85 rfl (lv_at hl 6 rfl) ?_
    refine lv_iadd hx hb dX6_turnBack_86 ?_
    obtain ⟨x25, ex25, hF⟩ := ltt_some hF
    refine lv_topi (fun zx25 ezx25 => ?_)
    obtain rfl : x25 = zx25 := ex25.trans ezx25.symm
    refine W_st (st' := [.int x25, .ref (ad b7)]) (by rw [va_some ho7]) ?_
    obtain ⟨hvc, hF⟩ := chk_some hF
    refine va_iald hx hb hK hP b7 1 (wld_i ct ad G s2.2 hc7 hk7) rfl hvc dX6_turnBack_87 ?_
    obtain ⟨x26, ex26, hF⟩ := ltt_some hF
    refine lv_topi (fun zx26 ezx26 => ?_)
    obtain rfl : x26 = zx26 := ex26.trans ezx26.symm
    refine lv_aload_n hx hb dX6_turnBack_88 rfl (lv_at hl 5 rfl) ?_
    refine va_get (D := D) (ci := 6) (v := va_re ad (s2.2.2 a 6)) (C := RX6) (T := TX6) (N := 14) hx hb hts (mus hf_X6) hown hK hP a (wld_o ct ad G s2.2 hc hk (by decide)) rfl 6 (by decide) (hts (.fieldLink RX6 30 "VideoSuite$Samples" "rest" "[I") (mu mw_542)) (fun _ h9 => h9) rfl dX6_turnBack_89 ?_
    refine lv_iload hx hb dX6_turnBack_92 (lv_at hl 3 rfl) ?_
    refine lv_iconst (v := (3 : Int32)) hx hb dX6_turnBack_94 (by decide) ?_
    refine lv_iload_n hx hb dX6_turnBack_95 rfl (lv_at hl 6 rfl) ?_
    refine lv_imul hx hb dX6_turnBack_96 ?_
    obtain ⟨x27, ex27, hF⟩ := ltt_some hF
    refine lv_topi (fun zx27 ezx27 => ?_)
    obtain rfl : x27 = zx27 := ex27.trans ezx27.symm
    refine lv_iadd hx hb dX6_turnBack_97 ?_
    obtain ⟨x28, ex28, hF⟩ := ltt_some hF
    refine lv_topi (fun zx28 ezx28 => ?_)
    obtain rfl : x28 = zx28 := ex28.trans ezx28.symm
    refine W_st (st' := [.int x28, .ref (ad b7), .int x26]) (by rw [va_some ho7]) ?_
    obtain ⟨hvc, hF⟩ := chk_some hF
    refine va_iald hx hb hK hP b7 1 (wld_i ct ad G s2.2 hc7 hk7) rfl hvc dX6_turnBack_98 ?_
    obtain ⟨x29, ex29, hF⟩ := ltt_some hF
    refine lv_topi (fun zx29 ezx29 => ?_)
    obtain rfl : x29 = zx29 := ex29.trans ezx29.symm
    refine lv_iconst (v := (1 : Int32)) hx hb dX6_turnBack_99 (by decide) ?_
    refine lv_ishr hx hb dX6_turnBack_100 ?_
    obtain ⟨x30, ex30, hF⟩ := ltt_some hF
    refine lv_topi (fun zx30 ezx30 => ?_)
    obtain rfl : x30 = zx30 := ex30.trans ezx30.symm
    refine lv_iadd hx hb dX6_turnBack_101 ?_
    obtain ⟨x31, ex31, hF⟩ := ltt_some hF
    refine lv_topi (fun zx31 ezx31 => ?_)
    obtain rfl : x31 = zx31 := ex31.trans ezx31.symm
    refine lv_istore (lv' := [(8, .int x31), (7, .int x24), (6, .int x17), (5, .int x12), (4, .int x6), (3, .int s2.1), (0, .ref (ad a)), (1, .int p0), (2, .int p1)]) hx hb dX6_turnBack_102 hl (by decide) rfl (fun ls hl => ?_)
    refine lv_aload_n hx hb dX6_turnBack_104 rfl (lv_at hl 6 rfl) ?_
    refine va_get (D := D) (ci := 6) (v := va_re ad (s2.2.2 a 6)) (C := RX6) (T := TX6) (N := 14) hx hb hts (mus hf_X6) hown hK hP a (wld_o ct ad G s2.2 hc hk (by decide)) rfl 6 (by decide) (hts (.fieldLink RX6 30 "VideoSuite$Samples" "rest" "[I") (mu mw_542)) (fun _ h9 => h9) rfl dX6_turnBack_105 ?_
    refine lv_iload hx hb dX6_turnBack_108 (lv_at hl 4 rfl) ?_
    refine lv_iload hx hb dX6_turnBack_110 (lv_at hl 3 rfl) ?_
    refine lv_iload hx hb dX6_turnBack_112 (lv_at hl 0 rfl) ?_
    refine lv_iadd hx hb dX6_turnBack_114 ?_
    obtain ⟨x32, ex32, hF⟩ := ltt_some hF
    refine lv_topi (fun zx32 ezx32 => ?_)
    obtain rfl : x32 = zx32 := ex32.trans ezx32.symm
    refine W_st (st' := [.int x32, .int x6, .ref (ad b7)]) (by rw [va_some ho7]) ?_
    obtain ⟨hvc, hF⟩ := chk_some hF
    refine va_iast hx hb hK hP hD hS b7 1 (wld_i ct ad G s2.2 hc7 hk7) rfl hvc dX6_turnBack_115 (fun H locs hP hD hS => ?_)
    obtain ⟨M33, eM33, hF⟩ := ltt_some hF
    rw [set_i ct ad G s2.2 hc7 hk7, ← eM33] at hP hD
    refine lv_aload_n hx hb dX6_turnBack_116 rfl (lv_at hl 6 rfl) ?_
    refine va_get (D := D) (ci := 6) (v := va_re ad (M33.2 a 6)) (C := RX6) (T := TX6) (N := 14) hx hb hts (mus hf_X6) hown hK hP a (wld_o ct ad G M33 hc hk (by decide)) rfl 6 (by decide) (hts (.fieldLink RX6 30 "VideoSuite$Samples" "rest" "[I") (mu mw_542)) (fun _ h9 => h9) rfl dX6_turnBack_117 ?_
    refine lv_iload hx hb dX6_turnBack_120 (lv_at hl 4 rfl) ?_
    refine lv_iload_n hx hb dX6_turnBack_122 rfl (lv_at hl 7 rfl) ?_
    refine lv_iadd hx hb dX6_turnBack_123 ?_
    obtain ⟨x34, ex34, hF⟩ := ltt_some hF
    refine lv_topi (fun zx34 ezx34 => ?_)
    obtain rfl : x34 = zx34 := ex34.trans ezx34.symm
    refine lv_iload hx hb dX6_turnBack_124 (lv_at hl 2 rfl) ?_
    refine lv_iload hx hb dX6_turnBack_126 (lv_at hl 1 rfl) ?_
    refine lv_iadd hx hb dX6_turnBack_128 ?_
    obtain ⟨x35, ex35, hF⟩ := ltt_some hF
    refine lv_topi (fun zx35 ezx35 => ?_)
    obtain rfl : x35 = zx35 := ex35.trans ezx35.symm
    obtain ⟨b36, ho36, hc36, hk36, hF⟩ := dr_some hF
    refine W_st (st' := [.int x35, .int x34, .ref (ad b36)]) (by rw [va_some ho36]) ?_
    obtain ⟨hvc, hF⟩ := chk_some hF
    refine va_iast hx hb hK hP hD hS b36 1 (wld_i ct ad G M33 hc36 hk36) rfl hvc dX6_turnBack_129 (fun H locs hP hD hS => ?_)
    obtain ⟨M37, eM37, hF⟩ := ltt_some hF
    rw [set_i ct ad G M33 hc36 hk36, ← eM37] at hP hD
    refine lv_aload_n hx hb dX6_turnBack_130 rfl (lv_at hl 6 rfl) ?_
    refine va_get (D := D) (ci := 6) (v := va_re ad (M37.2 a 6)) (C := RX6) (T := TX6) (N := 14) hx hb hts (mus hf_X6) hown hK hP a (wld_o ct ad G M37 hc hk (by decide)) rfl 6 (by decide) (hts (.fieldLink RX6 30 "VideoSuite$Samples" "rest" "[I") (mu mw_542)) (fun _ h9 => h9) rfl dX6_turnBack_131 ?_
    refine lv_iload hx hb dX6_turnBack_134 (lv_at hl 4 rfl) ?_
    refine lv_iconst (v := (2 : Int32)) hx hb dX6_turnBack_136 (by decide) ?_
    refine lv_iload_n hx hb dX6_turnBack_137 rfl (lv_at hl 7 rfl) ?_
    refine lv_imul hx hb dX6_turnBack_138 ?_
    obtain ⟨x38, ex38, hF⟩ := ltt_some hF
    refine lv_topi (fun zx38 ezx38 => ?_)
    obtain rfl : x38 = zx38 := ex38.trans ezx38.symm
    refine lv_iadd hx hb dX6_turnBack_139 ?_
    obtain ⟨x39, ex39, hF⟩ := ltt_some hF
    refine lv_topi (fun zx39 ezx39 => ?_)
    obtain rfl : x39 = zx39 := ex39.trans ezx39.symm
    refine lv_iload hx hb dX6_turnBack_140 (lv_at hl 2 rfl) ?_
    refine lv_iload hx hb dX6_turnBack_142 (lv_at hl 1 rfl) ?_
    refine lv_isub hx hb dX6_turnBack_144 ?_
    obtain ⟨x40, ex40, hF⟩ := ltt_some hF
    refine lv_topi (fun zx40 ezx40 => ?_)
    obtain rfl : x40 = zx40 := ex40.trans ezx40.symm
    obtain ⟨b41, ho41, hc41, hk41, hF⟩ := dr_some hF
    refine W_st (st' := [.int x40, .int x39, .ref (ad b41)]) (by rw [va_some ho41]) ?_
    obtain ⟨hvc, hF⟩ := chk_some hF
    refine va_iast hx hb hK hP hD hS b41 1 (wld_i ct ad G M37 hc41 hk41) rfl hvc dX6_turnBack_145 (fun H locs hP hD hS => ?_)
    obtain ⟨M42, eM42, hF⟩ := ltt_some hF
    rw [set_i ct ad G M37 hc41 hk41, ← eM42] at hP hD
    refine lv_aload_n hx hb dX6_turnBack_146 rfl (lv_at hl 6 rfl) ?_
    refine va_get (D := D) (ci := 6) (v := va_re ad (M42.2 a 6)) (C := RX6) (T := TX6) (N := 14) hx hb hts (mus hf_X6) hown hK hP a (wld_o ct ad G M42 hc hk (by decide)) rfl 6 (by decide) (hts (.fieldLink RX6 30 "VideoSuite$Samples" "rest" "[I") (mu mw_542)) (fun _ h9 => h9) rfl dX6_turnBack_147 ?_
    refine lv_iload hx hb dX6_turnBack_150 (lv_at hl 4 rfl) ?_
    refine lv_iconst (v := (3 : Int32)) hx hb dX6_turnBack_152 (by decide) ?_
    refine lv_iload_n hx hb dX6_turnBack_153 rfl (lv_at hl 7 rfl) ?_
    refine lv_imul hx hb dX6_turnBack_154 ?_
    obtain ⟨x43, ex43, hF⟩ := ltt_some hF
    refine lv_topi (fun zx43 ezx43 => ?_)
    obtain rfl : x43 = zx43 := ex43.trans ezx43.symm
    refine lv_iadd hx hb dX6_turnBack_155 ?_
    obtain ⟨x44, ex44, hF⟩ := ltt_some hF
    refine lv_topi (fun zx44 ezx44 => ?_)
    obtain rfl : x44 = zx44 := ex44.trans ezx44.symm
    refine lv_iload hx hb dX6_turnBack_156 (lv_at hl 3 rfl) ?_
    refine lv_iload hx hb dX6_turnBack_158 (lv_at hl 0 rfl) ?_
    refine lv_isub hx hb dX6_turnBack_160 ?_
    obtain ⟨x45, ex45, hF⟩ := ltt_some hF
    refine lv_topi (fun zx45 ezx45 => ?_)
    obtain rfl : x45 = zx45 := ex45.trans ezx45.symm
    obtain ⟨b46, ho46, hc46, hk46, hF⟩ := dr_some hF
    refine W_st (st' := [.int x45, .int x44, .ref (ad b46)]) (by rw [va_some ho46]) ?_
    obtain ⟨hvc, hF⟩ := chk_some hF
    refine va_iast hx hb hK hP hD hS b46 1 (wld_i ct ad G M42 hc46 hk46) rfl hvc dX6_turnBack_161 (fun H locs hP hD hS => ?_)
    obtain ⟨M47, eM47, hF⟩ := ltt_some hF
    rw [set_i ct ad G M42 hc46 hk46, ← eM47] at hP hD
    obtain ⟨x48, ex48, hF⟩ := ltt_some hF
    refine lv_iinc (v := x48) (lv' := [(3, .int x48), (8, .int x31), (7, .int x24), (6, .int x17), (5, .int x12), (4, .int x6), (0, .ref (ad a)), (1, .int p0), (2, .int p1)]) hx hb dX6_turnBack_162 hl (k := 5) rfl (by rw [ex48]; rfl) (by decide) rfl (fun ls hl => ?_)
    refine lv_goto (tgt := 2) hx hb dX6_turnBack_165 (by decide) ?_
    obtain rfl := Option.some.inj hF
    exact hwz4 _ _ _ hP hD hS (lv_sub hl [0, 6, 7, 8] rfl)
theorem dX6_turnEven_0 : decode cX6_turnEven 0 = .ok (.iconst 0, 1) := by decide +kernel
theorem dX6_turnEven_1 : decode cX6_turnEven 1 = .ok (.istore_n 1, 1) := by decide +kernel
theorem dX6_turnEven_2 : decode cX6_turnEven 2 = .ok (.iload_n 1, 1) := by decide +kernel
theorem dX6_turnEven_3 : decode cX6_turnEven 3 = .ok (.iconst 2, 1) := by decide +kernel
theorem dX6_turnEven_4 : decode cX6_turnEven 4 = .ok (.if_icmp .ge 191, 3) := by decide +kernel
theorem dX6_turnEven_7 : decode cX6_turnEven 7 = .ok (.iconst 0, 1) := by decide +kernel
theorem dX6_turnEven_8 : decode cX6_turnEven 8 = .ok (.istore_n 2, 1) := by decide +kernel
theorem dX6_turnEven_9 : decode cX6_turnEven 9 = .ok (.iload_n 2, 1) := by decide +kernel
theorem dX6_turnEven_10 : decode cX6_turnEven 10 = .ok (.iconst 4, 1) := by decide +kernel
theorem dX6_turnEven_11 : decode cX6_turnEven 11 = .ok (.if_icmp .ge 178, 3) := by decide +kernel
theorem dX6_turnEven_14 : decode cX6_turnEven 14 = .ok (.iload_n 1, 1) := by decide +kernel
theorem dX6_turnEven_15 : decode cX6_turnEven 15 = .ok (.ifCond .ne 7, 3) := by decide +kernel
theorem dX6_turnEven_18 : decode cX6_turnEven 18 = .ok (.iconst 1, 1) := by decide +kernel
theorem dX6_turnEven_19 : decode cX6_turnEven 19 = .ok (.goto 4, 3) := by decide +kernel
theorem dX6_turnEven_22 : decode cX6_turnEven 22 = .ok (.iconst 4, 1) := by decide +kernel
theorem dX6_turnEven_23 : decode cX6_turnEven 23 = .ok (.istore_n 3, 1) := by decide +kernel
theorem dX6_turnEven_24 : decode cX6_turnEven 24 = .ok (.iload_n 1, 1) := by decide +kernel
theorem dX6_turnEven_25 : decode cX6_turnEven 25 = .ok (.ifCond .ne 9, 3) := by decide +kernel
theorem dX6_turnEven_28 : decode cX6_turnEven 28 = .ok (.iconst 4, 1) := by decide +kernel
theorem dX6_turnEven_29 : decode cX6_turnEven 29 = .ok (.iload_n 2, 1) := by decide +kernel
theorem dX6_turnEven_30 : decode cX6_turnEven 30 = .ok (.imul, 1) := by decide +kernel
theorem dX6_turnEven_31 : decode cX6_turnEven 31 = .ok (.goto 4, 3) := by decide +kernel
theorem dX6_turnEven_34 : decode cX6_turnEven 34 = .ok (.iload_n 2, 1) := by decide +kernel
theorem dX6_turnEven_35 : decode cX6_turnEven 35 = .ok (.istore 4, 2) := by decide +kernel
theorem dX6_turnEven_37 : decode cX6_turnEven 37 = .ok (.aload_n 0, 1) := by decide +kernel
theorem dX6_turnEven_38 : decode cX6_turnEven 38 = .ok (.getfield 33, 3) := by decide +kernel
theorem dX6_turnEven_41 : decode cX6_turnEven 41 = .ok (.iload 4, 2) := by decide +kernel
theorem dX6_turnEven_43 : decode cX6_turnEven 43 = .ok (.iaload, 1) := by decide +kernel
theorem dX6_turnEven_44 : decode cX6_turnEven 44 = .ok (.aload_n 0, 1) := by decide +kernel
theorem dX6_turnEven_45 : decode cX6_turnEven 45 = .ok (.getfield 33, 3) := by decide +kernel
theorem dX6_turnEven_48 : decode cX6_turnEven 48 = .ok (.iload 4, 2) := by decide +kernel
theorem dX6_turnEven_50 : decode cX6_turnEven 50 = .ok (.iload_n 3, 1) := by decide +kernel
theorem dX6_turnEven_51 : decode cX6_turnEven 51 = .ok (.iadd, 1) := by decide +kernel
theorem dX6_turnEven_52 : decode cX6_turnEven 52 = .ok (.iaload, 1) := by decide +kernel
theorem dX6_turnEven_53 : decode cX6_turnEven 53 = .ok (.iadd, 1) := by decide +kernel
theorem dX6_turnEven_54 : decode cX6_turnEven 54 = .ok (.istore 5, 2) := by decide +kernel
theorem dX6_turnEven_56 : decode cX6_turnEven 56 = .ok (.aload_n 0, 1) := by decide +kernel
theorem dX6_turnEven_57 : decode cX6_turnEven 57 = .ok (.getfield 33, 3) := by decide +kernel
theorem dX6_turnEven_60 : decode cX6_turnEven 60 = .ok (.iload 4, 2) := by decide +kernel
theorem dX6_turnEven_62 : decode cX6_turnEven 62 = .ok (.iaload, 1) := by decide +kernel
theorem dX6_turnEven_63 : decode cX6_turnEven 63 = .ok (.aload_n 0, 1) := by decide +kernel
theorem dX6_turnEven_64 : decode cX6_turnEven 64 = .ok (.getfield 33, 3) := by decide +kernel
theorem dX6_turnEven_67 : decode cX6_turnEven 67 = .ok (.iload 4, 2) := by decide +kernel
theorem dX6_turnEven_69 : decode cX6_turnEven 69 = .ok (.iload_n 3, 1) := by decide +kernel
theorem dX6_turnEven_70 : decode cX6_turnEven 70 = .ok (.iadd, 1) := by decide +kernel
theorem dX6_turnEven_71 : decode cX6_turnEven 71 = .ok (.iaload, 1) := by decide +kernel
theorem dX6_turnEven_72 : decode cX6_turnEven 72 = .ok (.isub, 1) := by decide +kernel
theorem dX6_turnEven_73 : decode cX6_turnEven 73 = .ok (.istore 6, 2) := by decide +kernel
theorem dX6_turnEven_75 : decode cX6_turnEven 75 = .ok (.aload_n 0, 1) := by decide +kernel
theorem dX6_turnEven_76 : decode cX6_turnEven 76 = .ok (.getfield 33, 3) := by decide +kernel
theorem dX6_turnEven_79 : decode cX6_turnEven 79 = .ok (.iload 4, 2) := by decide +kernel
theorem dX6_turnEven_81 : decode cX6_turnEven 81 = .ok (.iconst 2, 1) := by decide +kernel
theorem dX6_turnEven_82 : decode cX6_turnEven 82 = .ok (.iload_n 3, 1) := by decide +kernel
theorem dX6_turnEven_83 : decode cX6_turnEven 83 = .ok (.imul, 1) := by decide +kernel
theorem dX6_turnEven_84 : decode cX6_turnEven 84 = .ok (.iadd, 1) := by decide +kernel
theorem dX6_turnEven_85 : decode cX6_turnEven 85 = .ok (.iaload, 1) := by decide +kernel
theorem dX6_turnEven_86 : decode cX6_turnEven 86 = .ok (.aload_n 0, 1) := by decide +kernel
theorem dX6_turnEven_87 : decode cX6_turnEven 87 = .ok (.getfield 33, 3) := by decide +kernel
theorem dX6_turnEven_90 : decode cX6_turnEven 90 = .ok (.iload 4, 2) := by decide +kernel
theorem dX6_turnEven_92 : decode cX6_turnEven 92 = .ok (.iconst 3, 1) := by decide +kernel
theorem dX6_turnEven_93 : decode cX6_turnEven 93 = .ok (.iload_n 3, 1) := by decide +kernel
theorem dX6_turnEven_94 : decode cX6_turnEven 94 = .ok (.imul, 1) := by decide +kernel
theorem dX6_turnEven_95 : decode cX6_turnEven 95 = .ok (.iadd, 1) := by decide +kernel
theorem dX6_turnEven_96 : decode cX6_turnEven 96 = .ok (.iaload, 1) := by decide +kernel
theorem dX6_turnEven_97 : decode cX6_turnEven 97 = .ok (.iadd, 1) := by decide +kernel
theorem dX6_turnEven_98 : decode cX6_turnEven 98 = .ok (.istore 7, 2) := by decide +kernel
theorem dX6_turnEven_100 : decode cX6_turnEven 100 = .ok (.aload_n 0, 1) := by decide +kernel
theorem dX6_turnEven_101 : decode cX6_turnEven 101 = .ok (.getfield 33, 3) := by decide +kernel
theorem dX6_turnEven_104 : decode cX6_turnEven 104 = .ok (.iload 4, 2) := by decide +kernel
theorem dX6_turnEven_106 : decode cX6_turnEven 106 = .ok (.iconst 2, 1) := by decide +kernel
theorem dX6_turnEven_107 : decode cX6_turnEven 107 = .ok (.iload_n 3, 1) := by decide +kernel
theorem dX6_turnEven_108 : decode cX6_turnEven 108 = .ok (.imul, 1) := by decide +kernel
theorem dX6_turnEven_109 : decode cX6_turnEven 109 = .ok (.iadd, 1) := by decide +kernel
theorem dX6_turnEven_110 : decode cX6_turnEven 110 = .ok (.iaload, 1) := by decide +kernel
theorem dX6_turnEven_111 : decode cX6_turnEven 111 = .ok (.aload_n 0, 1) := by decide +kernel
theorem dX6_turnEven_112 : decode cX6_turnEven 112 = .ok (.getfield 33, 3) := by decide +kernel
theorem dX6_turnEven_115 : decode cX6_turnEven 115 = .ok (.iload 4, 2) := by decide +kernel
theorem dX6_turnEven_117 : decode cX6_turnEven 117 = .ok (.iconst 3, 1) := by decide +kernel
theorem dX6_turnEven_118 : decode cX6_turnEven 118 = .ok (.iload_n 3, 1) := by decide +kernel
theorem dX6_turnEven_119 : decode cX6_turnEven 119 = .ok (.imul, 1) := by decide +kernel
theorem dX6_turnEven_120 : decode cX6_turnEven 120 = .ok (.iadd, 1) := by decide +kernel
theorem dX6_turnEven_121 : decode cX6_turnEven 121 = .ok (.iaload, 1) := by decide +kernel
theorem dX6_turnEven_122 : decode cX6_turnEven 122 = .ok (.isub, 1) := by decide +kernel
theorem dX6_turnEven_123 : decode cX6_turnEven 123 = .ok (.istore 8, 2) := by decide +kernel
theorem dX6_turnEven_125 : decode cX6_turnEven 125 = .ok (.aload_n 0, 1) := by decide +kernel
theorem dX6_turnEven_126 : decode cX6_turnEven 126 = .ok (.getfield 33, 3) := by decide +kernel
theorem dX6_turnEven_129 : decode cX6_turnEven 129 = .ok (.iload 4, 2) := by decide +kernel
theorem dX6_turnEven_131 : decode cX6_turnEven 131 = .ok (.iload 5, 2) := by decide +kernel
theorem dX6_turnEven_133 : decode cX6_turnEven 133 = .ok (.iload 7, 2) := by decide +kernel
theorem dX6_turnEven_135 : decode cX6_turnEven 135 = .ok (.iadd, 1) := by decide +kernel
theorem dX6_turnEven_136 : decode cX6_turnEven 136 = .ok (.iastore, 1) := by decide +kernel
theorem dX6_turnEven_137 : decode cX6_turnEven 137 = .ok (.aload_n 0, 1) := by decide +kernel
theorem dX6_turnEven_138 : decode cX6_turnEven 138 = .ok (.getfield 33, 3) := by decide +kernel
theorem dX6_turnEven_141 : decode cX6_turnEven 141 = .ok (.iload 4, 2) := by decide +kernel
theorem dX6_turnEven_143 : decode cX6_turnEven 143 = .ok (.iload_n 3, 1) := by decide +kernel
theorem dX6_turnEven_144 : decode cX6_turnEven 144 = .ok (.iadd, 1) := by decide +kernel
theorem dX6_turnEven_145 : decode cX6_turnEven 145 = .ok (.iload 5, 2) := by decide +kernel
theorem dX6_turnEven_147 : decode cX6_turnEven 147 = .ok (.iload 7, 2) := by decide +kernel
theorem dX6_turnEven_149 : decode cX6_turnEven 149 = .ok (.isub, 1) := by decide +kernel
theorem dX6_turnEven_150 : decode cX6_turnEven 150 = .ok (.iastore, 1) := by decide +kernel
theorem dX6_turnEven_151 : decode cX6_turnEven 151 = .ok (.aload_n 0, 1) := by decide +kernel
theorem dX6_turnEven_152 : decode cX6_turnEven 152 = .ok (.getfield 33, 3) := by decide +kernel
theorem dX6_turnEven_155 : decode cX6_turnEven 155 = .ok (.iload 4, 2) := by decide +kernel
theorem dX6_turnEven_157 : decode cX6_turnEven 157 = .ok (.iconst 2, 1) := by decide +kernel
theorem dX6_turnEven_158 : decode cX6_turnEven 158 = .ok (.iload_n 3, 1) := by decide +kernel
theorem dX6_turnEven_159 : decode cX6_turnEven 159 = .ok (.imul, 1) := by decide +kernel
theorem dX6_turnEven_160 : decode cX6_turnEven 160 = .ok (.iadd, 1) := by decide +kernel
theorem dX6_turnEven_161 : decode cX6_turnEven 161 = .ok (.iload 6, 2) := by decide +kernel
theorem dX6_turnEven_163 : decode cX6_turnEven 163 = .ok (.iload 8, 2) := by decide +kernel
theorem dX6_turnEven_165 : decode cX6_turnEven 165 = .ok (.isub, 1) := by decide +kernel
theorem dX6_turnEven_166 : decode cX6_turnEven 166 = .ok (.iastore, 1) := by decide +kernel
theorem dX6_turnEven_167 : decode cX6_turnEven 167 = .ok (.aload_n 0, 1) := by decide +kernel
theorem dX6_turnEven_168 : decode cX6_turnEven 168 = .ok (.getfield 33, 3) := by decide +kernel
theorem dX6_turnEven_171 : decode cX6_turnEven 171 = .ok (.iload 4, 2) := by decide +kernel
theorem dX6_turnEven_173 : decode cX6_turnEven 173 = .ok (.iconst 3, 1) := by decide +kernel
theorem dX6_turnEven_174 : decode cX6_turnEven 174 = .ok (.iload_n 3, 1) := by decide +kernel
theorem dX6_turnEven_175 : decode cX6_turnEven 175 = .ok (.imul, 1) := by decide +kernel
theorem dX6_turnEven_176 : decode cX6_turnEven 176 = .ok (.iadd, 1) := by decide +kernel
theorem dX6_turnEven_177 : decode cX6_turnEven 177 = .ok (.iload 6, 2) := by decide +kernel
theorem dX6_turnEven_179 : decode cX6_turnEven 179 = .ok (.iload 8, 2) := by decide +kernel
theorem dX6_turnEven_181 : decode cX6_turnEven 181 = .ok (.iadd, 1) := by decide +kernel
theorem dX6_turnEven_182 : decode cX6_turnEven 182 = .ok (.iastore, 1) := by decide +kernel
theorem dX6_turnEven_183 : decode cX6_turnEven 183 = .ok (.iinc 2 1, 3) := by decide +kernel
theorem dX6_turnEven_186 : decode cX6_turnEven 186 = .ok (.goto (-177), 3) := by decide +kernel
theorem dX6_turnEven_189 : decode cX6_turnEven 189 = .ok (.iinc 1 1, 3) := by decide +kernel
theorem dX6_turnEven_192 : decode cX6_turnEven 192 = .ok (.goto (-190), 3) := by decide +kernel
theorem dX6_turnEven_195 : decode cX6_turnEven 195 = .ok (.return_, 1) := by decide +kernel
def FX6_turnEven (G : GG) (M : DD) (a : Nat)  : Option (DD) :=
  bnd (itr (fun (s2 : Int32 × DD) => ((if ((2 : Int32)) ≤ s2.1 then (some (.inr (s2.1, s2.2))) else
  (bnd (itr (fun (s7 : Int32 × DD) => ((if ((4 : Int32)) ≤ s7.1 then (some (.inr (s7.1, s7.2))) else
  (bnd (if s2.1 = ((0 : Int32)) then (some ((1 : Int32))) else
  (some ((4 : Int32)))) fun (y12 : Int32) =>
  bnd (if s2.1 = ((0 : Int32)) then (ltt ((((4 : Int32)) * s7.1)) fun x55 =>
  some (x55)) else
  (some (s7.1))) fun (y13 : Int32) =>
  dr G 13 ((s7.2.2 a 7)) fun b14 =>
  chk (¬ (y13 < 0 ∨ G.2.2 b14 ≤ y13.toNatClampNeg)) <|
  ltt (s7.2.1 b14 y13.toNatClampNeg) fun x15 =>
  ltt ((y13 + y12)) fun x16 =>
  chk (¬ (x16 < 0 ∨ G.2.2 b14 ≤ x16.toNatClampNeg)) <|
  ltt (s7.2.1 b14 x16.toNatClampNeg) fun x17 =>
  ltt ((x15 + x17)) fun x18 =>
  chk (¬ (y13 < 0 ∨ G.2.2 b14 ≤ y13.toNatClampNeg)) <|
  ltt (s7.2.1 b14 y13.toNatClampNeg) fun x19 =>
  ltt ((y13 + y12)) fun x20 =>
  chk (¬ (x20 < 0 ∨ G.2.2 b14 ≤ x20.toNatClampNeg)) <|
  ltt (s7.2.1 b14 x20.toNatClampNeg) fun x21 =>
  ltt ((x19 - x21)) fun x22 =>
  ltt ((((2 : Int32)) * y12)) fun x23 =>
  ltt ((y13 + x23)) fun x24 =>
  chk (¬ (x24 < 0 ∨ G.2.2 b14 ≤ x24.toNatClampNeg)) <|
  ltt (s7.2.1 b14 x24.toNatClampNeg) fun x25 =>
  ltt ((((3 : Int32)) * y12)) fun x26 =>
  ltt ((y13 + x26)) fun x27 =>
  chk (¬ (x27 < 0 ∨ G.2.2 b14 ≤ x27.toNatClampNeg)) <|
  ltt (s7.2.1 b14 x27.toNatClampNeg) fun x28 =>
  ltt ((x25 + x28)) fun x29 =>
  ltt ((((2 : Int32)) * y12)) fun x30 =>
  ltt ((y13 + x30)) fun x31 =>
  chk (¬ (x31 < 0 ∨ G.2.2 b14 ≤ x31.toNatClampNeg)) <|
  ltt (s7.2.1 b14 x31.toNatClampNeg) fun x32 =>
  ltt ((((3 : Int32)) * y12)) fun x33 =>
  ltt ((y13 + x33)) fun x34 =>
  chk (¬ (x34 < 0 ∨ G.2.2 b14 ≤ x34.toNatClampNeg)) <|
  ltt (s7.2.1 b14 x34.toNatClampNeg) fun x35 =>
  ltt ((x32 - x35)) fun x36 =>
  ltt ((x18 + x29)) fun x37 =>
  chk (¬ (y13 < 0 ∨ G.2.2 b14 ≤ y13.toNatClampNeg)) <|
  ltt (uI s7.2 b14 y13.toNatClampNeg x37) fun M38 =>
  ltt ((y13 + y12)) fun x39 =>
  ltt ((x18 - x29)) fun x40 =>
  dr G 13 ((M38.2 a 7)) fun b41 =>
  chk (¬ (x39 < 0 ∨ G.2.2 b41 ≤ x39.toNatClampNeg)) <|
  ltt (uI M38 b41 x39.toNatClampNeg x40) fun M42 =>
  ltt ((((2 : Int32)) * y12)) fun x43 =>
  ltt ((y13 + x43)) fun x44 =>
  ltt ((x22 - x36)) fun x45 =>
  dr G 13 ((M42.2 a 7)) fun b46 =>
  chk (¬ (x44 < 0 ∨ G.2.2 b46 ≤ x44.toNatClampNeg)) <|
  ltt (uI M42 b46 x44.toNatClampNeg x45) fun M47 =>
  ltt ((((3 : Int32)) * y12)) fun x48 =>
  ltt ((y13 + x48)) fun x49 =>
  ltt ((x22 + x36)) fun x50 =>
  dr G 13 ((M47.2 a 7)) fun b51 =>
  chk (¬ (x49 < 0 ∨ G.2.2 b51 ≤ x49.toNatClampNeg)) <|
  ltt (uI M47 b51 x49.toNatClampNeg x50) fun M52 =>
  ltt (s7.1 + (1 : Int32)) fun x53 =>
  some (.inl (x53, M52)))) : Option ((Int32 × DD) ⊕ (Int32 × DD)))) 1000000 ((0 : Int32), s2.2)) fun (y6 : Int32 × DD) =>
  ltt (s2.1 + (1 : Int32)) fun x9 =>
  some (.inl (x9, y6.2)))) : Option ((Int32 × DD) ⊕ (Int32 × DD)))) 1000000 ((0 : Int32), M)) fun (y1 : Int32 × DD) =>
  some y1.2
set_option maxHeartbeats 4000000 in
set_option maxRecDepth 100000 in
theorem kX6_turnEven (l : Launch) (D : va_G) (ct : CT) (ad : Nat → Nat) (Z : Nat → Nat) (G : GG) (M : DD) (sz : Nat) (a : Nat)  (y : DD) (hc : a < G.1) (hk : G.2.1 a = 6) (hF : FX6_turnEven G M a  = some y) : Met l yX6_turnEven wuX6_turnEven ({ frames := 0, cells := 0, slots := 0, locals := 0 }) (va_Pc [.ref (ad a)] (kB D ct ad Z G M sz)) (va_Qv (fun (_ : Unit) => True) (fun _ t => kE D ct ad G (wA ad G sz) y t) (wA ad G sz)) 0 0 (wA ad G sz) := by
  refine Met.ofW (cc := cX6_turnEven) (maxL := 9) (ret := none) (by decide) rfl ?_
  intro p e s m args below meth c s₁ B hml hv
  obtain ⟨rfl, hsz, hP, hK, hD0, hZ, hN⟩ := hv
  have hx := B.exec
  have hb := B.bytes
  have hr := B.returns
  have hts := atoms_spec (ws := wuX6_turnEven) B.pre
  have hown : s.vm.findClass RX6 = some m.cls := findClass_of_methodNamed B.named
  have hlocks := B.notSynchronized
  subst hsz
  have hD := wD_self (sz := s.heap.size) hD0
  have hA9 : ∀ q, s.heap.size ≤ q → wA ad G s.heap.size q := fun q h => Or.inr h
  generalize hAe : wA ad G s.heap.size = A at hD hA9 hZ ⊢
  have hS : va_S A s.heap s.heap [] := va_S.rf
  have hl := lv_entry ([.ref (ad a)]) (n := 9) (Nat.le_of_ble_eq_true rfl)
  rw [lg_entry_eq]
  generalize (lg_sl ([.ref (ad a)]) ++ List.replicate (9 - (lg_sl ([.ref (ad a)])).length) Slot.unset).toArray = ls at hl ⊢
  have hl : lv_has ls 9 [(0, .ref (ad a))] := hl
  unfold FX6_turnEven at hF
  refine lv_iconst (v := (0 : Int32)) hx hb dX6_turnEven_0 (by decide) ?_
  refine lv_istore_n (lv' := [(1, .int (0 : Int32)), (0, .ref (ad a))]) hx hb dX6_turnEven_1 rfl hl (by decide) rfl (fun ls hl => ?_)
  obtain ⟨y1, hy1, hF⟩ := bnd_some hF
  have K1 : ∀ (H : Heap) (locs : List Loc) (ls : Array Slot), va_P D classes (wld ct ad G y1.2) H → va_D A (wld ct ad G y1.2) → va_S A s.heap H locs → lv_has ls 9 [(1, .int y1.1), (0, .ref (ad a))] → W p l e (headSpec wuX6_turnEven ({ frames := 0, cells := 0, slots := 0, locals := 0 })).room s m ([.ref (ad a)] : List Value).toArray below meth c H locs 0 0 (MQ below (va_Qv (fun (_ : Unit) => True) (fun _ t => kE D ct ad G A y t) A) ([.ref (ad a)] : List Value).toArray s 0 0 A) (F0 m 195 ls []) := by
    intro H locs ls hP hD hS hl
    obtain rfl := Option.some.inj hF
    exact W.vret hx hb hr (fun t ht hW => ⟨⟨(), rfl, trivial, ⟨by rw [ht]; exact hP, va_K.moved hW.alike hK, hD⟩⟩, hS.F ht⟩) hS.2.2 dX6_turnEven_195
  clear hF
  refine itr_rule (fun (s2 : Int32 × DD) => ∀ (H : Heap) (locs : List Loc) (ls : Array Slot), va_P D classes (wld ct ad G s2.2) H → va_D A (wld ct ad G s2.2) → va_S A s.heap H locs → lv_has ls 9 [(1, .int s2.1), (0, .ref (ad a))] → W p l e (headSpec wuX6_turnEven ({ frames := 0, cells := 0, slots := 0, locals := 0 })).room s m ([.ref (ad a)] : List Value).toArray below meth c H locs 0 0 (MQ below (va_Qv (fun (_ : Unit) => True) (fun _ t => kE D ct ad G A y t) A) ([.ref (ad a)] : List Value).toArray s 0 0 A) (F0 m 2 ls [])) ?_ _ _ hy1 _ _ _ hP hD hS (lv_sub hl [0, 1] rfl)
  rintro s2 ⟨z4, hF, hwz4⟩ H locs ls hP hD hS hl
  try dsimp only at hF
  refine lv_iload_n hx hb dX6_turnEven_2 rfl (lv_at hl 0 rfl) ?_
  refine lv_iconst (v := (2 : Int32)) hx hb dX6_turnEven_3 (by decide) ?_
  refine lv_icmp_ge (tgt := 195) hx hb dX6_turnEven_4 (by decide) (fun c5 => ?_) (fun c5 => ?_)
  · rw [if_pos c5] at hF
    obtain rfl := Option.some.inj hF
    subst hwz4
    exact K1 _ _ _ hP hD hS (lv_sub hl [0, 1] rfl)
  · rw [if_neg c5] at hF
    refine lv_iconst (v := (0 : Int32)) hx hb dX6_turnEven_7 (by decide) ?_
    refine lv_istore_n (lv' := [(2, .int (0 : Int32)), (1, .int s2.1), (0, .ref (ad a))]) hx hb dX6_turnEven_8 rfl hl (by decide) rfl (fun ls hl => ?_)
    obtain ⟨y6, hy6, hF⟩ := bnd_some hF
    have K6 : ∀ (H : Heap) (locs : List Loc) (ls : Array Slot), va_P D classes (wld ct ad G y6.2) H → va_D A (wld ct ad G y6.2) → va_S A s.heap H locs → lv_has ls 9 [(2, .int y6.1), (1, .int s2.1), (0, .ref (ad a))] → W p l e (headSpec wuX6_turnEven ({ frames := 0, cells := 0, slots := 0, locals := 0 })).room s m ([.ref (ad a)] : List Value).toArray below meth c H locs 0 0 (MQ below (va_Qv (fun (_ : Unit) => True) (fun _ t => kE D ct ad G A y t) A) ([.ref (ad a)] : List Value).toArray s 0 0 A) (F0 m 189 ls []) := by
      intro H locs ls hP hD hS hl
      obtain ⟨x9, ex9, hF⟩ := ltt_some hF
      refine lv_iinc (v := x9) (lv' := [(1, .int x9), (2, .int y6.1), (0, .ref (ad a))]) hx hb dX6_turnEven_189 hl (k := 1) rfl (by rw [ex9]; rfl) (by decide) rfl (fun ls hl => ?_)
      refine lv_goto (tgt := 2) hx hb dX6_turnEven_192 (by decide) ?_
      obtain rfl := Option.some.inj hF
      exact hwz4 _ _ _ hP hD hS (lv_sub hl [0, 2] rfl)
    clear hF
    refine itr_rule (fun (s7 : Int32 × DD) => ∀ (H : Heap) (locs : List Loc) (ls : Array Slot), va_P D classes (wld ct ad G s7.2) H → va_D A (wld ct ad G s7.2) → va_S A s.heap H locs → lv_has ls 9 [(2, .int s7.1), (1, .int s2.1), (0, .ref (ad a))] → W p l e (headSpec wuX6_turnEven ({ frames := 0, cells := 0, slots := 0, locals := 0 })).room s m ([.ref (ad a)] : List Value).toArray below meth c H locs 0 0 (MQ below (va_Qv (fun (_ : Unit) => True) (fun _ t => kE D ct ad G A y t) A) ([.ref (ad a)] : List Value).toArray s 0 0 A) (F0 m 9 ls [])) ?_ _ _ hy6 _ _ _ hP hD hS (lv_sub hl [0, 1, 2] rfl)
    rintro s7 ⟨z10, hF, hwz10⟩ H locs ls hP hD hS hl
    try dsimp only at hF
    refine lv_iload_n hx hb dX6_turnEven_9 rfl (lv_at hl 0 rfl) ?_
    refine lv_iconst (v := (4 : Int32)) hx hb dX6_turnEven_10 (by decide) ?_
    refine lv_icmp_ge (tgt := 189) hx hb dX6_turnEven_11 (by decide) (fun c11 => ?_) (fun c11 => ?_)
    · rw [if_pos c11] at hF
      obtain rfl := Option.some.inj hF
      subst hwz10
      exact K6 _ _ _ hP hD hS (lv_sub hl [0, 1, 2] rfl)
    · rw [if_neg c11] at hF
      refine lv_iload_n hx hb dX6_turnEven_14 rfl (lv_at hl 1 rfl) ?_
      obtain ⟨y12, hy12, hF⟩ := bnd_some hF
      have J12 : ∀ (H : Heap) (locs : List Loc) (ls : Array Slot), va_P D classes (wld ct ad G s7.2) H → va_D A (wld ct ad G s7.2) → va_S A s.heap H locs → lv_has ls 9 [(2, .int s7.1), (1, .int s2.1), (0, .ref (ad a))] → W p l e (headSpec wuX6_turnEven ({ frames := 0, cells := 0, slots := 0, locals := 0 })).room s m ([.ref (ad a)] : List Value).toArray below meth c H locs 0 0 (MQ below (va_Qv (fun (_ : Unit) => True) (fun _ t => kE D ct ad G A y t) A) ([.ref (ad a)] : List Value).toArray s 0 0 A) (F0 m 23 ls [.int y12]) := by
        intro H locs ls hP hD hS hl
        refine lv_istore_n (lv' := [(3, .int y12), (2, .int s7.1), (1, .int s2.1), (0, .ref (ad a))]) hx hb dX6_turnEven_23 rfl hl (by decide) rfl (fun ls hl => ?_)
        refine lv_iload_n hx hb dX6_turnEven_24 rfl (lv_at hl 2 rfl) ?_
        obtain ⟨y13, hy13, hF⟩ := bnd_some hF
        have J13 : ∀ (H : Heap) (locs : List Loc) (ls : Array Slot), va_P D classes (wld ct ad G s7.2) H → va_D A (wld ct ad G s7.2) → va_S A s.heap H locs → lv_has ls 9 [(3, .int y12), (2, .int s7.1), (1, .int s2.1), (0, .ref (ad a))] → W p l e (headSpec wuX6_turnEven ({ frames := 0, cells := 0, slots := 0, locals := 0 })).room s m ([.ref (ad a)] : List Value).toArray below meth c H locs 0 0 (MQ below (va_Qv (fun (_ : Unit) => True) (fun _ t => kE D ct ad G A y t) A) ([.ref (ad a)] : List Value).toArray s 0 0 A) (F0 m 35 ls [.int y13]) := by
          intro H locs ls hP hD hS hl
          refine lv_istore (lv' := [(4, .int y13), (3, .int y12), (2, .int s7.1), (1, .int s2.1), (0, .ref (ad a))]) hx hb dX6_turnEven_35 hl (by decide) rfl (fun ls hl => ?_)
          refine lv_aload_n hx hb dX6_turnEven_37 rfl (lv_at hl 4 rfl) ?_
          refine va_get (D := D) (ci := 6) (v := va_re ad (s7.2.2 a 7)) (C := RX6) (T := TX6) (N := 14) hx hb hts (mus hf_X6) hown hK hP a (wld_o ct ad G s7.2 hc hk (by decide)) rfl 7 (by decide) (hts (.fieldLink RX6 33 "VideoSuite$Samples" "even" "[I") (mu mw_543)) (fun _ h9 => h9) rfl dX6_turnEven_38 ?_
          refine lv_iload hx hb dX6_turnEven_41 (lv_at hl 0 rfl) ?_
          obtain ⟨b14, ho14, hc14, hk14, hF⟩ := dr_some hF
          refine W_st (st' := [.int y13, .ref (ad b14)]) (by rw [va_some ho14]) ?_
          obtain ⟨hvc, hF⟩ := chk_some hF
          refine va_iald hx hb hK hP b14 1 (wld_i ct ad G s7.2 hc14 hk14) rfl hvc dX6_turnEven_43 ?_
          obtain ⟨x15, ex15, hF⟩ := ltt_some hF
          refine lv_topi (fun zx15 ezx15 => ?_)
          obtain rfl : x15 = zx15 := ex15.trans ezx15.symm
          refine lv_aload_n hx hb dX6_turnEven_44 rfl (lv_at hl 4 rfl) ?_
          refine va_get (D := D) (ci := 6) (v := va_re ad (s7.2.2 a 7)) (C := RX6) (T := TX6) (N := 14) hx hb hts (mus hf_X6) hown hK hP a (wld_o ct ad G s7.2 hc hk (by decide)) rfl 7 (by decide) (hts (.fieldLink RX6 33 "VideoSuite$Samples" "even" "[I") (mu mw_543)) (fun _ h9 => h9) rfl dX6_turnEven_45 ?_
          refine lv_iload hx hb dX6_turnEven_48 (lv_at hl 0 rfl) ?_
          refine lv_iload_n hx hb dX6_turnEven_50 rfl (lv_at hl 1 rfl) ?_
          refine lv_iadd hx hb dX6_turnEven_51 ?_
          obtain ⟨x16, ex16, hF⟩ := ltt_some hF
          refine lv_topi (fun zx16 ezx16 => ?_)
          obtain rfl : x16 = zx16 := ex16.trans ezx16.symm
          refine W_st (st' := [.int x16, .ref (ad b14), .int x15]) (by rw [va_some ho14]) ?_
          obtain ⟨hvc, hF⟩ := chk_some hF
          refine va_iald hx hb hK hP b14 1 (wld_i ct ad G s7.2 hc14 hk14) rfl hvc dX6_turnEven_52 ?_
          obtain ⟨x17, ex17, hF⟩ := ltt_some hF
          refine lv_topi (fun zx17 ezx17 => ?_)
          obtain rfl : x17 = zx17 := ex17.trans ezx17.symm
          refine lv_iadd hx hb dX6_turnEven_53 ?_
          obtain ⟨x18, ex18, hF⟩ := ltt_some hF
          refine lv_topi (fun zx18 ezx18 => ?_)
          obtain rfl : x18 = zx18 := ex18.trans ezx18.symm
          refine lv_istore (lv' := [(5, .int x18), (4, .int y13), (3, .int y12), (2, .int s7.1), (1, .int s2.1), (0, .ref (ad a))]) hx hb dX6_turnEven_54 hl (by decide) rfl (fun ls hl => ?_)
          refine lv_aload_n hx hb dX6_turnEven_56 rfl (lv_at hl 5 rfl) ?_
          refine va_get (D := D) (ci := 6) (v := va_re ad (s7.2.2 a 7)) (C := RX6) (T := TX6) (N := 14) hx hb hts (mus hf_X6) hown hK hP a (wld_o ct ad G s7.2 hc hk (by decide)) rfl 7 (by decide) (hts (.fieldLink RX6 33 "VideoSuite$Samples" "even" "[I") (mu mw_543)) (fun _ h9 => h9) rfl dX6_turnEven_57 ?_
          refine lv_iload hx hb dX6_turnEven_60 (lv_at hl 1 rfl) ?_
          refine W_st (st' := [.int y13, .ref (ad b14)]) (by rw [va_some ho14]) ?_
          obtain ⟨hvc, hF⟩ := chk_some hF
          refine va_iald hx hb hK hP b14 1 (wld_i ct ad G s7.2 hc14 hk14) rfl hvc dX6_turnEven_62 ?_
          obtain ⟨x19, ex19, hF⟩ := ltt_some hF
          refine lv_topi (fun zx19 ezx19 => ?_)
          obtain rfl : x19 = zx19 := ex19.trans ezx19.symm
          refine lv_aload_n hx hb dX6_turnEven_63 rfl (lv_at hl 5 rfl) ?_
          refine va_get (D := D) (ci := 6) (v := va_re ad (s7.2.2 a 7)) (C := RX6) (T := TX6) (N := 14) hx hb hts (mus hf_X6) hown hK hP a (wld_o ct ad G s7.2 hc hk (by decide)) rfl 7 (by decide) (hts (.fieldLink RX6 33 "VideoSuite$Samples" "even" "[I") (mu mw_543)) (fun _ h9 => h9) rfl dX6_turnEven_64 ?_
          refine lv_iload hx hb dX6_turnEven_67 (lv_at hl 1 rfl) ?_
          refine lv_iload_n hx hb dX6_turnEven_69 rfl (lv_at hl 2 rfl) ?_
          refine lv_iadd hx hb dX6_turnEven_70 ?_
          obtain ⟨x20, ex20, hF⟩ := ltt_some hF
          refine lv_topi (fun zx20 ezx20 => ?_)
          obtain rfl : x20 = zx20 := ex20.trans ezx20.symm
          refine W_st (st' := [.int x20, .ref (ad b14), .int x19]) (by rw [va_some ho14]) ?_
          obtain ⟨hvc, hF⟩ := chk_some hF
          refine va_iald hx hb hK hP b14 1 (wld_i ct ad G s7.2 hc14 hk14) rfl hvc dX6_turnEven_71 ?_
          obtain ⟨x21, ex21, hF⟩ := ltt_some hF
          refine lv_topi (fun zx21 ezx21 => ?_)
          obtain rfl : x21 = zx21 := ex21.trans ezx21.symm
          refine lv_isub hx hb dX6_turnEven_72 ?_
          obtain ⟨x22, ex22, hF⟩ := ltt_some hF
          refine lv_topi (fun zx22 ezx22 => ?_)
          obtain rfl : x22 = zx22 := ex22.trans ezx22.symm
          refine lv_istore (lv' := [(6, .int x22), (5, .int x18), (4, .int y13), (3, .int y12), (2, .int s7.1), (1, .int s2.1), (0, .ref (ad a))]) hx hb dX6_turnEven_73 hl (by decide) rfl (fun ls hl => ?_)
          refine lv_aload_n hx hb dX6_turnEven_75 rfl (lv_at hl 6 rfl) ?_
          refine va_get (D := D) (ci := 6) (v := va_re ad (s7.2.2 a 7)) (C := RX6) (T := TX6) (N := 14) hx hb hts (mus hf_X6) hown hK hP a (wld_o ct ad G s7.2 hc hk (by decide)) rfl 7 (by decide) (hts (.fieldLink RX6 33 "VideoSuite$Samples" "even" "[I") (mu mw_543)) (fun _ h9 => h9) rfl dX6_turnEven_76 ?_
          refine lv_iload hx hb dX6_turnEven_79 (lv_at hl 2 rfl) ?_
          refine lv_iconst (v := (2 : Int32)) hx hb dX6_turnEven_81 (by decide) ?_
          refine lv_iload_n hx hb dX6_turnEven_82 rfl (lv_at hl 3 rfl) ?_
          refine lv_imul hx hb dX6_turnEven_83 ?_
          obtain ⟨x23, ex23, hF⟩ := ltt_some hF
          refine lv_topi (fun zx23 ezx23 => ?_)
          obtain rfl : x23 = zx23 := ex23.trans ezx23.symm
          refine lv_iadd hx hb dX6_turnEven_84 ?_
          obtain ⟨x24, ex24, hF⟩ := ltt_some hF
          refine lv_topi (fun zx24 ezx24 => ?_)
          obtain rfl : x24 = zx24 := ex24.trans ezx24.symm
          refine W_st (st' := [.int x24, .ref (ad b14)]) (by rw [va_some ho14]) ?_
          obtain ⟨hvc, hF⟩ := chk_some hF
          refine va_iald hx hb hK hP b14 1 (wld_i ct ad G s7.2 hc14 hk14) rfl hvc dX6_turnEven_85 ?_
          obtain ⟨x25, ex25, hF⟩ := ltt_some hF
          refine lv_topi (fun zx25 ezx25 => ?_)
          obtain rfl : x25 = zx25 := ex25.trans ezx25.symm
          refine lv_aload_n hx hb dX6_turnEven_86 rfl (lv_at hl 6 rfl) ?_
          refine va_get (D := D) (ci := 6) (v := va_re ad (s7.2.2 a 7)) (C := RX6) (T := TX6) (N := 14) hx hb hts (mus hf_X6) hown hK hP a (wld_o ct ad G s7.2 hc hk (by decide)) rfl 7 (by decide) (hts (.fieldLink RX6 33 "VideoSuite$Samples" "even" "[I") (mu mw_543)) (fun _ h9 => h9) rfl dX6_turnEven_87 ?_
          refine lv_iload hx hb dX6_turnEven_90 (lv_at hl 2 rfl) ?_
          refine lv_iconst (v := (3 : Int32)) hx hb dX6_turnEven_92 (by decide) ?_
          refine lv_iload_n hx hb dX6_turnEven_93 rfl (lv_at hl 3 rfl) ?_
          refine lv_imul hx hb dX6_turnEven_94 ?_
          obtain ⟨x26, ex26, hF⟩ := ltt_some hF
          refine lv_topi (fun zx26 ezx26 => ?_)
          obtain rfl : x26 = zx26 := ex26.trans ezx26.symm
          refine lv_iadd hx hb dX6_turnEven_95 ?_
          obtain ⟨x27, ex27, hF⟩ := ltt_some hF
          refine lv_topi (fun zx27 ezx27 => ?_)
          obtain rfl : x27 = zx27 := ex27.trans ezx27.symm
          refine W_st (st' := [.int x27, .ref (ad b14), .int x25]) (by rw [va_some ho14]) ?_
          obtain ⟨hvc, hF⟩ := chk_some hF
          refine va_iald hx hb hK hP b14 1 (wld_i ct ad G s7.2 hc14 hk14) rfl hvc dX6_turnEven_96 ?_
          obtain ⟨x28, ex28, hF⟩ := ltt_some hF
          refine lv_topi (fun zx28 ezx28 => ?_)
          obtain rfl : x28 = zx28 := ex28.trans ezx28.symm
          refine lv_iadd hx hb dX6_turnEven_97 ?_
          obtain ⟨x29, ex29, hF⟩ := ltt_some hF
          refine lv_topi (fun zx29 ezx29 => ?_)
          obtain rfl : x29 = zx29 := ex29.trans ezx29.symm
          refine lv_istore (lv' := [(7, .int x29), (6, .int x22), (5, .int x18), (4, .int y13), (3, .int y12), (2, .int s7.1), (1, .int s2.1), (0, .ref (ad a))]) hx hb dX6_turnEven_98 hl (by decide) rfl (fun ls hl => ?_)
          refine lv_aload_n hx hb dX6_turnEven_100 rfl (lv_at hl 7 rfl) ?_
          refine va_get (D := D) (ci := 6) (v := va_re ad (s7.2.2 a 7)) (C := RX6) (T := TX6) (N := 14) hx hb hts (mus hf_X6) hown hK hP a (wld_o ct ad G s7.2 hc hk (by decide)) rfl 7 (by decide) (hts (.fieldLink RX6 33 "VideoSuite$Samples" "even" "[I") (mu mw_543)) (fun _ h9 => h9) rfl dX6_turnEven_101 ?_
          refine lv_iload hx hb dX6_turnEven_104 (lv_at hl 3 rfl) ?_
          refine lv_iconst (v := (2 : Int32)) hx hb dX6_turnEven_106 (by decide) ?_
          refine lv_iload_n hx hb dX6_turnEven_107 rfl (lv_at hl 4 rfl) ?_
          refine lv_imul hx hb dX6_turnEven_108 ?_
          obtain ⟨x30, ex30, hF⟩ := ltt_some hF
          refine lv_topi (fun zx30 ezx30 => ?_)
          obtain rfl : x30 = zx30 := ex30.trans ezx30.symm
          refine lv_iadd hx hb dX6_turnEven_109 ?_
          obtain ⟨x31, ex31, hF⟩ := ltt_some hF
          refine lv_topi (fun zx31 ezx31 => ?_)
          obtain rfl : x31 = zx31 := ex31.trans ezx31.symm
          refine W_st (st' := [.int x31, .ref (ad b14)]) (by rw [va_some ho14]) ?_
          obtain ⟨hvc, hF⟩ := chk_some hF
          refine va_iald hx hb hK hP b14 1 (wld_i ct ad G s7.2 hc14 hk14) rfl hvc dX6_turnEven_110 ?_
          obtain ⟨x32, ex32, hF⟩ := ltt_some hF
          refine lv_topi (fun zx32 ezx32 => ?_)
          obtain rfl : x32 = zx32 := ex32.trans ezx32.symm
          refine lv_aload_n hx hb dX6_turnEven_111 rfl (lv_at hl 7 rfl) ?_
          refine va_get (D := D) (ci := 6) (v := va_re ad (s7.2.2 a 7)) (C := RX6) (T := TX6) (N := 14) hx hb hts (mus hf_X6) hown hK hP a (wld_o ct ad G s7.2 hc hk (by decide)) rfl 7 (by decide) (hts (.fieldLink RX6 33 "VideoSuite$Samples" "even" "[I") (mu mw_543)) (fun _ h9 => h9) rfl dX6_turnEven_112 ?_
          refine lv_iload hx hb dX6_turnEven_115 (lv_at hl 3 rfl) ?_
          refine lv_iconst (v := (3 : Int32)) hx hb dX6_turnEven_117 (by decide) ?_
          refine lv_iload_n hx hb dX6_turnEven_118 rfl (lv_at hl 4 rfl) ?_
          refine lv_imul hx hb dX6_turnEven_119 ?_
          obtain ⟨x33, ex33, hF⟩ := ltt_some hF
          refine lv_topi (fun zx33 ezx33 => ?_)
          obtain rfl : x33 = zx33 := ex33.trans ezx33.symm
          refine lv_iadd hx hb dX6_turnEven_120 ?_
          obtain ⟨x34, ex34, hF⟩ := ltt_some hF
          refine lv_topi (fun zx34 ezx34 => ?_)
          obtain rfl : x34 = zx34 := ex34.trans ezx34.symm
          refine W_st (st' := [.int x34, .ref (ad b14), .int x32]) (by rw [va_some ho14]) ?_
          obtain ⟨hvc, hF⟩ := chk_some hF
          refine va_iald hx hb hK hP b14 1 (wld_i ct ad G s7.2 hc14 hk14) rfl hvc dX6_turnEven_121 ?_
          obtain ⟨x35, ex35, hF⟩ := ltt_some hF
          refine lv_topi (fun zx35 ezx35 => ?_)
          obtain rfl : x35 = zx35 := ex35.trans ezx35.symm
          refine lv_isub hx hb dX6_turnEven_122 ?_
          obtain ⟨x36, ex36, hF⟩ := ltt_some hF
          refine lv_topi (fun zx36 ezx36 => ?_)
          obtain rfl : x36 = zx36 := ex36.trans ezx36.symm
          refine lv_istore (lv' := [(8, .int x36), (7, .int x29), (6, .int x22), (5, .int x18), (4, .int y13), (3, .int y12), (2, .int s7.1), (1, .int s2.1), (0, .ref (ad a))]) hx hb dX6_turnEven_123 hl (by decide) rfl (fun ls hl => ?_)
          refine lv_aload_n hx hb dX6_turnEven_125 rfl (lv_at hl 8 rfl) ?_
          refine va_get (D := D) (ci := 6) (v := va_re ad (s7.2.2 a 7)) (C := RX6) (T := TX6) (N := 14) hx hb hts (mus hf_X6) hown hK hP a (wld_o ct ad G s7.2 hc hk (by decide)) rfl 7 (by decide) (hts (.fieldLink RX6 33 "VideoSuite$Samples" "even" "[I") (mu mw_543)) (fun _ h9 => h9) rfl dX6_turnEven_126 ?_
          refine lv_iload hx hb dX6_turnEven_129 (lv_at hl 4 rfl) ?_
          refine lv_iload hx hb dX6_turnEven_131 (lv_at hl 3 rfl) ?_
          refine lv_iload hx hb dX6_turnEven_133 (lv_at hl 1 rfl) ?_
          refine lv_iadd hx hb dX6_turnEven_135 ?_
          obtain ⟨x37, ex37, hF⟩ := ltt_some hF
          refine lv_topi (fun zx37 ezx37 => ?_)
          obtain rfl : x37 = zx37 := ex37.trans ezx37.symm
          refine W_st (st' := [.int x37, .int y13, .ref (ad b14)]) (by rw [va_some ho14]) ?_
          obtain ⟨hvc, hF⟩ := chk_some hF
          refine va_iast hx hb hK hP hD hS b14 1 (wld_i ct ad G s7.2 hc14 hk14) rfl hvc dX6_turnEven_136 (fun H locs hP hD hS => ?_)
          obtain ⟨M38, eM38, hF⟩ := ltt_some hF
          rw [set_i ct ad G s7.2 hc14 hk14, ← eM38] at hP hD
          refine lv_aload_n hx hb dX6_turnEven_137 rfl (lv_at hl 8 rfl) ?_
          refine va_get (D := D) (ci := 6) (v := va_re ad (M38.2 a 7)) (C := RX6) (T := TX6) (N := 14) hx hb hts (mus hf_X6) hown hK hP a (wld_o ct ad G M38 hc hk (by decide)) rfl 7 (by decide) (hts (.fieldLink RX6 33 "VideoSuite$Samples" "even" "[I") (mu mw_543)) (fun _ h9 => h9) rfl dX6_turnEven_138 ?_
          refine lv_iload hx hb dX6_turnEven_141 (lv_at hl 4 rfl) ?_
          refine lv_iload_n hx hb dX6_turnEven_143 rfl (lv_at hl 5 rfl) ?_
          refine lv_iadd hx hb dX6_turnEven_144 ?_
          obtain ⟨x39, ex39, hF⟩ := ltt_some hF
          refine lv_topi (fun zx39 ezx39 => ?_)
          obtain rfl : x39 = zx39 := ex39.trans ezx39.symm
          refine lv_iload hx hb dX6_turnEven_145 (lv_at hl 3 rfl) ?_
          refine lv_iload hx hb dX6_turnEven_147 (lv_at hl 1 rfl) ?_
          refine lv_isub hx hb dX6_turnEven_149 ?_
          obtain ⟨x40, ex40, hF⟩ := ltt_some hF
          refine lv_topi (fun zx40 ezx40 => ?_)
          obtain rfl : x40 = zx40 := ex40.trans ezx40.symm
          obtain ⟨b41, ho41, hc41, hk41, hF⟩ := dr_some hF
          refine W_st (st' := [.int x40, .int x39, .ref (ad b41)]) (by rw [va_some ho41]) ?_
          obtain ⟨hvc, hF⟩ := chk_some hF
          refine va_iast hx hb hK hP hD hS b41 1 (wld_i ct ad G M38 hc41 hk41) rfl hvc dX6_turnEven_150 (fun H locs hP hD hS => ?_)
          obtain ⟨M42, eM42, hF⟩ := ltt_some hF
          rw [set_i ct ad G M38 hc41 hk41, ← eM42] at hP hD
          refine lv_aload_n hx hb dX6_turnEven_151 rfl (lv_at hl 8 rfl) ?_
          refine va_get (D := D) (ci := 6) (v := va_re ad (M42.2 a 7)) (C := RX6) (T := TX6) (N := 14) hx hb hts (mus hf_X6) hown hK hP a (wld_o ct ad G M42 hc hk (by decide)) rfl 7 (by decide) (hts (.fieldLink RX6 33 "VideoSuite$Samples" "even" "[I") (mu mw_543)) (fun _ h9 => h9) rfl dX6_turnEven_152 ?_
          refine lv_iload hx hb dX6_turnEven_155 (lv_at hl 4 rfl) ?_
          refine lv_iconst (v := (2 : Int32)) hx hb dX6_turnEven_157 (by decide) ?_
          refine lv_iload_n hx hb dX6_turnEven_158 rfl (lv_at hl 5 rfl) ?_
          refine lv_imul hx hb dX6_turnEven_159 ?_
          obtain ⟨x43, ex43, hF⟩ := ltt_some hF
          refine lv_topi (fun zx43 ezx43 => ?_)
          obtain rfl : x43 = zx43 := ex43.trans ezx43.symm
          refine lv_iadd hx hb dX6_turnEven_160 ?_
          obtain ⟨x44, ex44, hF⟩ := ltt_some hF
          refine lv_topi (fun zx44 ezx44 => ?_)
          obtain rfl : x44 = zx44 := ex44.trans ezx44.symm
          refine lv_iload hx hb dX6_turnEven_161 (lv_at hl 2 rfl) ?_
          refine lv_iload hx hb dX6_turnEven_163 (lv_at hl 0 rfl) ?_
          refine lv_isub hx hb dX6_turnEven_165 ?_
          obtain ⟨x45, ex45, hF⟩ := ltt_some hF
          refine lv_topi (fun zx45 ezx45 => ?_)
          obtain rfl : x45 = zx45 := ex45.trans ezx45.symm
          obtain ⟨b46, ho46, hc46, hk46, hF⟩ := dr_some hF
          refine W_st (st' := [.int x45, .int x44, .ref (ad b46)]) (by rw [va_some ho46]) ?_
          obtain ⟨hvc, hF⟩ := chk_some hF
          refine va_iast hx hb hK hP hD hS b46 1 (wld_i ct ad G M42 hc46 hk46) rfl hvc dX6_turnEven_166 (fun H locs hP hD hS => ?_)
          obtain ⟨M47, eM47, hF⟩ := ltt_some hF
          rw [set_i ct ad G M42 hc46 hk46, ← eM47] at hP hD
          refine lv_aload_n hx hb dX6_turnEven_167 rfl (lv_at hl 8 rfl) ?_
          refine va_get (D := D) (ci := 6) (v := va_re ad (M47.2 a 7)) (C := RX6) (T := TX6) (N := 14) hx hb hts (mus hf_X6) hown hK hP a (wld_o ct ad G M47 hc hk (by decide)) rfl 7 (by decide) (hts (.fieldLink RX6 33 "VideoSuite$Samples" "even" "[I") (mu mw_543)) (fun _ h9 => h9) rfl dX6_turnEven_168 ?_
          refine lv_iload hx hb dX6_turnEven_171 (lv_at hl 4 rfl) ?_
          refine lv_iconst (v := (3 : Int32)) hx hb dX6_turnEven_173 (by decide) ?_
          refine lv_iload_n hx hb dX6_turnEven_174 rfl (lv_at hl 5 rfl) ?_
          refine lv_imul hx hb dX6_turnEven_175 ?_
          obtain ⟨x48, ex48, hF⟩ := ltt_some hF
          refine lv_topi (fun zx48 ezx48 => ?_)
          obtain rfl : x48 = zx48 := ex48.trans ezx48.symm
          refine lv_iadd hx hb dX6_turnEven_176 ?_
          obtain ⟨x49, ex49, hF⟩ := ltt_some hF
          refine lv_topi (fun zx49 ezx49 => ?_)
          obtain rfl : x49 = zx49 := ex49.trans ezx49.symm
          refine lv_iload hx hb dX6_turnEven_177 (lv_at hl 2 rfl) ?_
          refine lv_iload hx hb dX6_turnEven_179 (lv_at hl 0 rfl) ?_
          refine lv_iadd hx hb dX6_turnEven_181 ?_
          obtain ⟨x50, ex50, hF⟩ := ltt_some hF
          refine lv_topi (fun zx50 ezx50 => ?_)
          obtain rfl : x50 = zx50 := ex50.trans ezx50.symm
          obtain ⟨b51, ho51, hc51, hk51, hF⟩ := dr_some hF
          refine W_st (st' := [.int x50, .int x49, .ref (ad b51)]) (by rw [va_some ho51]) ?_
          obtain ⟨hvc, hF⟩ := chk_some hF
          refine va_iast hx hb hK hP hD hS b51 1 (wld_i ct ad G M47 hc51 hk51) rfl hvc dX6_turnEven_182 (fun H locs hP hD hS => ?_)
          obtain ⟨M52, eM52, hF⟩ := ltt_some hF
          rw [set_i ct ad G M47 hc51 hk51, ← eM52] at hP hD
          obtain ⟨x53, ex53, hF⟩ := ltt_some hF
          refine lv_iinc (v := x53) (lv' := [(2, .int x53), (8, .int x36), (7, .int x29), (6, .int x22), (5, .int x18), (4, .int y13), (3, .int y12), (1, .int s2.1), (0, .ref (ad a))]) hx hb dX6_turnEven_183 hl (k := 6) rfl (by rw [ex53]; rfl) (by decide) rfl (fun ls hl => ?_)
          refine lv_goto (tgt := 9) hx hb dX6_turnEven_186 (by decide) ?_
          obtain rfl := Option.some.inj hF
          exact hwz10 _ _ _ hP hD hS (lv_sub hl [0, 7, 8] rfl)
        clear hF
        have hF := hy13
        clear hy13
        refine lv_if_ne (tgt := 34) hx hb dX6_turnEven_25 (by decide) (fun c54 => ?_) (fun c54 => ?_)
        · rw [if_neg c54] at hF
          refine lv_iload_n hx hb dX6_turnEven_34 rfl (lv_at hl 1 rfl) ?_
          obtain rfl := Option.some.inj hF
          exact J13 _ _ _ hP hD hS (lv_sub hl [0, 1, 2, 3] rfl)
        · rw [if_pos c54] at hF
          refine lv_iconst (v := (4 : Int32)) hx hb dX6_turnEven_28 (by decide) ?_
          refine lv_iload_n hx hb dX6_turnEven_29 rfl (lv_at hl 1 rfl) ?_
          refine lv_imul hx hb dX6_turnEven_30 ?_
          obtain ⟨x55, ex55, hF⟩ := ltt_some hF
          refine lv_topi (fun zx55 ezx55 => ?_)
          obtain rfl : x55 = zx55 := ex55.trans ezx55.symm
          refine lv_goto (tgt := 35) hx hb dX6_turnEven_31 (by decide) ?_
          obtain rfl := Option.some.inj hF
          exact J13 _ _ _ hP hD hS (lv_sub hl [0, 1, 2, 3] rfl)
      clear hF
      have hF := hy12
      clear hy12
      refine lv_if_ne (tgt := 22) hx hb dX6_turnEven_15 (by decide) (fun c56 => ?_) (fun c56 => ?_)
      · rw [if_neg c56] at hF
        refine lv_iconst (v := (4 : Int32)) hx hb dX6_turnEven_22 (by decide) ?_
        obtain rfl := Option.some.inj hF
        exact J12 _ _ _ hP hD hS (lv_sub hl [0, 1, 2] rfl)
      · rw [if_pos c56] at hF
        refine lv_iconst (v := (1 : Int32)) hx hb dX6_turnEven_18 (by decide) ?_
        refine lv_goto (tgt := 23) hx hb dX6_turnEven_19 (by decide) ?_
        obtain rfl := Option.some.inj hF
        exact J12 _ _ _ hP hD hS (lv_sub hl [0, 1, 2] rfl)
theorem dX6_turnFour_0 : decode cX6_turnFour 0 = .ok (.aload_n 0, 1) := by decide +kernel
theorem dX6_turnFour_1 : decode cX6_turnFour 1 = .ok (.getfield 33, 3) := by decide +kernel
theorem dX6_turnFour_4 : decode cX6_turnFour 4 = .ok (.iconst 0, 1) := by decide +kernel
theorem dX6_turnFour_5 : decode cX6_turnFour 5 = .ok (.iaload, 1) := by decide +kernel
theorem dX6_turnFour_6 : decode cX6_turnFour 6 = .ok (.istore_n 1, 1) := by decide +kernel
theorem dX6_turnFour_7 : decode cX6_turnFour 7 = .ok (.aload_n 0, 1) := by decide +kernel
theorem dX6_turnFour_8 : decode cX6_turnFour 8 = .ok (.getfield 33, 3) := by decide +kernel
theorem dX6_turnFour_11 : decode cX6_turnFour 11 = .ok (.iconst 1, 1) := by decide +kernel
theorem dX6_turnFour_12 : decode cX6_turnFour 12 = .ok (.iaload, 1) := by decide +kernel
theorem dX6_turnFour_13 : decode cX6_turnFour 13 = .ok (.istore_n 2, 1) := by decide +kernel
theorem dX6_turnFour_14 : decode cX6_turnFour 14 = .ok (.aload_n 0, 1) := by decide +kernel
theorem dX6_turnFour_15 : decode cX6_turnFour 15 = .ok (.getfield 33, 3) := by decide +kernel
theorem dX6_turnFour_18 : decode cX6_turnFour 18 = .ok (.iconst 2, 1) := by decide +kernel
theorem dX6_turnFour_19 : decode cX6_turnFour 19 = .ok (.iaload, 1) := by decide +kernel
theorem dX6_turnFour_20 : decode cX6_turnFour 20 = .ok (.istore_n 3, 1) := by decide +kernel
theorem dX6_turnFour_21 : decode cX6_turnFour 21 = .ok (.aload_n 0, 1) := by decide +kernel
theorem dX6_turnFour_22 : decode cX6_turnFour 22 = .ok (.getfield 33, 3) := by decide +kernel
theorem dX6_turnFour_25 : decode cX6_turnFour 25 = .ok (.iconst 3, 1) := by decide +kernel
theorem dX6_turnFour_26 : decode cX6_turnFour 26 = .ok (.iaload, 1) := by decide +kernel
theorem dX6_turnFour_27 : decode cX6_turnFour 27 = .ok (.istore 4, 2) := by decide +kernel
theorem dX6_turnFour_29 : decode cX6_turnFour 29 = .ok (.aload_n 0, 1) := by decide +kernel
theorem dX6_turnFour_30 : decode cX6_turnFour 30 = .ok (.getfield 33, 3) := by decide +kernel
theorem dX6_turnFour_33 : decode cX6_turnFour 33 = .ok (.iconst 0, 1) := by decide +kernel
theorem dX6_turnFour_34 : decode cX6_turnFour 34 = .ok (.iload_n 1, 1) := by decide +kernel
theorem dX6_turnFour_35 : decode cX6_turnFour 35 = .ok (.iload_n 2, 1) := by decide +kernel
theorem dX6_turnFour_36 : decode cX6_turnFour 36 = .ok (.iadd, 1) := by decide +kernel
theorem dX6_turnFour_37 : decode cX6_turnFour 37 = .ok (.iload_n 3, 1) := by decide +kernel
theorem dX6_turnFour_38 : decode cX6_turnFour 38 = .ok (.iadd, 1) := by decide +kernel
theorem dX6_turnFour_39 : decode cX6_turnFour 39 = .ok (.iload 4, 2) := by decide +kernel
theorem dX6_turnFour_41 : decode cX6_turnFour 41 = .ok (.iadd, 1) := by decide +kernel
theorem dX6_turnFour_42 : decode cX6_turnFour 42 = .ok (.iastore, 1) := by decide +kernel
theorem dX6_turnFour_43 : decode cX6_turnFour 43 = .ok (.aload_n 0, 1) := by decide +kernel
theorem dX6_turnFour_44 : decode cX6_turnFour 44 = .ok (.getfield 33, 3) := by decide +kernel
theorem dX6_turnFour_47 : decode cX6_turnFour 47 = .ok (.iconst 1, 1) := by decide +kernel
theorem dX6_turnFour_48 : decode cX6_turnFour 48 = .ok (.iload_n 1, 1) := by decide +kernel
theorem dX6_turnFour_49 : decode cX6_turnFour 49 = .ok (.iload_n 2, 1) := by decide +kernel
theorem dX6_turnFour_50 : decode cX6_turnFour 50 = .ok (.isub, 1) := by decide +kernel
theorem dX6_turnFour_51 : decode cX6_turnFour 51 = .ok (.iload_n 3, 1) := by decide +kernel
theorem dX6_turnFour_52 : decode cX6_turnFour 52 = .ok (.iadd, 1) := by decide +kernel
theorem dX6_turnFour_53 : decode cX6_turnFour 53 = .ok (.iload 4, 2) := by decide +kernel
theorem dX6_turnFour_55 : decode cX6_turnFour 55 = .ok (.isub, 1) := by decide +kernel
theorem dX6_turnFour_56 : decode cX6_turnFour 56 = .ok (.iastore, 1) := by decide +kernel
theorem dX6_turnFour_57 : decode cX6_turnFour 57 = .ok (.aload_n 0, 1) := by decide +kernel
theorem dX6_turnFour_58 : decode cX6_turnFour 58 = .ok (.getfield 33, 3) := by decide +kernel
theorem dX6_turnFour_61 : decode cX6_turnFour 61 = .ok (.iconst 2, 1) := by decide +kernel
theorem dX6_turnFour_62 : decode cX6_turnFour 62 = .ok (.iload_n 1, 1) := by decide +kernel
theorem dX6_turnFour_63 : decode cX6_turnFour 63 = .ok (.iload_n 2, 1) := by decide +kernel
theorem dX6_turnFour_64 : decode cX6_turnFour 64 = .ok (.iadd, 1) := by decide +kernel
theorem dX6_turnFour_65 : decode cX6_turnFour 65 = .ok (.iload_n 3, 1) := by decide +kernel
theorem dX6_turnFour_66 : decode cX6_turnFour 66 = .ok (.isub, 1) := by decide +kernel
theorem dX6_turnFour_67 : decode cX6_turnFour 67 = .ok (.iload 4, 2) := by decide +kernel
theorem dX6_turnFour_69 : decode cX6_turnFour 69 = .ok (.isub, 1) := by decide +kernel
theorem dX6_turnFour_70 : decode cX6_turnFour 70 = .ok (.iastore, 1) := by decide +kernel
theorem dX6_turnFour_71 : decode cX6_turnFour 71 = .ok (.aload_n 0, 1) := by decide +kernel
theorem dX6_turnFour_72 : decode cX6_turnFour 72 = .ok (.getfield 33, 3) := by decide +kernel
theorem dX6_turnFour_75 : decode cX6_turnFour 75 = .ok (.iconst 3, 1) := by decide +kernel
theorem dX6_turnFour_76 : decode cX6_turnFour 76 = .ok (.iload_n 1, 1) := by decide +kernel
theorem dX6_turnFour_77 : decode cX6_turnFour 77 = .ok (.iload_n 2, 1) := by decide +kernel
theorem dX6_turnFour_78 : decode cX6_turnFour 78 = .ok (.isub, 1) := by decide +kernel
theorem dX6_turnFour_79 : decode cX6_turnFour 79 = .ok (.iload_n 3, 1) := by decide +kernel
theorem dX6_turnFour_80 : decode cX6_turnFour 80 = .ok (.isub, 1) := by decide +kernel
theorem dX6_turnFour_81 : decode cX6_turnFour 81 = .ok (.iload 4, 2) := by decide +kernel
theorem dX6_turnFour_83 : decode cX6_turnFour 83 = .ok (.iadd, 1) := by decide +kernel
theorem dX6_turnFour_84 : decode cX6_turnFour 84 = .ok (.iastore, 1) := by decide +kernel
theorem dX6_turnFour_85 : decode cX6_turnFour 85 = .ok (.return_, 1) := by decide +kernel
def FX6_turnFour (G : GG) (M : DD) (a : Nat)  : Option (DD) :=
  dr G 13 ((M.2 a 7)) fun b1 =>
  chk (¬ (((0 : Int32)) < 0 ∨ G.2.2 b1 ≤ ((0 : Int32)).toNatClampNeg)) <|
  ltt (M.1 b1 ((0 : Int32)).toNatClampNeg) fun x2 =>
  chk (¬ (((1 : Int32)) < 0 ∨ G.2.2 b1 ≤ ((1 : Int32)).toNatClampNeg)) <|
  ltt (M.1 b1 ((1 : Int32)).toNatClampNeg) fun x3 =>
  chk (¬ (((2 : Int32)) < 0 ∨ G.2.2 b1 ≤ ((2 : Int32)).toNatClampNeg)) <|
  ltt (M.1 b1 ((2 : Int32)).toNatClampNeg) fun x4 =>
  chk (¬ (((3 : Int32)) < 0 ∨ G.2.2 b1 ≤ ((3 : Int32)).toNatClampNeg)) <|
  ltt (M.1 b1 ((3 : Int32)).toNatClampNeg) fun x5 =>
  ltt ((x2 + x3)) fun x6 =>
  ltt ((x6 + x4)) fun x7 =>
  ltt ((x7 + x5)) fun x8 =>
  chk (¬ (((0 : Int32)) < 0 ∨ G.2.2 b1 ≤ ((0 : Int32)).toNatClampNeg)) <|
  ltt (uI M b1 ((0 : Int32)).toNatClampNeg x8) fun M9 =>
  ltt ((x2 - x3)) fun x10 =>
  ltt ((x10 + x4)) fun x11 =>
  ltt ((x11 - x5)) fun x12 =>
  dr G 13 ((M9.2 a 7)) fun b13 =>
  chk (¬ (((1 : Int32)) < 0 ∨ G.2.2 b13 ≤ ((1 : Int32)).toNatClampNeg)) <|
  ltt (uI M9 b13 ((1 : Int32)).toNatClampNeg x12) fun M14 =>
  ltt ((x2 + x3)) fun x15 =>
  ltt ((x15 - x4)) fun x16 =>
  ltt ((x16 - x5)) fun x17 =>
  dr G 13 ((M14.2 a 7)) fun b18 =>
  chk (¬ (((2 : Int32)) < 0 ∨ G.2.2 b18 ≤ ((2 : Int32)).toNatClampNeg)) <|
  ltt (uI M14 b18 ((2 : Int32)).toNatClampNeg x17) fun M19 =>
  ltt ((x2 - x3)) fun x20 =>
  ltt ((x20 - x4)) fun x21 =>
  ltt ((x21 + x5)) fun x22 =>
  dr G 13 ((M19.2 a 7)) fun b23 =>
  chk (¬ (((3 : Int32)) < 0 ∨ G.2.2 b23 ≤ ((3 : Int32)).toNatClampNeg)) <|
  ltt (uI M19 b23 ((3 : Int32)).toNatClampNeg x22) fun M24 =>
  some M24
set_option maxHeartbeats 4000000 in
set_option maxRecDepth 100000 in
theorem kX6_turnFour (l : Launch) (D : va_G) (ct : CT) (ad : Nat → Nat) (Z : Nat → Nat) (G : GG) (M : DD) (sz : Nat) (a : Nat)  (y : DD) (hc : a < G.1) (hk : G.2.1 a = 6) (hF : FX6_turnFour G M a  = some y) : Met l yX6_turnFour wuX6_turnFour ({ frames := 0, cells := 0, slots := 0, locals := 0 }) (va_Pc [.ref (ad a)] (kB D ct ad Z G M sz)) (va_Qv (fun (_ : Unit) => True) (fun _ t => kE D ct ad G (wA ad G sz) y t) (wA ad G sz)) 0 0 (wA ad G sz) := by
  refine Met.ofW (cc := cX6_turnFour) (maxL := 5) (ret := none) (by decide) rfl ?_
  intro p e s m args below meth c s₁ B hml hv
  obtain ⟨rfl, hsz, hP, hK, hD0, hZ, hN⟩ := hv
  have hx := B.exec
  have hb := B.bytes
  have hr := B.returns
  have hts := atoms_spec (ws := wuX6_turnFour) B.pre
  have hown : s.vm.findClass RX6 = some m.cls := findClass_of_methodNamed B.named
  have hlocks := B.notSynchronized
  subst hsz
  have hD := wD_self (sz := s.heap.size) hD0
  have hA9 : ∀ q, s.heap.size ≤ q → wA ad G s.heap.size q := fun q h => Or.inr h
  generalize hAe : wA ad G s.heap.size = A at hD hA9 hZ ⊢
  have hS : va_S A s.heap s.heap [] := va_S.rf
  have hl := lv_entry ([.ref (ad a)]) (n := 5) (Nat.le_of_ble_eq_true rfl)
  rw [lg_entry_eq]
  generalize (lg_sl ([.ref (ad a)]) ++ List.replicate (5 - (lg_sl ([.ref (ad a)])).length) Slot.unset).toArray = ls at hl ⊢
  have hl : lv_has ls 5 [(0, .ref (ad a))] := hl
  unfold FX6_turnFour at hF
  refine lv_aload_n hx hb dX6_turnFour_0 rfl (lv_at hl 0 rfl) ?_
  refine va_get (D := D) (ci := 6) (v := va_re ad (M.2 a 7)) (C := RX6) (T := TX6) (N := 14) hx hb hts (mus hf_X6) hown hK hP a (wld_o ct ad G M hc hk (by decide)) rfl 7 (by decide) (hts (.fieldLink RX6 33 "VideoSuite$Samples" "even" "[I") (mu mw_543)) (fun _ h9 => h9) rfl dX6_turnFour_1 ?_
  refine lv_iconst (v := (0 : Int32)) hx hb dX6_turnFour_4 (by decide) ?_
  obtain ⟨b1, ho1, hc1, hk1, hF⟩ := dr_some hF
  refine W_st (st' := [.int (0 : Int32), .ref (ad b1)]) (by rw [va_some ho1]) ?_
  obtain ⟨hvc, hF⟩ := chk_some hF
  refine va_iald hx hb hK hP b1 1 (wld_i ct ad G M hc1 hk1) rfl hvc dX6_turnFour_5 ?_
  obtain ⟨x2, ex2, hF⟩ := ltt_some hF
  refine lv_topi (fun zx2 ezx2 => ?_)
  obtain rfl : x2 = zx2 := ex2.trans ezx2.symm
  refine lv_istore_n (lv' := [(1, .int x2), (0, .ref (ad a))]) hx hb dX6_turnFour_6 rfl hl (by decide) rfl (fun ls hl => ?_)
  refine lv_aload_n hx hb dX6_turnFour_7 rfl (lv_at hl 1 rfl) ?_
  refine va_get (D := D) (ci := 6) (v := va_re ad (M.2 a 7)) (C := RX6) (T := TX6) (N := 14) hx hb hts (mus hf_X6) hown hK hP a (wld_o ct ad G M hc hk (by decide)) rfl 7 (by decide) (hts (.fieldLink RX6 33 "VideoSuite$Samples" "even" "[I") (mu mw_543)) (fun _ h9 => h9) rfl dX6_turnFour_8 ?_
  refine lv_iconst (v := (1 : Int32)) hx hb dX6_turnFour_11 (by decide) ?_
  refine W_st (st' := [.int (1 : Int32), .ref (ad b1)]) (by rw [va_some ho1]) ?_
  obtain ⟨hvc, hF⟩ := chk_some hF
  refine va_iald hx hb hK hP b1 1 (wld_i ct ad G M hc1 hk1) rfl hvc dX6_turnFour_12 ?_
  obtain ⟨x3, ex3, hF⟩ := ltt_some hF
  refine lv_topi (fun zx3 ezx3 => ?_)
  obtain rfl : x3 = zx3 := ex3.trans ezx3.symm
  refine lv_istore_n (lv' := [(2, .int x3), (1, .int x2), (0, .ref (ad a))]) hx hb dX6_turnFour_13 rfl hl (by decide) rfl (fun ls hl => ?_)
  refine lv_aload_n hx hb dX6_turnFour_14 rfl (lv_at hl 2 rfl) ?_
  refine va_get (D := D) (ci := 6) (v := va_re ad (M.2 a 7)) (C := RX6) (T := TX6) (N := 14) hx hb hts (mus hf_X6) hown hK hP a (wld_o ct ad G M hc hk (by decide)) rfl 7 (by decide) (hts (.fieldLink RX6 33 "VideoSuite$Samples" "even" "[I") (mu mw_543)) (fun _ h9 => h9) rfl dX6_turnFour_15 ?_
  refine lv_iconst (v := (2 : Int32)) hx hb dX6_turnFour_18 (by decide) ?_
  refine W_st (st' := [.int (2 : Int32), .ref (ad b1)]) (by rw [va_some ho1]) ?_
  obtain ⟨hvc, hF⟩ := chk_some hF
  refine va_iald hx hb hK hP b1 1 (wld_i ct ad G M hc1 hk1) rfl hvc dX6_turnFour_19 ?_
  obtain ⟨x4, ex4, hF⟩ := ltt_some hF
  refine lv_topi (fun zx4 ezx4 => ?_)
  obtain rfl : x4 = zx4 := ex4.trans ezx4.symm
  refine lv_istore_n (lv' := [(3, .int x4), (2, .int x3), (1, .int x2), (0, .ref (ad a))]) hx hb dX6_turnFour_20 rfl hl (by decide) rfl (fun ls hl => ?_)
  refine lv_aload_n hx hb dX6_turnFour_21 rfl (lv_at hl 3 rfl) ?_
  refine va_get (D := D) (ci := 6) (v := va_re ad (M.2 a 7)) (C := RX6) (T := TX6) (N := 14) hx hb hts (mus hf_X6) hown hK hP a (wld_o ct ad G M hc hk (by decide)) rfl 7 (by decide) (hts (.fieldLink RX6 33 "VideoSuite$Samples" "even" "[I") (mu mw_543)) (fun _ h9 => h9) rfl dX6_turnFour_22 ?_
  refine lv_iconst (v := (3 : Int32)) hx hb dX6_turnFour_25 (by decide) ?_
  refine W_st (st' := [.int (3 : Int32), .ref (ad b1)]) (by rw [va_some ho1]) ?_
  obtain ⟨hvc, hF⟩ := chk_some hF
  refine va_iald hx hb hK hP b1 1 (wld_i ct ad G M hc1 hk1) rfl hvc dX6_turnFour_26 ?_
  obtain ⟨x5, ex5, hF⟩ := ltt_some hF
  refine lv_topi (fun zx5 ezx5 => ?_)
  obtain rfl : x5 = zx5 := ex5.trans ezx5.symm
  refine lv_istore (lv' := [(4, .int x5), (3, .int x4), (2, .int x3), (1, .int x2), (0, .ref (ad a))]) hx hb dX6_turnFour_27 hl (by decide) rfl (fun ls hl => ?_)
  refine lv_aload_n hx hb dX6_turnFour_29 rfl (lv_at hl 4 rfl) ?_
  refine va_get (D := D) (ci := 6) (v := va_re ad (M.2 a 7)) (C := RX6) (T := TX6) (N := 14) hx hb hts (mus hf_X6) hown hK hP a (wld_o ct ad G M hc hk (by decide)) rfl 7 (by decide) (hts (.fieldLink RX6 33 "VideoSuite$Samples" "even" "[I") (mu mw_543)) (fun _ h9 => h9) rfl dX6_turnFour_30 ?_
  refine lv_iconst (v := (0 : Int32)) hx hb dX6_turnFour_33 (by decide) ?_
  refine lv_iload_n hx hb dX6_turnFour_34 rfl (lv_at hl 3 rfl) ?_
  refine lv_iload_n hx hb dX6_turnFour_35 rfl (lv_at hl 2 rfl) ?_
  refine lv_iadd hx hb dX6_turnFour_36 ?_
  obtain ⟨x6, ex6, hF⟩ := ltt_some hF
  refine lv_topi (fun zx6 ezx6 => ?_)
  obtain rfl : x6 = zx6 := ex6.trans ezx6.symm
  refine lv_iload_n hx hb dX6_turnFour_37 rfl (lv_at hl 1 rfl) ?_
  refine lv_iadd hx hb dX6_turnFour_38 ?_
  obtain ⟨x7, ex7, hF⟩ := ltt_some hF
  refine lv_topi (fun zx7 ezx7 => ?_)
  obtain rfl : x7 = zx7 := ex7.trans ezx7.symm
  refine lv_iload hx hb dX6_turnFour_39 (lv_at hl 0 rfl) ?_
  refine lv_iadd hx hb dX6_turnFour_41 ?_
  obtain ⟨x8, ex8, hF⟩ := ltt_some hF
  refine lv_topi (fun zx8 ezx8 => ?_)
  obtain rfl : x8 = zx8 := ex8.trans ezx8.symm
  refine W_st (st' := [.int x8, .int (0 : Int32), .ref (ad b1)]) (by rw [va_some ho1]) ?_
  obtain ⟨hvc, hF⟩ := chk_some hF
  refine va_iast hx hb hK hP hD hS b1 1 (wld_i ct ad G M hc1 hk1) rfl hvc dX6_turnFour_42 (fun H locs hP hD hS => ?_)
  obtain ⟨M9, eM9, hF⟩ := ltt_some hF
  rw [set_i ct ad G M hc1 hk1, ← eM9] at hP hD
  refine lv_aload_n hx hb dX6_turnFour_43 rfl (lv_at hl 4 rfl) ?_
  refine va_get (D := D) (ci := 6) (v := va_re ad (M9.2 a 7)) (C := RX6) (T := TX6) (N := 14) hx hb hts (mus hf_X6) hown hK hP a (wld_o ct ad G M9 hc hk (by decide)) rfl 7 (by decide) (hts (.fieldLink RX6 33 "VideoSuite$Samples" "even" "[I") (mu mw_543)) (fun _ h9 => h9) rfl dX6_turnFour_44 ?_
  refine lv_iconst (v := (1 : Int32)) hx hb dX6_turnFour_47 (by decide) ?_
  refine lv_iload_n hx hb dX6_turnFour_48 rfl (lv_at hl 3 rfl) ?_
  refine lv_iload_n hx hb dX6_turnFour_49 rfl (lv_at hl 2 rfl) ?_
  refine lv_isub hx hb dX6_turnFour_50 ?_
  obtain ⟨x10, ex10, hF⟩ := ltt_some hF
  refine lv_topi (fun zx10 ezx10 => ?_)
  obtain rfl : x10 = zx10 := ex10.trans ezx10.symm
  refine lv_iload_n hx hb dX6_turnFour_51 rfl (lv_at hl 1 rfl) ?_
  refine lv_iadd hx hb dX6_turnFour_52 ?_
  obtain ⟨x11, ex11, hF⟩ := ltt_some hF
  refine lv_topi (fun zx11 ezx11 => ?_)
  obtain rfl : x11 = zx11 := ex11.trans ezx11.symm
  refine lv_iload hx hb dX6_turnFour_53 (lv_at hl 0 rfl) ?_
  refine lv_isub hx hb dX6_turnFour_55 ?_
  obtain ⟨x12, ex12, hF⟩ := ltt_some hF
  refine lv_topi (fun zx12 ezx12 => ?_)
  obtain rfl : x12 = zx12 := ex12.trans ezx12.symm
  obtain ⟨b13, ho13, hc13, hk13, hF⟩ := dr_some hF
  refine W_st (st' := [.int x12, .int (1 : Int32), .ref (ad b13)]) (by rw [va_some ho13]) ?_
  obtain ⟨hvc, hF⟩ := chk_some hF
  refine va_iast hx hb hK hP hD hS b13 1 (wld_i ct ad G M9 hc13 hk13) rfl hvc dX6_turnFour_56 (fun H locs hP hD hS => ?_)
  obtain ⟨M14, eM14, hF⟩ := ltt_some hF
  rw [set_i ct ad G M9 hc13 hk13, ← eM14] at hP hD
  refine lv_aload_n hx hb dX6_turnFour_57 rfl (lv_at hl 4 rfl) ?_
  refine va_get (D := D) (ci := 6) (v := va_re ad (M14.2 a 7)) (C := RX6) (T := TX6) (N := 14) hx hb hts (mus hf_X6) hown hK hP a (wld_o ct ad G M14 hc hk (by decide)) rfl 7 (by decide) (hts (.fieldLink RX6 33 "VideoSuite$Samples" "even" "[I") (mu mw_543)) (fun _ h9 => h9) rfl dX6_turnFour_58 ?_
  refine lv_iconst (v := (2 : Int32)) hx hb dX6_turnFour_61 (by decide) ?_
  refine lv_iload_n hx hb dX6_turnFour_62 rfl (lv_at hl 3 rfl) ?_
  refine lv_iload_n hx hb dX6_turnFour_63 rfl (lv_at hl 2 rfl) ?_
  refine lv_iadd hx hb dX6_turnFour_64 ?_
  obtain ⟨x15, ex15, hF⟩ := ltt_some hF
  refine lv_topi (fun zx15 ezx15 => ?_)
  obtain rfl : x15 = zx15 := ex15.trans ezx15.symm
  refine lv_iload_n hx hb dX6_turnFour_65 rfl (lv_at hl 1 rfl) ?_
  refine lv_isub hx hb dX6_turnFour_66 ?_
  obtain ⟨x16, ex16, hF⟩ := ltt_some hF
  refine lv_topi (fun zx16 ezx16 => ?_)
  obtain rfl : x16 = zx16 := ex16.trans ezx16.symm
  refine lv_iload hx hb dX6_turnFour_67 (lv_at hl 0 rfl) ?_
  refine lv_isub hx hb dX6_turnFour_69 ?_
  obtain ⟨x17, ex17, hF⟩ := ltt_some hF
  refine lv_topi (fun zx17 ezx17 => ?_)
  obtain rfl : x17 = zx17 := ex17.trans ezx17.symm
  obtain ⟨b18, ho18, hc18, hk18, hF⟩ := dr_some hF
  refine W_st (st' := [.int x17, .int (2 : Int32), .ref (ad b18)]) (by rw [va_some ho18]) ?_
  obtain ⟨hvc, hF⟩ := chk_some hF
  refine va_iast hx hb hK hP hD hS b18 1 (wld_i ct ad G M14 hc18 hk18) rfl hvc dX6_turnFour_70 (fun H locs hP hD hS => ?_)
  obtain ⟨M19, eM19, hF⟩ := ltt_some hF
  rw [set_i ct ad G M14 hc18 hk18, ← eM19] at hP hD
  refine lv_aload_n hx hb dX6_turnFour_71 rfl (lv_at hl 4 rfl) ?_
  refine va_get (D := D) (ci := 6) (v := va_re ad (M19.2 a 7)) (C := RX6) (T := TX6) (N := 14) hx hb hts (mus hf_X6) hown hK hP a (wld_o ct ad G M19 hc hk (by decide)) rfl 7 (by decide) (hts (.fieldLink RX6 33 "VideoSuite$Samples" "even" "[I") (mu mw_543)) (fun _ h9 => h9) rfl dX6_turnFour_72 ?_
  refine lv_iconst (v := (3 : Int32)) hx hb dX6_turnFour_75 (by decide) ?_
  refine lv_iload_n hx hb dX6_turnFour_76 rfl (lv_at hl 3 rfl) ?_
  refine lv_iload_n hx hb dX6_turnFour_77 rfl (lv_at hl 2 rfl) ?_
  refine lv_isub hx hb dX6_turnFour_78 ?_
  obtain ⟨x20, ex20, hF⟩ := ltt_some hF
  refine lv_topi (fun zx20 ezx20 => ?_)
  obtain rfl : x20 = zx20 := ex20.trans ezx20.symm
  refine lv_iload_n hx hb dX6_turnFour_79 rfl (lv_at hl 1 rfl) ?_
  refine lv_isub hx hb dX6_turnFour_80 ?_
  obtain ⟨x21, ex21, hF⟩ := ltt_some hF
  refine lv_topi (fun zx21 ezx21 => ?_)
  obtain rfl : x21 = zx21 := ex21.trans ezx21.symm
  refine lv_iload hx hb dX6_turnFour_81 (lv_at hl 0 rfl) ?_
  refine lv_iadd hx hb dX6_turnFour_83 ?_
  obtain ⟨x22, ex22, hF⟩ := ltt_some hF
  refine lv_topi (fun zx22 ezx22 => ?_)
  obtain rfl : x22 = zx22 := ex22.trans ezx22.symm
  obtain ⟨b23, ho23, hc23, hk23, hF⟩ := dr_some hF
  refine W_st (st' := [.int x22, .int (3 : Int32), .ref (ad b23)]) (by rw [va_some ho23]) ?_
  obtain ⟨hvc, hF⟩ := chk_some hF
  refine va_iast hx hb hK hP hD hS b23 1 (wld_i ct ad G M19 hc23 hk23) rfl hvc dX6_turnFour_84 (fun H locs hP hD hS => ?_)
  obtain ⟨M24, eM24, hF⟩ := ltt_some hF
  rw [set_i ct ad G M19 hc23 hk23, ← eM24] at hP hD
  obtain rfl := Option.some.inj hF
  exact W.vret hx hb hr (fun t ht hW => ⟨⟨(), rfl, trivial, ⟨by rw [ht]; exact hP, va_K.moved hW.alike hK, hD⟩⟩, hS.F ht⟩) hS.2.2 dX6_turnFour_85
theorem dX6_two_0 : decode cX6_two 0 = .ok (.aload_n 0, 1) := by decide +kernel
theorem dX6_two_1 : decode cX6_two 1 = .ok (.getfield 36, 3) := by decide +kernel
theorem dX6_two_4 : decode cX6_two 4 = .ok (.iload_n 1, 1) := by decide +kernel
theorem dX6_two_5 : decode cX6_two 5 = .ok (.iaload, 1) := by decide +kernel
theorem dX6_two_6 : decode cX6_two 6 = .ok (.aload_n 0, 1) := by decide +kernel
theorem dX6_two_7 : decode cX6_two 7 = .ok (.getfield 36, 3) := by decide +kernel
theorem dX6_two_10 : decode cX6_two 10 = .ok (.iload_n 2, 1) := by decide +kernel
theorem dX6_two_11 : decode cX6_two 11 = .ok (.iaload, 1) := by decide +kernel
theorem dX6_two_12 : decode cX6_two 12 = .ok (.iadd, 1) := by decide +kernel
theorem dX6_two_13 : decode cX6_two 13 = .ok (.iconst 1, 1) := by decide +kernel
theorem dX6_two_14 : decode cX6_two 14 = .ok (.iadd, 1) := by decide +kernel
theorem dX6_two_15 : decode cX6_two 15 = .ok (.iconst 1, 1) := by decide +kernel
theorem dX6_two_16 : decode cX6_two 16 = .ok (.ishr, 1) := by decide +kernel
theorem dX6_two_17 : decode cX6_two 17 = .ok (.ireturn, 1) := by decide +kernel
def FX6_two (G : GG) (M : DD) (a : Nat) (p0 : Int32) (p1 : Int32) : Option (DD × Int32) :=
  dr G 13 ((M.2 a 8)) fun b1 =>
  chk (¬ (p0 < 0 ∨ G.2.2 b1 ≤ p0.toNatClampNeg)) <|
  ltt (M.1 b1 p0.toNatClampNeg) fun x2 =>
  chk (¬ (p1 < 0 ∨ G.2.2 b1 ≤ p1.toNatClampNeg)) <|
  ltt (M.1 b1 p1.toNatClampNeg) fun x3 =>
  ltt ((x2 + x3)) fun x4 =>
  ltt ((x4 + ((1 : Int32)))) fun x5 =>
  ltt ((x5 >>> (((1 : Int32)) &&& 31))) fun x6 =>
  some (M, x6)
set_option maxHeartbeats 4000000 in
set_option maxRecDepth 100000 in
theorem kX6_two (l : Launch) (D : va_G) (ct : CT) (ad : Nat → Nat) (Z : Nat → Nat) (G : GG) (M : DD) (sz : Nat) (a : Nat) (p0 : Int32) (p1 : Int32) (y : DD × Int32) (hc : a < G.1) (hk : G.2.1 a = 6) (hF : FX6_two G M a p0 p1 = some y) : Met l yX6_two wuX6_two ({ frames := 0, cells := 0, slots := 0, locals := 0 }) (va_Pc [.ref (ad a), .int p0, .int p1] (kB D ct ad Z G M sz)) (va_Qi (fun (q : Int32) (_ : Unit) => q = y.2) (fun _ t => kE D ct ad G (wA ad G sz) y.1 t) (wA ad G sz)) 0 0 (wA ad G sz) := by
  refine Met.ofW (cc := cX6_two) (maxL := 3) (ret := (some .int)) (by decide) rfl ?_
  intro p e s m args below meth c s₁ B hml hv
  obtain ⟨rfl, hsz, hP, hK, hD0, hZ, hN⟩ := hv
  have hx := B.exec
  have hb := B.bytes
  have hr := B.returns
  have hts := atoms_spec (ws := wuX6_two) B.pre
  have hown : s.vm.findClass RX6 = some m.cls := findClass_of_methodNamed B.named
  have hlocks := B.notSynchronized
  subst hsz
  have hD := wD_self (sz := s.heap.size) hD0
  have hA9 : ∀ q, s.heap.size ≤ q → wA ad G s.heap.size q := fun q h => Or.inr h
  generalize hAe : wA ad G s.heap.size = A at hD hA9 hZ ⊢
  have hS : va_S A s.heap s.heap [] := va_S.rf
  have hl := lv_entry ([.ref (ad a), .int p0, .int p1]) (n := 3) (Nat.le_of_ble_eq_true rfl)
  rw [lg_entry_eq]
  generalize (lg_sl ([.ref (ad a), .int p0, .int p1]) ++ List.replicate (3 - (lg_sl ([.ref (ad a), .int p0, .int p1])).length) Slot.unset).toArray = ls at hl ⊢
  have hl : lv_has ls 3 [(0, .ref (ad a)), (1, .int p0), (2, .int p1)] := hl
  unfold FX6_two at hF
  refine lv_aload_n hx hb dX6_two_0 rfl (lv_at hl 0 rfl) ?_
  refine va_get (D := D) (ci := 6) (v := va_re ad (M.2 a 8)) (C := RX6) (T := TX6) (N := 14) hx hb hts (mus hf_X6) hown hK hP a (wld_o ct ad G M hc hk (by decide)) rfl 8 (by decide) (hts (.fieldLink RX6 36 "VideoSuite$Samples" "around" "[I") (mu mw_544)) (fun _ h9 => h9) rfl dX6_two_1 ?_
  refine lv_iload_n hx hb dX6_two_4 rfl (lv_at hl 1 rfl) ?_
  obtain ⟨b1, ho1, hc1, hk1, hF⟩ := dr_some hF
  refine W_st (st' := [.int p0, .ref (ad b1)]) (by rw [va_some ho1]) ?_
  obtain ⟨hvc, hF⟩ := chk_some hF
  refine va_iald hx hb hK hP b1 1 (wld_i ct ad G M hc1 hk1) rfl hvc dX6_two_5 ?_
  obtain ⟨x2, ex2, hF⟩ := ltt_some hF
  refine lv_topi (fun zx2 ezx2 => ?_)
  obtain rfl : x2 = zx2 := ex2.trans ezx2.symm
  refine lv_aload_n hx hb dX6_two_6 rfl (lv_at hl 0 rfl) ?_
  refine va_get (D := D) (ci := 6) (v := va_re ad (M.2 a 8)) (C := RX6) (T := TX6) (N := 14) hx hb hts (mus hf_X6) hown hK hP a (wld_o ct ad G M hc hk (by decide)) rfl 8 (by decide) (hts (.fieldLink RX6 36 "VideoSuite$Samples" "around" "[I") (mu mw_544)) (fun _ h9 => h9) rfl dX6_two_7 ?_
  refine lv_iload_n hx hb dX6_two_10 rfl (lv_at hl 2 rfl) ?_
  refine W_st (st' := [.int p1, .ref (ad b1), .int x2]) (by rw [va_some ho1]) ?_
  obtain ⟨hvc, hF⟩ := chk_some hF
  refine va_iald hx hb hK hP b1 1 (wld_i ct ad G M hc1 hk1) rfl hvc dX6_two_11 ?_
  obtain ⟨x3, ex3, hF⟩ := ltt_some hF
  refine lv_topi (fun zx3 ezx3 => ?_)
  obtain rfl : x3 = zx3 := ex3.trans ezx3.symm
  refine lv_iadd hx hb dX6_two_12 ?_
  obtain ⟨x4, ex4, hF⟩ := ltt_some hF
  refine lv_topi (fun zx4 ezx4 => ?_)
  obtain rfl : x4 = zx4 := ex4.trans ezx4.symm
  refine lv_iconst (v := (1 : Int32)) hx hb dX6_two_13 (by decide) ?_
  refine lv_iadd hx hb dX6_two_14 ?_
  obtain ⟨x5, ex5, hF⟩ := ltt_some hF
  refine lv_topi (fun zx5 ezx5 => ?_)
  obtain rfl : x5 = zx5 := ex5.trans ezx5.symm
  refine lv_iconst (v := (1 : Int32)) hx hb dX6_two_15 (by decide) ?_
  refine lv_ishr hx hb dX6_two_16 ?_
  obtain ⟨x6, ex6, hF⟩ := ltt_some hF
  refine lv_topi (fun zx6 ezx6 => ?_)
  obtain rfl : x6 = zx6 := ex6.trans ezx6.symm
  obtain rfl := Option.some.inj hF
  exact W.iret (v := x6) hx hb hr (fun t ht hW => ⟨⟨_, (), rfl, rfl, ⟨by rw [ht]; exact hP, va_K.moved hW.alike hK, hD⟩⟩, hS.F ht⟩) hS.2.2 dX6_two_17
set_option maxRecDepth 20000 in
theorem gX6_unfold_J7_fill_53178 : GoodIn wuX6_unfold (va_wsS RX6 212 yJ7_fill_53178 wuJ7_fill_53178) := gu_S mw_2093 mw_1125 mw_182 mw_1126
set_option maxRecDepth 20000 in
set_option maxRecDepth 20000 in
theorem gX6_unfold_X6_normAt : GoodIn wuX6_unfold (va_wsS RX6 227 yX6_normAt wuX6_normAt) := gu_S mw_2096 mw_2097 mw_172 mw_2098
theorem dX6_unfold_0 : decode cX6_unfold 0 = .ok (.aload_n 0, 1) := by decide +kernel
theorem dX6_unfold_1 : decode cX6_unfold 1 = .ok (.getfield 30, 3) := by decide +kernel
theorem dX6_unfold_4 : decode cX6_unfold 4 = .ok (.iconst 0, 1) := by decide +kernel
theorem dX6_unfold_5 : decode cX6_unfold 5 = .ok (.invokestatic 212, 3) := by decide +kernel
theorem dX6_unfold_8 : decode cX6_unfold 8 = .ok (.iload_n 3, 1) := by decide +kernel
theorem dX6_unfold_9 : decode cX6_unfold 9 = .ok (.istore 5, 2) := by decide +kernel
theorem dX6_unfold_11 : decode cX6_unfold 11 = .ok (.iload 5, 2) := by decide +kernel
theorem dX6_unfold_13 : decode cX6_unfold 13 = .ok (.bipush 16, 2) := by decide +kernel
theorem dX6_unfold_15 : decode cX6_unfold 15 = .ok (.if_icmp .ge 63, 3) := by decide +kernel
theorem dX6_unfold_18 : decode cX6_unfold 18 = .ok (.getstatic 218, 3) := by decide +kernel
theorem dX6_unfold_21 : decode cX6_unfold 21 = .ok (.iload 5, 2) := by decide +kernel
theorem dX6_unfold_23 : decode cX6_unfold 23 = .ok (.iaload, 1) := by decide +kernel
theorem dX6_unfold_24 : decode cX6_unfold 24 = .ok (.istore 6, 2) := by decide +kernel
theorem dX6_unfold_26 : decode cX6_unfold 26 = .ok (.getstatic 221, 3) := by decide +kernel
theorem dX6_unfold_29 : decode cX6_unfold 29 = .ok (.iload 5, 2) := by decide +kernel
theorem dX6_unfold_31 : decode cX6_unfold 31 = .ok (.iaload, 1) := by decide +kernel
theorem dX6_unfold_32 : decode cX6_unfold 32 = .ok (.istore 7, 2) := by decide +kernel
theorem dX6_unfold_34 : decode cX6_unfold 34 = .ok (.aload_n 0, 1) := by decide +kernel
theorem dX6_unfold_35 : decode cX6_unfold 35 = .ok (.getfield 30, 3) := by decide +kernel
theorem dX6_unfold_38 : decode cX6_unfold 38 = .ok (.iconst 4, 1) := by decide +kernel
theorem dX6_unfold_39 : decode cX6_unfold 39 = .ok (.iload 7, 2) := by decide +kernel
theorem dX6_unfold_41 : decode cX6_unfold 41 = .ok (.imul, 1) := by decide +kernel
theorem dX6_unfold_42 : decode cX6_unfold 42 = .ok (.iload 6, 2) := by decide +kernel
theorem dX6_unfold_44 : decode cX6_unfold 44 = .ok (.iadd, 1) := by decide +kernel
theorem dX6_unfold_45 : decode cX6_unfold 45 = .ok (.aload_n 1, 1) := by decide +kernel
theorem dX6_unfold_46 : decode cX6_unfold 46 = .ok (.iload_n 2, 1) := by decide +kernel
theorem dX6_unfold_47 : decode cX6_unfold 47 = .ok (.iload 5, 2) := by decide +kernel
theorem dX6_unfold_49 : decode cX6_unfold 49 = .ok (.iadd, 1) := by decide +kernel
theorem dX6_unfold_50 : decode cX6_unfold 50 = .ok (.iaload, 1) := by decide +kernel
theorem dX6_unfold_51 : decode cX6_unfold 51 = .ok (.getstatic 224, 3) := by decide +kernel
theorem dX6_unfold_54 : decode cX6_unfold 54 = .ok (.iload 4, 2) := by decide +kernel
theorem dX6_unfold_56 : decode cX6_unfold 56 = .ok (.iload 6, 2) := by decide +kernel
theorem dX6_unfold_58 : decode cX6_unfold 58 = .ok (.iload 7, 2) := by decide +kernel
theorem dX6_unfold_60 : decode cX6_unfold 60 = .ok (.invokestatic 227, 3) := by decide +kernel
theorem dX6_unfold_63 : decode cX6_unfold 63 = .ok (.iaload, 1) := by decide +kernel
theorem dX6_unfold_64 : decode cX6_unfold 64 = .ok (.imul, 1) := by decide +kernel
theorem dX6_unfold_65 : decode cX6_unfold 65 = .ok (.iload 4, 2) := by decide +kernel
theorem dX6_unfold_67 : decode cX6_unfold 67 = .ok (.bipush 6, 2) := by decide +kernel
theorem dX6_unfold_69 : decode cX6_unfold 69 = .ok (.idiv, 1) := by decide +kernel
theorem dX6_unfold_70 : decode cX6_unfold 70 = .ok (.ishl, 1) := by decide +kernel
theorem dX6_unfold_71 : decode cX6_unfold 71 = .ok (.iastore, 1) := by decide +kernel
theorem dX6_unfold_72 : decode cX6_unfold 72 = .ok (.iinc 5 1, 3) := by decide +kernel
theorem dX6_unfold_75 : decode cX6_unfold 75 = .ok (.goto (-64), 3) := by decide +kernel
theorem dX6_unfold_78 : decode cX6_unfold 78 = .ok (.return_, 1) := by decide +kernel
def FX6_unfold (G : GG) (M : DD) (a : Nat) (p0 : Option Nat) (p1 : Int32) (p2 : Int32) (p3 : Int32) : Option (DD) :=
  bnd (FJ7_fill_53178 G M ((M.2 a 6)) ((0 : Int32))) fun y1 =>
  bnd (itr (fun (s3 : Int32 × DD) => ((if ((16 : Int32)) ≤ s3.1 then (some (.inr (s3.1, s3.2))) else
  (chk (¬ (s3.1 < 0 ∨ 16 ≤ s3.1.toNatClampNeg)) <|
  ltt ((sT 14).getD s3.1.toNatClampNeg 0) fun x7 =>
  chk (¬ (s3.1 < 0 ∨ 16 ≤ s3.1.toNatClampNeg)) <|
  ltt ((sT 15).getD s3.1.toNatClampNeg 0) fun x8 =>
  ltt ((((4 : Int32)) * x8)) fun x9 =>
  ltt ((x9 + x7)) fun x10 =>
  ltt ((p1 + s3.1)) fun x11 =>
  dr G 13 p0 fun b12 =>
  chk (¬ (x11 < 0 ∨ G.2.2 b12 ≤ x11.toNatClampNeg)) <|
  ltt (s3.2.1 b12 x11.toNatClampNeg) fun x13 =>
  bnd (FX6_normAt G s3.2 p3 x7 x8) fun y14 =>
  chk (¬ (y14.2 < 0 ∨ 18 ≤ y14.2.toNatClampNeg)) <|
  ltt ((sT 13).getD y14.2.toNatClampNeg 0) fun x15 =>
  ltt ((x13 * x15)) fun x16 =>
  ltt (p3 / ((6 : Int32))) fun x17 =>
  ltt ((x16 <<< (x17 &&& 31))) fun x18 =>
  dr G 13 ((s3.2.2 a 6)) fun b19 =>
  chk (¬ (x10 < 0 ∨ G.2.2 b19 ≤ x10.toNatClampNeg)) <|
  ltt (uI y14.1 b19 x10.toNatClampNeg x18) fun M20 =>
  ltt (s3.1 + (1 : Int32)) fun x21 =>
  some (.inl (x21, M20)))) : Option ((Int32 × DD) ⊕ (Int32 × DD)))) 1000000 (p2, y1)) fun (y2 : Int32 × DD) =>
  some y2.2
set_option maxHeartbeats 4000000 in
set_option maxRecDepth 100000 in
theorem kX6_unfold (l : Launch) (D : va_G) (ct : CT) (ad : Nat → Nat) (Z : Nat → Nat) (G : GG) (M : DD) (sz : Nat) (a : Nat) (p0 : Option Nat) (p1 : Int32) (p2 : Int32) (p3 : Int32) (y : DD) (hc : a < G.1) (hk : G.2.1 a = 6) (hF : FX6_unfold G M a p0 p1 p2 p3 = some y) : Met l yX6_unfold wuX6_unfold ({ frames := 1, cells := 0, slots := 0, locals := 23 }) (va_Pc [.ref (ad a), va_re ad p0, .int p1, .int p2, .int p3] (kB D ct ad Z G M sz)) (va_Qv (fun (_ : Unit) => True) (fun _ t => kE D ct ad G (wA ad G sz) y t) (wA ad G sz)) 0 0 (wA ad G sz) := by
  refine Met.ofW (cc := cX6_unfold) (maxL := 8) (ret := none) (by decide) rfl ?_
  intro p e s m args below meth c s₁ B hml hv
  obtain ⟨rfl, hsz, hP, hK, hD0, hZ, hN⟩ := hv
  have hx := B.exec
  have hb := B.bytes
  have hr := B.returns
  have hts := atoms_spec (ws := wuX6_unfold) B.pre
  have hown : s.vm.findClass RX6 = some m.cls := findClass_of_methodNamed B.named
  have hlocks := B.notSynchronized
  subst hsz
  have hD := wD_self (sz := s.heap.size) hD0
  have hA9 : ∀ q, s.heap.size ≤ q → wA ad G s.heap.size q := fun q h => Or.inr h
  generalize hAe : wA ad G s.heap.size = A at hD hA9 hZ ⊢
  have hS : va_S A s.heap s.heap [] := va_S.rf
  have hl := lv_entry ([.ref (ad a), va_re ad p0, .int p1, .int p2, .int p3]) (n := 8) (by cases p0 <;> exact Nat.le_of_ble_eq_true rfl)
  rw [lg_entry_eq]
  generalize (lg_sl ([.ref (ad a), va_re ad p0, .int p1, .int p2, .int p3]) ++ List.replicate (8 - (lg_sl ([.ref (ad a), va_re ad p0, .int p1, .int p2, .int p3])).length) Slot.unset).toArray = ls at hl ⊢
  have hl : lv_has ls 8 [(0, .ref (ad a)), (1, va_re ad p0), (2, .int p1), (3, .int p2), (4, .int p3)] := by have e9 : lv_args 0 [.ref (ad a), va_re ad p0, .int p1, .int p2, .int p3] = [(0, .ref (ad a)), (1, va_re ad p0), (2, .int p1), (3, .int p2), (4, .int p3)] := (by cases p0 <;> rfl); rw [e9] at hl; exact hl
  unfold FX6_unfold at hF
  refine lv_aload_n hx hb dX6_unfold_0 rfl (lv_at hl 0 rfl) ?_
  refine va_get (D := D) (ci := 6) (v := va_re ad (M.2 a 6)) (C := RX6) (T := TX6) (N := 14) hx hb hts (mus hf_X6) hown hK hP a (wld_o ct ad G M hc hk (by decide)) rfl 6 (by decide) (hts (.fieldLink RX6 30 "VideoSuite$Samples" "rest" "[I") (mu mw_542)) (fun _ h9 => h9) rfl dX6_unfold_1 ?_
  refine lv_iconst (v := (0 : Int32)) hx hb dX6_unfold_4 (by decide) ?_
  obtain ⟨y1, hy1, hF⟩ := bnd_some hF
  have hf9 := wA_in hD hA9 hS
  refine va_callv (va_runS (As := [va_re ad (M.2 a 6), .int (0 : Int32)]) (rest := []) ⟨hx, hb, hml, hown, hts⟩ (kJ7_fill_53178 l D ct ad Z G M s.heap.size ((M.2 a 6)) ((0 : Int32)) y1 hy1) (va_cwS 2 hts gX6_unfold_J7_fill_53178 rfl rfl rfl (by decide +kernel) ⟨Nat.le_of_ble_eq_true rfl, Nat.le_of_ble_eq_true rfl⟩) ⟨fun a U g mk q => by obtain ⟨q0, q1, qP, qK, qD, qZ, qN⟩ := q; exact ⟨q0, q1, qP, va_K.moved (u := U) (U := U.calling g mk a) (Vm.Alike.refl U.vm) qK, qD, sF.moved (u := U) (U := U.calling g mk a) (Vm.Alike.refl U.vm) qZ, nF.same rfl qN⟩, fun U hU hW => ⟨rfl, by rw [hU], by rw [hU]; exact hP, va_K.moved hW.alike hK, hD.weaken (fun _ _ _ _ => trivial), by rw [hU]; exact ((hZ.kept hS.2.1).narrow hf9).moved hW.alike, hN.warm hW⟩⟩ rfl rfl hl.1 rfl (lv_room (Nat.le_of_ble_eq_true rfl)) dX6_unfold_5 ⟨(Nat.zero_le _), (Nat.zero_le _)⟩) hS (fun q _ h => hf9 q h) hf9 (fun u t H locs ht hvm hw hB hz1 hk1 hS => ?_)
  obtain ⟨hP, hK9, hD9⟩ := hB
  rw [ht] at hP
  have hD := hD9.weaken (fun _ q _ h => hf9 q.1 h)
  refine lv_iload_n hx hb dX6_unfold_8 rfl (lv_at hl 3 rfl) ?_
  refine lv_istore (lv' := [(5, .int p2), (0, .ref (ad a)), (1, va_re ad p0), (2, .int p1), (3, .int p2), (4, .int p3)]) hx hb dX6_unfold_9 hl (by decide) rfl (fun ls hl => ?_)
  obtain ⟨y2, hy2, hF⟩ := bnd_some hF
  have K2 : ∀ (H : Heap) (locs : List Loc) (ls : Array Slot), va_P D classes (wld ct ad G y2.2) H → va_D A (wld ct ad G y2.2) → va_S A s.heap H locs → lv_has ls 8 [(5, .int y2.1), (0, .ref (ad a)), (1, va_re ad p0), (2, .int p1), (3, .int p2), (4, .int p3)] → W p l e (headSpec wuX6_unfold ({ frames := 1, cells := 0, slots := 0, locals := 23 })).room s m ([.ref (ad a), va_re ad p0, .int p1, .int p2, .int p3] : List Value).toArray below meth c H locs 0 0 (MQ below (va_Qv (fun (_ : Unit) => True) (fun _ t => kE D ct ad G A y t) A) ([.ref (ad a), va_re ad p0, .int p1, .int p2, .int p3] : List Value).toArray s 0 0 A) (F0 m 78 ls []) := by
    intro H locs ls hP hD hS hl
    obtain rfl := Option.some.inj hF
    exact W.vret hx hb hr (fun t ht hW => ⟨⟨(), rfl, trivial, ⟨by rw [ht]; exact hP, va_K.moved hW.alike hK, hD⟩⟩, hS.F ht⟩) hS.2.2 dX6_unfold_78
  clear hF
  refine itr_rule (fun (s3 : Int32 × DD) => ∀ (H : Heap) (locs : List Loc) (ls : Array Slot), va_P D classes (wld ct ad G s3.2) H → va_D A (wld ct ad G s3.2) → va_S A s.heap H locs → lv_has ls 8 [(5, .int s3.1), (0, .ref (ad a)), (1, va_re ad p0), (2, .int p1), (3, .int p2), (4, .int p3)] → W p l e (headSpec wuX6_unfold ({ frames := 1, cells := 0, slots := 0, locals := 23 })).room s m ([.ref (ad a), va_re ad p0, .int p1, .int p2, .int p3] : List Value).toArray below meth c H locs 0 0 (MQ below (va_Qv (fun (_ : Unit) => True) (fun _ t => kE D ct ad G A y t) A) ([.ref (ad a), va_re ad p0, .int p1, .int p2, .int p3] : List Value).toArray s 0 0 A) (F0 m 11 ls [])) ?_ _ _ hy2 _ _ _ hP hD hS (lv_sub hl [0, 1, 2, 3, 4, 5] rfl)
  rintro s3 ⟨z5, hF, hwz5⟩ H locs ls hP hD hS hl
  try dsimp only at hF
  refine lv_iload hx hb dX6_unfold_11 (lv_at hl 0 rfl) ?_
  refine lv_bipush (v := (16 : Int32)) hx hb dX6_unfold_13 (by decide) ?_
  refine lv_icmp_ge (tgt := 78) hx hb dX6_unfold_15 (by decide) (fun c6 => ?_) (fun c6 => ?_)
  · rw [if_pos c6] at hF
    obtain rfl := Option.some.inj hF
    subst hwz5
    exact K2 _ _ _ hP hD hS (lv_sub hl [0, 1, 2, 3, 4, 5] rfl)
  · rw [if_neg c6] at hF
    refine va_gets hx hb (hZ.1 14 (by decide)).1 hS hown (hts (.fieldLink RX6 218 "VideoSuite$Samples" "SCAN_X" "[I") (mu mw_2083)) (fun _ h => h) dX6_unfold_18 ?_
    refine lv_iload hx hb dX6_unfold_21 (lv_at hl 0 rfl) ?_
    obtain ⟨hvc, hF⟩ := chk_some hF
    refine va_ti (v := .int ((sT 14).getD s3.1.toNatClampNeg 0)) hx hb (hZ.1 14 (by decide)).2 hS hvc rfl dX6_unfold_23 ?_
    obtain ⟨x7, ex7, hF⟩ := ltt_some hF
    refine lv_topi (fun zx7 ezx7 => ?_)
    obtain rfl : x7 = zx7 := ex7.trans ezx7.symm
    refine lv_istore (lv' := [(6, .int x7), (5, .int s3.1), (0, .ref (ad a)), (1, va_re ad p0), (2, .int p1), (3, .int p2), (4, .int p3)]) hx hb dX6_unfold_24 hl (by decide) rfl (fun ls hl => ?_)
    refine va_gets hx hb (hZ.1 15 (by decide)).1 hS hown (hts (.fieldLink RX6 221 "VideoSuite$Samples" "SCAN_Y" "[I") (mu mw_2081)) (fun _ h => h) dX6_unfold_26 ?_
    refine lv_iload hx hb dX6_unfold_29 (lv_at hl 1 rfl) ?_
    obtain ⟨hvc, hF⟩ := chk_some hF
    refine va_ti (v := .int ((sT 15).getD s3.1.toNatClampNeg 0)) hx hb (hZ.1 15 (by decide)).2 hS hvc rfl dX6_unfold_31 ?_
    obtain ⟨x8, ex8, hF⟩ := ltt_some hF
    refine lv_topi (fun zx8 ezx8 => ?_)
    obtain rfl : x8 = zx8 := ex8.trans ezx8.symm
    refine lv_istore (lv' := [(7, .int x8), (6, .int x7), (5, .int s3.1), (0, .ref (ad a)), (1, va_re ad p0), (2, .int p1), (3, .int p2), (4, .int p3)]) hx hb dX6_unfold_32 hl (by decide) rfl (fun ls hl => ?_)
    refine lv_aload_n hx hb dX6_unfold_34 rfl (lv_at hl 3 rfl) ?_
    refine va_get (D := D) (ci := 6) (v := va_re ad (s3.2.2 a 6)) (C := RX6) (T := TX6) (N := 14) hx hb hts (mus hf_X6) hown hK hP a (wld_o ct ad G s3.2 hc hk (by decide)) rfl 6 (by decide) (hts (.fieldLink RX6 30 "VideoSuite$Samples" "rest" "[I") (mu mw_542)) (fun _ h9 => h9) rfl dX6_unfold_35 ?_
    refine lv_iconst (v := (4 : Int32)) hx hb dX6_unfold_38 (by decide) ?_
    refine lv_iload hx hb dX6_unfold_39 (lv_at hl 0 rfl) ?_
    refine lv_imul hx hb dX6_unfold_41 ?_
    obtain ⟨x9, ex9, hF⟩ := ltt_some hF
    refine lv_topi (fun zx9 ezx9 => ?_)
    obtain rfl : x9 = zx9 := ex9.trans ezx9.symm
    refine lv_iload hx hb dX6_unfold_42 (lv_at hl 1 rfl) ?_
    refine lv_iadd hx hb dX6_unfold_44 ?_
    obtain ⟨x10, ex10, hF⟩ := ltt_some hF
    refine lv_topi (fun zx10 ezx10 => ?_)
    obtain rfl : x10 = zx10 := ex10.trans ezx10.symm
    refine lv_aloadq_n hx hb dX6_unfold_45 rfl (lv_at hl 4 rfl) ?_
    refine lv_iload_n hx hb dX6_unfold_46 rfl (lv_at hl 5 rfl) ?_
    refine lv_iload hx hb dX6_unfold_47 (lv_at hl 2 rfl) ?_
    refine lv_iadd hx hb dX6_unfold_49 ?_
    obtain ⟨x11, ex11, hF⟩ := ltt_some hF
    refine lv_topi (fun zx11 ezx11 => ?_)
    obtain rfl : x11 = zx11 := ex11.trans ezx11.symm
    obtain ⟨b12, ho12, hc12, hk12, hF⟩ := dr_some hF
    refine W_st (st' := [.int x11, .ref (ad b12), .int x10, va_re ad (s3.2.2 a 6)]) (by rw [va_some ho12]) ?_
    obtain ⟨hvc, hF⟩ := chk_some hF
    refine va_iald hx hb hK hP b12 1 (wld_i ct ad G s3.2 hc12 hk12) rfl hvc dX6_unfold_50 ?_
    obtain ⟨x13, ex13, hF⟩ := ltt_some hF
    refine lv_topi (fun zx13 ezx13 => ?_)
    obtain rfl : x13 = zx13 := ex13.trans ezx13.symm
    refine va_gets hx hb (hZ.1 13 (by decide)).1 hS hown (hts (.fieldLink RX6 224 "VideoSuite$Samples" "NORM" "[I") (mu mw_2094)) (fun _ h => h) dX6_unfold_51 ?_
    refine lv_iload hx hb dX6_unfold_54 (lv_at hl 7 rfl) ?_
    refine lv_iload hx hb dX6_unfold_56 (lv_at hl 1 rfl) ?_
    refine lv_iload hx hb dX6_unfold_58 (lv_at hl 0 rfl) ?_
    obtain ⟨y14, hy14, hF⟩ := bnd_some hF
    have hf9 := wA_in hD hA9 hS
    refine va_calli (va_runS (As := [.int p3, .int x7, .int x8]) (rest := [.ref (Z 13), .int x13, .int x10, va_re ad (s3.2.2 a 6)]) ⟨hx, hb, hml, hown, hts⟩ (kX6_normAt l D ct ad Z G s3.2 H.size p3 x7 x8 y14 hy14) (va_cwS 3 hts gX6_unfold_X6_normAt rfl rfl rfl (by decide +kernel) ⟨Nat.le_of_ble_eq_true rfl, Nat.le_of_ble_eq_true rfl⟩) ⟨fun a U g mk q => by obtain ⟨q0, q1, qP, qK, qD, qZ, qN⟩ := q; exact ⟨q0, q1, qP, va_K.moved (u := U) (U := U.calling g mk a) (Vm.Alike.refl U.vm) qK, qD, sF.moved (u := U) (U := U.calling g mk a) (Vm.Alike.refl U.vm) qZ, nF.same rfl qN⟩, fun U hU hW => ⟨rfl, by rw [hU], by rw [hU]; exact hP, va_K.moved hW.alike hK, hD.weaken (fun _ _ _ _ => trivial), by rw [hU]; exact ((hZ.kept hS.2.1).narrow hf9).moved hW.alike, hN.warm hW⟩⟩ rfl rfl hl.1 rfl (lv_room (by simp only [List.map, va_re_cat]; exact Nat.le_of_ble_eq_true rfl)) dX6_unfold_60 ⟨(Nat.zero_le _), (Nat.zero_le _)⟩) hS (fun q _ h => hf9 q h) hf9 (fun r u t H locs ht hvm hw hB hz1 hk1 hS => ?_)
    obtain ⟨hP, hK9, hD9⟩ := hB
    rw [ht] at hP
    try dsimp only at hw
    subst hw
    have hD := hD9.weaken (fun _ q _ h => hf9 q.1 h)
    obtain ⟨hvc, hF⟩ := chk_some hF
    refine va_ti (v := .int ((sT 13).getD y14.2.toNatClampNeg 0)) hx hb (hZ.1 13 (by decide)).2 hS hvc rfl dX6_unfold_63 ?_
    obtain ⟨x15, ex15, hF⟩ := ltt_some hF
    refine lv_topi (fun zx15 ezx15 => ?_)
    obtain rfl : x15 = zx15 := ex15.trans ezx15.symm
    refine lv_imul hx hb dX6_unfold_64 ?_
    obtain ⟨x16, ex16, hF⟩ := ltt_some hF
    refine lv_topi (fun zx16 ezx16 => ?_)
    obtain rfl : x16 = zx16 := ex16.trans ezx16.symm
    refine lv_iload hx hb dX6_unfold_65 (lv_at hl 7 rfl) ?_
    refine lv_bipush (v := (6 : Int32)) hx hb dX6_unfold_67 (by decide) ?_
    refine lv_idiv hx hb dX6_unfold_69 (by decide) ?_
    obtain ⟨x17, ex17, hF⟩ := ltt_some hF
    refine lv_topi (fun zx17 ezx17 => ?_)
    obtain rfl : x17 = zx17 := ex17.trans ezx17.symm
    refine lv_ishl hx hb dX6_unfold_70 ?_
    obtain ⟨x18, ex18, hF⟩ := ltt_some hF
    refine lv_topi (fun zx18 ezx18 => ?_)
    obtain rfl : x18 = zx18 := ex18.trans ezx18.symm
    obtain ⟨b19, ho19, hc19, hk19, hF⟩ := dr_some hF
    refine W_st (st' := [.int x18, .int x10, .ref (ad b19)]) (by rw [va_some ho19]) ?_
    obtain ⟨hvc, hF⟩ := chk_some hF
    refine va_iast hx hb hK hP hD hS b19 1 (wld_i ct ad G y14.1 hc19 hk19) rfl hvc dX6_unfold_71 (fun H locs hP hD hS => ?_)
    obtain ⟨M20, eM20, hF⟩ := ltt_some hF
    rw [set_i ct ad G y14.1 hc19 hk19, ← eM20] at hP hD
    obtain ⟨x21, ex21, hF⟩ := ltt_some hF
    refine lv_iinc (v := x21) (lv' := [(5, .int x21), (7, .int x8), (6, .int x7), (0, .ref (ad a)), (1, va_re ad p0), (2, .int p1), (3, .int p2), (4, .int p3)]) hx hb dX6_unfold_72 hl (k := 2) rfl (by rw [ex21]; rfl) (by decide) rfl (fun ls hl => ?_)
    refine lv_goto (tgt := 11) hx hb dX6_unfold_75 (by decide) ?_
    obtain rfl := Option.some.inj hF
    exact hwz5 _ _ _ hP hD hS (lv_sub hl [0, 3, 4, 5, 6, 7] rfl)
theorem dX7_belongs_0 : decode cX7_belongs 0 = .ok (.iload_n 2, 1) := by decide +kernel
theorem dX7_belongs_1 : decode cX7_belongs 1 = .ok (.iconst 3, 1) := by decide +kernel
theorem dX7_belongs_2 : decode cX7_belongs 2 = .ok (.if_icmp .ne 17, 3) := by decide +kernel
theorem dX7_belongs_5 : decode cX7_belongs 5 = .ok (.aload_n 0, 1) := by decide +kernel
theorem dX7_belongs_6 : decode cX7_belongs 6 = .ok (.getfield 123, 3) := by decide +kernel
theorem dX7_belongs_9 : decode cX7_belongs 9 = .ok (.iconst 2, 1) := by decide +kernel
theorem dX7_belongs_10 : decode cX7_belongs 10 = .ok (.if_icmp .ne 7, 3) := by decide +kernel
theorem dX7_belongs_13 : decode cX7_belongs 13 = .ok (.iconst 1, 1) := by decide +kernel
theorem dX7_belongs_14 : decode cX7_belongs 14 = .ok (.goto 4, 3) := by decide +kernel
theorem dX7_belongs_17 : decode cX7_belongs 17 = .ok (.iconst 0, 1) := by decide +kernel
theorem dX7_belongs_18 : decode cX7_belongs 18 = .ok (.ireturn, 1) := by decide +kernel
theorem dX7_belongs_19 : decode cX7_belongs 19 = .ok (.aload_n 0, 1) := by decide +kernel
theorem dX7_belongs_20 : decode cX7_belongs 20 = .ok (.getfield 123, 3) := by decide +kernel
theorem dX7_belongs_23 : decode cX7_belongs 23 = .ok (.iconst 1, 1) := by decide +kernel
theorem dX7_belongs_24 : decode cX7_belongs 24 = .ok (.if_icmp .ne 43, 3) := by decide +kernel
theorem dX7_belongs_27 : decode cX7_belongs 27 = .ok (.iload_n 2, 1) := by decide +kernel
theorem dX7_belongs_28 : decode cX7_belongs 28 = .ok (.ifCond .eq 35, 3) := by decide +kernel
theorem dX7_belongs_31 : decode cX7_belongs 31 = .ok (.iload_n 2, 1) := by decide +kernel
theorem dX7_belongs_32 : decode cX7_belongs 32 = .ok (.iconst 1, 1) := by decide +kernel
theorem dX7_belongs_33 : decode cX7_belongs 33 = .ok (.if_icmp .ne 14, 3) := by decide +kernel
theorem dX7_belongs_36 : decode cX7_belongs 36 = .ok (.aload_n 0, 1) := by decide +kernel
theorem dX7_belongs_37 : decode cX7_belongs 37 = .ok (.getfield 126, 3) := by decide +kernel
theorem dX7_belongs_40 : decode cX7_belongs 40 = .ok (.aload_n 1, 1) := by decide +kernel
theorem dX7_belongs_41 : decode cX7_belongs 41 = .ok (.getfield 126, 3) := by decide +kernel
theorem dX7_belongs_44 : decode cX7_belongs 44 = .ok (.if_icmp .lt 19, 3) := by decide +kernel
theorem dX7_belongs_47 : decode cX7_belongs 47 = .ok (.iload_n 2, 1) := by decide +kernel
theorem dX7_belongs_48 : decode cX7_belongs 48 = .ok (.iconst 2, 1) := by decide +kernel
theorem dX7_belongs_49 : decode cX7_belongs 49 = .ok (.if_icmp .ne 18, 3) := by decide +kernel
theorem dX7_belongs_52 : decode cX7_belongs 52 = .ok (.aload_n 0, 1) := by decide +kernel
theorem dX7_belongs_53 : decode cX7_belongs 53 = .ok (.getfield 126, 3) := by decide +kernel
theorem dX7_belongs_56 : decode cX7_belongs 56 = .ok (.aload_n 1, 1) := by decide +kernel
theorem dX7_belongs_57 : decode cX7_belongs 57 = .ok (.getfield 126, 3) := by decide +kernel
theorem dX7_belongs_60 : decode cX7_belongs 60 = .ok (.if_icmp .le 7, 3) := by decide +kernel
theorem dX7_belongs_63 : decode cX7_belongs 63 = .ok (.iconst 1, 1) := by decide +kernel
theorem dX7_belongs_64 : decode cX7_belongs 64 = .ok (.goto 4, 3) := by decide +kernel
theorem dX7_belongs_67 : decode cX7_belongs 67 = .ok (.iconst 0, 1) := by decide +kernel
theorem dX7_belongs_68 : decode cX7_belongs 68 = .ok (.ireturn, 1) := by decide +kernel
def FX7_belongs (G : GG) (M : DD) (p0 : Option Nat) (p1 : Option Nat) (p2 : Int32) : Option (DD × Int32) :=
  if p2 = ((3 : Int32)) then (dr G 4 p0 fun b28 =>
  ltt (M.1 b28 10) fun x29 =>
  bnd (if x29 = ((2 : Int32)) then (some ((1 : Int32))) else
  (some ((0 : Int32)))) fun (y30 : Int32) =>
  chk (y30 = 0 ∨ y30 = 1) <|
  some (M, y30)) else
  (dr G 4 p0 fun b2 =>
  ltt (M.1 b2 10) fun x3 =>
  bnd (if x3 = ((1 : Int32)) then (bnd (if p2 = ((0 : Int32)) then (some ((1 : Int32))) else
  (bnd (if p2 = ((1 : Int32)) then (ltt (M.1 b2 9) fun x17 =>
  dr G 4 p1 fun b18 =>
  ltt (M.1 b18 9) fun x19 =>
  bnd (if x17 < x19 then (some ((1 : Int32))) else
  (bnd (if p2 = ((2 : Int32)) then (ltt (M.1 b2 9) fun x24 =>
  ltt (M.1 b18 9) fun x25 =>
  bnd (if x24 ≤ x25 then (some ((0 : Int32))) else
  (some ((1 : Int32)))) fun (y26 : Int32) =>
  some (y26)) else
  (some ((0 : Int32)))) fun (y22 : Int32) =>
  some (y22))) fun (y20 : Int32) =>
  some (y20)) else
  (bnd (if p2 = ((2 : Int32)) then (ltt (M.1 b2 9) fun x12 =>
  dr G 4 p1 fun b13 =>
  ltt (M.1 b13 9) fun x14 =>
  bnd (if x12 ≤ x14 then (some ((0 : Int32))) else
  (some ((1 : Int32)))) fun (y15 : Int32) =>
  some (y15)) else
  (some ((0 : Int32)))) fun (y10 : Int32) =>
  some (y10))) fun (y8 : Int32) =>
  some (y8))) fun (y6 : Int32) =>
  some (y6)) else
  (some ((0 : Int32)))) fun (y4 : Int32) =>
  chk (y4 = 0 ∨ y4 = 1) <|
  some (M, y4))
set_option maxHeartbeats 4000000 in
set_option maxRecDepth 100000 in
theorem kX7_belongs (l : Launch) (D : va_G) (ct : CT) (ad : Nat → Nat) (Z : Nat → Nat) (G : GG) (M : DD) (sz : Nat) (p0 : Option Nat) (p1 : Option Nat) (p2 : Int32) (y : DD × Int32) (hF : FX7_belongs G M p0 p1 p2 = some y) : Met l yX7_belongs wuX7_belongs ({ frames := 0, cells := 0, slots := 0, locals := 0 }) (va_Pc [va_re ad p0, va_re ad p1, .int p2] (kB D ct ad Z G M sz)) (va_Qi (fun (q : Int32) (_ : Unit) => q = y.2) (fun _ t => kE D ct ad G (wA ad G sz) y.1 t) (wA ad G sz)) 0 0 (wA ad G sz) := by
  refine Met.ofW (cc := cX7_belongs) (maxL := 3) (ret := (some .boolean)) (by decide) rfl ?_
  intro p e s m args below meth c s₁ B hml hv
  obtain ⟨rfl, hsz, hP, hK, hD0, hZ, hN⟩ := hv
  have hx := B.exec
  have hb := B.bytes
  have hr := B.returns
  have hts := atoms_spec (ws := wuX7_belongs) B.pre
  have hown : s.vm.findClass RX7 = some m.cls := findClass_of_methodNamed B.named
  have hlocks := B.notSynchronized
  subst hsz
  have hD := wD_self (sz := s.heap.size) hD0
  have hA9 : ∀ q, s.heap.size ≤ q → wA ad G s.heap.size q := fun q h => Or.inr h
  generalize hAe : wA ad G s.heap.size = A at hD hA9 hZ ⊢
  have hS : va_S A s.heap s.heap [] := va_S.rf
  have hl := lv_entry ([va_re ad p0, va_re ad p1, .int p2]) (n := 3) (by cases p0 <;> cases p1 <;> exact Nat.le_of_ble_eq_true rfl)
  rw [lg_entry_eq]
  generalize (lg_sl ([va_re ad p0, va_re ad p1, .int p2]) ++ List.replicate (3 - (lg_sl ([va_re ad p0, va_re ad p1, .int p2])).length) Slot.unset).toArray = ls at hl ⊢
  have hl : lv_has ls 3 [(0, va_re ad p0), (1, va_re ad p1), (2, .int p2)] := by have e9 : lv_args 0 [va_re ad p0, va_re ad p1, .int p2] = [(0, va_re ad p0), (1, va_re ad p1), (2, .int p2)] := (by cases p0 <;> cases p1 <;> rfl); rw [e9] at hl; exact hl
  unfold FX7_belongs at hF
  refine lv_iload_n hx hb dX7_belongs_0 rfl (lv_at hl 2 rfl) ?_
  refine lv_iconst (v := (3 : Int32)) hx hb dX7_belongs_1 (by decide) ?_
  refine lv_icmp_ne (tgt := 19) hx hb dX7_belongs_2 (by decide) (fun c1 => ?_) (fun c1 => ?_)
  · rw [if_neg c1] at hF
    refine lv_aloadq_n hx hb dX7_belongs_19 rfl (lv_at hl 0 rfl) ?_
    obtain ⟨b2, ho2, hc2, hk2, hF⟩ := dr_some hF
    refine W_st (st' := [.ref (ad b2)]) (by rw [va_some ho2]) ?_
    refine va_get (D := D) (ci := 4) (v := .int (M.1 b2 10)) (C := RX4) (T := TX4) (N := 18) hx hb hts (mus hf_X4) hown hK hP b2 (wld_o ct ad G M hc2 hk2 (by decide)) rfl 10 (by decide) (hts (.fieldLink RX7 123 "VideoSuite$Picture" "use" "I") (mu mw_1460)) (fun _ h9 => h9) rfl dX7_belongs_20 ?_
    obtain ⟨x3, ex3, hF⟩ := ltt_some hF
    refine lv_topi (fun zx3 ezx3 => ?_)
    obtain rfl : x3 = zx3 := ex3.trans ezx3.symm
    refine lv_iconst (v := (1 : Int32)) hx hb dX7_belongs_23 (by decide) ?_
    obtain ⟨y4, hy4, hF⟩ := bnd_some hF
    have J4 : ∀ (H : Heap) (locs : List Loc) (ls : Array Slot), va_P D classes (wld ct ad G M) H → va_D A (wld ct ad G M) → va_S A s.heap H locs → lv_has ls 3 [(0, va_re ad p0), (1, va_re ad p1), (2, .int p2)] → W p l e (headSpec wuX7_belongs ({ frames := 0, cells := 0, slots := 0, locals := 0 })).room s m ([va_re ad p0, va_re ad p1, .int p2] : List Value).toArray below meth c H locs 0 0 (MQ below (va_Qi (fun (q : Int32) (_ : Unit) => q = y.2) (fun _ t => kE D ct ad G A y.1 t) A) ([va_re ad p0, va_re ad p1, .int p2] : List Value).toArray s 0 0 A) (F0 m 68 ls [.int y4]) := by
      intro H locs ls hP hD hS hl
      obtain ⟨hz9, hF⟩ := chk_some hF
      obtain rfl := Option.some.inj hF
      exact W.zret (v := y4) (ty := .boolean) hx hb hr (nar_z hz9).1 (fun t ht hW => ⟨⟨_, (), rfl, rfl, ⟨by rw [ht]; exact hP, va_K.moved hW.alike hK, hD⟩⟩, hS.F ht⟩) hS.2.2 dX7_belongs_68
    clear hF
    have hF := hy4
    clear hy4
    refine lv_icmp_ne (tgt := 67) hx hb dX7_belongs_24 (by decide) (fun c5 => ?_) (fun c5 => ?_)
    · rw [if_neg c5] at hF
      refine lv_iconst (v := (0 : Int32)) hx hb dX7_belongs_67 (by decide) ?_
      obtain rfl := Option.some.inj hF
      exact J4 _ _ _ hP hD hS (lv_sub hl [0, 1, 2] rfl)
    · rw [if_pos c5] at hF
      refine lv_iload_n hx hb dX7_belongs_27 rfl (lv_at hl 2 rfl) ?_
      obtain ⟨y6, hy6, hF⟩ := bnd_some hF
      have J6 : ∀ (H : Heap) (locs : List Loc) (ls : Array Slot), va_P D classes (wld ct ad G M) H → va_D A (wld ct ad G M) → va_S A s.heap H locs → lv_has ls 3 [(0, va_re ad p0), (1, va_re ad p1), (2, .int p2)] → W p l e (headSpec wuX7_belongs ({ frames := 0, cells := 0, slots := 0, locals := 0 })).room s m ([va_re ad p0, va_re ad p1, .int p2] : List Value).toArray below meth c H locs 0 0 (MQ below (va_Qi (fun (q : Int32) (_ : Unit) => q = y.2) (fun _ t => kE D ct ad G A y.1 t) A) ([va_re ad p0, va_re ad p1, .int p2] : List Value).toArray s 0 0 A) (F0 m 68 ls [.int y6]) := by
        intro H locs ls hP hD hS hl
        obtain rfl := Option.some.inj hF
        exact J4 _ _ _ hP hD hS (lv_sub hl [0, 1, 2] rfl)
      clear hF
      have hF := hy6
      clear hy6
      refine lv_if_eq (tgt := 63) hx hb dX7_belongs_28 (by decide) (fun c7 => ?_) (fun c7 => ?_)
      · rw [if_pos c7] at hF
        refine lv_iconst (v := (1 : Int32)) hx hb dX7_belongs_63 (by decide) ?_
        refine lv_goto (tgt := 68) hx hb dX7_belongs_64 (by decide) ?_
        obtain rfl := Option.some.inj hF
        exact J6 _ _ _ hP hD hS (lv_sub hl [0, 1, 2] rfl)
      · rw [if_neg c7] at hF
        refine lv_iload_n hx hb dX7_belongs_31 rfl (lv_at hl 2 rfl) ?_
        refine lv_iconst (v := (1 : Int32)) hx hb dX7_belongs_32 (by decide) ?_
        obtain ⟨y8, hy8, hF⟩ := bnd_some hF
        have J8 : ∀ (H : Heap) (locs : List Loc) (ls : Array Slot), va_P D classes (wld ct ad G M) H → va_D A (wld ct ad G M) → va_S A s.heap H locs → lv_has ls 3 [(0, va_re ad p0), (1, va_re ad p1), (2, .int p2)] → W p l e (headSpec wuX7_belongs ({ frames := 0, cells := 0, slots := 0, locals := 0 })).room s m ([va_re ad p0, va_re ad p1, .int p2] : List Value).toArray below meth c H locs 0 0 (MQ below (va_Qi (fun (q : Int32) (_ : Unit) => q = y.2) (fun _ t => kE D ct ad G A y.1 t) A) ([va_re ad p0, va_re ad p1, .int p2] : List Value).toArray s 0 0 A) (F0 m 68 ls [.int y8]) := by
          intro H locs ls hP hD hS hl
          obtain rfl := Option.some.inj hF
          exact J6 _ _ _ hP hD hS (lv_sub hl [0, 1, 2] rfl)
        clear hF
        have hF := hy8
        clear hy8
        refine lv_icmp_ne (tgt := 47) hx hb dX7_belongs_33 (by decide) (fun c9 => ?_) (fun c9 => ?_)
        · rw [if_neg c9] at hF
          refine lv_iload_n hx hb dX7_belongs_47 rfl (lv_at hl 2 rfl) ?_
          refine lv_iconst (v := (2 : Int32)) hx hb dX7_belongs_48 (by decide) ?_
          obtain ⟨y10, hy10, hF⟩ := bnd_some hF
          have J10 : ∀ (H : Heap) (locs : List Loc) (ls : Array Slot), va_P D classes (wld ct ad G M) H → va_D A (wld ct ad G M) → va_S A s.heap H locs → lv_has ls 3 [(0, va_re ad p0), (1, va_re ad p1), (2, .int p2)] → W p l e (headSpec wuX7_belongs ({ frames := 0, cells := 0, slots := 0, locals := 0 })).room s m ([va_re ad p0, va_re ad p1, .int p2] : List Value).toArray below meth c H locs 0 0 (MQ below (va_Qi (fun (q : Int32) (_ : Unit) => q = y.2) (fun _ t => kE D ct ad G A y.1 t) A) ([va_re ad p0, va_re ad p1, .int p2] : List Value).toArray s 0 0 A) (F0 m 68 ls [.int y10]) := by
            intro H locs ls hP hD hS hl
            obtain rfl := Option.some.inj hF
            exact J8 _ _ _ hP hD hS (lv_sub hl [0, 1, 2] rfl)
          clear hF
          have hF := hy10
          clear hy10
          refine lv_icmp_ne (tgt := 67) hx hb dX7_belongs_49 (by decide) (fun c11 => ?_) (fun c11 => ?_)
          · rw [if_neg c11] at hF
            refine lv_iconst (v := (0 : Int32)) hx hb dX7_belongs_67 (by decide) ?_
            obtain rfl := Option.some.inj hF
            exact J10 _ _ _ hP hD hS (lv_sub hl [0, 1, 2] rfl)
          · rw [if_pos c11] at hF
            refine lv_aloadq_n hx hb dX7_belongs_52 rfl (lv_at hl 0 rfl) ?_
            refine W_st (st' := [.ref (ad b2)]) (by rw [va_some ho2]) ?_
            refine va_get (D := D) (ci := 4) (v := .int (M.1 b2 9)) (C := RX4) (T := TX4) (N := 18) hx hb hts (mus hf_X4) hown hK hP b2 (wld_o ct ad G M hc2 hk2 (by decide)) rfl 9 (by decide) (hts (.fieldLink RX7 126 "VideoSuite$Picture" "order" "I") (mu mw_1455)) (fun _ h9 => h9) rfl dX7_belongs_53 ?_
            obtain ⟨x12, ex12, hF⟩ := ltt_some hF
            refine lv_topi (fun zx12 ezx12 => ?_)
            obtain rfl : x12 = zx12 := ex12.trans ezx12.symm
            refine lv_aloadq_n hx hb dX7_belongs_56 rfl (lv_at hl 1 rfl) ?_
            obtain ⟨b13, ho13, hc13, hk13, hF⟩ := dr_some hF
            refine W_st (st' := [.ref (ad b13), .int x12]) (by rw [va_some ho13]) ?_
            refine va_get (D := D) (ci := 4) (v := .int (M.1 b13 9)) (C := RX4) (T := TX4) (N := 18) hx hb hts (mus hf_X4) hown hK hP b13 (wld_o ct ad G M hc13 hk13 (by decide)) rfl 9 (by decide) (hts (.fieldLink RX7 126 "VideoSuite$Picture" "order" "I") (mu mw_1455)) (fun _ h9 => h9) rfl dX7_belongs_57 ?_
            obtain ⟨x14, ex14, hF⟩ := ltt_some hF
            refine lv_topi (fun zx14 ezx14 => ?_)
            obtain rfl : x14 = zx14 := ex14.trans ezx14.symm
            obtain ⟨y15, hy15, hF⟩ := bnd_some hF
            have J15 : ∀ (H : Heap) (locs : List Loc) (ls : Array Slot), va_P D classes (wld ct ad G M) H → va_D A (wld ct ad G M) → va_S A s.heap H locs → lv_has ls 3 [(0, va_re ad p0), (1, va_re ad p1), (2, .int p2)] → W p l e (headSpec wuX7_belongs ({ frames := 0, cells := 0, slots := 0, locals := 0 })).room s m ([va_re ad p0, va_re ad p1, .int p2] : List Value).toArray below meth c H locs 0 0 (MQ below (va_Qi (fun (q : Int32) (_ : Unit) => q = y.2) (fun _ t => kE D ct ad G A y.1 t) A) ([va_re ad p0, va_re ad p1, .int p2] : List Value).toArray s 0 0 A) (F0 m 68 ls [.int y15]) := by
              intro H locs ls hP hD hS hl
              obtain rfl := Option.some.inj hF
              exact J10 _ _ _ hP hD hS (lv_sub hl [0, 1, 2] rfl)
            clear hF
            have hF := hy15
            clear hy15
            refine lv_icmp_le (tgt := 67) hx hb dX7_belongs_60 (by decide) (fun c16 => ?_) (fun c16 => ?_)
            · rw [if_pos c16] at hF
              refine lv_iconst (v := (0 : Int32)) hx hb dX7_belongs_67 (by decide) ?_
              obtain rfl := Option.some.inj hF
              exact J15 _ _ _ hP hD hS (lv_sub hl [0, 1, 2] rfl)
            · rw [if_neg c16] at hF
              refine lv_iconst (v := (1 : Int32)) hx hb dX7_belongs_63 (by decide) ?_
              refine lv_goto (tgt := 68) hx hb dX7_belongs_64 (by decide) ?_
              obtain rfl := Option.some.inj hF
              exact J15 _ _ _ hP hD hS (lv_sub hl [0, 1, 2] rfl)
        · rw [if_pos c9] at hF
          refine lv_aloadq_n hx hb dX7_belongs_36 rfl (lv_at hl 0 rfl) ?_
          refine W_st (st' := [.ref (ad b2)]) (by rw [va_some ho2]) ?_
          refine va_get (D := D) (ci := 4) (v := .int (M.1 b2 9)) (C := RX4) (T := TX4) (N := 18) hx hb hts (mus hf_X4) hown hK hP b2 (wld_o ct ad G M hc2 hk2 (by decide)) rfl 9 (by decide) (hts (.fieldLink RX7 126 "VideoSuite$Picture" "order" "I") (mu mw_1455)) (fun _ h9 => h9) rfl dX7_belongs_37 ?_
          obtain ⟨x17, ex17, hF⟩ := ltt_some hF
          refine lv_topi (fun zx17 ezx17 => ?_)
          obtain rfl : x17 = zx17 := ex17.trans ezx17.symm
          refine lv_aloadq_n hx hb dX7_belongs_40 rfl (lv_at hl 1 rfl) ?_
          obtain ⟨b18, ho18, hc18, hk18, hF⟩ := dr_some hF
          refine W_st (st' := [.ref (ad b18), .int x17]) (by rw [va_some ho18]) ?_
          refine va_get (D := D) (ci := 4) (v := .int (M.1 b18 9)) (C := RX4) (T := TX4) (N := 18) hx hb hts (mus hf_X4) hown hK hP b18 (wld_o ct ad G M hc18 hk18 (by decide)) rfl 9 (by decide) (hts (.fieldLink RX7 126 "VideoSuite$Picture" "order" "I") (mu mw_1455)) (fun _ h9 => h9) rfl dX7_belongs_41 ?_
          obtain ⟨x19, ex19, hF⟩ := ltt_some hF
          refine lv_topi (fun zx19 ezx19 => ?_)
          obtain rfl : x19 = zx19 := ex19.trans ezx19.symm
          obtain ⟨y20, hy20, hF⟩ := bnd_some hF
          have J20 : ∀ (H : Heap) (locs : List Loc) (ls : Array Slot), va_P D classes (wld ct ad G M) H → va_D A (wld ct ad G M) → va_S A s.heap H locs → lv_has ls 3 [(0, va_re ad p0), (1, va_re ad p1), (2, .int p2)] → W p l e (headSpec wuX7_belongs ({ frames := 0, cells := 0, slots := 0, locals := 0 })).room s m ([va_re ad p0, va_re ad p1, .int p2] : List Value).toArray below meth c H locs 0 0 (MQ below (va_Qi (fun (q : Int32) (_ : Unit) => q = y.2) (fun _ t => kE D ct ad G A y.1 t) A) ([va_re ad p0, va_re ad p1, .int p2] : List Value).toArray s 0 0 A) (F0 m 68 ls [.int y20]) := by
            intro H locs ls hP hD hS hl
            obtain rfl := Option.some.inj hF
            exact J8 _ _ _ hP hD hS (lv_sub hl [0, 1, 2] rfl)
          clear hF
          have hF := hy20
          clear hy20
          refine lv_icmp_lt (tgt := 63) hx hb dX7_belongs_44 (by decide) (fun c21 => ?_) (fun c21 => ?_)
          · rw [if_pos c21] at hF
            refine lv_iconst (v := (1 : Int32)) hx hb dX7_belongs_63 (by decide) ?_
            refine lv_goto (tgt := 68) hx hb dX7_belongs_64 (by decide) ?_
            obtain rfl := Option.some.inj hF
            exact J20 _ _ _ hP hD hS (lv_sub hl [0, 1, 2] rfl)
          · rw [if_neg c21] at hF
            refine lv_iload_n hx hb dX7_belongs_47 rfl (lv_at hl 2 rfl) ?_
            refine lv_iconst (v := (2 : Int32)) hx hb dX7_belongs_48 (by decide) ?_
            obtain ⟨y22, hy22, hF⟩ := bnd_some hF
            have J22 : ∀ (H : Heap) (locs : List Loc) (ls : Array Slot), va_P D classes (wld ct ad G M) H → va_D A (wld ct ad G M) → va_S A s.heap H locs → lv_has ls 3 [(0, va_re ad p0), (1, va_re ad p1), (2, .int p2)] → W p l e (headSpec wuX7_belongs ({ frames := 0, cells := 0, slots := 0, locals := 0 })).room s m ([va_re ad p0, va_re ad p1, .int p2] : List Value).toArray below meth c H locs 0 0 (MQ below (va_Qi (fun (q : Int32) (_ : Unit) => q = y.2) (fun _ t => kE D ct ad G A y.1 t) A) ([va_re ad p0, va_re ad p1, .int p2] : List Value).toArray s 0 0 A) (F0 m 68 ls [.int y22]) := by
              intro H locs ls hP hD hS hl
              obtain rfl := Option.some.inj hF
              exact J20 _ _ _ hP hD hS (lv_sub hl [0, 1, 2] rfl)
            clear hF
            have hF := hy22
            clear hy22
            refine lv_icmp_ne (tgt := 67) hx hb dX7_belongs_49 (by decide) (fun c23 => ?_) (fun c23 => ?_)
            · rw [if_neg c23] at hF
              refine lv_iconst (v := (0 : Int32)) hx hb dX7_belongs_67 (by decide) ?_
              obtain rfl := Option.some.inj hF
              exact J22 _ _ _ hP hD hS (lv_sub hl [0, 1, 2] rfl)
            · rw [if_pos c23] at hF
              refine lv_aloadq_n hx hb dX7_belongs_52 rfl (lv_at hl 0 rfl) ?_
              refine W_st (st' := [.ref (ad b2)]) (by rw [va_some ho2]) ?_
              refine va_get (D := D) (ci := 4) (v := .int (M.1 b2 9)) (C := RX4) (T := TX4) (N := 18) hx hb hts (mus hf_X4) hown hK hP b2 (wld_o ct ad G M hc2 hk2 (by decide)) rfl 9 (by decide) (hts (.fieldLink RX7 126 "VideoSuite$Picture" "order" "I") (mu mw_1455)) (fun _ h9 => h9) rfl dX7_belongs_53 ?_
              obtain ⟨x24, ex24, hF⟩ := ltt_some hF
              refine lv_topi (fun zx24 ezx24 => ?_)
              obtain rfl : x24 = zx24 := ex24.trans ezx24.symm
              refine lv_aloadq_n hx hb dX7_belongs_56 rfl (lv_at hl 1 rfl) ?_
              refine W_st (st' := [.ref (ad b18), .int x24]) (by rw [va_some ho18]) ?_
              refine va_get (D := D) (ci := 4) (v := .int (M.1 b18 9)) (C := RX4) (T := TX4) (N := 18) hx hb hts (mus hf_X4) hown hK hP b18 (wld_o ct ad G M hc18 hk18 (by decide)) rfl 9 (by decide) (hts (.fieldLink RX7 126 "VideoSuite$Picture" "order" "I") (mu mw_1455)) (fun _ h9 => h9) rfl dX7_belongs_57 ?_
              obtain ⟨x25, ex25, hF⟩ := ltt_some hF
              refine lv_topi (fun zx25 ezx25 => ?_)
              obtain rfl : x25 = zx25 := ex25.trans ezx25.symm
              obtain ⟨y26, hy26, hF⟩ := bnd_some hF
              have J26 : ∀ (H : Heap) (locs : List Loc) (ls : Array Slot), va_P D classes (wld ct ad G M) H → va_D A (wld ct ad G M) → va_S A s.heap H locs → lv_has ls 3 [(0, va_re ad p0), (1, va_re ad p1), (2, .int p2)] → W p l e (headSpec wuX7_belongs ({ frames := 0, cells := 0, slots := 0, locals := 0 })).room s m ([va_re ad p0, va_re ad p1, .int p2] : List Value).toArray below meth c H locs 0 0 (MQ below (va_Qi (fun (q : Int32) (_ : Unit) => q = y.2) (fun _ t => kE D ct ad G A y.1 t) A) ([va_re ad p0, va_re ad p1, .int p2] : List Value).toArray s 0 0 A) (F0 m 68 ls [.int y26]) := by
                intro H locs ls hP hD hS hl
                obtain rfl := Option.some.inj hF
                exact J22 _ _ _ hP hD hS (lv_sub hl [0, 1, 2] rfl)
              clear hF
              have hF := hy26
              clear hy26
              refine lv_icmp_le (tgt := 67) hx hb dX7_belongs_60 (by decide) (fun c27 => ?_) (fun c27 => ?_)
              · rw [if_pos c27] at hF
                refine lv_iconst (v := (0 : Int32)) hx hb dX7_belongs_67 (by decide) ?_
                obtain rfl := Option.some.inj hF
                exact J26 _ _ _ hP hD hS (lv_sub hl [0, 1, 2] rfl)
              · rw [if_neg c27] at hF
                refine lv_iconst (v := (1 : Int32)) hx hb dX7_belongs_63 (by decide) ?_
                refine lv_goto (tgt := 68) hx hb dX7_belongs_64 (by decide) ?_
                obtain rfl := Option.some.inj hF
                exact J26 _ _ _ hP hD hS (lv_sub hl [0, 1, 2] rfl)
  · rw [if_pos c1] at hF
    refine lv_aloadq_n hx hb dX7_belongs_5 rfl (lv_at hl 0 rfl) ?_
    obtain ⟨b28, ho28, hc28, hk28, hF⟩ := dr_some hF
    refine W_st (st' := [.ref (ad b28)]) (by rw [va_some ho28]) ?_
    refine va_get (D := D) (ci := 4) (v := .int (M.1 b28 10)) (C := RX4) (T := TX4) (N := 18) hx hb hts (mus hf_X4) hown hK hP b28 (wld_o ct ad G M hc28 hk28 (by decide)) rfl 10 (by decide) (hts (.fieldLink RX7 123 "VideoSuite$Picture" "use" "I") (mu mw_1460)) (fun _ h9 => h9) rfl dX7_belongs_6 ?_
    obtain ⟨x29, ex29, hF⟩ := ltt_some hF
    refine lv_topi (fun zx29 ezx29 => ?_)
    obtain rfl : x29 = zx29 := ex29.trans ezx29.symm
    refine lv_iconst (v := (2 : Int32)) hx hb dX7_belongs_9 (by decide) ?_
    obtain ⟨y30, hy30, hF⟩ := bnd_some hF
    have J30 : ∀ (H : Heap) (locs : List Loc) (ls : Array Slot), va_P D classes (wld ct ad G M) H → va_D A (wld ct ad G M) → va_S A s.heap H locs → lv_has ls 3 [(0, va_re ad p0), (1, va_re ad p1), (2, .int p2)] → W p l e (headSpec wuX7_belongs ({ frames := 0, cells := 0, slots := 0, locals := 0 })).room s m ([va_re ad p0, va_re ad p1, .int p2] : List Value).toArray below meth c H locs 0 0 (MQ below (va_Qi (fun (q : Int32) (_ : Unit) => q = y.2) (fun _ t => kE D ct ad G A y.1 t) A) ([va_re ad p0, va_re ad p1, .int p2] : List Value).toArray s 0 0 A) (F0 m 18 ls [.int y30]) := by
      intro H locs ls hP hD hS hl
      obtain ⟨hz9, hF⟩ := chk_some hF
      obtain rfl := Option.some.inj hF
      exact W.zret (v := y30) (ty := .boolean) hx hb hr (nar_z hz9).1 (fun t ht hW => ⟨⟨_, (), rfl, rfl, ⟨by rw [ht]; exact hP, va_K.moved hW.alike hK, hD⟩⟩, hS.F ht⟩) hS.2.2 dX7_belongs_18
    clear hF
    have hF := hy30
    clear hy30
    refine lv_icmp_ne (tgt := 17) hx hb dX7_belongs_10 (by decide) (fun c31 => ?_) (fun c31 => ?_)
    · rw [if_neg c31] at hF
      refine lv_iconst (v := (0 : Int32)) hx hb dX7_belongs_17 (by decide) ?_
      obtain rfl := Option.some.inj hF
      exact J30 _ _ _ hP hD hS (lv_sub hl [0, 1, 2] rfl)
    · rw [if_pos c31] at hF
      refine lv_iconst (v := (1 : Int32)) hx hb dX7_belongs_13 (by decide) ?_
      refine lv_goto (tgt := 18) hx hb dX7_belongs_14 (by decide) ?_
      obtain rfl := Option.some.inj hF
      exact J30 _ _ _ hP hD hS (lv_sub hl [0, 1, 2] rfl)
theorem dX7_clear_0 : decode cX7_clear 0 = .ok (.iconst 0, 1) := by decide +kernel
theorem dX7_clear_1 : decode cX7_clear 1 = .ok (.istore_n 1, 1) := by decide +kernel
theorem dX7_clear_2 : decode cX7_clear 2 = .ok (.iload_n 1, 1) := by decide +kernel
theorem dX7_clear_3 : decode cX7_clear 3 = .ok (.bipush 6, 2) := by decide +kernel
theorem dX7_clear_5 : decode cX7_clear 5 = .ok (.if_icmp .ge 16, 3) := by decide +kernel
theorem dX7_clear_8 : decode cX7_clear 8 = .ok (.aload_n 0, 1) := by decide +kernel
theorem dX7_clear_9 : decode cX7_clear 9 = .ok (.getfield 17, 3) := by decide +kernel
theorem dX7_clear_12 : decode cX7_clear 12 = .ok (.iload_n 1, 1) := by decide +kernel
theorem dX7_clear_13 : decode cX7_clear 13 = .ok (.aconst_null, 1) := by decide +kernel
theorem dX7_clear_14 : decode cX7_clear 14 = .ok (.aastore, 1) := by decide +kernel
theorem dX7_clear_15 : decode cX7_clear 15 = .ok (.iinc 1 1, 3) := by decide +kernel
theorem dX7_clear_18 : decode cX7_clear 18 = .ok (.goto (-16), 3) := by decide +kernel
theorem dX7_clear_21 : decode cX7_clear 21 = .ok (.aload_n 0, 1) := by decide +kernel
theorem dX7_clear_22 : decode cX7_clear 22 = .ok (.iconst 0, 1) := by decide +kernel
theorem dX7_clear_23 : decode cX7_clear 23 = .ok (.putfield 29, 3) := by decide +kernel
theorem dX7_clear_26 : decode cX7_clear 26 = .ok (.aload_n 0, 1) := by decide +kernel
theorem dX7_clear_27 : decode cX7_clear 27 = .ok (.iconst 0, 1) := by decide +kernel
theorem dX7_clear_28 : decode cX7_clear 28 = .ok (.putfield 33, 3) := by decide +kernel
theorem dX7_clear_31 : decode cX7_clear 31 = .ok (.aload_n 0, 1) := by decide +kernel
theorem dX7_clear_32 : decode cX7_clear 32 = .ok (.iconst 0, 1) := by decide +kernel
theorem dX7_clear_33 : decode cX7_clear 33 = .ok (.putfield 36, 3) := by decide +kernel
theorem dX7_clear_36 : decode cX7_clear 36 = .ok (.aload_n 0, 1) := by decide +kernel
theorem dX7_clear_37 : decode cX7_clear 37 = .ok (.aconst_null, 1) := by decide +kernel
theorem dX7_clear_38 : decode cX7_clear 38 = .ok (.putfield 39, 3) := by decide +kernel
theorem dX7_clear_41 : decode cX7_clear 41 = .ok (.aload_n 0, 1) := by decide +kernel
theorem dX7_clear_42 : decode cX7_clear 42 = .ok (.aconst_null, 1) := by decide +kernel
theorem dX7_clear_43 : decode cX7_clear 43 = .ok (.putfield 43, 3) := by decide +kernel
theorem dX7_clear_46 : decode cX7_clear 46 = .ok (.aload_n 0, 1) := by decide +kernel
theorem dX7_clear_47 : decode cX7_clear 47 = .ok (.iconst 0, 1) := by decide +kernel
theorem dX7_clear_48 : decode cX7_clear 48 = .ok (.putfield 46, 3) := by decide +kernel
theorem dX7_clear_51 : decode cX7_clear 51 = .ok (.aload_n 0, 1) := by decide +kernel
theorem dX7_clear_52 : decode cX7_clear 52 = .ok (.iconst 0, 1) := by decide +kernel
theorem dX7_clear_53 : decode cX7_clear 53 = .ok (.putfield 49, 3) := by decide +kernel
theorem dX7_clear_56 : decode cX7_clear 56 = .ok (.aload_n 0, 1) := by decide +kernel
theorem dX7_clear_57 : decode cX7_clear 57 = .ok (.iconst 0, 1) := by decide +kernel
theorem dX7_clear_58 : decode cX7_clear 58 = .ok (.putfield 52, 3) := by decide +kernel
theorem dX7_clear_61 : decode cX7_clear 61 = .ok (.aload_n 0, 1) := by decide +kernel
theorem dX7_clear_62 : decode cX7_clear 62 = .ok (.iconst 0, 1) := by decide +kernel
theorem dX7_clear_63 : decode cX7_clear 63 = .ok (.putfield 55, 3) := by decide +kernel
theorem dX7_clear_66 : decode cX7_clear 66 = .ok (.aload_n 0, 1) := by decide +kernel
theorem dX7_clear_67 : decode cX7_clear 67 = .ok (.iconst 0, 1) := by decide +kernel
theorem dX7_clear_68 : decode cX7_clear 68 = .ok (.putfield 58, 3) := by decide +kernel
theorem dX7_clear_71 : decode cX7_clear 71 = .ok (.return_, 1) := by decide +kernel
def FX7_clear (G : GG) (M : DD) (a : Nat)  : Option (DD) :=
  bnd (itr (fun (s2 : Int32 × DD) => ((if ((6 : Int32)) ≤ s2.1 then (some (.inr (s2.1, s2.2))) else
  (dr G 14 ((s2.2.2 a 2)) fun b16 =>
  chk (¬ (s2.1 < 0 ∨ G.2.2 b16 ≤ s2.1.toNatClampNeg)) <|
  chk (okr G 4 none = true) <|
  ltt (uP s2.2 b16 s2.1.toNatClampNeg none) fun M17 =>
  ltt (s2.1 + (1 : Int32)) fun x18 =>
  some (.inl (x18, M17)))) : Option ((Int32 × DD) ⊕ (Int32 × DD)))) 1000000 ((0 : Int32), M)) fun (y1 : Int32 × DD) =>
  ltt (uI y1.2 a 3 ((0 : Int32))) fun M4 =>
  ltt (uI M4 a 4 ((0 : Int32))) fun M5 =>
  ltt (uI M5 a 5 ((0 : Int32))) fun M6 =>
  ltt (uP M6 a 6 none) fun M7 =>
  ltt (uP M7 a 7 none) fun M8 =>
  ltt (uI M8 a 8 ((0 : Int32))) fun M9 =>
  ltt (uI M9 a 9 ((0 : Int32))) fun M10 =>
  ltt (uI M10 a 10 ((0 : Int32))) fun M11 =>
  ltt (uI M11 a 11 ((0 : Int32))) fun M12 =>
  ltt (uI M12 a 14 ((0 : Int32))) fun M13 =>
  some M13
set_option maxHeartbeats 4000000 in
set_option maxRecDepth 100000 in
theorem kX7_clear (l : Launch) (D : va_G) (ct : CT) (ad : Nat → Nat) (Z : Nat → Nat) (G : GG) (M : DD) (sz : Nat) (a : Nat)  (y : DD) (hc : a < G.1) (hk : G.2.1 a = 7) (hF : FX7_clear G M a  = some y) : Met l yX7_clear wuX7_clear ({ frames := 0, cells := 0, slots := 0, locals := 0 }) (va_Pc [.ref (ad a)] (kB D ct ad Z G M sz)) (va_Qv (fun (_ : Unit) => True) (fun _ t => kE D ct ad G (wA ad G sz) y t) (wA ad G sz)) 0 0 (wA ad G sz) := by
  refine Met.ofW (cc := cX7_clear) (maxL := 2) (ret := none) (by decide) rfl ?_
  intro p e s m args below meth c s₁ B hml hv
  obtain ⟨rfl, hsz, hP, hK, hD0, hZ, hN⟩ := hv
  have hx := B.exec
  have hb := B.bytes
  have hr := B.returns
  have hts := atoms_spec (ws := wuX7_clear) B.pre
  have hown : s.vm.findClass RX7 = some m.cls := findClass_of_methodNamed B.named
  have hlocks := B.notSynchronized
  subst hsz
  have hD := wD_self (sz := s.heap.size) hD0
  have hA9 : ∀ q, s.heap.size ≤ q → wA ad G s.heap.size q := fun q h => Or.inr h
  generalize hAe : wA ad G s.heap.size = A at hD hA9 hZ ⊢
  have hS : va_S A s.heap s.heap [] := va_S.rf
  have hl := lv_entry ([.ref (ad a)]) (n := 2) (Nat.le_of_ble_eq_true rfl)
  rw [lg_entry_eq]
  generalize (lg_sl ([.ref (ad a)]) ++ List.replicate (2 - (lg_sl ([.ref (ad a)])).length) Slot.unset).toArray = ls at hl ⊢
  have hl : lv_has ls 2 [(0, .ref (ad a))] := hl
  unfold FX7_clear at hF
  refine lv_iconst (v := (0 : Int32)) hx hb dX7_clear_0 (by decide) ?_
  refine lv_istore_n (lv' := [(1, .int (0 : Int32)), (0, .ref (ad a))]) hx hb dX7_clear_1 rfl hl (by decide) rfl (fun ls hl => ?_)
  obtain ⟨y1, hy1, hF⟩ := bnd_some hF
  have K1 : ∀ (H : Heap) (locs : List Loc) (ls : Array Slot), va_P D classes (wld ct ad G y1.2) H → va_D A (wld ct ad G y1.2) → va_S A s.heap H locs → lv_has ls 2 [(1, .int y1.1), (0, .ref (ad a))] → W p l e (headSpec wuX7_clear ({ frames := 0, cells := 0, slots := 0, locals := 0 })).room s m ([.ref (ad a)] : List Value).toArray below meth c H locs 0 0 (MQ below (va_Qv (fun (_ : Unit) => True) (fun _ t => kE D ct ad G A y t) A) ([.ref (ad a)] : List Value).toArray s 0 0 A) (F0 m 21 ls []) := by
    intro H locs ls hP hD hS hl
    refine lv_aload_n hx hb dX7_clear_21 rfl (lv_at hl 1 rfl) ?_
    refine lv_iconst (v := (0 : Int32)) hx hb dX7_clear_22 (by decide) ?_
    refine va_put (D := D) (ci := 7) (v := .int (0 : Int32)) (ty := .int) (C := RX7) (T := TX7) (N := 17) hx hb hts (mus hf_X7) tyX7 tyX7_ok nmX7 hown hK hP hD hS a (wld_o ct ad G y1.2 hc hk (by decide)) rfl 3 (by decide) (hts (.fieldLink RX7 29 "VideoSuite$Store" "count" "I") (mu mw_358)) (fun _ h9 => h9) rfl (by decide +kernel) rfl rfl (Nat.le_of_ble_eq_true rfl) dX7_clear_23 (fun H locs hP hD hS => ?_)
    obtain ⟨M4, eM4, hF⟩ := ltt_some hF
    rw [set_oI ct ad G y1.2 hc hk (by decide) (by rfl), ← eM4] at hP hD
    refine lv_aload_n hx hb dX7_clear_26 rfl (lv_at hl 1 rfl) ?_
    refine lv_iconst (v := (0 : Int32)) hx hb dX7_clear_27 (by decide) ?_
    refine va_put (D := D) (ci := 7) (v := .int (0 : Int32)) (ty := .int) (C := RX7) (T := TX7) (N := 17) hx hb hts (mus hf_X7) tyX7 tyX7_ok nmX7 hown hK hP hD hS a (wld_o ct ad G M4 hc hk (by decide)) rfl 4 (by decide) (hts (.fieldLink RX7 33 "VideoSuite$Store" "longNumbers" "I") (mu mw_360)) (fun _ h9 => h9) rfl (by decide +kernel) rfl rfl (Nat.le_of_ble_eq_true rfl) dX7_clear_28 (fun H locs hP hD hS => ?_)
    obtain ⟨M5, eM5, hF⟩ := ltt_some hF
    rw [set_oI ct ad G M4 hc hk (by decide) (by rfl), ← eM5] at hP hD
    refine lv_aload_n hx hb dX7_clear_31 rfl (lv_at hl 1 rfl) ?_
    refine lv_iconst (v := (0 : Int32)) hx hb dX7_clear_32 (by decide) ?_
    refine va_put (D := D) (ci := 7) (v := .int (0 : Int32)) (ty := .int) (C := RX7) (T := TX7) (N := 17) hx hb hts (mus hf_X7) tyX7 tyX7_ok nmX7 hown hK hP hD hS a (wld_o ct ad G M5 hc hk (by decide)) rfl 5 (by decide) (hts (.fieldLink RX7 36 "VideoSuite$Store" "last" "I") (mu mw_361)) (fun _ h9 => h9) rfl (by decide +kernel) rfl rfl (Nat.le_of_ble_eq_true rfl) dX7_clear_33 (fun H locs hP hD hS => ?_)
    obtain ⟨M6, eM6, hF⟩ := ltt_some hF
    rw [set_oI ct ad G M5 hc hk (by decide) (by rfl), ← eM6] at hP hD
    refine lv_aload_n hx hb dX7_clear_36 rfl (lv_at hl 1 rfl) ?_
    refine lv_nullq (ad := ad) hx hb dX7_clear_37 ?_
    refine va_put (D := D) (ci := 7) (v := va_re ad none) (ty := (.object "VideoSuite$Picture")) (C := RX7) (T := TX7) (N := 17) hx hb hts (mus hf_X7) tyX7 tyX7_ok nmX7 hown hK hP hD hS a (wld_o ct ad G M6 hc hk (by decide)) rfl 6 (by decide) (hts (.fieldLink RX7 39 "VideoSuite$Store" "ended" "LVideoSuite$Picture;") (mu mw_364)) (fun _ h9 => h9) rfl (by decide +kernel) (nar_q ad (Or.inl ⟨_, rfl⟩) none).1 (nar_q ad (Or.inl ⟨_, rfl⟩) none).2 (Nat.le_of_ble_eq_true rfl) dX7_clear_38 (fun H locs hP hD hS => ?_)
    obtain ⟨M7, eM7, hF⟩ := ltt_some hF
    rw [set_oP ct ad G M6 hc hk (by decide) (by rfl), ← eM7] at hP hD
    refine lv_aload_n hx hb dX7_clear_41 rfl (lv_at hl 1 rfl) ?_
    refine lv_nullq (ad := ad) hx hb dX7_clear_42 ?_
    refine va_put (D := D) (ci := 7) (v := va_re ad none) (ty := (.object "VideoSuite$Picture")) (C := RX7) (T := TX7) (N := 17) hx hb hts (mus hf_X7) tyX7 tyX7_ok nmX7 hown hK hP hD hS a (wld_o ct ad G M7 hc hk (by decide)) rfl 7 (by decide) (hts (.fieldLink RX7 43 "VideoSuite$Store" "latestReference" "LVideoSuite$Picture;") (mu mw_366)) (fun _ h9 => h9) rfl (by decide +kernel) (nar_q ad (Or.inl ⟨_, rfl⟩) none).1 (nar_q ad (Or.inl ⟨_, rfl⟩) none).2 (Nat.le_of_ble_eq_true rfl) dX7_clear_43 (fun H locs hP hD hS => ?_)
    obtain ⟨M8, eM8, hF⟩ := ltt_some hF
    rw [set_oP ct ad G M7 hc hk (by decide) (by rfl), ← eM8] at hP hD
    refine lv_aload_n hx hb dX7_clear_46 rfl (lv_at hl 1 rfl) ?_
    refine lv_iconst (v := (0 : Int32)) hx hb dX7_clear_47 (by decide) ?_
    refine va_put (D := D) (ci := 7) (v := .int (0 : Int32)) (ty := .int) (C := RX7) (T := TX7) (N := 17) hx hb hts (mus hf_X7) tyX7 tyX7_ok nmX7 hown hK hP hD hS a (wld_o ct ad G M8 hc hk (by decide)) rfl 8 (by decide) (hts (.fieldLink RX7 46 "VideoSuite$Store" "highBefore" "I") (mu mw_367)) (fun _ h9 => h9) rfl (by decide +kernel) rfl rfl (Nat.le_of_ble_eq_true rfl) dX7_clear_48 (fun H locs hP hD hS => ?_)
    obtain ⟨M9, eM9, hF⟩ := ltt_some hF
    rw [set_oI ct ad G M8 hc hk (by decide) (by rfl), ← eM9] at hP hD
    refine lv_aload_n hx hb dX7_clear_51 rfl (lv_at hl 1 rfl) ?_
    refine lv_iconst (v := (0 : Int32)) hx hb dX7_clear_52 (by decide) ?_
    refine va_put (D := D) (ci := 7) (v := .int (0 : Int32)) (ty := .int) (C := RX7) (T := TX7) (N := 17) hx hb hts (mus hf_X7) tyX7 tyX7_ok nmX7 hown hK hP hD hS a (wld_o ct ad G M9 hc hk (by decide)) rfl 9 (by decide) (hts (.fieldLink RX7 49 "VideoSuite$Store" "lowBefore" "I") (mu mw_368)) (fun _ h9 => h9) rfl (by decide +kernel) rfl rfl (Nat.le_of_ble_eq_true rfl) dX7_clear_53 (fun H locs hP hD hS => ?_)
    obtain ⟨M10, eM10, hF⟩ := ltt_some hF
    rw [set_oI ct ad G M9 hc hk (by decide) (by rfl), ← eM10] at hP hD
    refine lv_aload_n hx hb dX7_clear_56 rfl (lv_at hl 1 rfl) ?_
    refine lv_iconst (v := (0 : Int32)) hx hb dX7_clear_57 (by decide) ?_
    refine va_put (D := D) (ci := 7) (v := .int (0 : Int32)) (ty := .int) (C := RX7) (T := TX7) (N := 17) hx hb hts (mus hf_X7) tyX7 tyX7_ok nmX7 hown hK hP hD hS a (wld_o ct ad G M10 hc hk (by decide)) rfl 10 (by decide) (hts (.fieldLink RX7 52 "VideoSuite$Store" "turnBefore" "I") (mu mw_369)) (fun _ h9 => h9) rfl (by decide +kernel) rfl rfl (Nat.le_of_ble_eq_true rfl) dX7_clear_58 (fun H locs hP hD hS => ?_)
    obtain ⟨M11, eM11, hF⟩ := ltt_some hF
    rw [set_oI ct ad G M10 hc hk (by decide) (by rfl), ← eM11] at hP hD
    refine lv_aload_n hx hb dX7_clear_61 rfl (lv_at hl 1 rfl) ?_
    refine lv_iconst (v := (0 : Int32)) hx hb dX7_clear_62 (by decide) ?_
    refine va_put (D := D) (ci := 7) (v := .int (0 : Int32)) (ty := .int) (C := RX7) (T := TX7) (N := 17) hx hb hts (mus hf_X7) tyX7 tyX7_ok nmX7 hown hK hP hD hS a (wld_o ct ad G M11 hc hk (by decide)) rfl 11 (by decide) (hts (.fieldLink RX7 55 "VideoSuite$Store" "frameBefore" "I") (mu mw_370)) (fun _ h9 => h9) rfl (by decide +kernel) rfl rfl (Nat.le_of_ble_eq_true rfl) dX7_clear_63 (fun H locs hP hD hS => ?_)
    obtain ⟨M12, eM12, hF⟩ := ltt_some hF
    rw [set_oI ct ad G M11 hc hk (by decide) (by rfl), ← eM12] at hP hD
    refine lv_aload_n hx hb dX7_clear_66 rfl (lv_at hl 1 rfl) ?_
    refine lv_iconst (v := (0 : Int32)) hx hb dX7_clear_67 (by decide) ?_
    refine va_put (D := D) (ci := 7) (v := .int (0 : Int32)) (ty := .int) (C := RX7) (T := TX7) (N := 17) hx hb hts (mus hf_X7) tyX7 tyX7_ok nmX7 hown hK hP hD hS a (wld_o ct ad G M12 hc hk (by decide)) rfl 14 (by decide) (hts (.fieldLink RX7 58 "VideoSuite$Store" "outputs" "I") (mu mw_373)) (fun _ h9 => h9) rfl (by decide +kernel) rfl rfl (Nat.le_of_ble_eq_true rfl) dX7_clear_68 (fun H locs hP hD hS => ?_)
    obtain ⟨M13, eM13, hF⟩ := ltt_some hF
    rw [set_oI ct ad G M12 hc hk (by decide) (by rfl), ← eM13] at hP hD
    obtain rfl := Option.some.inj hF
    exact W.vret hx hb hr (fun t ht hW => ⟨⟨(), rfl, trivial, ⟨by rw [ht]; exact hP, va_K.moved hW.alike hK, hD⟩⟩, hS.F ht⟩) hS.2.2 dX7_clear_71
  clear hF
  refine itr_rule (fun (s2 : Int32 × DD) => ∀ (H : Heap) (locs : List Loc) (ls : Array Slot), va_P D classes (wld ct ad G s2.2) H → va_D A (wld ct ad G s2.2) → va_S A s.heap H locs → lv_has ls 2 [(1, .int s2.1), (0, .ref (ad a))] → W p l e (headSpec wuX7_clear ({ frames := 0, cells := 0, slots := 0, locals := 0 })).room s m ([.ref (ad a)] : List Value).toArray below meth c H locs 0 0 (MQ below (va_Qv (fun (_ : Unit) => True) (fun _ t => kE D ct ad G A y t) A) ([.ref (ad a)] : List Value).toArray s 0 0 A) (F0 m 2 ls [])) ?_ _ _ hy1 _ _ _ hP hD hS (lv_sub hl [0, 1] rfl)
  rintro s2 ⟨z14, hF, hwz14⟩ H locs ls hP hD hS hl
  try dsimp only at hF
  refine lv_iload_n hx hb dX7_clear_2 rfl (lv_at hl 0 rfl) ?_
  refine lv_bipush (v := (6 : Int32)) hx hb dX7_clear_3 (by decide) ?_
  refine lv_icmp_ge (tgt := 21) hx hb dX7_clear_5 (by decide) (fun c15 => ?_) (fun c15 => ?_)
  · rw [if_pos c15] at hF
    obtain rfl := Option.some.inj hF
    subst hwz14
    exact K1 _ _ _ hP hD hS (lv_sub hl [0, 1] rfl)
  · rw [if_neg c15] at hF
    refine lv_aload_n hx hb dX7_clear_8 rfl (lv_at hl 1 rfl) ?_
    refine va_get (D := D) (ci := 7) (v := va_re ad (s2.2.2 a 2)) (C := RX7) (T := TX7) (N := 17) hx hb hts (mus hf_X7) hown hK hP a (wld_o ct ad G s2.2 hc hk (by decide)) rfl 2 (by decide) (hts (.fieldLink RX7 17 "VideoSuite$Store" "kept" "[LVideoSuite$Picture;") (mu mw_357)) (fun _ h9 => h9) rfl dX7_clear_9 ?_
    refine lv_iload_n hx hb dX7_clear_12 rfl (lv_at hl 0 rfl) ?_
    refine lv_nullq (ad := ad) hx hb dX7_clear_13 ?_
    obtain ⟨b16, ho16, hc16, hk16, hF⟩ := dr_some hF
    refine W_st (st' := [va_re ad none, .int s2.1, .ref (ad b16)]) (by rw [va_some ho16]) ?_
    obtain ⟨hvc, hF⟩ := chk_some hF
    obtain ⟨ho9, hF⟩ := chk_some hF
    refine st_q (o := none) hx hb hK hP hD hS hc16 hk16 ho9 hvc dX7_clear_14 (fun H locs hP hD hS => ?_)
    obtain ⟨M17, eM17, hF⟩ := ltt_some hF
    rw [← eM17] at hP hD
    obtain ⟨x18, ex18, hF⟩ := ltt_some hF
    refine lv_iinc (v := x18) (lv' := [(1, .int x18), (0, .ref (ad a))]) hx hb dX7_clear_15 hl (k := 0) rfl (by rw [ex18]; rfl) (by decide) rfl (fun ls hl => ?_)
    refine lv_goto (tgt := 2) hx hb dX7_clear_18 (by decide) ?_
    obtain rfl := Option.some.inj hF
    exact hwz14 _ _ _ hP hD hS (lv_sub hl [0, 1] rfl)
theorem dX7_fact_0 : decode cX7_fact 0 = .ok (.aload_n 0, 1) := by decide +kernel
theorem dX7_fact_1 : decode cX7_fact 1 = .ok (.getfield 25, 3) := by decide +kernel
theorem dX7_fact_4 : decode cX7_fact 4 = .ok (.bipush 7, 2) := by decide +kernel
theorem dX7_fact_6 : decode cX7_fact 6 = .ok (.iload_n 1, 1) := by decide +kernel
theorem dX7_fact_7 : decode cX7_fact 7 = .ok (.imul, 1) := by decide +kernel
theorem dX7_fact_8 : decode cX7_fact 8 = .ok (.iload_n 2, 1) := by decide +kernel
theorem dX7_fact_9 : decode cX7_fact 9 = .ok (.iadd, 1) := by decide +kernel
theorem dX7_fact_10 : decode cX7_fact 10 = .ok (.iaload, 1) := by decide +kernel
theorem dX7_fact_11 : decode cX7_fact 11 = .ok (.ireturn, 1) := by decide +kernel
def FX7_fact (G : GG) (M : DD) (a : Nat) (p0 : Int32) (p1 : Int32) : Option (DD × Int32) :=
  ltt ((((7 : Int32)) * p0)) fun x1 =>
  ltt ((x1 + p1)) fun x2 =>
  dr G 13 ((M.2 a 16)) fun b3 =>
  chk (¬ (x2 < 0 ∨ G.2.2 b3 ≤ x2.toNatClampNeg)) <|
  ltt (M.1 b3 x2.toNatClampNeg) fun x4 =>
  some (M, x4)
set_option maxHeartbeats 4000000 in
set_option maxRecDepth 100000 in
theorem kX7_fact (l : Launch) (D : va_G) (ct : CT) (ad : Nat → Nat) (Z : Nat → Nat) (G : GG) (M : DD) (sz : Nat) (a : Nat) (p0 : Int32) (p1 : Int32) (y : DD × Int32) (hc : a < G.1) (hk : G.2.1 a = 7) (hF : FX7_fact G M a p0 p1 = some y) : Met l yX7_fact wuX7_fact ({ frames := 0, cells := 0, slots := 0, locals := 0 }) (va_Pc [.ref (ad a), .int p0, .int p1] (kB D ct ad Z G M sz)) (va_Qi (fun (q : Int32) (_ : Unit) => q = y.2) (fun _ t => kE D ct ad G (wA ad G sz) y.1 t) (wA ad G sz)) 0 0 (wA ad G sz) := by
  refine Met.ofW (cc := cX7_fact) (maxL := 3) (ret := (some .int)) (by decide) rfl ?_
  intro p e s m args below meth c s₁ B hml hv
  obtain ⟨rfl, hsz, hP, hK, hD0, hZ, hN⟩ := hv
  have hx := B.exec
  have hb := B.bytes
  have hr := B.returns
  have hts := atoms_spec (ws := wuX7_fact) B.pre
  have hown : s.vm.findClass RX7 = some m.cls := findClass_of_methodNamed B.named
  have hlocks := B.notSynchronized
  subst hsz
  have hD := wD_self (sz := s.heap.size) hD0
  have hA9 : ∀ q, s.heap.size ≤ q → wA ad G s.heap.size q := fun q h => Or.inr h
  generalize hAe : wA ad G s.heap.size = A at hD hA9 hZ ⊢
  have hS : va_S A s.heap s.heap [] := va_S.rf
  have hl := lv_entry ([.ref (ad a), .int p0, .int p1]) (n := 3) (Nat.le_of_ble_eq_true rfl)
  rw [lg_entry_eq]
  generalize (lg_sl ([.ref (ad a), .int p0, .int p1]) ++ List.replicate (3 - (lg_sl ([.ref (ad a), .int p0, .int p1])).length) Slot.unset).toArray = ls at hl ⊢
  have hl : lv_has ls 3 [(0, .ref (ad a)), (1, .int p0), (2, .int p1)] := hl
  unfold FX7_fact at hF
  refine lv_aload_n hx hb dX7_fact_0 rfl (lv_at hl 0 rfl) ?_
  refine va_get (D := D) (ci := 7) (v := va_re ad (M.2 a 16)) (C := RX7) (T := TX7) (N := 17) hx hb hts (mus hf_X7) hown hK hP a (wld_o ct ad G M hc hk (by decide)) rfl 16 (by decide) (hts (.fieldLink RX7 25 "VideoSuite$Store" "outFact" "[I") (mu mw_376)) (fun _ h9 => h9) rfl dX7_fact_1 ?_
  refine lv_bipush (v := (7 : Int32)) hx hb dX7_fact_4 (by decide) ?_
  refine lv_iload_n hx hb dX7_fact_6 rfl (lv_at hl 1 rfl) ?_
  refine lv_imul hx hb dX7_fact_7 ?_
  obtain ⟨x1, ex1, hF⟩ := ltt_some hF
  refine lv_topi (fun zx1 ezx1 => ?_)
  obtain rfl : x1 = zx1 := ex1.trans ezx1.symm
  refine lv_iload_n hx hb dX7_fact_8 rfl (lv_at hl 2 rfl) ?_
  refine lv_iadd hx hb dX7_fact_9 ?_
  obtain ⟨x2, ex2, hF⟩ := ltt_some hF
  refine lv_topi (fun zx2 ezx2 => ?_)
  obtain rfl : x2 = zx2 := ex2.trans ezx2.symm
  obtain ⟨b3, ho3, hc3, hk3, hF⟩ := dr_some hF
  refine W_st (st' := [.int x2, .ref (ad b3)]) (by rw [va_some ho3]) ?_
  obtain ⟨hvc, hF⟩ := chk_some hF
  refine va_iald hx hb hK hP b3 1 (wld_i ct ad G M hc3 hk3) rfl hvc dX7_fact_10 ?_
  obtain ⟨x4, ex4, hF⟩ := ltt_some hF
  refine lv_topi (fun zx4 ezx4 => ?_)
  obtain rfl : x4 = zx4 := ex4.trans ezx4.symm
  obtain rfl := Option.some.inj hF
  exact W.iret (v := x4) hx hb hr (fun t ht hW => ⟨⟨_, (), rfl, rfl, ⟨by rw [ht]; exact hP, va_K.moved hW.alike hK, hD⟩⟩, hS.F ht⟩) hS.2.2 dX7_fact_11
theorem dX7_frameNumber_0 : decode cX7_frameNumber 0 = .ok (.aload_n 0, 1) := by decide +kernel
theorem dX7_frameNumber_1 : decode cX7_frameNumber 1 = .ok (.getfield 92, 3) := by decide +kernel
theorem dX7_frameNumber_4 : decode cX7_frameNumber 4 = .ok (.iload_n 1, 1) := by decide +kernel
theorem dX7_frameNumber_5 : decode cX7_frameNumber 5 = .ok (.if_icmp .le 12, 3) := by decide +kernel
theorem dX7_frameNumber_8 : decode cX7_frameNumber 8 = .ok (.aload_n 0, 1) := by decide +kernel
theorem dX7_frameNumber_9 : decode cX7_frameNumber 9 = .ok (.getfield 92, 3) := by decide +kernel
theorem dX7_frameNumber_12 : decode cX7_frameNumber 12 = .ok (.iload_n 2, 1) := by decide +kernel
theorem dX7_frameNumber_13 : decode cX7_frameNumber 13 = .ok (.isub, 1) := by decide +kernel
theorem dX7_frameNumber_14 : decode cX7_frameNumber 14 = .ok (.goto 7, 3) := by decide +kernel
theorem dX7_frameNumber_17 : decode cX7_frameNumber 17 = .ok (.aload_n 0, 1) := by decide +kernel
theorem dX7_frameNumber_18 : decode cX7_frameNumber 18 = .ok (.getfield 92, 3) := by decide +kernel
theorem dX7_frameNumber_21 : decode cX7_frameNumber 21 = .ok (.ireturn, 1) := by decide +kernel
def FX7_frameNumber (G : GG) (M : DD) (p0 : Option Nat) (p1 : Int32) (p2 : Int32) : Option (DD × Int32) :=
  dr G 4 p0 fun b1 =>
  ltt (M.1 b1 8) fun x2 =>
  bnd (if x2 ≤ p1 then (ltt (M.1 b1 8) fun x5 =>
  some (x5)) else
  (ltt (M.1 b1 8) fun x6 =>
  ltt ((x6 - p2)) fun x7 =>
  some (x7))) fun (y3 : Int32) =>
  some (M, y3)
set_option maxHeartbeats 4000000 in
set_option maxRecDepth 100000 in
theorem kX7_frameNumber (l : Launch) (D : va_G) (ct : CT) (ad : Nat → Nat) (Z : Nat → Nat) (G : GG) (M : DD) (sz : Nat) (p0 : Option Nat) (p1 : Int32) (p2 : Int32) (y : DD × Int32) (hF : FX7_frameNumber G M p0 p1 p2 = some y) : Met l yX7_frameNumber wuX7_frameNumber ({ frames := 0, cells := 0, slots := 0, locals := 0 }) (va_Pc [va_re ad p0, .int p1, .int p2] (kB D ct ad Z G M sz)) (va_Qi (fun (q : Int32) (_ : Unit) => q = y.2) (fun _ t => kE D ct ad G (wA ad G sz) y.1 t) (wA ad G sz)) 0 0 (wA ad G sz) := by
  refine Met.ofW (cc := cX7_frameNumber) (maxL := 3) (ret := (some .int)) (by decide) rfl ?_
  intro p e s m args below meth c s₁ B hml hv
  obtain ⟨rfl, hsz, hP, hK, hD0, hZ, hN⟩ := hv
  have hx := B.exec
  have hb := B.bytes
  have hr := B.returns
  have hts := atoms_spec (ws := wuX7_frameNumber) B.pre
  have hown : s.vm.findClass RX7 = some m.cls := findClass_of_methodNamed B.named
  have hlocks := B.notSynchronized
  subst hsz
  have hD := wD_self (sz := s.heap.size) hD0
  have hA9 : ∀ q, s.heap.size ≤ q → wA ad G s.heap.size q := fun q h => Or.inr h
  generalize hAe : wA ad G s.heap.size = A at hD hA9 hZ ⊢
  have hS : va_S A s.heap s.heap [] := va_S.rf
  have hl := lv_entry ([va_re ad p0, .int p1, .int p2]) (n := 3) (by cases p0 <;> exact Nat.le_of_ble_eq_true rfl)
  rw [lg_entry_eq]
  generalize (lg_sl ([va_re ad p0, .int p1, .int p2]) ++ List.replicate (3 - (lg_sl ([va_re ad p0, .int p1, .int p2])).length) Slot.unset).toArray = ls at hl ⊢
  have hl : lv_has ls 3 [(0, va_re ad p0), (1, .int p1), (2, .int p2)] := by have e9 : lv_args 0 [va_re ad p0, .int p1, .int p2] = [(0, va_re ad p0), (1, .int p1), (2, .int p2)] := (by cases p0 <;> rfl); rw [e9] at hl; exact hl
  unfold FX7_frameNumber at hF
  refine lv_aloadq_n hx hb dX7_frameNumber_0 rfl (lv_at hl 0 rfl) ?_
  obtain ⟨b1, ho1, hc1, hk1, hF⟩ := dr_some hF
  refine W_st (st' := [.ref (ad b1)]) (by rw [va_some ho1]) ?_
  refine va_get (D := D) (ci := 4) (v := .int (M.1 b1 8)) (C := RX4) (T := TX4) (N := 18) hx hb hts (mus hf_X4) hown hK hP b1 (wld_o ct ad G M hc1 hk1 (by decide)) rfl 8 (by decide) (hts (.fieldLink RX7 92 "VideoSuite$Picture" "frame" "I") (mu mw_1450)) (fun _ h9 => h9) rfl dX7_frameNumber_1 ?_
  obtain ⟨x2, ex2, hF⟩ := ltt_some hF
  refine lv_topi (fun zx2 ezx2 => ?_)
  obtain rfl : x2 = zx2 := ex2.trans ezx2.symm
  refine lv_iload_n hx hb dX7_frameNumber_4 rfl (lv_at hl 1 rfl) ?_
  obtain ⟨y3, hy3, hF⟩ := bnd_some hF
  have J3 : ∀ (H : Heap) (locs : List Loc) (ls : Array Slot), va_P D classes (wld ct ad G M) H → va_D A (wld ct ad G M) → va_S A s.heap H locs → lv_has ls 3 [(0, va_re ad p0), (1, .int p1), (2, .int p2)] → W p l e (headSpec wuX7_frameNumber ({ frames := 0, cells := 0, slots := 0, locals := 0 })).room s m ([va_re ad p0, .int p1, .int p2] : List Value).toArray below meth c H locs 0 0 (MQ below (va_Qi (fun (q : Int32) (_ : Unit) => q = y.2) (fun _ t => kE D ct ad G A y.1 t) A) ([va_re ad p0, .int p1, .int p2] : List Value).toArray s 0 0 A) (F0 m 21 ls [.int y3]) := by
    intro H locs ls hP hD hS hl
    obtain rfl := Option.some.inj hF
    exact W.iret (v := y3) hx hb hr (fun t ht hW => ⟨⟨_, (), rfl, rfl, ⟨by rw [ht]; exact hP, va_K.moved hW.alike hK, hD⟩⟩, hS.F ht⟩) hS.2.2 dX7_frameNumber_21
  clear hF
  have hF := hy3
  clear hy3
  refine lv_icmp_le (tgt := 17) hx hb dX7_frameNumber_5 (by decide) (fun c4 => ?_) (fun c4 => ?_)
  · rw [if_pos c4] at hF
    refine lv_aloadq_n hx hb dX7_frameNumber_17 rfl (lv_at hl 0 rfl) ?_
    refine W_st (st' := [.ref (ad b1)]) (by rw [va_some ho1]) ?_
    refine va_get (D := D) (ci := 4) (v := .int (M.1 b1 8)) (C := RX4) (T := TX4) (N := 18) hx hb hts (mus hf_X4) hown hK hP b1 (wld_o ct ad G M hc1 hk1 (by decide)) rfl 8 (by decide) (hts (.fieldLink RX7 92 "VideoSuite$Picture" "frame" "I") (mu mw_1450)) (fun _ h9 => h9) rfl dX7_frameNumber_18 ?_
    obtain ⟨x5, ex5, hF⟩ := ltt_some hF
    refine lv_topi (fun zx5 ezx5 => ?_)
    obtain rfl : x5 = zx5 := ex5.trans ezx5.symm
    obtain rfl := Option.some.inj hF
    exact J3 _ _ _ hP hD hS (lv_sub hl [0, 1, 2] rfl)
  · rw [if_neg c4] at hF
    refine lv_aloadq_n hx hb dX7_frameNumber_8 rfl (lv_at hl 0 rfl) ?_
    refine W_st (st' := [.ref (ad b1)]) (by rw [va_some ho1]) ?_
    refine va_get (D := D) (ci := 4) (v := .int (M.1 b1 8)) (C := RX4) (T := TX4) (N := 18) hx hb hts (mus hf_X4) hown hK hP b1 (wld_o ct ad G M hc1 hk1 (by decide)) rfl 8 (by decide) (hts (.fieldLink RX7 92 "VideoSuite$Picture" "frame" "I") (mu mw_1450)) (fun _ h9 => h9) rfl dX7_frameNumber_9 ?_
    obtain ⟨x6, ex6, hF⟩ := ltt_some hF
    refine lv_topi (fun zx6 ezx6 => ?_)
    obtain rfl : x6 = zx6 := ex6.trans ezx6.symm
    refine lv_iload_n hx hb dX7_frameNumber_12 rfl (lv_at hl 2 rfl) ?_
    refine lv_isub hx hb dX7_frameNumber_13 ?_
    obtain ⟨x7, ex7, hF⟩ := ltt_some hF
    refine lv_topi (fun zx7 ezx7 => ?_)
    obtain rfl : x7 = zx7 := ex7.trans ezx7.symm
    refine lv_goto (tgt := 21) hx hb dX7_frameNumber_14 (by decide) ?_
    obtain rfl := Option.some.inj hF
    exact J3 _ _ _ hP hD hS (lv_sub hl [0, 1, 2] rfl)
theorem dX7_high_0 : decode cX7_high 0 = .ok (.iload_n 2, 1) := by decide +kernel
theorem dX7_high_1 : decode cX7_high 1 = .ok (.ifCond .ne 17, 3) := by decide +kernel
theorem dX7_high_4 : decode cX7_high 4 = .ok (.aload_n 0, 1) := by decide +kernel
theorem dX7_high_5 : decode cX7_high 5 = .ok (.getfield 25, 3) := by decide +kernel
theorem dX7_high_8 : decode cX7_high 8 = .ok (.bipush 7, 2) := by decide +kernel
theorem dX7_high_10 : decode cX7_high 10 = .ok (.iload_n 1, 1) := by decide +kernel
theorem dX7_high_11 : decode cX7_high 11 = .ok (.imul, 1) := by decide +kernel
theorem dX7_high_12 : decode cX7_high 12 = .ok (.iconst 1, 1) := by decide +kernel
theorem dX7_high_13 : decode cX7_high 13 = .ok (.iadd, 1) := by decide +kernel
theorem dX7_high_14 : decode cX7_high 14 = .ok (.iaload, 1) := by decide +kernel
theorem dX7_high_15 : decode cX7_high 15 = .ok (.goto 16, 3) := by decide +kernel
theorem dX7_high_18 : decode cX7_high 18 = .ok (.aload_n 0, 1) := by decide +kernel
theorem dX7_high_19 : decode cX7_high 19 = .ok (.getfield 25, 3) := by decide +kernel
theorem dX7_high_22 : decode cX7_high 22 = .ok (.bipush 7, 2) := by decide +kernel
theorem dX7_high_24 : decode cX7_high 24 = .ok (.iload_n 1, 1) := by decide +kernel
theorem dX7_high_25 : decode cX7_high 25 = .ok (.imul, 1) := by decide +kernel
theorem dX7_high_26 : decode cX7_high 26 = .ok (.iconst 1, 1) := by decide +kernel
theorem dX7_high_27 : decode cX7_high 27 = .ok (.iadd, 1) := by decide +kernel
theorem dX7_high_28 : decode cX7_high 28 = .ok (.iaload, 1) := by decide +kernel
theorem dX7_high_29 : decode cX7_high 29 = .ok (.iconst 2, 1) := by decide +kernel
theorem dX7_high_30 : decode cX7_high 30 = .ok (.idiv, 1) := by decide +kernel
theorem dX7_high_31 : decode cX7_high 31 = .ok (.ireturn, 1) := by decide +kernel
def FX7_high (G : GG) (M : DD) (a : Nat) (p0 : Int32) (p1 : Int32) : Option (DD × Int32) :=
  bnd (if p1 = ((0 : Int32)) then (ltt ((((7 : Int32)) * p0)) fun x8 =>
  ltt ((x8 + ((1 : Int32)))) fun x9 =>
  dr G 13 ((M.2 a 16)) fun b10 =>
  chk (¬ (x9 < 0 ∨ G.2.2 b10 ≤ x9.toNatClampNeg)) <|
  ltt (M.1 b10 x9.toNatClampNeg) fun x11 =>
  some (x11)) else
  (ltt ((((7 : Int32)) * p0)) fun x3 =>
  ltt ((x3 + ((1 : Int32)))) fun x4 =>
  dr G 13 ((M.2 a 16)) fun b5 =>
  chk (¬ (x4 < 0 ∨ G.2.2 b5 ≤ x4.toNatClampNeg)) <|
  ltt (M.1 b5 x4.toNatClampNeg) fun x6 =>
  ltt (x6 / ((2 : Int32))) fun x7 =>
  some (x7))) fun (y1 : Int32) =>
  some (M, y1)
set_option maxHeartbeats 4000000 in
set_option maxRecDepth 100000 in
theorem kX7_high (l : Launch) (D : va_G) (ct : CT) (ad : Nat → Nat) (Z : Nat → Nat) (G : GG) (M : DD) (sz : Nat) (a : Nat) (p0 : Int32) (p1 : Int32) (y : DD × Int32) (hc : a < G.1) (hk : G.2.1 a = 7) (hF : FX7_high G M a p0 p1 = some y) : Met l yX7_high wuX7_high ({ frames := 0, cells := 0, slots := 0, locals := 0 }) (va_Pc [.ref (ad a), .int p0, .int p1] (kB D ct ad Z G M sz)) (va_Qi (fun (q : Int32) (_ : Unit) => q = y.2) (fun _ t => kE D ct ad G (wA ad G sz) y.1 t) (wA ad G sz)) 0 0 (wA ad G sz) := by
  refine Met.ofW (cc := cX7_high) (maxL := 3) (ret := (some .int)) (by decide) rfl ?_
  intro p e s m args below meth c s₁ B hml hv
  obtain ⟨rfl, hsz, hP, hK, hD0, hZ, hN⟩ := hv
  have hx := B.exec
  have hb := B.bytes
  have hr := B.returns
  have hts := atoms_spec (ws := wuX7_high) B.pre
  have hown : s.vm.findClass RX7 = some m.cls := findClass_of_methodNamed B.named
  have hlocks := B.notSynchronized
  subst hsz
  have hD := wD_self (sz := s.heap.size) hD0
  have hA9 : ∀ q, s.heap.size ≤ q → wA ad G s.heap.size q := fun q h => Or.inr h
  generalize hAe : wA ad G s.heap.size = A at hD hA9 hZ ⊢
  have hS : va_S A s.heap s.heap [] := va_S.rf
  have hl := lv_entry ([.ref (ad a), .int p0, .int p1]) (n := 3) (Nat.le_of_ble_eq_true rfl)
  rw [lg_entry_eq]
  generalize (lg_sl ([.ref (ad a), .int p0, .int p1]) ++ List.replicate (3 - (lg_sl ([.ref (ad a), .int p0, .int p1])).length) Slot.unset).toArray = ls at hl ⊢
  have hl : lv_has ls 3 [(0, .ref (ad a)), (1, .int p0), (2, .int p1)] := hl
  unfold FX7_high at hF
  refine lv_iload_n hx hb dX7_high_0 rfl (lv_at hl 2 rfl) ?_
  obtain ⟨y1, hy1, hF⟩ := bnd_some hF
  have J1 : ∀ (H : Heap) (locs : List Loc) (ls : Array Slot), va_P D classes (wld ct ad G M) H → va_D A (wld ct ad G M) → va_S A s.heap H locs → lv_has ls 3 [(0, .ref (ad a)), (1, .int p0), (2, .int p1)] → W p l e (headSpec wuX7_high ({ frames := 0, cells := 0, slots := 0, locals := 0 })).room s m ([.ref (ad a), .int p0, .int p1] : List Value).toArray below meth c H locs 0 0 (MQ below (va_Qi (fun (q : Int32) (_ : Unit) => q = y.2) (fun _ t => kE D ct ad G A y.1 t) A) ([.ref (ad a), .int p0, .int p1] : List Value).toArray s 0 0 A) (F0 m 31 ls [.int y1]) := by
    intro H locs ls hP hD hS hl
    obtain rfl := Option.some.inj hF
    exact W.iret (v := y1) hx hb hr (fun t ht hW => ⟨⟨_, (), rfl, rfl, ⟨by rw [ht]; exact hP, va_K.moved hW.alike hK, hD⟩⟩, hS.F ht⟩) hS.2.2 dX7_high_31
  clear hF
  have hF := hy1
  clear hy1
  refine lv_if_ne (tgt := 18) hx hb dX7_high_1 (by decide) (fun c2 => ?_) (fun c2 => ?_)
  · rw [if_neg c2] at hF
    refine lv_aload_n hx hb dX7_high_18 rfl (lv_at hl 0 rfl) ?_
    refine va_get (D := D) (ci := 7) (v := va_re ad (M.2 a 16)) (C := RX7) (T := TX7) (N := 17) hx hb hts (mus hf_X7) hown hK hP a (wld_o ct ad G M hc hk (by decide)) rfl 16 (by decide) (hts (.fieldLink RX7 25 "VideoSuite$Store" "outFact" "[I") (mu mw_376)) (fun _ h9 => h9) rfl dX7_high_19 ?_
    refine lv_bipush (v := (7 : Int32)) hx hb dX7_high_22 (by decide) ?_
    refine lv_iload_n hx hb dX7_high_24 rfl (lv_at hl 1 rfl) ?_
    refine lv_imul hx hb dX7_high_25 ?_
    obtain ⟨x3, ex3, hF⟩ := ltt_some hF
    refine lv_topi (fun zx3 ezx3 => ?_)
    obtain rfl : x3 = zx3 := ex3.trans ezx3.symm
    refine lv_iconst (v := (1 : Int32)) hx hb dX7_high_26 (by decide) ?_
    refine lv_iadd hx hb dX7_high_27 ?_
    obtain ⟨x4, ex4, hF⟩ := ltt_some hF
    refine lv_topi (fun zx4 ezx4 => ?_)
    obtain rfl : x4 = zx4 := ex4.trans ezx4.symm
    obtain ⟨b5, ho5, hc5, hk5, hF⟩ := dr_some hF
    refine W_st (st' := [.int x4, .ref (ad b5)]) (by rw [va_some ho5]) ?_
    obtain ⟨hvc, hF⟩ := chk_some hF
    refine va_iald hx hb hK hP b5 1 (wld_i ct ad G M hc5 hk5) rfl hvc dX7_high_28 ?_
    obtain ⟨x6, ex6, hF⟩ := ltt_some hF
    refine lv_topi (fun zx6 ezx6 => ?_)
    obtain rfl : x6 = zx6 := ex6.trans ezx6.symm
    refine lv_iconst (v := (2 : Int32)) hx hb dX7_high_29 (by decide) ?_
    refine lv_idiv hx hb dX7_high_30 (by decide) ?_
    obtain ⟨x7, ex7, hF⟩ := ltt_some hF
    refine lv_topi (fun zx7 ezx7 => ?_)
    obtain rfl : x7 = zx7 := ex7.trans ezx7.symm
    obtain rfl := Option.some.inj hF
    exact J1 _ _ _ hP hD hS (lv_sub hl [0, 1, 2] rfl)
  · rw [if_pos c2] at hF
    refine lv_aload_n hx hb dX7_high_4 rfl (lv_at hl 0 rfl) ?_
    refine va_get (D := D) (ci := 7) (v := va_re ad (M.2 a 16)) (C := RX7) (T := TX7) (N := 17) hx hb hts (mus hf_X7) hown hK hP a (wld_o ct ad G M hc hk (by decide)) rfl 16 (by decide) (hts (.fieldLink RX7 25 "VideoSuite$Store" "outFact" "[I") (mu mw_376)) (fun _ h9 => h9) rfl dX7_high_5 ?_
    refine lv_bipush (v := (7 : Int32)) hx hb dX7_high_8 (by decide) ?_
    refine lv_iload_n hx hb dX7_high_10 rfl (lv_at hl 1 rfl) ?_
    refine lv_imul hx hb dX7_high_11 ?_
    obtain ⟨x8, ex8, hF⟩ := ltt_some hF
    refine lv_topi (fun zx8 ezx8 => ?_)
    obtain rfl : x8 = zx8 := ex8.trans ezx8.symm
    refine lv_iconst (v := (1 : Int32)) hx hb dX7_high_12 (by decide) ?_
    refine lv_iadd hx hb dX7_high_13 ?_
    obtain ⟨x9, ex9, hF⟩ := ltt_some hF
    refine lv_topi (fun zx9 ezx9 => ?_)
    obtain rfl : x9 = zx9 := ex9.trans ezx9.symm
    obtain ⟨b10, ho10, hc10, hk10, hF⟩ := dr_some hF
    refine W_st (st' := [.int x9, .ref (ad b10)]) (by rw [va_some ho10]) ?_
    obtain ⟨hvc, hF⟩ := chk_some hF
    refine va_iald hx hb hK hP b10 1 (wld_i ct ad G M hc10 hk10) rfl hvc dX7_high_14 ?_
    obtain ⟨x11, ex11, hF⟩ := ltt_some hF
    refine lv_topi (fun zx11 ezx11 => ?_)
    obtain rfl : x11 = zx11 := ex11.trans ezx11.symm
    refine lv_goto (tgt := 31) hx hb dX7_high_15 (by decide) ?_
    obtain rfl := Option.some.inj hF
    exact J1 _ _ _ hP hD hS (lv_sub hl [0, 1, 2] rfl)
theorem dX7_init_0 : decode cX7_init 0 = .ok (.aload_n 0, 1) := by decide +kernel
theorem dX7_init_1 : decode cX7_init 1 = .ok (.invokespecial 3, 3) := by decide +kernel
theorem dX7_init_4 : decode cX7_init 4 = .ok (.aload_n 0, 1) := by decide +kernel
theorem dX7_init_5 : decode cX7_init 5 = .ok (.bipush 10, 2) := by decide +kernel
theorem dX7_init_7 : decode cX7_init 7 = .ok (.anewarray 11, 3) := by decide +kernel
theorem dX7_init_10 : decode cX7_init 10 = .ok (.putfield 13, 3) := by decide +kernel
theorem dX7_init_13 : decode cX7_init 13 = .ok (.aload_n 0, 1) := by decide +kernel
theorem dX7_init_14 : decode cX7_init 14 = .ok (.bipush 6, 2) := by decide +kernel
theorem dX7_init_16 : decode cX7_init 16 = .ok (.anewarray 11, 3) := by decide +kernel
theorem dX7_init_19 : decode cX7_init 19 = .ok (.putfield 17, 3) := by decide +kernel
theorem dX7_init_22 : decode cX7_init 22 = .ok (.aload_n 0, 1) := by decide +kernel
theorem dX7_init_23 : decode cX7_init 23 = .ok (.bipush 40, 2) := by decide +kernel
theorem dX7_init_25 : decode cX7_init 25 = .ok (.iconst 0, 1) := by decide +kernel
theorem dX7_init_26 : decode cX7_init 26 = .ok (.multianewarray 20 2, 4) := by decide +kernel
theorem dX7_init_30 : decode cX7_init 30 = .ok (.putfield 22, 3) := by decide +kernel
theorem dX7_init_33 : decode cX7_init 33 = .ok (.aload_n 0, 1) := by decide +kernel
theorem dX7_init_34 : decode cX7_init 34 = .ok (.sipush 280, 3) := by decide +kernel
theorem dX7_init_37 : decode cX7_init 37 = .ok (.newarray .int, 2) := by decide +kernel
theorem dX7_init_39 : decode cX7_init 39 = .ok (.putfield 25, 3) := by decide +kernel
theorem dX7_init_42 : decode cX7_init 42 = .ok (.return_, 1) := by decide +kernel
noncomputable def FX7_init (G : GG) (M : DD) (a : Nat)  : Option (NN × DD) :=
  chkP (Clo (xt G []) M) <|
  chk (¬ ((10 : Int32)) < 0 ∧ ((10 : Int32)).toNatClampNeg * 4 ≤ 536870912) <|
  ltt ((xt G []).1) fun c2 =>
  app [(14, ((10 : Int32)).toNatClampNeg)] <|
  ltt ([] ++ [(14, ((10 : Int32)).toNatClampNeg)]) fun L4 =>
  ltt (rO M c2) fun M5 =>
  ltt (uP M5 a 0 (some c2)) fun M8 =>
  chkP (Clo (xt G L4) M8) <|
  chk (¬ ((6 : Int32)) < 0 ∧ ((6 : Int32)).toNatClampNeg * 4 ≤ 536870912) <|
  ltt ((xt G L4).1) fun c10 =>
  app [(14, ((6 : Int32)).toNatClampNeg)] <|
  ltt (L4 ++ [(14, ((6 : Int32)).toNatClampNeg)]) fun L12 =>
  ltt (rO M8 c10) fun M13 =>
  ltt (uP M13 a 2 (some c10)) fun M16 =>
  chkP (Clo (xt G L12) M16) <|
  ltt ((xt G L12).1) fun c18 =>
  app (mrel 40 0) <|
  ltt (L12 ++ mrel 40 0) fun L20 =>
  ltt (mM M16 c18 40) fun M21 =>
  ltt (uP M21 a 15 (some c18)) fun M24 =>
  chkP (Clo (xt G L20) M24) <|
  chk (¬ ((280 : Int32)) < 0 ∧ ((280 : Int32)).toNatClampNeg * 4 ≤ 536870912) <|
  ltt ((xt G L20).1) fun c26 =>
  app [(13, ((280 : Int32)).toNatClampNeg)] <|
  ltt (L20 ++ [(13, ((280 : Int32)).toNatClampNeg)]) fun L28 =>
  ltt (rO M24 c26) fun M29 =>
  ltt (uP M29 a 16 (some c26)) fun M32 =>
  some ([], M32)
set_option maxHeartbeats 4000000 in
set_option maxRecDepth 100000 in
theorem kX7_init (l : Launch) (D : va_G) (ct : CT) (ad : Nat → Nat) (Z : Nat → Nat) (G : GG) (M : DD) (sz : Nat) (a : Nat)  (y : NN × DD) (hc : a < G.1) (hk : G.2.1 a = 7) (hF : FX7_init G M a  = some y) : Met l yX7_init wuX7_init ({ frames := 1, cells := y.1.length, slots := wt y.1, locals := 20 }) (va_Pc [.ref (ad a)] (kB D ct ad Z G M sz)) (va_Qv (fun (u : Nat → Nat) => agr G.1 ad u) (fun u t => kE D ct u (xt G y.1) (wA ad G sz) y.2 t) (wA ad G sz)) y.1.length (wt y.1) (wA ad G sz) := by
  refine Met.ofW (cc := cX7_init) (maxL := 1) (ret := none) (by decide) rfl ?_
  intro p e s m args below meth c s₁ B hml hv
  obtain ⟨rfl, hsz, hP, hK, hD0, hZ, hN⟩ := hv
  have hx := B.exec
  have hb := B.bytes
  have hr := B.returns
  have hts := atoms_spec (ws := wuX7_init) B.pre
  have hown : s.vm.findClass RX7 = some m.cls := findClass_of_methodNamed B.named
  have hlocks := B.notSynchronized
  have hin : meth.name = "<init>" := (name_of_methodNamed B.named B.method).1
  subst hsz
  have hD := wD_self (sz := s.heap.size) hD0
  have hA9 : ∀ q, s.heap.size ≤ q → wA ad G s.heap.size q := fun q h => Or.inr h
  generalize hAe : wA ad G s.heap.size = A at hD hA9 hZ ⊢
  have hS : va_S A s.heap s.heap [] := va_S.rf
  have hl := lv_entry ([.ref (ad a)]) (n := 1) (Nat.le_of_ble_eq_true rfl)
  rw [lg_entry_eq]
  generalize (lg_sl ([.ref (ad a)]) ++ List.replicate (1 - (lg_sl ([.ref (ad a)])).length) Slot.unset).toArray = ls at hl ⊢
  have hl : lv_has ls 1 [(0, .ref (ad a))] := hl
  unfold FX7_init at hF
  rw [← wld_0 ct ad G M] at hP hD
  have hk := xt_k0 hc hk
  have hc := xt_l0 hc
  have hag := agr_rf G.1 ad
  obtain ⟨w0, hw0⟩ : ∃ z, z = y := ⟨_, rfl⟩
  rw [← hw0] at hF
  have hT : y.1 = [] ++ w0.1 := by rw [hw0]; rfl
  have h2 : y.2 = w0.2 := by rw [hw0]
  have hbl : y.1.length ≤ y.1.length ∧ wt y.1 ≤ wt y.1 := ⟨Nat.le_refl _, Nat.le_refl _⟩
  refine lv_aload_n hx hb dX7_init_0 rfl (lv_at hl 0 rfl) ?_
  refine W.objInit hx hb hown (hts (.methodLink RX7 3 objectInit) (mu mw_350)) (hts (.instanceMethod objectInit) (mu mw_202)) (hts (.code objectInit ⟨#[0xb1]⟩ 1 none) (mu mw_203)) rfl (by rw [hml]; exact hl.1) rfl dX7_init_1 (Nat.le_of_ble_eq_true rfl) (Nat.le_of_ble_eq_true rfl) ?_
  refine W.eq (g2 := F0 m 4 ls []) rfl ?_
  refine lv_aload_n hx hb dX7_init_4 rfl (lv_at hl 0 rfl) ?_
  refine lv_bipush (v := (10 : Int32)) hx hb dX7_init_5 (by decide) ?_
  obtain ⟨hC1, hF⟩ := chkP_some hF
  obtain ⟨hz9, hF⟩ := chk_some hF
  obtain ⟨c2, ec2, hF⟩ := ltt_some hF
  obtain ⟨w3, hF, ew3⟩ := app_some hF
  obtain ⟨L4, eL4, hF⟩ := ltt_some hF
  have hT4 : y.1 = ([] ++ [(14, ((10 : Int32)).toNatClampNeg)]) ++ w3.1 := by rw [hT, ew3]; simp only [List.append_assoc]
  obtain ⟨M5, eM5, hF⟩ := ltt_some hF
  refine new_r hx hb hown (hts (.classLink RX7 11 RX4) (mu mw_351)) (va_AO.use hN.2.1) hK hP hD hS hA9 hz9.1 hz9.2 hC1 (room_1s hT4 hbl) dX7_init_7 (fun ad6 H hn7 hP hD hS => ?_)
  rw [← ec2, ← eL4, ← eM5] at hP hD
  refine W_cs (k := L4.length) (n := wt L4) (by rw [eL4]) (by rw [eL4]) ?_
  refine W_st (st' := [.ref (ad6 c2), .ref (ad a)]) (by rw [ec2]) ?_
  have hT : y.1 = L4 ++ w3.1 := by rw [hT4, eL4]
  have h2 : y.2 = w3.2 := by rw [h2, ew3]
  have hl := lv_sub (l' := [(0, .ref (ad a))]) hl [0] rfl
  have e9 : ([(0, .ref (ad a))] : List (Nat × Value)) = [(0, .ref (ad6 a))] := (by first | rfl | simp only [hn7 a hc])
  rw [e9] at hl
  clear e9
  refine W_st (st' := [.ref (ad6 c2), .ref (ad6 a)]) (by first | rfl | simp only [hn7 a hc]) ?_
  have hk : (xt G L4).2.1 a = 7 := by rw [eL4]; exact xt_k _ hc hk
  have hc : a < (xt G L4).1 := by rw [eL4]; exact xt_l _ hc
  have hag := agr_t (xt_ge _ _) hag hn7
  have hc2 : c2 < (xt G L4).1 := by rw [ec2, eL4]; exact cnt_new _ _ _
  have hk2 : (xt G L4).2.1 c2 = 14 := by rw [ec2, eL4]; exact (kind_new _ _ _ _).1
  refine va_putF (D := D) (ci := 7) (v := va_re ad6 (some c2)) (ty := (.array (.object "VideoSuite$Picture"))) (C := RX7) (T := TX7) (N := 17) hx hb hts (mus hf_X7) tyX7 tyX7_ok nmX7 hown hK hP hD hS a (wld_o ct ad6 (xt G L4) M5 hc hk (by decide)) rfl 0 (by decide) (hts (.fieldLink RX7 13 "VideoSuite$Store" "pool" "[LVideoSuite$Picture;") (mu mw_355)) (fun _ h9 => h9) rfl hin rfl (by decide +kernel) (nar_q ad6 (Or.inr ⟨_, rfl⟩) (some c2)).1 (nar_q ad6 (Or.inr ⟨_, rfl⟩) (some c2)).2 (Nat.le_of_ble_eq_true rfl) dX7_init_10 (fun H locs hP hD hS => ?_)
  obtain ⟨M8, eM8, hF⟩ := ltt_some hF
  rw [set_oP ct ad6 (xt G L4) M5 hc hk (by decide) (by rfl), ← eM8] at hP hD
  refine lv_aload_n hx hb dX7_init_13 rfl (lv_at hl 0 rfl) ?_
  refine lv_bipush (v := (6 : Int32)) hx hb dX7_init_14 (by decide) ?_
  obtain ⟨hC9, hF⟩ := chkP_some hF
  obtain ⟨hz9, hF⟩ := chk_some hF
  obtain ⟨c10, ec10, hF⟩ := ltt_some hF
  obtain ⟨w11, hF, ew11⟩ := app_some hF
  obtain ⟨L12, eL12, hF⟩ := ltt_some hF
  have hT12 : y.1 = (L4 ++ [(14, ((6 : Int32)).toNatClampNeg)]) ++ w11.1 := by rw [hT, ew11]; simp only [List.append_assoc]
  obtain ⟨M13, eM13, hF⟩ := ltt_some hF
  refine new_r hx hb hown (hts (.classLink RX7 11 RX4) (mu mw_351)) (va_AO.use hN.2.1) hK hP hD hS hA9 hz9.1 hz9.2 hC9 (room_1s hT12 hbl) dX7_init_16 (fun ad14 H hn15 hP hD hS => ?_)
  rw [← ec10, ← eL12, ← eM13] at hP hD
  refine W_cs (k := L12.length) (n := wt L12) (by rw [eL12]) (by rw [eL12]) ?_
  refine W_st (st' := [.ref (ad14 c10), .ref (ad6 a)]) (by rw [ec10]) ?_
  have hT : y.1 = L12 ++ w11.1 := by rw [hT12, eL12]
  have h2 : y.2 = w11.2 := by rw [h2, ew11]
  have hl := lv_sub (l' := [(0, .ref (ad6 a))]) hl [0] rfl
  have e9 : ([(0, .ref (ad6 a))] : List (Nat × Value)) = [(0, .ref (ad14 a))] := (by first | rfl | simp only [hn15 a hc])
  rw [e9] at hl
  clear e9
  refine W_st (st' := [.ref (ad14 c10), .ref (ad14 a)]) (by first | rfl | simp only [hn15 a hc]) ?_
  have hk : (xt G L12).2.1 a = 7 := by rw [eL12]; exact xt_k _ hc hk
  have hc : a < (xt G L12).1 := by rw [eL12]; exact xt_l _ hc
  have hk2 : (xt G L12).2.1 c2 = 14 := by rw [eL12]; exact xt_k _ hc2 hk2
  have hc2 : c2 < (xt G L12).1 := by rw [eL12]; exact xt_l _ hc2
  have hag := agr_t (xt_ge _ _) hag hn15
  have hc10 : c10 < (xt G L12).1 := by rw [ec10, eL12]; exact cnt_new _ _ _
  have hk10 : (xt G L12).2.1 c10 = 14 := by rw [ec10, eL12]; exact (kind_new _ _ _ _).1
  refine va_putF (D := D) (ci := 7) (v := va_re ad14 (some c10)) (ty := (.array (.object "VideoSuite$Picture"))) (C := RX7) (T := TX7) (N := 17) hx hb hts (mus hf_X7) tyX7 tyX7_ok nmX7 hown hK hP hD hS a (wld_o ct ad14 (xt G L12) M13 hc hk (by decide)) rfl 2 (by decide) (hts (.fieldLink RX7 17 "VideoSuite$Store" "kept" "[LVideoSuite$Picture;") (mu mw_357)) (fun _ h9 => h9) rfl hin rfl (by decide +kernel) (nar_q ad14 (Or.inr ⟨_, rfl⟩) (some c10)).1 (nar_q ad14 (Or.inr ⟨_, rfl⟩) (some c10)).2 (Nat.le_of_ble_eq_true rfl) dX7_init_19 (fun H locs hP hD hS => ?_)
  obtain ⟨M16, eM16, hF⟩ := ltt_some hF
  rw [set_oP ct ad14 (xt G L12) M13 hc hk (by decide) (by rfl), ← eM16] at hP hD
  refine lv_aload_n hx hb dX7_init_22 rfl (lv_at hl 0 rfl) ?_
  refine lv_bipush (v := (40 : Int32)) hx hb dX7_init_23 (by decide) ?_
  refine lv_iconst (v := (0 : Int32)) hx hb dX7_init_25 (by decide) ?_
  obtain ⟨hC17, hF⟩ := chkP_some hF
  obtain ⟨c18, ec18, hF⟩ := ltt_some hF
  obtain ⟨w19, hF, ew19⟩ := app_some hF
  obtain ⟨L20, eL20, hF⟩ := ltt_some hF
  have hT20 : y.1 = (L12 ++ mrel 40 0) ++ w19.1 := by rw [hT, ew19]; simp only [List.append_assoc]
  obtain ⟨M21, eM21, hF⟩ := ltt_some hF
  refine new_g (n := (40 : Int32)) (k := (0 : Int32)) (n0 := 40) (k0 := 0) hx hb hown (hts (.classLink RX7 20 "[[I") (mu mw_353)) (va_AOA.use hN.2.2.1) (hts (.arrayClass .int) (mu mw_266)) hK hP hD hS hA9 (by decide) (by decide) rfl rfl (by decide) (by decide) hC17 (room_s hT20 hbl) dX7_init_26 (fun ad22 H hn23 hP hD hS => ?_)
  rw [← eL20, ← ec18] at hP hD
  rw [← eM21] at hP hD
  refine W_cs (k := L20.length) (n := wt L20) (by rw [eL20]) (by rw [eL20]) ?_
  refine W_st (st' := [.ref (ad22 c18), .ref (ad14 a)]) (by rw [ec18]) ?_
  have hT : y.1 = L20 ++ w19.1 := by rw [hT20, eL20]
  have h2 : y.2 = w19.2 := by rw [h2, ew19]
  have hl := lv_sub (l' := [(0, .ref (ad14 a))]) hl [0] rfl
  have e9 : ([(0, .ref (ad14 a))] : List (Nat × Value)) = [(0, .ref (ad22 a))] := (by first | rfl | simp only [hn23 a hc])
  rw [e9] at hl
  clear e9
  refine W_st (st' := [.ref (ad22 c18), .ref (ad22 a)]) (by first | rfl | simp only [hn23 a hc]) ?_
  have hk : (xt G L20).2.1 a = 7 := by rw [eL20]; exact xt_k _ hc hk
  have hc : a < (xt G L20).1 := by rw [eL20]; exact xt_l _ hc
  have hk2 : (xt G L20).2.1 c2 = 14 := by rw [eL20]; exact xt_k _ hc2 hk2
  have hc2 : c2 < (xt G L20).1 := by rw [eL20]; exact xt_l _ hc2
  have hk10 : (xt G L20).2.1 c10 = 14 := by rw [eL20]; exact xt_k _ hc10 hk10
  have hc10 : c10 < (xt G L20).1 := by rw [eL20]; exact xt_l _ hc10
  have hag := agr_t (xt_ge _ _) hag hn23
  have hc18 : c18 < (xt G L20).1 := by rw [ec18, eL20]; exact cnt_g _ _ _ _
  have hk18 : (xt G L20).2.1 c18 = 15 := by rw [ec18, eL20]; exact kind_g _ _ _ _
  refine va_putF (D := D) (ci := 7) (v := va_re ad22 (some c18)) (ty := (.array (.array .int))) (C := RX7) (T := TX7) (N := 17) hx hb hts (mus hf_X7) tyX7 tyX7_ok nmX7 hown hK hP hD hS a (wld_o ct ad22 (xt G L20) M21 hc hk (by decide)) rfl 15 (by decide) (hts (.fieldLink RX7 22 "VideoSuite$Store" "outSample" "[[I") (mu mw_375)) (fun _ h9 => h9) rfl hin rfl (by decide +kernel) (nar_q ad22 (Or.inr ⟨_, rfl⟩) (some c18)).1 (nar_q ad22 (Or.inr ⟨_, rfl⟩) (some c18)).2 (Nat.le_of_ble_eq_true rfl) dX7_init_30 (fun H locs hP hD hS => ?_)
  obtain ⟨M24, eM24, hF⟩ := ltt_some hF
  rw [set_oP ct ad22 (xt G L20) M21 hc hk (by decide) (by rfl), ← eM24] at hP hD
  refine lv_aload_n hx hb dX7_init_33 rfl (lv_at hl 0 rfl) ?_
  refine lv_sipush (v := (280 : Int32)) hx hb dX7_init_34 (by decide) ?_
  obtain ⟨hC25, hF⟩ := chkP_some hF
  obtain ⟨hz9, hF⟩ := chk_some hF
  obtain ⟨c26, ec26, hF⟩ := ltt_some hF
  obtain ⟨w27, hF, ew27⟩ := app_some hF
  obtain ⟨L28, eL28, hF⟩ := ltt_some hF
  have hT28 : y.1 = (L20 ++ [(13, ((280 : Int32)).toNatClampNeg)]) ++ w27.1 := by rw [hT, ew27]; simp only [List.append_assoc]
  obtain ⟨M29, eM29, hF⟩ := ltt_some hF
  refine new_i hx hb (hts (.arrayClass .int) (mu mw_266)) hK hP hD hS hA9 hz9.1 hz9.2 hC25 (room_1s hT28 hbl) dX7_init_37 (fun ad30 H hn31 hP hD hS => ?_)
  rw [← ec26, ← eL28, ← eM29] at hP hD
  refine W_cs (k := L28.length) (n := wt L28) (by rw [eL28]) (by rw [eL28]) ?_
  refine W_st (st' := [.ref (ad30 c26), .ref (ad22 a)]) (by rw [ec26]) ?_
  have hT : y.1 = L28 ++ w27.1 := by rw [hT28, eL28]
  have h2 : y.2 = w27.2 := by rw [h2, ew27]
  have hl := lv_sub (l' := []) hl [] rfl
  refine W_st (st' := [.ref (ad30 c26), .ref (ad30 a)]) (by first | rfl | simp only [hn31 a hc]) ?_
  have hk : (xt G L28).2.1 a = 7 := by rw [eL28]; exact xt_k _ hc hk
  have hc : a < (xt G L28).1 := by rw [eL28]; exact xt_l _ hc
  have hk2 : (xt G L28).2.1 c2 = 14 := by rw [eL28]; exact xt_k _ hc2 hk2
  have hc2 : c2 < (xt G L28).1 := by rw [eL28]; exact xt_l _ hc2
  have hk10 : (xt G L28).2.1 c10 = 14 := by rw [eL28]; exact xt_k _ hc10 hk10
  have hc10 : c10 < (xt G L28).1 := by rw [eL28]; exact xt_l _ hc10
  have hk18 : (xt G L28).2.1 c18 = 15 := by rw [eL28]; exact xt_k _ hc18 hk18
  have hc18 : c18 < (xt G L28).1 := by rw [eL28]; exact xt_l _ hc18
  have hag := agr_t (xt_ge _ _) hag hn31
  have hc26 : c26 < (xt G L28).1 := by rw [ec26, eL28]; exact cnt_new _ _ _
  have hk26 : (xt G L28).2.1 c26 = 13 := by rw [ec26, eL28]; exact (kind_new _ _ _ _).1
  refine va_putF (D := D) (ci := 7) (v := va_re ad30 (some c26)) (ty := (.array .int)) (C := RX7) (T := TX7) (N := 17) hx hb hts (mus hf_X7) tyX7 tyX7_ok nmX7 hown hK hP hD hS a (wld_o ct ad30 (xt G L28) M29 hc hk (by decide)) rfl 16 (by decide) (hts (.fieldLink RX7 25 "VideoSuite$Store" "outFact" "[I") (mu mw_376)) (fun _ h9 => h9) rfl hin rfl (by decide +kernel) (nar_q ad30 (Or.inr ⟨_, rfl⟩) (some c26)).1 (nar_q ad30 (Or.inr ⟨_, rfl⟩) (some c26)).2 (Nat.le_of_ble_eq_true rfl) dX7_init_39 (fun H locs hP hD hS => ?_)
  obtain ⟨M32, eM32, hF⟩ := ltt_some hF
  rw [set_oP ct ad30 (xt G L28) M29 hc hk (by decide) (by rfl), ← eM32] at hP hD
  obtain rfl := Option.some.inj hF
  have e1 : y.1 = L28 := by rw [hT]; exact List.append_nil _
  have e2 : y.2 = M32 := h2
  refine W.widen (k := y.1.length) (n := wt y.1) (Nat.le_of_eq (by rw [e1])) (Nat.le_of_eq (by rw [e1])) ?_
  exact W.vret hx hb hr (fun t ht hW => ⟨⟨ad30, rfl, hag, (by unfold kE; rw [e1, e2]; exact ⟨by rw [ht]; exact hP, va_K.moved hW.alike hK, hD⟩)⟩, hS.F ht⟩) hS.2.2 dX7_init_42
theorem dX7_isNeeded_0 : decode cX7_isNeeded 0 = .ok (.iconst 0, 1) := by decide +kernel
theorem dX7_isNeeded_1 : decode cX7_isNeeded 1 = .ok (.istore_n 2, 1) := by decide +kernel
theorem dX7_isNeeded_2 : decode cX7_isNeeded 2 = .ok (.iload_n 2, 1) := by decide +kernel
theorem dX7_isNeeded_3 : decode cX7_isNeeded 3 = .ok (.aload_n 0, 1) := by decide +kernel
theorem dX7_isNeeded_4 : decode cX7_isNeeded 4 = .ok (.getfield 29, 3) := by decide +kernel
theorem dX7_isNeeded_7 : decode cX7_isNeeded 7 = .ok (.if_icmp .ge 21, 3) := by decide +kernel
theorem dX7_isNeeded_10 : decode cX7_isNeeded 10 = .ok (.aload_n 0, 1) := by decide +kernel
theorem dX7_isNeeded_11 : decode cX7_isNeeded 11 = .ok (.getfield 17, 3) := by decide +kernel
theorem dX7_isNeeded_14 : decode cX7_isNeeded 14 = .ok (.iload_n 2, 1) := by decide +kernel
theorem dX7_isNeeded_15 : decode cX7_isNeeded 15 = .ok (.aaload, 1) := by decide +kernel
theorem dX7_isNeeded_16 : decode cX7_isNeeded 16 = .ok (.aload_n 1, 1) := by decide +kernel
theorem dX7_isNeeded_17 : decode cX7_isNeeded 17 = .ok (.if_acmp .ne 5, 3) := by decide +kernel
theorem dX7_isNeeded_20 : decode cX7_isNeeded 20 = .ok (.iconst 1, 1) := by decide +kernel
theorem dX7_isNeeded_21 : decode cX7_isNeeded 21 = .ok (.ireturn, 1) := by decide +kernel
theorem dX7_isNeeded_22 : decode cX7_isNeeded 22 = .ok (.iinc 2 1, 3) := by decide +kernel
theorem dX7_isNeeded_25 : decode cX7_isNeeded 25 = .ok (.goto (-23), 3) := by decide +kernel
theorem dX7_isNeeded_28 : decode cX7_isNeeded 28 = .ok (.aload_n 1, 1) := by decide +kernel
theorem dX7_isNeeded_29 : decode cX7_isNeeded 29 = .ok (.aload_n 0, 1) := by decide +kernel
theorem dX7_isNeeded_30 : decode cX7_isNeeded 30 = .ok (.getfield 39, 3) := by decide +kernel
theorem dX7_isNeeded_33 : decode cX7_isNeeded 33 = .ok (.if_acmp .eq 11, 3) := by decide +kernel
theorem dX7_isNeeded_36 : decode cX7_isNeeded 36 = .ok (.aload_n 1, 1) := by decide +kernel
theorem dX7_isNeeded_37 : decode cX7_isNeeded 37 = .ok (.aload_n 0, 1) := by decide +kernel
theorem dX7_isNeeded_38 : decode cX7_isNeeded 38 = .ok (.getfield 43, 3) := by decide +kernel
theorem dX7_isNeeded_41 : decode cX7_isNeeded 41 = .ok (.if_acmp .ne 7, 3) := by decide +kernel
theorem dX7_isNeeded_44 : decode cX7_isNeeded 44 = .ok (.iconst 1, 1) := by decide +kernel
theorem dX7_isNeeded_45 : decode cX7_isNeeded 45 = .ok (.goto 4, 3) := by decide +kernel
theorem dX7_isNeeded_48 : decode cX7_isNeeded 48 = .ok (.iconst 0, 1) := by decide +kernel
theorem dX7_isNeeded_49 : decode cX7_isNeeded 49 = .ok (.ireturn, 1) := by decide +kernel
def FX7_isNeeded (G : GG) (M : DD) (a : Nat) (p0 : Option Nat) : Option (DD × Int32) :=
  bnd (itr (fun (s2 : Int32) => ((ltt (M.1 a 3) fun x9 =>
  if x9 ≤ s2 then (some (.inr (.inl (s2)))) else
  (dr G 14 ((M.2 a 2)) fun b11 =>
  chk (¬ (s2 < 0 ∨ G.2.2 b11 ≤ s2.toNatClampNeg)) <|
  chk (okd G ((M.2 b11 s2.toNatClampNeg)) = true ∧ okd G p0 = true) <|
  if ((M.2 b11 s2.toNatClampNeg)) = p0 then (chk (((1 : Int32)) = 0 ∨ ((1 : Int32)) = 1) <|
  some (.inr (.inr (M, (1 : Int32))))) else
  (ltt (s2 + (1 : Int32)) fun x13 =>
  some (.inl (x13))))) : Option ((Int32) ⊕ ((Int32) ⊕ (DD × Int32))))) 1000000 ((0 : Int32))) fun (y1 : (Int32) ⊕ (DD × Int32)) =>
  sel y1 (fun (z1k : Int32) =>
  bnd (chk (okd G p0 = true ∧ okd G ((M.2 a 6)) = true) <|
  if p0 = ((M.2 a 6)) then (some ((1 : Int32))) else
  (bnd (chk (okd G p0 = true ∧ okd G ((M.2 a 7)) = true) <|
  if p0 = ((M.2 a 7)) then (some ((1 : Int32))) else
  (some ((0 : Int32)))) fun (y6 : Int32) =>
  some (y6))) fun (y4 : Int32) =>
  chk (y4 = 0 ∨ y4 = 1) <|
  some (M, y4)) fun r9 => some r9
set_option maxHeartbeats 4000000 in
set_option maxRecDepth 100000 in
theorem kX7_isNeeded (l : Launch) (D : va_G) (ct : CT) (ad : Nat → Nat) (Z : Nat → Nat) (G : GG) (M : DD) (sz : Nat) (a : Nat) (p0 : Option Nat) (y : DD × Int32) (hc : a < G.1) (hk : G.2.1 a = 7) (hF : FX7_isNeeded G M a p0 = some y) : Met l yX7_isNeeded wuX7_isNeeded ({ frames := 0, cells := 0, slots := 0, locals := 0 }) (va_Pc [.ref (ad a), va_re ad p0] (kB D ct ad Z G M sz)) (va_Qi (fun (q : Int32) (_ : Unit) => q = y.2) (fun _ t => kE D ct ad G (wA ad G sz) y.1 t) (wA ad G sz)) 0 0 (wA ad G sz) := by
  refine Met.ofW (cc := cX7_isNeeded) (maxL := 3) (ret := (some .boolean)) (by decide) rfl ?_
  intro p e s m args below meth c s₁ B hml hv
  obtain ⟨rfl, hsz, hP, hK, hD0, hZ, hN⟩ := hv
  have hx := B.exec
  have hb := B.bytes
  have hr := B.returns
  have hts := atoms_spec (ws := wuX7_isNeeded) B.pre
  have hown : s.vm.findClass RX7 = some m.cls := findClass_of_methodNamed B.named
  have hlocks := B.notSynchronized
  subst hsz
  have hD := wD_self (sz := s.heap.size) hD0
  have hA9 : ∀ q, s.heap.size ≤ q → wA ad G s.heap.size q := fun q h => Or.inr h
  generalize hAe : wA ad G s.heap.size = A at hD hA9 hZ ⊢
  have hS : va_S A s.heap s.heap [] := va_S.rf
  have hl := lv_entry ([.ref (ad a), va_re ad p0]) (n := 3) (by cases p0 <;> exact Nat.le_of_ble_eq_true rfl)
  rw [lg_entry_eq]
  generalize (lg_sl ([.ref (ad a), va_re ad p0]) ++ List.replicate (3 - (lg_sl ([.ref (ad a), va_re ad p0])).length) Slot.unset).toArray = ls at hl ⊢
  have hl : lv_has ls 3 [(0, .ref (ad a)), (1, va_re ad p0)] := by have e9 : lv_args 0 [.ref (ad a), va_re ad p0] = [(0, .ref (ad a)), (1, va_re ad p0)] := (by cases p0 <;> rfl); rw [e9] at hl; exact hl
  unfold FX7_isNeeded at hF
  refine lv_iconst (v := (0 : Int32)) hx hb dX7_isNeeded_0 (by decide) ?_
  refine lv_istore_n (lv' := [(2, .int (0 : Int32)), (0, .ref (ad a)), (1, va_re ad p0)]) hx hb dX7_isNeeded_1 rfl hl (by decide) (by generalize p0 = o9; cases o9 <;> rfl) (fun ls hl => ?_)
  obtain ⟨y1, hy1, hF⟩ := bnd_some hF
  have K1 : ∀ z1k : Int32, y1 = .inl z1k → ∀ (H : Heap) (locs : List Loc) (ls : Array Slot), va_P D classes (wld ct ad G M) H → va_D A (wld ct ad G M) → va_S A s.heap H locs → lv_has ls 3 [(2, .int z1k), (0, .ref (ad a)), (1, va_re ad p0)] → W p l e (headSpec wuX7_isNeeded ({ frames := 0, cells := 0, slots := 0, locals := 0 })).room s m ([.ref (ad a), va_re ad p0] : List Value).toArray below meth c H locs 0 0 (MQ below (va_Qi (fun (q : Int32) (_ : Unit) => q = y.2) (fun _ t => kE D ct ad G A y.1 t) A) ([.ref (ad a), va_re ad p0] : List Value).toArray s 0 0 A) (F0 m 28 ls []) := by
    intro z1k hz1 H locs ls hP hD hS hl
    have hF := sel_inl (hz1 ▸ hF)
    refine lv_aloadq_n hx hb dX7_isNeeded_28 rfl (lv_at hl 2 rfl) ?_
    refine lv_aload_n hx hb dX7_isNeeded_29 rfl (lv_at hl 1 rfl) ?_
    refine va_get (D := D) (ci := 7) (v := va_re ad (M.2 a 6)) (C := RX7) (T := TX7) (N := 17) hx hb hts (mus hf_X7) hown hK hP a (wld_o ct ad G M hc hk (by decide)) rfl 6 (by decide) (hts (.fieldLink RX7 39 "VideoSuite$Store" "ended" "LVideoSuite$Picture;") (mu mw_364)) (fun _ h9 => h9) rfl dX7_isNeeded_30 ?_
    obtain ⟨y4, hy4, hF⟩ := bnd_some hF
    have J4 : ∀ (H : Heap) (locs : List Loc) (ls : Array Slot), va_P D classes (wld ct ad G M) H → va_D A (wld ct ad G M) → va_S A s.heap H locs → lv_has ls 3 [(2, .int z1k), (0, .ref (ad a)), (1, va_re ad p0)] → W p l e (headSpec wuX7_isNeeded ({ frames := 0, cells := 0, slots := 0, locals := 0 })).room s m ([.ref (ad a), va_re ad p0] : List Value).toArray below meth c H locs 0 0 (MQ below (va_Qi (fun (q : Int32) (_ : Unit) => q = y.2) (fun _ t => kE D ct ad G A y.1 t) A) ([.ref (ad a), va_re ad p0] : List Value).toArray s 0 0 A) (F0 m 49 ls [.int y4]) := by
      intro H locs ls hP hD hS hl
      obtain ⟨hz9, hF⟩ := chk_some hF
      obtain rfl := Option.some.inj hF
      exact W.zret (v := y4) (ty := .boolean) hx hb hr (nar_z hz9).1 (fun t ht hW => ⟨⟨_, (), rfl, rfl, ⟨by rw [ht]; exact hP, va_K.moved hW.alike hK, hD⟩⟩, hS.F ht⟩) hS.2.2 dX7_isNeeded_49
    clear hF
    have hF := hy4
    clear hy4
    refine lv_acmpq_eq (x := p0) (y := ((M.2 a 6))) (tgt := 44) hx hb hD (chk_some hF).1.1 (chk_some hF).1.2 dX7_isNeeded_33 (by decide) (fun c5 => ?_) (fun c5 => ?_)
    all_goals (replace hF := (chk_some hF).2)
    · rw [if_pos c5] at hF
      refine lv_iconst (v := (1 : Int32)) hx hb dX7_isNeeded_44 (by decide) ?_
      refine lv_goto (tgt := 49) hx hb dX7_isNeeded_45 (by decide) ?_
      obtain rfl := Option.some.inj hF
      exact J4 _ _ _ hP hD hS (lv_sub hl [0, 1, 2] rfl)
    · rw [if_neg c5] at hF
      refine lv_aloadq_n hx hb dX7_isNeeded_36 rfl (lv_at hl 2 rfl) ?_
      refine lv_aload_n hx hb dX7_isNeeded_37 rfl (lv_at hl 1 rfl) ?_
      refine va_get (D := D) (ci := 7) (v := va_re ad (M.2 a 7)) (C := RX7) (T := TX7) (N := 17) hx hb hts (mus hf_X7) hown hK hP a (wld_o ct ad G M hc hk (by decide)) rfl 7 (by decide) (hts (.fieldLink RX7 43 "VideoSuite$Store" "latestReference" "LVideoSuite$Picture;") (mu mw_366)) (fun _ h9 => h9) rfl dX7_isNeeded_38 ?_
      obtain ⟨y6, hy6, hF⟩ := bnd_some hF
      have J6 : ∀ (H : Heap) (locs : List Loc) (ls : Array Slot), va_P D classes (wld ct ad G M) H → va_D A (wld ct ad G M) → va_S A s.heap H locs → lv_has ls 3 [(2, .int z1k), (0, .ref (ad a)), (1, va_re ad p0)] → W p l e (headSpec wuX7_isNeeded ({ frames := 0, cells := 0, slots := 0, locals := 0 })).room s m ([.ref (ad a), va_re ad p0] : List Value).toArray below meth c H locs 0 0 (MQ below (va_Qi (fun (q : Int32) (_ : Unit) => q = y.2) (fun _ t => kE D ct ad G A y.1 t) A) ([.ref (ad a), va_re ad p0] : List Value).toArray s 0 0 A) (F0 m 49 ls [.int y6]) := by
        intro H locs ls hP hD hS hl
        obtain rfl := Option.some.inj hF
        exact J4 _ _ _ hP hD hS (lv_sub hl [0, 1, 2] rfl)
      clear hF
      have hF := hy6
      clear hy6
      refine lv_acmpq_ne (x := p0) (y := ((M.2 a 7))) (tgt := 48) hx hb hD (chk_some hF).1.1 (chk_some hF).1.2 dX7_isNeeded_41 (by decide) (fun c7 => ?_) (fun c7 => ?_)
      all_goals (replace hF := (chk_some hF).2)
      · rw [if_neg c7] at hF
        refine lv_iconst (v := (0 : Int32)) hx hb dX7_isNeeded_48 (by decide) ?_
        obtain rfl := Option.some.inj hF
        exact J6 _ _ _ hP hD hS (lv_sub hl [0, 1, 2] rfl)
      · rw [if_pos c7] at hF
        refine lv_iconst (v := (1 : Int32)) hx hb dX7_isNeeded_44 (by decide) ?_
        refine lv_goto (tgt := 49) hx hb dX7_isNeeded_45 (by decide) ?_
        obtain rfl := Option.some.inj hF
        exact J6 _ _ _ hP hD hS (lv_sub hl [0, 1, 2] rfl)
  have hR1 := hF
  clear hF
  refine itr_rule (fun (s2 : Int32) => ∀ (H : Heap) (locs : List Loc) (ls : Array Slot), va_P D classes (wld ct ad G M) H → va_D A (wld ct ad G M) → va_S A s.heap H locs → lv_has ls 3 [(2, .int s2), (0, .ref (ad a)), (1, va_re ad p0)] → W p l e (headSpec wuX7_isNeeded ({ frames := 0, cells := 0, slots := 0, locals := 0 })).room s m ([.ref (ad a), va_re ad p0] : List Value).toArray below meth c H locs 0 0 (MQ below (va_Qi (fun (q : Int32) (_ : Unit) => q = y.2) (fun _ t => kE D ct ad G A y.1 t) A) ([.ref (ad a), va_re ad p0] : List Value).toArray s 0 0 A) (F0 m 2 ls [])) ?_ _ _ hy1 _ _ _ hP hD hS (lv_sub hl [0, 1, 2] rfl)
  rintro s2 ⟨z8, hF, hwz8⟩ H locs ls hP hD hS hl
  try dsimp only at hF
  refine lv_iload_n hx hb dX7_isNeeded_2 rfl (lv_at hl 0 rfl) ?_
  refine lv_aload_n hx hb dX7_isNeeded_3 rfl (lv_at hl 1 rfl) ?_
  refine va_get (D := D) (ci := 7) (v := .int (M.1 a 3)) (C := RX7) (T := TX7) (N := 17) hx hb hts (mus hf_X7) hown hK hP a (wld_o ct ad G M hc hk (by decide)) rfl 3 (by decide) (hts (.fieldLink RX7 29 "VideoSuite$Store" "count" "I") (mu mw_358)) (fun _ h9 => h9) rfl dX7_isNeeded_4 ?_
  obtain ⟨x9, ex9, hF⟩ := ltt_some hF
  refine lv_topi (fun zx9 ezx9 => ?_)
  obtain rfl : x9 = zx9 := ex9.trans ezx9.symm
  refine lv_icmp_ge (tgt := 28) hx hb dX7_isNeeded_7 (by decide) (fun c10 => ?_) (fun c10 => ?_)
  · rw [if_pos c10] at hF
    obtain rfl := Option.some.inj hF
    exact K1 _ hwz8.symm _ _ _ hP hD hS (lv_sub hl [0, 1, 2] rfl)
  · rw [if_neg c10] at hF
    refine lv_aload_n hx hb dX7_isNeeded_10 rfl (lv_at hl 1 rfl) ?_
    refine va_get (D := D) (ci := 7) (v := va_re ad (M.2 a 2)) (C := RX7) (T := TX7) (N := 17) hx hb hts (mus hf_X7) hown hK hP a (wld_o ct ad G M hc hk (by decide)) rfl 2 (by decide) (hts (.fieldLink RX7 17 "VideoSuite$Store" "kept" "[LVideoSuite$Picture;") (mu mw_357)) (fun _ h9 => h9) rfl dX7_isNeeded_11 ?_
    refine lv_iload_n hx hb dX7_isNeeded_14 rfl (lv_at hl 0 rfl) ?_
    obtain ⟨b11, ho11, hc11, hk11, hF⟩ := dr_some hF
    refine W_st (st' := [.int s2, .ref (ad b11)]) (by rw [va_some ho11]) ?_
    obtain ⟨hvc, hF⟩ := chk_some hF
    refine ld_q hx hb hK hP hc11 hk11 hvc dX7_isNeeded_15 ?_
    refine lv_aloadq_n hx hb dX7_isNeeded_16 rfl (lv_at hl 2 rfl) ?_
    refine lv_acmpq_ne (x := ((M.2 b11 s2.toNatClampNeg))) (y := p0) (tgt := 22) hx hb hD (chk_some hF).1.1 (chk_some hF).1.2 dX7_isNeeded_17 (by decide) (fun c12 => ?_) (fun c12 => ?_)
    all_goals (replace hF := (chk_some hF).2)
    · rw [if_neg c12] at hF
      obtain ⟨x13, ex13, hF⟩ := ltt_some hF
      refine lv_iinc (v := x13) (lv' := [(2, .int x13), (0, .ref (ad a)), (1, va_re ad p0)]) hx hb dX7_isNeeded_22 hl (k := 0) rfl (by rw [ex13]; rfl) (by decide) (by generalize p0 = o9; cases o9 <;> rfl) (fun ls hl => ?_)
      refine lv_goto (tgt := 2) hx hb dX7_isNeeded_25 (by decide) ?_
      obtain rfl := Option.some.inj hF
      exact hwz8 _ _ _ hP hD hS (lv_sub hl [0, 1, 2] rfl)
    · rw [if_pos c12] at hF
      refine lv_iconst (v := (1 : Int32)) hx hb dX7_isNeeded_20 (by decide) ?_
      obtain ⟨hz9, hF⟩ := chk_some hF
      obtain rfl := Option.some.inj hF
      have hF := sel_inr (hwz8 ▸ hR1)
      obtain rfl := Option.some.inj hF
      exact W.zret (v := (1 : Int32)) (ty := .boolean) hx hb hr (nar_z hz9).1 (fun t ht hW => ⟨⟨_, (), rfl, rfl, ⟨by rw [ht]; exact hP, va_K.moved hW.alike hK, hD⟩⟩, hS.F ht⟩) hS.2.2 dX7_isNeeded_21
theorem dX7_keep_0 : decode cX7_keep 0 = .ok (.aload_n 0, 1) := by decide +kernel
theorem dX7_keep_1 : decode cX7_keep 1 = .ok (.getfield 29, 3) := by decide +kernel
theorem dX7_keep_4 : decode cX7_keep 4 = .ok (.bipush 6, 2) := by decide +kernel
theorem dX7_keep_6 : decode cX7_keep 6 = .ok (.if_icmp .ge 23, 3) := by decide +kernel
theorem dX7_keep_9 : decode cX7_keep 9 = .ok (.aload_n 0, 1) := by decide +kernel
theorem dX7_keep_10 : decode cX7_keep 10 = .ok (.getfield 17, 3) := by decide +kernel
theorem dX7_keep_13 : decode cX7_keep 13 = .ok (.aload_n 0, 1) := by decide +kernel
theorem dX7_keep_14 : decode cX7_keep 14 = .ok (.getfield 29, 3) := by decide +kernel
theorem dX7_keep_17 : decode cX7_keep 17 = .ok (.aload_n 1, 1) := by decide +kernel
theorem dX7_keep_18 : decode cX7_keep 18 = .ok (.aastore, 1) := by decide +kernel
theorem dX7_keep_19 : decode cX7_keep 19 = .ok (.aload_n 0, 1) := by decide +kernel
theorem dX7_keep_20 : decode cX7_keep 20 = .ok (.dup, 1) := by decide +kernel
theorem dX7_keep_21 : decode cX7_keep 21 = .ok (.getfield 29, 3) := by decide +kernel
theorem dX7_keep_24 : decode cX7_keep 24 = .ok (.iconst 1, 1) := by decide +kernel
theorem dX7_keep_25 : decode cX7_keep 25 = .ok (.iadd, 1) := by decide +kernel
theorem dX7_keep_26 : decode cX7_keep 26 = .ok (.putfield 29, 3) := by decide +kernel
theorem dX7_keep_29 : decode cX7_keep 29 = .ok (.return_, 1) := by decide +kernel
def FX7_keep (G : GG) (M : DD) (a : Nat) (p0 : Option Nat) : Option (DD) :=
  ltt (M.1 a 3) fun x1 =>
  bnd (if ((6 : Int32)) ≤ x1 then (some (M)) else
  (ltt (M.1 a 3) fun x4 =>
  dr G 14 ((M.2 a 2)) fun b5 =>
  chk (¬ (x4 < 0 ∨ G.2.2 b5 ≤ x4.toNatClampNeg)) <|
  chk (okr G 4 p0 = true) <|
  ltt (uP M b5 x4.toNatClampNeg p0) fun M6 =>
  ltt (M6.1 a 3) fun x7 =>
  ltt ((x7 + ((1 : Int32)))) fun x8 =>
  ltt (uI M6 a 3 x8) fun M9 =>
  some (M9))) fun (y2 : DD) =>
  some y2
set_option maxHeartbeats 4000000 in
set_option maxRecDepth 100000 in
theorem kX7_keep (l : Launch) (D : va_G) (ct : CT) (ad : Nat → Nat) (Z : Nat → Nat) (G : GG) (M : DD) (sz : Nat) (a : Nat) (p0 : Option Nat) (y : DD) (hc : a < G.1) (hk : G.2.1 a = 7) (hF : FX7_keep G M a p0 = some y) : Met l yX7_keep wuX7_keep ({ frames := 0, cells := 0, slots := 0, locals := 0 }) (va_Pc [.ref (ad a), va_re ad p0] (kB D ct ad Z G M sz)) (va_Qv (fun (_ : Unit) => True) (fun _ t => kE D ct ad G (wA ad G sz) y t) (wA ad G sz)) 0 0 (wA ad G sz) := by
  refine Met.ofW (cc := cX7_keep) (maxL := 2) (ret := none) (by decide) rfl ?_
  intro p e s m args below meth c s₁ B hml hv
  obtain ⟨rfl, hsz, hP, hK, hD0, hZ, hN⟩ := hv
  have hx := B.exec
  have hb := B.bytes
  have hr := B.returns
  have hts := atoms_spec (ws := wuX7_keep) B.pre
  have hown : s.vm.findClass RX7 = some m.cls := findClass_of_methodNamed B.named
  have hlocks := B.notSynchronized
  subst hsz
  have hD := wD_self (sz := s.heap.size) hD0
  have hA9 : ∀ q, s.heap.size ≤ q → wA ad G s.heap.size q := fun q h => Or.inr h
  generalize hAe : wA ad G s.heap.size = A at hD hA9 hZ ⊢
  have hS : va_S A s.heap s.heap [] := va_S.rf
  have hl := lv_entry ([.ref (ad a), va_re ad p0]) (n := 2) (by cases p0 <;> exact Nat.le_of_ble_eq_true rfl)
  rw [lg_entry_eq]
  generalize (lg_sl ([.ref (ad a), va_re ad p0]) ++ List.replicate (2 - (lg_sl ([.ref (ad a), va_re ad p0])).length) Slot.unset).toArray = ls at hl ⊢
  have hl : lv_has ls 2 [(0, .ref (ad a)), (1, va_re ad p0)] := by have e9 : lv_args 0 [.ref (ad a), va_re ad p0] = [(0, .ref (ad a)), (1, va_re ad p0)] := (by cases p0 <;> rfl); rw [e9] at hl; exact hl
  unfold FX7_keep at hF
  refine lv_aload_n hx hb dX7_keep_0 rfl (lv_at hl 0 rfl) ?_
  refine va_get (D := D) (ci := 7) (v := .int (M.1 a 3)) (C := RX7) (T := TX7) (N := 17) hx hb hts (mus hf_X7) hown hK hP a (wld_o ct ad G M hc hk (by decide)) rfl 3 (by decide) (hts (.fieldLink RX7 29 "VideoSuite$Store" "count" "I") (mu mw_358)) (fun _ h9 => h9) rfl dX7_keep_1 ?_
  obtain ⟨x1, ex1, hF⟩ := ltt_some hF
  refine lv_topi (fun zx1 ezx1 => ?_)
  obtain rfl : x1 = zx1 := ex1.trans ezx1.symm
  refine lv_bipush (v := (6 : Int32)) hx hb dX7_keep_4 (by decide) ?_
  obtain ⟨y2, hy2, hF⟩ := bnd_some hF
  have J2 : ∀ (H : Heap) (locs : List Loc) (ls : Array Slot), va_P D classes (wld ct ad G y2) H → va_D A (wld ct ad G y2) → va_S A s.heap H locs → lv_has ls 2 [(0, .ref (ad a)), (1, va_re ad p0)] → W p l e (headSpec wuX7_keep ({ frames := 0, cells := 0, slots := 0, locals := 0 })).room s m ([.ref (ad a), va_re ad p0] : List Value).toArray below meth c H locs 0 0 (MQ below (va_Qv (fun (_ : Unit) => True) (fun _ t => kE D ct ad G A y t) A) ([.ref (ad a), va_re ad p0] : List Value).toArray s 0 0 A) (F0 m 29 ls []) := by
    intro H locs ls hP hD hS hl
    obtain rfl := Option.some.inj hF
    exact W.vret hx hb hr (fun t ht hW => ⟨⟨(), rfl, trivial, ⟨by rw [ht]; exact hP, va_K.moved hW.alike hK, hD⟩⟩, hS.F ht⟩) hS.2.2 dX7_keep_29
  clear hF
  have hF := hy2
  clear hy2
  refine lv_icmp_ge (tgt := 29) hx hb dX7_keep_6 (by decide) (fun c3 => ?_) (fun c3 => ?_)
  · rw [if_pos c3] at hF
    obtain rfl := Option.some.inj hF
    exact J2 _ _ _ hP hD hS (lv_sub hl [0, 1] rfl)
  · rw [if_neg c3] at hF
    refine lv_aload_n hx hb dX7_keep_9 rfl (lv_at hl 0 rfl) ?_
    refine va_get (D := D) (ci := 7) (v := va_re ad (M.2 a 2)) (C := RX7) (T := TX7) (N := 17) hx hb hts (mus hf_X7) hown hK hP a (wld_o ct ad G M hc hk (by decide)) rfl 2 (by decide) (hts (.fieldLink RX7 17 "VideoSuite$Store" "kept" "[LVideoSuite$Picture;") (mu mw_357)) (fun _ h9 => h9) rfl dX7_keep_10 ?_
    refine lv_aload_n hx hb dX7_keep_13 rfl (lv_at hl 0 rfl) ?_
    refine va_get (D := D) (ci := 7) (v := .int (M.1 a 3)) (C := RX7) (T := TX7) (N := 17) hx hb hts (mus hf_X7) hown hK hP a (wld_o ct ad G M hc hk (by decide)) rfl 3 (by decide) (hts (.fieldLink RX7 29 "VideoSuite$Store" "count" "I") (mu mw_358)) (fun _ h9 => h9) rfl dX7_keep_14 ?_
    obtain ⟨x4, ex4, hF⟩ := ltt_some hF
    refine lv_topi (fun zx4 ezx4 => ?_)
    obtain rfl : x4 = zx4 := ex4.trans ezx4.symm
    refine lv_aloadq_n hx hb dX7_keep_17 rfl (lv_at hl 1 rfl) ?_
    obtain ⟨b5, ho5, hc5, hk5, hF⟩ := dr_some hF
    refine W_st (st' := [va_re ad p0, .int x4, .ref (ad b5)]) (by rw [va_some ho5]) ?_
    obtain ⟨hvc, hF⟩ := chk_some hF
    obtain ⟨ho9, hF⟩ := chk_some hF
    refine st_q (o := p0) hx hb hK hP hD hS hc5 hk5 ho9 hvc dX7_keep_18 (fun H locs hP hD hS => ?_)
    obtain ⟨M6, eM6, hF⟩ := ltt_some hF
    rw [← eM6] at hP hD
    refine lv_aload_n hx hb dX7_keep_19 rfl (lv_at hl 0 rfl) ?_
    refine lv_dup hx hb dX7_keep_20 rfl ?_
    refine va_get (D := D) (ci := 7) (v := .int (M6.1 a 3)) (C := RX7) (T := TX7) (N := 17) hx hb hts (mus hf_X7) hown hK hP a (wld_o ct ad G M6 hc hk (by decide)) rfl 3 (by decide) (hts (.fieldLink RX7 29 "VideoSuite$Store" "count" "I") (mu mw_358)) (fun _ h9 => h9) rfl dX7_keep_21 ?_
    obtain ⟨x7, ex7, hF⟩ := ltt_some hF
    refine lv_topi (fun zx7 ezx7 => ?_)
    obtain rfl : x7 = zx7 := ex7.trans ezx7.symm
    refine lv_iconst (v := (1 : Int32)) hx hb dX7_keep_24 (by decide) ?_
    refine lv_iadd hx hb dX7_keep_25 ?_
    obtain ⟨x8, ex8, hF⟩ := ltt_some hF
    refine lv_topi (fun zx8 ezx8 => ?_)
    obtain rfl : x8 = zx8 := ex8.trans ezx8.symm
    refine va_put (D := D) (ci := 7) (v := .int x8) (ty := .int) (C := RX7) (T := TX7) (N := 17) hx hb hts (mus hf_X7) tyX7 tyX7_ok nmX7 hown hK hP hD hS a (wld_o ct ad G M6 hc hk (by decide)) rfl 3 (by decide) (hts (.fieldLink RX7 29 "VideoSuite$Store" "count" "I") (mu mw_358)) (fun _ h9 => h9) rfl (by decide +kernel) rfl rfl (Nat.le_of_ble_eq_true rfl) dX7_keep_26 (fun H locs hP hD hS => ?_)
    obtain ⟨M9, eM9, hF⟩ := ltt_some hF
    rw [set_oI ct ad G M6 hc hk (by decide) (by rfl), ← eM9] at hP hD
    obtain rfl := Option.some.inj hF
    exact J2 _ _ _ hP hD hS (lv_sub hl [0, 1] rfl)
theorem dX7_keeps_0 : decode cX7_keeps 0 = .ok (.iload_n 1, 1) := by decide +kernel
theorem dX7_keeps_1 : decode cX7_keeps 1 = .ok (.ifCond .lt 21, 3) := by decide +kernel
theorem dX7_keeps_4 : decode cX7_keeps 4 = .ok (.iload_n 1, 1) := by decide +kernel
theorem dX7_keeps_5 : decode cX7_keeps 5 = .ok (.aload_n 0, 1) := by decide +kernel
theorem dX7_keeps_6 : decode cX7_keeps 6 = .ok (.getfield 58, 3) := by decide +kernel
theorem dX7_keeps_9 : decode cX7_keeps 9 = .ok (.if_icmp .ge 13, 3) := by decide +kernel
theorem dX7_keeps_12 : decode cX7_keeps 12 = .ok (.iload_n 1, 1) := by decide +kernel
theorem dX7_keeps_13 : decode cX7_keeps 13 = .ok (.bipush 40, 2) := by decide +kernel
theorem dX7_keeps_15 : decode cX7_keeps 15 = .ok (.if_icmp .ge 7, 3) := by decide +kernel
theorem dX7_keeps_18 : decode cX7_keeps 18 = .ok (.iconst 1, 1) := by decide +kernel
theorem dX7_keeps_19 : decode cX7_keeps 19 = .ok (.goto 4, 3) := by decide +kernel
theorem dX7_keeps_22 : decode cX7_keeps 22 = .ok (.iconst 0, 1) := by decide +kernel
theorem dX7_keeps_23 : decode cX7_keeps 23 = .ok (.ireturn, 1) := by decide +kernel
def FX7_keeps (G : GG) (M : DD) (a : Nat) (p0 : Int32) : Option (DD × Int32) :=
  bnd (if p0 < ((0 : Int32)) then (some ((0 : Int32))) else
  (ltt (M.1 a 14) fun x3 =>
  bnd (if x3 ≤ p0 then (some ((0 : Int32))) else
  (bnd (if ((40 : Int32)) ≤ p0 then (some ((0 : Int32))) else
  (some ((1 : Int32)))) fun (y6 : Int32) =>
  some (y6))) fun (y4 : Int32) =>
  some (y4))) fun (y1 : Int32) =>
  chk (y1 = 0 ∨ y1 = 1) <|
  some (M, y1)
set_option maxHeartbeats 4000000 in
set_option maxRecDepth 100000 in
theorem kX7_keeps (l : Launch) (D : va_G) (ct : CT) (ad : Nat → Nat) (Z : Nat → Nat) (G : GG) (M : DD) (sz : Nat) (a : Nat) (p0 : Int32) (y : DD × Int32) (hc : a < G.1) (hk : G.2.1 a = 7) (hF : FX7_keeps G M a p0 = some y) : Met l yX7_keeps wuX7_keeps ({ frames := 0, cells := 0, slots := 0, locals := 0 }) (va_Pc [.ref (ad a), .int p0] (kB D ct ad Z G M sz)) (va_Qi (fun (q : Int32) (_ : Unit) => q = y.2) (fun _ t => kE D ct ad G (wA ad G sz) y.1 t) (wA ad G sz)) 0 0 (wA ad G sz) := by
  refine Met.ofW (cc := cX7_keeps) (maxL := 2) (ret := (some .boolean)) (by decide) rfl ?_
  intro p e s m args below meth c s₁ B hml hv
  obtain ⟨rfl, hsz, hP, hK, hD0, hZ, hN⟩ := hv
  have hx := B.exec
  have hb := B.bytes
  have hr := B.returns
  have hts := atoms_spec (ws := wuX7_keeps) B.pre
  have hown : s.vm.findClass RX7 = some m.cls := findClass_of_methodNamed B.named
  have hlocks := B.notSynchronized
  subst hsz
  have hD := wD_self (sz := s.heap.size) hD0
  have hA9 : ∀ q, s.heap.size ≤ q → wA ad G s.heap.size q := fun q h => Or.inr h
  generalize hAe : wA ad G s.heap.size = A at hD hA9 hZ ⊢
  have hS : va_S A s.heap s.heap [] := va_S.rf
  have hl := lv_entry ([.ref (ad a), .int p0]) (n := 2) (Nat.le_of_ble_eq_true rfl)
  rw [lg_entry_eq]
  generalize (lg_sl ([.ref (ad a), .int p0]) ++ List.replicate (2 - (lg_sl ([.ref (ad a), .int p0])).length) Slot.unset).toArray = ls at hl ⊢
  have hl : lv_has ls 2 [(0, .ref (ad a)), (1, .int p0)] := hl
  unfold FX7_keeps at hF
  refine lv_iload_n hx hb dX7_keeps_0 rfl (lv_at hl 1 rfl) ?_
  obtain ⟨y1, hy1, hF⟩ := bnd_some hF
  have J1 : ∀ (H : Heap) (locs : List Loc) (ls : Array Slot), va_P D classes (wld ct ad G M) H → va_D A (wld ct ad G M) → va_S A s.heap H locs → lv_has ls 2 [(0, .ref (ad a)), (1, .int p0)] → W p l e (headSpec wuX7_keeps ({ frames := 0, cells := 0, slots := 0, locals := 0 })).room s m ([.ref (ad a), .int p0] : List Value).toArray below meth c H locs 0 0 (MQ below (va_Qi (fun (q : Int32) (_ : Unit) => q = y.2) (fun _ t => kE D ct ad G A y.1 t) A) ([.ref (ad a), .int p0] : List Value).toArray s 0 0 A) (F0 m 23 ls [.int y1]) := by
    intro H locs ls hP hD hS hl
    obtain ⟨hz9, hF⟩ := chk_some hF
    obtain rfl := Option.some.inj hF
    exact W.zret (v := y1) (ty := .boolean) hx hb hr (nar_z hz9).1 (fun t ht hW => ⟨⟨_, (), rfl, rfl, ⟨by rw [ht]; exact hP, va_K.moved hW.alike hK, hD⟩⟩, hS.F ht⟩) hS.2.2 dX7_keeps_23
  clear hF
  have hF := hy1
  clear hy1
  refine lv_if_lt (tgt := 22) hx hb dX7_keeps_1 (by decide) (fun c2 => ?_) (fun c2 => ?_)
  · rw [if_pos c2] at hF
    refine lv_iconst (v := (0 : Int32)) hx hb dX7_keeps_22 (by decide) ?_
    obtain rfl := Option.some.inj hF
    exact J1 _ _ _ hP hD hS (lv_sub hl [0, 1] rfl)
  · rw [if_neg c2] at hF
    refine lv_iload_n hx hb dX7_keeps_4 rfl (lv_at hl 1 rfl) ?_
    refine lv_aload_n hx hb dX7_keeps_5 rfl (lv_at hl 0 rfl) ?_
    refine va_get (D := D) (ci := 7) (v := .int (M.1 a 14)) (C := RX7) (T := TX7) (N := 17) hx hb hts (mus hf_X7) hown hK hP a (wld_o ct ad G M hc hk (by decide)) rfl 14 (by decide) (hts (.fieldLink RX7 58 "VideoSuite$Store" "outputs" "I") (mu mw_373)) (fun _ h9 => h9) rfl dX7_keeps_6 ?_
    obtain ⟨x3, ex3, hF⟩ := ltt_some hF
    refine lv_topi (fun zx3 ezx3 => ?_)
    obtain rfl : x3 = zx3 := ex3.trans ezx3.symm
    obtain ⟨y4, hy4, hF⟩ := bnd_some hF
    have J4 : ∀ (H : Heap) (locs : List Loc) (ls : Array Slot), va_P D classes (wld ct ad G M) H → va_D A (wld ct ad G M) → va_S A s.heap H locs → lv_has ls 2 [(0, .ref (ad a)), (1, .int p0)] → W p l e (headSpec wuX7_keeps ({ frames := 0, cells := 0, slots := 0, locals := 0 })).room s m ([.ref (ad a), .int p0] : List Value).toArray below meth c H locs 0 0 (MQ below (va_Qi (fun (q : Int32) (_ : Unit) => q = y.2) (fun _ t => kE D ct ad G A y.1 t) A) ([.ref (ad a), .int p0] : List Value).toArray s 0 0 A) (F0 m 23 ls [.int y4]) := by
      intro H locs ls hP hD hS hl
      obtain rfl := Option.some.inj hF
      exact J1 _ _ _ hP hD hS (lv_sub hl [0, 1] rfl)
    clear hF
    have hF := hy4
    clear hy4
    refine lv_icmp_ge (tgt := 22) hx hb dX7_keeps_9 (by decide) (fun c5 => ?_) (fun c5 => ?_)
    · rw [if_pos c5] at hF
      refine lv_iconst (v := (0 : Int32)) hx hb dX7_keeps_22 (by decide) ?_
      obtain rfl := Option.some.inj hF
      exact J4 _ _ _ hP hD hS (lv_sub hl [0, 1] rfl)
    · rw [if_neg c5] at hF
      refine lv_iload_n hx hb dX7_keeps_12 rfl (lv_at hl 1 rfl) ?_
      refine lv_bipush (v := (40 : Int32)) hx hb dX7_keeps_13 (by decide) ?_
      obtain ⟨y6, hy6, hF⟩ := bnd_some hF
      have J6 : ∀ (H : Heap) (locs : List Loc) (ls : Array Slot), va_P D classes (wld ct ad G M) H → va_D A (wld ct ad G M) → va_S A s.heap H locs → lv_has ls 2 [(0, .ref (ad a)), (1, .int p0)] → W p l e (headSpec wuX7_keeps ({ frames := 0, cells := 0, slots := 0, locals := 0 })).room s m ([.ref (ad a), .int p0] : List Value).toArray below meth c H locs 0 0 (MQ below (va_Qi (fun (q : Int32) (_ : Unit) => q = y.2) (fun _ t => kE D ct ad G A y.1 t) A) ([.ref (ad a), .int p0] : List Value).toArray s 0 0 A) (F0 m 23 ls [.int y6]) := by
        intro H locs ls hP hD hS hl
        obtain rfl := Option.some.inj hF
        exact J4 _ _ _ hP hD hS (lv_sub hl [0, 1] rfl)
      clear hF
      have hF := hy6
      clear hy6
      refine lv_icmp_ge (tgt := 22) hx hb dX7_keeps_15 (by decide) (fun c7 => ?_) (fun c7 => ?_)
      · rw [if_pos c7] at hF
        refine lv_iconst (v := (0 : Int32)) hx hb dX7_keeps_22 (by decide) ?_
        obtain rfl := Option.some.inj hF
        exact J6 _ _ _ hP hD hS (lv_sub hl [0, 1] rfl)
      · rw [if_neg c7] at hF
        refine lv_iconst (v := (1 : Int32)) hx hb dX7_keeps_18 (by decide) ?_
        refine lv_goto (tgt := 23) hx hb dX7_keeps_19 (by decide) ?_
        obtain rfl := Option.some.inj hF
        exact J6 _ _ _ hP hD hS (lv_sub hl [0, 1] rfl)
set_option maxRecDepth 20000 in
theorem gX7_keyOf_X7_frameNumber : GoodIn wuX7_keyOf (va_wsS RX7 134 yX7_frameNumber wuX7_frameNumber) := gu_S mw_1030 mw_1031 mw_170 mw_1032
theorem dX7_keyOf_0 : decode cX7_keyOf 0 = .ok (.iload_n 2, 1) := by decide +kernel
theorem dX7_keyOf_1 : decode cX7_keyOf 1 = .ok (.iconst 3, 1) := by decide +kernel
theorem dX7_keyOf_2 : decode cX7_keyOf 2 = .ok (.if_icmp .ne 9, 3) := by decide +kernel
theorem dX7_keyOf_5 : decode cX7_keyOf 5 = .ok (.aload_n 0, 1) := by decide +kernel
theorem dX7_keyOf_6 : decode cX7_keyOf 6 = .ok (.getfield 129, 3) := by decide +kernel
theorem dX7_keyOf_9 : decode cX7_keyOf 9 = .ok (.i2l, 1) := by decide +kernel
theorem dX7_keyOf_10 : decode cX7_keyOf 10 = .ok (.lreturn, 1) := by decide +kernel
theorem dX7_keyOf_11 : decode cX7_keyOf 11 = .ok (.iload_n 2, 1) := by decide +kernel
theorem dX7_keyOf_12 : decode cX7_keyOf 12 = .ok (.ifCond .ne 7, 3) := by decide +kernel
theorem dX7_keyOf_15 : decode cX7_keyOf 15 = .ok (.lconst 0, 1) := by decide +kernel
theorem dX7_keyOf_16 : decode cX7_keyOf 16 = .ok (.goto 22, 3) := by decide +kernel
theorem dX7_keyOf_19 : decode cX7_keyOf 19 = .ok (.iload_n 2, 1) := by decide +kernel
theorem dX7_keyOf_20 : decode cX7_keyOf 20 = .ok (.iconst 1, 1) := by decide +kernel
theorem dX7_keyOf_21 : decode cX7_keyOf 21 = .ok (.if_icmp .ne 12, 3) := by decide +kernel
theorem dX7_keyOf_24 : decode cX7_keyOf 24 = .ok (.aload_n 0, 1) := by decide +kernel
theorem dX7_keyOf_25 : decode cX7_keyOf 25 = .ok (.getfield 126, 3) := by decide +kernel
theorem dX7_keyOf_28 : decode cX7_keyOf 28 = .ok (.i2l, 1) := by decide +kernel
theorem dX7_keyOf_29 : decode cX7_keyOf 29 = .ok (.lneg, 1) := by decide +kernel
theorem dX7_keyOf_30 : decode cX7_keyOf 30 = .ok (.goto 8, 3) := by decide +kernel
theorem dX7_keyOf_33 : decode cX7_keyOf 33 = .ok (.aload_n 0, 1) := by decide +kernel
theorem dX7_keyOf_34 : decode cX7_keyOf 34 = .ok (.getfield 126, 3) := by decide +kernel
theorem dX7_keyOf_37 : decode cX7_keyOf 37 = .ok (.i2l, 1) := by decide +kernel
theorem dX7_keyOf_38 : decode cX7_keyOf 38 = .ok (.lstore 4, 2) := by decide +kernel
theorem dX7_keyOf_40 : decode cX7_keyOf 40 = .ok (.lload 4, 2) := by decide +kernel
theorem dX7_keyOf_42 : decode cX7_keyOf 42 = .ok (.ldc2_w 132, 3) := by decide +kernel
theorem dX7_keyOf_45 : decode cX7_keyOf 45 = .ok (.lmul, 1) := by decide +kernel
theorem dX7_keyOf_46 : decode cX7_keyOf 46 = .ok (.aload_n 0, 1) := by decide +kernel
theorem dX7_keyOf_47 : decode cX7_keyOf 47 = .ok (.aload_n 1, 1) := by decide +kernel
theorem dX7_keyOf_48 : decode cX7_keyOf 48 = .ok (.getfield 92, 3) := by decide +kernel
theorem dX7_keyOf_51 : decode cX7_keyOf 51 = .ok (.iload_n 3, 1) := by decide +kernel
theorem dX7_keyOf_52 : decode cX7_keyOf 52 = .ok (.invokestatic 134, 3) := by decide +kernel
theorem dX7_keyOf_55 : decode cX7_keyOf 55 = .ok (.i2l, 1) := by decide +kernel
theorem dX7_keyOf_56 : decode cX7_keyOf 56 = .ok (.lsub, 1) := by decide +kernel
theorem dX7_keyOf_57 : decode cX7_keyOf 57 = .ok (.lreturn, 1) := by decide +kernel
def FX7_keyOf (G : GG) (M : DD) (p0 : Option Nat) (p1 : Option Nat) (p2 : Int32) (p3 : Int32) : Option (DD × Int64) :=
  if p2 = ((3 : Int32)) then (dr G 4 p0 fun b19 =>
  ltt (M.1 b19 11) fun x20 =>
  ltt (x20.toInt64) fun x21 =>
  some (M, x21)) else
  (bnd (if p2 = ((0 : Int32)) then (some ((0 : Int64))) else
  (bnd (if p2 = ((1 : Int32)) then (dr G 4 p0 fun b15 =>
  ltt (M.1 b15 9) fun x16 =>
  ltt (x16.toInt64) fun x17 =>
  ltt (-x17) fun x18 =>
  some (x18)) else
  (dr G 4 p0 fun b12 =>
  ltt (M.1 b12 9) fun x13 =>
  ltt (x13.toInt64) fun x14 =>
  some (x14))) fun (y10 : Int64) =>
  some (y10))) fun (y2 : Int64) =>
  ltt (y2 * ((1048576 : Int64))) fun x3 =>
  dr G 4 p1 fun b4 =>
  ltt (M.1 b4 8) fun x5 =>
  bnd (FX7_frameNumber G M p0 x5 p3) fun y6 =>
  ltt (y6.2.toInt64) fun x7 =>
  ltt (x3 - x7) fun x8 =>
  some (y6.1, x8))
set_option maxHeartbeats 4000000 in
set_option maxRecDepth 100000 in
theorem kX7_keyOf (l : Launch) (D : va_G) (ct : CT) (ad : Nat → Nat) (Z : Nat → Nat) (G : GG) (M : DD) (sz : Nat) (p0 : Option Nat) (p1 : Option Nat) (p2 : Int32) (p3 : Int32) (y : DD × Int64) (hF : FX7_keyOf G M p0 p1 p2 p3 = some y) : Met l yX7_keyOf wuX7_keyOf ({ frames := 1, cells := 0, slots := 0, locals := 22 }) (va_Pc [va_re ad p0, va_re ad p1, .int p2, .int p3] (kB D ct ad Z G M sz)) (va_Ql (fun (q : Int64) (_ : Unit) => q = y.2) (fun _ t => kE D ct ad G (wA ad G sz) y.1 t) (wA ad G sz)) 0 0 (wA ad G sz) := by
  refine Met.ofW (cc := cX7_keyOf) (maxL := 6) (ret := (some .long)) (by decide) rfl ?_
  intro p e s m args below meth c s₁ B hml hv
  obtain ⟨rfl, hsz, hP, hK, hD0, hZ, hN⟩ := hv
  have hx := B.exec
  have hb := B.bytes
  have hr := B.returns
  have hts := atoms_spec (ws := wuX7_keyOf) B.pre
  have hown : s.vm.findClass RX7 = some m.cls := findClass_of_methodNamed B.named
  have hlocks := B.notSynchronized
  subst hsz
  have hD := wD_self (sz := s.heap.size) hD0
  have hA9 : ∀ q, s.heap.size ≤ q → wA ad G s.heap.size q := fun q h => Or.inr h
  generalize hAe : wA ad G s.heap.size = A at hD hA9 hZ ⊢
  have hS : va_S A s.heap s.heap [] := va_S.rf
  have hl := lv_entry ([va_re ad p0, va_re ad p1, .int p2, .int p3]) (n := 6) (by cases p0 <;> cases p1 <;> exact Nat.le_of_ble_eq_true rfl)
  rw [lg_entry_eq]
  generalize (lg_sl ([va_re ad p0, va_re ad p1, .int p2, .int p3]) ++ List.replicate (6 - (lg_sl ([va_re ad p0, va_re ad p1, .int p2, .int p3])).length) Slot.unset).toArray = ls at hl ⊢
  have hl : lv_has ls 6 [(0, va_re ad p0), (1, va_re ad p1), (2, .int p2), (3, .int p3)] := by have e9 : lv_args 0 [va_re ad p0, va_re ad p1, .int p2, .int p3] = [(0, va_re ad p0), (1, va_re ad p1), (2, .int p2), (3, .int p3)] := (by cases p0 <;> cases p1 <;> rfl); rw [e9] at hl; exact hl
  unfold FX7_keyOf at hF
  refine lv_iload_n hx hb dX7_keyOf_0 rfl (lv_at hl 2 rfl) ?_
  refine lv_iconst (v := (3 : Int32)) hx hb dX7_keyOf_1 (by decide) ?_
  refine lv_icmp_ne (tgt := 11) hx hb dX7_keyOf_2 (by decide) (fun c1 => ?_) (fun c1 => ?_)
  · rw [if_neg c1] at hF
    refine lv_iload_n hx hb dX7_keyOf_11 rfl (lv_at hl 2 rfl) ?_
    obtain ⟨y2, hy2, hF⟩ := bnd_some hF
    have J2 : ∀ (H : Heap) (locs : List Loc) (ls : Array Slot), va_P D classes (wld ct ad G M) H → va_D A (wld ct ad G M) → va_S A s.heap H locs → lv_has ls 6 [(0, va_re ad p0), (1, va_re ad p1), (2, .int p2), (3, .int p3)] → W p l e (headSpec wuX7_keyOf ({ frames := 1, cells := 0, slots := 0, locals := 22 })).room s m ([va_re ad p0, va_re ad p1, .int p2, .int p3] : List Value).toArray below meth c H locs 0 0 (MQ below (va_Ql (fun (q : Int64) (_ : Unit) => q = y.2) (fun _ t => kE D ct ad G A y.1 t) A) ([va_re ad p0, va_re ad p1, .int p2, .int p3] : List Value).toArray s 0 0 A) (F0 m 38 ls [.long y2]) := by
      intro H locs ls hP hD hS hl
      refine lv_lstore (lv' := [(4, .long y2), (0, va_re ad p0), (1, va_re ad p1), (2, .int p2), (3, .int p3)]) hx hb dX7_keyOf_38 hl (by decide) rfl (fun ls hl => ?_)
      refine lv_lload hx hb dX7_keyOf_40 (lv_at hl 0 rfl) ?_
      refine lv_ldc2 (v := (1048576 : Int64)) hx hb hown (hts (.constantLong RX7 132 (1048576 : Int64)) (mu mw_1822)) dX7_keyOf_42 ?_
      refine lv_lmul hx hb dX7_keyOf_45 ?_
      obtain ⟨x3, ex3, hF⟩ := ltt_some hF
      refine lv_topl (fun zx3 ezx3 => ?_)
      obtain rfl : x3 = zx3 := ex3.trans ezx3.symm
      refine lv_aloadq_n hx hb dX7_keyOf_46 rfl (lv_at hl 1 rfl) ?_
      refine lv_aloadq_n hx hb dX7_keyOf_47 rfl (lv_at hl 2 rfl) ?_
      obtain ⟨b4, ho4, hc4, hk4, hF⟩ := dr_some hF
      refine W_st (st' := [.ref (ad b4), va_re ad p0, .long x3]) (by rw [va_some ho4]) ?_
      refine va_get (D := D) (ci := 4) (v := .int (M.1 b4 8)) (C := RX4) (T := TX4) (N := 18) hx hb hts (mus hf_X4) hown hK hP b4 (wld_o ct ad G M hc4 hk4 (by decide)) rfl 8 (by decide) (hts (.fieldLink RX7 92 "VideoSuite$Picture" "frame" "I") (mu mw_1450)) (fun _ h9 => h9) rfl dX7_keyOf_48 ?_
      obtain ⟨x5, ex5, hF⟩ := ltt_some hF
      refine lv_topi (fun zx5 ezx5 => ?_)
      obtain rfl : x5 = zx5 := ex5.trans ezx5.symm
      refine lv_iload_n hx hb dX7_keyOf_51 rfl (lv_at hl 4 rfl) ?_
      obtain ⟨y6, hy6, hF⟩ := bnd_some hF
      have hf9 := wA_in hD hA9 hS
      refine va_calli (va_runS (As := [va_re ad p0, .int x5, .int p3]) (rest := [.long x3]) ⟨hx, hb, hml, hown, hts⟩ (kX7_frameNumber l D ct ad Z G M H.size p0 x5 p3 y6 hy6) (va_cwS 3 hts gX7_keyOf_X7_frameNumber rfl rfl rfl (by decide +kernel) ⟨Nat.le_of_ble_eq_true rfl, Nat.le_of_ble_eq_true rfl⟩) ⟨fun a U g mk q => by obtain ⟨q0, q1, qP, qK, qD, qZ, qN⟩ := q; exact ⟨q0, q1, qP, va_K.moved (u := U) (U := U.calling g mk a) (Vm.Alike.refl U.vm) qK, qD, sF.moved (u := U) (U := U.calling g mk a) (Vm.Alike.refl U.vm) qZ, nF.same rfl qN⟩, fun U hU hW => ⟨rfl, by rw [hU], by rw [hU]; exact hP, va_K.moved hW.alike hK, hD.weaken (fun _ _ _ _ => trivial), by rw [hU]; exact ((hZ.kept hS.2.1).narrow hf9).moved hW.alike, hN.warm hW⟩⟩ rfl rfl hl.1 rfl (lv_room (Nat.le_of_ble_eq_true rfl)) dX7_keyOf_52 ⟨(Nat.zero_le _), (Nat.zero_le _)⟩) hS (fun q _ h => hf9 q h) hf9 (fun r u t H locs ht hvm hw hB hz1 hk1 hS => ?_)
      obtain ⟨hP, hK9, hD9⟩ := hB
      rw [ht] at hP
      try dsimp only at hw
      subst hw
      have hD := hD9.weaken (fun _ q _ h => hf9 q.1 h)
      refine lv_i2l (v := y6.2.toInt64) hx hb dX7_keyOf_55 rfl ?_
      obtain ⟨x7, ex7, hF⟩ := ltt_some hF
      refine lv_topl (fun zx7 ezx7 => ?_)
      obtain rfl : x7 = zx7 := ex7.trans ezx7.symm
      refine lv_lsub hx hb dX7_keyOf_56 ?_
      obtain ⟨x8, ex8, hF⟩ := ltt_some hF
      refine lv_topl (fun zx8 ezx8 => ?_)
      obtain rfl : x8 = zx8 := ex8.trans ezx8.symm
      obtain rfl := Option.some.inj hF
      exact W.lret (v := x8) hx hb hr (fun t ht hW => ⟨⟨_, (), rfl, rfl, ⟨by rw [ht]; exact hP, va_K.moved hW.alike hK, hD⟩⟩, hS.F ht⟩) hS.2.2 dX7_keyOf_57
    clear hF
    have hF := hy2
    clear hy2
    refine lv_if_ne (tgt := 19) hx hb dX7_keyOf_12 (by decide) (fun c9 => ?_) (fun c9 => ?_)
    · rw [if_neg c9] at hF
      refine lv_iload_n hx hb dX7_keyOf_19 rfl (lv_at hl 2 rfl) ?_
      refine lv_iconst (v := (1 : Int32)) hx hb dX7_keyOf_20 (by decide) ?_
      obtain ⟨y10, hy10, hF⟩ := bnd_some hF
      have J10 : ∀ (H : Heap) (locs : List Loc) (ls : Array Slot), va_P D classes (wld ct ad G M) H → va_D A (wld ct ad G M) → va_S A s.heap H locs → lv_has ls 6 [(0, va_re ad p0), (1, va_re ad p1), (2, .int p2), (3, .int p3)] → W p l e (headSpec wuX7_keyOf ({ frames := 1, cells := 0, slots := 0, locals := 22 })).room s m ([va_re ad p0, va_re ad p1, .int p2, .int p3] : List Value).toArray below meth c H locs 0 0 (MQ below (va_Ql (fun (q : Int64) (_ : Unit) => q = y.2) (fun _ t => kE D ct ad G A y.1 t) A) ([va_re ad p0, va_re ad p1, .int p2, .int p3] : List Value).toArray s 0 0 A) (F0 m 38 ls [.long y10]) := by
        intro H locs ls hP hD hS hl
        obtain rfl := Option.some.inj hF
        exact J2 _ _ _ hP hD hS (lv_sub hl [0, 1, 2, 3] rfl)
      clear hF
      have hF := hy10
      clear hy10
      refine lv_icmp_ne (tgt := 33) hx hb dX7_keyOf_21 (by decide) (fun c11 => ?_) (fun c11 => ?_)
      · rw [if_neg c11] at hF
        refine lv_aloadq_n hx hb dX7_keyOf_33 rfl (lv_at hl 0 rfl) ?_
        obtain ⟨b12, ho12, hc12, hk12, hF⟩ := dr_some hF
        refine W_st (st' := [.ref (ad b12)]) (by rw [va_some ho12]) ?_
        refine va_get (D := D) (ci := 4) (v := .int (M.1 b12 9)) (C := RX4) (T := TX4) (N := 18) hx hb hts (mus hf_X4) hown hK hP b12 (wld_o ct ad G M hc12 hk12 (by decide)) rfl 9 (by decide) (hts (.fieldLink RX7 126 "VideoSuite$Picture" "order" "I") (mu mw_1455)) (fun _ h9 => h9) rfl dX7_keyOf_34 ?_
        obtain ⟨x13, ex13, hF⟩ := ltt_some hF
        refine lv_topi (fun zx13 ezx13 => ?_)
        obtain rfl : x13 = zx13 := ex13.trans ezx13.symm
        refine lv_i2l (v := x13.toInt64) hx hb dX7_keyOf_37 rfl ?_
        obtain ⟨x14, ex14, hF⟩ := ltt_some hF
        refine lv_topl (fun zx14 ezx14 => ?_)
        obtain rfl : x14 = zx14 := ex14.trans ezx14.symm
        obtain rfl := Option.some.inj hF
        exact J10 _ _ _ hP hD hS (lv_sub hl [0, 1, 2, 3] rfl)
      · rw [if_pos c11] at hF
        refine lv_aloadq_n hx hb dX7_keyOf_24 rfl (lv_at hl 0 rfl) ?_
        obtain ⟨b15, ho15, hc15, hk15, hF⟩ := dr_some hF
        refine W_st (st' := [.ref (ad b15)]) (by rw [va_some ho15]) ?_
        refine va_get (D := D) (ci := 4) (v := .int (M.1 b15 9)) (C := RX4) (T := TX4) (N := 18) hx hb hts (mus hf_X4) hown hK hP b15 (wld_o ct ad G M hc15 hk15 (by decide)) rfl 9 (by decide) (hts (.fieldLink RX7 126 "VideoSuite$Picture" "order" "I") (mu mw_1455)) (fun _ h9 => h9) rfl dX7_keyOf_25 ?_
        obtain ⟨x16, ex16, hF⟩ := ltt_some hF
        refine lv_topi (fun zx16 ezx16 => ?_)
        obtain rfl : x16 = zx16 := ex16.trans ezx16.symm
        refine lv_i2l (v := x16.toInt64) hx hb dX7_keyOf_28 rfl ?_
        obtain ⟨x17, ex17, hF⟩ := ltt_some hF
        refine lv_topl (fun zx17 ezx17 => ?_)
        obtain rfl : x17 = zx17 := ex17.trans ezx17.symm
        refine lv_lneg hx hb dX7_keyOf_29 ?_
        obtain ⟨x18, ex18, hF⟩ := ltt_some hF
        refine lv_topl (fun zx18 ezx18 => ?_)
        obtain rfl : x18 = zx18 := ex18.trans ezx18.symm
        refine lv_goto (tgt := 38) hx hb dX7_keyOf_30 (by decide) ?_
        obtain rfl := Option.some.inj hF
        exact J10 _ _ _ hP hD hS (lv_sub hl [0, 1, 2, 3] rfl)
    · rw [if_pos c9] at hF
      refine lv_lconst (v := (0 : Int64)) hx hb dX7_keyOf_15 rfl ?_
      refine lv_goto (tgt := 38) hx hb dX7_keyOf_16 (by decide) ?_
      obtain rfl := Option.some.inj hF
      exact J2 _ _ _ hP hD hS (lv_sub hl [0, 1, 2, 3] rfl)
  · rw [if_pos c1] at hF
    refine lv_aloadq_n hx hb dX7_keyOf_5 rfl (lv_at hl 0 rfl) ?_
    obtain ⟨b19, ho19, hc19, hk19, hF⟩ := dr_some hF
    refine W_st (st' := [.ref (ad b19)]) (by rw [va_some ho19]) ?_
    refine va_get (D := D) (ci := 4) (v := .int (M.1 b19 11)) (C := RX4) (T := TX4) (N := 18) hx hb hts (mus hf_X4) hown hK hP b19 (wld_o ct ad G M hc19 hk19 (by decide)) rfl 11 (by decide) (hts (.fieldLink RX7 129 "VideoSuite$Picture" "number" "I") (mu mw_1464)) (fun _ h9 => h9) rfl dX7_keyOf_6 ?_
    obtain ⟨x20, ex20, hF⟩ := ltt_some hF
    refine lv_topi (fun zx20 ezx20 => ?_)
    obtain rfl : x20 = zx20 := ex20.trans ezx20.symm
    refine lv_i2l (v := x20.toInt64) hx hb dX7_keyOf_9 rfl ?_
    obtain ⟨x21, ex21, hF⟩ := ltt_some hF
    refine lv_topl (fun zx21 ezx21 => ?_)
    obtain rfl : x21 = zx21 := ex21.trans ezx21.symm
    obtain rfl := Option.some.inj hF
    exact W.lret (v := x21) hx hb hr (fun t ht hW => ⟨⟨_, (), rfl, rfl, ⟨by rw [ht]; exact hP, va_K.moved hW.alike hK, hD⟩⟩, hS.F ht⟩) hS.2.2 dX7_keyOf_10
theorem dX7_leastLong_0 : decode cX7_leastLong 0 = .ok (.aconst_null, 1) := by decide +kernel
theorem dX7_leastLong_1 : decode cX7_leastLong 1 = .ok (.astore_n 1, 1) := by decide +kernel
theorem dX7_leastLong_2 : decode cX7_leastLong 2 = .ok (.iconst 0, 1) := by decide +kernel
theorem dX7_leastLong_3 : decode cX7_leastLong 3 = .ok (.istore_n 2, 1) := by decide +kernel
theorem dX7_leastLong_4 : decode cX7_leastLong 4 = .ok (.iload_n 2, 1) := by decide +kernel
theorem dX7_leastLong_5 : decode cX7_leastLong 5 = .ok (.aload_n 0, 1) := by decide +kernel
theorem dX7_leastLong_6 : decode cX7_leastLong 6 = .ok (.getfield 29, 3) := by decide +kernel
theorem dX7_leastLong_9 : decode cX7_leastLong 9 = .ok (.if_icmp .ge 49, 3) := by decide +kernel
theorem dX7_leastLong_12 : decode cX7_leastLong 12 = .ok (.aload_n 0, 1) := by decide +kernel
theorem dX7_leastLong_13 : decode cX7_leastLong 13 = .ok (.getfield 17, 3) := by decide +kernel
theorem dX7_leastLong_16 : decode cX7_leastLong 16 = .ok (.iload_n 2, 1) := by decide +kernel
theorem dX7_leastLong_17 : decode cX7_leastLong 17 = .ok (.aaload, 1) := by decide +kernel
theorem dX7_leastLong_18 : decode cX7_leastLong 18 = .ok (.getfield 123, 3) := by decide +kernel
theorem dX7_leastLong_21 : decode cX7_leastLong 21 = .ok (.iconst 2, 1) := by decide +kernel
theorem dX7_leastLong_22 : decode cX7_leastLong 22 = .ok (.if_icmp .ne 30, 3) := by decide +kernel
theorem dX7_leastLong_25 : decode cX7_leastLong 25 = .ok (.aload_n 1, 1) := by decide +kernel
theorem dX7_leastLong_26 : decode cX7_leastLong 26 = .ok (.ifnull 19, 3) := by decide +kernel
theorem dX7_leastLong_29 : decode cX7_leastLong 29 = .ok (.aload_n 0, 1) := by decide +kernel
theorem dX7_leastLong_30 : decode cX7_leastLong 30 = .ok (.getfield 17, 3) := by decide +kernel
theorem dX7_leastLong_33 : decode cX7_leastLong 33 = .ok (.iload_n 2, 1) := by decide +kernel
theorem dX7_leastLong_34 : decode cX7_leastLong 34 = .ok (.aaload, 1) := by decide +kernel
theorem dX7_leastLong_35 : decode cX7_leastLong 35 = .ok (.getfield 129, 3) := by decide +kernel
theorem dX7_leastLong_38 : decode cX7_leastLong 38 = .ok (.aload_n 1, 1) := by decide +kernel
theorem dX7_leastLong_39 : decode cX7_leastLong 39 = .ok (.getfield 129, 3) := by decide +kernel
theorem dX7_leastLong_42 : decode cX7_leastLong 42 = .ok (.if_icmp .ge 10, 3) := by decide +kernel
theorem dX7_leastLong_45 : decode cX7_leastLong 45 = .ok (.aload_n 0, 1) := by decide +kernel
theorem dX7_leastLong_46 : decode cX7_leastLong 46 = .ok (.getfield 17, 3) := by decide +kernel
theorem dX7_leastLong_49 : decode cX7_leastLong 49 = .ok (.iload_n 2, 1) := by decide +kernel
theorem dX7_leastLong_50 : decode cX7_leastLong 50 = .ok (.aaload, 1) := by decide +kernel
theorem dX7_leastLong_51 : decode cX7_leastLong 51 = .ok (.astore_n 1, 1) := by decide +kernel
theorem dX7_leastLong_52 : decode cX7_leastLong 52 = .ok (.iinc 2 1, 3) := by decide +kernel
theorem dX7_leastLong_55 : decode cX7_leastLong 55 = .ok (.goto (-51), 3) := by decide +kernel
theorem dX7_leastLong_58 : decode cX7_leastLong 58 = .ok (.aload_n 1, 1) := by decide +kernel
theorem dX7_leastLong_59 : decode cX7_leastLong 59 = .ok (.areturn, 1) := by decide +kernel
def FX7_leastLong (G : GG) (M : DD) (a : Nat)  : Option (DD × Option Nat) :=
  bnd (itr (fun (s2 : Option Nat × Int32) => ((ltt (M.1 a 3) fun x5 =>
  if x5 ≤ s2.2 then (some (.inr (s2.1, s2.2))) else
  (dr G 14 ((M.2 a 2)) fun b7 =>
  chk (¬ (s2.2 < 0 ∨ G.2.2 b7 ≤ s2.2.toNatClampNeg)) <|
  dr G 4 ((M.2 b7 s2.2.toNatClampNeg)) fun b8 =>
  ltt (M.1 b8 10) fun x9 =>
  bnd (if x9 = ((2 : Int32)) then (bnd (if s2.1 = none then (chk (¬ (s2.2 < 0 ∨ G.2.2 b7 ≤ s2.2.toNatClampNeg)) <|
  some ((M.2 b7 s2.2.toNatClampNeg))) else
  (chk (¬ (s2.2 < 0 ∨ G.2.2 b7 ≤ s2.2.toNatClampNeg)) <|
  ltt (M.1 b8 11) fun x15 =>
  dr G 4 s2.1 fun b16 =>
  ltt (M.1 b16 11) fun x17 =>
  bnd (if x17 ≤ x15 then (some (s2.1)) else
  (chk (¬ (s2.2 < 0 ∨ G.2.2 b7 ≤ s2.2.toNatClampNeg)) <|
  some ((M.2 b7 s2.2.toNatClampNeg)))) fun (y18 : Option Nat) =>
  some (y18))) fun (y13 : Option Nat) =>
  some (y13)) else
  (some (s2.1))) fun (y10 : Option Nat) =>
  ltt (s2.2 + (1 : Int32)) fun x11 =>
  some (.inl (y10, x11)))) : Option ((Option Nat × Int32) ⊕ (Option Nat × Int32)))) 1000000 (none, (0 : Int32))) fun (y1 : Option Nat × Int32) =>
  some (M, y1.1)
set_option maxHeartbeats 4000000 in
set_option maxRecDepth 100000 in
theorem kX7_leastLong (l : Launch) (D : va_G) (ct : CT) (ad : Nat → Nat) (Z : Nat → Nat) (G : GG) (M : DD) (sz : Nat) (a : Nat)  (y : DD × Option Nat) (hc : a < G.1) (hk : G.2.1 a = 7) (hF : FX7_leastLong G M a  = some y) : Met l yX7_leastLong wuX7_leastLong ({ frames := 0, cells := 0, slots := 0, locals := 0 }) (va_Pc [.ref (ad a)] (kB D ct ad Z G M sz)) (va_Qe ad (fun (q : Option Nat) (_ : Unit) => q = y.2) (fun _ t => kE D ct ad G (wA ad G sz) y.1 t) (wA ad G sz)) 0 0 (wA ad G sz) := by
  refine Met.ofW (cc := cX7_leastLong) (maxL := 3) (ret := (some (.object "VideoSuite$Picture"))) (by decide) rfl ?_
  intro p e s m args below meth c s₁ B hml hv
  obtain ⟨rfl, hsz, hP, hK, hD0, hZ, hN⟩ := hv
  have hx := B.exec
  have hb := B.bytes
  have hr := B.returns
  have hts := atoms_spec (ws := wuX7_leastLong) B.pre
  have hown : s.vm.findClass RX7 = some m.cls := findClass_of_methodNamed B.named
  have hlocks := B.notSynchronized
  subst hsz
  have hD := wD_self (sz := s.heap.size) hD0
  have hA9 : ∀ q, s.heap.size ≤ q → wA ad G s.heap.size q := fun q h => Or.inr h
  generalize hAe : wA ad G s.heap.size = A at hD hA9 hZ ⊢
  have hS : va_S A s.heap s.heap [] := va_S.rf
  have hl := lv_entry ([.ref (ad a)]) (n := 3) (Nat.le_of_ble_eq_true rfl)
  rw [lg_entry_eq]
  generalize (lg_sl ([.ref (ad a)]) ++ List.replicate (3 - (lg_sl ([.ref (ad a)])).length) Slot.unset).toArray = ls at hl ⊢
  have hl : lv_has ls 3 [(0, .ref (ad a))] := hl
  unfold FX7_leastLong at hF
  refine lv_nullq (ad := ad) hx hb dX7_leastLong_0 ?_
  refine lv_astoreq_n (lv' := [(1, va_re ad none), (0, .ref (ad a))]) hx hb dX7_leastLong_1 rfl hl (by decide) rfl (fun ls hl => ?_)
  refine lv_iconst (v := (0 : Int32)) hx hb dX7_leastLong_2 (by decide) ?_
  refine lv_istore_n (lv' := [(2, .int (0 : Int32)), (1, va_re ad none), (0, .ref (ad a))]) hx hb dX7_leastLong_3 rfl hl (by decide) (by generalize none = o9; cases o9 <;> rfl) (fun ls hl => ?_)
  obtain ⟨y1, hy1, hF⟩ := bnd_some hF
  have K1 : ∀ (H : Heap) (locs : List Loc) (ls : Array Slot), va_P D classes (wld ct ad G M) H → va_D A (wld ct ad G M) → va_S A s.heap H locs → lv_has ls 3 [(2, .int y1.2), (1, va_re ad y1.1), (0, .ref (ad a))] → W p l e (headSpec wuX7_leastLong ({ frames := 0, cells := 0, slots := 0, locals := 0 })).room s m ([.ref (ad a)] : List Value).toArray below meth c H locs 0 0 (MQ below (va_Qe ad (fun (q : Option Nat) (_ : Unit) => q = y.2) (fun _ t => kE D ct ad G A y.1 t) A) ([.ref (ad a)] : List Value).toArray s 0 0 A) (F0 m 58 ls []) := by
    intro H locs ls hP hD hS hl
    refine lv_aloadq_n hx hb dX7_leastLong_58 rfl (lv_at hl 1 rfl) ?_
    obtain rfl := Option.some.inj hF
    exact W.aret (v := va_re ad y1.1) hx hb hr (Or.inl ⟨_, rfl⟩) (va_re_or ad y1.1) (fun t ht hW => ⟨⟨y1.1, (), rfl, rfl, ⟨by rw [ht]; exact hP, va_K.moved hW.alike hK, hD⟩⟩, hS.F ht⟩) hS.2.2 dX7_leastLong_59
  clear hF
  refine itr_rule (fun (s2 : Option Nat × Int32) => ∀ (H : Heap) (locs : List Loc) (ls : Array Slot), va_P D classes (wld ct ad G M) H → va_D A (wld ct ad G M) → va_S A s.heap H locs → lv_has ls 3 [(2, .int s2.2), (1, va_re ad s2.1), (0, .ref (ad a))] → W p l e (headSpec wuX7_leastLong ({ frames := 0, cells := 0, slots := 0, locals := 0 })).room s m ([.ref (ad a)] : List Value).toArray below meth c H locs 0 0 (MQ below (va_Qe ad (fun (q : Option Nat) (_ : Unit) => q = y.2) (fun _ t => kE D ct ad G A y.1 t) A) ([.ref (ad a)] : List Value).toArray s 0 0 A) (F0 m 4 ls [])) ?_ _ _ hy1 _ _ _ hP hD hS (lv_sub hl [0, 1, 2] rfl)
  rintro s2 ⟨z4, hF, hwz4⟩ H locs ls hP hD hS hl
  try dsimp only at hF
  refine lv_iload_n hx hb dX7_leastLong_4 rfl (lv_at hl 0 rfl) ?_
  refine lv_aload_n hx hb dX7_leastLong_5 rfl (lv_at hl 2 rfl) ?_
  refine va_get (D := D) (ci := 7) (v := .int (M.1 a 3)) (C := RX7) (T := TX7) (N := 17) hx hb hts (mus hf_X7) hown hK hP a (wld_o ct ad G M hc hk (by decide)) rfl 3 (by decide) (hts (.fieldLink RX7 29 "VideoSuite$Store" "count" "I") (mu mw_358)) (fun _ h9 => h9) rfl dX7_leastLong_6 ?_
  obtain ⟨x5, ex5, hF⟩ := ltt_some hF
  refine lv_topi (fun zx5 ezx5 => ?_)
  obtain rfl : x5 = zx5 := ex5.trans ezx5.symm
  refine lv_icmp_ge (tgt := 58) hx hb dX7_leastLong_9 (by decide) (fun c6 => ?_) (fun c6 => ?_)
  · rw [if_pos c6] at hF
    obtain rfl := Option.some.inj hF
    subst hwz4
    exact K1 _ _ _ hP hD hS (lv_sub hl [0, 1, 2] rfl)
  · rw [if_neg c6] at hF
    refine lv_aload_n hx hb dX7_leastLong_12 rfl (lv_at hl 2 rfl) ?_
    refine va_get (D := D) (ci := 7) (v := va_re ad (M.2 a 2)) (C := RX7) (T := TX7) (N := 17) hx hb hts (mus hf_X7) hown hK hP a (wld_o ct ad G M hc hk (by decide)) rfl 2 (by decide) (hts (.fieldLink RX7 17 "VideoSuite$Store" "kept" "[LVideoSuite$Picture;") (mu mw_357)) (fun _ h9 => h9) rfl dX7_leastLong_13 ?_
    refine lv_iload_n hx hb dX7_leastLong_16 rfl (lv_at hl 0 rfl) ?_
    obtain ⟨b7, ho7, hc7, hk7, hF⟩ := dr_some hF
    refine W_st (st' := [.int s2.2, .ref (ad b7)]) (by rw [va_some ho7]) ?_
    obtain ⟨hvc, hF⟩ := chk_some hF
    refine ld_q hx hb hK hP hc7 hk7 hvc dX7_leastLong_17 ?_
    obtain ⟨b8, ho8, hc8, hk8, hF⟩ := dr_some hF
    refine W_st (st' := [.ref (ad b8)]) (by rw [va_some ho8]) ?_
    refine va_get (D := D) (ci := 4) (v := .int (M.1 b8 10)) (C := RX4) (T := TX4) (N := 18) hx hb hts (mus hf_X4) hown hK hP b8 (wld_o ct ad G M hc8 hk8 (by decide)) rfl 10 (by decide) (hts (.fieldLink RX7 123 "VideoSuite$Picture" "use" "I") (mu mw_1460)) (fun _ h9 => h9) rfl dX7_leastLong_18 ?_
    obtain ⟨x9, ex9, hF⟩ := ltt_some hF
    refine lv_topi (fun zx9 ezx9 => ?_)
    obtain rfl : x9 = zx9 := ex9.trans ezx9.symm
    refine lv_iconst (v := (2 : Int32)) hx hb dX7_leastLong_21 (by decide) ?_
    obtain ⟨y10, hy10, hF⟩ := bnd_some hF
    have J10 : ∀ (H : Heap) (locs : List Loc) (ls : Array Slot), va_P D classes (wld ct ad G M) H → va_D A (wld ct ad G M) → va_S A s.heap H locs → lv_has ls 3 [(2, .int s2.2), (1, va_re ad y10), (0, .ref (ad a))] → W p l e (headSpec wuX7_leastLong ({ frames := 0, cells := 0, slots := 0, locals := 0 })).room s m ([.ref (ad a)] : List Value).toArray below meth c H locs 0 0 (MQ below (va_Qe ad (fun (q : Option Nat) (_ : Unit) => q = y.2) (fun _ t => kE D ct ad G A y.1 t) A) ([.ref (ad a)] : List Value).toArray s 0 0 A) (F0 m 52 ls []) := by
      intro H locs ls hP hD hS hl
      obtain ⟨x11, ex11, hF⟩ := ltt_some hF
      refine lv_iinc (v := x11) (lv' := [(2, .int x11), (1, va_re ad y10), (0, .ref (ad a))]) hx hb dX7_leastLong_52 hl (k := 0) rfl (by rw [ex11]; rfl) (by decide) (by generalize y10 = o9; cases o9 <;> rfl) (fun ls hl => ?_)
      refine lv_goto (tgt := 4) hx hb dX7_leastLong_55 (by decide) ?_
      obtain rfl := Option.some.inj hF
      exact hwz4 _ _ _ hP hD hS (lv_sub hl [0, 1, 2] rfl)
    clear hF
    have hF := hy10
    clear hy10
    refine lv_icmp_ne (tgt := 52) hx hb dX7_leastLong_22 (by decide) (fun c12 => ?_) (fun c12 => ?_)
    · rw [if_neg c12] at hF
      obtain rfl := Option.some.inj hF
      exact J10 _ _ _ hP hD hS (lv_sub hl [0, 1, 2] rfl)
    · rw [if_pos c12] at hF
      refine lv_aloadq_n hx hb dX7_leastLong_25 rfl (lv_at hl 1 rfl) ?_
      obtain ⟨y13, hy13, hF⟩ := bnd_some hF
      have J13 : ∀ (H : Heap) (locs : List Loc) (ls : Array Slot), va_P D classes (wld ct ad G M) H → va_D A (wld ct ad G M) → va_S A s.heap H locs → lv_has ls 3 [(2, .int s2.2), (1, va_re ad y13), (0, .ref (ad a))] → W p l e (headSpec wuX7_leastLong ({ frames := 0, cells := 0, slots := 0, locals := 0 })).room s m ([.ref (ad a)] : List Value).toArray below meth c H locs 0 0 (MQ below (va_Qe ad (fun (q : Option Nat) (_ : Unit) => q = y.2) (fun _ t => kE D ct ad G A y.1 t) A) ([.ref (ad a)] : List Value).toArray s 0 0 A) (F0 m 52 ls []) := by
        intro H locs ls hP hD hS hl
        obtain rfl := Option.some.inj hF
        exact J10 _ _ _ hP hD hS (lv_sub hl [0, 1, 2] rfl)
      clear hF
      have hF := hy13
      clear hy13
      refine lv_ifnullq (tgt := 45) hx hb dX7_leastLong_26 (by decide) (fun c14 => ?_) (fun c14 => ?_)
      · rw [if_pos c14] at hF
        refine lv_aload_n hx hb dX7_leastLong_45 rfl (lv_at hl 2 rfl) ?_
        refine va_get (D := D) (ci := 7) (v := va_re ad (M.2 a 2)) (C := RX7) (T := TX7) (N := 17) hx hb hts (mus hf_X7) hown hK hP a (wld_o ct ad G M hc hk (by decide)) rfl 2 (by decide) (hts (.fieldLink RX7 17 "VideoSuite$Store" "kept" "[LVideoSuite$Picture;") (mu mw_357)) (fun _ h9 => h9) rfl dX7_leastLong_46 ?_
        refine lv_iload_n hx hb dX7_leastLong_49 rfl (lv_at hl 0 rfl) ?_
        refine W_st (st' := [.int s2.2, .ref (ad b7)]) (by rw [va_some ho7]) ?_
        obtain ⟨hvc, hF⟩ := chk_some hF
        refine ld_q hx hb hK hP hc7 hk7 hvc dX7_leastLong_50 ?_
        refine lv_astoreq_n (lv' := [(1, va_re ad (M.2 b7 s2.2.toNatClampNeg)), (2, .int s2.2), (0, .ref (ad a))]) hx hb dX7_leastLong_51 rfl hl (by decide) rfl (fun ls hl => ?_)
        obtain rfl := Option.some.inj hF
        exact J13 _ _ _ hP hD hS (lv_sub hl [1, 0, 2] rfl)
      · rw [if_neg c14] at hF
        refine lv_aload_n hx hb dX7_leastLong_29 rfl (lv_at hl 2 rfl) ?_
        refine va_get (D := D) (ci := 7) (v := va_re ad (M.2 a 2)) (C := RX7) (T := TX7) (N := 17) hx hb hts (mus hf_X7) hown hK hP a (wld_o ct ad G M hc hk (by decide)) rfl 2 (by decide) (hts (.fieldLink RX7 17 "VideoSuite$Store" "kept" "[LVideoSuite$Picture;") (mu mw_357)) (fun _ h9 => h9) rfl dX7_leastLong_30 ?_
        refine lv_iload_n hx hb dX7_leastLong_33 rfl (lv_at hl 0 rfl) ?_
        refine W_st (st' := [.int s2.2, .ref (ad b7)]) (by rw [va_some ho7]) ?_
        obtain ⟨hvc, hF⟩ := chk_some hF
        refine ld_q hx hb hK hP hc7 hk7 hvc dX7_leastLong_34 ?_
        refine W_st (st' := [.ref (ad b8)]) (by rw [va_some ho8]) ?_
        refine va_get (D := D) (ci := 4) (v := .int (M.1 b8 11)) (C := RX4) (T := TX4) (N := 18) hx hb hts (mus hf_X4) hown hK hP b8 (wld_o ct ad G M hc8 hk8 (by decide)) rfl 11 (by decide) (hts (.fieldLink RX7 129 "VideoSuite$Picture" "number" "I") (mu mw_1464)) (fun _ h9 => h9) rfl dX7_leastLong_35 ?_
        obtain ⟨x15, ex15, hF⟩ := ltt_some hF
        refine lv_topi (fun zx15 ezx15 => ?_)
        obtain rfl : x15 = zx15 := ex15.trans ezx15.symm
        refine lv_aloadq_n hx hb dX7_leastLong_38 rfl (lv_at hl 1 rfl) ?_
        obtain ⟨b16, ho16, hc16, hk16, hF⟩ := dr_some hF
        refine W_st (st' := [.ref (ad b16), .int x15]) (by rw [va_some ho16]) ?_
        refine va_get (D := D) (ci := 4) (v := .int (M.1 b16 11)) (C := RX4) (T := TX4) (N := 18) hx hb hts (mus hf_X4) hown hK hP b16 (wld_o ct ad G M hc16 hk16 (by decide)) rfl 11 (by decide) (hts (.fieldLink RX7 129 "VideoSuite$Picture" "number" "I") (mu mw_1464)) (fun _ h9 => h9) rfl dX7_leastLong_39 ?_
        obtain ⟨x17, ex17, hF⟩ := ltt_some hF
        refine lv_topi (fun zx17 ezx17 => ?_)
        obtain rfl : x17 = zx17 := ex17.trans ezx17.symm
        obtain ⟨y18, hy18, hF⟩ := bnd_some hF
        have J18 : ∀ (H : Heap) (locs : List Loc) (ls : Array Slot), va_P D classes (wld ct ad G M) H → va_D A (wld ct ad G M) → va_S A s.heap H locs → lv_has ls 3 [(2, .int s2.2), (1, va_re ad y18), (0, .ref (ad a))] → W p l e (headSpec wuX7_leastLong ({ frames := 0, cells := 0, slots := 0, locals := 0 })).room s m ([.ref (ad a)] : List Value).toArray below meth c H locs 0 0 (MQ below (va_Qe ad (fun (q : Option Nat) (_ : Unit) => q = y.2) (fun _ t => kE D ct ad G A y.1 t) A) ([.ref (ad a)] : List Value).toArray s 0 0 A) (F0 m 52 ls []) := by
          intro H locs ls hP hD hS hl
          obtain rfl := Option.some.inj hF
          exact J13 _ _ _ hP hD hS (lv_sub hl [0, 1, 2] rfl)
        clear hF
        have hF := hy18
        clear hy18
        refine lv_icmp_ge (tgt := 52) hx hb dX7_leastLong_42 (by decide) (fun c19 => ?_) (fun c19 => ?_)
        · rw [if_pos c19] at hF
          obtain rfl := Option.some.inj hF
          exact J18 _ _ _ hP hD hS (lv_sub hl [0, 1, 2] rfl)
        · rw [if_neg c19] at hF
          refine lv_aload_n hx hb dX7_leastLong_45 rfl (lv_at hl 2 rfl) ?_
          refine va_get (D := D) (ci := 7) (v := va_re ad (M.2 a 2)) (C := RX7) (T := TX7) (N := 17) hx hb hts (mus hf_X7) hown hK hP a (wld_o ct ad G M hc hk (by decide)) rfl 2 (by decide) (hts (.fieldLink RX7 17 "VideoSuite$Store" "kept" "[LVideoSuite$Picture;") (mu mw_357)) (fun _ h9 => h9) rfl dX7_leastLong_46 ?_
          refine lv_iload_n hx hb dX7_leastLong_49 rfl (lv_at hl 0 rfl) ?_
          refine W_st (st' := [.int s2.2, .ref (ad b7)]) (by rw [va_some ho7]) ?_
          obtain ⟨hvc, hF⟩ := chk_some hF
          refine ld_q hx hb hK hP hc7 hk7 hvc dX7_leastLong_50 ?_
          refine lv_astoreq_n (lv' := [(1, va_re ad (M.2 b7 s2.2.toNatClampNeg)), (2, .int s2.2), (0, .ref (ad a))]) hx hb dX7_leastLong_51 rfl hl (by decide) rfl (fun ls hl => ?_)
          obtain rfl := Option.some.inj hF
          exact J18 _ _ _ hP hD hS (lv_sub hl [1, 0, 2] rfl)
theorem dX7_leastRefs_0 : decode cX7_leastRefs 0 = .ok (.aload_n 0, 1) := by decide +kernel
theorem dX7_leastRefs_1 : decode cX7_leastRefs 1 = .ok (.iconst 5, 1) := by decide +kernel
theorem dX7_leastRefs_2 : decode cX7_leastRefs 2 = .ok (.iaload, 1) := by decide +kernel
theorem dX7_leastRefs_3 : decode cX7_leastRefs 3 = .ok (.iconst 1, 1) := by decide +kernel
theorem dX7_leastRefs_4 : decode cX7_leastRefs 4 = .ok (.if_icmp .ge 7, 3) := by decide +kernel
theorem dX7_leastRefs_7 : decode cX7_leastRefs 7 = .ok (.iconst 1, 1) := by decide +kernel
theorem dX7_leastRefs_8 : decode cX7_leastRefs 8 = .ok (.goto 6, 3) := by decide +kernel
theorem dX7_leastRefs_11 : decode cX7_leastRefs 11 = .ok (.aload_n 0, 1) := by decide +kernel
theorem dX7_leastRefs_12 : decode cX7_leastRefs 12 = .ok (.iconst 5, 1) := by decide +kernel
theorem dX7_leastRefs_13 : decode cX7_leastRefs 13 = .ok (.iaload, 1) := by decide +kernel
theorem dX7_leastRefs_14 : decode cX7_leastRefs 14 = .ok (.ireturn, 1) := by decide +kernel
def FX7_leastRefs (G : GG) (M : DD) (p0 : Option Nat) : Option (DD × Int32) :=
  dr G 13 p0 fun b1 =>
  chk (¬ (((5 : Int32)) < 0 ∨ G.2.2 b1 ≤ ((5 : Int32)).toNatClampNeg)) <|
  ltt (M.1 b1 ((5 : Int32)).toNatClampNeg) fun x2 =>
  bnd (if ((1 : Int32)) ≤ x2 then (chk (¬ (((5 : Int32)) < 0 ∨ G.2.2 b1 ≤ ((5 : Int32)).toNatClampNeg)) <|
  ltt (M.1 b1 ((5 : Int32)).toNatClampNeg) fun x5 =>
  some (x5)) else
  (some ((1 : Int32)))) fun (y3 : Int32) =>
  some (M, y3)
set_option maxHeartbeats 4000000 in
set_option maxRecDepth 100000 in
theorem kX7_leastRefs (l : Launch) (D : va_G) (ct : CT) (ad : Nat → Nat) (Z : Nat → Nat) (G : GG) (M : DD) (sz : Nat) (p0 : Option Nat) (y : DD × Int32) (hF : FX7_leastRefs G M p0 = some y) : Met l yX7_leastRefs wuX7_leastRefs ({ frames := 0, cells := 0, slots := 0, locals := 0 }) (va_Pc [va_re ad p0] (kB D ct ad Z G M sz)) (va_Qi (fun (q : Int32) (_ : Unit) => q = y.2) (fun _ t => kE D ct ad G (wA ad G sz) y.1 t) (wA ad G sz)) 0 0 (wA ad G sz) := by
  refine Met.ofW (cc := cX7_leastRefs) (maxL := 1) (ret := (some .int)) (by decide) rfl ?_
  intro p e s m args below meth c s₁ B hml hv
  obtain ⟨rfl, hsz, hP, hK, hD0, hZ, hN⟩ := hv
  have hx := B.exec
  have hb := B.bytes
  have hr := B.returns
  have hts := atoms_spec (ws := wuX7_leastRefs) B.pre
  have hown : s.vm.findClass RX7 = some m.cls := findClass_of_methodNamed B.named
  have hlocks := B.notSynchronized
  subst hsz
  have hD := wD_self (sz := s.heap.size) hD0
  have hA9 : ∀ q, s.heap.size ≤ q → wA ad G s.heap.size q := fun q h => Or.inr h
  generalize hAe : wA ad G s.heap.size = A at hD hA9 hZ ⊢
  have hS : va_S A s.heap s.heap [] := va_S.rf
  have hl := lv_entry ([va_re ad p0]) (n := 1) (by cases p0 <;> exact Nat.le_of_ble_eq_true rfl)
  rw [lg_entry_eq]
  generalize (lg_sl ([va_re ad p0]) ++ List.replicate (1 - (lg_sl ([va_re ad p0])).length) Slot.unset).toArray = ls at hl ⊢
  have hl : lv_has ls 1 [(0, va_re ad p0)] := by have e9 : lv_args 0 [va_re ad p0] = [(0, va_re ad p0)] := (by cases p0 <;> rfl); rw [e9] at hl; exact hl
  unfold FX7_leastRefs at hF
  refine lv_aloadq_n hx hb dX7_leastRefs_0 rfl (lv_at hl 0 rfl) ?_
  refine lv_iconst (v := (5 : Int32)) hx hb dX7_leastRefs_1 (by decide) ?_
  obtain ⟨b1, ho1, hc1, hk1, hF⟩ := dr_some hF
  refine W_st (st' := [.int (5 : Int32), .ref (ad b1)]) (by rw [va_some ho1]) ?_
  obtain ⟨hvc, hF⟩ := chk_some hF
  refine va_iald hx hb hK hP b1 1 (wld_i ct ad G M hc1 hk1) rfl hvc dX7_leastRefs_2 ?_
  obtain ⟨x2, ex2, hF⟩ := ltt_some hF
  refine lv_topi (fun zx2 ezx2 => ?_)
  obtain rfl : x2 = zx2 := ex2.trans ezx2.symm
  refine lv_iconst (v := (1 : Int32)) hx hb dX7_leastRefs_3 (by decide) ?_
  obtain ⟨y3, hy3, hF⟩ := bnd_some hF
  have J3 : ∀ (H : Heap) (locs : List Loc) (ls : Array Slot), va_P D classes (wld ct ad G M) H → va_D A (wld ct ad G M) → va_S A s.heap H locs → lv_has ls 1 [(0, va_re ad p0)] → W p l e (headSpec wuX7_leastRefs ({ frames := 0, cells := 0, slots := 0, locals := 0 })).room s m ([va_re ad p0] : List Value).toArray below meth c H locs 0 0 (MQ below (va_Qi (fun (q : Int32) (_ : Unit) => q = y.2) (fun _ t => kE D ct ad G A y.1 t) A) ([va_re ad p0] : List Value).toArray s 0 0 A) (F0 m 14 ls [.int y3]) := by
    intro H locs ls hP hD hS hl
    obtain rfl := Option.some.inj hF
    exact W.iret (v := y3) hx hb hr (fun t ht hW => ⟨⟨_, (), rfl, rfl, ⟨by rw [ht]; exact hP, va_K.moved hW.alike hK, hD⟩⟩, hS.F ht⟩) hS.2.2 dX7_leastRefs_14
  clear hF
  have hF := hy3
  clear hy3
  refine lv_icmp_ge (tgt := 11) hx hb dX7_leastRefs_4 (by decide) (fun c4 => ?_) (fun c4 => ?_)
  · rw [if_pos c4] at hF
    refine lv_aloadq_n hx hb dX7_leastRefs_11 rfl (lv_at hl 0 rfl) ?_
    refine lv_iconst (v := (5 : Int32)) hx hb dX7_leastRefs_12 (by decide) ?_
    refine W_st (st' := [.int (5 : Int32), .ref (ad b1)]) (by rw [va_some ho1]) ?_
    obtain ⟨hvc, hF⟩ := chk_some hF
    refine va_iald hx hb hK hP b1 1 (wld_i ct ad G M hc1 hk1) rfl hvc dX7_leastRefs_13 ?_
    obtain ⟨x5, ex5, hF⟩ := ltt_some hF
    refine lv_topi (fun zx5 ezx5 => ?_)
    obtain rfl : x5 = zx5 := ex5.trans ezx5.symm
    obtain rfl := Option.some.inj hF
    exact J3 _ _ _ hP hD hS (lv_sub hl [0] rfl)
  · rw [if_neg c4] at hF
    refine lv_iconst (v := (1 : Int32)) hx hb dX7_leastRefs_7 (by decide) ?_
    refine lv_goto (tgt := 14) hx hb dX7_leastRefs_8 (by decide) ?_
    obtain rfl := Option.some.inj hF
    exact J3 _ _ _ hP hD hS (lv_sub hl [0] rfl)
set_option maxRecDepth 20000 in
theorem gX7_leastShort_X7_frameNumber : GoodIn wuX7_leastShort (va_wsS RX7 134 yX7_frameNumber wuX7_frameNumber) := gu_S mw_1030 mw_1031 mw_170 mw_1032
theorem dX7_leastShort_0 : decode cX7_leastShort 0 = .ok (.aconst_null, 1) := by decide +kernel
theorem dX7_leastShort_1 : decode cX7_leastShort 1 = .ok (.astore_n 3, 1) := by decide +kernel
theorem dX7_leastShort_2 : decode cX7_leastShort 2 = .ok (.iconst 0, 1) := by decide +kernel
theorem dX7_leastShort_3 : decode cX7_leastShort 3 = .ok (.istore 4, 2) := by decide +kernel
theorem dX7_leastShort_5 : decode cX7_leastShort 5 = .ok (.iload 4, 2) := by decide +kernel
theorem dX7_leastShort_7 : decode cX7_leastShort 7 = .ok (.aload_n 0, 1) := by decide +kernel
theorem dX7_leastShort_8 : decode cX7_leastShort 8 = .ok (.getfield 29, 3) := by decide +kernel
theorem dX7_leastShort_11 : decode cX7_leastShort 11 = .ok (.if_icmp .ge 50, 3) := by decide +kernel
theorem dX7_leastShort_14 : decode cX7_leastShort 14 = .ok (.aload_n 0, 1) := by decide +kernel
theorem dX7_leastShort_15 : decode cX7_leastShort 15 = .ok (.getfield 17, 3) := by decide +kernel
theorem dX7_leastShort_18 : decode cX7_leastShort 18 = .ok (.iload 4, 2) := by decide +kernel
theorem dX7_leastShort_20 : decode cX7_leastShort 20 = .ok (.aaload, 1) := by decide +kernel
theorem dX7_leastShort_21 : decode cX7_leastShort 21 = .ok (.astore 5, 2) := by decide +kernel
theorem dX7_leastShort_23 : decode cX7_leastShort 23 = .ok (.aload 5, 2) := by decide +kernel
theorem dX7_leastShort_25 : decode cX7_leastShort 25 = .ok (.getfield 123, 3) := by decide +kernel
theorem dX7_leastShort_28 : decode cX7_leastShort 28 = .ok (.iconst 1, 1) := by decide +kernel
theorem dX7_leastShort_29 : decode cX7_leastShort 29 = .ok (.if_icmp .ne 26, 3) := by decide +kernel
theorem dX7_leastShort_32 : decode cX7_leastShort 32 = .ok (.aload_n 3, 1) := by decide +kernel
theorem dX7_leastShort_33 : decode cX7_leastShort 33 = .ok (.ifnull 19, 3) := by decide +kernel
theorem dX7_leastShort_36 : decode cX7_leastShort 36 = .ok (.aload 5, 2) := by decide +kernel
theorem dX7_leastShort_38 : decode cX7_leastShort 38 = .ok (.iload_n 1, 1) := by decide +kernel
theorem dX7_leastShort_39 : decode cX7_leastShort 39 = .ok (.iload_n 2, 1) := by decide +kernel
theorem dX7_leastShort_40 : decode cX7_leastShort 40 = .ok (.invokestatic 134, 3) := by decide +kernel
theorem dX7_leastShort_43 : decode cX7_leastShort 43 = .ok (.aload_n 3, 1) := by decide +kernel
theorem dX7_leastShort_44 : decode cX7_leastShort 44 = .ok (.iload_n 1, 1) := by decide +kernel
theorem dX7_leastShort_45 : decode cX7_leastShort 45 = .ok (.iload_n 2, 1) := by decide +kernel
theorem dX7_leastShort_46 : decode cX7_leastShort 46 = .ok (.invokestatic 134, 3) := by decide +kernel
theorem dX7_leastShort_49 : decode cX7_leastShort 49 = .ok (.if_icmp .ge 6, 3) := by decide +kernel
theorem dX7_leastShort_52 : decode cX7_leastShort 52 = .ok (.aload 5, 2) := by decide +kernel
theorem dX7_leastShort_54 : decode cX7_leastShort 54 = .ok (.astore_n 3, 1) := by decide +kernel
theorem dX7_leastShort_55 : decode cX7_leastShort 55 = .ok (.iinc 4 1, 3) := by decide +kernel
theorem dX7_leastShort_58 : decode cX7_leastShort 58 = .ok (.goto (-53), 3) := by decide +kernel
theorem dX7_leastShort_61 : decode cX7_leastShort 61 = .ok (.aload_n 3, 1) := by decide +kernel
theorem dX7_leastShort_62 : decode cX7_leastShort 62 = .ok (.areturn, 1) := by decide +kernel
def FX7_leastShort (G : GG) (M : DD) (a : Nat) (p0 : Int32) (p1 : Int32) : Option (DD × Option Nat) :=
  bnd (itr (fun (s2 : Option Nat × Int32 × DD) => ((ltt (s2.2.2.1 a 3) fun x5 =>
  if x5 ≤ s2.2.1 then (some (.inr (s2.1, s2.2.1, s2.2.2))) else
  (dr G 14 ((s2.2.2.2 a 2)) fun b7 =>
  chk (¬ (s2.2.1 < 0 ∨ G.2.2 b7 ≤ s2.2.1.toNatClampNeg)) <|
  dr G 4 ((s2.2.2.2 b7 s2.2.1.toNatClampNeg)) fun b8 =>
  ltt (s2.2.2.1 b8 10) fun x9 =>
  bnd (if x9 = ((1 : Int32)) then (bnd (if s2.1 = none then (some ((s2.2.2.2 b7 s2.2.1.toNatClampNeg), s2.2.2)) else
  (bnd (FX7_frameNumber G s2.2.2 ((s2.2.2.2 b7 s2.2.1.toNatClampNeg)) p0 p1) fun y15 =>
  bnd (FX7_frameNumber G y15.1 s2.1 p0 p1) fun y16 =>
  bnd (if y16.2 ≤ y15.2 then (some (s2.1)) else
  (some ((s2.2.2.2 b7 s2.2.1.toNatClampNeg)))) fun (y17 : Option Nat) =>
  some (y17, y16.1))) fun (y13 : Option Nat × DD) =>
  some (y13.1, y13.2)) else
  (some (s2.1, s2.2.2))) fun (y10 : Option Nat × DD) =>
  ltt (s2.2.1 + (1 : Int32)) fun x11 =>
  some (.inl (y10.1, x11, y10.2)))) : Option ((Option Nat × Int32 × DD) ⊕ (Option Nat × Int32 × DD)))) 1000000 (none, (0 : Int32), M)) fun (y1 : Option Nat × Int32 × DD) =>
  some (y1.2.2, y1.1)
set_option maxHeartbeats 4000000 in
set_option maxRecDepth 100000 in
theorem kX7_leastShort (l : Launch) (D : va_G) (ct : CT) (ad : Nat → Nat) (Z : Nat → Nat) (G : GG) (M : DD) (sz : Nat) (a : Nat) (p0 : Int32) (p1 : Int32) (y : DD × Option Nat) (hc : a < G.1) (hk : G.2.1 a = 7) (hF : FX7_leastShort G M a p0 p1 = some y) : Met l yX7_leastShort wuX7_leastShort ({ frames := 1, cells := 0, slots := 0, locals := 22 }) (va_Pc [.ref (ad a), .int p0, .int p1] (kB D ct ad Z G M sz)) (va_Qe ad (fun (q : Option Nat) (_ : Unit) => q = y.2) (fun _ t => kE D ct ad G (wA ad G sz) y.1 t) (wA ad G sz)) 0 0 (wA ad G sz) := by
  refine Met.ofW (cc := cX7_leastShort) (maxL := 6) (ret := (some (.object "VideoSuite$Picture"))) (by decide) rfl ?_
  intro p e s m args below meth c s₁ B hml hv
  obtain ⟨rfl, hsz, hP, hK, hD0, hZ, hN⟩ := hv
  have hx := B.exec
  have hb := B.bytes
  have hr := B.returns
  have hts := atoms_spec (ws := wuX7_leastShort) B.pre
  have hown : s.vm.findClass RX7 = some m.cls := findClass_of_methodNamed B.named
  have hlocks := B.notSynchronized
  subst hsz
  have hD := wD_self (sz := s.heap.size) hD0
  have hA9 : ∀ q, s.heap.size ≤ q → wA ad G s.heap.size q := fun q h => Or.inr h
  generalize hAe : wA ad G s.heap.size = A at hD hA9 hZ ⊢
  have hS : va_S A s.heap s.heap [] := va_S.rf
  have hl := lv_entry ([.ref (ad a), .int p0, .int p1]) (n := 6) (Nat.le_of_ble_eq_true rfl)
  rw [lg_entry_eq]
  generalize (lg_sl ([.ref (ad a), .int p0, .int p1]) ++ List.replicate (6 - (lg_sl ([.ref (ad a), .int p0, .int p1])).length) Slot.unset).toArray = ls at hl ⊢
  have hl : lv_has ls 6 [(0, .ref (ad a)), (1, .int p0), (2, .int p1)] := hl
  unfold FX7_leastShort at hF
  refine lv_nullq (ad := ad) hx hb dX7_leastShort_0 ?_
  refine lv_astoreq_n (lv' := [(3, va_re ad none), (0, .ref (ad a)), (1, .int p0), (2, .int p1)]) hx hb dX7_leastShort_1 rfl hl (by decide) rfl (fun ls hl => ?_)
  refine lv_iconst (v := (0 : Int32)) hx hb dX7_leastShort_2 (by decide) ?_
  refine lv_istore (lv' := [(4, .int (0 : Int32)), (3, va_re ad none), (0, .ref (ad a)), (1, .int p0), (2, .int p1)]) hx hb dX7_leastShort_3 hl (by decide) (by generalize none = o9; cases o9 <;> rfl) (fun ls hl => ?_)
  obtain ⟨y1, hy1, hF⟩ := bnd_some hF
  have K1 : ∀ (H : Heap) (locs : List Loc) (ls : Array Slot), va_P D classes (wld ct ad G y1.2.2) H → va_D A (wld ct ad G y1.2.2) → va_S A s.heap H locs → lv_has ls 6 [(4, .int y1.2.1), (3, va_re ad y1.1), (0, .ref (ad a)), (1, .int p0), (2, .int p1)] → W p l e (headSpec wuX7_leastShort ({ frames := 1, cells := 0, slots := 0, locals := 22 })).room s m ([.ref (ad a), .int p0, .int p1] : List Value).toArray below meth c H locs 0 0 (MQ below (va_Qe ad (fun (q : Option Nat) (_ : Unit) => q = y.2) (fun _ t => kE D ct ad G A y.1 t) A) ([.ref (ad a), .int p0, .int p1] : List Value).toArray s 0 0 A) (F0 m 61 ls []) := by
    intro H locs ls hP hD hS hl
    refine lv_aloadq_n hx hb dX7_leastShort_61 rfl (lv_at hl 1 rfl) ?_
    obtain rfl := Option.some.inj hF
    exact W.aret (v := va_re ad y1.1) hx hb hr (Or.inl ⟨_, rfl⟩) (va_re_or ad y1.1) (fun t ht hW => ⟨⟨y1.1, (), rfl, rfl, ⟨by rw [ht]; exact hP, va_K.moved hW.alike hK, hD⟩⟩, hS.F ht⟩) hS.2.2 dX7_leastShort_62
  clear hF
  refine itr_rule (fun (s2 : Option Nat × Int32 × DD) => ∀ (H : Heap) (locs : List Loc) (ls : Array Slot), va_P D classes (wld ct ad G s2.2.2) H → va_D A (wld ct ad G s2.2.2) → va_S A s.heap H locs → lv_has ls 6 [(4, .int s2.2.1), (3, va_re ad s2.1), (0, .ref (ad a)), (1, .int p0), (2, .int p1)] → W p l e (headSpec wuX7_leastShort ({ frames := 1, cells := 0, slots := 0, locals := 22 })).room s m ([.ref (ad a), .int p0, .int p1] : List Value).toArray below meth c H locs 0 0 (MQ below (va_Qe ad (fun (q : Option Nat) (_ : Unit) => q = y.2) (fun _ t => kE D ct ad G A y.1 t) A) ([.ref (ad a), .int p0, .int p1] : List Value).toArray s 0 0 A) (F0 m 5 ls [])) ?_ _ _ hy1 _ _ _ hP hD hS (lv_sub hl [0, 1, 2, 3, 4] rfl)
  rintro s2 ⟨z4, hF, hwz4⟩ H locs ls hP hD hS hl
  try dsimp only at hF
  refine lv_iload hx hb dX7_leastShort_5 (lv_at hl 0 rfl) ?_
  refine lv_aload_n hx hb dX7_leastShort_7 rfl (lv_at hl 2 rfl) ?_
  refine va_get (D := D) (ci := 7) (v := .int (s2.2.2.1 a 3)) (C := RX7) (T := TX7) (N := 17) hx hb hts (mus hf_X7) hown hK hP a (wld_o ct ad G s2.2.2 hc hk (by decide)) rfl 3 (by decide) (hts (.fieldLink RX7 29 "VideoSuite$Store" "count" "I") (mu mw_358)) (fun _ h9 => h9) rfl dX7_leastShort_8 ?_
  obtain ⟨x5, ex5, hF⟩ := ltt_some hF
  refine lv_topi (fun zx5 ezx5 => ?_)
  obtain rfl : x5 = zx5 := ex5.trans ezx5.symm
  refine lv_icmp_ge (tgt := 61) hx hb dX7_leastShort_11 (by decide) (fun c6 => ?_) (fun c6 => ?_)
  · rw [if_pos c6] at hF
    obtain rfl := Option.some.inj hF
    subst hwz4
    exact K1 _ _ _ hP hD hS (lv_sub hl [0, 1, 2, 3, 4] rfl)
  · rw [if_neg c6] at hF
    refine lv_aload_n hx hb dX7_leastShort_14 rfl (lv_at hl 2 rfl) ?_
    refine va_get (D := D) (ci := 7) (v := va_re ad (s2.2.2.2 a 2)) (C := RX7) (T := TX7) (N := 17) hx hb hts (mus hf_X7) hown hK hP a (wld_o ct ad G s2.2.2 hc hk (by decide)) rfl 2 (by decide) (hts (.fieldLink RX7 17 "VideoSuite$Store" "kept" "[LVideoSuite$Picture;") (mu mw_357)) (fun _ h9 => h9) rfl dX7_leastShort_15 ?_
    refine lv_iload hx hb dX7_leastShort_18 (lv_at hl 0 rfl) ?_
    obtain ⟨b7, ho7, hc7, hk7, hF⟩ := dr_some hF
    refine W_st (st' := [.int s2.2.1, .ref (ad b7)]) (by rw [va_some ho7]) ?_
    obtain ⟨hvc, hF⟩ := chk_some hF
    refine ld_q hx hb hK hP hc7 hk7 hvc dX7_leastShort_20 ?_
    refine lv_astoreq (lv' := [(5, va_re ad (s2.2.2.2 b7 s2.2.1.toNatClampNeg)), (4, .int s2.2.1), (3, va_re ad s2.1), (0, .ref (ad a)), (1, .int p0), (2, .int p1)]) hx hb dX7_leastShort_21 hl (by decide) rfl (fun ls hl => ?_)
    refine lv_aloadq hx hb dX7_leastShort_23 (lv_at hl 0 rfl) ?_
    obtain ⟨b8, ho8, hc8, hk8, hF⟩ := dr_some hF
    refine W_st (st' := [.ref (ad b8)]) (by rw [va_some ho8]) ?_
    refine va_get (D := D) (ci := 4) (v := .int (s2.2.2.1 b8 10)) (C := RX4) (T := TX4) (N := 18) hx hb hts (mus hf_X4) hown hK hP b8 (wld_o ct ad G s2.2.2 hc8 hk8 (by decide)) rfl 10 (by decide) (hts (.fieldLink RX7 123 "VideoSuite$Picture" "use" "I") (mu mw_1460)) (fun _ h9 => h9) rfl dX7_leastShort_25 ?_
    obtain ⟨x9, ex9, hF⟩ := ltt_some hF
    refine lv_topi (fun zx9 ezx9 => ?_)
    obtain rfl : x9 = zx9 := ex9.trans ezx9.symm
    refine lv_iconst (v := (1 : Int32)) hx hb dX7_leastShort_28 (by decide) ?_
    obtain ⟨y10, hy10, hF⟩ := bnd_some hF
    have J10 : ∀ (H : Heap) (locs : List Loc) (ls : Array Slot), va_P D classes (wld ct ad G y10.2) H → va_D A (wld ct ad G y10.2) → va_S A s.heap H locs → lv_has ls 6 [(5, va_re ad (s2.2.2.2 b7 s2.2.1.toNatClampNeg)), (4, .int s2.2.1), (3, va_re ad y10.1), (0, .ref (ad a)), (1, .int p0), (2, .int p1)] → W p l e (headSpec wuX7_leastShort ({ frames := 1, cells := 0, slots := 0, locals := 22 })).room s m ([.ref (ad a), .int p0, .int p1] : List Value).toArray below meth c H locs 0 0 (MQ below (va_Qe ad (fun (q : Option Nat) (_ : Unit) => q = y.2) (fun _ t => kE D ct ad G A y.1 t) A) ([.ref (ad a), .int p0, .int p1] : List Value).toArray s 0 0 A) (F0 m 55 ls []) := by
      intro H locs ls hP hD hS hl
      obtain ⟨x11, ex11, hF⟩ := ltt_some hF
      refine lv_iinc (v := x11) (lv' := [(4, .int x11), (5, va_re ad (s2.2.2.2 b7 s2.2.1.toNatClampNeg)), (3, va_re ad y10.1), (0, .ref (ad a)), (1, .int p0), (2, .int p1)]) hx hb dX7_leastShort_55 hl (k := 1) rfl (by rw [ex11]; rfl) (by decide) (by generalize y10.1 = o9; cases o9 <;> rfl) (fun ls hl => ?_)
      refine lv_goto (tgt := 5) hx hb dX7_leastShort_58 (by decide) ?_
      obtain rfl := Option.some.inj hF
      exact hwz4 _ _ _ hP hD hS (lv_sub hl [0, 2, 3, 4, 5] rfl)
    clear hF
    have hF := hy10
    clear hy10
    refine lv_icmp_ne (tgt := 55) hx hb dX7_leastShort_29 (by decide) (fun c12 => ?_) (fun c12 => ?_)
    · rw [if_neg c12] at hF
      obtain rfl := Option.some.inj hF
      exact J10 _ _ _ hP hD hS (lv_sub hl [0, 1, 2, 3, 4, 5] rfl)
    · rw [if_pos c12] at hF
      refine lv_aloadq_n hx hb dX7_leastShort_32 rfl (lv_at hl 2 rfl) ?_
      obtain ⟨y13, hy13, hF⟩ := bnd_some hF
      have J13 : ∀ (H : Heap) (locs : List Loc) (ls : Array Slot), va_P D classes (wld ct ad G y13.2) H → va_D A (wld ct ad G y13.2) → va_S A s.heap H locs → lv_has ls 6 [(5, va_re ad (s2.2.2.2 b7 s2.2.1.toNatClampNeg)), (4, .int s2.2.1), (3, va_re ad y13.1), (0, .ref (ad a)), (1, .int p0), (2, .int p1)] → W p l e (headSpec wuX7_leastShort ({ frames := 1, cells := 0, slots := 0, locals := 22 })).room s m ([.ref (ad a), .int p0, .int p1] : List Value).toArray below meth c H locs 0 0 (MQ below (va_Qe ad (fun (q : Option Nat) (_ : Unit) => q = y.2) (fun _ t => kE D ct ad G A y.1 t) A) ([.ref (ad a), .int p0, .int p1] : List Value).toArray s 0 0 A) (F0 m 55 ls []) := by
        intro H locs ls hP hD hS hl
        obtain rfl := Option.some.inj hF
        exact J10 _ _ _ hP hD hS (lv_sub hl [0, 1, 2, 3, 4, 5] rfl)
      clear hF
      have hF := hy13
      clear hy13
      refine lv_ifnullq (tgt := 52) hx hb dX7_leastShort_33 (by decide) (fun c14 => ?_) (fun c14 => ?_)
      · rw [if_pos c14] at hF
        refine lv_aloadq hx hb dX7_leastShort_52 (lv_at hl 0 rfl) ?_
        refine lv_astoreq_n (lv' := [(3, va_re ad (s2.2.2.2 b7 s2.2.1.toNatClampNeg)), (5, va_re ad (s2.2.2.2 b7 s2.2.1.toNatClampNeg)), (4, .int s2.2.1), (0, .ref (ad a)), (1, .int p0), (2, .int p1)]) hx hb dX7_leastShort_54 rfl hl (by decide) rfl (fun ls hl => ?_)
        obtain rfl := Option.some.inj hF
        exact J13 _ _ _ hP hD hS (lv_sub hl [1, 2, 0, 3, 4, 5] rfl)
      · rw [if_neg c14] at hF
        refine lv_aloadq hx hb dX7_leastShort_36 (lv_at hl 0 rfl) ?_
        refine lv_iload_n hx hb dX7_leastShort_38 rfl (lv_at hl 4 rfl) ?_
        refine lv_iload_n hx hb dX7_leastShort_39 rfl (lv_at hl 5 rfl) ?_
        obtain ⟨y15, hy15, hF⟩ := bnd_some hF
        have hf9 := wA_in hD hA9 hS
        refine va_calli (va_runS (As := [va_re ad (s2.2.2.2 b7 s2.2.1.toNatClampNeg), .int p0, .int p1]) (rest := []) ⟨hx, hb, hml, hown, hts⟩ (kX7_frameNumber l D ct ad Z G s2.2.2 H.size ((s2.2.2.2 b7 s2.2.1.toNatClampNeg)) p0 p1 y15 hy15) (va_cwS 3 hts gX7_leastShort_X7_frameNumber rfl rfl rfl (by decide +kernel) ⟨Nat.le_of_ble_eq_true rfl, Nat.le_of_ble_eq_true rfl⟩) ⟨fun a U g mk q => by obtain ⟨q0, q1, qP, qK, qD, qZ, qN⟩ := q; exact ⟨q0, q1, qP, va_K.moved (u := U) (U := U.calling g mk a) (Vm.Alike.refl U.vm) qK, qD, sF.moved (u := U) (U := U.calling g mk a) (Vm.Alike.refl U.vm) qZ, nF.same rfl qN⟩, fun U hU hW => ⟨rfl, by rw [hU], by rw [hU]; exact hP, va_K.moved hW.alike hK, hD.weaken (fun _ _ _ _ => trivial), by rw [hU]; exact ((hZ.kept hS.2.1).narrow hf9).moved hW.alike, hN.warm hW⟩⟩ rfl rfl hl.1 rfl (lv_room (Nat.le_of_ble_eq_true rfl)) dX7_leastShort_40 ⟨(Nat.zero_le _), (Nat.zero_le _)⟩) hS (fun q _ h => hf9 q h) hf9 (fun r u t H locs ht hvm hw hB hz1 hk1 hS => ?_)
        obtain ⟨hP, hK9, hD9⟩ := hB
        rw [ht] at hP
        try dsimp only at hw
        subst hw
        have hD := hD9.weaken (fun _ q _ h => hf9 q.1 h)
        refine lv_aloadq_n hx hb dX7_leastShort_43 rfl (lv_at hl 2 rfl) ?_
        refine lv_iload_n hx hb dX7_leastShort_44 rfl (lv_at hl 4 rfl) ?_
        refine lv_iload_n hx hb dX7_leastShort_45 rfl (lv_at hl 5 rfl) ?_
        obtain ⟨y16, hy16, hF⟩ := bnd_some hF
        have hf9 := wA_in hD hA9 hS
        refine va_calli (va_runS (As := [va_re ad s2.1, .int p0, .int p1]) (rest := [.int y15.2]) ⟨hx, hb, hml, hown, hts⟩ (kX7_frameNumber l D ct ad Z G y15.1 H.size s2.1 p0 p1 y16 hy16) (va_cwS 3 hts gX7_leastShort_X7_frameNumber rfl rfl rfl (by decide +kernel) ⟨Nat.le_of_ble_eq_true rfl, Nat.le_of_ble_eq_true rfl⟩) ⟨fun a U g mk q => by obtain ⟨q0, q1, qP, qK, qD, qZ, qN⟩ := q; exact ⟨q0, q1, qP, va_K.moved (u := U) (U := U.calling g mk a) (Vm.Alike.refl U.vm) qK, qD, sF.moved (u := U) (U := U.calling g mk a) (Vm.Alike.refl U.vm) qZ, nF.same rfl qN⟩, fun U hU hW => ⟨rfl, by rw [hU], by rw [hU]; exact hP, va_K.moved hW.alike hK, hD.weaken (fun _ _ _ _ => trivial), by rw [hU]; exact ((hZ.kept hS.2.1).narrow hf9).moved hW.alike, hN.warm hW⟩⟩ rfl rfl hl.1 rfl (lv_room (Nat.le_of_ble_eq_true rfl)) dX7_leastShort_46 ⟨(Nat.zero_le _), (Nat.zero_le _)⟩) hS (fun q _ h => hf9 q h) hf9 (fun r u t H locs ht hvm hw hB hz1 hk1 hS => ?_)
        obtain ⟨hP, hK9, hD9⟩ := hB
        rw [ht] at hP
        try dsimp only at hw
        subst hw
        have hD := hD9.weaken (fun _ q _ h => hf9 q.1 h)
        obtain ⟨y17, hy17, hF⟩ := bnd_some hF
        have J17 : ∀ (H : Heap) (locs : List Loc) (ls : Array Slot), va_P D classes (wld ct ad G y16.1) H → va_D A (wld ct ad G y16.1) → va_S A s.heap H locs → lv_has ls 6 [(5, va_re ad (s2.2.2.2 b7 s2.2.1.toNatClampNeg)), (4, .int s2.2.1), (3, va_re ad y17), (0, .ref (ad a)), (1, .int p0), (2, .int p1)] → W p l e (headSpec wuX7_leastShort ({ frames := 1, cells := 0, slots := 0, locals := 22 })).room s m ([.ref (ad a), .int p0, .int p1] : List Value).toArray below meth c H locs 0 0 (MQ below (va_Qe ad (fun (q : Option Nat) (_ : Unit) => q = y.2) (fun _ t => kE D ct ad G A y.1 t) A) ([.ref (ad a), .int p0, .int p1] : List Value).toArray s 0 0 A) (F0 m 55 ls []) := by
          intro H locs ls hP hD hS hl
          obtain rfl := Option.some.inj hF
          exact J13 _ _ _ hP hD hS (lv_sub hl [0, 1, 2, 3, 4, 5] rfl)
        clear hF
        have hF := hy17
        clear hy17
        refine lv_icmp_ge (tgt := 55) hx hb dX7_leastShort_49 (by decide) (fun c18 => ?_) (fun c18 => ?_)
        · rw [if_pos c18] at hF
          obtain rfl := Option.some.inj hF
          exact J17 _ _ _ hP hD hS (lv_sub hl [0, 1, 2, 3, 4, 5] rfl)
        · rw [if_neg c18] at hF
          refine lv_aloadq hx hb dX7_leastShort_52 (lv_at hl 0 rfl) ?_
          refine lv_astoreq_n (lv' := [(3, va_re ad (s2.2.2.2 b7 s2.2.1.toNatClampNeg)), (5, va_re ad (s2.2.2.2 b7 s2.2.1.toNatClampNeg)), (4, .int s2.2.1), (0, .ref (ad a)), (1, .int p0), (2, .int p1)]) hx hb dX7_leastShort_54 rfl hl (by decide) rfl (fun ls hl => ?_)
          obtain rfl := Option.some.inj hF
          exact J17 _ _ _ hP hD hS (lv_sub hl [1, 2, 0, 3, 4, 5] rfl)
theorem dX7_moveList_0 : decode cX7_moveList 0 = .ok (.aload_n 1, 1) := by decide +kernel
theorem dX7_moveList_1 : decode cX7_moveList 1 = .ok (.getfield 95, 3) := by decide +kernel
theorem dX7_moveList_4 : decode cX7_moveList 4 = .ok (.astore 4, 2) := by decide +kernel
theorem dX7_moveList_6 : decode cX7_moveList 6 = .ok (.aload 4, 2) := by decide +kernel
theorem dX7_moveList_8 : decode cX7_moveList 8 = .ok (.getfield 73, 3) := by decide +kernel
theorem dX7_moveList_11 : decode cX7_moveList 11 = .ok (.bipush 9, 2) := by decide +kernel
theorem dX7_moveList_13 : decode cX7_moveList 13 = .ok (.iload_n 2, 1) := by decide +kernel
theorem dX7_moveList_14 : decode cX7_moveList 14 = .ok (.iadd, 1) := by decide +kernel
theorem dX7_moveList_15 : decode cX7_moveList 15 = .ok (.iaload, 1) := by decide +kernel
theorem dX7_moveList_16 : decode cX7_moveList 16 = .ok (.istore 5, 2) := by decide +kernel
theorem dX7_moveList_18 : decode cX7_moveList 18 = .ok (.aload 4, 2) := by decide +kernel
theorem dX7_moveList_20 : decode cX7_moveList 20 = .ok (.getfield 73, 3) := by decide +kernel
theorem dX7_moveList_23 : decode cX7_moveList 23 = .ok (.iconst 3, 1) := by decide +kernel
theorem dX7_moveList_24 : decode cX7_moveList 24 = .ok (.iaload, 1) := by decide +kernel
theorem dX7_moveList_25 : decode cX7_moveList 25 = .ok (.istore 6, 2) := by decide +kernel
theorem dX7_moveList_27 : decode cX7_moveList 27 = .ok (.iconst 0, 1) := by decide +kernel
theorem dX7_moveList_28 : decode cX7_moveList 28 = .ok (.istore 7, 2) := by decide +kernel
theorem dX7_moveList_30 : decode cX7_moveList 30 = .ok (.iload 7, 2) := by decide +kernel
theorem dX7_moveList_32 : decode cX7_moveList 32 = .ok (.aload 4, 2) := by decide +kernel
theorem dX7_moveList_34 : decode cX7_moveList 34 = .ok (.getfield 73, 3) := by decide +kernel
theorem dX7_moveList_37 : decode cX7_moveList 37 = .ok (.bipush 25, 2) := by decide +kernel
theorem dX7_moveList_39 : decode cX7_moveList 39 = .ok (.iload_n 2, 1) := by decide +kernel
theorem dX7_moveList_40 : decode cX7_moveList 40 = .ok (.iadd, 1) := by decide +kernel
theorem dX7_moveList_41 : decode cX7_moveList 41 = .ok (.iaload, 1) := by decide +kernel
theorem dX7_moveList_42 : decode cX7_moveList 42 = .ok (.if_icmp .ge 142, 3) := by decide +kernel
theorem dX7_moveList_45 : decode cX7_moveList 45 = .ok (.iload 7, 2) := by decide +kernel
theorem dX7_moveList_47 : decode cX7_moveList 47 = .ok (.iload 5, 2) := by decide +kernel
theorem dX7_moveList_49 : decode cX7_moveList 49 = .ok (.if_icmp .ge 10, 3) := by decide +kernel
theorem dX7_moveList_52 : decode cX7_moveList 52 = .ok (.iload 5, 2) := by decide +kernel
theorem dX7_moveList_54 : decode cX7_moveList 54 = .ok (.bipush 8, 2) := by decide +kernel
theorem dX7_moveList_56 : decode cX7_moveList 56 = .ok (.if_icmp .le 5, 3) := by decide +kernel
theorem dX7_moveList_59 : decode cX7_moveList 59 = .ok (.iconst 0, 1) := by decide +kernel
theorem dX7_moveList_60 : decode cX7_moveList 60 = .ok (.ireturn, 1) := by decide +kernel
theorem dX7_moveList_61 : decode cX7_moveList 61 = .ok (.aload 4, 2) := by decide +kernel
theorem dX7_moveList_63 : decode cX7_moveList 63 = .ok (.getfield 138, 3) := by decide +kernel
theorem dX7_moveList_66 : decode cX7_moveList 66 = .ok (.iconst 2, 1) := by decide +kernel
theorem dX7_moveList_67 : decode cX7_moveList 67 = .ok (.bipush 8, 2) := by decide +kernel
theorem dX7_moveList_69 : decode cX7_moveList 69 = .ok (.iload_n 2, 1) := by decide +kernel
theorem dX7_moveList_70 : decode cX7_moveList 70 = .ok (.imul, 1) := by decide +kernel
theorem dX7_moveList_71 : decode cX7_moveList 71 = .ok (.iload 7, 2) := by decide +kernel
theorem dX7_moveList_73 : decode cX7_moveList 73 = .ok (.iadd, 1) := by decide +kernel
theorem dX7_moveList_74 : decode cX7_moveList 74 = .ok (.imul, 1) := by decide +kernel
theorem dX7_moveList_75 : decode cX7_moveList 75 = .ok (.iaload, 1) := by decide +kernel
theorem dX7_moveList_76 : decode cX7_moveList 76 = .ok (.istore 8, 2) := by decide +kernel
theorem dX7_moveList_78 : decode cX7_moveList 78 = .ok (.aload 4, 2) := by decide +kernel
theorem dX7_moveList_80 : decode cX7_moveList 80 = .ok (.getfield 138, 3) := by decide +kernel
theorem dX7_moveList_83 : decode cX7_moveList 83 = .ok (.iconst 2, 1) := by decide +kernel
theorem dX7_moveList_84 : decode cX7_moveList 84 = .ok (.bipush 8, 2) := by decide +kernel
theorem dX7_moveList_86 : decode cX7_moveList 86 = .ok (.iload_n 2, 1) := by decide +kernel
theorem dX7_moveList_87 : decode cX7_moveList 87 = .ok (.imul, 1) := by decide +kernel
theorem dX7_moveList_88 : decode cX7_moveList 88 = .ok (.iload 7, 2) := by decide +kernel
theorem dX7_moveList_90 : decode cX7_moveList 90 = .ok (.iadd, 1) := by decide +kernel
theorem dX7_moveList_91 : decode cX7_moveList 91 = .ok (.imul, 1) := by decide +kernel
theorem dX7_moveList_92 : decode cX7_moveList 92 = .ok (.iconst 1, 1) := by decide +kernel
theorem dX7_moveList_93 : decode cX7_moveList 93 = .ok (.iadd, 1) := by decide +kernel
theorem dX7_moveList_94 : decode cX7_moveList 94 = .ok (.iaload, 1) := by decide +kernel
theorem dX7_moveList_95 : decode cX7_moveList 95 = .ok (.istore 9, 2) := by decide +kernel
theorem dX7_moveList_97 : decode cX7_moveList 97 = .ok (.iload 8, 2) := by decide +kernel
theorem dX7_moveList_99 : decode cX7_moveList 99 = .ok (.iconst 2, 1) := by decide +kernel
theorem dX7_moveList_100 : decode cX7_moveList 100 = .ok (.if_icmp .ge 31, 3) := by decide +kernel
theorem dX7_moveList_103 : decode cX7_moveList 103 = .ok (.iload 8, 2) := by decide +kernel
theorem dX7_moveList_105 : decode cX7_moveList 105 = .ok (.ifCond .ne 13, 3) := by decide +kernel
theorem dX7_moveList_108 : decode cX7_moveList 108 = .ok (.iload 6, 2) := by decide +kernel
theorem dX7_moveList_110 : decode cX7_moveList 110 = .ok (.iload 9, 2) := by decide +kernel
theorem dX7_moveList_112 : decode cX7_moveList 112 = .ok (.iconst 1, 1) := by decide +kernel
theorem dX7_moveList_113 : decode cX7_moveList 113 = .ok (.iadd, 1) := by decide +kernel
theorem dX7_moveList_114 : decode cX7_moveList 114 = .ok (.isub, 1) := by decide +kernel
theorem dX7_moveList_115 : decode cX7_moveList 115 = .ok (.goto 10, 3) := by decide +kernel
theorem dX7_moveList_118 : decode cX7_moveList 118 = .ok (.iload 6, 2) := by decide +kernel
theorem dX7_moveList_120 : decode cX7_moveList 120 = .ok (.iload 9, 2) := by decide +kernel
theorem dX7_moveList_122 : decode cX7_moveList 122 = .ok (.iconst 1, 1) := by decide +kernel
theorem dX7_moveList_123 : decode cX7_moveList 123 = .ok (.iadd, 1) := by decide +kernel
theorem dX7_moveList_124 : decode cX7_moveList 124 = .ok (.iadd, 1) := by decide +kernel
theorem dX7_moveList_125 : decode cX7_moveList 125 = .ok (.iload_n 3, 1) := by decide +kernel
theorem dX7_moveList_126 : decode cX7_moveList 126 = .ok (.iconst 1, 1) := by decide +kernel
theorem dX7_moveList_127 : decode cX7_moveList 127 = .ok (.isub, 1) := by decide +kernel
theorem dX7_moveList_128 : decode cX7_moveList 128 = .ok (.iand, 1) := by decide +kernel
theorem dX7_moveList_129 : decode cX7_moveList 129 = .ok (.istore 6, 2) := by decide +kernel
theorem dX7_moveList_131 : decode cX7_moveList 131 = .ok (.iload 8, 2) := by decide +kernel
theorem dX7_moveList_133 : decode cX7_moveList 133 = .ok (.iconst 2, 1) := by decide +kernel
theorem dX7_moveList_134 : decode cX7_moveList 134 = .ok (.if_icmp .ne 12, 3) := by decide +kernel
theorem dX7_moveList_137 : decode cX7_moveList 137 = .ok (.aload_n 0, 1) := by decide +kernel
theorem dX7_moveList_138 : decode cX7_moveList 138 = .ok (.iload 9, 2) := by decide +kernel
theorem dX7_moveList_140 : decode cX7_moveList 140 = .ok (.invokevirtual 141, 3) := by decide +kernel
theorem dX7_moveList_143 : decode cX7_moveList 143 = .ok (.goto 9, 3) := by decide +kernel
theorem dX7_moveList_146 : decode cX7_moveList 146 = .ok (.aload_n 0, 1) := by decide +kernel
theorem dX7_moveList_147 : decode cX7_moveList 147 = .ok (.iload 6, 2) := by decide +kernel
theorem dX7_moveList_149 : decode cX7_moveList 149 = .ok (.invokevirtual 145, 3) := by decide +kernel
theorem dX7_moveList_152 : decode cX7_moveList 152 = .ok (.astore 10, 2) := by decide +kernel
theorem dX7_moveList_154 : decode cX7_moveList 154 = .ok (.aload 10, 2) := by decide +kernel
theorem dX7_moveList_156 : decode cX7_moveList 156 = .ok (.ifnonnull 5, 3) := by decide +kernel
theorem dX7_moveList_159 : decode cX7_moveList 159 = .ok (.iconst 0, 1) := by decide +kernel
theorem dX7_moveList_160 : decode cX7_moveList 160 = .ok (.ireturn, 1) := by decide +kernel
theorem dX7_moveList_161 : decode cX7_moveList 161 = .ok (.aload_n 1, 1) := by decide +kernel
theorem dX7_moveList_162 : decode cX7_moveList 162 = .ok (.getfield 101, 3) := by decide +kernel
theorem dX7_moveList_165 : decode cX7_moveList 165 = .ok (.bipush 9, 2) := by decide +kernel
theorem dX7_moveList_167 : decode cX7_moveList 167 = .ok (.iload_n 2, 1) := by decide +kernel
theorem dX7_moveList_168 : decode cX7_moveList 168 = .ok (.imul, 1) := by decide +kernel
theorem dX7_moveList_169 : decode cX7_moveList 169 = .ok (.iload 7, 2) := by decide +kernel
theorem dX7_moveList_171 : decode cX7_moveList 171 = .ok (.iload 5, 2) := by decide +kernel
theorem dX7_moveList_173 : decode cX7_moveList 173 = .ok (.aload 10, 2) := by decide +kernel
theorem dX7_moveList_175 : decode cX7_moveList 175 = .ok (.invokestatic 148, 3) := by decide +kernel
theorem dX7_moveList_178 : decode cX7_moveList 178 = .ok (.iinc 7 1, 3) := by decide +kernel
theorem dX7_moveList_181 : decode cX7_moveList 181 = .ok (.goto (-151), 3) := by decide +kernel
theorem dX7_moveList_184 : decode cX7_moveList 184 = .ok (.iconst 1, 1) := by decide +kernel
theorem dX7_moveList_185 : decode cX7_moveList 185 = .ok (.ireturn, 1) := by decide +kernel
def FX7_moveList (G : GG) (M : DD) (a : Nat) (p0 : Option Nat) (p1 : Int32) (p2 : Int32) : Option (DD × Int32) :=
  dr G 9 p0 fun b1 =>
  dr G 3 ((M.2 b1 1)) fun b2 =>
  ltt ((((9 : Int32)) + p1)) fun x3 =>
  dr G 13 ((M.2 b2 0)) fun b4 =>
  chk (¬ (x3 < 0 ∨ G.2.2 b4 ≤ x3.toNatClampNeg)) <|
  ltt (M.1 b4 x3.toNatClampNeg) fun x5 =>
  chk (¬ (((3 : Int32)) < 0 ∨ G.2.2 b4 ≤ ((3 : Int32)).toNatClampNeg)) <|
  ltt (M.1 b4 ((3 : Int32)).toNatClampNeg) fun x6 =>
  bnd (itr (fun (s8 : Int32 × DD) => ((ltt ((((25 : Int32)) + p1)) fun x11 =>
  dr G 13 ((s8.2.2 b2 0)) fun b12 =>
  chk (¬ (x11 < 0 ∨ G.2.2 b12 ≤ x11.toNatClampNeg)) <|
  ltt (s8.2.1 b12 x11.toNatClampNeg) fun x13 =>
  if x13 ≤ ((0 : Int32)) then (some (.inr (.inl (s8.1, s8.2)))) else
  (bnd (if x5 ≤ ((0 : Int32)) then (some (s8.1, s8.2)) else
  (bnd (if x5 ≤ ((8 : Int32)) then (ltt ((((8 : Int32)) * p1)) fun x19 =>
  ltt ((x19 + ((0 : Int32)))) fun x20 =>
  ltt ((((2 : Int32)) * x20)) fun x21 =>
  dr G 13 ((s8.2.2 b2 1)) fun b22 =>
  chk (¬ (x21 < 0 ∨ G.2.2 b22 ≤ x21.toNatClampNeg)) <|
  ltt (s8.2.1 b22 x21.toNatClampNeg) fun x23 =>
  ltt ((((8 : Int32)) * p1)) fun x24 =>
  ltt ((x24 + ((0 : Int32)))) fun x25 =>
  ltt ((((2 : Int32)) * x25)) fun x26 =>
  ltt ((x26 + ((1 : Int32)))) fun x27 =>
  chk (¬ (x27 < 0 ∨ G.2.2 b22 ≤ x27.toNatClampNeg)) <|
  ltt (s8.2.1 b22 x27.toNatClampNeg) fun x28 =>
  bnd (if ((2 : Int32)) ≤ x23 then (some (s8.1)) else
  (bnd (if x23 = ((0 : Int32)) then (ltt ((x28 + ((1 : Int32)))) fun x38 =>
  ltt ((s8.1 - x38)) fun x39 =>
  some (x39)) else
  (ltt ((x28 + ((1 : Int32)))) fun x36 =>
  ltt ((s8.1 + x36)) fun x37 =>
  some (x37))) fun (y32 : Int32) =>
  ltt ((p2 - ((1 : Int32)))) fun x33 =>
  ltt ((y32 &&& x33)) fun x34 =>
  some (x34))) fun (y29 : Int32) =>
  if x23 = ((2 : Int32)) then (none) else
  (none)) else
  (some (s8.1, s8.2))) fun (y17 : Int32 × DD) =>
  some (y17.1, y17.2))) fun (y15 : Int32 × DD) =>
  chk (((0 : Int32)) = 0 ∨ ((0 : Int32)) = 1) <|
  some (.inr (.inr (y15.2, (0 : Int32)))))) : Option ((Int32 × DD) ⊕ ((Int32 × DD) ⊕ (DD × Int32))))) 1000000 (x6, M)) fun (y7 : (Int32 × DD) ⊕ (DD × Int32)) =>
  sel y7 (fun (z7k : Int32 × DD) =>
  chk (((1 : Int32)) = 0 ∨ ((1 : Int32)) = 1) <|
  some (z7k.2, (1 : Int32))) fun r9 => some r9
set_option maxHeartbeats 4000000 in
set_option maxRecDepth 100000 in
theorem kX7_moveList (l : Launch) (D : va_G) (ct : CT) (ad : Nat → Nat) (Z : Nat → Nat) (G : GG) (M : DD) (sz : Nat) (a : Nat) (p0 : Option Nat) (p1 : Int32) (p2 : Int32) (y : DD × Int32) (hc : a < G.1) (hk : G.2.1 a = 7) (hF : FX7_moveList G M a p0 p1 p2 = some y) : Met l yX7_moveList wuX7_moveList ({ frames := 0, cells := 0, slots := 0, locals := 0 }) (va_Pc [.ref (ad a), va_re ad p0, .int p1, .int p2] (kB D ct ad Z G M sz)) (va_Qi (fun (q : Int32) (_ : Unit) => q = y.2) (fun _ t => kE D ct ad G (wA ad G sz) y.1 t) (wA ad G sz)) 0 0 (wA ad G sz) := by
  refine Met.ofW (cc := cX7_moveList) (maxL := 11) (ret := (some .boolean)) (by decide) rfl ?_
  intro p e s m args below meth c s₁ B hml hv
  obtain ⟨rfl, hsz, hP, hK, hD0, hZ, hN⟩ := hv
  have hx := B.exec
  have hb := B.bytes
  have hr := B.returns
  have hts := atoms_spec (ws := wuX7_moveList) B.pre
  have hown : s.vm.findClass RX7 = some m.cls := findClass_of_methodNamed B.named
  have hlocks := B.notSynchronized
  subst hsz
  have hD := wD_self (sz := s.heap.size) hD0
  have hA9 : ∀ q, s.heap.size ≤ q → wA ad G s.heap.size q := fun q h => Or.inr h
  generalize hAe : wA ad G s.heap.size = A at hD hA9 hZ ⊢
  have hS : va_S A s.heap s.heap [] := va_S.rf
  have hl := lv_entry ([.ref (ad a), va_re ad p0, .int p1, .int p2]) (n := 11) (by cases p0 <;> exact Nat.le_of_ble_eq_true rfl)
  rw [lg_entry_eq]
  generalize (lg_sl ([.ref (ad a), va_re ad p0, .int p1, .int p2]) ++ List.replicate (11 - (lg_sl ([.ref (ad a), va_re ad p0, .int p1, .int p2])).length) Slot.unset).toArray = ls at hl ⊢
  have hl : lv_has ls 11 [(0, .ref (ad a)), (1, va_re ad p0), (2, .int p1), (3, .int p2)] := by have e9 : lv_args 0 [.ref (ad a), va_re ad p0, .int p1, .int p2] = [(0, .ref (ad a)), (1, va_re ad p0), (2, .int p1), (3, .int p2)] := (by cases p0 <;> rfl); rw [e9] at hl; exact hl
  unfold FX7_moveList at hF
  refine lv_aloadq_n hx hb dX7_moveList_0 rfl (lv_at hl 1 rfl) ?_
  obtain ⟨b1, ho1, hc1, hk1, hF⟩ := dr_some hF
  refine W_st (st' := [.ref (ad b1)]) (by rw [va_some ho1]) ?_
  refine va_get (D := D) (ci := 9) (v := va_re ad (M.2 b1 1)) (C := RX9) (T := TX9) (N := 20) hx hb hts (mus hf_X9) hown hK hP b1 (wld_o ct ad G M hc1 hk1 (by decide)) rfl 1 (by decide) (hts (.fieldLink RX7 95 "VideoSuite$Work" "head" "LVideoSuite$Header;") (mu mw_426)) (fun _ h9 => h9) rfl dX7_moveList_1 ?_
  refine lv_astoreq (lv' := [(4, va_re ad (M.2 b1 1)), (0, .ref (ad a)), (1, va_re ad p0), (2, .int p1), (3, .int p2)]) hx hb dX7_moveList_4 hl (by decide) rfl (fun ls hl => ?_)
  refine lv_aloadq hx hb dX7_moveList_6 (lv_at hl 0 rfl) ?_
  obtain ⟨b2, ho2, hc2, hk2, hF⟩ := dr_some hF
  refine W_st (st' := [.ref (ad b2)]) (by rw [va_some ho2]) ?_
  refine va_get (D := D) (ci := 3) (v := va_re ad (M.2 b2 0)) (C := RX3) (T := TX3) (N := 4) hx hb hts (mus hf_X3) hown hK hP b2 (wld_o ct ad G M hc2 hk2 (by decide)) rfl 0 (by decide) (hts (.fieldLink RX7 73 "VideoSuite$Header" "v" "[I") (mu mw_616)) (fun _ h9 => h9) rfl dX7_moveList_8 ?_
  refine lv_bipush (v := (9 : Int32)) hx hb dX7_moveList_11 (by decide) ?_
  refine lv_iload_n hx hb dX7_moveList_13 rfl (lv_at hl 3 rfl) ?_
  refine lv_iadd hx hb dX7_moveList_14 ?_
  obtain ⟨x3, ex3, hF⟩ := ltt_some hF
  refine lv_topi (fun zx3 ezx3 => ?_)
  obtain rfl : x3 = zx3 := ex3.trans ezx3.symm
  obtain ⟨b4, ho4, hc4, hk4, hF⟩ := dr_some hF
  refine W_st (st' := [.int x3, .ref (ad b4)]) (by rw [va_some ho4]) ?_
  obtain ⟨hvc, hF⟩ := chk_some hF
  refine va_iald hx hb hK hP b4 1 (wld_i ct ad G M hc4 hk4) rfl hvc dX7_moveList_15 ?_
  obtain ⟨x5, ex5, hF⟩ := ltt_some hF
  refine lv_topi (fun zx5 ezx5 => ?_)
  obtain rfl : x5 = zx5 := ex5.trans ezx5.symm
  refine lv_istore (lv' := [(5, .int x5), (4, va_re ad (M.2 b1 1)), (0, .ref (ad a)), (1, va_re ad p0), (2, .int p1), (3, .int p2)]) hx hb dX7_moveList_16 hl (by decide) (by generalize ((M.2 b1 1)) = o9; cases o9 <;> rfl) (fun ls hl => ?_)
  refine lv_aloadq hx hb dX7_moveList_18 (lv_at hl 1 rfl) ?_
  refine W_st (st' := [.ref (ad b2)]) (by rw [va_some ho2]) ?_
  refine va_get (D := D) (ci := 3) (v := va_re ad (M.2 b2 0)) (C := RX3) (T := TX3) (N := 4) hx hb hts (mus hf_X3) hown hK hP b2 (wld_o ct ad G M hc2 hk2 (by decide)) rfl 0 (by decide) (hts (.fieldLink RX7 73 "VideoSuite$Header" "v" "[I") (mu mw_616)) (fun _ h9 => h9) rfl dX7_moveList_20 ?_
  refine lv_iconst (v := (3 : Int32)) hx hb dX7_moveList_23 (by decide) ?_
  refine W_st (st' := [.int (3 : Int32), .ref (ad b4)]) (by rw [va_some ho4]) ?_
  obtain ⟨hvc, hF⟩ := chk_some hF
  refine va_iald hx hb hK hP b4 1 (wld_i ct ad G M hc4 hk4) rfl hvc dX7_moveList_24 ?_
  obtain ⟨x6, ex6, hF⟩ := ltt_some hF
  refine lv_topi (fun zx6 ezx6 => ?_)
  obtain rfl : x6 = zx6 := ex6.trans ezx6.symm
  refine lv_istore (lv' := [(6, .int x6), (5, .int x5), (4, va_re ad (M.2 b1 1)), (0, .ref (ad a)), (1, va_re ad p0), (2, .int p1), (3, .int p2)]) hx hb dX7_moveList_25 hl (by decide) rfl (fun ls hl => ?_)
  refine lv_iconst (v := (0 : Int32)) hx hb dX7_moveList_27 (by decide) ?_
  refine lv_istore (lv' := [(7, .int (0 : Int32)), (6, .int x6), (5, .int x5), (4, va_re ad (M.2 b1 1)), (0, .ref (ad a)), (1, va_re ad p0), (2, .int p1), (3, .int p2)]) hx hb dX7_moveList_28 hl (by decide) rfl (fun ls hl => ?_)
  obtain ⟨y7, hy7, hF⟩ := bnd_some hF
  have K7 : ∀ z7k : Int32 × DD, y7 = .inl z7k → ∀ (H : Heap) (locs : List Loc) (ls : Array Slot), va_P D classes (wld ct ad G z7k.2) H → va_D A (wld ct ad G z7k.2) → va_S A s.heap H locs → lv_has ls 11 [(7, .int (0 : Int32)), (6, .int z7k.1), (5, .int x5), (4, va_re ad (M.2 b1 1)), (0, .ref (ad a)), (1, va_re ad p0), (2, .int p1), (3, .int p2)] → W p l e (headSpec wuX7_moveList ({ frames := 0, cells := 0, slots := 0, locals := 0 })).room s m ([.ref (ad a), va_re ad p0, .int p1, .int p2] : List Value).toArray below meth c H locs 0 0 (MQ below (va_Qi (fun (q : Int32) (_ : Unit) => q = y.2) (fun _ t => kE D ct ad G A y.1 t) A) ([.ref (ad a), va_re ad p0, .int p1, .int p2] : List Value).toArray s 0 0 A) (F0 m 184 ls []) := by
    intro z7k hz7 H locs ls hP hD hS hl
    have hF := sel_inl (hz7 ▸ hF)
    refine lv_iconst (v := (1 : Int32)) hx hb dX7_moveList_184 (by decide) ?_
    obtain ⟨hz9, hF⟩ := chk_some hF
    obtain rfl := Option.some.inj hF
    exact W.zret (v := (1 : Int32)) (ty := .boolean) hx hb hr (nar_z hz9).1 (fun t ht hW => ⟨⟨_, (), rfl, rfl, ⟨by rw [ht]; exact hP, va_K.moved hW.alike hK, hD⟩⟩, hS.F ht⟩) hS.2.2 dX7_moveList_185
  have hR7 := hF
  clear hF
  refine itr_rule (fun (s8 : Int32 × DD) => ∀ (H : Heap) (locs : List Loc) (ls : Array Slot), va_P D classes (wld ct ad G s8.2) H → va_D A (wld ct ad G s8.2) → va_S A s.heap H locs → lv_has ls 11 [(7, .int (0 : Int32)), (6, .int s8.1), (5, .int x5), (4, va_re ad (M.2 b1 1)), (0, .ref (ad a)), (1, va_re ad p0), (2, .int p1), (3, .int p2)] → W p l e (headSpec wuX7_moveList ({ frames := 0, cells := 0, slots := 0, locals := 0 })).room s m ([.ref (ad a), va_re ad p0, .int p1, .int p2] : List Value).toArray below meth c H locs 0 0 (MQ below (va_Qi (fun (q : Int32) (_ : Unit) => q = y.2) (fun _ t => kE D ct ad G A y.1 t) A) ([.ref (ad a), va_re ad p0, .int p1, .int p2] : List Value).toArray s 0 0 A) (F0 m 30 ls [])) ?_ _ _ hy7 _ _ _ hP hD hS (lv_sub hl [0, 1, 2, 3, 4, 5, 6, 7] rfl)
  rintro s8 ⟨z10, hF, hwz10⟩ H locs ls hP hD hS hl
  try dsimp only at hF
  refine lv_iload hx hb dX7_moveList_30 (lv_at hl 0 rfl) ?_
  refine lv_aloadq hx hb dX7_moveList_32 (lv_at hl 3 rfl) ?_
  refine W_st (st' := [.ref (ad b2), .int (0 : Int32)]) (by rw [va_some ho2]) ?_
  refine va_get (D := D) (ci := 3) (v := va_re ad (s8.2.2 b2 0)) (C := RX3) (T := TX3) (N := 4) hx hb hts (mus hf_X3) hown hK hP b2 (wld_o ct ad G s8.2 hc2 hk2 (by decide)) rfl 0 (by decide) (hts (.fieldLink RX7 73 "VideoSuite$Header" "v" "[I") (mu mw_616)) (fun _ h9 => h9) rfl dX7_moveList_34 ?_
  refine lv_bipush (v := (25 : Int32)) hx hb dX7_moveList_37 (by decide) ?_
  refine lv_iload_n hx hb dX7_moveList_39 rfl (lv_at hl 6 rfl) ?_
  refine lv_iadd hx hb dX7_moveList_40 ?_
  obtain ⟨x11, ex11, hF⟩ := ltt_some hF
  refine lv_topi (fun zx11 ezx11 => ?_)
  obtain rfl : x11 = zx11 := ex11.trans ezx11.symm
  obtain ⟨b12, ho12, hc12, hk12, hF⟩ := dr_some hF
  refine W_st (st' := [.int x11, .ref (ad b12), .int (0 : Int32)]) (by rw [va_some ho12]) ?_
  obtain ⟨hvc, hF⟩ := chk_some hF
  refine va_iald hx hb hK hP b12 1 (wld_i ct ad G s8.2 hc12 hk12) rfl hvc dX7_moveList_41 ?_
  obtain ⟨x13, ex13, hF⟩ := ltt_some hF
  refine lv_topi (fun zx13 ezx13 => ?_)
  obtain rfl : x13 = zx13 := ex13.trans ezx13.symm
  refine lv_icmp_ge (tgt := 184) hx hb dX7_moveList_42 (by decide) (fun c14 => ?_) (fun c14 => ?_)
  · rw [if_pos c14] at hF
    obtain rfl := Option.some.inj hF
    exact K7 _ hwz10.symm _ _ _ hP hD hS (lv_sub hl [0, 1, 2, 3, 4, 5, 6, 7] rfl)
  · rw [if_neg c14] at hF
    refine lv_iload hx hb dX7_moveList_45 (lv_at hl 0 rfl) ?_
    refine lv_iload hx hb dX7_moveList_47 (lv_at hl 2 rfl) ?_
    obtain ⟨y15, hy15, hF⟩ := bnd_some hF
    have J15 : ∀ (H : Heap) (locs : List Loc) (ls : Array Slot), va_P D classes (wld ct ad G y15.2) H → va_D A (wld ct ad G y15.2) → va_S A s.heap H locs → lv_has ls 11 [(7, .int (0 : Int32)), (6, .int y15.1), (5, .int x5), (4, va_re ad (M.2 b1 1)), (0, .ref (ad a)), (1, va_re ad p0), (2, .int p1), (3, .int p2)] → W p l e (headSpec wuX7_moveList ({ frames := 0, cells := 0, slots := 0, locals := 0 })).room s m ([.ref (ad a), va_re ad p0, .int p1, .int p2] : List Value).toArray below meth c H locs 0 0 (MQ below (va_Qi (fun (q : Int32) (_ : Unit) => q = y.2) (fun _ t => kE D ct ad G A y.1 t) A) ([.ref (ad a), va_re ad p0, .int p1, .int p2] : List Value).toArray s 0 0 A) (F0 m 59 ls []) := by
      intro H locs ls hP hD hS hl
      refine lv_iconst (v := (0 : Int32)) hx hb dX7_moveList_59 (by decide) ?_
      obtain ⟨hz9, hF⟩ := chk_some hF
      obtain rfl := Option.some.inj hF
      have hF := sel_inr (hwz10 ▸ hR7)
      obtain rfl := Option.some.inj hF
      exact W.zret (v := (0 : Int32)) (ty := .boolean) hx hb hr (nar_z hz9).1 (fun t ht hW => ⟨⟨_, (), rfl, rfl, ⟨by rw [ht]; exact hP, va_K.moved hW.alike hK, hD⟩⟩, hS.F ht⟩) hS.2.2 dX7_moveList_60
    clear hF
    have hF := hy15
    clear hy15
    refine lv_icmp_ge (tgt := 59) hx hb dX7_moveList_49 (by decide) (fun c16 => ?_) (fun c16 => ?_)
    · rw [if_pos c16] at hF
      obtain rfl := Option.some.inj hF
      exact J15 _ _ _ hP hD hS (lv_sub hl [0, 1, 2, 3, 4, 5, 6, 7] rfl)
    · rw [if_neg c16] at hF
      refine lv_iload hx hb dX7_moveList_52 (lv_at hl 2 rfl) ?_
      refine lv_bipush (v := (8 : Int32)) hx hb dX7_moveList_54 (by decide) ?_
      obtain ⟨y17, hy17, hF⟩ := bnd_some hF
      have J17 : ∀ (H : Heap) (locs : List Loc) (ls : Array Slot), va_P D classes (wld ct ad G y17.2) H → va_D A (wld ct ad G y17.2) → va_S A s.heap H locs → lv_has ls 11 [(7, .int (0 : Int32)), (6, .int y17.1), (5, .int x5), (4, va_re ad (M.2 b1 1)), (0, .ref (ad a)), (1, va_re ad p0), (2, .int p1), (3, .int p2)] → W p l e (headSpec wuX7_moveList ({ frames := 0, cells := 0, slots := 0, locals := 0 })).room s m ([.ref (ad a), va_re ad p0, .int p1, .int p2] : List Value).toArray below meth c H locs 0 0 (MQ below (va_Qi (fun (q : Int32) (_ : Unit) => q = y.2) (fun _ t => kE D ct ad G A y.1 t) A) ([.ref (ad a), va_re ad p0, .int p1, .int p2] : List Value).toArray s 0 0 A) (F0 m 59 ls []) := by
        intro H locs ls hP hD hS hl
        obtain rfl := Option.some.inj hF
        exact J15 _ _ _ hP hD hS (lv_sub hl [0, 1, 2, 3, 4, 5, 6, 7] rfl)
      clear hF
      have hF := hy17
      clear hy17
      refine lv_icmp_le (tgt := 61) hx hb dX7_moveList_56 (by decide) (fun c18 => ?_) (fun c18 => ?_)
      · rw [if_pos c18] at hF
        refine lv_aloadq hx hb dX7_moveList_61 (lv_at hl 3 rfl) ?_
        refine W_st (st' := [.ref (ad b2)]) (by rw [va_some ho2]) ?_
        refine va_get (D := D) (ci := 3) (v := va_re ad (s8.2.2 b2 1)) (C := RX3) (T := TX3) (N := 4) hx hb hts (mus hf_X3) hown hK hP b2 (wld_o ct ad G s8.2 hc2 hk2 (by decide)) rfl 1 (by decide) (hts (.fieldLink RX7 138 "VideoSuite$Header" "move" "[I") (mu mw_622)) (fun _ h9 => h9) rfl dX7_moveList_63 ?_
        refine lv_iconst (v := (2 : Int32)) hx hb dX7_moveList_66 (by decide) ?_
        refine lv_bipush (v := (8 : Int32)) hx hb dX7_moveList_67 (by decide) ?_
        refine lv_iload_n hx hb dX7_moveList_69 rfl (lv_at hl 6 rfl) ?_
        refine lv_imul hx hb dX7_moveList_70 ?_
        obtain ⟨x19, ex19, hF⟩ := ltt_some hF
        refine lv_topi (fun zx19 ezx19 => ?_)
        obtain rfl : x19 = zx19 := ex19.trans ezx19.symm
        refine lv_iload hx hb dX7_moveList_71 (lv_at hl 0 rfl) ?_
        refine lv_iadd hx hb dX7_moveList_73 ?_
        obtain ⟨x20, ex20, hF⟩ := ltt_some hF
        refine lv_topi (fun zx20 ezx20 => ?_)
        obtain rfl : x20 = zx20 := ex20.trans ezx20.symm
        refine lv_imul hx hb dX7_moveList_74 ?_
        obtain ⟨x21, ex21, hF⟩ := ltt_some hF
        refine lv_topi (fun zx21 ezx21 => ?_)
        obtain rfl : x21 = zx21 := ex21.trans ezx21.symm
        obtain ⟨b22, ho22, hc22, hk22, hF⟩ := dr_some hF
        refine W_st (st' := [.int x21, .ref (ad b22)]) (by rw [va_some ho22]) ?_
        obtain ⟨hvc, hF⟩ := chk_some hF
        refine va_iald hx hb hK hP b22 1 (wld_i ct ad G s8.2 hc22 hk22) rfl hvc dX7_moveList_75 ?_
        obtain ⟨x23, ex23, hF⟩ := ltt_some hF
        refine lv_topi (fun zx23 ezx23 => ?_)
        obtain rfl : x23 = zx23 := ex23.trans ezx23.symm
        refine lv_istore (lv' := [(8, .int x23), (7, .int (0 : Int32)), (6, .int s8.1), (5, .int x5), (4, va_re ad (M.2 b1 1)), (0, .ref (ad a)), (1, va_re ad p0), (2, .int p1), (3, .int p2)]) hx hb dX7_moveList_76 hl (by decide) rfl (fun ls hl => ?_)
        refine lv_aloadq hx hb dX7_moveList_78 (lv_at hl 4 rfl) ?_
        refine W_st (st' := [.ref (ad b2)]) (by rw [va_some ho2]) ?_
        refine va_get (D := D) (ci := 3) (v := va_re ad (s8.2.2 b2 1)) (C := RX3) (T := TX3) (N := 4) hx hb hts (mus hf_X3) hown hK hP b2 (wld_o ct ad G s8.2 hc2 hk2 (by decide)) rfl 1 (by decide) (hts (.fieldLink RX7 138 "VideoSuite$Header" "move" "[I") (mu mw_622)) (fun _ h9 => h9) rfl dX7_moveList_80 ?_
        refine lv_iconst (v := (2 : Int32)) hx hb dX7_moveList_83 (by decide) ?_
        refine lv_bipush (v := (8 : Int32)) hx hb dX7_moveList_84 (by decide) ?_
        refine lv_iload_n hx hb dX7_moveList_86 rfl (lv_at hl 7 rfl) ?_
        refine lv_imul hx hb dX7_moveList_87 ?_
        obtain ⟨x24, ex24, hF⟩ := ltt_some hF
        refine lv_topi (fun zx24 ezx24 => ?_)
        obtain rfl : x24 = zx24 := ex24.trans ezx24.symm
        refine lv_iload hx hb dX7_moveList_88 (lv_at hl 1 rfl) ?_
        refine lv_iadd hx hb dX7_moveList_90 ?_
        obtain ⟨x25, ex25, hF⟩ := ltt_some hF
        refine lv_topi (fun zx25 ezx25 => ?_)
        obtain rfl : x25 = zx25 := ex25.trans ezx25.symm
        refine lv_imul hx hb dX7_moveList_91 ?_
        obtain ⟨x26, ex26, hF⟩ := ltt_some hF
        refine lv_topi (fun zx26 ezx26 => ?_)
        obtain rfl : x26 = zx26 := ex26.trans ezx26.symm
        refine lv_iconst (v := (1 : Int32)) hx hb dX7_moveList_92 (by decide) ?_
        refine lv_iadd hx hb dX7_moveList_93 ?_
        obtain ⟨x27, ex27, hF⟩ := ltt_some hF
        refine lv_topi (fun zx27 ezx27 => ?_)
        obtain rfl : x27 = zx27 := ex27.trans ezx27.symm
        refine W_st (st' := [.int x27, .ref (ad b22)]) (by rw [va_some ho22]) ?_
        obtain ⟨hvc, hF⟩ := chk_some hF
        refine va_iald hx hb hK hP b22 1 (wld_i ct ad G s8.2 hc22 hk22) rfl hvc dX7_moveList_94 ?_
        obtain ⟨x28, ex28, hF⟩ := ltt_some hF
        refine lv_topi (fun zx28 ezx28 => ?_)
        obtain rfl : x28 = zx28 := ex28.trans ezx28.symm
        refine lv_istore (lv' := [(9, .int x28), (8, .int x23), (7, .int (0 : Int32)), (6, .int s8.1), (5, .int x5), (4, va_re ad (M.2 b1 1)), (0, .ref (ad a)), (1, va_re ad p0), (2, .int p1), (3, .int p2)]) hx hb dX7_moveList_95 hl (by decide) rfl (fun ls hl => ?_)
        refine lv_iload hx hb dX7_moveList_97 (lv_at hl 1 rfl) ?_
        refine lv_iconst (v := (2 : Int32)) hx hb dX7_moveList_99 (by decide) ?_
        obtain ⟨y29, hy29, hF⟩ := bnd_some hF
        have J29 : ∀ (H : Heap) (locs : List Loc) (ls : Array Slot), va_P D classes (wld ct ad G s8.2) H → va_D A (wld ct ad G s8.2) → va_S A s.heap H locs → lv_has ls 11 [(9, .int x28), (8, .int x23), (7, .int (0 : Int32)), (6, .int y29), (5, .int x5), (4, va_re ad (M.2 b1 1)), (0, .ref (ad a)), (1, va_re ad p0), (2, .int p1), (3, .int p2)] → W p l e (headSpec wuX7_moveList ({ frames := 0, cells := 0, slots := 0, locals := 0 })).room s m ([.ref (ad a), va_re ad p0, .int p1, .int p2] : List Value).toArray below meth c H locs 0 0 (MQ below (va_Qi (fun (q : Int32) (_ : Unit) => q = y.2) (fun _ t => kE D ct ad G A y.1 t) A) ([.ref (ad a), va_re ad p0, .int p1, .int p2] : List Value).toArray s 0 0 A) (F0 m 131 ls []) := by
          intro H locs ls hP hD hS hl
          refine lv_iload hx hb dX7_moveList_131 (lv_at hl 1 rfl) ?_
          refine lv_iconst (v := (2 : Int32)) hx hb dX7_moveList_133 (by decide) ?_
          refine lv_icmp_ne (tgt := 146) hx hb dX7_moveList_134 (by decide) (fun c30 => ?_) (fun c30 => ?_)
          · rw [if_neg c30] at hF
            refine lv_aload_n hx hb dX7_moveList_146 rfl (lv_at hl 6 rfl) ?_
            refine lv_iload hx hb dX7_moveList_147 (lv_at hl 3 rfl) ?_
            cases hF
          · rw [if_pos c30] at hF
            refine lv_aload_n hx hb dX7_moveList_137 rfl (lv_at hl 6 rfl) ?_
            refine lv_iload hx hb dX7_moveList_138 (lv_at hl 0 rfl) ?_
            cases hF
        clear hF
        have hF := hy29
        clear hy29
        refine lv_icmp_ge (tgt := 131) hx hb dX7_moveList_100 (by decide) (fun c31 => ?_) (fun c31 => ?_)
        · rw [if_pos c31] at hF
          obtain rfl := Option.some.inj hF
          exact J29 _ _ _ hP hD hS (lv_sub hl [0, 1, 2, 3, 4, 5, 6, 7, 8, 9] rfl)
        · rw [if_neg c31] at hF
          refine lv_iload hx hb dX7_moveList_103 (lv_at hl 1 rfl) ?_
          obtain ⟨y32, hy32, hF⟩ := bnd_some hF
          have J32 : ∀ (H : Heap) (locs : List Loc) (ls : Array Slot), va_P D classes (wld ct ad G s8.2) H → va_D A (wld ct ad G s8.2) → va_S A s.heap H locs → lv_has ls 11 [(9, .int x28), (8, .int x23), (7, .int (0 : Int32)), (6, .int s8.1), (5, .int x5), (4, va_re ad (M.2 b1 1)), (0, .ref (ad a)), (1, va_re ad p0), (2, .int p1), (3, .int p2)] → W p l e (headSpec wuX7_moveList ({ frames := 0, cells := 0, slots := 0, locals := 0 })).room s m ([.ref (ad a), va_re ad p0, .int p1, .int p2] : List Value).toArray below meth c H locs 0 0 (MQ below (va_Qi (fun (q : Int32) (_ : Unit) => q = y.2) (fun _ t => kE D ct ad G A y.1 t) A) ([.ref (ad a), va_re ad p0, .int p1, .int p2] : List Value).toArray s 0 0 A) (F0 m 125 ls [.int y32]) := by
            intro H locs ls hP hD hS hl
            refine lv_iload_n hx hb dX7_moveList_125 rfl (lv_at hl 9 rfl) ?_
            refine lv_iconst (v := (1 : Int32)) hx hb dX7_moveList_126 (by decide) ?_
            refine lv_isub hx hb dX7_moveList_127 ?_
            obtain ⟨x33, ex33, hF⟩ := ltt_some hF
            refine lv_topi (fun zx33 ezx33 => ?_)
            obtain rfl : x33 = zx33 := ex33.trans ezx33.symm
            refine lv_iand hx hb dX7_moveList_128 ?_
            obtain ⟨x34, ex34, hF⟩ := ltt_some hF
            refine lv_topi (fun zx34 ezx34 => ?_)
            obtain rfl : x34 = zx34 := ex34.trans ezx34.symm
            refine lv_istore (lv' := [(6, .int x34), (9, .int x28), (8, .int x23), (7, .int (0 : Int32)), (5, .int x5), (4, va_re ad (M.2 b1 1)), (0, .ref (ad a)), (1, va_re ad p0), (2, .int p1), (3, .int p2)]) hx hb dX7_moveList_129 hl (by decide) rfl (fun ls hl => ?_)
            obtain rfl := Option.some.inj hF
            exact J29 _ _ _ hP hD hS (lv_sub hl [1, 2, 3, 0, 4, 5, 6, 7, 8, 9] rfl)
          clear hF
          have hF := hy32
          clear hy32
          refine lv_if_ne (tgt := 118) hx hb dX7_moveList_105 (by decide) (fun c35 => ?_) (fun c35 => ?_)
          · rw [if_neg c35] at hF
            refine lv_iload hx hb dX7_moveList_118 (lv_at hl 3 rfl) ?_
            refine lv_iload hx hb dX7_moveList_120 (lv_at hl 0 rfl) ?_
            refine lv_iconst (v := (1 : Int32)) hx hb dX7_moveList_122 (by decide) ?_
            refine lv_iadd hx hb dX7_moveList_123 ?_
            obtain ⟨x36, ex36, hF⟩ := ltt_some hF
            refine lv_topi (fun zx36 ezx36 => ?_)
            obtain rfl : x36 = zx36 := ex36.trans ezx36.symm
            refine lv_iadd hx hb dX7_moveList_124 ?_
            obtain ⟨x37, ex37, hF⟩ := ltt_some hF
            refine lv_topi (fun zx37 ezx37 => ?_)
            obtain rfl : x37 = zx37 := ex37.trans ezx37.symm
            obtain rfl := Option.some.inj hF
            exact J32 _ _ _ hP hD hS (lv_sub hl [0, 1, 2, 3, 4, 5, 6, 7, 8, 9] rfl)
          · rw [if_pos c35] at hF
            refine lv_iload hx hb dX7_moveList_108 (lv_at hl 3 rfl) ?_
            refine lv_iload hx hb dX7_moveList_110 (lv_at hl 0 rfl) ?_
            refine lv_iconst (v := (1 : Int32)) hx hb dX7_moveList_112 (by decide) ?_
            refine lv_iadd hx hb dX7_moveList_113 ?_
            obtain ⟨x38, ex38, hF⟩ := ltt_some hF
            refine lv_topi (fun zx38 ezx38 => ?_)
            obtain rfl : x38 = zx38 := ex38.trans ezx38.symm
            refine lv_isub hx hb dX7_moveList_114 ?_
            obtain ⟨x39, ex39, hF⟩ := ltt_some hF
            refine lv_topi (fun zx39 ezx39 => ?_)
            obtain rfl : x39 = zx39 := ex39.trans ezx39.symm
            refine lv_goto (tgt := 125) hx hb dX7_moveList_115 (by decide) ?_
            obtain rfl := Option.some.inj hF
            exact J32 _ _ _ hP hD hS (lv_sub hl [0, 1, 2, 3, 4, 5, 6, 7, 8, 9] rfl)
      · rw [if_neg c18] at hF
        obtain rfl := Option.some.inj hF
        exact J17 _ _ _ hP hD hS (lv_sub hl [0, 1, 2, 3, 4, 5, 6, 7] rfl)
