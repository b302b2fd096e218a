theorem dX6_turnBack_0 : decode cX6_turnBack 0 = .ok (.iconst 0, 1) := by decide +kernel
theorem dX6_turnBack_1 : decode cX6_turnBack 1 = .ok (.istore_n 3, 1) := by decide +kernel
theorem dX6_turnBack_2 : decode cX6_turnBack 2 = .ok (.iload_n 3, 1) := by decide +kernel
theorem dX6_turnBack_3 : decode cX6_turnBack 3 = .ok (.iconst 4, 1) := by decide +kernel
theorem dX6_turnBack_4 : decode cX6_turnBack 4 = .ok (.if_icmp .ge 164, 3) := by decide +kernel
theorem dX6_turnBack_7 : decode cX6_turnBack 7 = .ok (.iload_n 3, 1) := by decide +kernel
theorem dX6_turnBack_8 : decode cX6_turnBack 8 = .ok (.iload_n 2, 1) := by decide +kernel
theorem dX6_turnBack_9 : decode cX6_turnBack 9 = .ok (.imul, 1) := by decide +kernel
theorem dX6_turnBack_10 : decode cX6_turnBack 10 = .ok (.istore 4, 2) := by decide +kernel
theorem dX6_turnBack_12 : decode cX6_turnBack 12 = .ok (.aload_n 0, 1) := by decide +kernel
theorem dX6_turnBack_13 : decode cX6_turnBack 13 = .ok (.getfield 30, 3) := by decide +kernel
theorem dX6_turnBack_16 : decode cX6_turnBack 16 = .ok (.iload 4, 2) := by decide +kernel
theorem dX6_turnBack_18 : decode cX6_turnBack 18 = .ok (.iaload, 1) := by decide +kernel
theorem dX6_turnBack_19 : decode cX6_turnBack 19 = .ok (.aload_n 0, 1) := by decide +kernel
theorem dX6_turnBack_20 : decode cX6_turnBack 20 = .ok (.getfield 30, 3) := by decide +kernel
theorem dX6_turnBack_23 : decode cX6_turnBack 23 = .ok (.iload 4, 2) := by decide +kernel
theorem dX6_turnBack_25 : decode cX6_turnBack 25 = .ok (.iconst 2, 1) := by decide +kernel
theorem dX6_turnBack_26 : decode cX6_turnBack 26 = .ok (.iload_n 1, 1) := by decide +kernel
theorem dX6_turnBack_27 : decode cX6_turnBack 27 = .ok (.imul, 1) := by decide +kernel
theorem dX6_turnBack_28 : decode cX6_turnBack 28 = .ok (.iadd, 1) := by decide +kernel
theorem dX6_turnBack_29 : decode cX6_turnBack 29 = .ok (.iaload, 1) := by decide +kernel
theorem dX6_turnBack_30 : decode cX6_turnBack 30 = .ok (.iadd, 1) := by decide +kernel
theorem dX6_turnBack_31 : decode cX6_turnBack 31 = .ok (.istore 5, 2) := by decide +kernel
theorem dX6_turnBack_33 : decode cX6_turnBack 33 = .ok (.aload_n 0, 1) := by decide +kernel
theorem dX6_turnBack_34 : decode cX6_turnBack 34 = .ok (.getfield 30, 3) := by decide +kernel
theorem dX6_turnBack_37 : decode cX6_turnBack 37 = .ok (.iload 4, 2) := by decide +kernel
theorem dX6_turnBack_39 : decode cX6_turnBack 39 = .ok (.iaload, 1) := by decide +kernel
theorem dX6_turnBack_40 : decode cX6_turnBack 40 = .ok (.aload_n 0, 1) := by decide +kernel
theorem dX6_turnBack_41 : decode cX6_turnBack 41 = .ok (.getfield 30, 3) := by decide +kernel
theorem dX6_turnBack_44 : decode cX6_turnBack 44 = .ok (.iload 4, 2) := by decide +kernel
theorem dX6_turnBack_46 : decode cX6_turnBack 46 = .ok (.iconst 2, 1) := by decide +kernel
theorem dX6_turnBack_47 : decode cX6_turnBack 47 = .ok (.iload_n 1, 1) := by decide +kernel
theorem dX6_turnBack_48 : decode cX6_turnBack 48 = .ok (.imul, 1) := by decide +kernel
theorem dX6_turnBack_49 : decode cX6_turnBack 49 = .ok (.iadd, 1) := by decide +kernel
theorem dX6_turnBack_50 : decode cX6_turnBack 50 = .ok (.iaload, 1) := by decide +kernel
theorem dX6_turnBack_51 : decode cX6_turnBack 51 = .ok (.isub, 1) := by decide +kernel
theorem dX6_turnBack_52 : decode cX6_turnBack 52 = .ok (.istore 6, 2) := by decide +kernel
theorem dX6_turnBack_54 : decode cX6_turnBack 54 = .ok (.aload_n 0, 1) := by decide +kernel
theorem dX6_turnBack_55 : decode cX6_turnBack 55 = .ok (.getfield 30, 3) := by decide +kernel
theorem dX6_turnBack_58 : decode cX6_turnBack 58 = .ok (.iload 4, 2) := by decide +kernel
theorem dX6_turnBack_60 : decode cX6_turnBack 60 = .ok (.iload_n 1, 1) := by decide +kernel
theorem dX6_turnBack_61 : decode cX6_turnBack 61 = .ok (.iadd, 1) := by decide +kernel
theorem dX6_turnBack_62 : decode cX6_turnBack 62 = .ok (.iaload, 1) := by decide +kernel
theorem dX6_turnBack_63 : decode cX6_turnBack 63 = .ok (.iconst 1, 1) := by decide +kernel
theorem dX6_turnBack_64 : decode cX6_turnBack 64 = .ok (.ishr, 1) := by decide +kernel
theorem dX6_turnBack_65 : decode cX6_turnBack 65 = .ok (.aload_n 0, 1) := by decide +kernel
theorem dX6_turnBack_66 : decode cX6_turnBack 66 = .ok (.getfield 30, 3) := by decide +kernel
theorem dX6_turnBack_69 : decode cX6_turnBack 69 = .ok (.iload 4, 2) := by decide +kernel
theorem dX6_turnBack_71 : decode cX6_turnBack 71 = .ok (.iconst 3, 1) := by decide +kernel
theorem dX6_turnBack_72 : decode cX6_turnBack 72 = .ok (.iload_n 1, 1) := by decide +kernel
theorem dX6_turnBack_73 : decode cX6_turnBack 73 = .ok (.imul, 1) := by decide +kernel
theorem dX6_turnBack_74 : decode cX6_turnBack 74 = .ok (.iadd, 1) := by decide +kernel
theorem dX6_turnBack_75 : decode cX6_turnBack 75 = .ok (.iaload, 1) := by decide +kernel
theorem dX6_turnBack_76 : decode cX6_turnBack 76 = .ok (.isub, 1) := by decide +kernel
theorem dX6_turnBack_77 : decode cX6_turnBack 77 = .ok (.istore 7, 2) := by decide +kernel
theorem dX6_turnBack_79 : decode cX6_turnBack 79 = .ok (.aload_n 0, 1) := by decide +kernel
theorem dX6_turnBack_80 : decode cX6_turnBack 80 = .ok (.getfield 30, 3) := by decide +kernel
theorem dX6_turnBack_83 : decode cX6_turnBack 83 = .ok (.iload 4, 2) := by decide +kernel
theorem dX6_turnBack_85 : decode cX6_turnBack 85 = .ok (.iload_n 1, 1) := by decide +kernel
theorem dX6_turnBack_86 : decode cX6_turnBack 86 = .ok (.iadd, 1) := by decide +kernel
theorem dX6_turnBack_87 : decode cX6_turnBack 87 = .ok (.iaload, 1) := by decide +kernel
theorem dX6_turnBack_88 : decode cX6_turnBack 88 = .ok (.aload_n 0, 1) := by decide +kernel
theorem dX6_turnBack_89 : decode cX6_turnBack 89 = .ok (.getfield 30, 3) := by decide +kernel
theorem dX6_turnBack_92 : decode cX6_turnBack 92 = .ok (.iload 4, 2) := by decide +kernel
theorem dX6_turnBack_94 : decode cX6_turnBack 94 = .ok (.iconst 3, 1) := by decide +kernel
theorem dX6_turnBack_95 : decode cX6_turnBack 95 = .ok (.iload_n 1, 1) := by decide +kernel
theorem dX6_turnBack_96 : decode cX6_turnBack 96 = .ok (.imul, 1) := by decide +kernel
theorem dX6_turnBack_97 : decode cX6_turnBack 97 = .ok (.iadd, 1) := by decide +kernel
theorem dX6_turnBack_98 : decode cX6_turnBack 98 = .ok (.iaload, 1) := by decide +kernel
theorem dX6_turnBack_99 : decode cX6_turnBack 99 = .ok (.iconst 1, 1) := by decide +kernel
theorem dX6_turnBack_100 : decode cX6_turnBack 100 = .ok (.ishr, 1) := by decide +kernel
theorem dX6_turnBack_101 : decode cX6_turnBack 101 = .ok (.iadd, 1) := by decide +kernel
theorem dX6_turnBack_102 : decode cX6_turnBack 102 = .ok (.istore 8, 2) := by decide +kernel
theorem dX6_turnBack_104 : decode cX6_turnBack 104 = .ok (.aload_n 0, 1) := by decide +kernel
theorem dX6_turnBack_105 : decode cX6_turnBack 105 = .ok (.getfield 30, 3) := by decide +kernel
theorem dX6_turnBack_108 : decode cX6_turnBack 108 = .ok (.iload 4, 2) := by decide +kernel
theorem dX6_turnBack_110 : decode cX6_turnBack 110 = .ok (.iload 5, 2) := by decide +kernel
theorem dX6_turnBack_112 : decode cX6_turnBack 112 = .ok (.iload 8, 2) := by decide +kernel
theorem dX6_turnBack_114 : decode cX6_turnBack 114 = .ok (.iadd, 1) := by decide +kernel
theorem dX6_turnBack_115 : decode cX6_turnBack 115 = .ok (.iastore, 1) := by decide +kernel
theorem dX6_turnBack_116 : decode cX6_turnBack 116 = .ok (.aload_n 0, 1) := by decide +kernel
theorem dX6_turnBack_117 : decode cX6_turnBack 117 = .ok (.getfield 30, 3) := by decide +kernel
theorem dX6_turnBack_120 : decode cX6_turnBack 120 = .ok (.iload 4, 2) := by decide +kernel
theorem dX6_turnBack_122 : decode cX6_turnBack 122 = .ok (.iload_n 1, 1) := by decide +kernel
theorem dX6_turnBack_123 : decode cX6_turnBack 123 = .ok (.iadd, 1) := by decide +kernel
theorem dX6_turnBack_124 : decode cX6_turnBack 124 = .ok (.iload 6, 2) := by decide +kernel
theorem dX6_turnBack_126 : decode cX6_turnBack 126 = .ok (.iload 7, 2) := by decide +kernel
theorem dX6_turnBack_128 : decode cX6_turnBack 128 = .ok (.iadd, 1) := by decide +kernel
theorem dX6_turnBack_129 : decode cX6_turnBack 129 = .ok (.iastore, 1) := by decide +kernel
theorem dX6_turnBack_130 : decode cX6_turnBack 130 = .ok (.aload_n 0, 1) := by decide +kernel
theorem dX6_turnBack_131 : decode cX6_turnBack 131 = .ok (.getfield 30, 3) := by decide +kernel
theorem dX6_turnBack_134 : decode cX6_turnBack 134 = .ok (.iload 4, 2) := by decide +kernel
theorem dX6_turnBack_136 : decode cX6_turnBack 136 = .ok (.iconst 2, 1) := by decide +kernel
theorem dX6_turnBack_137 : decode cX6_turnBack 137 = .ok (.iload_n 1, 1) := by decide +kernel
theorem dX6_turnBack_138 : decode cX6_turnBack 138 = .ok (.imul, 1) := by decide +kernel
theorem dX6_turnBack_139 : decode cX6_turnBack 139 = .ok (.iadd, 1) := by decide +kernel
theorem dX6_turnBack_140 : decode cX6_turnBack 140 = .ok (.iload 6, 2) := by decide +kernel
theorem dX6_turnBack_142 : decode cX6_turnBack 142 = .ok (.iload 7, 2) := by decide +kernel
theorem dX6_turnBack_144 : decode cX6_turnBack 144 = .ok (.isub, 1) := by decide +kernel
theorem dX6_turnBack_145 : decode cX6_turnBack 145 = .ok (.iastore, 1) := by decide +kernel
theorem dX6_turnBack_146 : decode cX6_turnBack 146 = .ok (.aload_n 0, 1) := by decide +kernel
theorem dX6_turnBack_147 : decode cX6_turnBack 147 = .ok (.getfield 30, 3) := by decide +kernel
theorem dX6_turnBack_150 : decode cX6_turnBack 150 = .ok (.iload 4, 2) := by decide +kernel
theorem dX6_turnBack_152 : decode cX6_turnBack 152 = .ok (.iconst 3, 1) := by decide +kernel
theorem dX6_turnBack_153 : decode cX6_turnBack 153 = .ok (.iload_n 1, 1) := by decide +kernel
theorem dX6_turnBack_154 : decode cX6_turnBack 154 = .ok (.imul, 1) := by decide +kernel
theorem dX6_turnBack_155 : decode cX6_turnBack 155 = .ok (.iadd, 1) := by decide +kernel
theorem dX6_turnBack_156 : decode cX6_turnBack 156 = .ok (.iload 5, 2) := by decide +kernel
theorem dX6_turnBack_158 : decode cX6_turnBack 158 = .ok (.iload 8, 2) := by decide +kernel
theorem dX6_turnBack_160 : decode cX6_turnBack 160 = .ok (.isub, 1) := by decide +kernel
theorem dX6_turnBack_161 : decode cX6_turnBack 161 = .ok (.iastore, 1) := by decide +kernel
theorem dX6_turnBack_162 : decode cX6_turnBack 162 = .ok (.iinc 3 1, 3) := by decide +kernel
theorem dX6_turnBack_165 : decode cX6_turnBack 165 = .ok (.goto (-163), 3) := by decide +kernel
theorem dX6_turnBack_168 : decode cX6_turnBack 168 = .ok (.return_, 1) := by decide +kernel
def FX6_turnBack (G : GG) (M : DD) (a : Nat) (p0 : Int32) (p1 : Int32) : Option (DD) :=
  bnd (itr (fun (s2 : Int32 × DD) => ((if ((4 : Int32)) ≤ s2.1 then (some (.inr (s2.1, s2.2))) else
  (ltt ((s2.1 * p1)) fun x6 =>
  dr G 13 ((s2.2.2 a 6)) fun b7 =>
  chk (¬ (x6 < 0 ∨ G.2.2 b7 ≤ x6.toNatClampNeg)) <|
  ltt (s2.2.1 b7 x6.toNatClampNeg) fun x8 =>
  ltt ((((2 : Int32)) * p0)) fun x9 =>
  ltt ((x6 + x9)) fun x10 =>
  chk (¬ (x10 < 0 ∨ G.2.2 b7 ≤ x10.toNatClampNeg)) <|
  ltt (s2.2.1 b7 x10.toNatClampNeg) fun x11 =>
  ltt ((x8 + x11)) fun x12 =>
  chk (¬ (x6 < 0 ∨ G.2.2 b7 ≤ x6.toNatClampNeg)) <|
  ltt (s2.2.1 b7 x6.toNatClampNeg) fun x13 =>
  ltt ((((2 : Int32)) * p0)) fun x14 =>
  ltt ((x6 + x14)) fun x15 =>
  chk (¬ (x15 < 0 ∨ G.2.2 b7 ≤ x15.toNatClampNeg)) <|
  ltt (s2.2.1 b7 x15.toNatClampNeg) fun x16 =>
  ltt ((x13 - x16)) fun x17 =>
  ltt ((x6 + p0)) fun x18 =>
  chk (¬ (x18 < 0 ∨ G.2.2 b7 ≤ x18.toNatClampNeg)) <|
  ltt (s2.2.1 b7 x18.toNatClampNeg) fun x19 =>
  ltt ((x19 >>> (((1 : Int32)) &&& 31))) fun x20 =>
  ltt ((((3 : Int32)) * p0)) fun x21 =>
  ltt ((x6 + x21)) fun x22 =>
  chk (¬ (x22 < 0 ∨ G.2.2 b7 ≤ x22.toNatClampNeg)) <|
  ltt (s2.2.1 b7 x22.toNatClampNeg) fun x23 =>
  ltt ((x20 - x23)) fun x24 =>
  ltt ((x6 + p0)) fun x25 =>
  chk (¬ (x25 < 0 ∨ G.2.2 b7 ≤ x25.toNatClampNeg)) <|
  ltt (s2.2.1 b7 x25.toNatClampNeg) fun x26 =>
  ltt ((((3 : Int32)) * p0)) fun x27 =>
  ltt ((x6 + x27)) fun x28 =>
  chk (¬ (x28 < 0 ∨ G.2.2 b7 ≤ x28.toNatClampNeg)) <|
  ltt (s2.2.1 b7 x28.toNatClampNeg) fun x29 =>
  ltt ((x29 >>> (((1 : Int32)) &&& 31))) fun x30 =>
  ltt ((x26 + x30)) fun x31 =>
  ltt ((x12 + x31)) fun x32 =>
  chk (¬ (x6 < 0 ∨ G.2.2 b7 ≤ x6.toNatClampNeg)) <|
  ltt (uI s2.2 b7 x6.toNatClampNeg x32) fun M33 =>
  ltt ((x6 + p0)) fun x34 =>
  ltt ((x17 + x24)) fun x35 =>
  dr G 13 ((M33.2 a 6)) fun b36 =>
  chk (¬ (x34 < 0 ∨ G.2.2 b36 ≤ x34.toNatClampNeg)) <|
  ltt (uI M33 b36 x34.toNatClampNeg x35) fun M37 =>
  ltt ((((2 : Int32)) * p0)) fun x38 =>
  ltt ((x6 + x38)) fun x39 =>
  ltt ((x17 - x24)) fun x40 =>
  dr G 13 ((M37.2 a 6)) fun b41 =>
  chk (¬ (x39 < 0 ∨ G.2.2 b41 ≤ x39.toNatClampNeg)) <|
  ltt (uI M37 b41 x39.toNatClampNeg x40) fun M42 =>
  ltt ((((3 : Int32)) * p0)) fun x43 =>
  ltt ((x6 + x43)) fun x44 =>
  ltt ((x12 - x31)) fun x45 =>
  dr G 13 ((M42.2 a 6)) fun b46 =>
  chk (¬ (x44 < 0 ∨ G.2.2 b46 ≤ x44.toNatClampNeg)) <|
  ltt (uI M42 b46 x44.toNatClampNeg x45) fun M47 =>
  ltt (s2.1 + (1 : Int32)) fun x48 =>
  some (.inl (x48, M47)))) : Option ((Int32 × DD) ⊕ (Int32 × DD)))) 1000000 ((0 : Int32), M)) fun (y1 : Int32 × DD) =>
  some y1.2
set_option maxHeartbeats 4000000 in
set_option maxRecDepth 100000 in
theorem kX6_turnBack (l : Launch) (D : va_G) (ct : CT) (ad : Nat → Nat) (Z : Nat → Nat) (G : GG) (M : DD) (sz : Nat) (a : Nat) (p0 : Int32) (p1 : Int32) (y : DD) (hc : a < G.1) (hk : G.2.1 a = 6) (hF : FX6_turnBack G M a p0 p1 = some y) : Met l yX6_turnBack wsX6_turnBack ({ frames := 0, cells := 0, slots := 0, locals := 0 }) (va_Pc [.ref (ad a), .int p0, .int p1] (kB D ct ad Z G M sz)) (va_Qv (fun (_ : Unit) => True) (fun _ t => kE D ct ad G (wA ad G sz) y t) (wA ad G sz)) 0 0 (wA ad G sz) := by
  refine Met.ofW (cc := cX6_turnBack) (maxL := 9) (ret := none) (by decide) rfl ?_
  intro p e s m args below meth c s₁ B hml hv
  obtain ⟨rfl, hsz, hP, hK, hD0, hZ, hN⟩ := hv
  have hx := B.exec
  have hb := B.bytes
  have hr := B.returns
  have hts := atoms_spec (ws := wsX6_turnBack) B.pre
  have hown : s.vm.findClass RX6 = some m.cls := findClass_of_methodNamed B.named
  have hlocks := B.notSynchronized
  subst hsz
  have hD := wD_self (sz := s.heap.size) hD0
  have hA9 : ∀ q, s.heap.size ≤ q → wA ad G s.heap.size q := fun q h => Or.inr h
  generalize hAe : wA ad G s.heap.size = A at hD hA9 hZ ⊢
  have hS : va_S A s.heap s.heap [] := va_S.rf
  have hl := lv_entry ([.ref (ad a), .int p0, .int p1]) (n := 9) (Nat.le_of_ble_eq_true rfl)
  rw [lg_entry_eq]
  generalize (lg_sl ([.ref (ad a), .int p0, .int p1]) ++ List.replicate (9 - (lg_sl ([.ref (ad a), .int p0, .int p1])).length) Slot.unset).toArray = ls at hl ⊢
  have hl : lv_has ls 9 [(0, .ref (ad a)), (1, .int p0), (2, .int p1)] := hl
  unfold FX6_turnBack at hF
  refine lv_iconst (v := (0 : Int32)) hx hb dX6_turnBack_0 (by decide) ?_
  refine lv_istore_n (lv' := [(3, .int (0 : Int32)), (0, .ref (ad a)), (1, .int p0), (2, .int p1)]) hx hb dX6_turnBack_1 rfl hl (by decide) rfl (fun ls hl => ?_)
  obtain ⟨y1, hy1, hF⟩ := bnd_some hF
  have K1 : ∀ (H : Heap) (locs : List Loc) (ls : Array Slot), va_P D classes (wld ct ad G y1.2) H → va_D A (wld ct ad G y1.2) → va_S A s.heap H locs → lv_has ls 9 [(3, .int y1.1), (0, .ref (ad a)), (1, .int p0), (2, .int p1)] → W p l e (headSpec wsX6_turnBack ({ frames := 0, cells := 0, slots := 0, locals := 0 })).room s m ([.ref (ad a), .int p0, .int p1] : List Value).toArray below meth c H locs 0 0 (MQ below (va_Qv (fun (_ : Unit) => True) (fun _ t => kE D ct ad G A y t) A) ([.ref (ad a), .int p0, .int p1] : List Value).toArray s 0 0 A) (F0 m 168 ls []) := by
    intro H locs ls hP hD hS hl
    obtain rfl := Option.some.inj hF
    exact W.vret hx hb hr (fun t ht hW => ⟨⟨(), rfl, trivial, ⟨by rw [ht]; exact hP, va_K.moved hW.alike hK, hD⟩⟩, hS.F ht⟩) hS.2.2 dX6_turnBack_168
  clear hF
  refine itr_rule (fun (s2 : Int32 × DD) => ∀ (H : Heap) (locs : List Loc) (ls : Array Slot), va_P D classes (wld ct ad G s2.2) H → va_D A (wld ct ad G s2.2) → va_S A s.heap H locs → lv_has ls 9 [(3, .int s2.1), (0, .ref (ad a)), (1, .int p0), (2, .int p1)] → W p l e (headSpec wsX6_turnBack ({ frames := 0, cells := 0, slots := 0, locals := 0 })).room s m ([.ref (ad a), .int p0, .int p1] : List Value).toArray below meth c H locs 0 0 (MQ below (va_Qv (fun (_ : Unit) => True) (fun _ t => kE D ct ad G A y t) A) ([.ref (ad a), .int p0, .int p1] : List Value).toArray s 0 0 A) (F0 m 2 ls [])) ?_ _ _ hy1 _ _ _ hP hD hS (lv_sub hl [0, 1, 2, 3] rfl)
  rintro s2 ⟨z4, hF, hwz4⟩ H locs ls hP hD hS hl
  try dsimp only at hF
  refine lv_iload_n hx hb dX6_turnBack_2 rfl (lv_at hl 0 rfl) ?_
  refine lv_iconst (v := (4 : Int32)) hx hb dX6_turnBack_3 (by decide) ?_
  refine lv_icmp_ge (tgt := 168) hx hb dX6_turnBack_4 (by decide) (fun c5 => ?_) (fun c5 => ?_)
  · rw [if_pos c5] at hF
    obtain rfl := Option.some.inj hF
    subst hwz4
    exact K1 _ _ _ hP hD hS (lv_sub hl [0, 1, 2, 3] rfl)
  · rw [if_neg c5] at hF
    refine lv_iload_n hx hb dX6_turnBack_7 rfl (lv_at hl 0 rfl) ?_
    refine lv_iload_n hx hb dX6_turnBack_8 rfl (lv_at hl 3 rfl) ?_
    refine lv_imul hx hb dX6_turnBack_9 ?_
    obtain ⟨x6, ex6, hF⟩ := ltt_some hF
    refine lv_topi (fun zx6 ezx6 => ?_)
    obtain rfl : x6 = zx6 := ex6.trans ezx6.symm
    refine lv_istore (lv' := [(4, .int x6), (3, .int s2.1), (0, .ref (ad a)), (1, .int p0), (2, .int p1)]) hx hb dX6_turnBack_10 hl (by decide) rfl (fun ls hl => ?_)
    refine lv_aload_n hx hb dX6_turnBack_12 rfl (lv_at hl 2 rfl) ?_
    refine va_get (D := D) (ci := 6) (v := va_re ad (s2.2.2 a 6)) (C := RX6) (T := TX6) (N := 14) hx hb hts (by decide +kernel) hown hK hP a (wld_o ct ad G s2.2 hc hk (by decide)) rfl 6 (by decide) (hts (.fieldLink RX6 30 "VideoSuite$Samples" "rest" "[I") (by decide +kernel)) (fun _ h9 => h9) rfl dX6_turnBack_13 ?_
    refine lv_iload hx hb dX6_turnBack_16 (lv_at hl 0 rfl) ?_
    obtain ⟨b7, ho7, hc7, hk7, hF⟩ := dr_some hF
    refine W_st (st' := [.int x6, .ref (ad b7)]) (by rw [va_some ho7]) ?_
    obtain ⟨hvc, hF⟩ := chk_some hF
    refine va_iald hx hb hK hP b7 1 (wld_i ct ad G s2.2 hc7 hk7) rfl hvc dX6_turnBack_18 ?_
    obtain ⟨x8, ex8, hF⟩ := ltt_some hF
    refine lv_topi (fun zx8 ezx8 => ?_)
    obtain rfl : x8 = zx8 := ex8.trans ezx8.symm
    refine lv_aload_n hx hb dX6_turnBack_19 rfl (lv_at hl 2 rfl) ?_
    refine va_get (D := D) (ci := 6) (v := va_re ad (s2.2.2 a 6)) (C := RX6) (T := TX6) (N := 14) hx hb hts (by decide +kernel) hown hK hP a (wld_o ct ad G s2.2 hc hk (by decide)) rfl 6 (by decide) (hts (.fieldLink RX6 30 "VideoSuite$Samples" "rest" "[I") (by decide +kernel)) (fun _ h9 => h9) rfl dX6_turnBack_20 ?_
    refine lv_iload hx hb dX6_turnBack_23 (lv_at hl 0 rfl) ?_
    refine lv_iconst (v := (2 : Int32)) hx hb dX6_turnBack_25 (by decide) ?_
    refine lv_iload_n hx hb dX6_turnBack_26 rfl (lv_at hl 3 rfl) ?_
    refine lv_imul hx hb dX6_turnBack_27 ?_
    obtain ⟨x9, ex9, hF⟩ := ltt_some hF
    refine lv_topi (fun zx9 ezx9 => ?_)
    obtain rfl : x9 = zx9 := ex9.trans ezx9.symm
    refine lv_iadd hx hb dX6_turnBack_28 ?_
    obtain ⟨x10, ex10, hF⟩ := ltt_some hF
    refine lv_topi (fun zx10 ezx10 => ?_)
    obtain rfl : x10 = zx10 := ex10.trans ezx10.symm
    refine W_st (st' := [.int x10, .ref (ad b7), .int x8]) (by rw [va_some ho7]) ?_
    obtain ⟨hvc, hF⟩ := chk_some hF
    refine va_iald hx hb hK hP b7 1 (wld_i ct ad G s2.2 hc7 hk7) rfl hvc dX6_turnBack_29 ?_
    obtain ⟨x11, ex11, hF⟩ := ltt_some hF
    refine lv_topi (fun zx11 ezx11 => ?_)
    obtain rfl : x11 = zx11 := ex11.trans ezx11.symm
    refine lv_iadd hx hb dX6_turnBack_30 ?_
    obtain ⟨x12, ex12, hF⟩ := ltt_some hF
    refine lv_topi (fun zx12 ezx12 => ?_)
    obtain rfl : x12 = zx12 := ex12.trans ezx12.symm
    refine lv_istore (lv' := [(5, .int x12), (4, .int x6), (3, .int s2.1), (0, .ref (ad a)), (1, .int p0), (2, .int p1)]) hx hb dX6_turnBack_31 hl (by decide) rfl (fun ls hl => ?_)
    refine lv_aload_n hx hb dX6_turnBack_33 rfl (lv_at hl 3 rfl) ?_
    refine va_get (D := D) (ci := 6) (v := va_re ad (s2.2.2 a 6)) (C := RX6) (T := TX6) (N := 14) hx hb hts (by decide +kernel) hown hK hP a (wld_o ct ad G s2.2 hc hk (by decide)) rfl 6 (by decide) (hts (.fieldLink RX6 30 "VideoSuite$Samples" "rest" "[I") (by decide +kernel)) (fun _ h9 => h9) rfl dX6_turnBack_34 ?_
    refine lv_iload hx hb dX6_turnBack_37 (lv_at hl 1 rfl) ?_
    refine W_st (st' := [.int x6, .ref (ad b7)]) (by rw [va_some ho7]) ?_
    obtain ⟨hvc, hF⟩ := chk_some hF
    refine va_iald hx hb hK hP b7 1 (wld_i ct ad G s2.2 hc7 hk7) rfl hvc dX6_turnBack_39 ?_
    obtain ⟨x13, ex13, hF⟩ := ltt_some hF
    refine lv_topi (fun zx13 ezx13 => ?_)
    obtain rfl : x13 = zx13 := ex13.trans ezx13.symm
    refine lv_aload_n hx hb dX6_turnBack_40 rfl (lv_at hl 3 rfl) ?_
    refine va_get (D := D) (ci := 6) (v := va_re ad (s2.2.2 a 6)) (C := RX6) (T := TX6) (N := 14) hx hb hts (by decide +kernel) hown hK hP a (wld_o ct ad G s2.2 hc hk (by decide)) rfl 6 (by decide) (hts (.fieldLink RX6 30 "VideoSuite$Samples" "rest" "[I") (by decide +kernel)) (fun _ h9 => h9) rfl dX6_turnBack_41 ?_
    refine lv_iload hx hb dX6_turnBack_44 (lv_at hl 1 rfl) ?_
    refine lv_iconst (v := (2 : Int32)) hx hb dX6_turnBack_46 (by decide) ?_
    refine lv_iload_n hx hb dX6_turnBack_47 rfl (lv_at hl 4 rfl) ?_
    refine lv_imul hx hb dX6_turnBack_48 ?_
    obtain ⟨x14, ex14, hF⟩ := ltt_some hF
    refine lv_topi (fun zx14 ezx14 => ?_)
    obtain rfl : x14 = zx14 := ex14.trans ezx14.symm
    refine lv_iadd hx hb dX6_turnBack_49 ?_
    obtain ⟨x15, ex15, hF⟩ := ltt_some hF
    refine lv_topi (fun zx15 ezx15 => ?_)
    obtain rfl : x15 = zx15 := ex15.trans ezx15.symm
    refine W_st (st' := [.int x15, .ref (ad b7), .int x13]) (by rw [va_some ho7]) ?_
    obtain ⟨hvc, hF⟩ := chk_some hF
    refine va_iald hx hb hK hP b7 1 (wld_i ct ad G s2.2 hc7 hk7) rfl hvc dX6_turnBack_50 ?_
    obtain ⟨x16, ex16, hF⟩ := ltt_some hF
    refine lv_topi (fun zx16 ezx16 => ?_)
    obtain rfl : x16 = zx16 := ex16.trans ezx16.symm
    refine lv_isub hx hb dX6_turnBack_51 ?_
    obtain ⟨x17, ex17, hF⟩ := ltt_some hF
    refine lv_topi (fun zx17 ezx17 => ?_)
    obtain rfl : x17 = zx17 := ex17.trans ezx17.symm
    refine lv_istore (lv' := [(6, .int x17), (5, .int x12), (4, .int x6), (3, .int s2.1), (0, .ref (ad a)), (1, .int p0), (2, .int p1)]) hx hb dX6_turnBack_52 hl (by decide) rfl (fun ls hl => ?_)
    refine lv_aload_n hx hb dX6_turnBack_54 rfl (lv_at hl 4 rfl) ?_
    refine va_get (D := D) (ci := 6) (v := va_re ad (s2.2.2 a 6)) (C := RX6) (T := TX6) (N := 14) hx hb hts (by decide +kernel) hown hK hP a (wld_o ct ad G s2.2 hc hk (by decide)) rfl 6 (by decide) (hts (.fieldLink RX6 30 "VideoSuite$Samples" "rest" "[I") (by decide +kernel)) (fun _ h9 => h9) rfl dX6_turnBack_55 ?_
    refine lv_iload hx hb dX6_turnBack_58 (lv_at hl 2 rfl) ?_
    refine lv_iload_n hx hb dX6_turnBack_60 rfl (lv_at hl 5 rfl) ?_
    refine lv_iadd hx hb dX6_turnBack_61 ?_
    obtain ⟨x18, ex18, hF⟩ := ltt_some hF
    refine lv_topi (fun zx18 ezx18 => ?_)
    obtain rfl : x18 = zx18 := ex18.trans ezx18.symm
    refine W_st (st' := [.int x18, .ref (ad b7)]) (by rw [va_some ho7]) ?_
    obtain ⟨hvc, hF⟩ := chk_some hF
    refine va_iald hx hb hK hP b7 1 (wld_i ct ad G s2.2 hc7 hk7) rfl hvc dX6_turnBack_62 ?_
    obtain ⟨x19, ex19, hF⟩ := ltt_some hF
    refine lv_topi (fun zx19 ezx19 => ?_)
    obtain rfl : x19 = zx19 := ex19.trans ezx19.symm
    refine lv_iconst (v := (1 : Int32)) hx hb dX6_turnBack_63 (by decide) ?_
    refine lv_ishr hx hb dX6_turnBack_64 ?_
    obtain ⟨x20, ex20, hF⟩ := ltt_some hF
    refine lv_topi (fun zx20 ezx20 => ?_)
    obtain rfl : x20 = zx20 := ex20.trans ezx20.symm
    refine lv_aload_n hx hb dX6_turnBack_65 rfl (lv_at hl 4 rfl) ?_
    refine va_get (D := D) (ci := 6) (v := va_re ad (s2.2.2 a 6)) (C := RX6) (T := TX6) (N := 14) hx hb hts (by decide +kernel) hown hK hP a (wld_o ct ad G s2.2 hc hk (by decide)) rfl 6 (by decide) (hts (.fieldLink RX6 30 "VideoSuite$Samples" "rest" "[I") (by decide +kernel)) (fun _ h9 => h9) rfl dX6_turnBack_66 ?_
    refine lv_iload hx hb dX6_turnBack_69 (lv_at hl 2 rfl) ?_
    refine lv_iconst (v := (3 : Int32)) hx hb dX6_turnBack_71 (by decide) ?_
    refine lv_iload_n hx hb dX6_turnBack_72 rfl (lv_at hl 5 rfl) ?_
    refine lv_imul hx hb dX6_turnBack_73 ?_
    obtain ⟨x21, ex21, hF⟩ := ltt_some hF
    refine lv_topi (fun zx21 ezx21 => ?_)
    obtain rfl : x21 = zx21 := ex21.trans ezx21.symm
    refine lv_iadd hx hb dX6_turnBack_74 ?_
    obtain ⟨x22, ex22, hF⟩ := ltt_some hF
    refine lv_topi (fun zx22 ezx22 => ?_)
    obtain rfl : x22 = zx22 := ex22.trans ezx22.symm
    refine W_st (st' := [.int x22, .ref (ad b7), .int x20]) (by rw [va_some ho7]) ?_
    obtain ⟨hvc, hF⟩ := chk_some hF
    refine va_iald hx hb hK hP b7 1 (wld_i ct ad G s2.2 hc7 hk7) rfl hvc dX6_turnBack_75 ?_
    obtain ⟨x23, ex23, hF⟩ := ltt_some hF
    refine lv_topi (fun zx23 ezx23 => ?_)
    obtain rfl : x23 = zx23 := ex23.trans ezx23.symm
    refine lv_isub hx hb dX6_turnBack_76 ?_
    obtain ⟨x24, ex24, hF⟩ := ltt_some hF
    refine lv_topi (fun zx24 ezx24 => ?_)
    obtain rfl : x24 = zx24 := ex24.trans ezx24.symm
    refine lv_istore (lv' := [(7, .int x24), (6, .int x17), (5, .int x12), (4, .int x6), (3, .int s2.1), (0, .ref (ad a)), (1, .int p0), (2, .int p1)]) hx hb dX6_turnBack_77 hl (by decide) rfl (fun ls hl => ?_)
    refine lv_aload_n hx hb dX6_turnBack_79 rfl (lv_at hl 5 rfl) ?_
    refine va_get (D := D) (ci := 6) (v := va_re ad (s2.2.2 a 6)) (C := RX6) (T := TX6) (N := 14) hx hb hts (by decide +kernel) hown hK hP a (wld_o ct ad G s2.2 hc hk (by decide)) rfl 6 (by decide) (hts (.fieldLink RX6 30 "VideoSuite$Samples" "rest" "[I") (by decide +kernel)) (fun _ h9 => h9) rfl dX6_turnBack_80 ?_
    refine lv_iload hx hb dX6_turnBack_83 (lv_at hl 3 rfl) ?_
    refine lv_iload_n hx hb dX6_turnBack_85 rfl (lv_at hl 6 rfl) ?_
    refine lv_iadd hx hb dX6_turnBack_86 ?_
    obtain ⟨x25, ex25, hF⟩ := ltt_some hF
    refine lv_topi (fun zx25 ezx25 => ?_)
    obtain rfl : x25 = zx25 := ex25.trans ezx25.symm
    refine W_st (st' := [.int x25, .ref (ad b7)]) (by rw [va_some ho7]) ?_
    obtain ⟨hvc, hF⟩ := chk_some hF
    refine va_iald hx hb hK hP b7 1 (wld_i ct ad G s2.2 hc7 hk7) rfl hvc dX6_turnBack_87 ?_
    obtain ⟨x26, ex26, hF⟩ := ltt_some hF
    refine lv_topi (fun zx26 ezx26 => ?_)
    obtain rfl : x26 = zx26 := ex26.trans ezx26.symm
    refine lv_aload_n hx hb dX6_turnBack_88 rfl (lv_at hl 5 rfl) ?_
    refine va_get (D := D) (ci := 6) (v := va_re ad (s2.2.2 a 6)) (C := RX6) (T := TX6) (N := 14) hx hb hts (by decide +kernel) hown hK hP a (wld_o ct ad G s2.2 hc hk (by decide)) rfl 6 (by decide) (hts (.fieldLink RX6 30 "VideoSuite$Samples" "rest" "[I") (by decide +kernel)) (fun _ h9 => h9) rfl dX6_turnBack_89 ?_
    refine lv_iload hx hb dX6_turnBack_92 (lv_at hl 3 rfl) ?_
    refine lv_iconst (v := (3 : Int32)) hx hb dX6_turnBack_94 (by decide) ?_
    refine lv_iload_n hx hb dX6_turnBack_95 rfl (lv_at hl 6 rfl) ?_
    refine lv_imul hx hb dX6_turnBack_96 ?_
    obtain ⟨x27, ex27, hF⟩ := ltt_some hF
    refine lv_topi (fun zx27 ezx27 => ?_)
    obtain rfl : x27 = zx27 := ex27.trans ezx27.symm
    refine lv_iadd hx hb dX6_turnBack_97 ?_
    obtain ⟨x28, ex28, hF⟩ := ltt_some hF
    refine lv_topi (fun zx28 ezx28 => ?_)
    obtain rfl : x28 = zx28 := ex28.trans ezx28.symm
    refine W_st (st' := [.int x28, .ref (ad b7), .int x26]) (by rw [va_some ho7]) ?_
    obtain ⟨hvc, hF⟩ := chk_some hF
    refine va_iald hx hb hK hP b7 1 (wld_i ct ad G s2.2 hc7 hk7) rfl hvc dX6_turnBack_98 ?_
    obtain ⟨x29, ex29, hF⟩ := ltt_some hF
    refine lv_topi (fun zx29 ezx29 => ?_)
    obtain rfl : x29 = zx29 := ex29.trans ezx29.symm
    refine lv_iconst (v := (1 : Int32)) hx hb dX6_turnBack_99 (by decide) ?_
    refine lv_ishr hx hb dX6_turnBack_100 ?_
    obtain ⟨x30, ex30, hF⟩ := ltt_some hF
    refine lv_topi (fun zx30 ezx30 => ?_)
    obtain rfl : x30 = zx30 := ex30.trans ezx30.symm
    refine lv_iadd hx hb dX6_turnBack_101 ?_
    obtain ⟨x31, ex31, hF⟩ := ltt_some hF
    refine lv_topi (fun zx31 ezx31 => ?_)
    obtain rfl : x31 = zx31 := ex31.trans ezx31.symm
    refine lv_istore (lv' := [(8, .int x31), (7, .int x24), (6, .int x17), (5, .int x12), (4, .int x6), (3, .int s2.1), (0, .ref (ad a)), (1, .int p0), (2, .int p1)]) hx hb dX6_turnBack_102 hl (by decide) rfl (fun ls hl => ?_)
    refine lv_aload_n hx hb dX6_turnBack_104 rfl (lv_at hl 6 rfl) ?_
    refine va_get (D := D) (ci := 6) (v := va_re ad (s2.2.2 a 6)) (C := RX6) (T := TX6) (N := 14) hx hb hts (by decide +kernel) hown hK hP a (wld_o ct ad G s2.2 hc hk (by decide)) rfl 6 (by decide) (hts (.fieldLink RX6 30 "VideoSuite$Samples" "rest" "[I") (by decide +kernel)) (fun _ h9 => h9) rfl dX6_turnBack_105 ?_
    refine lv_iload hx hb dX6_turnBack_108 (lv_at hl 4 rfl) ?_
    refine lv_iload hx hb dX6_turnBack_110 (lv_at hl 3 rfl) ?_
    refine lv_iload hx hb dX6_turnBack_112 (lv_at hl 0 rfl) ?_
    refine lv_iadd hx hb dX6_turnBack_114 ?_
    obtain ⟨x32, ex32, hF⟩ := ltt_some hF
    refine lv_topi (fun zx32 ezx32 => ?_)
    obtain rfl : x32 = zx32 := ex32.trans ezx32.symm
    refine W_st (st' := [.int x32, .int x6, .ref (ad b7)]) (by rw [va_some ho7]) ?_
    obtain ⟨hvc, hF⟩ := chk_some hF
    refine va_iast hx hb hK hP hD hS b7 1 (wld_i ct ad G s2.2 hc7 hk7) rfl hvc dX6_turnBack_115 (fun H locs hP hD hS => ?_)
    obtain ⟨M33, eM33, hF⟩ := ltt_some hF
    rw [set_i ct ad G s2.2 hc7 hk7, ← eM33] at hP hD
    refine lv_aload_n hx hb dX6_turnBack_116 rfl (lv_at hl 6 rfl) ?_
    refine va_get (D := D) (ci := 6) (v := va_re ad (M33.2 a 6)) (C := RX6) (T := TX6) (N := 14) hx hb hts (by decide +kernel) hown hK hP a (wld_o ct ad G M33 hc hk (by decide)) rfl 6 (by decide) (hts (.fieldLink RX6 30 "VideoSuite$Samples" "rest" "[I") (by decide +kernel)) (fun _ h9 => h9) rfl dX6_turnBack_117 ?_
    refine lv_iload hx hb dX6_turnBack_120 (lv_at hl 4 rfl) ?_
    refine lv_iload_n hx hb dX6_turnBack_122 rfl (lv_at hl 7 rfl) ?_
    refine lv_iadd hx hb dX6_turnBack_123 ?_
    obtain ⟨x34, ex34, hF⟩ := ltt_some hF
    refine lv_topi (fun zx34 ezx34 => ?_)
    obtain rfl : x34 = zx34 := ex34.trans ezx34.symm
    refine lv_iload hx hb dX6_turnBack_124 (lv_at hl 2 rfl) ?_
    refine lv_iload hx hb dX6_turnBack_126 (lv_at hl 1 rfl) ?_
    refine lv_iadd hx hb dX6_turnBack_128 ?_
    obtain ⟨x35, ex35, hF⟩ := ltt_some hF
    refine lv_topi (fun zx35 ezx35 => ?_)
    obtain rfl : x35 = zx35 := ex35.trans ezx35.symm
    obtain ⟨b36, ho36, hc36, hk36, hF⟩ := dr_some hF
    refine W_st (st' := [.int x35, .int x34, .ref (ad b36)]) (by rw [va_some ho36]) ?_
    obtain ⟨hvc, hF⟩ := chk_some hF
    refine va_iast hx hb hK hP hD hS b36 1 (wld_i ct ad G M33 hc36 hk36) rfl hvc dX6_turnBack_129 (fun H locs hP hD hS => ?_)
    obtain ⟨M37, eM37, hF⟩ := ltt_some hF
    rw [set_i ct ad G M33 hc36 hk36, ← eM37] at hP hD
    refine lv_aload_n hx hb dX6_turnBack_130 rfl (lv_at hl 6 rfl) ?_
    refine va_get (D := D) (ci := 6) (v := va_re ad (M37.2 a 6)) (C := RX6) (T := TX6) (N := 14) hx hb hts (by decide +kernel) hown hK hP a (wld_o ct ad G M37 hc hk (by decide)) rfl 6 (by decide) (hts (.fieldLink RX6 30 "VideoSuite$Samples" "rest" "[I") (by decide +kernel)) (fun _ h9 => h9) rfl dX6_turnBack_131 ?_
    refine lv_iload hx hb dX6_turnBack_134 (lv_at hl 4 rfl) ?_
    refine lv_iconst (v := (2 : Int32)) hx hb dX6_turnBack_136 (by decide) ?_
    refine lv_iload_n hx hb dX6_turnBack_137 rfl (lv_at hl 7 rfl) ?_
    refine lv_imul hx hb dX6_turnBack_138 ?_
    obtain ⟨x38, ex38, hF⟩ := ltt_some hF
    refine lv_topi (fun zx38 ezx38 => ?_)
    obtain rfl : x38 = zx38 := ex38.trans ezx38.symm
    refine lv_iadd hx hb dX6_turnBack_139 ?_
    obtain ⟨x39, ex39, hF⟩ := ltt_some hF
    refine lv_topi (fun zx39 ezx39 => ?_)
    obtain rfl : x39 = zx39 := ex39.trans ezx39.symm
    refine lv_iload hx hb dX6_turnBack_140 (lv_at hl 2 rfl) ?_
    refine lv_iload hx hb dX6_turnBack_142 (lv_at hl 1 rfl) ?_
    refine lv_isub hx hb dX6_turnBack_144 ?_
    obtain ⟨x40, ex40, hF⟩ := ltt_some hF
    refine lv_topi (fun zx40 ezx40 => ?_)
    obtain rfl : x40 = zx40 := ex40.trans ezx40.symm
    obtain ⟨b41, ho41, hc41, hk41, hF⟩ := dr_some hF
    refine W_st (st' := [.int x40, .int x39, .ref (ad b41)]) (by rw [va_some ho41]) ?_
    obtain ⟨hvc, hF⟩ := chk_some hF
    refine va_iast hx hb hK hP hD hS b41 1 (wld_i ct ad G M37 hc41 hk41) rfl hvc dX6_turnBack_145 (fun H locs hP hD hS => ?_)
    obtain ⟨M42, eM42, hF⟩ := ltt_some hF
    rw [set_i ct ad G M37 hc41 hk41, ← eM42] at hP hD
    refine lv_aload_n hx hb dX6_turnBack_146 rfl (lv_at hl 6 rfl) ?_
    refine va_get (D := D) (ci := 6) (v := va_re ad (M42.2 a 6)) (C := RX6) (T := TX6) (N := 14) hx hb hts (by decide +kernel) hown hK hP a (wld_o ct ad G M42 hc hk (by decide)) rfl 6 (by decide) (hts (.fieldLink RX6 30 "VideoSuite$Samples" "rest" "[I") (by decide +kernel)) (fun _ h9 => h9) rfl dX6_turnBack_147 ?_
    refine lv_iload hx hb dX6_turnBack_150 (lv_at hl 4 rfl) ?_
    refine lv_iconst (v := (3 : Int32)) hx hb dX6_turnBack_152 (by decide) ?_
    refine lv_iload_n hx hb dX6_turnBack_153 rfl (lv_at hl 7 rfl) ?_
    refine lv_imul hx hb dX6_turnBack_154 ?_
    obtain ⟨x43, ex43, hF⟩ := ltt_some hF
    refine lv_topi (fun zx43 ezx43 => ?_)
    obtain rfl : x43 = zx43 := ex43.trans ezx43.symm
    refine lv_iadd hx hb dX6_turnBack_155 ?_
    obtain ⟨x44, ex44, hF⟩ := ltt_some hF
    refine lv_topi (fun zx44 ezx44 => ?_)
    obtain rfl : x44 = zx44 := ex44.trans ezx44.symm
    refine lv_iload hx hb dX6_turnBack_156 (lv_at hl 3 rfl) ?_
    refine lv_iload hx hb dX6_turnBack_158 (lv_at hl 0 rfl) ?_
    refine lv_isub hx hb dX6_turnBack_160 ?_
    obtain ⟨x45, ex45, hF⟩ := ltt_some hF
    refine lv_topi (fun zx45 ezx45 => ?_)
    obtain rfl : x45 = zx45 := ex45.trans ezx45.symm
    obtain ⟨b46, ho46, hc46, hk46, hF⟩ := dr_some hF
    refine W_st (st' := [.int x45, .int x44, .ref (ad b46)]) (by rw [va_some ho46]) ?_
    obtain ⟨hvc, hF⟩ := chk_some hF
    refine va_iast hx hb hK hP hD hS b46 1 (wld_i ct ad G M42 hc46 hk46) rfl hvc dX6_turnBack_161 (fun H locs hP hD hS => ?_)
    obtain ⟨M47, eM47, hF⟩ := ltt_some hF
    rw [set_i ct ad G M42 hc46 hk46, ← eM47] at hP hD
    obtain ⟨x48, ex48, hF⟩ := ltt_some hF
    refine lv_iinc (v := x48) (lv' := [(3, .int x48), (8, .int x31), (7, .int x24), (6, .int x17), (5, .int x12), (4, .int x6), (0, .ref (ad a)), (1, .int p0), (2, .int p1)]) hx hb dX6_turnBack_162 hl (k := 5) rfl (by rw [ex48]; rfl) (by decide) rfl (fun ls hl => ?_)
    refine lv_goto (tgt := 2) hx hb dX6_turnBack_165 (by decide) ?_
    obtain rfl := Option.some.inj hF
    exact hwz4 _ _ _ hP hD hS (lv_sub hl [0, 6, 7, 8] rfl)
theorem dX6_turnEven_0 : decode cX6_turnEven 0 = .ok (.iconst 0, 1) := by decide +kernel
theorem dX6_turnEven_1 : decode cX6_turnEven 1 = .ok (.istore_n 1, 1) := by decide +kernel
theorem dX6_turnEven_2 : decode cX6_turnEven 2 = .ok (.iload_n 1, 1) := by decide +kernel
theorem dX6_turnEven_3 : decode cX6_turnEven 3 = .ok (.iconst 2, 1) := by decide +kernel
theorem dX6_turnEven_4 : decode cX6_turnEven 4 = .ok (.if_icmp .ge 191, 3) := by decide +kernel
theorem dX6_turnEven_7 : decode cX6_turnEven 7 = .ok (.iconst 0, 1) := by decide +kernel
theorem dX6_turnEven_8 : decode cX6_turnEven 8 = .ok (.istore_n 2, 1) := by decide +kernel
theorem dX6_turnEven_9 : decode cX6_turnEven 9 = .ok (.iload_n 2, 1) := by decide +kernel
theorem dX6_turnEven_10 : decode cX6_turnEven 10 = .ok (.iconst 4, 1) := by decide +kernel
theorem dX6_turnEven_11 : decode cX6_turnEven 11 = .ok (.if_icmp .ge 178, 3) := by decide +kernel
theorem dX6_turnEven_14 : decode cX6_turnEven 14 = .ok (.iload_n 1, 1) := by decide +kernel
theorem dX6_turnEven_15 : decode cX6_turnEven 15 = .ok (.ifCond .ne 7, 3) := by decide +kernel
theorem dX6_turnEven_18 : decode cX6_turnEven 18 = .ok (.iconst 1, 1) := by decide +kernel
theorem dX6_turnEven_19 : decode cX6_turnEven 19 = .ok (.goto 4, 3) := by decide +kernel
theorem dX6_turnEven_22 : decode cX6_turnEven 22 = .ok (.iconst 4, 1) := by decide +kernel
theorem dX6_turnEven_23 : decode cX6_turnEven 23 = .ok (.istore_n 3, 1) := by decide +kernel
theorem dX6_turnEven_24 : decode cX6_turnEven 24 = .ok (.iload_n 1, 1) := by decide +kernel
theorem dX6_turnEven_25 : decode cX6_turnEven 25 = .ok (.ifCond .ne 9, 3) := by decide +kernel
theorem dX6_turnEven_28 : decode cX6_turnEven 28 = .ok (.iconst 4, 1) := by decide +kernel
theorem dX6_turnEven_29 : decode cX6_turnEven 29 = .ok (.iload_n 2, 1) := by decide +kernel
theorem dX6_turnEven_30 : decode cX6_turnEven 30 = .ok (.imul, 1) := by decide +kernel
theorem dX6_turnEven_31 : decode cX6_turnEven 31 = .ok (.goto 4, 3) := by decide +kernel
theorem dX6_turnEven_34 : decode cX6_turnEven 34 = .ok (.iload_n 2, 1) := by decide +kernel
theorem dX6_turnEven_35 : decode cX6_turnEven 35 = .ok (.istore 4, 2) := by decide +kernel
theorem dX6_turnEven_37 : decode cX6_turnEven 37 = .ok (.aload_n 0, 1) := by decide +kernel
theorem dX6_turnEven_38 : decode cX6_turnEven 38 = .ok (.getfield 33, 3) := by decide +kernel
theorem dX6_turnEven_41 : decode cX6_turnEven 41 = .ok (.iload 4, 2) := by decide +kernel
theorem dX6_turnEven_43 : decode cX6_turnEven 43 = .ok (.iaload, 1) := by decide +kernel
theorem dX6_turnEven_44 : decode cX6_turnEven 44 = .ok (.aload_n 0, 1) := by decide +kernel
theorem dX6_turnEven_45 : decode cX6_turnEven 45 = .ok (.getfield 33, 3) := by decide +kernel
theorem dX6_turnEven_48 : decode cX6_turnEven 48 = .ok (.iload 4, 2) := by decide +kernel
theorem dX6_turnEven_50 : decode cX6_turnEven 50 = .ok (.iload_n 3, 1) := by decide +kernel
theorem dX6_turnEven_51 : decode cX6_turnEven 51 = .ok (.iadd, 1) := by decide +kernel
theorem dX6_turnEven_52 : decode cX6_turnEven 52 = .ok (.iaload, 1) := by decide +kernel
theorem dX6_turnEven_53 : decode cX6_turnEven 53 = .ok (.iadd, 1) := by decide +kernel
theorem dX6_turnEven_54 : decode cX6_turnEven 54 = .ok (.istore 5, 2) := by decide +kernel
theorem dX6_turnEven_56 : decode cX6_turnEven 56 = .ok (.aload_n 0, 1) := by decide +kernel
theorem dX6_turnEven_57 : decode cX6_turnEven 57 = .ok (.getfield 33, 3) := by decide +kernel
theorem dX6_turnEven_60 : decode cX6_turnEven 60 = .ok (.iload 4, 2) := by decide +kernel
theorem dX6_turnEven_62 : decode cX6_turnEven 62 = .ok (.iaload, 1) := by decide +kernel
theorem dX6_turnEven_63 : decode cX6_turnEven 63 = .ok (.aload_n 0, 1) := by decide +kernel
theorem dX6_turnEven_64 : decode cX6_turnEven 64 = .ok (.getfield 33, 3) := by decide +kernel
theorem dX6_turnEven_67 : decode cX6_turnEven 67 = .ok (.iload 4, 2) := by decide +kernel
theorem dX6_turnEven_69 : decode cX6_turnEven 69 = .ok (.iload_n 3, 1) := by decide +kernel
theorem dX6_turnEven_70 : decode cX6_turnEven 70 = .ok (.iadd, 1) := by decide +kernel
theorem dX6_turnEven_71 : decode cX6_turnEven 71 = .ok (.iaload, 1) := by decide +kernel
theorem dX6_turnEven_72 : decode cX6_turnEven 72 = .ok (.isub, 1) := by decide +kernel
theorem dX6_turnEven_73 : decode cX6_turnEven 73 = .ok (.istore 6, 2) := by decide +kernel
theorem dX6_turnEven_75 : decode cX6_turnEven 75 = .ok (.aload_n 0, 1) := by decide +kernel
theorem dX6_turnEven_76 : decode cX6_turnEven 76 = .ok (.getfield 33, 3) := by decide +kernel
theorem dX6_turnEven_79 : decode cX6_turnEven 79 = .ok (.iload 4, 2) := by decide +kernel
theorem dX6_turnEven_81 : decode cX6_turnEven 81 = .ok (.iconst 2, 1) := by decide +kernel
theorem dX6_turnEven_82 : decode cX6_turnEven 82 = .ok (.iload_n 3, 1) := by decide +kernel
theorem dX6_turnEven_83 : decode cX6_turnEven 83 = .ok (.imul, 1) := by decide +kernel
theorem dX6_turnEven_84 : decode cX6_turnEven 84 = .ok (.iadd, 1) := by decide +kernel
theorem dX6_turnEven_85 : decode cX6_turnEven 85 = .ok (.iaload, 1) := by decide +kernel
theorem dX6_turnEven_86 : decode cX6_turnEven 86 = .ok (.aload_n 0, 1) := by decide +kernel
theorem dX6_turnEven_87 : decode cX6_turnEven 87 = .ok (.getfield 33, 3) := by decide +kernel
theorem dX6_turnEven_90 : decode cX6_turnEven 90 = .ok (.iload 4, 2) := by decide +kernel
theorem dX6_turnEven_92 : decode cX6_turnEven 92 = .ok (.iconst 3, 1) := by decide +kernel
theorem dX6_turnEven_93 : decode cX6_turnEven 93 = .ok (.iload_n 3, 1) := by decide +kernel
theorem dX6_turnEven_94 : decode cX6_turnEven 94 = .ok (.imul, 1) := by decide +kernel
theorem dX6_turnEven_95 : decode cX6_turnEven 95 = .ok (.iadd, 1) := by decide +kernel
theorem dX6_turnEven_96 : decode cX6_turnEven 96 = .ok (.iaload, 1) := by decide +kernel
theorem dX6_turnEven_97 : decode cX6_turnEven 97 = .ok (.iadd, 1) := by decide +kernel
theorem dX6_turnEven_98 : decode cX6_turnEven 98 = .ok (.istore 7, 2) := by decide +kernel
theorem dX6_turnEven_100 : decode cX6_turnEven 100 = .ok (.aload_n 0, 1) := by decide +kernel
theorem dX6_turnEven_101 : decode cX6_turnEven 101 = .ok (.getfield 33, 3) := by decide +kernel
theorem dX6_turnEven_104 : decode cX6_turnEven 104 = .ok (.iload 4, 2) := by decide +kernel
theorem dX6_turnEven_106 : decode cX6_turnEven 106 = .ok (.iconst 2, 1) := by decide +kernel
theorem dX6_turnEven_107 : decode cX6_turnEven 107 = .ok (.iload_n 3, 1) := by decide +kernel
theorem dX6_turnEven_108 : decode cX6_turnEven 108 = .ok (.imul, 1) := by decide +kernel
theorem dX6_turnEven_109 : decode cX6_turnEven 109 = .ok (.iadd, 1) := by decide +kernel
theorem dX6_turnEven_110 : decode cX6_turnEven 110 = .ok (.iaload, 1) := by decide +kernel
theorem dX6_turnEven_111 : decode cX6_turnEven 111 = .ok (.aload_n 0, 1) := by decide +kernel
theorem dX6_turnEven_112 : decode cX6_turnEven 112 = .ok (.getfield 33, 3) := by decide +kernel
theorem dX6_turnEven_115 : decode cX6_turnEven 115 = .ok (.iload 4, 2) := by decide +kernel
theorem dX6_turnEven_117 : decode cX6_turnEven 117 = .ok (.iconst 3, 1) := by decide +kernel
theorem dX6_turnEven_118 : decode cX6_turnEven 118 = .ok (.iload_n 3, 1) := by decide +kernel
theorem dX6_turnEven_119 : decode cX6_turnEven 119 = .ok (.imul, 1) := by decide +kernel
theorem dX6_turnEven_120 : decode cX6_turnEven 120 = .ok (.iadd, 1) := by decide +kernel
theorem dX6_turnEven_121 : decode cX6_turnEven 121 = .ok (.iaload, 1) := by decide +kernel
theorem dX6_turnEven_122 : decode cX6_turnEven 122 = .ok (.isub, 1) := by decide +kernel
theorem dX6_turnEven_123 : decode cX6_turnEven 123 = .ok (.istore 8, 2) := by decide +kernel
theorem dX6_turnEven_125 : decode cX6_turnEven 125 = .ok (.aload_n 0, 1) := by decide +kernel
theorem dX6_turnEven_126 : decode cX6_turnEven 126 = .ok (.getfield 33, 3) := by decide +kernel
theorem dX6_turnEven_129 : decode cX6_turnEven 129 = .ok (.iload 4, 2) := by decide +kernel
theorem dX6_turnEven_131 : decode cX6_turnEven 131 = .ok (.iload 5, 2) := by decide +kernel
theorem dX6_turnEven_133 : decode cX6_turnEven 133 = .ok (.iload 7, 2) := by decide +kernel
theorem dX6_turnEven_135 : decode cX6_turnEven 135 = .ok (.iadd, 1) := by decide +kernel
theorem dX6_turnEven_136 : decode cX6_turnEven 136 = .ok (.iastore, 1) := by decide +kernel
theorem dX6_turnEven_137 : decode cX6_turnEven 137 = .ok (.aload_n 0, 1) := by decide +kernel
theorem dX6_turnEven_138 : decode cX6_turnEven 138 = .ok (.getfield 33, 3) := by decide +kernel
theorem dX6_turnEven_141 : decode cX6_turnEven 141 = .ok (.iload 4, 2) := by decide +kernel
theorem dX6_turnEven_143 : decode cX6_turnEven 143 = .ok (.iload_n 3, 1) := by decide +kernel
theorem dX6_turnEven_144 : decode cX6_turnEven 144 = .ok (.iadd, 1) := by decide +kernel
theorem dX6_turnEven_145 : decode cX6_turnEven 145 = .ok (.iload 5, 2) := by decide +kernel
theorem dX6_turnEven_147 : decode cX6_turnEven 147 = .ok (.iload 7, 2) := by decide +kernel
theorem dX6_turnEven_149 : decode cX6_turnEven 149 = .ok (.isub, 1) := by decide +kernel
theorem dX6_turnEven_150 : decode cX6_turnEven 150 = .ok (.iastore, 1) := by decide +kernel
theorem dX6_turnEven_151 : decode cX6_turnEven 151 = .ok (.aload_n 0, 1) := by decide +kernel
theorem dX6_turnEven_152 : decode cX6_turnEven 152 = .ok (.getfield 33, 3) := by decide +kernel
theorem dX6_turnEven_155 : decode cX6_turnEven 155 = .ok (.iload 4, 2) := by decide +kernel
theorem dX6_turnEven_157 : decode cX6_turnEven 157 = .ok (.iconst 2, 1) := by decide +kernel
theorem dX6_turnEven_158 : decode cX6_turnEven 158 = .ok (.iload_n 3, 1) := by decide +kernel
theorem dX6_turnEven_159 : decode cX6_turnEven 159 = .ok (.imul, 1) := by decide +kernel
theorem dX6_turnEven_160 : decode cX6_turnEven 160 = .ok (.iadd, 1) := by decide +kernel
theorem dX6_turnEven_161 : decode cX6_turnEven 161 = .ok (.iload 6, 2) := by decide +kernel
theorem dX6_turnEven_163 : decode cX6_turnEven 163 = .ok (.iload 8, 2) := by decide +kernel
theorem dX6_turnEven_165 : decode cX6_turnEven 165 = .ok (.isub, 1) := by decide +kernel
theorem dX6_turnEven_166 : decode cX6_turnEven 166 = .ok (.iastore, 1) := by decide +kernel
theorem dX6_turnEven_167 : decode cX6_turnEven 167 = .ok (.aload_n 0, 1) := by decide +kernel
theorem dX6_turnEven_168 : decode cX6_turnEven 168 = .ok (.getfield 33, 3) := by decide +kernel
theorem dX6_turnEven_171 : decode cX6_turnEven 171 = .ok (.iload 4, 2) := by decide +kernel
theorem dX6_turnEven_173 : decode cX6_turnEven 173 = .ok (.iconst 3, 1) := by decide +kernel
theorem dX6_turnEven_174 : decode cX6_turnEven 174 = .ok (.iload_n 3, 1) := by decide +kernel
theorem dX6_turnEven_175 : decode cX6_turnEven 175 = .ok (.imul, 1) := by decide +kernel
theorem dX6_turnEven_176 : decode cX6_turnEven 176 = .ok (.iadd, 1) := by decide +kernel
theorem dX6_turnEven_177 : decode cX6_turnEven 177 = .ok (.iload 6, 2) := by decide +kernel
theorem dX6_turnEven_179 : decode cX6_turnEven 179 = .ok (.iload 8, 2) := by decide +kernel
theorem dX6_turnEven_181 : decode cX6_turnEven 181 = .ok (.iadd, 1) := by decide +kernel
theorem dX6_turnEven_182 : decode cX6_turnEven 182 = .ok (.iastore, 1) := by decide +kernel
theorem dX6_turnEven_183 : decode cX6_turnEven 183 = .ok (.iinc 2 1, 3) := by decide +kernel
theorem dX6_turnEven_186 : decode cX6_turnEven 186 = .ok (.goto (-177), 3) := by decide +kernel
theorem dX6_turnEven_189 : decode cX6_turnEven 189 = .ok (.iinc 1 1, 3) := by decide +kernel
theorem dX6_turnEven_192 : decode cX6_turnEven 192 = .ok (.goto (-190), 3) := by decide +kernel
theorem dX6_turnEven_195 : decode cX6_turnEven 195 = .ok (.return_, 1) := by decide +kernel
def FX6_turnEven (G : GG) (M : DD) (a : Nat)  : Option (DD) :=
  bnd (itr (fun (s2 : Int32 × DD) => ((if ((2 : Int32)) ≤ s2.1 then (some (.inr (s2.1, s2.2))) else
  (bnd (itr (fun (s7 : Int32 × DD) => ((if ((4 : Int32)) ≤ s7.1 then (some (.inr (s7.1, s7.2))) else
  (bnd (if s2.1 = ((0 : Int32)) then (some ((1 : Int32))) else
  (some ((4 : Int32)))) fun (y12 : Int32) =>
  bnd (if s2.1 = ((0 : Int32)) then (ltt ((((4 : Int32)) * s7.1)) fun x55 =>
  some (x55)) else
  (some (s7.1))) fun (y13 : Int32) =>
  dr G 13 ((s7.2.2 a 7)) fun b14 =>
  chk (¬ (y13 < 0 ∨ G.2.2 b14 ≤ y13.toNatClampNeg)) <|
  ltt (s7.2.1 b14 y13.toNatClampNeg) fun x15 =>
  ltt ((y13 + y12)) fun x16 =>
  chk (¬ (x16 < 0 ∨ G.2.2 b14 ≤ x16.toNatClampNeg)) <|
  ltt (s7.2.1 b14 x16.toNatClampNeg) fun x17 =>
  ltt ((x15 + x17)) fun x18 =>
  chk (¬ (y13 < 0 ∨ G.2.2 b14 ≤ y13.toNatClampNeg)) <|
  ltt (s7.2.1 b14 y13.toNatClampNeg) fun x19 =>
  ltt ((y13 + y12)) fun x20 =>
  chk (¬ (x20 < 0 ∨ G.2.2 b14 ≤ x20.toNatClampNeg)) <|
  ltt (s7.2.1 b14 x20.toNatClampNeg) fun x21 =>
  ltt ((x19 - x21)) fun x22 =>
  ltt ((((2 : Int32)) * y12)) fun x23 =>
  ltt ((y13 + x23)) fun x24 =>
  chk (¬ (x24 < 0 ∨ G.2.2 b14 ≤ x24.toNatClampNeg)) <|
  ltt (s7.2.1 b14 x24.toNatClampNeg) fun x25 =>
  ltt ((((3 : Int32)) * y12)) fun x26 =>
  ltt ((y13 + x26)) fun x27 =>
  chk (¬ (x27 < 0 ∨ G.2.2 b14 ≤ x27.toNatClampNeg)) <|
  ltt (s7.2.1 b14 x27.toNatClampNeg) fun x28 =>
  ltt ((x25 + x28)) fun x29 =>
  ltt ((((2 : Int32)) * y12)) fun x30 =>
  ltt ((y13 + x30)) fun x31 =>
  chk (¬ (x31 < 0 ∨ G.2.2 b14 ≤ x31.toNatClampNeg)) <|
  ltt (s7.2.1 b14 x31.toNatClampNeg) fun x32 =>
  ltt ((((3 : Int32)) * y12)) fun x33 =>
  ltt ((y13 + x33)) fun x34 =>
  chk (¬ (x34 < 0 ∨ G.2.2 b14 ≤ x34.toNatClampNeg)) <|
  ltt (s7.2.1 b14 x34.toNatClampNeg) fun x35 =>
  ltt ((x32 - x35)) fun x36 =>
  ltt ((x18 + x29)) fun x37 =>
  chk (¬ (y13 < 0 ∨ G.2.2 b14 ≤ y13.toNatClampNeg)) <|
  ltt (uI s7.2 b14 y13.toNatClampNeg x37) fun M38 =>
  ltt ((y13 + y12)) fun x39 =>
  ltt ((x18 - x29)) fun x40 =>
  dr G 13 ((M38.2 a 7)) fun b41 =>
  chk (¬ (x39 < 0 ∨ G.2.2 b41 ≤ x39.toNatClampNeg)) <|
  ltt (uI M38 b41 x39.toNatClampNeg x40) fun M42 =>
  ltt ((((2 : Int32)) * y12)) fun x43 =>
  ltt ((y13 + x43)) fun x44 =>
  ltt ((x22 - x36)) fun x45 =>
  dr G 13 ((M42.2 a 7)) fun b46 =>
  chk (¬ (x44 < 0 ∨ G.2.2 b46 ≤ x44.toNatClampNeg)) <|
  ltt (uI M42 b46 x44.toNatClampNeg x45) fun M47 =>
  ltt ((((3 : Int32)) * y12)) fun x48 =>
  ltt ((y13 + x48)) fun x49 =>
  ltt ((x22 + x36)) fun x50 =>
  dr G 13 ((M47.2 a 7)) fun b51 =>
  chk (¬ (x49 < 0 ∨ G.2.2 b51 ≤ x49.toNatClampNeg)) <|
  ltt (uI M47 b51 x49.toNatClampNeg x50) fun M52 =>
  ltt (s7.1 + (1 : Int32)) fun x53 =>
  some (.inl (x53, M52)))) : Option ((Int32 × DD) ⊕ (Int32 × DD)))) 1000000 ((0 : Int32), s2.2)) fun (y6 : Int32 × DD) =>
  ltt (s2.1 + (1 : Int32)) fun x9 =>
  some (.inl (x9, y6.2)))) : Option ((Int32 × DD) ⊕ (Int32 × DD)))) 1000000 ((0 : Int32), M)) fun (y1 : Int32 × DD) =>
  some y1.2
set_option maxHeartbeats 4000000 in
set_option maxRecDepth 100000 in
theorem kX6_turnEven (l : Launch) (D : va_G) (ct : CT) (ad : Nat → Nat) (Z : Nat → Nat) (G : GG) (M : DD) (sz : Nat) (a : Nat)  (y : DD) (hc : a < G.1) (hk : G.2.1 a = 6) (hF : FX6_turnEven G M a  = some y) : Met l yX6_turnEven wsX6_turnEven ({ frames := 0, cells := 0, slots := 0, locals := 0 }) (va_Pc [.ref (ad a)] (kB D ct ad Z G M sz)) (va_Qv (fun (_ : Unit) => True) (fun _ t => kE D ct ad G (wA ad G sz) y t) (wA ad G sz)) 0 0 (wA ad G sz) := by
  refine Met.ofW (cc := cX6_turnEven) (maxL := 9) (ret := none) (by decide) rfl ?_
  intro p e s m args below meth c s₁ B hml hv
  obtain ⟨rfl, hsz, hP, hK, hD0, hZ, hN⟩ := hv
  have hx := B.exec
  have hb := B.bytes
  have hr := B.returns
  have hts := atoms_spec (ws := wsX6_turnEven) B.pre
  have hown : s.vm.findClass RX6 = some m.cls := findClass_of_methodNamed B.named
  have hlocks := B.notSynchronized
  subst hsz
  have hD := wD_self (sz := s.heap.size) hD0
  have hA9 : ∀ q, s.heap.size ≤ q → wA ad G s.heap.size q := fun q h => Or.inr h
  generalize hAe : wA ad G s.heap.size = A at hD hA9 hZ ⊢
  have hS : va_S A s.heap s.heap [] := va_S.rf
  have hl := lv_entry ([.ref (ad a)]) (n := 9) (Nat.le_of_ble_eq_true rfl)
  rw [lg_entry_eq]
  generalize (lg_sl ([.ref (ad a)]) ++ List.replicate (9 - (lg_sl ([.ref (ad a)])).length) Slot.unset).toArray = ls at hl ⊢
  have hl : lv_has ls 9 [(0, .ref (ad a))] := hl
  unfold FX6_turnEven at hF
  refine lv_iconst (v := (0 : Int32)) hx hb dX6_turnEven_0 (by decide) ?_
  refine lv_istore_n (lv' := [(1, .int (0 : Int32)), (0, .ref (ad a))]) hx hb dX6_turnEven_1 rfl hl (by decide) rfl (fun ls hl => ?_)
  obtain ⟨y1, hy1, hF⟩ := bnd_some hF
  have K1 : ∀ (H : Heap) (locs : List Loc) (ls : Array Slot), va_P D classes (wld ct ad G y1.2) H → va_D A (wld ct ad G y1.2) → va_S A s.heap H locs → lv_has ls 9 [(1, .int y1.1), (0, .ref (ad a))] → W p l e (headSpec wsX6_turnEven ({ frames := 0, cells := 0, slots := 0, locals := 0 })).room s m ([.ref (ad a)] : List Value).toArray below meth c H locs 0 0 (MQ below (va_Qv (fun (_ : Unit) => True) (fun _ t => kE D ct ad G A y t) A) ([.ref (ad a)] : List Value).toArray s 0 0 A) (F0 m 195 ls []) := by
    intro H locs ls hP hD hS hl
    obtain rfl := Option.some.inj hF
    exact W.vret hx hb hr (fun t ht hW => ⟨⟨(), rfl, trivial, ⟨by rw [ht]; exact hP, va_K.moved hW.alike hK, hD⟩⟩, hS.F ht⟩) hS.2.2 dX6_turnEven_195
  clear hF
  refine itr_rule (fun (s2 : Int32 × DD) => ∀ (H : Heap) (locs : List Loc) (ls : Array Slot), va_P D classes (wld ct ad G s2.2) H → va_D A (wld ct ad G s2.2) → va_S A s.heap H locs → lv_has ls 9 [(1, .int s2.1), (0, .ref (ad a))] → W p l e (headSpec wsX6_turnEven ({ frames := 0, cells := 0, slots := 0, locals := 0 })).room s m ([.ref (ad a)] : List Value).toArray below meth c H locs 0 0 (MQ below (va_Qv (fun (_ : Unit) => True) (fun _ t => kE D ct ad G A y t) A) ([.ref (ad a)] : List Value).toArray s 0 0 A) (F0 m 2 ls [])) ?_ _ _ hy1 _ _ _ hP hD hS (lv_sub hl [0, 1] rfl)
  rintro s2 ⟨z4, hF, hwz4⟩ H locs ls hP hD hS hl
  try dsimp only at hF
  refine lv_iload_n hx hb dX6_turnEven_2 rfl (lv_at hl 0 rfl) ?_
  refine lv_iconst (v := (2 : Int32)) hx hb dX6_turnEven_3 (by decide) ?_
  refine lv_icmp_ge (tgt := 195) hx hb dX6_turnEven_4 (by decide) (fun c5 => ?_) (fun c5 => ?_)
  · rw [if_pos c5] at hF
    obtain rfl := Option.some.inj hF
    subst hwz4
    exact K1 _ _ _ hP hD hS (lv_sub hl [0, 1] rfl)
  · rw [if_neg c5] at hF
    refine lv_iconst (v := (0 : Int32)) hx hb dX6_turnEven_7 (by decide) ?_
    refine lv_istore_n (lv' := [(2, .int (0 : Int32)), (1, .int s2.1), (0, .ref (ad a))]) hx hb dX6_turnEven_8 rfl hl (by decide) rfl (fun ls hl => ?_)
    obtain ⟨y6, hy6, hF⟩ := bnd_some hF
    have K6 : ∀ (H : Heap) (locs : List Loc) (ls : Array Slot), va_P D classes (wld ct ad G y6.2) H → va_D A (wld ct ad G y6.2) → va_S A s.heap H locs → lv_has ls 9 [(2, .int y6.1), (1, .int s2.1), (0, .ref (ad a))] → W p l e (headSpec wsX6_turnEven ({ frames := 0, cells := 0, slots := 0, locals := 0 })).room s m ([.ref (ad a)] : List Value).toArray below meth c H locs 0 0 (MQ below (va_Qv (fun (_ : Unit) => True) (fun _ t => kE D ct ad G A y t) A) ([.ref (ad a)] : List Value).toArray s 0 0 A) (F0 m 189 ls []) := by
      intro H locs ls hP hD hS hl
      obtain ⟨x9, ex9, hF⟩ := ltt_some hF
      refine lv_iinc (v := x9) (lv' := [(1, .int x9), (2, .int y6.1), (0, .ref (ad a))]) hx hb dX6_turnEven_189 hl (k := 1) rfl (by rw [ex9]; rfl) (by decide) rfl (fun ls hl => ?_)
      refine lv_goto (tgt := 2) hx hb dX6_turnEven_192 (by decide) ?_
      obtain rfl := Option.some.inj hF
      exact hwz4 _ _ _ hP hD hS (lv_sub hl [0, 2] rfl)
    clear hF
    refine itr_rule (fun (s7 : Int32 × DD) => ∀ (H : Heap) (locs : List Loc) (ls : Array Slot), va_P D classes (wld ct ad G s7.2) H → va_D A (wld ct ad G s7.2) → va_S A s.heap H locs → lv_has ls 9 [(2, .int s7.1), (1, .int s2.1), (0, .ref (ad a))] → W p l e (headSpec wsX6_turnEven ({ frames := 0, cells := 0, slots := 0, locals := 0 })).room s m ([.ref (ad a)] : List Value).toArray below meth c H locs 0 0 (MQ below (va_Qv (fun (_ : Unit) => True) (fun _ t => kE D ct ad G A y t) A) ([.ref (ad a)] : List Value).toArray s 0 0 A) (F0 m 9 ls [])) ?_ _ _ hy6 _ _ _ hP hD hS (lv_sub hl [0, 1, 2] rfl)
    rintro s7 ⟨z10, hF, hwz10⟩ H locs ls hP hD hS hl
    try dsimp only at hF
    refine lv_iload_n hx hb dX6_turnEven_9 rfl (lv_at hl 0 rfl) ?_
    refine lv_iconst (v := (4 : Int32)) hx hb dX6_turnEven_10 (by decide) ?_
    refine lv_icmp_ge (tgt := 189) hx hb dX6_turnEven_11 (by decide) (fun c11 => ?_) (fun c11 => ?_)
    · rw [if_pos c11] at hF
      obtain rfl := Option.some.inj hF
      subst hwz10
      exact K6 _ _ _ hP hD hS (lv_sub hl [0, 1, 2] rfl)
    · rw [if_neg c11] at hF
      refine lv_iload_n hx hb dX6_turnEven_14 rfl (lv_at hl 1 rfl) ?_
      obtain ⟨y12, hy12, hF⟩ := bnd_some hF
      have J12 : ∀ (H : Heap) (locs : List Loc) (ls : Array Slot), va_P D classes (wld ct ad G s7.2) H → va_D A (wld ct ad G s7.2) → va_S A s.heap H locs → lv_has ls 9 [(2, .int s7.1), (1, .int s2.1), (0, .ref (ad a))] → W p l e (headSpec wsX6_turnEven ({ frames := 0, cells := 0, slots := 0, locals := 0 })).room s m ([.ref (ad a)] : List Value).toArray below meth c H locs 0 0 (MQ below (va_Qv (fun (_ : Unit) => True) (fun _ t => kE D ct ad G A y t) A) ([.ref (ad a)] : List Value).toArray s 0 0 A) (F0 m 23 ls [.int y12]) := by
        intro H locs ls hP hD hS hl
        refine lv_istore_n (lv' := [(3, .int y12), (2, .int s7.1), (1, .int s2.1), (0, .ref (ad a))]) hx hb dX6_turnEven_23 rfl hl (by decide) rfl (fun ls hl => ?_)
        refine lv_iload_n hx hb dX6_turnEven_24 rfl (lv_at hl 2 rfl) ?_
        obtain ⟨y13, hy13, hF⟩ := bnd_some hF
        have J13 : ∀ (H : Heap) (locs : List Loc) (ls : Array Slot), va_P D classes (wld ct ad G s7.2) H → va_D A (wld ct ad G s7.2) → va_S A s.heap H locs → lv_has ls 9 [(3, .int y12), (2, .int s7.1), (1, .int s2.1), (0, .ref (ad a))] → W p l e (headSpec wsX6_turnEven ({ frames := 0, cells := 0, slots := 0, locals := 0 })).room s m ([.ref (ad a)] : List Value).toArray below meth c H locs 0 0 (MQ below (va_Qv (fun (_ : Unit) => True) (fun _ t => kE D ct ad G A y t) A) ([.ref (ad a)] : List Value).toArray s 0 0 A) (F0 m 35 ls [.int y13]) := by
          intro H locs ls hP hD hS hl
          refine lv_istore (lv' := [(4, .int y13), (3, .int y12), (2, .int s7.1), (1, .int s2.1), (0, .ref (ad a))]) hx hb dX6_turnEven_35 hl (by decide) rfl (fun ls hl => ?_)
          refine lv_aload_n hx hb dX6_turnEven_37 rfl (lv_at hl 4 rfl) ?_
          refine va_get (D := D) (ci := 6) (v := va_re ad (s7.2.2 a 7)) (C := RX6) (T := TX6) (N := 14) hx hb hts (by decide +kernel) hown hK hP a (wld_o ct ad G s7.2 hc hk (by decide)) rfl 7 (by decide) (hts (.fieldLink RX6 33 "VideoSuite$Samples" "even" "[I") (by decide +kernel)) (fun _ h9 => h9) rfl dX6_turnEven_38 ?_
          refine lv_iload hx hb dX6_turnEven_41 (lv_at hl 0 rfl) ?_
          obtain ⟨b14, ho14, hc14, hk14, hF⟩ := dr_some hF
          refine W_st (st' := [.int y13, .ref (ad b14)]) (by rw [va_some ho14]) ?_
          obtain ⟨hvc, hF⟩ := chk_some hF
          refine va_iald hx hb hK hP b14 1 (wld_i ct ad G s7.2 hc14 hk14) rfl hvc dX6_turnEven_43 ?_
          obtain ⟨x15, ex15, hF⟩ := ltt_some hF
          refine lv_topi (fun zx15 ezx15 => ?_)
          obtain rfl : x15 = zx15 := ex15.trans ezx15.symm
          refine lv_aload_n hx hb dX6_turnEven_44 rfl (lv_at hl 4 rfl) ?_
          refine va_get (D := D) (ci := 6) (v := va_re ad (s7.2.2 a 7)) (C := RX6) (T := TX6) (N := 14) hx hb hts (by decide +kernel) hown hK hP a (wld_o ct ad G s7.2 hc hk (by decide)) rfl 7 (by decide) (hts (.fieldLink RX6 33 "VideoSuite$Samples" "even" "[I") (by decide +kernel)) (fun _ h9 => h9) rfl dX6_turnEven_45 ?_
          refine lv_iload hx hb dX6_turnEven_48 (lv_at hl 0 rfl) ?_
          refine lv_iload_n hx hb dX6_turnEven_50 rfl (lv_at hl 1 rfl) ?_
          refine lv_iadd hx hb dX6_turnEven_51 ?_
          obtain ⟨x16, ex16, hF⟩ := ltt_some hF
          refine lv_topi (fun zx16 ezx16 => ?_)
          obtain rfl : x16 = zx16 := ex16.trans ezx16.symm
          refine W_st (st' := [.int x16, .ref (ad b14), .int x15]) (by rw [va_some ho14]) ?_
          obtain ⟨hvc, hF⟩ := chk_some hF
          refine va_iald hx hb hK hP b14 1 (wld_i ct ad G s7.2 hc14 hk14) rfl hvc dX6_turnEven_52 ?_
          obtain ⟨x17, ex17, hF⟩ := ltt_some hF
          refine lv_topi (fun zx17 ezx17 => ?_)
          obtain rfl : x17 = zx17 := ex17.trans ezx17.symm
          refine lv_iadd hx hb dX6_turnEven_53 ?_
          obtain ⟨x18, ex18, hF⟩ := ltt_some hF
          refine lv_topi (fun zx18 ezx18 => ?_)
          obtain rfl : x18 = zx18 := ex18.trans ezx18.symm
          refine lv_istore (lv' := [(5, .int x18), (4, .int y13), (3, .int y12), (2, .int s7.1), (1, .int s2.1), (0, .ref (ad a))]) hx hb dX6_turnEven_54 hl (by decide) rfl (fun ls hl => ?_)
          refine lv_aload_n hx hb dX6_turnEven_56 rfl (lv_at hl 5 rfl) ?_
          refine va_get (D := D) (ci := 6) (v := va_re ad (s7.2.2 a 7)) (C := RX6) (T := TX6) (N := 14) hx hb hts (by decide +kernel) hown hK hP a (wld_o ct ad G s7.2 hc hk (by decide)) rfl 7 (by decide) (hts (.fieldLink RX6 33 "VideoSuite$Samples" "even" "[I") (by decide +kernel)) (fun _ h9 => h9) rfl dX6_turnEven_57 ?_
          refine lv_iload hx hb dX6_turnEven_60 (lv_at hl 1 rfl) ?_
          refine W_st (st' := [.int y13, .ref (ad b14)]) (by rw [va_some ho14]) ?_
          obtain ⟨hvc, hF⟩ := chk_some hF
          refine va_iald hx hb hK hP b14 1 (wld_i ct ad G s7.2 hc14 hk14) rfl hvc dX6_turnEven_62 ?_
          obtain ⟨x19, ex19, hF⟩ := ltt_some hF
          refine lv_topi (fun zx19 ezx19 => ?_)
          obtain rfl : x19 = zx19 := ex19.trans ezx19.symm
          refine lv_aload_n hx hb dX6_turnEven_63 rfl (lv_at hl 5 rfl) ?_
          refine va_get (D := D) (ci := 6) (v := va_re ad (s7.2.2 a 7)) (C := RX6) (T := TX6) (N := 14) hx hb hts (by decide +kernel) hown hK hP a (wld_o ct ad G s7.2 hc hk (by decide)) rfl 7 (by decide) (hts (.fieldLink RX6 33 "VideoSuite$Samples" "even" "[I") (by decide +kernel)) (fun _ h9 => h9) rfl dX6_turnEven_64 ?_
          refine lv_iload hx hb dX6_turnEven_67 (lv_at hl 1 rfl) ?_
          refine lv_iload_n hx hb dX6_turnEven_69 rfl (lv_at hl 2 rfl) ?_
          refine lv_iadd hx hb dX6_turnEven_70 ?_
          obtain ⟨x20, ex20, hF⟩ := ltt_some hF
          refine lv_topi (fun zx20 ezx20 => ?_)
          obtain rfl : x20 = zx20 := ex20.trans ezx20.symm
          refine W_st (st' := [.int x20, .ref (ad b14), .int x19]) (by rw [va_some ho14]) ?_
          obtain ⟨hvc, hF⟩ := chk_some hF
          refine va_iald hx hb hK hP b14 1 (wld_i ct ad G s7.2 hc14 hk14) rfl hvc dX6_turnEven_71 ?_
          obtain ⟨x21, ex21, hF⟩ := ltt_some hF
          refine lv_topi (fun zx21 ezx21 => ?_)
          obtain rfl : x21 = zx21 := ex21.trans ezx21.symm
          refine lv_isub hx hb dX6_turnEven_72 ?_
          obtain ⟨x22, ex22, hF⟩ := ltt_some hF
          refine lv_topi (fun zx22 ezx22 => ?_)
          obtain rfl : x22 = zx22 := ex22.trans ezx22.symm
          refine lv_istore (lv' := [(6, .int x22), (5, .int x18), (4, .int y13), (3, .int y12), (2, .int s7.1), (1, .int s2.1), (0, .ref (ad a))]) hx hb dX6_turnEven_73 hl (by decide) rfl (fun ls hl => ?_)
          refine lv_aload_n hx hb dX6_turnEven_75 rfl (lv_at hl 6 rfl) ?_
          refine va_get (D := D) (ci := 6) (v := va_re ad (s7.2.2 a 7)) (C := RX6) (T := TX6) (N := 14) hx hb hts (by decide +kernel) hown hK hP a (wld_o ct ad G s7.2 hc hk (by decide)) rfl 7 (by decide) (hts (.fieldLink RX6 33 "VideoSuite$Samples" "even" "[I") (by decide +kernel)) (fun _ h9 => h9) rfl dX6_turnEven_76 ?_
          refine lv_iload hx hb dX6_turnEven_79 (lv_at hl 2 rfl) ?_
          refine lv_iconst (v := (2 : Int32)) hx hb dX6_turnEven_81 (by decide) ?_
          refine lv_iload_n hx hb dX6_turnEven_82 rfl (lv_at hl 3 rfl) ?_
          refine lv_imul hx hb dX6_turnEven_83 ?_
          obtain ⟨x23, ex23, hF⟩ := ltt_some hF
          refine lv_topi (fun zx23 ezx23 => ?_)
          obtain rfl : x23 = zx23 := ex23.trans ezx23.symm
          refine lv_iadd hx hb dX6_turnEven_84 ?_
          obtain ⟨x24, ex24, hF⟩ := ltt_some hF
          refine lv_topi (fun zx24 ezx24 => ?_)
          obtain rfl : x24 = zx24 := ex24.trans ezx24.symm
          refine W_st (st' := [.int x24, .ref (ad b14)]) (by rw [va_some ho14]) ?_
          obtain ⟨hvc, hF⟩ := chk_some hF
          refine va_iald hx hb hK hP b14 1 (wld_i ct ad G s7.2 hc14 hk14) rfl hvc dX6_turnEven_85 ?_
          obtain ⟨x25, ex25, hF⟩ := ltt_some hF
          refine lv_topi (fun zx25 ezx25 => ?_)
          obtain rfl : x25 = zx25 := ex25.trans ezx25.symm
          refine lv_aload_n hx hb dX6_turnEven_86 rfl (lv_at hl 6 rfl) ?_
          refine va_get (D := D) (ci := 6) (v := va_re ad (s7.2.2 a 7)) (C := RX6) (T := TX6) (N := 14) hx hb hts (by decide +kernel) hown hK hP a (wld_o ct ad G s7.2 hc hk (by decide)) rfl 7 (by decide) (hts (.fieldLink RX6 33 "VideoSuite$Samples" "even" "[I") (by decide +kernel)) (fun _ h9 => h9) rfl dX6_turnEven_87 ?_
          refine lv_iload hx hb dX6_turnEven_90 (lv_at hl 2 rfl) ?_
          refine lv_iconst (v := (3 : Int32)) hx hb dX6_turnEven_92 (by decide) ?_
          refine lv_iload_n hx hb dX6_turnEven_93 rfl (lv_at hl 3 rfl) ?_
          refine lv_imul hx hb dX6_turnEven_94 ?_
          obtain ⟨x26, ex26, hF⟩ := ltt_some hF
          refine lv_topi (fun zx26 ezx26 => ?_)
          obtain rfl : x26 = zx26 := ex26.trans ezx26.symm
          refine lv_iadd hx hb dX6_turnEven_95 ?_
          obtain ⟨x27, ex27, hF⟩ := ltt_some hF
          refine lv_topi (fun zx27 ezx27 => ?_)
          obtain rfl : x27 = zx27 := ex27.trans ezx27.symm
          refine W_st (st' := [.int x27, .ref (ad b14), .int x25]) (by rw [va_some ho14]) ?_
          obtain ⟨hvc, hF⟩ := chk_some hF
          refine va_iald hx hb hK hP b14 1 (wld_i ct ad G s7.2 hc14 hk14) rfl hvc dX6_turnEven_96 ?_
          obtain ⟨x28, ex28, hF⟩ := ltt_some hF
          refine lv_topi (fun zx28 ezx28 => ?_)
          obtain rfl : x28 = zx28 := ex28.trans ezx28.symm
          refine lv_iadd hx hb dX6_turnEven_97 ?_
          obtain ⟨x29, ex29, hF⟩ := ltt_some hF
          refine lv_topi (fun zx29 ezx29 => ?_)
          obtain rfl : x29 = zx29 := ex29.trans ezx29.symm
          refine lv_istore (lv' := [(7, .int x29), (6, .int x22), (5, .int x18), (4, .int y13), (3, .int y12), (2, .int s7.1), (1, .int s2.1), (0, .ref (ad a))]) hx hb dX6_turnEven_98 hl (by decide) rfl (fun ls hl => ?_)
          refine lv_aload_n hx hb dX6_turnEven_100 rfl (lv_at hl 7 rfl) ?_
          refine va_get (D := D) (ci := 6) (v := va_re ad (s7.2.2 a 7)) (C := RX6) (T := TX6) (N := 14) hx hb hts (by decide +kernel) hown hK hP a (wld_o ct ad G s7.2 hc hk (by decide)) rfl 7 (by decide) (hts (.fieldLink RX6 33 "VideoSuite$Samples" "even" "[I") (by decide +kernel)) (fun _ h9 => h9) rfl dX6_turnEven_101 ?_
          refine lv_iload hx hb dX6_turnEven_104 (lv_at hl 3 rfl) ?_
          refine lv_iconst (v := (2 : Int32)) hx hb dX6_turnEven_106 (by decide) ?_
          refine lv_iload_n hx hb dX6_turnEven_107 rfl (lv_at hl 4 rfl) ?_
          refine lv_imul hx hb dX6_turnEven_108 ?_
          obtain ⟨x30, ex30, hF⟩ := ltt_some hF
          refine lv_topi (fun zx30 ezx30 => ?_)
          obtain rfl : x30 = zx30 := ex30.trans ezx30.symm
          refine lv_iadd hx hb dX6_turnEven_109 ?_
          obtain ⟨x31, ex31, hF⟩ := ltt_some hF
          refine lv_topi (fun zx31 ezx31 => ?_)
          obtain rfl : x31 = zx31 := ex31.trans ezx31.symm
          refine W_st (st' := [.int x31, .ref (ad b14)]) (by rw [va_some ho14]) ?_
          obtain ⟨hvc, hF⟩ := chk_some hF
          refine va_iald hx hb hK hP b14 1 (wld_i ct ad G s7.2 hc14 hk14) rfl hvc dX6_turnEven_110 ?_
          obtain ⟨x32, ex32, hF⟩ := ltt_some hF
          refine lv_topi (fun zx32 ezx32 => ?_)
          obtain rfl : x32 = zx32 := ex32.trans ezx32.symm
          refine lv_aload_n hx hb dX6_turnEven_111 rfl (lv_at hl 7 rfl) ?_
          refine va_get (D := D) (ci := 6) (v := va_re ad (s7.2.2 a 7)) (C := RX6) (T := TX6) (N := 14) hx hb hts (by decide +kernel) hown hK hP a (wld_o ct ad G s7.2 hc hk (by decide)) rfl 7 (by decide) (hts (.fieldLink RX6 33 "VideoSuite$Samples" "even" "[I") (by decide +kernel)) (fun _ h9 => h9) rfl dX6_turnEven_112 ?_
          refine lv_iload hx hb dX6_turnEven_115 (lv_at hl 3 rfl) ?_
          refine lv_iconst (v := (3 : Int32)) hx hb dX6_turnEven_117 (by decide) ?_
          refine lv_iload_n hx hb dX6_turnEven_118 rfl (lv_at hl 4 rfl) ?_
          refine lv_imul hx hb dX6_turnEven_119 ?_
          obtain ⟨x33, ex33, hF⟩ := ltt_some hF
          refine lv_topi (fun zx33 ezx33 => ?_)
          obtain rfl : x33 = zx33 := ex33.trans ezx33.symm
          refine lv_iadd hx hb dX6_turnEven_120 ?_
          obtain ⟨x34, ex34, hF⟩ := ltt_some hF
          refine lv_topi (fun zx34 ezx34 => ?_)
          obtain rfl : x34 = zx34 := ex34.trans ezx34.symm
          refine W_st (st' := [.int x34, .ref (ad b14), .int x32]) (by rw [va_some ho14]) ?_
          obtain ⟨hvc, hF⟩ := chk_some hF
          refine va_iald hx hb hK hP b14 1 (wld_i ct ad G s7.2 hc14 hk14) rfl hvc dX6_turnEven_121 ?_
          obtain ⟨x35, ex35, hF⟩ := ltt_some hF
          refine lv_topi (fun zx35 ezx35 => ?_)
          obtain rfl : x35 = zx35 := ex35.trans ezx35.symm
          refine lv_isub hx hb dX6_turnEven_122 ?_
          obtain ⟨x36, ex36, hF⟩ := ltt_some hF
          refine lv_topi (fun zx36 ezx36 => ?_)
          obtain rfl : x36 = zx36 := ex36.trans ezx36.symm
          refine lv_istore (lv' := [(8, .int x36), (7, .int x29), (6, .int x22), (5, .int x18), (4, .int y13), (3, .int y12), (2, .int s7.1), (1, .int s2.1), (0, .ref (ad a))]) hx hb dX6_turnEven_123 hl (by decide) rfl (fun ls hl => ?_)
          refine lv_aload_n hx hb dX6_turnEven_125 rfl (lv_at hl 8 rfl) ?_
          refine va_get (D := D) (ci := 6) (v := va_re ad (s7.2.2 a 7)) (C := RX6) (T := TX6) (N := 14) hx hb hts (by decide +kernel) hown hK hP a (wld_o ct ad G s7.2 hc hk (by decide)) rfl 7 (by decide) (hts (.fieldLink RX6 33 "VideoSuite$Samples" "even" "[I") (by decide +kernel)) (fun _ h9 => h9) rfl dX6_turnEven_126 ?_
          refine lv_iload hx hb dX6_turnEven_129 (lv_at hl 4 rfl) ?_
          refine lv_iload hx hb dX6_turnEven_131 (lv_at hl 3 rfl) ?_
          refine lv_iload hx hb dX6_turnEven_133 (lv_at hl 1 rfl) ?_
          refine lv_iadd hx hb dX6_turnEven_135 ?_
          obtain ⟨x37, ex37, hF⟩ := ltt_some hF
          refine lv_topi (fun zx37 ezx37 => ?_)
          obtain rfl : x37 = zx37 := ex37.trans ezx37.symm
          refine W_st (st' := [.int x37, .int y13, .ref (ad b14)]) (by rw [va_some ho14]) ?_
          obtain ⟨hvc, hF⟩ := chk_some hF
          refine va_iast hx hb hK hP hD hS b14 1 (wld_i ct ad G s7.2 hc14 hk14) rfl hvc dX6_turnEven_136 (fun H locs hP hD hS => ?_)
          obtain ⟨M38, eM38, hF⟩ := ltt_some hF
          rw [set_i ct ad G s7.2 hc14 hk14, ← eM38] at hP hD
          refine lv_aload_n hx hb dX6_turnEven_137 rfl (lv_at hl 8 rfl) ?_
          refine va_get (D := D) (ci := 6) (v := va_re ad (M38.2 a 7)) (C := RX6) (T := TX6) (N := 14) hx hb hts (by decide +kernel) hown hK hP a (wld_o ct ad G M38 hc hk (by decide)) rfl 7 (by decide) (hts (.fieldLink RX6 33 "VideoSuite$Samples" "even" "[I") (by decide +kernel)) (fun _ h9 => h9) rfl dX6_turnEven_138 ?_
          refine lv_iload hx hb dX6_turnEven_141 (lv_at hl 4 rfl) ?_
          refine lv_iload_n hx hb dX6_turnEven_143 rfl (lv_at hl 5 rfl) ?_
          refine lv_iadd hx hb dX6_turnEven_144 ?_
          obtain ⟨x39, ex39, hF⟩ := ltt_some hF
          refine lv_topi (fun zx39 ezx39 => ?_)
          obtain rfl : x39 = zx39 := ex39.trans ezx39.symm
          refine lv_iload hx hb dX6_turnEven_145 (lv_at hl 3 rfl) ?_
          refine lv_iload hx hb dX6_turnEven_147 (lv_at hl 1 rfl) ?_
          refine lv_isub hx hb dX6_turnEven_149 ?_
          obtain ⟨x40, ex40, hF⟩ := ltt_some hF
          refine lv_topi (fun zx40 ezx40 => ?_)
          obtain rfl : x40 = zx40 := ex40.trans ezx40.symm
          obtain ⟨b41, ho41, hc41, hk41, hF⟩ := dr_some hF
          refine W_st (st' := [.int x40, .int x39, .ref (ad b41)]) (by rw [va_some ho41]) ?_
          obtain ⟨hvc, hF⟩ := chk_some hF
          refine va_iast hx hb hK hP hD hS b41 1 (wld_i ct ad G M38 hc41 hk41) rfl hvc dX6_turnEven_150 (fun H locs hP hD hS => ?_)
          obtain ⟨M42, eM42, hF⟩ := ltt_some hF
          rw [set_i ct ad G M38 hc41 hk41, ← eM42] at hP hD
          refine lv_aload_n hx hb dX6_turnEven_151 rfl (lv_at hl 8 rfl) ?_
          refine va_get (D := D) (ci := 6) (v := va_re ad (M42.2 a 7)) (C := RX6) (T := TX6) (N := 14) hx hb hts (by decide +kernel) hown hK hP a (wld_o ct ad G M42 hc hk (by decide)) rfl 7 (by decide) (hts (.fieldLink RX6 33 "VideoSuite$Samples" "even" "[I") (by decide +kernel)) (fun _ h9 => h9) rfl dX6_turnEven_152 ?_
          refine lv_iload hx hb dX6_turnEven_155 (lv_at hl 4 rfl) ?_
          refine lv_iconst (v := (2 : Int32)) hx hb dX6_turnEven_157 (by decide) ?_
          refine lv_iload_n hx hb dX6_turnEven_158 rfl (lv_at hl 5 rfl) ?_
          refine lv_imul hx hb dX6_turnEven_159 ?_
          obtain ⟨x43, ex43, hF⟩ := ltt_some hF
          refine lv_topi (fun zx43 ezx43 => ?_)
          obtain rfl : x43 = zx43 := ex43.trans ezx43.symm
          refine lv_iadd hx hb dX6_turnEven_160 ?_
          obtain ⟨x44, ex44, hF⟩ := ltt_some hF
          refine lv_topi (fun zx44 ezx44 => ?_)
          obtain rfl : x44 = zx44 := ex44.trans ezx44.symm
          refine lv_iload hx hb dX6_turnEven_161 (lv_at hl 2 rfl) ?_
          refine lv_iload hx hb dX6_turnEven_163 (lv_at hl 0 rfl) ?_
          refine lv_isub hx hb dX6_turnEven_165 ?_
          obtain ⟨x45, ex45, hF⟩ := ltt_some hF
          refine lv_topi (fun zx45 ezx45 => ?_)
          obtain rfl : x45 = zx45 := ex45.trans ezx45.symm
          obtain ⟨b46, ho46, hc46, hk46, hF⟩ := dr_some hF
          refine W_st (st' := [.int x45, .int x44, .ref (ad b46)]) (by rw [va_some ho46]) ?_
          obtain ⟨hvc, hF⟩ := chk_some hF
          refine va_iast hx hb hK hP hD hS b46 1 (wld_i ct ad G M42 hc46 hk46) rfl hvc dX6_turnEven_166 (fun H locs hP hD hS => ?_)
          obtain ⟨M47, eM47, hF⟩ := ltt_some hF
          rw [set_i ct ad G M42 hc46 hk46, ← eM47] at hP hD
          refine lv_aload_n hx hb dX6_turnEven_167 rfl (lv_at hl 8 rfl) ?_
          refine va_get (D := D) (ci := 6) (v := va_re ad (M47.2 a 7)) (C := RX6) (T := TX6) (N := 14) hx hb hts (by decide +kernel) hown hK hP a (wld_o ct ad G M47 hc hk (by decide)) rfl 7 (by decide) (hts (.fieldLink RX6 33 "VideoSuite$Samples" "even" "[I") (by decide +kernel)) (fun _ h9 => h9) rfl dX6_turnEven_168 ?_
          refine lv_iload hx hb dX6_turnEven_171 (lv_at hl 4 rfl) ?_
          refine lv_iconst (v := (3 : Int32)) hx hb dX6_turnEven_173 (by decide) ?_
          refine lv_iload_n hx hb dX6_turnEven_174 rfl (lv_at hl 5 rfl) ?_
          refine lv_imul hx hb dX6_turnEven_175 ?_
          obtain ⟨x48, ex48, hF⟩ := ltt_some hF
          refine lv_topi (fun zx48 ezx48 => ?_)
          obtain rfl : x48 = zx48 := ex48.trans ezx48.symm
          refine lv_iadd hx hb dX6_turnEven_176 ?_
          obtain ⟨x49, ex49, hF⟩ := ltt_some hF
          refine lv_topi (fun zx49 ezx49 => ?_)
          obtain rfl : x49 = zx49 := ex49.trans ezx49.symm
          refine lv_iload hx hb dX6_turnEven_177 (lv_at hl 2 rfl) ?_
          refine lv_iload hx hb dX6_turnEven_179 (lv_at hl 0 rfl) ?_
          refine lv_iadd hx hb dX6_turnEven_181 ?_
          obtain ⟨x50, ex50, hF⟩ := ltt_some hF
          refine lv_topi (fun zx50 ezx50 => ?_)
          obtain rfl : x50 = zx50 := ex50.trans ezx50.symm
          obtain ⟨b51, ho51, hc51, hk51, hF⟩ := dr_some hF
          refine W_st (st' := [.int x50, .int x49, .ref (ad b51)]) (by rw [va_some ho51]) ?_
          obtain ⟨hvc, hF⟩ := chk_some hF
          refine va_iast hx hb hK hP hD hS b51 1 (wld_i ct ad G M47 hc51 hk51) rfl hvc dX6_turnEven_182 (fun H locs hP hD hS => ?_)
          obtain ⟨M52, eM52, hF⟩ := ltt_some hF
          rw [set_i ct ad G M47 hc51 hk51, ← eM52] at hP hD
          obtain ⟨x53, ex53, hF⟩ := ltt_some hF
          refine lv_iinc (v := x53) (lv' := [(2, .int x53), (8, .int x36), (7, .int x29), (6, .int x22), (5, .int x18), (4, .int y13), (3, .int y12), (1, .int s2.1), (0, .ref (ad a))]) hx hb dX6_turnEven_183 hl (k := 6) rfl (by rw [ex53]; rfl) (by decide) rfl (fun ls hl => ?_)
          refine lv_goto (tgt := 9) hx hb dX6_turnEven_186 (by decide) ?_
          obtain rfl := Option.some.inj hF
          exact hwz10 _ _ _ hP hD hS (lv_sub hl [0, 7, 8] rfl)
        clear hF
        have hF := hy13
        clear hy13
        refine lv_if_ne (tgt := 34) hx hb dX6_turnEven_25 (by decide) (fun c54 => ?_) (fun c54 => ?_)
        · rw [if_neg c54] at hF
          refine lv_iload_n hx hb dX6_turnEven_34 rfl (lv_at hl 1 rfl) ?_
          obtain rfl := Option.some.inj hF
          exact J13 _ _ _ hP hD hS (lv_sub hl [0, 1, 2, 3] rfl)
        · rw [if_pos c54] at hF
          refine lv_iconst (v := (4 : Int32)) hx hb dX6_turnEven_28 (by decide) ?_
          refine lv_iload_n hx hb dX6_turnEven_29 rfl (lv_at hl 1 rfl) ?_
          refine lv_imul hx hb dX6_turnEven_30 ?_
          obtain ⟨x55, ex55, hF⟩ := ltt_some hF
          refine lv_topi (fun zx55 ezx55 => ?_)
          obtain rfl : x55 = zx55 := ex55.trans ezx55.symm
          refine lv_goto (tgt := 35) hx hb dX6_turnEven_31 (by decide) ?_
          obtain rfl := Option.some.inj hF
          exact J13 _ _ _ hP hD hS (lv_sub hl [0, 1, 2, 3] rfl)
      clear hF
      have hF := hy12
      clear hy12
      refine lv_if_ne (tgt := 22) hx hb dX6_turnEven_15 (by decide) (fun c56 => ?_) (fun c56 => ?_)
      · rw [if_neg c56] at hF
        refine lv_iconst (v := (4 : Int32)) hx hb dX6_turnEven_22 (by decide) ?_
        obtain rfl := Option.some.inj hF
        exact J12 _ _ _ hP hD hS (lv_sub hl [0, 1, 2] rfl)
      · rw [if_pos c56] at hF
        refine lv_iconst (v := (1 : Int32)) hx hb dX6_turnEven_18 (by decide) ?_
        refine lv_goto (tgt := 23) hx hb dX6_turnEven_19 (by decide) ?_
        obtain rfl := Option.some.inj hF
        exact J12 _ _ _ hP hD hS (lv_sub hl [0, 1, 2] rfl)
theorem dX6_turnFour_0 : decode cX6_turnFour 0 = .ok (.aload_n 0, 1) := by decide +kernel
theorem dX6_turnFour_1 : decode cX6_turnFour 1 = .ok (.getfield 33, 3) := by decide +kernel
theorem dX6_turnFour_4 : decode cX6_turnFour 4 = .ok (.iconst 0, 1) := by decide +kernel
theorem dX6_turnFour_5 : decode cX6_turnFour 5 = .ok (.iaload, 1) := by decide +kernel
theorem dX6_turnFour_6 : decode cX6_turnFour 6 = .ok (.istore_n 1, 1) := by decide +kernel
theorem dX6_turnFour_7 : decode cX6_turnFour 7 = .ok (.aload_n 0, 1) := by decide +kernel
theorem dX6_turnFour_8 : decode cX6_turnFour 8 = .ok (.getfield 33, 3) := by decide +kernel
theorem dX6_turnFour_11 : decode cX6_turnFour 11 = .ok (.iconst 1, 1) := by decide +kernel
theorem dX6_turnFour_12 : decode cX6_turnFour 12 = .ok (.iaload, 1) := by decide +kernel
theorem dX6_turnFour_13 : decode cX6_turnFour 13 = .ok (.istore_n 2, 1) := by decide +kernel
theorem dX6_turnFour_14 : decode cX6_turnFour 14 = .ok (.aload_n 0, 1) := by decide +kernel
theorem dX6_turnFour_15 : decode cX6_turnFour 15 = .ok (.getfield 33, 3) := by decide +kernel
theorem dX6_turnFour_18 : decode cX6_turnFour 18 = .ok (.iconst 2, 1) := by decide +kernel
theorem dX6_turnFour_19 : decode cX6_turnFour 19 = .ok (.iaload, 1) := by decide +kernel
theorem dX6_turnFour_20 : decode cX6_turnFour 20 = .ok (.istore_n 3, 1) := by decide +kernel
theorem dX6_turnFour_21 : decode cX6_turnFour 21 = .ok (.aload_n 0, 1) := by decide +kernel
theorem dX6_turnFour_22 : decode cX6_turnFour 22 = .ok (.getfield 33, 3) := by decide +kernel
theorem dX6_turnFour_25 : decode cX6_turnFour 25 = .ok (.iconst 3, 1) := by decide +kernel
theorem dX6_turnFour_26 : decode cX6_turnFour 26 = .ok (.iaload, 1) := by decide +kernel
theorem dX6_turnFour_27 : decode cX6_turnFour 27 = .ok (.istore 4, 2) := by decide +kernel
theorem dX6_turnFour_29 : decode cX6_turnFour 29 = .ok (.aload_n 0, 1) := by decide +kernel
theorem dX6_turnFour_30 : decode cX6_turnFour 30 = .ok (.getfield 33, 3) := by decide +kernel
theorem dX6_turnFour_33 : decode cX6_turnFour 33 = .ok (.iconst 0, 1) := by decide +kernel
theorem dX6_turnFour_34 : decode cX6_turnFour 34 = .ok (.iload_n 1, 1) := by decide +kernel
theorem dX6_turnFour_35 : decode cX6_turnFour 35 = .ok (.iload_n 2, 1) := by decide +kernel
theorem dX6_turnFour_36 : decode cX6_turnFour 36 = .ok (.iadd, 1) := by decide +kernel
theorem dX6_turnFour_37 : decode cX6_turnFour 37 = .ok (.iload_n 3, 1) := by decide +kernel
theorem dX6_turnFour_38 : decode cX6_turnFour 38 = .ok (.iadd, 1) := by decide +kernel
theorem dX6_turnFour_39 : decode cX6_turnFour 39 = .ok (.iload 4, 2) := by decide +kernel
theorem dX6_turnFour_41 : decode cX6_turnFour 41 = .ok (.iadd, 1) := by decide +kernel
theorem dX6_turnFour_42 : decode cX6_turnFour 42 = .ok (.iastore, 1) := by decide +kernel
theorem dX6_turnFour_43 : decode cX6_turnFour 43 = .ok (.aload_n 0, 1) := by decide +kernel
theorem dX6_turnFour_44 : decode cX6_turnFour 44 = .ok (.getfield 33, 3) := by decide +kernel
theorem dX6_turnFour_47 : decode cX6_turnFour 47 = .ok (.iconst 1, 1) := by decide +kernel
theorem dX6_turnFour_48 : decode cX6_turnFour 48 = .ok (.iload_n 1, 1) := by decide +kernel
theorem dX6_turnFour_49 : decode cX6_turnFour 49 = .ok (.iload_n 2, 1) := by decide +kernel
theorem dX6_turnFour_50 : decode cX6_turnFour 50 = .ok (.isub, 1) := by decide +kernel
theorem dX6_turnFour_51 : decode cX6_turnFour 51 = .ok (.iload_n 3, 1) := by decide +kernel
theorem dX6_turnFour_52 : decode cX6_turnFour 52 = .ok (.iadd, 1) := by decide +kernel
theorem dX6_turnFour_53 : decode cX6_turnFour 53 = .ok (.iload 4, 2) := by decide +kernel
theorem dX6_turnFour_55 : decode cX6_turnFour 55 = .ok (.isub, 1) := by decide +kernel
theorem dX6_turnFour_56 : decode cX6_turnFour 56 = .ok (.iastore, 1) := by decide +kernel
theorem dX6_turnFour_57 : decode cX6_turnFour 57 = .ok (.aload_n 0, 1) := by decide +kernel
theorem dX6_turnFour_58 : decode cX6_turnFour 58 = .ok (.getfield 33, 3) := by decide +kernel
theorem dX6_turnFour_61 : decode cX6_turnFour 61 = .ok (.iconst 2, 1) := by decide +kernel
theorem dX6_turnFour_62 : decode cX6_turnFour 62 = .ok (.iload_n 1, 1) := by decide +kernel
theorem dX6_turnFour_63 : decode cX6_turnFour 63 = .ok (.iload_n 2, 1) := by decide +kernel
theorem dX6_turnFour_64 : decode cX6_turnFour 64 = .ok (.iadd, 1) := by decide +kernel
theorem dX6_turnFour_65 : decode cX6_turnFour 65 = .ok (.iload_n 3, 1) := by decide +kernel
theorem dX6_turnFour_66 : decode cX6_turnFour 66 = .ok (.isub, 1) := by decide +kernel
theorem dX6_turnFour_67 : decode cX6_turnFour 67 = .ok (.iload 4, 2) := by decide +kernel
theorem dX6_turnFour_69 : decode cX6_turnFour 69 = .ok (.isub, 1) := by decide +kernel
theorem dX6_turnFour_70 : decode cX6_turnFour 70 = .ok (.iastore, 1) := by decide +kernel
theorem dX6_turnFour_71 : decode cX6_turnFour 71 = .ok (.aload_n 0, 1) := by decide +kernel
theorem dX6_turnFour_72 : decode cX6_turnFour 72 = .ok (.getfield 33, 3) := by decide +kernel
theorem dX6_turnFour_75 : decode cX6_turnFour 75 = .ok (.iconst 3, 1) := by decide +kernel
theorem dX6_turnFour_76 : decode cX6_turnFour 76 = .ok (.iload_n 1, 1) := by decide +kernel
theorem dX6_turnFour_77 : decode cX6_turnFour 77 = .ok (.iload_n 2, 1) := by decide +kernel
theorem dX6_turnFour_78 : decode cX6_turnFour 78 = .ok (.isub, 1) := by decide +kernel
theorem dX6_turnFour_79 : decode cX6_turnFour 79 = .ok (.iload_n 3, 1) := by decide +kernel
theorem dX6_turnFour_80 : decode cX6_turnFour 80 = .ok (.isub, 1) := by decide +kernel
theorem dX6_turnFour_81 : decode cX6_turnFour 81 = .ok (.iload 4, 2) := by decide +kernel
theorem dX6_turnFour_83 : decode cX6_turnFour 83 = .ok (.iadd, 1) := by decide +kernel
theorem dX6_turnFour_84 : decode cX6_turnFour 84 = .ok (.iastore, 1) := by decide +kernel
theorem dX6_turnFour_85 : decode cX6_turnFour 85 = .ok (.return_, 1) := by decide +kernel
def FX6_turnFour (G : GG) (M : DD) (a : Nat)  : Option (DD) :=
  dr G 13 ((M.2 a 7)) fun b1 =>
  chk (¬ (((0 : Int32)) < 0 ∨ G.2.2 b1 ≤ ((0 : Int32)).toNatClampNeg)) <|
  ltt (M.1 b1 ((0 : Int32)).toNatClampNeg) fun x2 =>
  chk (¬ (((1 : Int32)) < 0 ∨ G.2.2 b1 ≤ ((1 : Int32)).toNatClampNeg)) <|
  ltt (M.1 b1 ((1 : Int32)).toNatClampNeg) fun x3 =>
  chk (¬ (((2 : Int32)) < 0 ∨ G.2.2 b1 ≤ ((2 : Int32)).toNatClampNeg)) <|
  ltt (M.1 b1 ((2 : Int32)).toNatClampNeg) fun x4 =>
  chk (¬ (((3 : Int32)) < 0 ∨ G.2.2 b1 ≤ ((3 : Int32)).toNatClampNeg)) <|
  ltt (M.1 b1 ((3 : Int32)).toNatClampNeg) fun x5 =>
  ltt ((x2 + x3)) fun x6 =>
  ltt ((x6 + x4)) fun x7 =>
  ltt ((x7 + x5)) fun x8 =>
  chk (¬ (((0 : Int32)) < 0 ∨ G.2.2 b1 ≤ ((0 : Int32)).toNatClampNeg)) <|
  ltt (uI M b1 ((0 : Int32)).toNatClampNeg x8) fun M9 =>
  ltt ((x2 - x3)) fun x10 =>
  ltt ((x10 + x4)) fun x11 =>
  ltt ((x11 - x5)) fun x12 =>
  dr G 13 ((M9.2 a 7)) fun b13 =>
  chk (¬ (((1 : Int32)) < 0 ∨ G.2.2 b13 ≤ ((1 : Int32)).toNatClampNeg)) <|
  ltt (uI M9 b13 ((1 : Int32)).toNatClampNeg x12) fun M14 =>
  ltt ((x2 + x3)) fun x15 =>
  ltt ((x15 - x4)) fun x16 =>
  ltt ((x16 - x5)) fun x17 =>
  dr G 13 ((M14.2 a 7)) fun b18 =>
  chk (¬ (((2 : Int32)) < 0 ∨ G.2.2 b18 ≤ ((2 : Int32)).toNatClampNeg)) <|
  ltt (uI M14 b18 ((2 : Int32)).toNatClampNeg x17) fun M19 =>
  ltt ((x2 - x3)) fun x20 =>
  ltt ((x20 - x4)) fun x21 =>
  ltt ((x21 + x5)) fun x22 =>
  dr G 13 ((M19.2 a 7)) fun b23 =>
  chk (¬ (((3 : Int32)) < 0 ∨ G.2.2 b23 ≤ ((3 : Int32)).toNatClampNeg)) <|
  ltt (uI M19 b23 ((3 : Int32)).toNatClampNeg x22) fun M24 =>
  some M24
set_option maxHeartbeats 4000000 in
set_option maxRecDepth 100000 in
theorem kX6_turnFour (l : Launch) (D : va_G) (ct : CT) (ad : Nat → Nat) (Z : Nat → Nat) (G : GG) (M : DD) (sz : Nat) (a : Nat)  (y : DD) (hc : a < G.1) (hk : G.2.1 a = 6) (hF : FX6_turnFour G M a  = some y) : Met l yX6_turnFour wsX6_turnFour ({ frames := 0, cells := 0, slots := 0, locals := 0 }) (va_Pc [.ref (ad a)] (kB D ct ad Z G M sz)) (va_Qv (fun (_ : Unit) => True) (fun _ t => kE D ct ad G (wA ad G sz) y t) (wA ad G sz)) 0 0 (wA ad G sz) := by
  refine Met.ofW (cc := cX6_turnFour) (maxL := 5) (ret := none) (by decide) rfl ?_
  intro p e s m args below meth c s₁ B hml hv
  obtain ⟨rfl, hsz, hP, hK, hD0, hZ, hN⟩ := hv
  have hx := B.exec
  have hb := B.bytes
  have hr := B.returns
  have hts := atoms_spec (ws := wsX6_turnFour) B.pre
  have hown : s.vm.findClass RX6 = some m.cls := findClass_of_methodNamed B.named
  have hlocks := B.notSynchronized
  subst hsz
  have hD := wD_self (sz := s.heap.size) hD0
  have hA9 : ∀ q, s.heap.size ≤ q → wA ad G s.heap.size q := fun q h => Or.inr h
  generalize hAe : wA ad G s.heap.size = A at hD hA9 hZ ⊢
  have hS : va_S A s.heap s.heap [] := va_S.rf
  have hl := lv_entry ([.ref (ad a)]) (n := 5) (Nat.le_of_ble_eq_true rfl)
  rw [lg_entry_eq]
  generalize (lg_sl ([.ref (ad a)]) ++ List.replicate (5 - (lg_sl ([.ref (ad a)])).length) Slot.unset).toArray = ls at hl ⊢
  have hl : lv_has ls 5 [(0, .ref (ad a))] := hl
  unfold FX6_turnFour at hF
  refine lv_aload_n hx hb dX6_turnFour_0 rfl (lv_at hl 0 rfl) ?_
  refine va_get (D := D) (ci := 6) (v := va_re ad (M.2 a 7)) (C := RX6) (T := TX6) (N := 14) hx hb hts (by decide +kernel) hown hK hP a (wld_o ct ad G M hc hk (by decide)) rfl 7 (by decide) (hts (.fieldLink RX6 33 "VideoSuite$Samples" "even" "[I") (by decide +kernel)) (fun _ h9 => h9) rfl dX6_turnFour_1 ?_
  refine lv_iconst (v := (0 : Int32)) hx hb dX6_turnFour_4 (by decide) ?_
  obtain ⟨b1, ho1, hc1, hk1, hF⟩ := dr_some hF
  refine W_st (st' := [.int (0 : Int32), .ref (ad b1)]) (by rw [va_some ho1]) ?_
  obtain ⟨hvc, hF⟩ := chk_some hF
  refine va_iald hx hb hK hP b1 1 (wld_i ct ad G M hc1 hk1) rfl hvc dX6_turnFour_5 ?_
  obtain ⟨x2, ex2, hF⟩ := ltt_some hF
  refine lv_topi (fun zx2 ezx2 => ?_)
  obtain rfl : x2 = zx2 := ex2.trans ezx2.symm
  refine lv_istore_n (lv' := [(1, .int x2), (0, .ref (ad a))]) hx hb dX6_turnFour_6 rfl hl (by decide) rfl (fun ls hl => ?_)
  refine lv_aload_n hx hb dX6_turnFour_7 rfl (lv_at hl 1 rfl) ?_
  refine va_get (D := D) (ci := 6) (v := va_re ad (M.2 a 7)) (C := RX6) (T := TX6) (N := 14) hx hb hts (by decide +kernel) hown hK hP a (wld_o ct ad G M hc hk (by decide)) rfl 7 (by decide) (hts (.fieldLink RX6 33 "VideoSuite$Samples" "even" "[I") (by decide +kernel)) (fun _ h9 => h9) rfl dX6_turnFour_8 ?_
  refine lv_iconst (v := (1 : Int32)) hx hb dX6_turnFour_11 (by decide) ?_
  refine W_st (st' := [.int (1 : Int32), .ref (ad b1)]) (by rw [va_some ho1]) ?_
  obtain ⟨hvc, hF⟩ := chk_some hF
  refine va_iald hx hb hK hP b1 1 (wld_i ct ad G M hc1 hk1) rfl hvc dX6_turnFour_12 ?_
  obtain ⟨x3, ex3, hF⟩ := ltt_some hF
  refine lv_topi (fun zx3 ezx3 => ?_)
  obtain rfl : x3 = zx3 := ex3.trans ezx3.symm
  refine lv_istore_n (lv' := [(2, .int x3), (1, .int x2), (0, .ref (ad a))]) hx hb dX6_turnFour_13 rfl hl (by decide) rfl (fun ls hl => ?_)
  refine lv_aload_n hx hb dX6_turnFour_14 rfl (lv_at hl 2 rfl) ?_
  refine va_get (D := D) (ci := 6) (v := va_re ad (M.2 a 7)) (C := RX6) (T := TX6) (N := 14) hx hb hts (by decide +kernel) hown hK hP a (wld_o ct ad G M hc hk (by decide)) rfl 7 (by decide) (hts (.fieldLink RX6 33 "VideoSuite$Samples" "even" "[I") (by decide +kernel)) (fun _ h9 => h9) rfl dX6_turnFour_15 ?_
  refine lv_iconst (v := (2 : Int32)) hx hb dX6_turnFour_18 (by decide) ?_
  refine W_st (st' := [.int (2 : Int32), .ref (ad b1)]) (by rw [va_some ho1]) ?_
  obtain ⟨hvc, hF⟩ := chk_some hF
  refine va_iald hx hb hK hP b1 1 (wld_i ct ad G M hc1 hk1) rfl hvc dX6_turnFour_19 ?_
  obtain ⟨x4, ex4, hF⟩ := ltt_some hF
  refine lv_topi (fun zx4 ezx4 => ?_)
  obtain rfl : x4 = zx4 := ex4.trans ezx4.symm
  refine lv_istore_n (lv' := [(3, .int x4), (2, .int x3), (1, .int x2), (0, .ref (ad a))]) hx hb dX6_turnFour_20 rfl hl (by decide) rfl (fun ls hl => ?_)
  refine lv_aload_n hx hb dX6_turnFour_21 rfl (lv_at hl 3 rfl) ?_
  refine va_get (D := D) (ci := 6) (v := va_re ad (M.2 a 7)) (C := RX6) (T := TX6) (N := 14) hx hb hts (by decide +kernel) hown hK hP a (wld_o ct ad G M hc hk (by decide)) rfl 7 (by decide) (hts (.fieldLink RX6 33 "VideoSuite$Samples" "even" "[I") (by decide +kernel)) (fun _ h9 => h9) rfl dX6_turnFour_22 ?_
  refine lv_iconst (v := (3 : Int32)) hx hb dX6_turnFour_25 (by decide) ?_
  refine W_st (st' := [.int (3 : Int32), .ref (ad b1)]) (by rw [va_some ho1]) ?_
  obtain ⟨hvc, hF⟩ := chk_some hF
  refine va_iald hx hb hK hP b1 1 (wld_i ct ad G M hc1 hk1) rfl hvc dX6_turnFour_26 ?_
  obtain ⟨x5, ex5, hF⟩ := ltt_some hF
  refine lv_topi (fun zx5 ezx5 => ?_)
  obtain rfl : x5 = zx5 := ex5.trans ezx5.symm
  refine lv_istore (lv' := [(4, .int x5), (3, .int x4), (2, .int x3), (1, .int x2), (0, .ref (ad a))]) hx hb dX6_turnFour_27 hl (by decide) rfl (fun ls hl => ?_)
  refine lv_aload_n hx hb dX6_turnFour_29 rfl (lv_at hl 4 rfl) ?_
  refine va_get (D := D) (ci := 6) (v := va_re ad (M.2 a 7)) (C := RX6) (T := TX6) (N := 14) hx hb hts (by decide +kernel) hown hK hP a (wld_o ct ad G M hc hk (by decide)) rfl 7 (by decide) (hts (.fieldLink RX6 33 "VideoSuite$Samples" "even" "[I") (by decide +kernel)) (fun _ h9 => h9) rfl dX6_turnFour_30 ?_
  refine lv_iconst (v := (0 : Int32)) hx hb dX6_turnFour_33 (by decide) ?_
  refine lv_iload_n hx hb dX6_turnFour_34 rfl (lv_at hl 3 rfl) ?_
  refine lv_iload_n hx hb dX6_turnFour_35 rfl (lv_at hl 2 rfl) ?_
  refine lv_iadd hx hb dX6_turnFour_36 ?_
  obtain ⟨x6, ex6, hF⟩ := ltt_some hF
  refine lv_topi (fun zx6 ezx6 => ?_)
  obtain rfl : x6 = zx6 := ex6.trans ezx6.symm
  refine lv_iload_n hx hb dX6_turnFour_37 rfl (lv_at hl 1 rfl) ?_
  refine lv_iadd hx hb dX6_turnFour_38 ?_
  obtain ⟨x7, ex7, hF⟩ := ltt_some hF
  refine lv_topi (fun zx7 ezx7 => ?_)
  obtain rfl : x7 = zx7 := ex7.trans ezx7.symm
  refine lv_iload hx hb dX6_turnFour_39 (lv_at hl 0 rfl) ?_
  refine lv_iadd hx hb dX6_turnFour_41 ?_
  obtain ⟨x8, ex8, hF⟩ := ltt_some hF
  refine lv_topi (fun zx8 ezx8 => ?_)
  obtain rfl : x8 = zx8 := ex8.trans ezx8.symm
  refine W_st (st' := [.int x8, .int (0 : Int32), .ref (ad b1)]) (by rw [va_some ho1]) ?_
  obtain ⟨hvc, hF⟩ := chk_some hF
  refine va_iast hx hb hK hP hD hS b1 1 (wld_i ct ad G M hc1 hk1) rfl hvc dX6_turnFour_42 (fun H locs hP hD hS => ?_)
  obtain ⟨M9, eM9, hF⟩ := ltt_some hF
  rw [set_i ct ad G M hc1 hk1, ← eM9] at hP hD
  refine lv_aload_n hx hb dX6_turnFour_43 rfl (lv_at hl 4 rfl) ?_
  refine va_get (D := D) (ci := 6) (v := va_re ad (M9.2 a 7)) (C := RX6) (T := TX6) (N := 14) hx hb hts (by decide +kernel) hown hK hP a (wld_o ct ad G M9 hc hk (by decide)) rfl 7 (by decide) (hts (.fieldLink RX6 33 "VideoSuite$Samples" "even" "[I") (by decide +kernel)) (fun _ h9 => h9) rfl dX6_turnFour_44 ?_
  refine lv_iconst (v := (1 : Int32)) hx hb dX6_turnFour_47 (by decide) ?_
  refine lv_iload_n hx hb dX6_turnFour_48 rfl (lv_at hl 3 rfl) ?_
  refine lv_iload_n hx hb dX6_turnFour_49 rfl (lv_at hl 2 rfl) ?_
  refine lv_isub hx hb dX6_turnFour_50 ?_
  obtain ⟨x10, ex10, hF⟩ := ltt_some hF
  refine lv_topi (fun zx10 ezx10 => ?_)
  obtain rfl : x10 = zx10 := ex10.trans ezx10.symm
  refine lv_iload_n hx hb dX6_turnFour_51 rfl (lv_at hl 1 rfl) ?_
  refine lv_iadd hx hb dX6_turnFour_52 ?_
  obtain ⟨x11, ex11, hF⟩ := ltt_some hF
  refine lv_topi (fun zx11 ezx11 => ?_)
  obtain rfl : x11 = zx11 := ex11.trans ezx11.symm
  refine lv_iload hx hb dX6_turnFour_53 (lv_at hl 0 rfl) ?_
  refine lv_isub hx hb dX6_turnFour_55 ?_
  obtain ⟨x12, ex12, hF⟩ := ltt_some hF
  refine lv_topi (fun zx12 ezx12 => ?_)
  obtain rfl : x12 = zx12 := ex12.trans ezx12.symm
  obtain ⟨b13, ho13, hc13, hk13, hF⟩ := dr_some hF
  refine W_st (st' := [.int x12, .int (1 : Int32), .ref (ad b13)]) (by rw [va_some ho13]) ?_
  obtain ⟨hvc, hF⟩ := chk_some hF
  refine va_iast hx hb hK hP hD hS b13 1 (wld_i ct ad G M9 hc13 hk13) rfl hvc dX6_turnFour_56 (fun H locs hP hD hS => ?_)
  obtain ⟨M14, eM14, hF⟩ := ltt_some hF
  rw [set_i ct ad G M9 hc13 hk13, ← eM14] at hP hD
  refine lv_aload_n hx hb dX6_turnFour_57 rfl (lv_at hl 4 rfl) ?_
  refine va_get (D := D) (ci := 6) (v := va_re ad (M14.2 a 7)) (C := RX6) (T := TX6) (N := 14) hx hb hts (by decide +kernel) hown hK hP a (wld_o ct ad G M14 hc hk (by decide)) rfl 7 (by decide) (hts (.fieldLink RX6 33 "VideoSuite$Samples" "even" "[I") (by decide +kernel)) (fun _ h9 => h9) rfl dX6_turnFour_58 ?_
  refine lv_iconst (v := (2 : Int32)) hx hb dX6_turnFour_61 (by decide) ?_
  refine lv_iload_n hx hb dX6_turnFour_62 rfl (lv_at hl 3 rfl) ?_
  refine lv_iload_n hx hb dX6_turnFour_63 rfl (lv_at hl 2 rfl) ?_
  refine lv_iadd hx hb dX6_turnFour_64 ?_
  obtain ⟨x15, ex15, hF⟩ := ltt_some hF
  refine lv_topi (fun zx15 ezx15 => ?_)
  obtain rfl : x15 = zx15 := ex15.trans ezx15.symm
  refine lv_iload_n hx hb dX6_turnFour_65 rfl (lv_at hl 1 rfl) ?_
  refine lv_isub hx hb dX6_turnFour_66 ?_
  obtain ⟨x16, ex16, hF⟩ := ltt_some hF
  refine lv_topi (fun zx16 ezx16 => ?_)
  obtain rfl : x16 = zx16 := ex16.trans ezx16.symm
  refine lv_iload hx hb dX6_turnFour_67 (lv_at hl 0 rfl) ?_
  refine lv_isub hx hb dX6_turnFour_69 ?_
  obtain ⟨x17, ex17, hF⟩ := ltt_some hF
  refine lv_topi (fun zx17 ezx17 => ?_)
  obtain rfl : x17 = zx17 := ex17.trans ezx17.symm
  obtain ⟨b18, ho18, hc18, hk18, hF⟩ := dr_some hF
  refine W_st (st' := [.int x17, .int (2 : Int32), .ref (ad b18)]) (by rw [va_some ho18]) ?_
  obtain ⟨hvc, hF⟩ := chk_some hF
  refine va_iast hx hb hK hP hD hS b18 1 (wld_i ct ad G M14 hc18 hk18) rfl hvc dX6_turnFour_70 (fun H locs hP hD hS => ?_)
  obtain ⟨M19, eM19, hF⟩ := ltt_some hF
  rw [set_i ct ad G M14 hc18 hk18, ← eM19] at hP hD
  refine lv_aload_n hx hb dX6_turnFour_71 rfl (lv_at hl 4 rfl) ?_
  refine va_get (D := D) (ci := 6) (v := va_re ad (M19.2 a 7)) (C := RX6) (T := TX6) (N := 14) hx hb hts (by decide +kernel) hown hK hP a (wld_o ct ad G M19 hc hk (by decide)) rfl 7 (by decide) (hts (.fieldLink RX6 33 "VideoSuite$Samples" "even" "[I") (by decide +kernel)) (fun _ h9 => h9) rfl dX6_turnFour_72 ?_
  refine lv_iconst (v := (3 : Int32)) hx hb dX6_turnFour_75 (by decide) ?_
  refine lv_iload_n hx hb dX6_turnFour_76 rfl (lv_at hl 3 rfl) ?_
  refine lv_iload_n hx hb dX6_turnFour_77 rfl (lv_at hl 2 rfl) ?_
  refine lv_isub hx hb dX6_turnFour_78 ?_
  obtain ⟨x20, ex20, hF⟩ := ltt_some hF
  refine lv_topi (fun zx20 ezx20 => ?_)
  obtain rfl : x20 = zx20 := ex20.trans ezx20.symm
  refine lv_iload_n hx hb dX6_turnFour_79 rfl (lv_at hl 1 rfl) ?_
  refine lv_isub hx hb dX6_turnFour_80 ?_
  obtain ⟨x21, ex21, hF⟩ := ltt_some hF
  refine lv_topi (fun zx21 ezx21 => ?_)
  obtain rfl : x21 = zx21 := ex21.trans ezx21.symm
  refine lv_iload hx hb dX6_turnFour_81 (lv_at hl 0 rfl) ?_
  refine lv_iadd hx hb dX6_turnFour_83 ?_
  obtain ⟨x22, ex22, hF⟩ := ltt_some hF
  refine lv_topi (fun zx22 ezx22 => ?_)
  obtain rfl : x22 = zx22 := ex22.trans ezx22.symm
  obtain ⟨b23, ho23, hc23, hk23, hF⟩ := dr_some hF
  refine W_st (st' := [.int x22, .int (3 : Int32), .ref (ad b23)]) (by rw [va_some ho23]) ?_
  obtain ⟨hvc, hF⟩ := chk_some hF
  refine va_iast hx hb hK hP hD hS b23 1 (wld_i ct ad G M19 hc23 hk23) rfl hvc dX6_turnFour_84 (fun H locs hP hD hS => ?_)
  obtain ⟨M24, eM24, hF⟩ := ltt_some hF
  rw [set_i ct ad G M19 hc23 hk23, ← eM24] at hP hD
  obtain rfl := Option.some.inj hF
  exact W.vret hx hb hr (fun t ht hW => ⟨⟨(), rfl, trivial, ⟨by rw [ht]; exact hP, va_K.moved hW.alike hK, hD⟩⟩, hS.F ht⟩) hS.2.2 dX6_turnFour_85
theorem dX6_two_0 : decode cX6_two 0 = .ok (.aload_n 0, 1) := by decide +kernel
theorem dX6_two_1 : decode cX6_two 1 = .ok (.getfield 36, 3) := by decide +kernel
theorem dX6_two_4 : decode cX6_two 4 = .ok (.iload_n 1, 1) := by decide +kernel
theorem dX6_two_5 : decode cX6_two 5 = .ok (.iaload, 1) := by decide +kernel
theorem dX6_two_6 : decode cX6_two 6 = .ok (.aload_n 0, 1) := by decide +kernel
theorem dX6_two_7 : decode cX6_two 7 = .ok (.getfield 36, 3) := by decide +kernel
theorem dX6_two_10 : decode cX6_two 10 = .ok (.iload_n 2, 1) := by decide +kernel
theorem dX6_two_11 : decode cX6_two 11 = .ok (.iaload, 1) := by decide +kernel
theorem dX6_two_12 : decode cX6_two 12 = .ok (.iadd, 1) := by decide +kernel
theorem dX6_two_13 : decode cX6_two 13 = .ok (.iconst 1, 1) := by decide +kernel
theorem dX6_two_14 : decode cX6_two 14 = .ok (.iadd, 1) := by decide +kernel
theorem dX6_two_15 : decode cX6_two 15 = .ok (.iconst 1, 1) := by decide +kernel
theorem dX6_two_16 : decode cX6_two 16 = .ok (.ishr, 1) := by decide +kernel
theorem dX6_two_17 : decode cX6_two 17 = .ok (.ireturn, 1) := by decide +kernel
def FX6_two (G : GG) (M : DD) (a : Nat) (p0 : Int32) (p1 : Int32) : Option (DD × Int32) :=
  dr G 13 ((M.2 a 8)) fun b1 =>
  chk (¬ (p0 < 0 ∨ G.2.2 b1 ≤ p0.toNatClampNeg)) <|
  ltt (M.1 b1 p0.toNatClampNeg) fun x2 =>
  chk (¬ (p1 < 0 ∨ G.2.2 b1 ≤ p1.toNatClampNeg)) <|
  ltt (M.1 b1 p1.toNatClampNeg) fun x3 =>
  ltt ((x2 + x3)) fun x4 =>
  ltt ((x4 + ((1 : Int32)))) fun x5 =>
  ltt ((x5 >>> (((1 : Int32)) &&& 31))) fun x6 =>
  some (M, x6)
set_option maxHeartbeats 4000000 in
set_option maxRecDepth 100000 in
theorem kX6_two (l : Launch) (D : va_G) (ct : CT) (ad : Nat → Nat) (Z : Nat → Nat) (G : GG) (M : DD) (sz : Nat) (a : Nat) (p0 : Int32) (p1 : Int32) (y : DD × Int32) (hc : a < G.1) (hk : G.2.1 a = 6) (hF : FX6_two G M a p0 p1 = some y) : Met l yX6_two wsX6_two ({ frames := 0, cells := 0, slots := 0, locals := 0 }) (va_Pc [.ref (ad a), .int p0, .int p1] (kB D ct ad Z G M sz)) (va_Qi (fun (q : Int32) (_ : Unit) => q = y.2) (fun _ t => kE D ct ad G (wA ad G sz) y.1 t) (wA ad G sz)) 0 0 (wA ad G sz) := by
  refine Met.ofW (cc := cX6_two) (maxL := 3) (ret := (some .int)) (by decide) rfl ?_
  intro p e s m args below meth c s₁ B hml hv
  obtain ⟨rfl, hsz, hP, hK, hD0, hZ, hN⟩ := hv
  have hx := B.exec
  have hb := B.bytes
  have hr := B.returns
  have hts := atoms_spec (ws := wsX6_two) B.pre
  have hown : s.vm.findClass RX6 = some m.cls := findClass_of_methodNamed B.named
  have hlocks := B.notSynchronized
  subst hsz
  have hD := wD_self (sz := s.heap.size) hD0
  have hA9 : ∀ q, s.heap.size ≤ q → wA ad G s.heap.size q := fun q h => Or.inr h
  generalize hAe : wA ad G s.heap.size = A at hD hA9 hZ ⊢
  have hS : va_S A s.heap s.heap [] := va_S.rf
  have hl := lv_entry ([.ref (ad a), .int p0, .int p1]) (n := 3) (Nat.le_of_ble_eq_true rfl)
  rw [lg_entry_eq]
  generalize (lg_sl ([.ref (ad a), .int p0, .int p1]) ++ List.replicate (3 - (lg_sl ([.ref (ad a), .int p0, .int p1])).length) Slot.unset).toArray = ls at hl ⊢
  have hl : lv_has ls 3 [(0, .ref (ad a)), (1, .int p0), (2, .int p1)] := hl
  unfold FX6_two at hF
  refine lv_aload_n hx hb dX6_two_0 rfl (lv_at hl 0 rfl) ?_
  refine va_get (D := D) (ci := 6) (v := va_re ad (M.2 a 8)) (C := RX6) (T := TX6) (N := 14) hx hb hts (by decide +kernel) hown hK hP a (wld_o ct ad G M hc hk (by decide)) rfl 8 (by decide) (hts (.fieldLink RX6 36 "VideoSuite$Samples" "around" "[I") (by decide +kernel)) (fun _ h9 => h9) rfl dX6_two_1 ?_
  refine lv_iload_n hx hb dX6_two_4 rfl (lv_at hl 1 rfl) ?_
  obtain ⟨b1, ho1, hc1, hk1, hF⟩ := dr_some hF
  refine W_st (st' := [.int p0, .ref (ad b1)]) (by rw [va_some ho1]) ?_
  obtain ⟨hvc, hF⟩ := chk_some hF
  refine va_iald hx hb hK hP b1 1 (wld_i ct ad G M hc1 hk1) rfl hvc dX6_two_5 ?_
  obtain ⟨x2, ex2, hF⟩ := ltt_some hF
  refine lv_topi (fun zx2 ezx2 => ?_)
  obtain rfl : x2 = zx2 := ex2.trans ezx2.symm
  refine lv_aload_n hx hb dX6_two_6 rfl (lv_at hl 0 rfl) ?_
  refine va_get (D := D) (ci := 6) (v := va_re ad (M.2 a 8)) (C := RX6) (T := TX6) (N := 14) hx hb hts (by decide +kernel) hown hK hP a (wld_o ct ad G M hc hk (by decide)) rfl 8 (by decide) (hts (.fieldLink RX6 36 "VideoSuite$Samples" "around" "[I") (by decide +kernel)) (fun _ h9 => h9) rfl dX6_two_7 ?_
  refine lv_iload_n hx hb dX6_two_10 rfl (lv_at hl 2 rfl) ?_
  refine W_st (st' := [.int p1, .ref (ad b1), .int x2]) (by rw [va_some ho1]) ?_
  obtain ⟨hvc, hF⟩ := chk_some hF
  refine va_iald hx hb hK hP b1 1 (wld_i ct ad G M hc1 hk1) rfl hvc dX6_two_11 ?_
  obtain ⟨x3, ex3, hF⟩ := ltt_some hF
  refine lv_topi (fun zx3 ezx3 => ?_)
  obtain rfl : x3 = zx3 := ex3.trans ezx3.symm
  refine lv_iadd hx hb dX6_two_12 ?_
  obtain ⟨x4, ex4, hF⟩ := ltt_some hF
  refine lv_topi (fun zx4 ezx4 => ?_)
  obtain rfl : x4 = zx4 := ex4.trans ezx4.symm
  refine lv_iconst (v := (1 : Int32)) hx hb dX6_two_13 (by decide) ?_
  refine lv_iadd hx hb dX6_two_14 ?_
  obtain ⟨x5, ex5, hF⟩ := ltt_some hF
  refine lv_topi (fun zx5 ezx5 => ?_)
  obtain rfl : x5 = zx5 := ex5.trans ezx5.symm
  refine lv_iconst (v := (1 : Int32)) hx hb dX6_two_15 (by decide) ?_
  refine lv_ishr hx hb dX6_two_16 ?_
  obtain ⟨x6, ex6, hF⟩ := ltt_some hF
  refine lv_topi (fun zx6 ezx6 => ?_)
  obtain rfl : x6 = zx6 := ex6.trans ezx6.symm
  obtain rfl := Option.some.inj hF
  exact W.iret (v := x6) hx hb hr (fun t ht hW => ⟨⟨_, (), rfl, rfl, ⟨by rw [ht]; exact hP, va_K.moved hW.alike hK, hD⟩⟩, hS.F ht⟩) hS.2.2 dX6_two_17
theorem ggX6_unfold_J7_fill_53178 : GoodIn wsX6_unfold wsJ7_fill_53178 := goodIn_r _ [8] (by decide +kernel) (by decide +kernel)
set_option maxRecDepth 20000 in
theorem gX6_unfold_J7_fill_53178 : GoodIn wsX6_unfold (va_wsS RX6 212 yJ7_fill_53178 wsJ7_fill_53178) := goodIn_app (goodIn_of _ (by decide +kernel)) ggX6_unfold_J7_fill_53178
set_option maxRecDepth 20000 in
theorem ggX6_unfold_X6_normAt : GoodIn wsX6_unfold wsX6_normAt := goodIn_r _ [12] (by decide +kernel) (by decide +kernel)
set_option maxRecDepth 20000 in
theorem gX6_unfold_X6_normAt : GoodIn wsX6_unfold (va_wsS RX6 227 yX6_normAt wsX6_normAt) := goodIn_app (goodIn_of _ (by decide +kernel)) ggX6_unfold_X6_normAt
theorem dX6_unfold_0 : decode cX6_unfold 0 = .ok (.aload_n 0, 1) := by decide +kernel
theorem dX6_unfold_1 : decode cX6_unfold 1 = .ok (.getfield 30, 3) := by decide +kernel
theorem dX6_unfold_4 : decode cX6_unfold 4 = .ok (.iconst 0, 1) := by decide +kernel
theorem dX6_unfold_5 : decode cX6_unfold 5 = .ok (.invokestatic 212, 3) := by decide +kernel
theorem dX6_unfold_8 : decode cX6_unfold 8 = .ok (.iload_n 3, 1) := by decide +kernel
theorem dX6_unfold_9 : decode cX6_unfold 9 = .ok (.istore 5, 2) := by decide +kernel
theorem dX6_unfold_11 : decode cX6_unfold 11 = .ok (.iload 5, 2) := by decide +kernel
theorem dX6_unfold_13 : decode cX6_unfold 13 = .ok (.bipush 16, 2) := by decide +kernel
theorem dX6_unfold_15 : decode cX6_unfold 15 = .ok (.if_icmp .ge 63, 3) := by decide +kernel
theorem dX6_unfold_18 : decode cX6_unfold 18 = .ok (.getstatic 218, 3) := by decide +kernel
theorem dX6_unfold_21 : decode cX6_unfold 21 = .ok (.iload 5, 2) := by decide +kernel
theorem dX6_unfold_23 : decode cX6_unfold 23 = .ok (.iaload, 1) := by decide +kernel
theorem dX6_unfold_24 : decode cX6_unfold 24 = .ok (.istore 6, 2) := by decide +kernel
theorem dX6_unfold_26 : decode cX6_unfold 26 = .ok (.getstatic 221, 3) := by decide +kernel
theorem dX6_unfold_29 : decode cX6_unfold 29 = .ok (.iload 5, 2) := by decide +kernel
theorem dX6_unfold_31 : decode cX6_unfold 31 = .ok (.iaload, 1) := by decide +kernel
theorem dX6_unfold_32 : decode cX6_unfold 32 = .ok (.istore 7, 2) := by decide +kernel
theorem dX6_unfold_34 : decode cX6_unfold 34 = .ok (.aload_n 0, 1) := by decide +kernel
theorem dX6_unfold_35 : decode cX6_unfold 35 = .ok (.getfield 30, 3) := by decide +kernel
theorem dX6_unfold_38 : decode cX6_unfold 38 = .ok (.iconst 4, 1) := by decide +kernel
theorem dX6_unfold_39 : decode cX6_unfold 39 = .ok (.iload 7, 2) := by decide +kernel
theorem dX6_unfold_41 : decode cX6_unfold 41 = .ok (.imul, 1) := by decide +kernel
theorem dX6_unfold_42 : decode cX6_unfold 42 = .ok (.iload 6, 2) := by decide +kernel
theorem dX6_unfold_44 : decode cX6_unfold 44 = .ok (.iadd, 1) := by decide +kernel
theorem dX6_unfold_45 : decode cX6_unfold 45 = .ok (.aload_n 1, 1) := by decide +kernel
theorem dX6_unfold_46 : decode cX6_unfold 46 = .ok (.iload_n 2, 1) := by decide +kernel
theorem dX6_unfold_47 : decode cX6_unfold 47 = .ok (.iload 5, 2) := by decide +kernel
theorem dX6_unfold_49 : decode cX6_unfold 49 = .ok (.iadd, 1) := by decide +kernel
theorem dX6_unfold_50 : decode cX6_unfold 50 = .ok (.iaload, 1) := by decide +kernel
theorem dX6_unfold_51 : decode cX6_unfold 51 = .ok (.getstatic 224, 3) := by decide +kernel
theorem dX6_unfold_54 : decode cX6_unfold 54 = .ok (.iload 4, 2) := by decide +kernel
theorem dX6_unfold_56 : decode cX6_unfold 56 = .ok (.iload 6, 2) := by decide +kernel
theorem dX6_unfold_58 : decode cX6_unfold 58 = .ok (.iload 7, 2) := by decide +kernel
theorem dX6_unfold_60 : decode cX6_unfold 60 = .ok (.invokestatic 227, 3) := by decide +kernel
theorem dX6_unfold_63 : decode cX6_unfold 63 = .ok (.iaload, 1) := by decide +kernel
theorem dX6_unfold_64 : decode cX6_unfold 64 = .ok (.imul, 1) := by decide +kernel
theorem dX6_unfold_65 : decode cX6_unfold 65 = .ok (.iload 4, 2) := by decide +kernel
theorem dX6_unfold_67 : decode cX6_unfold 67 = .ok (.bipush 6, 2) := by decide +kernel
theorem dX6_unfold_69 : decode cX6_unfold 69 = .ok (.idiv, 1) := by decide +kernel
theorem dX6_unfold_70 : decode cX6_unfold 70 = .ok (.ishl, 1) := by decide +kernel
theorem dX6_unfold_71 : decode cX6_unfold 71 = .ok (.iastore, 1) := by decide +kernel
theorem dX6_unfold_72 : decode cX6_unfold 72 = .ok (.iinc 5 1, 3) := by decide +kernel
theorem dX6_unfold_75 : decode cX6_unfold 75 = .ok (.goto (-64), 3) := by decide +kernel
theorem dX6_unfold_78 : decode cX6_unfold 78 = .ok (.return_, 1) := by decide +kernel
def FX6_unfold (G : GG) (M : DD) (a : Nat) (p0 : Option Nat) (p1 : Int32) (p2 : Int32) (p3 : Int32) : Option (DD) :=
  bnd (FJ7_fill_53178 G M ((M.2 a 6)) ((0 : Int32))) fun y1 =>
  bnd (itr (fun (s3 : Int32 × DD) => ((if ((16 : Int32)) ≤ s3.1 then (some (.inr (s3.1, s3.2))) else
  (chk (¬ (s3.1 < 0 ∨ 16 ≤ s3.1.toNatClampNeg)) <|
  ltt ((sT 14).getD s3.1.toNatClampNeg 0) fun x7 =>
  chk (¬ (s3.1 < 0 ∨ 16 ≤ s3.1.toNatClampNeg)) <|
  ltt ((sT 15).getD s3.1.toNatClampNeg 0) fun x8 =>
  ltt ((((4 : Int32)) * x8)) fun x9 =>
  ltt ((x9 + x7)) fun x10 =>
  ltt ((p1 + s3.1)) fun x11 =>
  dr G 13 p0 fun b12 =>
  chk (¬ (x11 < 0 ∨ G.2.2 b12 ≤ x11.toNatClampNeg)) <|
  ltt (s3.2.1 b12 x11.toNatClampNeg) fun x13 =>
  bnd (FX6_normAt G s3.2 p3 x7 x8) fun y14 =>
  chk (¬ (y14.2 < 0 ∨ 18 ≤ y14.2.toNatClampNeg)) <|
  ltt ((sT 13).getD y14.2.toNatClampNeg 0) fun x15 =>
  ltt ((x13 * x15)) fun x16 =>
  ltt (p3 / ((6 : Int32))) fun x17 =>
  ltt ((x16 <<< (x17 &&& 31))) fun x18 =>
  dr G 13 ((s3.2.2 a 6)) fun b19 =>
  chk (¬ (x10 < 0 ∨ G.2.2 b19 ≤ x10.toNatClampNeg)) <|
  ltt (uI y14.1 b19 x10.toNatClampNeg x18) fun M20 =>
  ltt (s3.1 + (1 : Int32)) fun x21 =>
  some (.inl (x21, M20)))) : Option ((Int32 × DD) ⊕ (Int32 × DD)))) 1000000 (p2, y1)) fun (y2 : Int32 × DD) =>
  some y2.2
set_option maxHeartbeats 4000000 in
set_option maxRecDepth 100000 in
theorem kX6_unfold (l : Launch) (D : va_G) (ct : CT) (ad : Nat → Nat) (Z : Nat → Nat) (G : GG) (M : DD) (sz : Nat) (a : Nat) (p0 : Option Nat) (p1 : Int32) (p2 : Int32) (p3 : Int32) (y : DD) (hc : a < G.1) (hk : G.2.1 a = 6) (hF : FX6_unfold G M a p0 p1 p2 p3 = some y) : Met l yX6_unfold wsX6_unfold ({ frames := 1, cells := 0, slots := 0, locals := 23 }) (va_Pc [.ref (ad a), va_re ad p0, .int p1, .int p2, .int p3] (kB D ct ad Z G M sz)) (va_Qv (fun (_ : Unit) => True) (fun _ t => kE D ct ad G (wA ad G sz) y t) (wA ad G sz)) 0 0 (wA ad G sz) := by
  refine Met.ofW (cc := cX6_unfold) (maxL := 8) (ret := none) (by decide) rfl ?_
  intro p e s m args below meth c s₁ B hml hv
  obtain ⟨rfl, hsz, hP, hK, hD0, hZ, hN⟩ := hv
  have hx := B.exec
  have hb := B.bytes
  have hr := B.returns
  have hts := atoms_spec (ws := wsX6_unfold) B.pre
  have hown : s.vm.findClass RX6 = some m.cls := findClass_of_methodNamed B.named
  have hlocks := B.notSynchronized
  subst hsz
  have hD := wD_self (sz := s.heap.size) hD0
  have hA9 : ∀ q, s.heap.size ≤ q → wA ad G s.heap.size q := fun q h => Or.inr h
  generalize hAe : wA ad G s.heap.size = A at hD hA9 hZ ⊢
  have hS : va_S A s.heap s.heap [] := va_S.rf
  have hl := lv_entry ([.ref (ad a), va_re ad p0, .int p1, .int p2, .int p3]) (n := 8) (by cases p0 <;> exact Nat.le_of_ble_eq_true rfl)
  rw [lg_entry_eq]
  generalize (lg_sl ([.ref (ad a), va_re ad p0, .int p1, .int p2, .int p3]) ++ List.replicate (8 - (lg_sl ([.ref (ad a), va_re ad p0, .int p1, .int p2, .int p3])).length) Slot.unset).toArray = ls at hl ⊢
  have hl : lv_has ls 8 [(0, .ref (ad a)), (1, va_re ad p0), (2, .int p1), (3, .int p2), (4, .int p3)] := by have e9 : lv_args 0 [.ref (ad a), va_re ad p0, .int p1, .int p2, .int p3] = [(0, .ref (ad a)), (1, va_re ad p0), (2, .int p1), (3, .int p2), (4, .int p3)] := (by cases p0 <;> rfl); rw [e9] at hl; exact hl
  unfold FX6_unfold at hF
  refine lv_aload_n hx hb dX6_unfold_0 rfl (lv_at hl 0 rfl) ?_
  refine va_get (D := D) (ci := 6) (v := va_re ad (M.2 a 6)) (C := RX6) (T := TX6) (N := 14) hx hb hts (by decide +kernel) hown hK hP a (wld_o ct ad G M hc hk (by decide)) rfl 6 (by decide) (hts (.fieldLink RX6 30 "VideoSuite$Samples" "rest" "[I") (by decide +kernel)) (fun _ h9 => h9) rfl dX6_unfold_1 ?_
  refine lv_iconst (v := (0 : Int32)) hx hb dX6_unfold_4 (by decide) ?_
  obtain ⟨y1, hy1, hF⟩ := bnd_some hF
  have hf9 := wA_in hD hA9 hS
  refine va_callv (va_runS (As := [va_re ad (M.2 a 6), .int (0 : Int32)]) (rest := []) ⟨hx, hb, hml, hown, hts⟩ (kJ7_fill_53178 l D ct ad Z G M s.heap.size ((M.2 a 6)) ((0 : Int32)) y1 hy1) (va_cwS 2 hts gX6_unfold_J7_fill_53178 rfl rfl rfl (by decide +kernel) ⟨Nat.le_of_ble_eq_true rfl, Nat.le_of_ble_eq_true rfl⟩) ⟨fun a U g mk q => by obtain ⟨q0, q1, qP, qK, qD, qZ, qN⟩ := q; exact ⟨q0, q1, qP, va_K.moved (u := U) (U := U.calling g mk a) (Vm.Alike.refl U.vm) qK, qD, sF.moved (u := U) (U := U.calling g mk a) (Vm.Alike.refl U.vm) qZ, nF.same rfl qN⟩, fun U hU hW => ⟨rfl, by rw [hU], by rw [hU]; exact hP, va_K.moved hW.alike hK, hD.weaken (fun _ _ _ _ => trivial), by rw [hU]; exact ((hZ.kept hS.2.1).narrow hf9).moved hW.alike, hN.warm hW⟩⟩ rfl rfl hl.1 rfl (lv_room (Nat.le_of_ble_eq_true rfl)) dX6_unfold_5 ⟨(Nat.zero_le _), (Nat.zero_le _)⟩) hS (fun q _ h => hf9 q h) hf9 (fun u t H locs ht hvm hw hB hz1 hk1 hS => ?_)
  obtain ⟨hP, hK9, hD9⟩ := hB
  rw [ht] at hP
  have hD := hD9.weaken (fun _ q _ h => hf9 q.1 h)
  refine lv_iload_n hx hb dX6_unfold_8 rfl (lv_at hl 3 rfl) ?_
  refine lv_istore (lv' := [(5, .int p2), (0, .ref (ad a)), (1, va_re ad p0), (2, .int p1), (3, .int p2), (4, .int p3)]) hx hb dX6_unfold_9 hl (by decide) rfl (fun ls hl => ?_)
  obtain ⟨y2, hy2, hF⟩ := bnd_some hF
  have K2 : ∀ (H : Heap) (locs : List Loc) (ls : Array Slot), va_P D classes (wld ct ad G y2.2) H → va_D A (wld ct ad G y2.2) → va_S A s.heap H locs → lv_has ls 8 [(5, .int y2.1), (0, .ref (ad a)), (1, va_re ad p0), (2, .int p1), (3, .int p2), (4, .int p3)] → W p l e (headSpec wsX6_unfold ({ frames := 1, cells := 0, slots := 0, locals := 23 })).room s m ([.ref (ad a), va_re ad p0, .int p1, .int p2, .int p3] : List Value).toArray below meth c H locs 0 0 (MQ below (va_Qv (fun (_ : Unit) => True) (fun _ t => kE D ct ad G A y t) A) ([.ref (ad a), va_re ad p0, .int p1, .int p2, .int p3] : List Value).toArray s 0 0 A) (F0 m 78 ls []) := by
    intro H locs ls hP hD hS hl
    obtain rfl := Option.some.inj hF
    exact W.vret hx hb hr (fun t ht hW => ⟨⟨(), rfl, trivial, ⟨by rw [ht]; exact hP, va_K.moved hW.alike hK, hD⟩⟩, hS.F ht⟩) hS.2.2 dX6_unfold_78
  clear hF
  refine itr_rule (fun (s3 : Int32 × DD) => ∀ (H : Heap) (locs : List Loc) (ls : Array Slot), va_P D classes (wld ct ad G s3.2) H → va_D A (wld ct ad G s3.2) → va_S A s.heap H locs → lv_has ls 8 [(5, .int s3.1), (0, .ref (ad a)), (1, va_re ad p0), (2, .int p1), (3, .int p2), (4, .int p3)] → W p l e (headSpec wsX6_unfold ({ frames := 1, cells := 0, slots := 0, locals := 23 })).room s m ([.ref (ad a), va_re ad p0, .int p1, .int p2, .int p3] : List Value).toArray below meth c H locs 0 0 (MQ below (va_Qv (fun (_ : Unit) => True) (fun _ t => kE D ct ad G A y t) A) ([.ref (ad a), va_re ad p0, .int p1, .int p2, .int p3] : List Value).toArray s 0 0 A) (F0 m 11 ls [])) ?_ _ _ hy2 _ _ _ hP hD hS (lv_sub hl [0, 1, 2, 3, 4, 5] rfl)
  rintro s3 ⟨z5, hF, hwz5⟩ H locs ls hP hD hS hl
  try dsimp only at hF
  refine lv_iload hx hb dX6_unfold_11 (lv_at hl 0 rfl) ?_
  refine lv_bipush (v := (16 : Int32)) hx hb dX6_unfold_13 (by decide) ?_
  refine lv_icmp_ge (tgt := 78) hx hb dX6_unfold_15 (by decide) (fun c6 => ?_) (fun c6 => ?_)
  · rw [if_pos c6] at hF
    obtain rfl := Option.some.inj hF
    subst hwz5
    exact K2 _ _ _ hP hD hS (lv_sub hl [0, 1, 2, 3, 4, 5] rfl)
  · rw [if_neg c6] at hF
    refine va_gets hx hb (hZ.1 14 (by decide)).1 hS hown (hts (.fieldLink RX6 218 "VideoSuite$Samples" "SCAN_X" "[I") (by decide +kernel)) (fun _ h => h) dX6_unfold_18 ?_
    refine lv_iload hx hb dX6_unfold_21 (lv_at hl 0 rfl) ?_
    obtain ⟨hvc, hF⟩ := chk_some hF
    refine va_ti (v := .int ((sT 14).getD s3.1.toNatClampNeg 0)) hx hb (hZ.1 14 (by decide)).2 hS hvc rfl dX6_unfold_23 ?_
    obtain ⟨x7, ex7, hF⟩ := ltt_some hF
    refine lv_topi (fun zx7 ezx7 => ?_)
    obtain rfl : x7 = zx7 := ex7.trans ezx7.symm
    refine lv_istore (lv' := [(6, .int x7), (5, .int s3.1), (0, .ref (ad a)), (1, va_re ad p0), (2, .int p1), (3, .int p2), (4, .int p3)]) hx hb dX6_unfold_24 hl (by decide) rfl (fun ls hl => ?_)
    refine va_gets hx hb (hZ.1 15 (by decide)).1 hS hown (hts (.fieldLink RX6 221 "VideoSuite$Samples" "SCAN_Y" "[I") (by decide +kernel)) (fun _ h => h) dX6_unfold_26 ?_
    refine lv_iload hx hb dX6_unfold_29 (lv_at hl 1 rfl) ?_
    obtain ⟨hvc, hF⟩ := chk_some hF
    refine va_ti (v := .int ((sT 15).getD s3.1.toNatClampNeg 0)) hx hb (hZ.1 15 (by decide)).2 hS hvc rfl dX6_unfold_31 ?_
    obtain ⟨x8, ex8, hF⟩ := ltt_some hF
    refine lv_topi (fun zx8 ezx8 => ?_)
    obtain rfl : x8 = zx8 := ex8.trans ezx8.symm
    refine lv_istore (lv' := [(7, .int x8), (6, .int x7), (5, .int s3.1), (0, .ref (ad a)), (1, va_re ad p0), (2, .int p1), (3, .int p2), (4, .int p3)]) hx hb dX6_unfold_32 hl (by decide) rfl (fun ls hl => ?_)
    refine lv_aload_n hx hb dX6_unfold_34 rfl (lv_at hl 3 rfl) ?_
    refine va_get (D := D) (ci := 6) (v := va_re ad (s3.2.2 a 6)) (C := RX6) (T := TX6) (N := 14) hx hb hts (by decide +kernel) hown hK hP a (wld_o ct ad G s3.2 hc hk (by decide)) rfl 6 (by decide) (hts (.fieldLink RX6 30 "VideoSuite$Samples" "rest" "[I") (by decide +kernel)) (fun _ h9 => h9) rfl dX6_unfold_35 ?_
    refine lv_iconst (v := (4 : Int32)) hx hb dX6_unfold_38 (by decide) ?_
    refine lv_iload hx hb dX6_unfold_39 (lv_at hl 0 rfl) ?_
    refine lv_imul hx hb dX6_unfold_41 ?_
    obtain ⟨x9, ex9, hF⟩ := ltt_some hF
    refine lv_topi (fun zx9 ezx9 => ?_)
    obtain rfl : x9 = zx9 := ex9.trans ezx9.symm
    refine lv_iload hx hb dX6_unfold_42 (lv_at hl 1 rfl) ?_
    refine lv_iadd hx hb dX6_unfold_44 ?_
    obtain ⟨x10, ex10, hF⟩ := ltt_some hF
    refine lv_topi (fun zx10 ezx10 => ?_)
    obtain rfl : x10 = zx10 := ex10.trans ezx10.symm
    refine lv_aloadq_n hx hb dX6_unfold_45 rfl (lv_at hl 4 rfl) ?_
    refine lv_iload_n hx hb dX6_unfold_46 rfl (lv_at hl 5 rfl) ?_
    refine lv_iload hx hb dX6_unfold_47 (lv_at hl 2 rfl) ?_
    refine lv_iadd hx hb dX6_unfold_49 ?_
    obtain ⟨x11, ex11, hF⟩ := ltt_some hF
    refine lv_topi (fun zx11 ezx11 => ?_)
    obtain rfl : x11 = zx11 := ex11.trans ezx11.symm
    obtain ⟨b12, ho12, hc12, hk12, hF⟩ := dr_some hF
    refine W_st (st' := [.int x11, .ref (ad b12), .int x10, va_re ad (s3.2.2 a 6)]) (by rw [va_some ho12]) ?_
    obtain ⟨hvc, hF⟩ := chk_some hF
    refine va_iald hx hb hK hP b12 1 (wld_i ct ad G s3.2 hc12 hk12) rfl hvc dX6_unfold_50 ?_
    obtain ⟨x13, ex13, hF⟩ := ltt_some hF
    refine lv_topi (fun zx13 ezx13 => ?_)
    obtain rfl : x13 = zx13 := ex13.trans ezx13.symm
    refine va_gets hx hb (hZ.1 13 (by decide)).1 hS hown (hts (.fieldLink RX6 224 "VideoSuite$Samples" "NORM" "[I") (by decide +kernel)) (fun _ h => h) dX6_unfold_51 ?_
    refine lv_iload hx hb dX6_unfold_54 (lv_at hl 7 rfl) ?_
    refine lv_iload hx hb dX6_unfold_56 (lv_at hl 1 rfl) ?_
    refine lv_iload hx hb dX6_unfold_58 (lv_at hl 0 rfl) ?_
    obtain ⟨y14, hy14, hF⟩ := bnd_some hF
    have hf9 := wA_in hD hA9 hS
    refine va_calli (va_runS (As := [.int p3, .int x7, .int x8]) (rest := [.ref (Z 13), .int x13, .int x10, va_re ad (s3.2.2 a 6)]) ⟨hx, hb, hml, hown, hts⟩ (kX6_normAt l D ct ad Z G s3.2 H.size p3 x7 x8 y14 hy14) (va_cwS 3 hts gX6_unfold_X6_normAt rfl rfl rfl (by decide +kernel) ⟨Nat.le_of_ble_eq_true rfl, Nat.le_of_ble_eq_true rfl⟩) ⟨fun a U g mk q => by obtain ⟨q0, q1, qP, qK, qD, qZ, qN⟩ := q; exact ⟨q0, q1, qP, va_K.moved (u := U) (U := U.calling g mk a) (Vm.Alike.refl U.vm) qK, qD, sF.moved (u := U) (U := U.calling g mk a) (Vm.Alike.refl U.vm) qZ, nF.same rfl qN⟩, fun U hU hW => ⟨rfl, by rw [hU], by rw [hU]; exact hP, va_K.moved hW.alike hK, hD.weaken (fun _ _ _ _ => trivial), by rw [hU]; exact ((hZ.kept hS.2.1).narrow hf9).moved hW.alike, hN.warm hW⟩⟩ rfl rfl hl.1 rfl (lv_room (by simp only [List.map, va_re_cat]; exact Nat.le_of_ble_eq_true rfl)) dX6_unfold_60 ⟨(Nat.zero_le _), (Nat.zero_le _)⟩) hS (fun q _ h => hf9 q h) hf9 (fun r u t H locs ht hvm hw hB hz1 hk1 hS => ?_)
    obtain ⟨hP, hK9, hD9⟩ := hB
    rw [ht] at hP
    try dsimp only at hw
    subst hw
    have hD := hD9.weaken (fun _ q _ h => hf9 q.1 h)
    obtain ⟨hvc, hF⟩ := chk_some hF
    refine va_ti (v := .int ((sT 13).getD y14.2.toNatClampNeg 0)) hx hb (hZ.1 13 (by decide)).2 hS hvc rfl dX6_unfold_63 ?_
    obtain ⟨x15, ex15, hF⟩ := ltt_some hF
    refine lv_topi (fun zx15 ezx15 => ?_)
    obtain rfl : x15 = zx15 := ex15.trans ezx15.symm
    refine lv_imul hx hb dX6_unfold_64 ?_
    obtain ⟨x16, ex16, hF⟩ := ltt_some hF
    refine lv_topi (fun zx16 ezx16 => ?_)
    obtain rfl : x16 = zx16 := ex16.trans ezx16.symm
    refine lv_iload hx hb dX6_unfold_65 (lv_at hl 7 rfl) ?_
    refine lv_bipush (v := (6 : Int32)) hx hb dX6_unfold_67 (by decide) ?_
    refine lv_idiv hx hb dX6_unfold_69 (by decide) ?_
    obtain ⟨x17, ex17, hF⟩ := ltt_some hF
    refine lv_topi (fun zx17 ezx17 => ?_)
    obtain rfl : x17 = zx17 := ex17.trans ezx17.symm
    refine lv_ishl hx hb dX6_unfold_70 ?_
    obtain ⟨x18, ex18, hF⟩ := ltt_some hF
    refine lv_topi (fun zx18 ezx18 => ?_)
    obtain rfl : x18 = zx18 := ex18.trans ezx18.symm
    obtain ⟨b19, ho19, hc19, hk19, hF⟩ := dr_some hF
    refine W_st (st' := [.int x18, .int x10, .ref (ad b19)]) (by rw [va_some ho19]) ?_
    obtain ⟨hvc, hF⟩ := chk_some hF
    refine va_iast hx hb hK hP hD hS b19 1 (wld_i ct ad G y14.1 hc19 hk19) rfl hvc dX6_unfold_71 (fun H locs hP hD hS => ?_)
    obtain ⟨M20, eM20, hF⟩ := ltt_some hF
    rw [set_i ct ad G y14.1 hc19 hk19, ← eM20] at hP hD
    obtain ⟨x21, ex21, hF⟩ := ltt_some hF
    refine lv_iinc (v := x21) (lv' := [(5, .int x21), (7, .int x8), (6, .int x7), (0, .ref (ad a)), (1, va_re ad p0), (2, .int p1), (3, .int p2), (4, .int p3)]) hx hb dX6_unfold_72 hl (k := 2) rfl (by rw [ex21]; rfl) (by decide) rfl (fun ls hl => ?_)
    refine lv_goto (tgt := 11) hx hb dX6_unfold_75 (by decide) ?_
    obtain rfl := Option.some.inj hF
    exact hwz5 _ _ _ hP hD hS (lv_sub hl [0, 3, 4, 5, 6, 7] rfl)
theorem dX7_belongs_0 : decode cX7_belongs 0 = .ok (.iload_n 2, 1) := by decide +kernel
theorem dX7_belongs_1 : decode cX7_belongs 1 = .ok (.iconst 3, 1) := by decide +kernel
theorem dX7_belongs_2 : decode cX7_belongs 2 = .ok (.if_icmp .ne 17, 3) := by decide +kernel
theorem dX7_belongs_5 : decode cX7_belongs 5 = .ok (.aload_n 0, 1) := by decide +kernel
theorem dX7_belongs_6 : decode cX7_belongs 6 = .ok (.getfield 123, 3) := by decide +kernel
theorem dX7_belongs_9 : decode cX7_belongs 9 = .ok (.iconst 2, 1) := by decide +kernel
theorem dX7_belongs_10 : decode cX7_belongs 10 = .ok (.if_icmp .ne 7, 3) := by decide +kernel
theorem dX7_belongs_13 : decode cX7_belongs 13 = .ok (.iconst 1, 1) := by decide +kernel
theorem dX7_belongs_14 : decode cX7_belongs 14 = .ok (.goto 4, 3) := by decide +kernel
theorem dX7_belongs_17 : decode cX7_belongs 17 = .ok (.iconst 0, 1) := by decide +kernel
theorem dX7_belongs_18 : decode cX7_belongs 18 = .ok (.ireturn, 1) := by decide +kernel
theorem dX7_belongs_19 : decode cX7_belongs 19 = .ok (.aload_n 0, 1) := by decide +kernel
theorem dX7_belongs_20 : decode cX7_belongs 20 = .ok (.getfield 123, 3) := by decide +kernel
theorem dX7_belongs_23 : decode cX7_belongs 23 = .ok (.iconst 1, 1) := by decide +kernel
theorem dX7_belongs_24 : decode cX7_belongs 24 = .ok (.if_icmp .ne 43, 3) := by decide +kernel
theorem dX7_belongs_27 : decode cX7_belongs 27 = .ok (.iload_n 2, 1) := by decide +kernel
theorem dX7_belongs_28 : decode cX7_belongs 28 = .ok (.ifCond .eq 35, 3) := by decide +kernel
theorem dX7_belongs_31 : decode cX7_belongs 31 = .ok (.iload_n 2, 1) := by decide +kernel
theorem dX7_belongs_32 : decode cX7_belongs 32 = .ok (.iconst 1, 1) := by decide +kernel
theorem dX7_belongs_33 : decode cX7_belongs 33 = .ok (.if_icmp .ne 14, 3) := by decide +kernel
theorem dX7_belongs_36 : decode cX7_belongs 36 = .ok (.aload_n 0, 1) := by decide +kernel
theorem dX7_belongs_37 : decode cX7_belongs 37 = .ok (.getfield 126, 3) := by decide +kernel
theorem dX7_belongs_40 : decode cX7_belongs 40 = .ok (.aload_n 1, 1) := by decide +kernel
theorem dX7_belongs_41 : decode cX7_belongs 41 = .ok (.getfield 126, 3) := by decide +kernel
theorem dX7_belongs_44 : decode cX7_belongs 44 = .ok (.if_icmp .lt 19, 3) := by decide +kernel
theorem dX7_belongs_47 : decode cX7_belongs 47 = .ok (.iload_n 2, 1) := by decide +kernel
theorem dX7_belongs_48 : decode cX7_belongs 48 = .ok (.iconst 2, 1) := by decide +kernel
theorem dX7_belongs_49 : decode cX7_belongs 49 = .ok (.if_icmp .ne 18, 3) := by decide +kernel
theorem dX7_belongs_52 : decode cX7_belongs 52 = .ok (.aload_n 0, 1) := by decide +kernel
theorem dX7_belongs_53 : decode cX7_belongs 53 = .ok (.getfield 126, 3) := by decide +kernel
theorem dX7_belongs_56 : decode cX7_belongs 56 = .ok (.aload_n 1, 1) := by decide +kernel
theorem dX7_belongs_57 : decode cX7_belongs 57 = .ok (.getfield 126, 3) := by decide +kernel
theorem dX7_belongs_60 : decode cX7_belongs 60 = .ok (.if_icmp .le 7, 3) := by decide +kernel
theorem dX7_belongs_63 : decode cX7_belongs 63 = .ok (.iconst 1, 1) := by decide +kernel
theorem dX7_belongs_64 : decode cX7_belongs 64 = .ok (.goto 4, 3) := by decide +kernel
theorem dX7_belongs_67 : decode cX7_belongs 67 = .ok (.iconst 0, 1) := by decide +kernel
theorem dX7_belongs_68 : decode cX7_belongs 68 = .ok (.ireturn, 1) := by decide +kernel
def FX7_belongs (G : GG) (M : DD) (p0 : Option Nat) (p1 : Option Nat) (p2 : Int32) : Option (DD × Int32) :=
  if p2 = ((3 : Int32)) then (dr G 4 p0 fun b28 =>
  ltt (M.1 b28 10) fun x29 =>
  bnd (if x29 = ((2 : Int32)) then (some ((1 : Int32))) else
  (some ((0 : Int32)))) fun (y30 : Int32) =>
  chk (y30 = 0 ∨ y30 = 1) <|
  some (M, y30)) else
  (dr G 4 p0 fun b2 =>
  ltt (M.1 b2 10) fun x3 =>
  bnd (if x3 = ((1 : Int32)) then (bnd (if p2 = ((0 : Int32)) then (some ((1 : Int32))) else
  (bnd (if p2 = ((1 : Int32)) then (ltt (M.1 b2 9) fun x17 =>
  dr G 4 p1 fun b18 =>
  ltt (M.1 b18 9) fun x19 =>
  bnd (if x17 < x19 then (some ((1 : Int32))) else
  (bnd (if p2 = ((2 : Int32)) then (ltt (M.1 b2 9) fun x24 =>
  ltt (M.1 b18 9) fun x25 =>
  bnd (if x24 ≤ x25 then (some ((0 : Int32))) else
  (some ((1 : Int32)))) fun (y26 : Int32) =>
  some (y26)) else
  (some ((0 : Int32)))) fun (y22 : Int32) =>
  some (y22))) fun (y20 : Int32) =>
  some (y20)) else
  (bnd (if p2 = ((2 : Int32)) then (ltt (M.1 b2 9) fun x12 =>
  dr G 4 p1 fun b13 =>
  ltt (M.1 b13 9) fun x14 =>
  bnd (if x12 ≤ x14 then (some ((0 : Int32))) else
  (some ((1 : Int32)))) fun (y15 : Int32) =>
  some (y15)) else
  (some ((0 : Int32)))) fun (y10 : Int32) =>
  some (y10))) fun (y8 : Int32) =>
  some (y8))) fun (y6 : Int32) =>
  some (y6)) else
  (some ((0 : Int32)))) fun (y4 : Int32) =>
  chk (y4 = 0 ∨ y4 = 1) <|
  some (M, y4))
set_option maxHeartbeats 4000000 in
set_option maxRecDepth 100000 in
theorem kX7_belongs (l : Launch) (D : va_G) (ct : CT) (ad : Nat → Nat) (Z : Nat → Nat) (G : GG) (M : DD) (sz : Nat) (p0 : Option Nat) (p1 : Option Nat) (p2 : Int32) (y : DD × Int32) (hF : FX7_belongs G M p0 p1 p2 = some y) : Met l yX7_belongs wsX7_belongs ({ frames := 0, cells := 0, slots := 0, locals := 0 }) (va_Pc [va_re ad p0, va_re ad p1, .int p2] (kB D ct ad Z G M sz)) (va_Qi (fun (q : Int32) (_ : Unit) => q = y.2) (fun _ t => kE D ct ad G (wA ad G sz) y.1 t) (wA ad G sz)) 0 0 (wA ad G sz) := by
  refine Met.ofW (cc := cX7_belongs) (maxL := 3) (ret := (some .boolean)) (by decide) rfl ?_
  intro p e s m args below meth c s₁ B hml hv
  obtain ⟨rfl, hsz, hP, hK, hD0, hZ, hN⟩ := hv
  have hx := B.exec
  have hb := B.bytes
  have hr := B.returns
  have hts := atoms_spec (ws := wsX7_belongs) B.pre
  have hown : s.vm.findClass RX7 = some m.cls := findClass_of_methodNamed B.named
  have hlocks := B.notSynchronized
  subst hsz
  have hD := wD_self (sz := s.heap.size) hD0
  have hA9 : ∀ q, s.heap.size ≤ q → wA ad G s.heap.size q := fun q h => Or.inr h
  generalize hAe : wA ad G s.heap.size = A at hD hA9 hZ ⊢
  have hS : va_S A s.heap s.heap [] := va_S.rf
  have hl := lv_entry ([va_re ad p0, va_re ad p1, .int p2]) (n := 3) (by cases p0 <;> cases p1 <;> exact Nat.le_of_ble_eq_true rfl)
  rw [lg_entry_eq]
  generalize (lg_sl ([va_re ad p0, va_re ad p1, .int p2]) ++ List.replicate (3 - (lg_sl ([va_re ad p0, va_re ad p1, .int p2])).length) Slot.unset).toArray = ls at hl ⊢
  have hl : lv_has ls 3 [(0, va_re ad p0), (1, va_re ad p1), (2, .int p2)] := by have e9 : lv_args 0 [va_re ad p0, va_re ad p1, .int p2] = [(0, va_re ad p0), (1, va_re ad p1), (2, .int p2)] := (by cases p0 <;> cases p1 <;> rfl); rw [e9] at hl; exact hl
  unfold FX7_belongs at hF
  refine lv_iload_n hx hb dX7_belongs_0 rfl (lv_at hl 2 rfl) ?_
  refine lv_iconst (v := (3 : Int32)) hx hb dX7_belongs_1 (by decide) ?_
  refine lv_icmp_ne (tgt := 19) hx hb dX7_belongs_2 (by decide) (fun c1 => ?_) (fun c1 => ?_)
  · rw [if_neg c1] at hF
    refine lv_aloadq_n hx hb dX7_belongs_19 rfl (lv_at hl 0 rfl) ?_
    obtain ⟨b2, ho2, hc2, hk2, hF⟩ := dr_some hF
    refine W_st (st' := [.ref (ad b2)]) (by rw [va_some ho2]) ?_
    refine va_get (D := D) (ci := 4) (v := .int (M.1 b2 10)) (C := RX4) (T := TX4) (N := 18) hx hb hts (by decide +kernel) hown hK hP b2 (wld_o ct ad G M hc2 hk2 (by decide)) rfl 10 (by decide) (hts (.fieldLink RX7 123 "VideoSuite$Picture" "use" "I") (by decide +kernel)) (fun _ h9 => h9) rfl dX7_belongs_20 ?_
    obtain ⟨x3, ex3, hF⟩ := ltt_some hF
    refine lv_topi (fun zx3 ezx3 => ?_)
    obtain rfl : x3 = zx3 := ex3.trans ezx3.symm
    refine lv_iconst (v := (1 : Int32)) hx hb dX7_belongs_23 (by decide) ?_
    obtain ⟨y4, hy4, hF⟩ := bnd_some hF
    have J4 : ∀ (H : Heap) (locs : List Loc) (ls : Array Slot), va_P D classes (wld ct ad G M) H → va_D A (wld ct ad G M) → va_S A s.heap H locs → lv_has ls 3 [(0, va_re ad p0), (1, va_re ad p1), (2, .int p2)] → W p l e (headSpec wsX7_belongs ({ frames := 0, cells := 0, slots := 0, locals := 0 })).room s m ([va_re ad p0, va_re ad p1, .int p2] : List Value).toArray below meth c H locs 0 0 (MQ below (va_Qi (fun (q : Int32) (_ : Unit) => q = y.2) (fun _ t => kE D ct ad G A y.1 t) A) ([va_re ad p0, va_re ad p1, .int p2] : List Value).toArray s 0 0 A) (F0 m 68 ls [.int y4]) := by
      intro H locs ls hP hD hS hl
      obtain ⟨hz9, hF⟩ := chk_some hF
      obtain rfl := Option.some.inj hF
      exact W.zret (v := y4) (ty := .boolean) hx hb hr (nar_z hz9).1 (fun t ht hW => ⟨⟨_, (), rfl, rfl, ⟨by rw [ht]; exact hP, va_K.moved hW.alike hK, hD⟩⟩, hS.F ht⟩) hS.2.2 dX7_belongs_68
    clear hF
    have hF := hy4
    clear hy4
    refine lv_icmp_ne (tgt := 67) hx hb dX7_belongs_24 (by decide) (fun c5 => ?_) (fun c5 => ?_)
    · rw [if_neg c5] at hF
      refine lv_iconst (v := (0 : Int32)) hx hb dX7_belongs_67 (by decide) ?_
      obtain rfl := Option.some.inj hF
      exact J4 _ _ _ hP hD hS (lv_sub hl [0, 1, 2] rfl)
    · rw [if_pos c5] at hF
      refine lv_iload_n hx hb dX7_belongs_27 rfl (lv_at hl 2 rfl) ?_
      obtain ⟨y6, hy6, hF⟩ := bnd_some hF
      have J6 : ∀ (H : Heap) (locs : List Loc) (ls : Array Slot), va_P D classes (wld ct ad G M) H → va_D A (wld ct ad G M) → va_S A s.heap H locs → lv_has ls 3 [(0, va_re ad p0), (1, va_re ad p1), (2, .int p2)] → W p l e (headSpec wsX7_belongs ({ frames := 0, cells := 0, slots := 0, locals := 0 })).room s m ([va_re ad p0, va_re ad p1, .int p2] : List Value).toArray below meth c H locs 0 0 (MQ below (va_Qi (fun (q : Int32) (_ : Unit) => q = y.2) (fun _ t => kE D ct ad G A y.1 t) A) ([va_re ad p0, va_re ad p1, .int p2] : List Value).toArray s 0 0 A) (F0 m 68 ls [.int y6]) := by
        intro H locs ls hP hD hS hl
        obtain rfl := Option.some.inj hF
        exact J4 _ _ _ hP hD hS (lv_sub hl [0, 1, 2] rfl)
      clear hF
      have hF := hy6
      clear hy6
      refine lv_if_eq (tgt := 63) hx hb dX7_belongs_28 (by decide) (fun c7 => ?_) (fun c7 => ?_)
      · rw [if_pos c7] at hF
        refine lv_iconst (v := (1 : Int32)) hx hb dX7_belongs_63 (by decide) ?_
        refine lv_goto (tgt := 68) hx hb dX7_belongs_64 (by decide) ?_
        obtain rfl := Option.some.inj hF
        exact J6 _ _ _ hP hD hS (lv_sub hl [0, 1, 2] rfl)
      · rw [if_neg c7] at hF
        refine lv_iload_n hx hb dX7_belongs_31 rfl (lv_at hl 2 rfl) ?_
        refine lv_iconst (v := (1 : Int32)) hx hb dX7_belongs_32 (by decide) ?_
        obtain ⟨y8, hy8, hF⟩ := bnd_some hF
        have J8 : ∀ (H : Heap) (locs : List Loc) (ls : Array Slot), va_P D classes (wld ct ad G M) H → va_D A (wld ct ad G M) → va_S A s.heap H locs → lv_has ls 3 [(0, va_re ad p0), (1, va_re ad p1), (2, .int p2)] → W p l e (headSpec wsX7_belongs ({ frames := 0, cells := 0, slots := 0, locals := 0 })).room s m ([va_re ad p0, va_re ad p1, .int p2] : List Value).toArray below meth c H locs 0 0 (MQ below (va_Qi (fun (q : Int32) (_ : Unit) => q = y.2) (fun _ t => kE D ct ad G A y.1 t) A) ([va_re ad p0, va_re ad p1, .int p2] : List Value).toArray s 0 0 A) (F0 m 68 ls [.int y8]) := by
          intro H locs ls hP hD hS hl
          obtain rfl := Option.some.inj hF
          exact J6 _ _ _ hP hD hS (lv_sub hl [0, 1, 2] rfl)
        clear hF
        have hF := hy8
        clear hy8
        refine lv_icmp_ne (tgt := 47) hx hb dX7_belongs_33 (by decide) (fun c9 => ?_) (fun c9 => ?_)
        · rw [if_neg c9] at hF
          refine lv_iload_n hx hb dX7_belongs_47 rfl (lv_at hl 2 rfl) ?_
          refine lv_iconst (v := (2 : Int32)) hx hb dX7_belongs_48 (by decide) ?_
          obtain ⟨y10, hy10, hF⟩ := bnd_some hF
          have J10 : ∀ (H : Heap) (locs : List Loc) (ls : Array Slot), va_P D classes (wld ct ad G M) H → va_D A (wld ct ad G M) → va_S A s.heap H locs → lv_has ls 3 [(0, va_re ad p0), (1, va_re ad p1), (2, .int p2)] → W p l e (headSpec wsX7_belongs ({ frames := 0, cells := 0, slots := 0, locals := 0 })).room s m ([va_re ad p0, va_re ad p1, .int p2] : List Value).toArray below meth c H locs 0 0 (MQ below (va_Qi (fun (q : Int32) (_ : Unit) => q = y.2) (fun _ t => kE D ct ad G A y.1 t) A) ([va_re ad p0, va_re ad p1, .int p2] : List Value).toArray s 0 0 A) (F0 m 68 ls [.int y10]) := by
            intro H locs ls hP hD hS hl
            obtain rfl := Option.some.inj hF
            exact J8 _ _ _ hP hD hS (lv_sub hl [0, 1, 2] rfl)
          clear hF
          have hF := hy10
          clear hy10
          refine lv_icmp_ne (tgt := 67) hx hb dX7_belongs_49 (by decide) (fun c11 => ?_) (fun c11 => ?_)
          · rw [if_neg c11] at hF
            refine lv_iconst (v := (0 : Int32)) hx hb dX7_belongs_67 (by decide) ?_
            obtain rfl := Option.some.inj hF
            exact J10 _ _ _ hP hD hS (lv_sub hl [0, 1, 2] rfl)
          · rw [if_pos c11] at hF
            refine lv_aloadq_n hx hb dX7_belongs_52 rfl (lv_at hl 0 rfl) ?_
            refine W_st (st' := [.ref (ad b2)]) (by rw [va_some ho2]) ?_
            refine va_get (D := D) (ci := 4) (v := .int (M.1 b2 9)) (C := RX4) (T := TX4) (N := 18) hx hb hts (by decide +kernel) hown hK hP b2 (wld_o ct ad G M hc2 hk2 (by decide)) rfl 9 (by decide) (hts (.fieldLink RX7 126 "VideoSuite$Picture" "order" "I") (by decide +kernel)) (fun _ h9 => h9) rfl dX7_belongs_53 ?_
            obtain ⟨x12, ex12, hF⟩ := ltt_some hF
            refine lv_topi (fun zx12 ezx12 => ?_)
            obtain rfl : x12 = zx12 := ex12.trans ezx12.symm
            refine lv_aloadq_n hx hb dX7_belongs_56 rfl (lv_at hl 1 rfl) ?_
            obtain ⟨b13, ho13, hc13, hk13, hF⟩ := dr_some hF
            refine W_st (st' := [.ref (ad b13), .int x12]) (by rw [va_some ho13]) ?_
            refine va_get (D := D) (ci := 4) (v := .int (M.1 b13 9)) (C := RX4) (T := TX4) (N := 18) hx hb hts (by decide +kernel) hown hK hP b13 (wld_o ct ad G M hc13 hk13 (by decide)) rfl 9 (by decide) (hts (.fieldLink RX7 126 "VideoSuite$Picture" "order" "I") (by decide +kernel)) (fun _ h9 => h9) rfl dX7_belongs_57 ?_
            obtain ⟨x14, ex14, hF⟩ := ltt_some hF
            refine lv_topi (fun zx14 ezx14 => ?_)
            obtain rfl : x14 = zx14 := ex14.trans ezx14.symm
            obtain ⟨y15, hy15, hF⟩ := bnd_some hF
            have J15 : ∀ (H : Heap) (locs : List Loc) (ls : Array Slot), va_P D classes (wld ct ad G M) H → va_D A (wld ct ad G M) → va_S A s.heap H locs → lv_has ls 3 [(0, va_re ad p0), (1, va_re ad p1), (2, .int p2)] → W p l e (headSpec wsX7_belongs ({ frames := 0, cells := 0, slots := 0, locals := 0 })).room s m ([va_re ad p0, va_re ad p1, .int p2] : List Value).toArray below meth c H locs 0 0 (MQ below (va_Qi (fun (q : Int32) (_ : Unit) => q = y.2) (fun _ t => kE D ct ad G A y.1 t) A) ([va_re ad p0, va_re ad p1, .int p2] : List Value).toArray s 0 0 A) (F0 m 68 ls [.int y15]) := by
              intro H locs ls hP hD hS hl
              obtain rfl := Option.some.inj hF
              exact J10 _ _ _ hP hD hS (lv_sub hl [0, 1, 2] rfl)
            clear hF
            have hF := hy15
            clear hy15
            refine lv_icmp_le (tgt := 67) hx hb dX7_belongs_60 (by decide) (fun c16 => ?_) (fun c16 => ?_)
            · rw [if_pos c16] at hF
              refine lv_iconst (v := (0 : Int32)) hx hb dX7_belongs_67 (by decide) ?_
              obtain rfl := Option.some.inj hF
              exact J15 _ _ _ hP hD hS (lv_sub hl [0, 1, 2] rfl)
            · rw [if_neg c16] at hF
              refine lv_iconst (v := (1 : Int32)) hx hb dX7_belongs_63 (by decide) ?_
              refine lv_goto (tgt := 68) hx hb dX7_belongs_64 (by decide) ?_
              obtain rfl := Option.some.inj hF
              exact J15 _ _ _ hP hD hS (lv_sub hl [0, 1, 2] rfl)
        · rw [if_pos c9] at hF
          refine lv_aloadq_n hx hb dX7_belongs_36 rfl (lv_at hl 0 rfl) ?_
          refine W_st (st' := [.ref (ad b2)]) (by rw [va_some ho2]) ?_
          refine va_get (D := D) (ci := 4) (v := .int (M.1 b2 9)) (C := RX4) (T := TX4) (N := 18) hx hb hts (by decide +kernel) hown hK hP b2 (wld_o ct ad G M hc2 hk2 (by decide)) rfl 9 (by decide) (hts (.fieldLink RX7 126 "VideoSuite$Picture" "order" "I") (by decide +kernel)) (fun _ h9 => h9) rfl dX7_belongs_37 ?_
          obtain ⟨x17, ex17, hF⟩ := ltt_some hF
          refine lv_topi (fun zx17 ezx17 => ?_)
          obtain rfl : x17 = zx17 := ex17.trans ezx17.symm
          refine lv_aloadq_n hx hb dX7_belongs_40 rfl (lv_at hl 1 rfl) ?_
          obtain ⟨b18, ho18, hc18, hk18, hF⟩ := dr_some hF
          refine W_st (st' := [.ref (ad b18), .int x17]) (by rw [va_some ho18]) ?_
          refine va_get (D := D) (ci := 4) (v := .int (M.1 b18 9)) (C := RX4) (T := TX4) (N := 18) hx hb hts (by decide +kernel) hown hK hP b18 (wld_o ct ad G M hc18 hk18 (by decide)) rfl 9 (by decide) (hts (.fieldLink RX7 126 "VideoSuite$Picture" "order" "I") (by decide +kernel)) (fun _ h9 => h9) rfl dX7_belongs_41 ?_
          obtain ⟨x19, ex19, hF⟩ := ltt_some hF
          refine lv_topi (fun zx19 ezx19 => ?_)
          obtain rfl : x19 = zx19 := ex19.trans ezx19.symm
          obtain ⟨y20, hy20, hF⟩ := bnd_some hF
          have J20 : ∀ (H : Heap) (locs : List Loc) (ls : Array Slot), va_P D classes (wld ct ad G M) H → va_D A (wld ct ad G M) → va_S A s.heap H locs → lv_has ls 3 [(0, va_re ad p0), (1, va_re ad p1), (2, .int p2)] → W p l e (headSpec wsX7_belongs ({ frames := 0, cells := 0, slots := 0, locals := 0 })).room s m ([va_re ad p0, va_re ad p1, .int p2] : List Value).toArray below meth c H locs 0 0 (MQ below (va_Qi (fun (q : Int32) (_ : Unit) => q = y.2) (fun _ t => kE D ct ad G A y.1 t) A) ([va_re ad p0, va_re ad p1, .int p2] : List Value).toArray s 0 0 A) (F0 m 68 ls [.int y20]) := by
            intro H locs ls hP hD hS hl
            obtain rfl := Option.some.inj hF
            exact J8 _ _ _ hP hD hS (lv_sub hl [0, 1, 2] rfl)
          clear hF
          have hF := hy20
          clear hy20
          refine lv_icmp_lt (tgt := 63) hx hb dX7_belongs_44 (by decide) (fun c21 => ?_) (fun c21 => ?_)
          · rw [if_pos c21] at hF
            refine lv_iconst (v := (1 : Int32)) hx hb dX7_belongs_63 (by decide) ?_
            refine lv_goto (tgt := 68) hx hb dX7_belongs_64 (by decide) ?_
            obtain rfl := Option.some.inj hF
            exact J20 _ _ _ hP hD hS (lv_sub hl [0, 1, 2] rfl)
          · rw [if_neg c21] at hF
            refine lv_iload_n hx hb dX7_belongs_47 rfl (lv_at hl 2 rfl) ?_
            refine lv_iconst (v := (2 : Int32)) hx hb dX7_belongs_48 (by decide) ?_
            obtain ⟨y22, hy22, hF⟩ := bnd_some hF
            have J22 : ∀ (H : Heap) (locs : List Loc) (ls : Array Slot), va_P D classes (wld ct ad G M) H → va_D A (wld ct ad G M) → va_S A s.heap H locs → lv_has ls 3 [(0, va_re ad p0), (1, va_re ad p1), (2, .int p2)] → W p l e (headSpec wsX7_belongs ({ frames := 0, cells := 0, slots := 0, locals := 0 })).room s m ([va_re ad p0, va_re ad p1, .int p2] : List Value).toArray below meth c H locs 0 0 (MQ below (va_Qi (fun (q : Int32) (_ : Unit) => q = y.2) (fun _ t => kE D ct ad G A y.1 t) A) ([va_re ad p0, va_re ad p1, .int p2] : List Value).toArray s 0 0 A) (F0 m 68 ls [.int y22]) := by
              intro H locs ls hP hD hS hl
              obtain rfl := Option.some.inj hF
              exact J20 _ _ _ hP hD hS (lv_sub hl [0, 1, 2] rfl)
            clear hF
            have hF := hy22
            clear hy22
            refine lv_icmp_ne (tgt := 67) hx hb dX7_belongs_49 (by decide) (fun c23 => ?_) (fun c23 => ?_)
            · rw [if_neg c23] at hF
              refine lv_iconst (v := (0 : Int32)) hx hb dX7_belongs_67 (by decide) ?_
              obtain rfl := Option.some.inj hF
              exact J22 _ _ _ hP hD hS (lv_sub hl [0, 1, 2] rfl)
            · rw [if_pos c23] at hF
              refine lv_aloadq_n hx hb dX7_belongs_52 rfl (lv_at hl 0 rfl) ?_
              refine W_st (st' := [.ref (ad b2)]) (by rw [va_some ho2]) ?_
              refine va_get (D := D) (ci := 4) (v := .int (M.1 b2 9)) (C := RX4) (T := TX4) (N := 18) hx hb hts (by decide +kernel) hown hK hP b2 (wld_o ct ad G M hc2 hk2 (by decide)) rfl 9 (by decide) (hts (.fieldLink RX7 126 "VideoSuite$Picture" "order" "I") (by decide +kernel)) (fun _ h9 => h9) rfl dX7_belongs_53 ?_
              obtain ⟨x24, ex24, hF⟩ := ltt_some hF
              refine lv_topi (fun zx24 ezx24 => ?_)
              obtain rfl : x24 = zx24 := ex24.trans ezx24.symm
              refine lv_aloadq_n hx hb dX7_belongs_56 rfl (lv_at hl 1 rfl) ?_
              refine W_st (st' := [.ref (ad b18), .int x24]) (by rw [va_some ho18]) ?_
              refine va_get (D := D) (ci := 4) (v := .int (M.1 b18 9)) (C := RX4) (T := TX4) (N := 18) hx hb hts (by decide +kernel) hown hK hP b18 (wld_o ct ad G M hc18 hk18 (by decide)) rfl 9 (by decide) (hts (.fieldLink RX7 126 "VideoSuite$Picture" "order" "I") (by decide +kernel)) (fun _ h9 => h9) rfl dX7_belongs_57 ?_
              obtain ⟨x25, ex25, hF⟩ := ltt_some hF
              refine lv_topi (fun zx25 ezx25 => ?_)
              obtain rfl : x25 = zx25 := ex25.trans ezx25.symm
              obtain ⟨y26, hy26, hF⟩ := bnd_some hF
              have J26 : ∀ (H : Heap) (locs : List Loc) (ls : Array Slot), va_P D classes (wld ct ad G M) H → va_D A (wld ct ad G M) → va_S A s.heap H locs → lv_has ls 3 [(0, va_re ad p0), (1, va_re ad p1), (2, .int p2)] → W p l e (headSpec wsX7_belongs ({ frames := 0, cells := 0, slots := 0, locals := 0 })).room s m ([va_re ad p0, va_re ad p1, .int p2] : List Value).toArray below meth c H locs 0 0 (MQ below (va_Qi (fun (q : Int32) (_ : Unit) => q = y.2) (fun _ t => kE D ct ad G A y.1 t) A) ([va_re ad p0, va_re ad p1, .int p2] : List Value).toArray s 0 0 A) (F0 m 68 ls [.int y26]) := by
                intro H locs ls hP hD hS hl
                obtain rfl := Option.some.inj hF
                exact J22 _ _ _ hP hD hS (lv_sub hl [0, 1, 2] rfl)
              clear hF
              have hF := hy26
              clear hy26
              refine lv_icmp_le (tgt := 67) hx hb dX7_belongs_60 (by decide) (fun c27 => ?_) (fun c27 => ?_)
              · rw [if_pos c27] at hF
                refine lv_iconst (v := (0 : Int32)) hx hb dX7_belongs_67 (by decide) ?_
                obtain rfl := Option.some.inj hF
                exact J26 _ _ _ hP hD hS (lv_sub hl [0, 1, 2] rfl)
              · rw [if_neg c27] at hF
                refine lv_iconst (v := (1 : Int32)) hx hb dX7_belongs_63 (by decide) ?_
                refine lv_goto (tgt := 68) hx hb dX7_belongs_64 (by decide) ?_
                obtain rfl := Option.some.inj hF
                exact J26 _ _ _ hP hD hS (lv_sub hl [0, 1, 2] rfl)
  · rw [if_pos c1] at hF
    refine lv_aloadq_n hx hb dX7_belongs_5 rfl (lv_at hl 0 rfl) ?_
    obtain ⟨b28, ho28, hc28, hk28, hF⟩ := dr_some hF
    refine W_st (st' := [.ref (ad b28)]) (by rw [va_some ho28]) ?_
    refine va_get (D := D) (ci := 4) (v := .int (M.1 b28 10)) (C := RX4) (T := TX4) (N := 18) hx hb hts (by decide +kernel) hown hK hP b28 (wld_o ct ad G M hc28 hk28 (by decide)) rfl 10 (by decide) (hts (.fieldLink RX7 123 "VideoSuite$Picture" "use" "I") (by decide +kernel)) (fun _ h9 => h9) rfl dX7_belongs_6 ?_
    obtain ⟨x29, ex29, hF⟩ := ltt_some hF
    refine lv_topi (fun zx29 ezx29 => ?_)
    obtain rfl : x29 = zx29 := ex29.trans ezx29.symm
    refine lv_iconst (v := (2 : Int32)) hx hb dX7_belongs_9 (by decide) ?_
    obtain ⟨y30, hy30, hF⟩ := bnd_some hF
    have J30 : ∀ (H : Heap) (locs : List Loc) (ls : Array Slot), va_P D classes (wld ct ad G M) H → va_D A (wld ct ad G M) → va_S A s.heap H locs → lv_has ls 3 [(0, va_re ad p0), (1, va_re ad p1), (2, .int p2)] → W p l e (headSpec wsX7_belongs ({ frames := 0, cells := 0, slots := 0, locals := 0 })).room s m ([va_re ad p0, va_re ad p1, .int p2] : List Value).toArray below meth c H locs 0 0 (MQ below (va_Qi (fun (q : Int32) (_ : Unit) => q = y.2) (fun _ t => kE D ct ad G A y.1 t) A) ([va_re ad p0, va_re ad p1, .int p2] : List Value).toArray s 0 0 A) (F0 m 18 ls [.int y30]) := by
      intro H locs ls hP hD hS hl
      obtain ⟨hz9, hF⟩ := chk_some hF
      obtain rfl := Option.some.inj hF
      exact W.zret (v := y30) (ty := .boolean) hx hb hr (nar_z hz9).1 (fun t ht hW => ⟨⟨_, (), rfl, rfl, ⟨by rw [ht]; exact hP, va_K.moved hW.alike hK, hD⟩⟩, hS.F ht⟩) hS.2.2 dX7_belongs_18
    clear hF
    have hF := hy30
    clear hy30
    refine lv_icmp_ne (tgt := 17) hx hb dX7_belongs_10 (by decide) (fun c31 => ?_) (fun c31 => ?_)
    · rw [if_neg c31] at hF
      refine lv_iconst (v := (0 : Int32)) hx hb dX7_belongs_17 (by decide) ?_
      obtain rfl := Option.some.inj hF
      exact J30 _ _ _ hP hD hS (lv_sub hl [0, 1, 2] rfl)
    · rw [if_pos c31] at hF
      refine lv_iconst (v := (1 : Int32)) hx hb dX7_belongs_13 (by decide) ?_
      refine lv_goto (tgt := 18) hx hb dX7_belongs_14 (by decide) ?_
      obtain rfl := Option.some.inj hF
      exact J30 _ _ _ hP hD hS (lv_sub hl [0, 1, 2] rfl)
