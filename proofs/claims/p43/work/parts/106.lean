theorem dX6_takeAround_0 : decode cX6_takeAround 0 = .ok (.aload_n 1, 1) := by decide +kernel
theorem dX6_takeAround_1 : decode cX6_takeAround 1 = .ok (.getfield 121, 3) := by decide +kernel
theorem dX6_takeAround_4 : decode cX6_takeAround 4 = .ok (.iconst 0, 1) := by decide +kernel
theorem dX6_takeAround_5 : decode cX6_takeAround 5 = .ok (.aaload, 1) := by decide +kernel
theorem dX6_takeAround_6 : decode cX6_takeAround 6 = .ok (.astore 4, 2) := by decide +kernel
theorem dX6_takeAround_8 : decode cX6_takeAround 8 = .ok (.bipush 16, 2) := by decide +kernel
theorem dX6_takeAround_10 : decode cX6_takeAround 10 = .ok (.aload_n 1, 1) := by decide +kernel
theorem dX6_takeAround_11 : decode cX6_takeAround 11 = .ok (.getfield 83, 3) := by decide +kernel
theorem dX6_takeAround_14 : decode cX6_takeAround 14 = .ok (.imul, 1) := by decide +kernel
theorem dX6_takeAround_15 : decode cX6_takeAround 15 = .ok (.istore 5, 2) := by decide +kernel
theorem dX6_takeAround_17 : decode cX6_takeAround 17 = .ok (.iconst 0, 1) := by decide +kernel
theorem dX6_takeAround_18 : decode cX6_takeAround 18 = .ok (.istore 6, 2) := by decide +kernel
theorem dX6_takeAround_20 : decode cX6_takeAround 20 = .ok (.iload 6, 2) := by decide +kernel
theorem dX6_takeAround_22 : decode cX6_takeAround 22 = .ok (.iconst 4, 1) := by decide +kernel
theorem dX6_takeAround_23 : decode cX6_takeAround 23 = .ok (.if_icmp .ge 69, 3) := by decide +kernel
theorem dX6_takeAround_26 : decode cX6_takeAround 26 = .ok (.aload_n 0, 1) := by decide +kernel
theorem dX6_takeAround_27 : decode cX6_takeAround 27 = .ok (.getfield 36, 3) := by decide +kernel
theorem dX6_takeAround_30 : decode cX6_takeAround 30 = .ok (.iconst 3, 1) := by decide +kernel
theorem dX6_takeAround_31 : decode cX6_takeAround 31 = .ok (.iload 6, 2) := by decide +kernel
theorem dX6_takeAround_33 : decode cX6_takeAround 33 = .ok (.isub, 1) := by decide +kernel
theorem dX6_takeAround_34 : decode cX6_takeAround 34 = .ok (.iload_n 3, 1) := by decide +kernel
theorem dX6_takeAround_35 : decode cX6_takeAround 35 = .ok (.iconst 1, 1) := by decide +kernel
theorem dX6_takeAround_36 : decode cX6_takeAround 36 = .ok (.iand, 1) := by decide +kernel
theorem dX6_takeAround_37 : decode cX6_takeAround 37 = .ok (.ifCond .eq 18, 3) := by decide +kernel
theorem dX6_takeAround_40 : decode cX6_takeAround 40 = .ok (.aload 4, 2) := by decide +kernel
theorem dX6_takeAround_42 : decode cX6_takeAround 42 = .ok (.iload_n 2, 1) := by decide +kernel
theorem dX6_takeAround_43 : decode cX6_takeAround 43 = .ok (.iload 6, 2) := by decide +kernel
theorem dX6_takeAround_45 : decode cX6_takeAround 45 = .ok (.iload 5, 2) := by decide +kernel
theorem dX6_takeAround_47 : decode cX6_takeAround 47 = .ok (.imul, 1) := by decide +kernel
theorem dX6_takeAround_48 : decode cX6_takeAround 48 = .ok (.iadd, 1) := by decide +kernel
theorem dX6_takeAround_49 : decode cX6_takeAround 49 = .ok (.iconst 1, 1) := by decide +kernel
theorem dX6_takeAround_50 : decode cX6_takeAround 50 = .ok (.isub, 1) := by decide +kernel
theorem dX6_takeAround_51 : decode cX6_takeAround 51 = .ok (.iaload, 1) := by decide +kernel
theorem dX6_takeAround_52 : decode cX6_takeAround 52 = .ok (.goto 4, 3) := by decide +kernel
theorem dX6_takeAround_55 : decode cX6_takeAround 55 = .ok (.iconst 0, 1) := by decide +kernel
theorem dX6_takeAround_56 : decode cX6_takeAround 56 = .ok (.iastore, 1) := by decide +kernel
theorem dX6_takeAround_57 : decode cX6_takeAround 57 = .ok (.aload_n 0, 1) := by decide +kernel
theorem dX6_takeAround_58 : decode cX6_takeAround 58 = .ok (.getfield 36, 3) := by decide +kernel
theorem dX6_takeAround_61 : decode cX6_takeAround 61 = .ok (.iconst 5, 1) := by decide +kernel
theorem dX6_takeAround_62 : decode cX6_takeAround 62 = .ok (.iload 6, 2) := by decide +kernel
theorem dX6_takeAround_64 : decode cX6_takeAround 64 = .ok (.iadd, 1) := by decide +kernel
theorem dX6_takeAround_65 : decode cX6_takeAround 65 = .ok (.iload_n 3, 1) := by decide +kernel
theorem dX6_takeAround_66 : decode cX6_takeAround 66 = .ok (.iconst 2, 1) := by decide +kernel
theorem dX6_takeAround_67 : decode cX6_takeAround 67 = .ok (.iand, 1) := by decide +kernel
theorem dX6_takeAround_68 : decode cX6_takeAround 68 = .ok (.ifCond .eq 16, 3) := by decide +kernel
theorem dX6_takeAround_71 : decode cX6_takeAround 71 = .ok (.aload 4, 2) := by decide +kernel
theorem dX6_takeAround_73 : decode cX6_takeAround 73 = .ok (.iload_n 2, 1) := by decide +kernel
theorem dX6_takeAround_74 : decode cX6_takeAround 74 = .ok (.iload 5, 2) := by decide +kernel
theorem dX6_takeAround_76 : decode cX6_takeAround 76 = .ok (.isub, 1) := by decide +kernel
theorem dX6_takeAround_77 : decode cX6_takeAround 77 = .ok (.iload 6, 2) := by decide +kernel
theorem dX6_takeAround_79 : decode cX6_takeAround 79 = .ok (.iadd, 1) := by decide +kernel
theorem dX6_takeAround_80 : decode cX6_takeAround 80 = .ok (.iaload, 1) := by decide +kernel
theorem dX6_takeAround_81 : decode cX6_takeAround 81 = .ok (.goto 4, 3) := by decide +kernel
theorem dX6_takeAround_84 : decode cX6_takeAround 84 = .ok (.iconst 0, 1) := by decide +kernel
theorem dX6_takeAround_85 : decode cX6_takeAround 85 = .ok (.iastore, 1) := by decide +kernel
theorem dX6_takeAround_86 : decode cX6_takeAround 86 = .ok (.iinc 6 1, 3) := by decide +kernel
theorem dX6_takeAround_89 : decode cX6_takeAround 89 = .ok (.goto (-69), 3) := by decide +kernel
theorem dX6_takeAround_92 : decode cX6_takeAround 92 = .ok (.aload_n 0, 1) := by decide +kernel
theorem dX6_takeAround_93 : decode cX6_takeAround 93 = .ok (.getfield 36, 3) := by decide +kernel
theorem dX6_takeAround_96 : decode cX6_takeAround 96 = .ok (.iconst 4, 1) := by decide +kernel
theorem dX6_takeAround_97 : decode cX6_takeAround 97 = .ok (.iload_n 3, 1) := by decide +kernel
theorem dX6_takeAround_98 : decode cX6_takeAround 98 = .ok (.iconst 4, 1) := by decide +kernel
theorem dX6_takeAround_99 : decode cX6_takeAround 99 = .ok (.iand, 1) := by decide +kernel
theorem dX6_takeAround_100 : decode cX6_takeAround 100 = .ok (.ifCond .eq 15, 3) := by decide +kernel
theorem dX6_takeAround_103 : decode cX6_takeAround 103 = .ok (.aload 4, 2) := by decide +kernel
theorem dX6_takeAround_105 : decode cX6_takeAround 105 = .ok (.iload_n 2, 1) := by decide +kernel
theorem dX6_takeAround_106 : decode cX6_takeAround 106 = .ok (.iload 5, 2) := by decide +kernel
theorem dX6_takeAround_108 : decode cX6_takeAround 108 = .ok (.isub, 1) := by decide +kernel
theorem dX6_takeAround_109 : decode cX6_takeAround 109 = .ok (.iconst 1, 1) := by decide +kernel
theorem dX6_takeAround_110 : decode cX6_takeAround 110 = .ok (.isub, 1) := by decide +kernel
theorem dX6_takeAround_111 : decode cX6_takeAround 111 = .ok (.iaload, 1) := by decide +kernel
theorem dX6_takeAround_112 : decode cX6_takeAround 112 = .ok (.goto 4, 3) := by decide +kernel
theorem dX6_takeAround_115 : decode cX6_takeAround 115 = .ok (.iconst 0, 1) := by decide +kernel
theorem dX6_takeAround_116 : decode cX6_takeAround 116 = .ok (.iastore, 1) := by decide +kernel
theorem dX6_takeAround_117 : decode cX6_takeAround 117 = .ok (.iconst 4, 1) := by decide +kernel
theorem dX6_takeAround_118 : decode cX6_takeAround 118 = .ok (.istore 6, 2) := by decide +kernel
theorem dX6_takeAround_120 : decode cX6_takeAround 120 = .ok (.iload 6, 2) := by decide +kernel
theorem dX6_takeAround_122 : decode cX6_takeAround 122 = .ok (.bipush 8, 2) := by decide +kernel
theorem dX6_takeAround_124 : decode cX6_takeAround 124 = .ok (.if_icmp .ge 45, 3) := by decide +kernel
theorem dX6_takeAround_127 : decode cX6_takeAround 127 = .ok (.aload_n 0, 1) := by decide +kernel
theorem dX6_takeAround_128 : decode cX6_takeAround 128 = .ok (.getfield 36, 3) := by decide +kernel
theorem dX6_takeAround_131 : decode cX6_takeAround 131 = .ok (.iconst 5, 1) := by decide +kernel
theorem dX6_takeAround_132 : decode cX6_takeAround 132 = .ok (.iload 6, 2) := by decide +kernel
theorem dX6_takeAround_134 : decode cX6_takeAround 134 = .ok (.iadd, 1) := by decide +kernel
theorem dX6_takeAround_135 : decode cX6_takeAround 135 = .ok (.iload_n 3, 1) := by decide +kernel
theorem dX6_takeAround_136 : decode cX6_takeAround 136 = .ok (.bipush 8, 2) := by decide +kernel
theorem dX6_takeAround_138 : decode cX6_takeAround 138 = .ok (.iand, 1) := by decide +kernel
theorem dX6_takeAround_139 : decode cX6_takeAround 139 = .ok (.ifCond .eq 16, 3) := by decide +kernel
theorem dX6_takeAround_142 : decode cX6_takeAround 142 = .ok (.aload 4, 2) := by decide +kernel
theorem dX6_takeAround_144 : decode cX6_takeAround 144 = .ok (.iload_n 2, 1) := by decide +kernel
theorem dX6_takeAround_145 : decode cX6_takeAround 145 = .ok (.iload 5, 2) := by decide +kernel
theorem dX6_takeAround_147 : decode cX6_takeAround 147 = .ok (.isub, 1) := by decide +kernel
theorem dX6_takeAround_148 : decode cX6_takeAround 148 = .ok (.iload 6, 2) := by decide +kernel
theorem dX6_takeAround_150 : decode cX6_takeAround 150 = .ok (.iadd, 1) := by decide +kernel
theorem dX6_takeAround_151 : decode cX6_takeAround 151 = .ok (.iaload, 1) := by decide +kernel
theorem dX6_takeAround_152 : decode cX6_takeAround 152 = .ok (.goto 10, 3) := by decide +kernel
theorem dX6_takeAround_155 : decode cX6_takeAround 155 = .ok (.aload_n 0, 1) := by decide +kernel
theorem dX6_takeAround_156 : decode cX6_takeAround 156 = .ok (.getfield 36, 3) := by decide +kernel
theorem dX6_takeAround_159 : decode cX6_takeAround 159 = .ok (.bipush 8, 2) := by decide +kernel
theorem dX6_takeAround_161 : decode cX6_takeAround 161 = .ok (.iaload, 1) := by decide +kernel
theorem dX6_takeAround_162 : decode cX6_takeAround 162 = .ok (.iastore, 1) := by decide +kernel
theorem dX6_takeAround_163 : decode cX6_takeAround 163 = .ok (.iinc 6 1, 3) := by decide +kernel
theorem dX6_takeAround_166 : decode cX6_takeAround 166 = .ok (.goto (-46), 3) := by decide +kernel
theorem dX6_takeAround_169 : decode cX6_takeAround 169 = .ok (.return_, 1) := by decide +kernel
def FX6_takeAround (G : GG) (M : DD) (a : Nat) (p0 : Option Nat) (p1 : Int32) (p2 : Int32) : Option (DD) :=
  dr G 4 p0 fun b1 =>
  dr G 15 ((M.2 b1 4)) fun b2 =>
  chk (¬ (((0 : Int32)) < 0 ∨ G.2.2 b2 ≤ ((0 : Int32)).toNatClampNeg)) <|
  ltt (M.1 b1 1) fun x3 =>
  ltt ((((16 : Int32)) * x3)) fun x4 =>
  bnd (itr (fun (s6 : Int32 × DD) => ((if ((4 : Int32)) ≤ s6.1 then (some (.inr (s6.1, s6.2))) else
  (ltt ((((3 : Int32)) - s6.1)) fun x37 =>
  ltt ((p2 &&& ((1 : Int32)))) fun x38 =>
  bnd (if x38 = ((0 : Int32)) then (some ((0 : Int32))) else
  (ltt ((s6.1 * x4)) fun x54 =>
  ltt ((p1 + x54)) fun x55 =>
  ltt ((x55 - ((1 : Int32)))) fun x56 =>
  dr G 13 ((M.2 b2 ((0 : Int32)).toNatClampNeg)) fun b57 =>
  chk (¬ (x56 < 0 ∨ G.2.2 b57 ≤ x56.toNatClampNeg)) <|
  ltt (s6.2.1 b57 x56.toNatClampNeg) fun x58 =>
  some (x58))) fun (y39 : Int32) =>
  dr G 13 ((s6.2.2 a 8)) fun b40 =>
  chk (¬ (x37 < 0 ∨ G.2.2 b40 ≤ x37.toNatClampNeg)) <|
  ltt (uI s6.2 b40 x37.toNatClampNeg y39) fun M41 =>
  ltt ((((5 : Int32)) + s6.1)) fun x42 =>
  ltt ((p2 &&& ((2 : Int32)))) fun x43 =>
  bnd (if x43 = ((0 : Int32)) then (some ((0 : Int32))) else
  (ltt ((p1 - x4)) fun x49 =>
  ltt ((x49 + s6.1)) fun x50 =>
  dr G 13 ((M.2 b2 ((0 : Int32)).toNatClampNeg)) fun b51 =>
  chk (¬ (x50 < 0 ∨ G.2.2 b51 ≤ x50.toNatClampNeg)) <|
  ltt (M41.1 b51 x50.toNatClampNeg) fun x52 =>
  some (x52))) fun (y44 : Int32) =>
  dr G 13 ((M41.2 a 8)) fun b45 =>
  chk (¬ (x42 < 0 ∨ G.2.2 b45 ≤ x42.toNatClampNeg)) <|
  ltt (uI M41 b45 x42.toNatClampNeg y44) fun M46 =>
  ltt (s6.1 + (1 : Int32)) fun x47 =>
  some (.inl (x47, M46)))) : Option ((Int32 × DD) ⊕ (Int32 × DD)))) 1000000 ((0 : Int32), M)) fun (y5 : Int32 × DD) =>
  ltt ((p2 &&& ((4 : Int32)))) fun x8 =>
  bnd (if x8 = ((0 : Int32)) then (some ((0 : Int32))) else
  (ltt ((p1 - x4)) fun x31 =>
  ltt ((x31 - ((1 : Int32)))) fun x32 =>
  dr G 13 ((M.2 b2 ((0 : Int32)).toNatClampNeg)) fun b33 =>
  chk (¬ (x32 < 0 ∨ G.2.2 b33 ≤ x32.toNatClampNeg)) <|
  ltt (y5.2.1 b33 x32.toNatClampNeg) fun x34 =>
  some (x34))) fun (y9 : Int32) =>
  dr G 13 ((y5.2.2 a 8)) fun b10 =>
  chk (¬ (((4 : Int32)) < 0 ∨ G.2.2 b10 ≤ ((4 : Int32)).toNatClampNeg)) <|
  ltt (uI y5.2 b10 ((4 : Int32)).toNatClampNeg y9) fun M11 =>
  bnd (itr (fun (s13 : Int32 × DD) => ((if ((8 : Int32)) ≤ s13.1 then (some (.inr (s13.1, s13.2))) else
  (ltt ((((5 : Int32)) + s13.1)) fun x17 =>
  ltt ((p2 &&& ((8 : Int32)))) fun x18 =>
  bnd (if x18 = ((0 : Int32)) then (dr G 13 ((s13.2.2 a 8)) fun b24 =>
  chk (¬ (((8 : Int32)) < 0 ∨ G.2.2 b24 ≤ ((8 : Int32)).toNatClampNeg)) <|
  ltt (s13.2.1 b24 ((8 : Int32)).toNatClampNeg) fun x25 =>
  some (x25)) else
  (ltt ((p1 - x4)) fun x26 =>
  ltt ((x26 + s13.1)) fun x27 =>
  dr G 13 ((M.2 b2 ((0 : Int32)).toNatClampNeg)) fun b28 =>
  chk (¬ (x27 < 0 ∨ G.2.2 b28 ≤ x27.toNatClampNeg)) <|
  ltt (s13.2.1 b28 x27.toNatClampNeg) fun x29 =>
  some (x29))) fun (y19 : Int32) =>
  dr G 13 ((s13.2.2 a 8)) fun b20 =>
  chk (¬ (x17 < 0 ∨ G.2.2 b20 ≤ x17.toNatClampNeg)) <|
  ltt (uI s13.2 b20 x17.toNatClampNeg y19) fun M21 =>
  ltt (s13.1 + (1 : Int32)) fun x22 =>
  some (.inl (x22, M21)))) : Option ((Int32 × DD) ⊕ (Int32 × DD)))) 1000000 ((4 : Int32), M11)) fun (y12 : Int32 × DD) =>
  some y12.2
set_option maxHeartbeats 4000000 in
set_option maxRecDepth 100000 in
theorem kX6_takeAround (l : Launch) (D : va_G) (ct : CT) (ad : Nat → Nat) (Z : Nat → Nat) (G : GG) (M : DD) (sz : Nat) (a : Nat) (p0 : Option Nat) (p1 : Int32) (p2 : Int32) (y : DD) (hc : a < G.1) (hk : G.2.1 a = 6) (hF : FX6_takeAround G M a p0 p1 p2 = some y) : Met l yX6_takeAround wuX6_takeAround ({ frames := 0, cells := 0, slots := 0, locals := 0 }) (va_Pc [.ref (ad a), va_re ad p0, .int p1, .int p2] (kB D ct ad Z G M sz)) (va_Qv (fun (_ : Unit) => True) (fun _ t => kE D ct ad G (wA ad G sz) y t) (wA ad G sz)) 0 0 (wA ad G sz) := by
  refine Met.ofW (cc := cX6_takeAround) (maxL := 7) (ret := none) (by decide) rfl ?_
  intro p e s m args below meth c s₁ B hml hv
  obtain ⟨rfl, hsz, hP, hK, hD0, hZ, hN⟩ := hv
  have hx := B.exec
  have hb := B.bytes
  have hr := B.returns
  have hts := atoms_spec (ws := wuX6_takeAround) B.pre
  have hown : s.vm.findClass RX6 = some m.cls := findClass_of_methodNamed B.named
  have hlocks := B.notSynchronized
  subst hsz
  have hD := wD_self (sz := s.heap.size) hD0
  have hA9 : ∀ q, s.heap.size ≤ q → wA ad G s.heap.size q := fun q h => Or.inr h
  generalize hAe : wA ad G s.heap.size = A at hD hA9 hZ ⊢
  have hS : va_S A s.heap s.heap [] := va_S.rf
  have hl := lv_entry ([.ref (ad a), va_re ad p0, .int p1, .int p2]) (n := 7) (by cases p0 <;> exact Nat.le_of_ble_eq_true rfl)
  rw [lg_entry_eq]
  generalize (lg_sl ([.ref (ad a), va_re ad p0, .int p1, .int p2]) ++ List.replicate (7 - (lg_sl ([.ref (ad a), va_re ad p0, .int p1, .int p2])).length) Slot.unset).toArray = ls at hl ⊢
  have hl : lv_has ls 7 [(0, .ref (ad a)), (1, va_re ad p0), (2, .int p1), (3, .int p2)] := by have e9 : lv_args 0 [.ref (ad a), va_re ad p0, .int p1, .int p2] = [(0, .ref (ad a)), (1, va_re ad p0), (2, .int p1), (3, .int p2)] := (by cases p0 <;> rfl); rw [e9] at hl; exact hl
  unfold FX6_takeAround at hF
  refine lv_aloadq_n hx hb dX6_takeAround_0 rfl (lv_at hl 1 rfl) ?_
  obtain ⟨b1, ho1, hc1, hk1, hF⟩ := dr_some hF
  refine W_st (st' := [.ref (ad b1)]) (by rw [va_some ho1]) ?_
  refine va_get (D := D) (ci := 4) (v := va_re ad (M.2 b1 4)) (C := RX4) (T := TX4) (N := 18) hx hb hts (mus hf_X4) hown hK hP b1 (wld_o ct ad G M hc1 hk1 (by decide)) rfl 4 (by decide) (hts (.fieldLink RX6 121 "VideoSuite$Picture" "plane" "[[I") (mu mw_1433)) (fun _ h9 => h9) rfl dX6_takeAround_1 ?_
  refine lv_iconst (v := (0 : Int32)) hx hb dX6_takeAround_4 (by decide) ?_
  obtain ⟨b2, ho2, hc2, hk2, hF⟩ := dr_some hF
  refine W_st (st' := [.int (0 : Int32), .ref (ad b2)]) (by rw [va_some ho2]) ?_
  obtain ⟨hvc, hF⟩ := chk_some hF
  refine ld_g hx hb hK hP hc2 hk2 hvc dX6_takeAround_5 ?_
  refine lv_astoreq (lv' := [(4, va_re ad (M.2 b2 ((0 : Int32)).toNatClampNeg)), (0, .ref (ad a)), (1, va_re ad p0), (2, .int p1), (3, .int p2)]) hx hb dX6_takeAround_6 hl (by decide) rfl (fun ls hl => ?_)
  refine lv_bipush (v := (16 : Int32)) hx hb dX6_takeAround_8 (by decide) ?_
  refine lv_aloadq_n hx hb dX6_takeAround_10 rfl (lv_at hl 2 rfl) ?_
  refine W_st (st' := [.ref (ad b1), .int (16 : Int32)]) (by rw [va_some ho1]) ?_
  refine va_get (D := D) (ci := 4) (v := .int (M.1 b1 1)) (C := RX4) (T := TX4) (N := 18) hx hb hts (mus hf_X4) hown hK hP b1 (wld_o ct ad G M hc1 hk1 (by decide)) rfl 1 (by decide) (hts (.fieldLink RX6 83 "VideoSuite$Picture" "width" "I") (mu mw_1422)) (fun _ h9 => h9) rfl dX6_takeAround_11 ?_
  obtain ⟨x3, ex3, hF⟩ := ltt_some hF
  refine lv_topi (fun zx3 ezx3 => ?_)
  obtain rfl : x3 = zx3 := ex3.trans ezx3.symm
  refine lv_imul hx hb dX6_takeAround_14 ?_
  obtain ⟨x4, ex4, hF⟩ := ltt_some hF
  refine lv_topi (fun zx4 ezx4 => ?_)
  obtain rfl : x4 = zx4 := ex4.trans ezx4.symm
  refine lv_istore (lv' := [(5, .int x4), (4, va_re ad (M.2 b2 ((0 : Int32)).toNatClampNeg)), (0, .ref (ad a)), (1, va_re ad p0), (2, .int p1), (3, .int p2)]) hx hb dX6_takeAround_15 hl (by decide) (by generalize ((M.2 b2 ((0 : Int32)).toNatClampNeg)) = o9; cases o9 <;> rfl) (fun ls hl => ?_)
  refine lv_iconst (v := (0 : Int32)) hx hb dX6_takeAround_17 (by decide) ?_
  refine lv_istore (lv' := [(6, .int (0 : Int32)), (5, .int x4), (4, va_re ad (M.2 b2 ((0 : Int32)).toNatClampNeg)), (0, .ref (ad a)), (1, va_re ad p0), (2, .int p1), (3, .int p2)]) hx hb dX6_takeAround_18 hl (by decide) rfl (fun ls hl => ?_)
  obtain ⟨y5, hy5, hF⟩ := bnd_some hF
  have K5 : ∀ (H : Heap) (locs : List Loc) (ls : Array Slot), va_P D classes (wld ct ad G y5.2) H → va_D A (wld ct ad G y5.2) → va_S A s.heap H locs → lv_has ls 7 [(6, .int y5.1), (5, .int x4), (4, va_re ad (M.2 b2 ((0 : Int32)).toNatClampNeg)), (0, .ref (ad a)), (1, va_re ad p0), (2, .int p1), (3, .int p2)] → W p l e (headSpec wuX6_takeAround ({ frames := 0, cells := 0, slots := 0, locals := 0 })).room s m ([.ref (ad a), va_re ad p0, .int p1, .int p2] : List Value).toArray below meth c H locs 0 0 (MQ below (va_Qv (fun (_ : Unit) => True) (fun _ t => kE D ct ad G A y t) A) ([.ref (ad a), va_re ad p0, .int p1, .int p2] : List Value).toArray s 0 0 A) (F0 m 92 ls []) := by
    intro H locs ls hP hD hS hl
    refine lv_aload_n hx hb dX6_takeAround_92 rfl (lv_at hl 3 rfl) ?_
    refine va_get (D := D) (ci := 6) (v := va_re ad (y5.2.2 a 8)) (C := RX6) (T := TX6) (N := 14) hx hb hts (mus hf_X6) hown hK hP a (wld_o ct ad G y5.2 hc hk (by decide)) rfl 8 (by decide) (hts (.fieldLink RX6 36 "VideoSuite$Samples" "around" "[I") (mu mw_544)) (fun _ h9 => h9) rfl dX6_takeAround_93 ?_
    refine lv_iconst (v := (4 : Int32)) hx hb dX6_takeAround_96 (by decide) ?_
    refine lv_iload_n hx hb dX6_takeAround_97 rfl (lv_at hl 6 rfl) ?_
    refine lv_iconst (v := (4 : Int32)) hx hb dX6_takeAround_98 (by decide) ?_
    refine lv_iand hx hb dX6_takeAround_99 ?_
    obtain ⟨x8, ex8, hF⟩ := ltt_some hF
    refine lv_topi (fun zx8 ezx8 => ?_)
    obtain rfl : x8 = zx8 := ex8.trans ezx8.symm
    obtain ⟨y9, hy9, hF⟩ := bnd_some hF
    have J9 : ∀ (H : Heap) (locs : List Loc) (ls : Array Slot), va_P D classes (wld ct ad G y5.2) H → va_D A (wld ct ad G y5.2) → va_S A s.heap H locs → lv_has ls 7 [(6, .int y5.1), (5, .int x4), (4, va_re ad (M.2 b2 ((0 : Int32)).toNatClampNeg)), (0, .ref (ad a)), (1, va_re ad p0), (2, .int p1), (3, .int p2)] → W p l e (headSpec wuX6_takeAround ({ frames := 0, cells := 0, slots := 0, locals := 0 })).room s m ([.ref (ad a), va_re ad p0, .int p1, .int p2] : List Value).toArray below meth c H locs 0 0 (MQ below (va_Qv (fun (_ : Unit) => True) (fun _ t => kE D ct ad G A y t) A) ([.ref (ad a), va_re ad p0, .int p1, .int p2] : List Value).toArray s 0 0 A) (F0 m 116 ls [.int y9, .int (4 : Int32), va_re ad (y5.2.2 a 8)]) := by
      intro H locs ls hP hD hS hl
      obtain ⟨b10, ho10, hc10, hk10, hF⟩ := dr_some hF
      refine W_st (st' := [.int y9, .int (4 : Int32), .ref (ad b10)]) (by rw [va_some ho10]) ?_
      obtain ⟨hvc, hF⟩ := chk_some hF
      refine va_iast hx hb hK hP hD hS b10 1 (wld_i ct ad G y5.2 hc10 hk10) rfl hvc dX6_takeAround_116 (fun H locs hP hD hS => ?_)
      obtain ⟨M11, eM11, hF⟩ := ltt_some hF
      rw [set_i ct ad G y5.2 hc10 hk10, ← eM11] at hP hD
      refine lv_iconst (v := (4 : Int32)) hx hb dX6_takeAround_117 (by decide) ?_
      refine lv_istore (lv' := [(6, .int (4 : Int32)), (5, .int x4), (4, va_re ad (M.2 b2 ((0 : Int32)).toNatClampNeg)), (0, .ref (ad a)), (1, va_re ad p0), (2, .int p1), (3, .int p2)]) hx hb dX6_takeAround_118 hl (by decide) rfl (fun ls hl => ?_)
      obtain ⟨y12, hy12, hF⟩ := bnd_some hF
      have K12 : ∀ (H : Heap) (locs : List Loc) (ls : Array Slot), va_P D classes (wld ct ad G y12.2) H → va_D A (wld ct ad G y12.2) → va_S A s.heap H locs → lv_has ls 7 [(6, .int y12.1), (5, .int x4), (4, va_re ad (M.2 b2 ((0 : Int32)).toNatClampNeg)), (0, .ref (ad a)), (1, va_re ad p0), (2, .int p1), (3, .int p2)] → W p l e (headSpec wuX6_takeAround ({ frames := 0, cells := 0, slots := 0, locals := 0 })).room s m ([.ref (ad a), va_re ad p0, .int p1, .int p2] : List Value).toArray below meth c H locs 0 0 (MQ below (va_Qv (fun (_ : Unit) => True) (fun _ t => kE D ct ad G A y t) A) ([.ref (ad a), va_re ad p0, .int p1, .int p2] : List Value).toArray s 0 0 A) (F0 m 169 ls []) := by
        intro H locs ls hP hD hS hl
        obtain rfl := Option.some.inj hF
        exact W.vret hx hb hr (fun t ht hW => ⟨⟨(), rfl, trivial, ⟨by rw [ht]; exact hP, va_K.moved hW.alike hK, hD⟩⟩, hS.F ht⟩) hS.2.2 dX6_takeAround_169
      clear hF
      refine itr_rule (fun (s13 : Int32 × DD) => ∀ (H : Heap) (locs : List Loc) (ls : Array Slot), va_P D classes (wld ct ad G s13.2) H → va_D A (wld ct ad G s13.2) → va_S A s.heap H locs → lv_has ls 7 [(6, .int s13.1), (5, .int x4), (4, va_re ad (M.2 b2 ((0 : Int32)).toNatClampNeg)), (0, .ref (ad a)), (1, va_re ad p0), (2, .int p1), (3, .int p2)] → W p l e (headSpec wuX6_takeAround ({ frames := 0, cells := 0, slots := 0, locals := 0 })).room s m ([.ref (ad a), va_re ad p0, .int p1, .int p2] : List Value).toArray below meth c H locs 0 0 (MQ below (va_Qv (fun (_ : Unit) => True) (fun _ t => kE D ct ad G A y t) A) ([.ref (ad a), va_re ad p0, .int p1, .int p2] : List Value).toArray s 0 0 A) (F0 m 120 ls [])) ?_ _ _ hy12 _ _ _ hP hD hS (lv_sub hl [0, 1, 2, 3, 4, 5, 6] rfl)
      rintro s13 ⟨z15, hF, hwz15⟩ H locs ls hP hD hS hl
      try dsimp only at hF
      refine lv_iload hx hb dX6_takeAround_120 (lv_at hl 0 rfl) ?_
      refine lv_bipush (v := (8 : Int32)) hx hb dX6_takeAround_122 (by decide) ?_
      refine lv_icmp_ge (tgt := 169) hx hb dX6_takeAround_124 (by decide) (fun c16 => ?_) (fun c16 => ?_)
      · rw [if_pos c16] at hF
        obtain rfl := Option.some.inj hF
        subst hwz15
        exact K12 _ _ _ hP hD hS (lv_sub hl [0, 1, 2, 3, 4, 5, 6] rfl)
      · rw [if_neg c16] at hF
        refine lv_aload_n hx hb dX6_takeAround_127 rfl (lv_at hl 3 rfl) ?_
        refine va_get (D := D) (ci := 6) (v := va_re ad (s13.2.2 a 8)) (C := RX6) (T := TX6) (N := 14) hx hb hts (mus hf_X6) hown hK hP a (wld_o ct ad G s13.2 hc hk (by decide)) rfl 8 (by decide) (hts (.fieldLink RX6 36 "VideoSuite$Samples" "around" "[I") (mu mw_544)) (fun _ h9 => h9) rfl dX6_takeAround_128 ?_
        refine lv_iconst (v := (5 : Int32)) hx hb dX6_takeAround_131 (by decide) ?_
        refine lv_iload hx hb dX6_takeAround_132 (lv_at hl 0 rfl) ?_
        refine lv_iadd hx hb dX6_takeAround_134 ?_
        obtain ⟨x17, ex17, hF⟩ := ltt_some hF
        refine lv_topi (fun zx17 ezx17 => ?_)
        obtain rfl : x17 = zx17 := ex17.trans ezx17.symm
        refine lv_iload_n hx hb dX6_takeAround_135 rfl (lv_at hl 6 rfl) ?_
        refine lv_bipush (v := (8 : Int32)) hx hb dX6_takeAround_136 (by decide) ?_
        refine lv_iand hx hb dX6_takeAround_138 ?_
        obtain ⟨x18, ex18, hF⟩ := ltt_some hF
        refine lv_topi (fun zx18 ezx18 => ?_)
        obtain rfl : x18 = zx18 := ex18.trans ezx18.symm
        obtain ⟨y19, hy19, hF⟩ := bnd_some hF
        have J19 : ∀ (H : Heap) (locs : List Loc) (ls : Array Slot), va_P D classes (wld ct ad G s13.2) H → va_D A (wld ct ad G s13.2) → va_S A s.heap H locs → lv_has ls 7 [(6, .int s13.1), (5, .int x4), (4, va_re ad (M.2 b2 ((0 : Int32)).toNatClampNeg)), (0, .ref (ad a)), (1, va_re ad p0), (2, .int p1), (3, .int p2)] → W p l e (headSpec wuX6_takeAround ({ frames := 0, cells := 0, slots := 0, locals := 0 })).room s m ([.ref (ad a), va_re ad p0, .int p1, .int p2] : List Value).toArray below meth c H locs 0 0 (MQ below (va_Qv (fun (_ : Unit) => True) (fun _ t => kE D ct ad G A y t) A) ([.ref (ad a), va_re ad p0, .int p1, .int p2] : List Value).toArray s 0 0 A) (F0 m 162 ls [.int y19, .int x17, va_re ad (s13.2.2 a 8)]) := by
          intro H locs ls hP hD hS hl
          obtain ⟨b20, ho20, hc20, hk20, hF⟩ := dr_some hF
          refine W_st (st' := [.int y19, .int x17, .ref (ad b20)]) (by rw [va_some ho20]) ?_
          obtain ⟨hvc, hF⟩ := chk_some hF
          refine va_iast hx hb hK hP hD hS b20 1 (wld_i ct ad G s13.2 hc20 hk20) rfl hvc dX6_takeAround_162 (fun H locs hP hD hS => ?_)
          obtain ⟨M21, eM21, hF⟩ := ltt_some hF
          rw [set_i ct ad G s13.2 hc20 hk20, ← eM21] at hP hD
          obtain ⟨x22, ex22, hF⟩ := ltt_some hF
          refine lv_iinc (v := x22) (lv' := [(6, .int x22), (5, .int x4), (4, va_re ad (M.2 b2 ((0 : Int32)).toNatClampNeg)), (0, .ref (ad a)), (1, va_re ad p0), (2, .int p1), (3, .int p2)]) hx hb dX6_takeAround_163 hl (k := 0) rfl (by rw [ex22]; rfl) (by decide) rfl (fun ls hl => ?_)
          refine lv_goto (tgt := 120) hx hb dX6_takeAround_166 (by decide) ?_
          obtain rfl := Option.some.inj hF
          exact hwz15 _ _ _ hP hD hS (lv_sub hl [0, 1, 2, 3, 4, 5, 6] rfl)
        clear hF
        have hF := hy19
        clear hy19
        refine lv_if_eq (tgt := 155) hx hb dX6_takeAround_139 (by decide) (fun c23 => ?_) (fun c23 => ?_)
        · rw [if_pos c23] at hF
          refine lv_aload_n hx hb dX6_takeAround_155 rfl (lv_at hl 3 rfl) ?_
          refine va_get (D := D) (ci := 6) (v := va_re ad (s13.2.2 a 8)) (C := RX6) (T := TX6) (N := 14) hx hb hts (mus hf_X6) hown hK hP a (wld_o ct ad G s13.2 hc hk (by decide)) rfl 8 (by decide) (hts (.fieldLink RX6 36 "VideoSuite$Samples" "around" "[I") (mu mw_544)) (fun _ h9 => h9) rfl dX6_takeAround_156 ?_
          refine lv_bipush (v := (8 : Int32)) hx hb dX6_takeAround_159 (by decide) ?_
          obtain ⟨b24, ho24, hc24, hk24, hF⟩ := dr_some hF
          refine W_st (st' := [.int (8 : Int32), .ref (ad b24), .int x17, .ref (ad b24)]) (by rw [va_some ho24]) ?_
          obtain ⟨hvc, hF⟩ := chk_some hF
          refine va_iald hx hb hK hP b24 1 (wld_i ct ad G s13.2 hc24 hk24) rfl hvc dX6_takeAround_161 ?_
          obtain ⟨x25, ex25, hF⟩ := ltt_some hF
          refine lv_topi (fun zx25 ezx25 => ?_)
          obtain rfl : x25 = zx25 := ex25.trans ezx25.symm
          obtain rfl := Option.some.inj hF
          refine W_st (st' := [.int x25, .int x17, va_re ad (s13.2.2 a 8)]) (by rw [va_some ho24]) ?_
          exact J19 _ _ _ hP hD hS (lv_sub hl [0, 1, 2, 3, 4, 5, 6] rfl)
        · rw [if_neg c23] at hF
          refine lv_aloadq hx hb dX6_takeAround_142 (lv_at hl 2 rfl) ?_
          refine lv_iload_n hx hb dX6_takeAround_144 rfl (lv_at hl 5 rfl) ?_
          refine lv_iload hx hb dX6_takeAround_145 (lv_at hl 1 rfl) ?_
          refine lv_isub hx hb dX6_takeAround_147 ?_
          obtain ⟨x26, ex26, hF⟩ := ltt_some hF
          refine lv_topi (fun zx26 ezx26 => ?_)
          obtain rfl : x26 = zx26 := ex26.trans ezx26.symm
          refine lv_iload hx hb dX6_takeAround_148 (lv_at hl 0 rfl) ?_
          refine lv_iadd hx hb dX6_takeAround_150 ?_
          obtain ⟨x27, ex27, hF⟩ := ltt_some hF
          refine lv_topi (fun zx27 ezx27 => ?_)
          obtain rfl : x27 = zx27 := ex27.trans ezx27.symm
          obtain ⟨b28, ho28, hc28, hk28, hF⟩ := dr_some hF
          refine W_st (st' := [.int x27, .ref (ad b28), .int x17, va_re ad (s13.2.2 a 8)]) (by rw [va_some ho28]) ?_
          obtain ⟨hvc, hF⟩ := chk_some hF
          refine va_iald hx hb hK hP b28 1 (wld_i ct ad G s13.2 hc28 hk28) rfl hvc dX6_takeAround_151 ?_
          obtain ⟨x29, ex29, hF⟩ := ltt_some hF
          refine lv_topi (fun zx29 ezx29 => ?_)
          obtain rfl : x29 = zx29 := ex29.trans ezx29.symm
          refine lv_goto (tgt := 162) hx hb dX6_takeAround_152 (by decide) ?_
          obtain rfl := Option.some.inj hF
          exact J19 _ _ _ hP hD hS (lv_sub hl [0, 1, 2, 3, 4, 5, 6] rfl)
    clear hF
    have hF := hy9
    clear hy9
    refine lv_if_eq (tgt := 115) hx hb dX6_takeAround_100 (by decide) (fun c30 => ?_) (fun c30 => ?_)
    · rw [if_pos c30] at hF
      refine lv_iconst (v := (0 : Int32)) hx hb dX6_takeAround_115 (by decide) ?_
      obtain rfl := Option.some.inj hF
      exact J9 _ _ _ hP hD hS (lv_sub hl [0, 1, 2, 3, 4, 5, 6] rfl)
    · rw [if_neg c30] at hF
      refine lv_aloadq hx hb dX6_takeAround_103 (lv_at hl 2 rfl) ?_
      refine lv_iload_n hx hb dX6_takeAround_105 rfl (lv_at hl 5 rfl) ?_
      refine lv_iload hx hb dX6_takeAround_106 (lv_at hl 1 rfl) ?_
      refine lv_isub hx hb dX6_takeAround_108 ?_
      obtain ⟨x31, ex31, hF⟩ := ltt_some hF
      refine lv_topi (fun zx31 ezx31 => ?_)
      obtain rfl : x31 = zx31 := ex31.trans ezx31.symm
      refine lv_iconst (v := (1 : Int32)) hx hb dX6_takeAround_109 (by decide) ?_
      refine lv_isub hx hb dX6_takeAround_110 ?_
      obtain ⟨x32, ex32, hF⟩ := ltt_some hF
      refine lv_topi (fun zx32 ezx32 => ?_)
      obtain rfl : x32 = zx32 := ex32.trans ezx32.symm
      obtain ⟨b33, ho33, hc33, hk33, hF⟩ := dr_some hF
      refine W_st (st' := [.int x32, .ref (ad b33), .int (4 : Int32), va_re ad (y5.2.2 a 8)]) (by rw [va_some ho33]) ?_
      obtain ⟨hvc, hF⟩ := chk_some hF
      refine va_iald hx hb hK hP b33 1 (wld_i ct ad G y5.2 hc33 hk33) rfl hvc dX6_takeAround_111 ?_
      obtain ⟨x34, ex34, hF⟩ := ltt_some hF
      refine lv_topi (fun zx34 ezx34 => ?_)
      obtain rfl : x34 = zx34 := ex34.trans ezx34.symm
      refine lv_goto (tgt := 116) hx hb dX6_takeAround_112 (by decide) ?_
      obtain rfl := Option.some.inj hF
      exact J9 _ _ _ hP hD hS (lv_sub hl [0, 1, 2, 3, 4, 5, 6] rfl)
  clear hF
  refine itr_rule (fun (s6 : Int32 × DD) => ∀ (H : Heap) (locs : List Loc) (ls : Array Slot), va_P D classes (wld ct ad G s6.2) H → va_D A (wld ct ad G s6.2) → va_S A s.heap H locs → lv_has ls 7 [(6, .int s6.1), (5, .int x4), (4, va_re ad (M.2 b2 ((0 : Int32)).toNatClampNeg)), (0, .ref (ad a)), (1, va_re ad p0), (2, .int p1), (3, .int p2)] → W p l e (headSpec wuX6_takeAround ({ frames := 0, cells := 0, slots := 0, locals := 0 })).room s m ([.ref (ad a), va_re ad p0, .int p1, .int p2] : List Value).toArray below meth c H locs 0 0 (MQ below (va_Qv (fun (_ : Unit) => True) (fun _ t => kE D ct ad G A y t) A) ([.ref (ad a), va_re ad p0, .int p1, .int p2] : List Value).toArray s 0 0 A) (F0 m 20 ls [])) ?_ _ _ hy5 _ _ _ hP hD hS (lv_sub hl [0, 1, 2, 3, 4, 5, 6] rfl)
  rintro s6 ⟨z35, hF, hwz35⟩ H locs ls hP hD hS hl
  try dsimp only at hF
  refine lv_iload hx hb dX6_takeAround_20 (lv_at hl 0 rfl) ?_
  refine lv_iconst (v := (4 : Int32)) hx hb dX6_takeAround_22 (by decide) ?_
  refine lv_icmp_ge (tgt := 92) hx hb dX6_takeAround_23 (by decide) (fun c36 => ?_) (fun c36 => ?_)
  · rw [if_pos c36] at hF
    obtain rfl := Option.some.inj hF
    subst hwz35
    exact K5 _ _ _ hP hD hS (lv_sub hl [0, 1, 2, 3, 4, 5, 6] rfl)
  · rw [if_neg c36] at hF
    refine lv_aload_n hx hb dX6_takeAround_26 rfl (lv_at hl 3 rfl) ?_
    refine va_get (D := D) (ci := 6) (v := va_re ad (s6.2.2 a 8)) (C := RX6) (T := TX6) (N := 14) hx hb hts (mus hf_X6) hown hK hP a (wld_o ct ad G s6.2 hc hk (by decide)) rfl 8 (by decide) (hts (.fieldLink RX6 36 "VideoSuite$Samples" "around" "[I") (mu mw_544)) (fun _ h9 => h9) rfl dX6_takeAround_27 ?_
    refine lv_iconst (v := (3 : Int32)) hx hb dX6_takeAround_30 (by decide) ?_
    refine lv_iload hx hb dX6_takeAround_31 (lv_at hl 0 rfl) ?_
    refine lv_isub hx hb dX6_takeAround_33 ?_
    obtain ⟨x37, ex37, hF⟩ := ltt_some hF
    refine lv_topi (fun zx37 ezx37 => ?_)
    obtain rfl : x37 = zx37 := ex37.trans ezx37.symm
    refine lv_iload_n hx hb dX6_takeAround_34 rfl (lv_at hl 6 rfl) ?_
    refine lv_iconst (v := (1 : Int32)) hx hb dX6_takeAround_35 (by decide) ?_
    refine lv_iand hx hb dX6_takeAround_36 ?_
    obtain ⟨x38, ex38, hF⟩ := ltt_some hF
    refine lv_topi (fun zx38 ezx38 => ?_)
    obtain rfl : x38 = zx38 := ex38.trans ezx38.symm
    obtain ⟨y39, hy39, hF⟩ := bnd_some hF
    have J39 : ∀ (H : Heap) (locs : List Loc) (ls : Array Slot), va_P D classes (wld ct ad G s6.2) H → va_D A (wld ct ad G s6.2) → va_S A s.heap H locs → lv_has ls 7 [(6, .int s6.1), (5, .int x4), (4, va_re ad (M.2 b2 ((0 : Int32)).toNatClampNeg)), (0, .ref (ad a)), (1, va_re ad p0), (2, .int p1), (3, .int p2)] → W p l e (headSpec wuX6_takeAround ({ frames := 0, cells := 0, slots := 0, locals := 0 })).room s m ([.ref (ad a), va_re ad p0, .int p1, .int p2] : List Value).toArray below meth c H locs 0 0 (MQ below (va_Qv (fun (_ : Unit) => True) (fun _ t => kE D ct ad G A y t) A) ([.ref (ad a), va_re ad p0, .int p1, .int p2] : List Value).toArray s 0 0 A) (F0 m 56 ls [.int y39, .int x37, va_re ad (s6.2.2 a 8)]) := by
      intro H locs ls hP hD hS hl
      obtain ⟨b40, ho40, hc40, hk40, hF⟩ := dr_some hF
      refine W_st (st' := [.int y39, .int x37, .ref (ad b40)]) (by rw [va_some ho40]) ?_
      obtain ⟨hvc, hF⟩ := chk_some hF
      refine va_iast hx hb hK hP hD hS b40 1 (wld_i ct ad G s6.2 hc40 hk40) rfl hvc dX6_takeAround_56 (fun H locs hP hD hS => ?_)
      obtain ⟨M41, eM41, hF⟩ := ltt_some hF
      rw [set_i ct ad G s6.2 hc40 hk40, ← eM41] at hP hD
      refine lv_aload_n hx hb dX6_takeAround_57 rfl (lv_at hl 3 rfl) ?_
      refine va_get (D := D) (ci := 6) (v := va_re ad (M41.2 a 8)) (C := RX6) (T := TX6) (N := 14) hx hb hts (mus hf_X6) hown hK hP a (wld_o ct ad G M41 hc hk (by decide)) rfl 8 (by decide) (hts (.fieldLink RX6 36 "VideoSuite$Samples" "around" "[I") (mu mw_544)) (fun _ h9 => h9) rfl dX6_takeAround_58 ?_
      refine lv_iconst (v := (5 : Int32)) hx hb dX6_takeAround_61 (by decide) ?_
      refine lv_iload hx hb dX6_takeAround_62 (lv_at hl 0 rfl) ?_
      refine lv_iadd hx hb dX6_takeAround_64 ?_
      obtain ⟨x42, ex42, hF⟩ := ltt_some hF
      refine lv_topi (fun zx42 ezx42 => ?_)
      obtain rfl : x42 = zx42 := ex42.trans ezx42.symm
      refine lv_iload_n hx hb dX6_takeAround_65 rfl (lv_at hl 6 rfl) ?_
      refine lv_iconst (v := (2 : Int32)) hx hb dX6_takeAround_66 (by decide) ?_
      refine lv_iand hx hb dX6_takeAround_67 ?_
      obtain ⟨x43, ex43, hF⟩ := ltt_some hF
      refine lv_topi (fun zx43 ezx43 => ?_)
      obtain rfl : x43 = zx43 := ex43.trans ezx43.symm
      obtain ⟨y44, hy44, hF⟩ := bnd_some hF
      have J44 : ∀ (H : Heap) (locs : List Loc) (ls : Array Slot), va_P D classes (wld ct ad G M41) H → va_D A (wld ct ad G M41) → va_S A s.heap H locs → lv_has ls 7 [(6, .int s6.1), (5, .int x4), (4, va_re ad (M.2 b2 ((0 : Int32)).toNatClampNeg)), (0, .ref (ad a)), (1, va_re ad p0), (2, .int p1), (3, .int p2)] → W p l e (headSpec wuX6_takeAround ({ frames := 0, cells := 0, slots := 0, locals := 0 })).room s m ([.ref (ad a), va_re ad p0, .int p1, .int p2] : List Value).toArray below meth c H locs 0 0 (MQ below (va_Qv (fun (_ : Unit) => True) (fun _ t => kE D ct ad G A y t) A) ([.ref (ad a), va_re ad p0, .int p1, .int p2] : List Value).toArray s 0 0 A) (F0 m 85 ls [.int y44, .int x42, va_re ad (M41.2 a 8)]) := by
        intro H locs ls hP hD hS hl
        obtain ⟨b45, ho45, hc45, hk45, hF⟩ := dr_some hF
        refine W_st (st' := [.int y44, .int x42, .ref (ad b45)]) (by rw [va_some ho45]) ?_
        obtain ⟨hvc, hF⟩ := chk_some hF
        refine va_iast hx hb hK hP hD hS b45 1 (wld_i ct ad G M41 hc45 hk45) rfl hvc dX6_takeAround_85 (fun H locs hP hD hS => ?_)
        obtain ⟨M46, eM46, hF⟩ := ltt_some hF
        rw [set_i ct ad G M41 hc45 hk45, ← eM46] at hP hD
        obtain ⟨x47, ex47, hF⟩ := ltt_some hF
        refine lv_iinc (v := x47) (lv' := [(6, .int x47), (5, .int x4), (4, va_re ad (M.2 b2 ((0 : Int32)).toNatClampNeg)), (0, .ref (ad a)), (1, va_re ad p0), (2, .int p1), (3, .int p2)]) hx hb dX6_takeAround_86 hl (k := 0) rfl (by rw [ex47]; rfl) (by decide) rfl (fun ls hl => ?_)
        refine lv_goto (tgt := 20) hx hb dX6_takeAround_89 (by decide) ?_
        obtain rfl := Option.some.inj hF
        exact hwz35 _ _ _ hP hD hS (lv_sub hl [0, 1, 2, 3, 4, 5, 6] rfl)
      clear hF
      have hF := hy44
      clear hy44
      refine lv_if_eq (tgt := 84) hx hb dX6_takeAround_68 (by decide) (fun c48 => ?_) (fun c48 => ?_)
      · rw [if_pos c48] at hF
        refine lv_iconst (v := (0 : Int32)) hx hb dX6_takeAround_84 (by decide) ?_
        obtain rfl := Option.some.inj hF
        exact J44 _ _ _ hP hD hS (lv_sub hl [0, 1, 2, 3, 4, 5, 6] rfl)
      · rw [if_neg c48] at hF
        refine lv_aloadq hx hb dX6_takeAround_71 (lv_at hl 2 rfl) ?_
        refine lv_iload_n hx hb dX6_takeAround_73 rfl (lv_at hl 5 rfl) ?_
        refine lv_iload hx hb dX6_takeAround_74 (lv_at hl 1 rfl) ?_
        refine lv_isub hx hb dX6_takeAround_76 ?_
        obtain ⟨x49, ex49, hF⟩ := ltt_some hF
        refine lv_topi (fun zx49 ezx49 => ?_)
        obtain rfl : x49 = zx49 := ex49.trans ezx49.symm
        refine lv_iload hx hb dX6_takeAround_77 (lv_at hl 0 rfl) ?_
        refine lv_iadd hx hb dX6_takeAround_79 ?_
        obtain ⟨x50, ex50, hF⟩ := ltt_some hF
        refine lv_topi (fun zx50 ezx50 => ?_)
        obtain rfl : x50 = zx50 := ex50.trans ezx50.symm
        obtain ⟨b51, ho51, hc51, hk51, hF⟩ := dr_some hF
        refine W_st (st' := [.int x50, .ref (ad b51), .int x42, va_re ad (M41.2 a 8)]) (by rw [va_some ho51]) ?_
        obtain ⟨hvc, hF⟩ := chk_some hF
        refine va_iald hx hb hK hP b51 1 (wld_i ct ad G M41 hc51 hk51) rfl hvc dX6_takeAround_80 ?_
        obtain ⟨x52, ex52, hF⟩ := ltt_some hF
        refine lv_topi (fun zx52 ezx52 => ?_)
        obtain rfl : x52 = zx52 := ex52.trans ezx52.symm
        refine lv_goto (tgt := 85) hx hb dX6_takeAround_81 (by decide) ?_
        obtain rfl := Option.some.inj hF
        exact J44 _ _ _ hP hD hS (lv_sub hl [0, 1, 2, 3, 4, 5, 6] rfl)
    clear hF
    have hF := hy39
    clear hy39
    refine lv_if_eq (tgt := 55) hx hb dX6_takeAround_37 (by decide) (fun c53 => ?_) (fun c53 => ?_)
    · rw [if_pos c53] at hF
      refine lv_iconst (v := (0 : Int32)) hx hb dX6_takeAround_55 (by decide) ?_
      obtain rfl := Option.some.inj hF
      exact J39 _ _ _ hP hD hS (lv_sub hl [0, 1, 2, 3, 4, 5, 6] rfl)
    · rw [if_neg c53] at hF
      refine lv_aloadq hx hb dX6_takeAround_40 (lv_at hl 2 rfl) ?_
      refine lv_iload_n hx hb dX6_takeAround_42 rfl (lv_at hl 5 rfl) ?_
      refine lv_iload hx hb dX6_takeAround_43 (lv_at hl 0 rfl) ?_
      refine lv_iload hx hb dX6_takeAround_45 (lv_at hl 1 rfl) ?_
      refine lv_imul hx hb dX6_takeAround_47 ?_
      obtain ⟨x54, ex54, hF⟩ := ltt_some hF
      refine lv_topi (fun zx54 ezx54 => ?_)
      obtain rfl : x54 = zx54 := ex54.trans ezx54.symm
      refine lv_iadd hx hb dX6_takeAround_48 ?_
      obtain ⟨x55, ex55, hF⟩ := ltt_some hF
      refine lv_topi (fun zx55 ezx55 => ?_)
      obtain rfl : x55 = zx55 := ex55.trans ezx55.symm
      refine lv_iconst (v := (1 : Int32)) hx hb dX6_takeAround_49 (by decide) ?_
      refine lv_isub hx hb dX6_takeAround_50 ?_
      obtain ⟨x56, ex56, hF⟩ := ltt_some hF
      refine lv_topi (fun zx56 ezx56 => ?_)
      obtain rfl : x56 = zx56 := ex56.trans ezx56.symm
      obtain ⟨b57, ho57, hc57, hk57, hF⟩ := dr_some hF
      refine W_st (st' := [.int x56, .ref (ad b57), .int x37, va_re ad (s6.2.2 a 8)]) (by rw [va_some ho57]) ?_
      obtain ⟨hvc, hF⟩ := chk_some hF
      refine va_iald hx hb hK hP b57 1 (wld_i ct ad G s6.2 hc57 hk57) rfl hvc dX6_takeAround_51 ?_
      obtain ⟨x58, ex58, hF⟩ := ltt_some hF
      refine lv_topi (fun zx58 ezx58 => ?_)
      obtain rfl : x58 = zx58 := ex58.trans ezx58.symm
      refine lv_goto (tgt := 56) hx hb dX6_takeAround_52 (by decide) ?_
      obtain rfl := Option.some.inj hF
      exact J39 _ _ _ hP hD hS (lv_sub hl [0, 1, 2, 3, 4, 5, 6] rfl)
set_option maxRecDepth 20000 in
theorem gX6_takeMotion_X4_at : GoodIn wuX6_takeMotion (va_wsS RX6 66 yX4_at wuX4_at) := gu_S mw_2009 mw_1796 mw_185 mw_1797
theorem dX6_takeMotion_0 : decode cX6_takeMotion 0 = .ok (.iconst 0, 1) := by decide +kernel
theorem dX6_takeMotion_1 : decode cX6_takeMotion 1 = .ok (.istore_n 3, 1) := by decide +kernel
theorem dX6_takeMotion_2 : decode cX6_takeMotion 2 = .ok (.iload_n 3, 1) := by decide +kernel
theorem dX6_takeMotion_3 : decode cX6_takeMotion 3 = .ok (.iconst 2, 1) := by decide +kernel
theorem dX6_takeMotion_4 : decode cX6_takeMotion 4 = .ok (.if_icmp .ge 71, 3) := by decide +kernel
theorem dX6_takeMotion_7 : decode cX6_takeMotion 7 = .ok (.iload_n 3, 1) := by decide +kernel
theorem dX6_takeMotion_8 : decode cX6_takeMotion 8 = .ok (.iload_n 2, 1) := by decide +kernel
theorem dX6_takeMotion_9 : decode cX6_takeMotion 9 = .ok (.invokestatic 66, 3) := by decide +kernel
theorem dX6_takeMotion_12 : decode cX6_takeMotion 12 = .ok (.istore 4, 2) := by decide +kernel
theorem dX6_takeMotion_14 : decode cX6_takeMotion 14 = .ok (.aload_n 0, 1) := by decide +kernel
theorem dX6_takeMotion_15 : decode cX6_takeMotion 15 = .ok (.getfield 27, 3) := by decide +kernel
theorem dX6_takeMotion_18 : decode cX6_takeMotion 18 = .ok (.iconst 3, 1) := by decide +kernel
theorem dX6_takeMotion_19 : decode cX6_takeMotion 19 = .ok (.iload_n 3, 1) := by decide +kernel
theorem dX6_takeMotion_20 : decode cX6_takeMotion 20 = .ok (.imul, 1) := by decide +kernel
theorem dX6_takeMotion_21 : decode cX6_takeMotion 21 = .ok (.aload_n 1, 1) := by decide +kernel
theorem dX6_takeMotion_22 : decode cX6_takeMotion 22 = .ok (.getfield 70, 3) := by decide +kernel
theorem dX6_takeMotion_25 : decode cX6_takeMotion 25 = .ok (.iload 4, 2) := by decide +kernel
theorem dX6_takeMotion_27 : decode cX6_takeMotion 27 = .ok (.iaload, 1) := by decide +kernel
theorem dX6_takeMotion_28 : decode cX6_takeMotion 28 = .ok (.iastore, 1) := by decide +kernel
theorem dX6_takeMotion_29 : decode cX6_takeMotion 29 = .ok (.aload_n 0, 1) := by decide +kernel
theorem dX6_takeMotion_30 : decode cX6_takeMotion 30 = .ok (.getfield 27, 3) := by decide +kernel
theorem dX6_takeMotion_33 : decode cX6_takeMotion 33 = .ok (.iconst 3, 1) := by decide +kernel
theorem dX6_takeMotion_34 : decode cX6_takeMotion 34 = .ok (.iload_n 3, 1) := by decide +kernel
theorem dX6_takeMotion_35 : decode cX6_takeMotion 35 = .ok (.imul, 1) := by decide +kernel
theorem dX6_takeMotion_36 : decode cX6_takeMotion 36 = .ok (.iconst 1, 1) := by decide +kernel
theorem dX6_takeMotion_37 : decode cX6_takeMotion 37 = .ok (.iadd, 1) := by decide +kernel
theorem dX6_takeMotion_38 : decode cX6_takeMotion 38 = .ok (.aload_n 1, 1) := by decide +kernel
theorem dX6_takeMotion_39 : decode cX6_takeMotion 39 = .ok (.getfield 73, 3) := by decide +kernel
theorem dX6_takeMotion_42 : decode cX6_takeMotion 42 = .ok (.iconst 2, 1) := by decide +kernel
theorem dX6_takeMotion_43 : decode cX6_takeMotion 43 = .ok (.iload 4, 2) := by decide +kernel
theorem dX6_takeMotion_45 : decode cX6_takeMotion 45 = .ok (.imul, 1) := by decide +kernel
theorem dX6_takeMotion_46 : decode cX6_takeMotion 46 = .ok (.iaload, 1) := by decide +kernel
theorem dX6_takeMotion_47 : decode cX6_takeMotion 47 = .ok (.iastore, 1) := by decide +kernel
theorem dX6_takeMotion_48 : decode cX6_takeMotion 48 = .ok (.aload_n 0, 1) := by decide +kernel
theorem dX6_takeMotion_49 : decode cX6_takeMotion 49 = .ok (.getfield 27, 3) := by decide +kernel
theorem dX6_takeMotion_52 : decode cX6_takeMotion 52 = .ok (.iconst 3, 1) := by decide +kernel
theorem dX6_takeMotion_53 : decode cX6_takeMotion 53 = .ok (.iload_n 3, 1) := by decide +kernel
theorem dX6_takeMotion_54 : decode cX6_takeMotion 54 = .ok (.imul, 1) := by decide +kernel
theorem dX6_takeMotion_55 : decode cX6_takeMotion 55 = .ok (.iconst 2, 1) := by decide +kernel
theorem dX6_takeMotion_56 : decode cX6_takeMotion 56 = .ok (.iadd, 1) := by decide +kernel
theorem dX6_takeMotion_57 : decode cX6_takeMotion 57 = .ok (.aload_n 1, 1) := by decide +kernel
theorem dX6_takeMotion_58 : decode cX6_takeMotion 58 = .ok (.getfield 73, 3) := by decide +kernel
theorem dX6_takeMotion_61 : decode cX6_takeMotion 61 = .ok (.iconst 2, 1) := by decide +kernel
theorem dX6_takeMotion_62 : decode cX6_takeMotion 62 = .ok (.iload 4, 2) := by decide +kernel
theorem dX6_takeMotion_64 : decode cX6_takeMotion 64 = .ok (.imul, 1) := by decide +kernel
theorem dX6_takeMotion_65 : decode cX6_takeMotion 65 = .ok (.iconst 1, 1) := by decide +kernel
theorem dX6_takeMotion_66 : decode cX6_takeMotion 66 = .ok (.iadd, 1) := by decide +kernel
theorem dX6_takeMotion_67 : decode cX6_takeMotion 67 = .ok (.iaload, 1) := by decide +kernel
theorem dX6_takeMotion_68 : decode cX6_takeMotion 68 = .ok (.iastore, 1) := by decide +kernel
theorem dX6_takeMotion_69 : decode cX6_takeMotion 69 = .ok (.iinc 3 1, 3) := by decide +kernel
theorem dX6_takeMotion_72 : decode cX6_takeMotion 72 = .ok (.goto (-70), 3) := by decide +kernel
theorem dX6_takeMotion_75 : decode cX6_takeMotion 75 = .ok (.return_, 1) := by decide +kernel
def FX6_takeMotion (G : GG) (M : DD) (a : Nat) (p0 : Option Nat) (p1 : Int32) : Option (DD) :=
  bnd (itr (fun (s2 : Int32 × DD) => ((if ((2 : Int32)) ≤ s2.1 then (some (.inr (s2.1, s2.2))) else
  (bnd (FX4_at G s2.2 s2.1 p1) fun y6 =>
  ltt ((((3 : Int32)) * s2.1)) fun x7 =>
  dr G 4 p0 fun b8 =>
  dr G 13 ((y6.1.2 b8 5)) fun b9 =>
  chk (¬ (y6.2 < 0 ∨ G.2.2 b9 ≤ y6.2.toNatClampNeg)) <|
  ltt (y6.1.1 b9 y6.2.toNatClampNeg) fun x10 =>
  dr G 13 ((y6.1.2 a 5)) fun b11 =>
  chk (¬ (x7 < 0 ∨ G.2.2 b11 ≤ x7.toNatClampNeg)) <|
  ltt (uI y6.1 b11 x7.toNatClampNeg x10) fun M12 =>
  ltt ((((3 : Int32)) * s2.1)) fun x13 =>
  ltt ((x13 + ((1 : Int32)))) fun x14 =>
  ltt ((((2 : Int32)) * y6.2)) fun x15 =>
  dr G 13 ((M12.2 b8 7)) fun b16 =>
  chk (¬ (x15 < 0 ∨ G.2.2 b16 ≤ x15.toNatClampNeg)) <|
  ltt (M12.1 b16 x15.toNatClampNeg) fun x17 =>
  dr G 13 ((M12.2 a 5)) fun b18 =>
  chk (¬ (x14 < 0 ∨ G.2.2 b18 ≤ x14.toNatClampNeg)) <|
  ltt (uI M12 b18 x14.toNatClampNeg x17) fun M19 =>
  ltt ((((3 : Int32)) * s2.1)) fun x20 =>
  ltt ((x20 + ((2 : Int32)))) fun x21 =>
  ltt ((((2 : Int32)) * y6.2)) fun x22 =>
  ltt ((x22 + ((1 : Int32)))) fun x23 =>
  dr G 13 ((M19.2 b8 7)) fun b24 =>
  chk (¬ (x23 < 0 ∨ G.2.2 b24 ≤ x23.toNatClampNeg)) <|
  ltt (M19.1 b24 x23.toNatClampNeg) fun x25 =>
  dr G 13 ((M19.2 a 5)) fun b26 =>
  chk (¬ (x21 < 0 ∨ G.2.2 b26 ≤ x21.toNatClampNeg)) <|
  ltt (uI M19 b26 x21.toNatClampNeg x25) fun M27 =>
  ltt (s2.1 + (1 : Int32)) fun x28 =>
  some (.inl (x28, M27)))) : Option ((Int32 × DD) ⊕ (Int32 × DD)))) 1000000 ((0 : Int32), M)) fun (y1 : Int32 × DD) =>
  some y1.2
set_option maxHeartbeats 4000000 in
set_option maxRecDepth 100000 in
theorem kX6_takeMotion (l : Launch) (D : va_G) (ct : CT) (ad : Nat → Nat) (Z : Nat → Nat) (G : GG) (M : DD) (sz : Nat) (a : Nat) (p0 : Option Nat) (p1 : Int32) (y : DD) (hc : a < G.1) (hk : G.2.1 a = 6) (hF : FX6_takeMotion G M a p0 p1 = some y) : Met l yX6_takeMotion wuX6_takeMotion ({ frames := 1, cells := 0, slots := 0, locals := 21 }) (va_Pc [.ref (ad a), va_re ad p0, .int p1] (kB D ct ad Z G M sz)) (va_Qv (fun (_ : Unit) => True) (fun _ t => kE D ct ad G (wA ad G sz) y t) (wA ad G sz)) 0 0 (wA ad G sz) := by
  refine Met.ofW (cc := cX6_takeMotion) (maxL := 5) (ret := none) (by decide) rfl ?_
  intro p e s m args below meth c s₁ B hml hv
  obtain ⟨rfl, hsz, hP, hK, hD0, hZ, hN⟩ := hv
  have hx := B.exec
  have hb := B.bytes
  have hr := B.returns
  have hts := atoms_spec (ws := wuX6_takeMotion) B.pre
  have hown : s.vm.findClass RX6 = some m.cls := findClass_of_methodNamed B.named
  have hlocks := B.notSynchronized
  subst hsz
  have hD := wD_self (sz := s.heap.size) hD0
  have hA9 : ∀ q, s.heap.size ≤ q → wA ad G s.heap.size q := fun q h => Or.inr h
  generalize hAe : wA ad G s.heap.size = A at hD hA9 hZ ⊢
  have hS : va_S A s.heap s.heap [] := va_S.rf
  have hl := lv_entry ([.ref (ad a), va_re ad p0, .int p1]) (n := 5) (by cases p0 <;> exact Nat.le_of_ble_eq_true rfl)
  rw [lg_entry_eq]
  generalize (lg_sl ([.ref (ad a), va_re ad p0, .int p1]) ++ List.replicate (5 - (lg_sl ([.ref (ad a), va_re ad p0, .int p1])).length) Slot.unset).toArray = ls at hl ⊢
  have hl : lv_has ls 5 [(0, .ref (ad a)), (1, va_re ad p0), (2, .int p1)] := by have e9 : lv_args 0 [.ref (ad a), va_re ad p0, .int p1] = [(0, .ref (ad a)), (1, va_re ad p0), (2, .int p1)] := (by cases p0 <;> rfl); rw [e9] at hl; exact hl
  unfold FX6_takeMotion at hF
  refine lv_iconst (v := (0 : Int32)) hx hb dX6_takeMotion_0 (by decide) ?_
  refine lv_istore_n (lv' := [(3, .int (0 : Int32)), (0, .ref (ad a)), (1, va_re ad p0), (2, .int p1)]) hx hb dX6_takeMotion_1 rfl hl (by decide) rfl (fun ls hl => ?_)
  obtain ⟨y1, hy1, hF⟩ := bnd_some hF
  have K1 : ∀ (H : Heap) (locs : List Loc) (ls : Array Slot), va_P D classes (wld ct ad G y1.2) H → va_D A (wld ct ad G y1.2) → va_S A s.heap H locs → lv_has ls 5 [(3, .int y1.1), (0, .ref (ad a)), (1, va_re ad p0), (2, .int p1)] → W p l e (headSpec wuX6_takeMotion ({ frames := 1, cells := 0, slots := 0, locals := 21 })).room s m ([.ref (ad a), va_re ad p0, .int p1] : List Value).toArray below meth c H locs 0 0 (MQ below (va_Qv (fun (_ : Unit) => True) (fun _ t => kE D ct ad G A y t) A) ([.ref (ad a), va_re ad p0, .int p1] : List Value).toArray s 0 0 A) (F0 m 75 ls []) := by
    intro H locs ls hP hD hS hl
    obtain rfl := Option.some.inj hF
    exact W.vret hx hb hr (fun t ht hW => ⟨⟨(), rfl, trivial, ⟨by rw [ht]; exact hP, va_K.moved hW.alike hK, hD⟩⟩, hS.F ht⟩) hS.2.2 dX6_takeMotion_75
  clear hF
  refine itr_rule (fun (s2 : Int32 × DD) => ∀ (H : Heap) (locs : List Loc) (ls : Array Slot), va_P D classes (wld ct ad G s2.2) H → va_D A (wld ct ad G s2.2) → va_S A s.heap H locs → lv_has ls 5 [(3, .int s2.1), (0, .ref (ad a)), (1, va_re ad p0), (2, .int p1)] → W p l e (headSpec wuX6_takeMotion ({ frames := 1, cells := 0, slots := 0, locals := 21 })).room s m ([.ref (ad a), va_re ad p0, .int p1] : List Value).toArray below meth c H locs 0 0 (MQ below (va_Qv (fun (_ : Unit) => True) (fun _ t => kE D ct ad G A y t) A) ([.ref (ad a), va_re ad p0, .int p1] : List Value).toArray s 0 0 A) (F0 m 2 ls [])) ?_ _ _ hy1 _ _ _ hP hD hS (lv_sub hl [0, 1, 2, 3] rfl)
  rintro s2 ⟨z4, hF, hwz4⟩ H locs ls hP hD hS hl
  try dsimp only at hF
  refine lv_iload_n hx hb dX6_takeMotion_2 rfl (lv_at hl 0 rfl) ?_
  refine lv_iconst (v := (2 : Int32)) hx hb dX6_takeMotion_3 (by decide) ?_
  refine lv_icmp_ge (tgt := 75) hx hb dX6_takeMotion_4 (by decide) (fun c5 => ?_) (fun c5 => ?_)
  · rw [if_pos c5] at hF
    obtain rfl := Option.some.inj hF
    subst hwz4
    exact K1 _ _ _ hP hD hS (lv_sub hl [0, 1, 2, 3] rfl)
  · rw [if_neg c5] at hF
    refine lv_iload_n hx hb dX6_takeMotion_7 rfl (lv_at hl 0 rfl) ?_
    refine lv_iload_n hx hb dX6_takeMotion_8 rfl (lv_at hl 3 rfl) ?_
    obtain ⟨y6, hy6, hF⟩ := bnd_some hF
    have hf9 := wA_in hD hA9 hS
    refine va_calli (va_runS (As := [.int s2.1, .int p1]) (rest := []) ⟨hx, hb, hml, hown, hts⟩ (kX4_at l D ct ad Z G s2.2 H.size s2.1 p1 y6 hy6) (va_cwS 2 hts gX6_takeMotion_X4_at rfl rfl rfl (by decide +kernel) ⟨Nat.le_of_ble_eq_true rfl, Nat.le_of_ble_eq_true rfl⟩) ⟨fun a U g mk q => by obtain ⟨q0, q1, qP, qK, qD, qZ, qN⟩ := q; exact ⟨q0, q1, qP, va_K.moved (u := U) (U := U.calling g mk a) (Vm.Alike.refl U.vm) qK, qD, sF.moved (u := U) (U := U.calling g mk a) (Vm.Alike.refl U.vm) qZ, nF.same rfl qN⟩, fun U hU hW => ⟨rfl, by rw [hU], by rw [hU]; exact hP, va_K.moved hW.alike hK, hD.weaken (fun _ _ _ _ => trivial), by rw [hU]; exact ((hZ.kept hS.2.1).narrow hf9).moved hW.alike, hN.warm hW⟩⟩ rfl rfl hl.1 rfl (lv_room (Nat.le_of_ble_eq_true rfl)) dX6_takeMotion_9 ⟨(Nat.zero_le _), (Nat.zero_le _)⟩) hS (fun q _ h => hf9 q h) hf9 (fun r u t H locs ht hvm hw hB hz1 hk1 hS => ?_)
    obtain ⟨hP, hK9, hD9⟩ := hB
    rw [ht] at hP
    try dsimp only at hw
    subst hw
    have hD := hD9.weaken (fun _ q _ h => hf9 q.1 h)
    refine lv_istore (lv' := [(4, .int y6.2), (3, .int s2.1), (0, .ref (ad a)), (1, va_re ad p0), (2, .int p1)]) hx hb dX6_takeMotion_12 hl (by decide) rfl (fun ls hl => ?_)
    refine lv_aload_n hx hb dX6_takeMotion_14 rfl (lv_at hl 2 rfl) ?_
    refine va_get (D := D) (ci := 6) (v := va_re ad (y6.1.2 a 5)) (C := RX6) (T := TX6) (N := 14) hx hb hts (mus hf_X6) hown hK hP a (wld_o ct ad G y6.1 hc hk (by decide)) rfl 5 (by decide) (hts (.fieldLink RX6 27 "VideoSuite$Samples" "motion" "[I") (mu mw_540)) (fun _ h9 => h9) rfl dX6_takeMotion_15 ?_
    refine lv_iconst (v := (3 : Int32)) hx hb dX6_takeMotion_18 (by decide) ?_
    refine lv_iload_n hx hb dX6_takeMotion_19 rfl (lv_at hl 1 rfl) ?_
    refine lv_imul hx hb dX6_takeMotion_20 ?_
    obtain ⟨x7, ex7, hF⟩ := ltt_some hF
    refine lv_topi (fun zx7 ezx7 => ?_)
    obtain rfl : x7 = zx7 := ex7.trans ezx7.symm
    refine lv_aloadq_n hx hb dX6_takeMotion_21 rfl (lv_at hl 3 rfl) ?_
    obtain ⟨b8, ho8, hc8, hk8, hF⟩ := dr_some hF
    refine W_st (st' := [.ref (ad b8), .int x7, va_re ad (y6.1.2 a 5)]) (by rw [va_some ho8]) ?_
    refine va_get (D := D) (ci := 4) (v := va_re ad (y6.1.2 b8 5)) (C := RX4) (T := TX4) (N := 18) hx hb hts (mus hf_X4) hown hK hP b8 (wld_o ct ad G y6.1 hc8 hk8 (by decide)) rfl 5 (by decide) (hts (.fieldLink RX6 70 "VideoSuite$Picture" "reference" "[I") (mu mw_1438)) (fun _ h9 => h9) rfl dX6_takeMotion_22 ?_
    refine lv_iload hx hb dX6_takeMotion_25 (lv_at hl 0 rfl) ?_
    obtain ⟨b9, ho9, hc9, hk9, hF⟩ := dr_some hF
    refine W_st (st' := [.int y6.2, .ref (ad b9), .int x7, va_re ad (y6.1.2 a 5)]) (by rw [va_some ho9]) ?_
    obtain ⟨hvc, hF⟩ := chk_some hF
    refine va_iald hx hb hK hP b9 1 (wld_i ct ad G y6.1 hc9 hk9) rfl hvc dX6_takeMotion_27 ?_
    obtain ⟨x10, ex10, hF⟩ := ltt_some hF
    refine lv_topi (fun zx10 ezx10 => ?_)
    obtain rfl : x10 = zx10 := ex10.trans ezx10.symm
    obtain ⟨b11, ho11, hc11, hk11, hF⟩ := dr_some hF
    refine W_st (st' := [.int x10, .int x7, .ref (ad b11)]) (by rw [va_some ho11]) ?_
    obtain ⟨hvc, hF⟩ := chk_some hF
    refine va_iast hx hb hK hP hD hS b11 1 (wld_i ct ad G y6.1 hc11 hk11) rfl hvc dX6_takeMotion_28 (fun H locs hP hD hS => ?_)
    obtain ⟨M12, eM12, hF⟩ := ltt_some hF
    rw [set_i ct ad G y6.1 hc11 hk11, ← eM12] at hP hD
    refine lv_aload_n hx hb dX6_takeMotion_29 rfl (lv_at hl 2 rfl) ?_
    refine va_get (D := D) (ci := 6) (v := va_re ad (M12.2 a 5)) (C := RX6) (T := TX6) (N := 14) hx hb hts (mus hf_X6) hown hK hP a (wld_o ct ad G M12 hc hk (by decide)) rfl 5 (by decide) (hts (.fieldLink RX6 27 "VideoSuite$Samples" "motion" "[I") (mu mw_540)) (fun _ h9 => h9) rfl dX6_takeMotion_30 ?_
    refine lv_iconst (v := (3 : Int32)) hx hb dX6_takeMotion_33 (by decide) ?_
    refine lv_iload_n hx hb dX6_takeMotion_34 rfl (lv_at hl 1 rfl) ?_
    refine lv_imul hx hb dX6_takeMotion_35 ?_
    obtain ⟨x13, ex13, hF⟩ := ltt_some hF
    refine lv_topi (fun zx13 ezx13 => ?_)
    obtain rfl : x13 = zx13 := ex13.trans ezx13.symm
    refine lv_iconst (v := (1 : Int32)) hx hb dX6_takeMotion_36 (by decide) ?_
    refine lv_iadd hx hb dX6_takeMotion_37 ?_
    obtain ⟨x14, ex14, hF⟩ := ltt_some hF
    refine lv_topi (fun zx14 ezx14 => ?_)
    obtain rfl : x14 = zx14 := ex14.trans ezx14.symm
    refine lv_aloadq_n hx hb dX6_takeMotion_38 rfl (lv_at hl 3 rfl) ?_
    refine W_st (st' := [.ref (ad b8), .int x14, va_re ad (M12.2 a 5)]) (by rw [va_some ho8]) ?_
    refine va_get (D := D) (ci := 4) (v := va_re ad (M12.2 b8 7)) (C := RX4) (T := TX4) (N := 18) hx hb hts (mus hf_X4) hown hK hP b8 (wld_o ct ad G M12 hc8 hk8 (by decide)) rfl 7 (by decide) (hts (.fieldLink RX6 73 "VideoSuite$Picture" "move" "[I") (mu mw_1446)) (fun _ h9 => h9) rfl dX6_takeMotion_39 ?_
    refine lv_iconst (v := (2 : Int32)) hx hb dX6_takeMotion_42 (by decide) ?_
    refine lv_iload hx hb dX6_takeMotion_43 (lv_at hl 0 rfl) ?_
    refine lv_imul hx hb dX6_takeMotion_45 ?_
    obtain ⟨x15, ex15, hF⟩ := ltt_some hF
    refine lv_topi (fun zx15 ezx15 => ?_)
    obtain rfl : x15 = zx15 := ex15.trans ezx15.symm
    obtain ⟨b16, ho16, hc16, hk16, hF⟩ := dr_some hF
    refine W_st (st' := [.int x15, .ref (ad b16), .int x14, va_re ad (M12.2 a 5)]) (by rw [va_some ho16]) ?_
    obtain ⟨hvc, hF⟩ := chk_some hF
    refine va_iald hx hb hK hP b16 1 (wld_i ct ad G M12 hc16 hk16) rfl hvc dX6_takeMotion_46 ?_
    obtain ⟨x17, ex17, hF⟩ := ltt_some hF
    refine lv_topi (fun zx17 ezx17 => ?_)
    obtain rfl : x17 = zx17 := ex17.trans ezx17.symm
    obtain ⟨b18, ho18, hc18, hk18, hF⟩ := dr_some hF
    refine W_st (st' := [.int x17, .int x14, .ref (ad b18)]) (by rw [va_some ho18]) ?_
    obtain ⟨hvc, hF⟩ := chk_some hF
    refine va_iast hx hb hK hP hD hS b18 1 (wld_i ct ad G M12 hc18 hk18) rfl hvc dX6_takeMotion_47 (fun H locs hP hD hS => ?_)
    obtain ⟨M19, eM19, hF⟩ := ltt_some hF
    rw [set_i ct ad G M12 hc18 hk18, ← eM19] at hP hD
    refine lv_aload_n hx hb dX6_takeMotion_48 rfl (lv_at hl 2 rfl) ?_
    refine va_get (D := D) (ci := 6) (v := va_re ad (M19.2 a 5)) (C := RX6) (T := TX6) (N := 14) hx hb hts (mus hf_X6) hown hK hP a (wld_o ct ad G M19 hc hk (by decide)) rfl 5 (by decide) (hts (.fieldLink RX6 27 "VideoSuite$Samples" "motion" "[I") (mu mw_540)) (fun _ h9 => h9) rfl dX6_takeMotion_49 ?_
    refine lv_iconst (v := (3 : Int32)) hx hb dX6_takeMotion_52 (by decide) ?_
    refine lv_iload_n hx hb dX6_takeMotion_53 rfl (lv_at hl 1 rfl) ?_
    refine lv_imul hx hb dX6_takeMotion_54 ?_
    obtain ⟨x20, ex20, hF⟩ := ltt_some hF
    refine lv_topi (fun zx20 ezx20 => ?_)
    obtain rfl : x20 = zx20 := ex20.trans ezx20.symm
    refine lv_iconst (v := (2 : Int32)) hx hb dX6_takeMotion_55 (by decide) ?_
    refine lv_iadd hx hb dX6_takeMotion_56 ?_
    obtain ⟨x21, ex21, hF⟩ := ltt_some hF
    refine lv_topi (fun zx21 ezx21 => ?_)
    obtain rfl : x21 = zx21 := ex21.trans ezx21.symm
    refine lv_aloadq_n hx hb dX6_takeMotion_57 rfl (lv_at hl 3 rfl) ?_
    refine W_st (st' := [.ref (ad b8), .int x21, va_re ad (M19.2 a 5)]) (by rw [va_some ho8]) ?_
    refine va_get (D := D) (ci := 4) (v := va_re ad (M19.2 b8 7)) (C := RX4) (T := TX4) (N := 18) hx hb hts (mus hf_X4) hown hK hP b8 (wld_o ct ad G M19 hc8 hk8 (by decide)) rfl 7 (by decide) (hts (.fieldLink RX6 73 "VideoSuite$Picture" "move" "[I") (mu mw_1446)) (fun _ h9 => h9) rfl dX6_takeMotion_58 ?_
    refine lv_iconst (v := (2 : Int32)) hx hb dX6_takeMotion_61 (by decide) ?_
    refine lv_iload hx hb dX6_takeMotion_62 (lv_at hl 0 rfl) ?_
    refine lv_imul hx hb dX6_takeMotion_64 ?_
    obtain ⟨x22, ex22, hF⟩ := ltt_some hF
    refine lv_topi (fun zx22 ezx22 => ?_)
    obtain rfl : x22 = zx22 := ex22.trans ezx22.symm
    refine lv_iconst (v := (1 : Int32)) hx hb dX6_takeMotion_65 (by decide) ?_
    refine lv_iadd hx hb dX6_takeMotion_66 ?_
    obtain ⟨x23, ex23, hF⟩ := ltt_some hF
    refine lv_topi (fun zx23 ezx23 => ?_)
    obtain rfl : x23 = zx23 := ex23.trans ezx23.symm
    obtain ⟨b24, ho24, hc24, hk24, hF⟩ := dr_some hF
    refine W_st (st' := [.int x23, .ref (ad b24), .int x21, va_re ad (M19.2 a 5)]) (by rw [va_some ho24]) ?_
    obtain ⟨hvc, hF⟩ := chk_some hF
    refine va_iald hx hb hK hP b24 1 (wld_i ct ad G M19 hc24 hk24) rfl hvc dX6_takeMotion_67 ?_
    obtain ⟨x25, ex25, hF⟩ := ltt_some hF
    refine lv_topi (fun zx25 ezx25 => ?_)
    obtain rfl : x25 = zx25 := ex25.trans ezx25.symm
    obtain ⟨b26, ho26, hc26, hk26, hF⟩ := dr_some hF
    refine W_st (st' := [.int x25, .int x21, .ref (ad b26)]) (by rw [va_some ho26]) ?_
    obtain ⟨hvc, hF⟩ := chk_some hF
    refine va_iast hx hb hK hP hD hS b26 1 (wld_i ct ad G M19 hc26 hk26) rfl hvc dX6_takeMotion_68 (fun H locs hP hD hS => ?_)
    obtain ⟨M27, eM27, hF⟩ := ltt_some hF
    rw [set_i ct ad G M19 hc26 hk26, ← eM27] at hP hD
    obtain ⟨x28, ex28, hF⟩ := ltt_some hF
    refine lv_iinc (v := x28) (lv' := [(3, .int x28), (4, .int y6.2), (0, .ref (ad a)), (1, va_re ad p0), (2, .int p1)]) hx hb dX6_takeMotion_69 hl (k := 1) rfl (by rw [ex28]; rfl) (by decide) rfl (fun ls hl => ?_)
    refine lv_goto (tgt := 2) hx hb dX6_takeMotion_72 (by decide) ?_
    obtain rfl := Option.some.inj hF
    exact hwz4 _ _ _ hP hD hS (lv_sub hl [0, 2, 3, 4] rfl)
set_option maxRecDepth 20000 in
theorem gX6_takeRaw_X6_colourAt : GoodIn wuX6_takeRaw (va_wsS RX6 206 yX6_colourAt wuX6_colourAt) := gu_S mw_1985 mw_1986 mw_172 mw_1987
set_option maxRecDepth 20000 in
theorem gX6_takeRaw_X6_lumaAt : GoodIn wuX6_takeRaw (va_wsS RX6 175 yX6_lumaAt wuX6_lumaAt) := gu_S mw_1981 mw_1982 mw_172 mw_1983
set_option maxRecDepth 20000 in
theorem dX6_takeRaw_0 : decode cX6_takeRaw 0 = .ok (.iconst 0, 1) := by decide +kernel
theorem dX6_takeRaw_1 : decode cX6_takeRaw 1 = .ok (.istore 4, 2) := by decide +kernel
theorem dX6_takeRaw_3 : decode cX6_takeRaw 3 = .ok (.iload 4, 2) := by decide +kernel
theorem dX6_takeRaw_5 : decode cX6_takeRaw 5 = .ok (.bipush 16, 2) := by decide +kernel
theorem dX6_takeRaw_7 : decode cX6_takeRaw 7 = .ok (.if_icmp .ge 37, 3) := by decide +kernel
theorem dX6_takeRaw_10 : decode cX6_takeRaw 10 = .ok (.aload_n 2, 1) := by decide +kernel
theorem dX6_takeRaw_11 : decode cX6_takeRaw 11 = .ok (.iconst 0, 1) := by decide +kernel
theorem dX6_takeRaw_12 : decode cX6_takeRaw 12 = .ok (.aaload, 1) := by decide +kernel
theorem dX6_takeRaw_13 : decode cX6_takeRaw 13 = .ok (.aload_n 1, 1) := by decide +kernel
theorem dX6_takeRaw_14 : decode cX6_takeRaw 14 = .ok (.getfield 46, 3) := by decide +kernel
theorem dX6_takeRaw_17 : decode cX6_takeRaw 17 = .ok (.iload_n 3, 1) := by decide +kernel
theorem dX6_takeRaw_18 : decode cX6_takeRaw 18 = .ok (.iconst 0, 1) := by decide +kernel
theorem dX6_takeRaw_19 : decode cX6_takeRaw 19 = .ok (.iload 4, 2) := by decide +kernel
theorem dX6_takeRaw_21 : decode cX6_takeRaw 21 = .ok (.invokestatic 175, 3) := by decide +kernel
theorem dX6_takeRaw_24 : decode cX6_takeRaw 24 = .ok (.aload_n 0, 1) := by decide +kernel
theorem dX6_takeRaw_25 : decode cX6_takeRaw 25 = .ok (.getfield 9, 3) := by decide +kernel
theorem dX6_takeRaw_28 : decode cX6_takeRaw 28 = .ok (.bipush 16, 2) := by decide +kernel
theorem dX6_takeRaw_30 : decode cX6_takeRaw 30 = .ok (.iload 4, 2) := by decide +kernel
theorem dX6_takeRaw_32 : decode cX6_takeRaw 32 = .ok (.imul, 1) := by decide +kernel
theorem dX6_takeRaw_33 : decode cX6_takeRaw 33 = .ok (.bipush 16, 2) := by decide +kernel
theorem dX6_takeRaw_35 : decode cX6_takeRaw 35 = .ok (.invokestatic 250, 3) := by decide +kernel
theorem dX6_takeRaw_38 : decode cX6_takeRaw 38 = .ok (.iinc 4 1, 3) := by decide +kernel
theorem dX6_takeRaw_41 : decode cX6_takeRaw 41 = .ok (.goto (-38), 3) := by decide +kernel
theorem dX6_takeRaw_44 : decode cX6_takeRaw 44 = .ok (.iconst 1, 1) := by decide +kernel
theorem dX6_takeRaw_45 : decode cX6_takeRaw 45 = .ok (.istore 4, 2) := by decide +kernel
theorem dX6_takeRaw_47 : decode cX6_takeRaw 47 = .ok (.iload 4, 2) := by decide +kernel
theorem dX6_takeRaw_49 : decode cX6_takeRaw 49 = .ok (.iconst 3, 1) := by decide +kernel
theorem dX6_takeRaw_50 : decode cX6_takeRaw 50 = .ok (.if_icmp .ge 64, 3) := by decide +kernel
theorem dX6_takeRaw_53 : decode cX6_takeRaw 53 = .ok (.iconst 0, 1) := by decide +kernel
theorem dX6_takeRaw_54 : decode cX6_takeRaw 54 = .ok (.istore 5, 2) := by decide +kernel
theorem dX6_takeRaw_56 : decode cX6_takeRaw 56 = .ok (.iload 5, 2) := by decide +kernel
theorem dX6_takeRaw_58 : decode cX6_takeRaw 58 = .ok (.bipush 8, 2) := by decide +kernel
theorem dX6_takeRaw_60 : decode cX6_takeRaw 60 = .ok (.if_icmp .ge 48, 3) := by decide +kernel
theorem dX6_takeRaw_63 : decode cX6_takeRaw 63 = .ok (.aload_n 2, 1) := by decide +kernel
theorem dX6_takeRaw_64 : decode cX6_takeRaw 64 = .ok (.iload 4, 2) := by decide +kernel
theorem dX6_takeRaw_66 : decode cX6_takeRaw 66 = .ok (.aaload, 1) := by decide +kernel
theorem dX6_takeRaw_67 : decode cX6_takeRaw 67 = .ok (.aload_n 1, 1) := by decide +kernel
theorem dX6_takeRaw_68 : decode cX6_takeRaw 68 = .ok (.getfield 46, 3) := by decide +kernel
theorem dX6_takeRaw_71 : decode cX6_takeRaw 71 = .ok (.iload_n 3, 1) := by decide +kernel
theorem dX6_takeRaw_72 : decode cX6_takeRaw 72 = .ok (.iconst 0, 1) := by decide +kernel
theorem dX6_takeRaw_73 : decode cX6_takeRaw 73 = .ok (.iload 5, 2) := by decide +kernel
theorem dX6_takeRaw_75 : decode cX6_takeRaw 75 = .ok (.invokestatic 206, 3) := by decide +kernel
theorem dX6_takeRaw_78 : decode cX6_takeRaw 78 = .ok (.aload_n 0, 1) := by decide +kernel
theorem dX6_takeRaw_79 : decode cX6_takeRaw 79 = .ok (.getfield 9, 3) := by decide +kernel
theorem dX6_takeRaw_82 : decode cX6_takeRaw 82 = .ok (.sipush 192, 3) := by decide +kernel
theorem dX6_takeRaw_85 : decode cX6_takeRaw 85 = .ok (.bipush 64, 2) := by decide +kernel
theorem dX6_takeRaw_87 : decode cX6_takeRaw 87 = .ok (.iload 4, 2) := by decide +kernel
theorem dX6_takeRaw_89 : decode cX6_takeRaw 89 = .ok (.imul, 1) := by decide +kernel
theorem dX6_takeRaw_90 : decode cX6_takeRaw 90 = .ok (.iadd, 1) := by decide +kernel
theorem dX6_takeRaw_91 : decode cX6_takeRaw 91 = .ok (.bipush 8, 2) := by decide +kernel
theorem dX6_takeRaw_93 : decode cX6_takeRaw 93 = .ok (.iload 5, 2) := by decide +kernel
theorem dX6_takeRaw_95 : decode cX6_takeRaw 95 = .ok (.imul, 1) := by decide +kernel
theorem dX6_takeRaw_96 : decode cX6_takeRaw 96 = .ok (.iadd, 1) := by decide +kernel
theorem dX6_takeRaw_97 : decode cX6_takeRaw 97 = .ok (.bipush 8, 2) := by decide +kernel
theorem dX6_takeRaw_99 : decode cX6_takeRaw 99 = .ok (.invokestatic 250, 3) := by decide +kernel
theorem dX6_takeRaw_102 : decode cX6_takeRaw 102 = .ok (.iinc 5 1, 3) := by decide +kernel
theorem dX6_takeRaw_105 : decode cX6_takeRaw 105 = .ok (.goto (-49), 3) := by decide +kernel
theorem dX6_takeRaw_108 : decode cX6_takeRaw 108 = .ok (.iinc 4 1, 3) := by decide +kernel
theorem dX6_takeRaw_111 : decode cX6_takeRaw 111 = .ok (.goto (-64), 3) := by decide +kernel
theorem dX6_takeRaw_114 : decode cX6_takeRaw 114 = .ok (.return_, 1) := by decide +kernel
def FX6_takeRaw (G : GG) (M : DD) (a : Nat) (p0 : Option Nat) (p1 : Option Nat) (p2 : Int32) : Option (DD) :=
  bnd (itr (fun (s2 : Int32 × DD) => ((if ((16 : Int32)) ≤ s2.1 then (some (.inr (s2.1, s2.2))) else
  (dr G 15 p1 fun b28 =>
  chk (¬ (((0 : Int32)) < 0 ∨ G.2.2 b28 ≤ ((0 : Int32)).toNatClampNeg)) <|
  dr G 9 p0 fun b29 =>
  bnd (FX6_lumaAt G s2.2 ((s2.2.2 b29 0)) p2 ((0 : Int32)) s2.1) fun y30 =>
  ltt ((((16 : Int32)) * s2.1)) fun x31 =>
  dr G 13 ((s2.2.2 b28 ((0 : Int32)).toNatClampNeg)) fun b32 =>
  dr G 13 ((y30.1.2 a 0)) fun b33 =>
  chk (¬ y30.2 < 0 ∧ ¬ x31 < 0 ∧ ¬ ((16 : Int32)) < 0 ∧ y30.2.toNatClampNeg + ((16 : Int32)).toNatClampNeg ≤ G.2.2 b32 ∧ x31.toNatClampNeg + ((16 : Int32)).toNatClampNeg ≤ G.2.2 b33) <|
  ltt (rI y30.1 b33 (va_cpy (y30.1.1 b32) (y30.1.1 b33) y30.2.toNatClampNeg x31.toNatClampNeg ((16 : Int32)).toNatClampNeg)) fun M34 =>
  ltt (s2.1 + (1 : Int32)) fun x35 =>
  some (.inl (x35, M34)))) : Option ((Int32 × DD) ⊕ (Int32 × DD)))) 1000000 ((0 : Int32), M)) fun (y1 : Int32 × DD) =>
  bnd (itr (fun (s5 : Int32 × DD) => ((if ((3 : Int32)) ≤ s5.1 then (some (.inr (s5.1, s5.2))) else
  (bnd (itr (fun (s10 : Int32 × DD) => ((if ((8 : Int32)) ≤ s10.1 then (some (.inr (s10.1, s10.2))) else
  (dr G 15 p1 fun b15 =>
  chk (¬ (s5.1 < 0 ∨ G.2.2 b15 ≤ s5.1.toNatClampNeg)) <|
  dr G 9 p0 fun b16 =>
  bnd (FX6_colourAt G s10.2 ((s10.2.2 b16 0)) p2 ((0 : Int32)) s10.1) fun y17 =>
  ltt ((((64 : Int32)) * s5.1)) fun x18 =>
  ltt ((((192 : Int32)) + x18)) fun x19 =>
  ltt ((((8 : Int32)) * s10.1)) fun x20 =>
  ltt ((x19 + x20)) fun x21 =>
  dr G 13 ((s10.2.2 b15 s5.1.toNatClampNeg)) fun b22 =>
  dr G 13 ((y17.1.2 a 0)) fun b23 =>
  chk (¬ y17.2 < 0 ∧ ¬ x21 < 0 ∧ ¬ ((8 : Int32)) < 0 ∧ y17.2.toNatClampNeg + ((8 : Int32)).toNatClampNeg ≤ G.2.2 b22 ∧ x21.toNatClampNeg + ((8 : Int32)).toNatClampNeg ≤ G.2.2 b23) <|
  ltt (rI y17.1 b23 (va_cpy (y17.1.1 b22) (y17.1.1 b23) y17.2.toNatClampNeg x21.toNatClampNeg ((8 : Int32)).toNatClampNeg)) fun M24 =>
  ltt (s10.1 + (1 : Int32)) fun x25 =>
  some (.inl (x25, M24)))) : Option ((Int32 × DD) ⊕ (Int32 × DD)))) 1000000 ((0 : Int32), s5.2)) fun (y9 : Int32 × DD) =>
  ltt (s5.1 + (1 : Int32)) fun x12 =>
  some (.inl (x12, y9.2)))) : Option ((Int32 × DD) ⊕ (Int32 × DD)))) 1000000 ((1 : Int32), y1.2)) fun (y4 : Int32 × DD) =>
  some y4.2
set_option maxHeartbeats 4000000 in
set_option maxRecDepth 100000 in
theorem kX6_takeRaw (l : Launch) (D : va_G) (ct : CT) (ad : Nat → Nat) (Z : Nat → Nat) (G : GG) (M : DD) (sz : Nat) (a : Nat) (p0 : Option Nat) (p1 : Option Nat) (p2 : Int32) (y : DD) (hc : a < G.1) (hk : G.2.1 a = 6) (hF : FX6_takeRaw G M a p0 p1 p2 = some y) : Met l yX6_takeRaw wuX6_takeRaw ({ frames := 1, cells := 0, slots := 0, locals := 80 }) (va_Pc [.ref (ad a), va_re ad p0, va_re ad p1, .int p2] (kB D ct ad Z G M sz)) (va_Qv (fun (_ : Unit) => True) (fun _ t => kE D ct ad G (wA ad G sz) y t) (wA ad G sz)) 0 0 (wA ad G sz) := by
  refine Met.ofW (cc := cX6_takeRaw) (maxL := 6) (ret := none) (by decide) rfl ?_
  intro p e s m args below meth c s₁ B hml hv
  obtain ⟨rfl, hsz, hP, hK, hD0, hZ, hN⟩ := hv
  have hx := B.exec
  have hb := B.bytes
  have hr := B.returns
  have hts := atoms_spec (ws := wuX6_takeRaw) B.pre
  have hown : s.vm.findClass RX6 = some m.cls := findClass_of_methodNamed B.named
  have hlocks := B.notSynchronized
  subst hsz
  have hD := wD_self (sz := s.heap.size) hD0
  have hA9 : ∀ q, s.heap.size ≤ q → wA ad G s.heap.size q := fun q h => Or.inr h
  generalize hAe : wA ad G s.heap.size = A at hD hA9 hZ ⊢
  have hS : va_S A s.heap s.heap [] := va_S.rf
  have hl := lv_entry ([.ref (ad a), va_re ad p0, va_re ad p1, .int p2]) (n := 6) (by cases p0 <;> cases p1 <;> exact Nat.le_of_ble_eq_true rfl)
  rw [lg_entry_eq]
  generalize (lg_sl ([.ref (ad a), va_re ad p0, va_re ad p1, .int p2]) ++ List.replicate (6 - (lg_sl ([.ref (ad a), va_re ad p0, va_re ad p1, .int p2])).length) Slot.unset).toArray = ls at hl ⊢
  have hl : lv_has ls 6 [(0, .ref (ad a)), (1, va_re ad p0), (2, va_re ad p1), (3, .int p2)] := by have e9 : lv_args 0 [.ref (ad a), va_re ad p0, va_re ad p1, .int p2] = [(0, .ref (ad a)), (1, va_re ad p0), (2, va_re ad p1), (3, .int p2)] := (by cases p0 <;> cases p1 <;> rfl); rw [e9] at hl; exact hl
  unfold FX6_takeRaw at hF
  refine lv_iconst (v := (0 : Int32)) hx hb dX6_takeRaw_0 (by decide) ?_
  refine lv_istore (lv' := [(4, .int (0 : Int32)), (0, .ref (ad a)), (1, va_re ad p0), (2, va_re ad p1), (3, .int p2)]) hx hb dX6_takeRaw_1 hl (by decide) rfl (fun ls hl => ?_)
  obtain ⟨y1, hy1, hF⟩ := bnd_some hF
  have K1 : ∀ (H : Heap) (locs : List Loc) (ls : Array Slot), va_P D classes (wld ct ad G y1.2) H → va_D A (wld ct ad G y1.2) → va_S A s.heap H locs → lv_has ls 6 [(4, .int y1.1), (0, .ref (ad a)), (1, va_re ad p0), (2, va_re ad p1), (3, .int p2)] → W p l e (headSpec wuX6_takeRaw ({ frames := 1, cells := 0, slots := 0, locals := 80 })).room s m ([.ref (ad a), va_re ad p0, va_re ad p1, .int p2] : List Value).toArray below meth c H locs 0 0 (MQ below (va_Qv (fun (_ : Unit) => True) (fun _ t => kE D ct ad G A y t) A) ([.ref (ad a), va_re ad p0, va_re ad p1, .int p2] : List Value).toArray s 0 0 A) (F0 m 44 ls []) := by
    intro H locs ls hP hD hS hl
    refine lv_iconst (v := (1 : Int32)) hx hb dX6_takeRaw_44 (by decide) ?_
    refine lv_istore (lv' := [(4, .int (1 : Int32)), (0, .ref (ad a)), (1, va_re ad p0), (2, va_re ad p1), (3, .int p2)]) hx hb dX6_takeRaw_45 hl (by decide) rfl (fun ls hl => ?_)
    obtain ⟨y4, hy4, hF⟩ := bnd_some hF
    have K4 : ∀ (H : Heap) (locs : List Loc) (ls : Array Slot), va_P D classes (wld ct ad G y4.2) H → va_D A (wld ct ad G y4.2) → va_S A s.heap H locs → lv_has ls 6 [(4, .int y4.1), (0, .ref (ad a)), (1, va_re ad p0), (2, va_re ad p1), (3, .int p2)] → W p l e (headSpec wuX6_takeRaw ({ frames := 1, cells := 0, slots := 0, locals := 80 })).room s m ([.ref (ad a), va_re ad p0, va_re ad p1, .int p2] : List Value).toArray below meth c H locs 0 0 (MQ below (va_Qv (fun (_ : Unit) => True) (fun _ t => kE D ct ad G A y t) A) ([.ref (ad a), va_re ad p0, va_re ad p1, .int p2] : List Value).toArray s 0 0 A) (F0 m 114 ls []) := by
      intro H locs ls hP hD hS hl
      obtain rfl := Option.some.inj hF
      exact W.vret hx hb hr (fun t ht hW => ⟨⟨(), rfl, trivial, ⟨by rw [ht]; exact hP, va_K.moved hW.alike hK, hD⟩⟩, hS.F ht⟩) hS.2.2 dX6_takeRaw_114
    clear hF
    refine itr_rule (fun (s5 : Int32 × DD) => ∀ (H : Heap) (locs : List Loc) (ls : Array Slot), va_P D classes (wld ct ad G s5.2) H → va_D A (wld ct ad G s5.2) → va_S A s.heap H locs → lv_has ls 6 [(4, .int s5.1), (0, .ref (ad a)), (1, va_re ad p0), (2, va_re ad p1), (3, .int p2)] → W p l e (headSpec wuX6_takeRaw ({ frames := 1, cells := 0, slots := 0, locals := 80 })).room s m ([.ref (ad a), va_re ad p0, va_re ad p1, .int p2] : List Value).toArray below meth c H locs 0 0 (MQ below (va_Qv (fun (_ : Unit) => True) (fun _ t => kE D ct ad G A y t) A) ([.ref (ad a), va_re ad p0, va_re ad p1, .int p2] : List Value).toArray s 0 0 A) (F0 m 47 ls [])) ?_ _ _ hy4 _ _ _ hP hD hS (lv_sub hl [0, 1, 2, 3, 4] rfl)
    rintro s5 ⟨z7, hF, hwz7⟩ H locs ls hP hD hS hl
    try dsimp only at hF
    refine lv_iload hx hb dX6_takeRaw_47 (lv_at hl 0 rfl) ?_
    refine lv_iconst (v := (3 : Int32)) hx hb dX6_takeRaw_49 (by decide) ?_
    refine lv_icmp_ge (tgt := 114) hx hb dX6_takeRaw_50 (by decide) (fun c8 => ?_) (fun c8 => ?_)
    · rw [if_pos c8] at hF
      obtain rfl := Option.some.inj hF
      subst hwz7
      exact K4 _ _ _ hP hD hS (lv_sub hl [0, 1, 2, 3, 4] rfl)
    · rw [if_neg c8] at hF
      refine lv_iconst (v := (0 : Int32)) hx hb dX6_takeRaw_53 (by decide) ?_
      refine lv_istore (lv' := [(5, .int (0 : Int32)), (4, .int s5.1), (0, .ref (ad a)), (1, va_re ad p0), (2, va_re ad p1), (3, .int p2)]) hx hb dX6_takeRaw_54 hl (by decide) rfl (fun ls hl => ?_)
      obtain ⟨y9, hy9, hF⟩ := bnd_some hF
      have K9 : ∀ (H : Heap) (locs : List Loc) (ls : Array Slot), va_P D classes (wld ct ad G y9.2) H → va_D A (wld ct ad G y9.2) → va_S A s.heap H locs → lv_has ls 6 [(5, .int y9.1), (4, .int s5.1), (0, .ref (ad a)), (1, va_re ad p0), (2, va_re ad p1), (3, .int p2)] → W p l e (headSpec wuX6_takeRaw ({ frames := 1, cells := 0, slots := 0, locals := 80 })).room s m ([.ref (ad a), va_re ad p0, va_re ad p1, .int p2] : List Value).toArray below meth c H locs 0 0 (MQ below (va_Qv (fun (_ : Unit) => True) (fun _ t => kE D ct ad G A y t) A) ([.ref (ad a), va_re ad p0, va_re ad p1, .int p2] : List Value).toArray s 0 0 A) (F0 m 108 ls []) := by
        intro H locs ls hP hD hS hl
        obtain ⟨x12, ex12, hF⟩ := ltt_some hF
        refine lv_iinc (v := x12) (lv' := [(4, .int x12), (5, .int y9.1), (0, .ref (ad a)), (1, va_re ad p0), (2, va_re ad p1), (3, .int p2)]) hx hb dX6_takeRaw_108 hl (k := 1) rfl (by rw [ex12]; rfl) (by decide) rfl (fun ls hl => ?_)
        refine lv_goto (tgt := 47) hx hb dX6_takeRaw_111 (by decide) ?_
        obtain rfl := Option.some.inj hF
        exact hwz7 _ _ _ hP hD hS (lv_sub hl [0, 2, 3, 4, 5] rfl)
      clear hF
      refine itr_rule (fun (s10 : Int32 × DD) => ∀ (H : Heap) (locs : List Loc) (ls : Array Slot), va_P D classes (wld ct ad G s10.2) H → va_D A (wld ct ad G s10.2) → va_S A s.heap H locs → lv_has ls 6 [(5, .int s10.1), (4, .int s5.1), (0, .ref (ad a)), (1, va_re ad p0), (2, va_re ad p1), (3, .int p2)] → W p l e (headSpec wuX6_takeRaw ({ frames := 1, cells := 0, slots := 0, locals := 80 })).room s m ([.ref (ad a), va_re ad p0, va_re ad p1, .int p2] : List Value).toArray below meth c H locs 0 0 (MQ below (va_Qv (fun (_ : Unit) => True) (fun _ t => kE D ct ad G A y t) A) ([.ref (ad a), va_re ad p0, va_re ad p1, .int p2] : List Value).toArray s 0 0 A) (F0 m 56 ls [])) ?_ _ _ hy9 _ _ _ hP hD hS (lv_sub hl [0, 1, 2, 3, 4, 5] rfl)
      rintro s10 ⟨z13, hF, hwz13⟩ H locs ls hP hD hS hl
      try dsimp only at hF
      refine lv_iload hx hb dX6_takeRaw_56 (lv_at hl 0 rfl) ?_
      refine lv_bipush (v := (8 : Int32)) hx hb dX6_takeRaw_58 (by decide) ?_
      refine lv_icmp_ge (tgt := 108) hx hb dX6_takeRaw_60 (by decide) (fun c14 => ?_) (fun c14 => ?_)
      · rw [if_pos c14] at hF
        obtain rfl := Option.some.inj hF
        subst hwz13
        exact K9 _ _ _ hP hD hS (lv_sub hl [0, 1, 2, 3, 4, 5] rfl)
      · rw [if_neg c14] at hF
        refine lv_aloadq_n hx hb dX6_takeRaw_63 rfl (lv_at hl 4 rfl) ?_
        refine lv_iload hx hb dX6_takeRaw_64 (lv_at hl 1 rfl) ?_
        obtain ⟨b15, ho15, hc15, hk15, hF⟩ := dr_some hF
        refine W_st (st' := [.int s5.1, .ref (ad b15)]) (by rw [va_some ho15]) ?_
        obtain ⟨hvc, hF⟩ := chk_some hF
        refine ld_g hx hb hK hP hc15 hk15 hvc dX6_takeRaw_66 ?_
        refine lv_aloadq_n hx hb dX6_takeRaw_67 rfl (lv_at hl 3 rfl) ?_
        obtain ⟨b16, ho16, hc16, hk16, hF⟩ := dr_some hF
        refine W_st (st' := [.ref (ad b16), va_re ad (s10.2.2 b15 s5.1.toNatClampNeg)]) (by rw [va_some ho16]) ?_
        refine va_get (D := D) (ci := 9) (v := va_re ad (s10.2.2 b16 0)) (C := RX9) (T := TX9) (N := 20) hx hb hts (mus hf_X9) hown hK hP b16 (wld_o ct ad G s10.2 hc16 hk16 (by decide)) rfl 0 (by decide) (hts (.fieldLink RX6 46 "VideoSuite$Work" "pic" "LVideoSuite$Picture;") (mu mw_421)) (fun _ h9 => h9) rfl dX6_takeRaw_68 ?_
        refine lv_iload_n hx hb dX6_takeRaw_71 rfl (lv_at hl 5 rfl) ?_
        refine lv_iconst (v := (0 : Int32)) hx hb dX6_takeRaw_72 (by decide) ?_
        refine lv_iload hx hb dX6_takeRaw_73 (lv_at hl 0 rfl) ?_
        obtain ⟨y17, hy17, hF⟩ := bnd_some hF
        have hf9 := wA_in hD hA9 hS
        refine va_calli (va_runS (As := [va_re ad (s10.2.2 b16 0), .int p2, .int (0 : Int32), .int s10.1]) (rest := [va_re ad (s10.2.2 b15 s5.1.toNatClampNeg)]) ⟨hx, hb, hml, hown, hts⟩ (kX6_colourAt l D ct ad Z G s10.2 H.size ((s10.2.2 b16 0)) p2 ((0 : Int32)) s10.1 y17 hy17) (va_cwS 4 hts gX6_takeRaw_X6_colourAt rfl rfl rfl (by decide +kernel) ⟨Nat.le_of_ble_eq_true rfl, Nat.le_of_ble_eq_true rfl⟩) ⟨fun a U g mk q => by obtain ⟨q0, q1, qP, qK, qD, qZ, qN⟩ := q; exact ⟨q0, q1, qP, va_K.moved (u := U) (U := U.calling g mk a) (Vm.Alike.refl U.vm) qK, qD, sF.moved (u := U) (U := U.calling g mk a) (Vm.Alike.refl U.vm) qZ, nF.same rfl qN⟩, fun U hU hW => ⟨rfl, by rw [hU], by rw [hU]; exact hP, va_K.moved hW.alike hK, hD.weaken (fun _ _ _ _ => trivial), by rw [hU]; exact ((hZ.kept hS.2.1).narrow hf9).moved hW.alike, hN.warm hW⟩⟩ rfl rfl hl.1 rfl (lv_room (by simp only [List.map, va_re_cat]; exact Nat.le_of_ble_eq_true rfl)) dX6_takeRaw_75 ⟨(Nat.zero_le _), (Nat.zero_le _)⟩) hS (fun q _ h => hf9 q h) hf9 (fun r u t H locs ht hvm hw hB hz1 hk1 hS => ?_)
        obtain ⟨hP, hK9, hD9⟩ := hB
        rw [ht] at hP
        try dsimp only at hw
        subst hw
        have hD := hD9.weaken (fun _ q _ h => hf9 q.1 h)
        refine lv_aload_n hx hb dX6_takeRaw_78 rfl (lv_at hl 2 rfl) ?_
        refine va_get (D := D) (ci := 6) (v := va_re ad (y17.1.2 a 0)) (C := RX6) (T := TX6) (N := 14) hx hb hts (mus hf_X6) hown hK hP a (wld_o ct ad G y17.1 hc hk (by decide)) rfl 0 (by decide) (hts (.fieldLink RX6 9 "VideoSuite$Samples" "guess" "[I") (mu mw_533)) (fun _ h9 => h9) rfl dX6_takeRaw_79 ?_
        refine lv_sipush (v := (192 : Int32)) hx hb dX6_takeRaw_82 (by decide) ?_
        refine lv_bipush (v := (64 : Int32)) hx hb dX6_takeRaw_85 (by decide) ?_
        refine lv_iload hx hb dX6_takeRaw_87 (lv_at hl 1 rfl) ?_
        refine lv_imul hx hb dX6_takeRaw_89 ?_
        obtain ⟨x18, ex18, hF⟩ := ltt_some hF
        refine lv_topi (fun zx18 ezx18 => ?_)
        obtain rfl : x18 = zx18 := ex18.trans ezx18.symm
        refine lv_iadd hx hb dX6_takeRaw_90 ?_
        obtain ⟨x19, ex19, hF⟩ := ltt_some hF
        refine lv_topi (fun zx19 ezx19 => ?_)
        obtain rfl : x19 = zx19 := ex19.trans ezx19.symm
        refine lv_bipush (v := (8 : Int32)) hx hb dX6_takeRaw_91 (by decide) ?_
        refine lv_iload hx hb dX6_takeRaw_93 (lv_at hl 0 rfl) ?_
        refine lv_imul hx hb dX6_takeRaw_95 ?_
        obtain ⟨x20, ex20, hF⟩ := ltt_some hF
        refine lv_topi (fun zx20 ezx20 => ?_)
        obtain rfl : x20 = zx20 := ex20.trans ezx20.symm
        refine lv_iadd hx hb dX6_takeRaw_96 ?_
        obtain ⟨x21, ex21, hF⟩ := ltt_some hF
        refine lv_topi (fun zx21 ezx21 => ?_)
        obtain rfl : x21 = zx21 := ex21.trans ezx21.symm
        refine lv_bipush (v := (8 : Int32)) hx hb dX6_takeRaw_97 (by decide) ?_
        obtain ⟨b22, ho22, hc22, hk22, hF⟩ := dr_some hF
        refine W_st (st' := [.int (8 : Int32), .int x21, va_re ad (y17.1.2 a 0), .int y17.2, .ref (ad b22)]) (by rw [va_some ho22]) ?_
        obtain ⟨b23, ho23, hc23, hk23, hF⟩ := dr_some hF
        refine W_st (st' := [.int (8 : Int32), .int x21, .ref (ad b23), .int y17.2, .ref (ad b22)]) (by rw [va_some ho23]) ?_
        obtain ⟨hv9, hF⟩ := chk_some hF
        refine va_copyi (ty := .int) hx hb (hml.trans hl.1.symm) hown (hts (.methodLink RX6 250 arraycopyName) (mu mw_1984)) (hts (.native arraycopyName) (mu mw_1093)) (hts (.static arraycopyName) (mu mw_1092)) (hts (.initialized "java/lang/System") (mu mw_181)) hK hP hD hS b22 b23 1 1 (wld_i ct ad G y17.1 hc22 hk22) (wld_i ct ad G y17.1 hc23 hk23) rfl rfl rfl hv9.1 hv9.2.1 hv9.2.2.1 hv9.2.2.2.1 hv9.2.2.2.2 (fun _ _ => rfl) (Nat.le_of_ble_eq_true rfl) (by decide +kernel) dX6_takeRaw_99 (fun H locs hP hD hS => ?_)
        obtain ⟨M24, eM24, hF⟩ := ltt_some hF
        rw [set_ri ct ad G y17.1 hc23 hk23, ← eM24] at hP hD
        obtain ⟨x25, ex25, hF⟩ := ltt_some hF
        refine lv_iinc (v := x25) (lv' := [(5, .int x25), (4, .int s5.1), (0, .ref (ad a)), (1, va_re ad p0), (2, va_re ad p1), (3, .int p2)]) hx hb dX6_takeRaw_102 hl (k := 0) rfl (by rw [ex25]; rfl) (by decide) rfl (fun ls hl => ?_)
        refine lv_goto (tgt := 56) hx hb dX6_takeRaw_105 (by decide) ?_
        obtain rfl := Option.some.inj hF
        exact hwz13 _ _ _ hP hD hS (lv_sub hl [0, 1, 2, 3, 4, 5] rfl)
  clear hF
  refine itr_rule (fun (s2 : Int32 × DD) => ∀ (H : Heap) (locs : List Loc) (ls : Array Slot), va_P D classes (wld ct ad G s2.2) H → va_D A (wld ct ad G s2.2) → va_S A s.heap H locs → lv_has ls 6 [(4, .int s2.1), (0, .ref (ad a)), (1, va_re ad p0), (2, va_re ad p1), (3, .int p2)] → W p l e (headSpec wuX6_takeRaw ({ frames := 1, cells := 0, slots := 0, locals := 80 })).room s m ([.ref (ad a), va_re ad p0, va_re ad p1, .int p2] : List Value).toArray below meth c H locs 0 0 (MQ below (va_Qv (fun (_ : Unit) => True) (fun _ t => kE D ct ad G A y t) A) ([.ref (ad a), va_re ad p0, va_re ad p1, .int p2] : List Value).toArray s 0 0 A) (F0 m 3 ls [])) ?_ _ _ hy1 _ _ _ hP hD hS (lv_sub hl [0, 1, 2, 3, 4] rfl)
  rintro s2 ⟨z26, hF, hwz26⟩ H locs ls hP hD hS hl
  try dsimp only at hF
  refine lv_iload hx hb dX6_takeRaw_3 (lv_at hl 0 rfl) ?_
  refine lv_bipush (v := (16 : Int32)) hx hb dX6_takeRaw_5 (by decide) ?_
  refine lv_icmp_ge (tgt := 44) hx hb dX6_takeRaw_7 (by decide) (fun c27 => ?_) (fun c27 => ?_)
  · rw [if_pos c27] at hF
    obtain rfl := Option.some.inj hF
    subst hwz26
    exact K1 _ _ _ hP hD hS (lv_sub hl [0, 1, 2, 3, 4] rfl)
  · rw [if_neg c27] at hF
    refine lv_aloadq_n hx hb dX6_takeRaw_10 rfl (lv_at hl 3 rfl) ?_
    refine lv_iconst (v := (0 : Int32)) hx hb dX6_takeRaw_11 (by decide) ?_
    obtain ⟨b28, ho28, hc28, hk28, hF⟩ := dr_some hF
    refine W_st (st' := [.int (0 : Int32), .ref (ad b28)]) (by rw [va_some ho28]) ?_
    obtain ⟨hvc, hF⟩ := chk_some hF
    refine ld_g hx hb hK hP hc28 hk28 hvc dX6_takeRaw_12 ?_
    refine lv_aloadq_n hx hb dX6_takeRaw_13 rfl (lv_at hl 2 rfl) ?_
    obtain ⟨b29, ho29, hc29, hk29, hF⟩ := dr_some hF
    refine W_st (st' := [.ref (ad b29), va_re ad (s2.2.2 b28 ((0 : Int32)).toNatClampNeg)]) (by rw [va_some ho29]) ?_
    refine va_get (D := D) (ci := 9) (v := va_re ad (s2.2.2 b29 0)) (C := RX9) (T := TX9) (N := 20) hx hb hts (mus hf_X9) hown hK hP b29 (wld_o ct ad G s2.2 hc29 hk29 (by decide)) rfl 0 (by decide) (hts (.fieldLink RX6 46 "VideoSuite$Work" "pic" "LVideoSuite$Picture;") (mu mw_421)) (fun _ h9 => h9) rfl dX6_takeRaw_14 ?_
    refine lv_iload_n hx hb dX6_takeRaw_17 rfl (lv_at hl 4 rfl) ?_
    refine lv_iconst (v := (0 : Int32)) hx hb dX6_takeRaw_18 (by decide) ?_
    refine lv_iload hx hb dX6_takeRaw_19 (lv_at hl 0 rfl) ?_
    obtain ⟨y30, hy30, hF⟩ := bnd_some hF
    have hf9 := wA_in hD hA9 hS
    refine va_calli (va_runS (As := [va_re ad (s2.2.2 b29 0), .int p2, .int (0 : Int32), .int s2.1]) (rest := [va_re ad (s2.2.2 b28 ((0 : Int32)).toNatClampNeg)]) ⟨hx, hb, hml, hown, hts⟩ (kX6_lumaAt l D ct ad Z G s2.2 H.size ((s2.2.2 b29 0)) p2 ((0 : Int32)) s2.1 y30 hy30) (va_cwS 4 hts gX6_takeRaw_X6_lumaAt rfl rfl rfl (by decide +kernel) ⟨Nat.le_of_ble_eq_true rfl, Nat.le_of_ble_eq_true rfl⟩) ⟨fun a U g mk q => by obtain ⟨q0, q1, qP, qK, qD, qZ, qN⟩ := q; exact ⟨q0, q1, qP, va_K.moved (u := U) (U := U.calling g mk a) (Vm.Alike.refl U.vm) qK, qD, sF.moved (u := U) (U := U.calling g mk a) (Vm.Alike.refl U.vm) qZ, nF.same rfl qN⟩, fun U hU hW => ⟨rfl, by rw [hU], by rw [hU]; exact hP, va_K.moved hW.alike hK, hD.weaken (fun _ _ _ _ => trivial), by rw [hU]; exact ((hZ.kept hS.2.1).narrow hf9).moved hW.alike, hN.warm hW⟩⟩ rfl rfl hl.1 rfl (lv_room (by simp only [List.map, va_re_cat]; exact Nat.le_of_ble_eq_true rfl)) dX6_takeRaw_21 ⟨(Nat.zero_le _), (Nat.zero_le _)⟩) hS (fun q _ h => hf9 q h) hf9 (fun r u t H locs ht hvm hw hB hz1 hk1 hS => ?_)
    obtain ⟨hP, hK9, hD9⟩ := hB
    rw [ht] at hP
    try dsimp only at hw
    subst hw
    have hD := hD9.weaken (fun _ q _ h => hf9 q.1 h)
    refine lv_aload_n hx hb dX6_takeRaw_24 rfl (lv_at hl 1 rfl) ?_
    refine va_get (D := D) (ci := 6) (v := va_re ad (y30.1.2 a 0)) (C := RX6) (T := TX6) (N := 14) hx hb hts (mus hf_X6) hown hK hP a (wld_o ct ad G y30.1 hc hk (by decide)) rfl 0 (by decide) (hts (.fieldLink RX6 9 "VideoSuite$Samples" "guess" "[I") (mu mw_533)) (fun _ h9 => h9) rfl dX6_takeRaw_25 ?_
    refine lv_bipush (v := (16 : Int32)) hx hb dX6_takeRaw_28 (by decide) ?_
    refine lv_iload hx hb dX6_takeRaw_30 (lv_at hl 0 rfl) ?_
    refine lv_imul hx hb dX6_takeRaw_32 ?_
    obtain ⟨x31, ex31, hF⟩ := ltt_some hF
    refine lv_topi (fun zx31 ezx31 => ?_)
    obtain rfl : x31 = zx31 := ex31.trans ezx31.symm
    refine lv_bipush (v := (16 : Int32)) hx hb dX6_takeRaw_33 (by decide) ?_
    obtain ⟨b32, ho32, hc32, hk32, hF⟩ := dr_some hF
    refine W_st (st' := [.int (16 : Int32), .int x31, va_re ad (y30.1.2 a 0), .int y30.2, .ref (ad b32)]) (by rw [va_some ho32]) ?_
    obtain ⟨b33, ho33, hc33, hk33, hF⟩ := dr_some hF
    refine W_st (st' := [.int (16 : Int32), .int x31, .ref (ad b33), .int y30.2, .ref (ad b32)]) (by rw [va_some ho33]) ?_
    obtain ⟨hv9, hF⟩ := chk_some hF
    refine va_copyi (ty := .int) hx hb (hml.trans hl.1.symm) hown (hts (.methodLink RX6 250 arraycopyName) (mu mw_1984)) (hts (.native arraycopyName) (mu mw_1093)) (hts (.static arraycopyName) (mu mw_1092)) (hts (.initialized "java/lang/System") (mu mw_181)) hK hP hD hS b32 b33 1 1 (wld_i ct ad G y30.1 hc32 hk32) (wld_i ct ad G y30.1 hc33 hk33) rfl rfl rfl hv9.1 hv9.2.1 hv9.2.2.1 hv9.2.2.2.1 hv9.2.2.2.2 (fun _ _ => rfl) (Nat.le_of_ble_eq_true rfl) (by decide +kernel) dX6_takeRaw_35 (fun H locs hP hD hS => ?_)
    obtain ⟨M34, eM34, hF⟩ := ltt_some hF
    rw [set_ri ct ad G y30.1 hc33 hk33, ← eM34] at hP hD
    obtain ⟨x35, ex35, hF⟩ := ltt_some hF
    refine lv_iinc (v := x35) (lv' := [(4, .int x35), (0, .ref (ad a)), (1, va_re ad p0), (2, va_re ad p1), (3, .int p2)]) hx hb dX6_takeRaw_38 hl (k := 0) rfl (by rw [ex35]; rfl) (by decide) rfl (fun ls hl => ?_)
    refine lv_goto (tgt := 3) hx hb dX6_takeRaw_41 (by decide) ?_
    obtain rfl := Option.some.inj hF
    exact hwz26 _ _ _ hP hD hS (lv_sub hl [0, 1, 2, 3, 4] rfl)
theorem dX6_takeSides_0 : decode cX6_takeSides 0 = .ok (.iload 5, 2) := by decide +kernel
theorem dX6_takeSides_2 : decode cX6_takeSides 2 = .ok (.iconst 4, 1) := by decide +kernel
theorem dX6_takeSides_3 : decode cX6_takeSides 3 = .ok (.iand, 1) := by decide +kernel
theorem dX6_takeSides_4 : decode cX6_takeSides 4 = .ok (.ifCond .eq 13, 3) := by decide +kernel
theorem dX6_takeSides_7 : decode cX6_takeSides 7 = .ok (.aload_n 1, 1) := by decide +kernel
theorem dX6_takeSides_8 : decode cX6_takeSides 8 = .ok (.iload_n 2, 1) := by decide +kernel
theorem dX6_takeSides_9 : decode cX6_takeSides 9 = .ok (.iload_n 3, 1) := by decide +kernel
theorem dX6_takeSides_10 : decode cX6_takeSides 10 = .ok (.isub, 1) := by decide +kernel
theorem dX6_takeSides_11 : decode cX6_takeSides 11 = .ok (.iconst 1, 1) := by decide +kernel
theorem dX6_takeSides_12 : decode cX6_takeSides 12 = .ok (.isub, 1) := by decide +kernel
theorem dX6_takeSides_13 : decode cX6_takeSides 13 = .ok (.iaload, 1) := by decide +kernel
theorem dX6_takeSides_14 : decode cX6_takeSides 14 = .ok (.goto 4, 3) := by decide +kernel
theorem dX6_takeSides_17 : decode cX6_takeSides 17 = .ok (.iconst 0, 1) := by decide +kernel
theorem dX6_takeSides_18 : decode cX6_takeSides 18 = .ok (.istore 6, 2) := by decide +kernel
theorem dX6_takeSides_20 : decode cX6_takeSides 20 = .ok (.aload_n 0, 1) := by decide +kernel
theorem dX6_takeSides_21 : decode cX6_takeSides 21 = .ok (.getfield 36, 3) := by decide +kernel
theorem dX6_takeSides_24 : decode cX6_takeSides 24 = .ok (.iconst 0, 1) := by decide +kernel
theorem dX6_takeSides_25 : decode cX6_takeSides 25 = .ok (.iload 6, 2) := by decide +kernel
theorem dX6_takeSides_27 : decode cX6_takeSides 27 = .ok (.iastore, 1) := by decide +kernel
theorem dX6_takeSides_28 : decode cX6_takeSides 28 = .ok (.aload_n 0, 1) := by decide +kernel
theorem dX6_takeSides_29 : decode cX6_takeSides 29 = .ok (.getfield 36, 3) := by decide +kernel
theorem dX6_takeSides_32 : decode cX6_takeSides 32 = .ok (.iload 4, 2) := by decide +kernel
theorem dX6_takeSides_34 : decode cX6_takeSides 34 = .ok (.iconst 1, 1) := by decide +kernel
theorem dX6_takeSides_35 : decode cX6_takeSides 35 = .ok (.iadd, 1) := by decide +kernel
theorem dX6_takeSides_36 : decode cX6_takeSides 36 = .ok (.iload 6, 2) := by decide +kernel
theorem dX6_takeSides_38 : decode cX6_takeSides 38 = .ok (.iastore, 1) := by decide +kernel
theorem dX6_takeSides_39 : decode cX6_takeSides 39 = .ok (.iconst 0, 1) := by decide +kernel
theorem dX6_takeSides_40 : decode cX6_takeSides 40 = .ok (.istore 7, 2) := by decide +kernel
theorem dX6_takeSides_42 : decode cX6_takeSides 42 = .ok (.iload 7, 2) := by decide +kernel
theorem dX6_takeSides_44 : decode cX6_takeSides 44 = .ok (.iload 4, 2) := by decide +kernel
theorem dX6_takeSides_46 : decode cX6_takeSides 46 = .ok (.if_icmp .ge 70, 3) := by decide +kernel
theorem dX6_takeSides_49 : decode cX6_takeSides 49 = .ok (.aload_n 0, 1) := by decide +kernel
theorem dX6_takeSides_50 : decode cX6_takeSides 50 = .ok (.getfield 36, 3) := by decide +kernel
theorem dX6_takeSides_53 : decode cX6_takeSides 53 = .ok (.iconst 1, 1) := by decide +kernel
theorem dX6_takeSides_54 : decode cX6_takeSides 54 = .ok (.iload 7, 2) := by decide +kernel
theorem dX6_takeSides_56 : decode cX6_takeSides 56 = .ok (.iadd, 1) := by decide +kernel
theorem dX6_takeSides_57 : decode cX6_takeSides 57 = .ok (.iload 5, 2) := by decide +kernel
theorem dX6_takeSides_59 : decode cX6_takeSides 59 = .ok (.iconst 2, 1) := by decide +kernel
theorem dX6_takeSides_60 : decode cX6_takeSides 60 = .ok (.iand, 1) := by decide +kernel
theorem dX6_takeSides_61 : decode cX6_takeSides 61 = .ok (.ifCond .eq 14, 3) := by decide +kernel
theorem dX6_takeSides_64 : decode cX6_takeSides 64 = .ok (.aload_n 1, 1) := by decide +kernel
theorem dX6_takeSides_65 : decode cX6_takeSides 65 = .ok (.iload_n 2, 1) := by decide +kernel
theorem dX6_takeSides_66 : decode cX6_takeSides 66 = .ok (.iload_n 3, 1) := by decide +kernel
theorem dX6_takeSides_67 : decode cX6_takeSides 67 = .ok (.isub, 1) := by decide +kernel
theorem dX6_takeSides_68 : decode cX6_takeSides 68 = .ok (.iload 7, 2) := by decide +kernel
theorem dX6_takeSides_70 : decode cX6_takeSides 70 = .ok (.iadd, 1) := by decide +kernel
theorem dX6_takeSides_71 : decode cX6_takeSides 71 = .ok (.iaload, 1) := by decide +kernel
theorem dX6_takeSides_72 : decode cX6_takeSides 72 = .ok (.goto 4, 3) := by decide +kernel
theorem dX6_takeSides_75 : decode cX6_takeSides 75 = .ok (.iconst 0, 1) := by decide +kernel
theorem dX6_takeSides_76 : decode cX6_takeSides 76 = .ok (.iastore, 1) := by decide +kernel
theorem dX6_takeSides_77 : decode cX6_takeSides 77 = .ok (.aload_n 0, 1) := by decide +kernel
theorem dX6_takeSides_78 : decode cX6_takeSides 78 = .ok (.getfield 36, 3) := by decide +kernel
theorem dX6_takeSides_81 : decode cX6_takeSides 81 = .ok (.iload 4, 2) := by decide +kernel
theorem dX6_takeSides_83 : decode cX6_takeSides 83 = .ok (.iconst 2, 1) := by decide +kernel
theorem dX6_takeSides_84 : decode cX6_takeSides 84 = .ok (.iadd, 1) := by decide +kernel
theorem dX6_takeSides_85 : decode cX6_takeSides 85 = .ok (.iload 7, 2) := by decide +kernel
theorem dX6_takeSides_87 : decode cX6_takeSides 87 = .ok (.iadd, 1) := by decide +kernel
theorem dX6_takeSides_88 : decode cX6_takeSides 88 = .ok (.iload 5, 2) := by decide +kernel
theorem dX6_takeSides_90 : decode cX6_takeSides 90 = .ok (.iconst 1, 1) := by decide +kernel
theorem dX6_takeSides_91 : decode cX6_takeSides 91 = .ok (.iand, 1) := by decide +kernel
theorem dX6_takeSides_92 : decode cX6_takeSides 92 = .ok (.ifCond .eq 16, 3) := by decide +kernel
theorem dX6_takeSides_95 : decode cX6_takeSides 95 = .ok (.aload_n 1, 1) := by decide +kernel
theorem dX6_takeSides_96 : decode cX6_takeSides 96 = .ok (.iload_n 2, 1) := by decide +kernel
theorem dX6_takeSides_97 : decode cX6_takeSides 97 = .ok (.iload 7, 2) := by decide +kernel
theorem dX6_takeSides_99 : decode cX6_takeSides 99 = .ok (.iload_n 3, 1) := by decide +kernel
theorem dX6_takeSides_100 : decode cX6_takeSides 100 = .ok (.imul, 1) := by decide +kernel
theorem dX6_takeSides_101 : decode cX6_takeSides 101 = .ok (.iadd, 1) := by decide +kernel
theorem dX6_takeSides_102 : decode cX6_takeSides 102 = .ok (.iconst 1, 1) := by decide +kernel
theorem dX6_takeSides_103 : decode cX6_takeSides 103 = .ok (.isub, 1) := by decide +kernel
theorem dX6_takeSides_104 : decode cX6_takeSides 104 = .ok (.iaload, 1) := by decide +kernel
theorem dX6_takeSides_105 : decode cX6_takeSides 105 = .ok (.goto 4, 3) := by decide +kernel
theorem dX6_takeSides_108 : decode cX6_takeSides 108 = .ok (.iconst 0, 1) := by decide +kernel
theorem dX6_takeSides_109 : decode cX6_takeSides 109 = .ok (.iastore, 1) := by decide +kernel
theorem dX6_takeSides_110 : decode cX6_takeSides 110 = .ok (.iinc 7 1, 3) := by decide +kernel
theorem dX6_takeSides_113 : decode cX6_takeSides 113 = .ok (.goto (-71), 3) := by decide +kernel
theorem dX6_takeSides_116 : decode cX6_takeSides 116 = .ok (.return_, 1) := by decide +kernel
def FX6_takeSides (G : GG) (M : DD) (a : Nat) (p0 : Option Nat) (p1 : Int32) (p2 : Int32) (p3 : Int32) (p4 : Int32) : Option (DD) :=
  ltt ((p4 &&& ((4 : Int32)))) fun x1 =>
  bnd (if x1 = ((0 : Int32)) then (some ((0 : Int32))) else
  (ltt ((p1 - p2)) fun x37 =>
  ltt ((x37 - ((1 : Int32)))) fun x38 =>
  dr G 13 p0 fun b39 =>
  chk (¬ (x38 < 0 ∨ G.2.2 b39 ≤ x38.toNatClampNeg)) <|
  ltt (M.1 b39 x38.toNatClampNeg) fun x40 =>
  some (x40))) fun (y2 : Int32) =>
  dr G 13 ((M.2 a 8)) fun b3 =>
  chk (¬ (((0 : Int32)) < 0 ∨ G.2.2 b3 ≤ ((0 : Int32)).toNatClampNeg)) <|
  ltt (uI M b3 ((0 : Int32)).toNatClampNeg y2) fun M4 =>
  ltt ((p3 + ((1 : Int32)))) fun x5 =>
  dr G 13 ((M4.2 a 8)) fun b6 =>
  chk (¬ (x5 < 0 ∨ G.2.2 b6 ≤ x5.toNatClampNeg)) <|
  ltt (uI M4 b6 x5.toNatClampNeg y2) fun M7 =>
  bnd (itr (fun (s9 : Int32 × DD) => ((if p3 ≤ s9.1 then (some (.inr (s9.1, s9.2))) else
  (ltt ((((1 : Int32)) + s9.1)) fun x13 =>
  ltt ((p4 &&& ((2 : Int32)))) fun x14 =>
  bnd (if x14 = ((0 : Int32)) then (some ((0 : Int32))) else
  (ltt ((p1 - p2)) fun x32 =>
  ltt ((x32 + s9.1)) fun x33 =>
  dr G 13 p0 fun b34 =>
  chk (¬ (x33 < 0 ∨ G.2.2 b34 ≤ x33.toNatClampNeg)) <|
  ltt (s9.2.1 b34 x33.toNatClampNeg) fun x35 =>
  some (x35))) fun (y15 : Int32) =>
  dr G 13 ((s9.2.2 a 8)) fun b16 =>
  chk (¬ (x13 < 0 ∨ G.2.2 b16 ≤ x13.toNatClampNeg)) <|
  ltt (uI s9.2 b16 x13.toNatClampNeg y15) fun M17 =>
  ltt ((p3 + ((2 : Int32)))) fun x18 =>
  ltt ((x18 + s9.1)) fun x19 =>
  ltt ((p4 &&& ((1 : Int32)))) fun x20 =>
  bnd (if x20 = ((0 : Int32)) then (some ((0 : Int32))) else
  (ltt ((s9.1 * p2)) fun x26 =>
  ltt ((p1 + x26)) fun x27 =>
  ltt ((x27 - ((1 : Int32)))) fun x28 =>
  dr G 13 p0 fun b29 =>
  chk (¬ (x28 < 0 ∨ G.2.2 b29 ≤ x28.toNatClampNeg)) <|
  ltt (M17.1 b29 x28.toNatClampNeg) fun x30 =>
  some (x30))) fun (y21 : Int32) =>
  dr G 13 ((M17.2 a 8)) fun b22 =>
  chk (¬ (x19 < 0 ∨ G.2.2 b22 ≤ x19.toNatClampNeg)) <|
  ltt (uI M17 b22 x19.toNatClampNeg y21) fun M23 =>
  ltt (s9.1 + (1 : Int32)) fun x24 =>
  some (.inl (x24, M23)))) : Option ((Int32 × DD) ⊕ (Int32 × DD)))) 1000000 ((0 : Int32), M7)) fun (y8 : Int32 × DD) =>
  some y8.2
set_option maxHeartbeats 4000000 in
set_option maxRecDepth 100000 in
theorem kX6_takeSides (l : Launch) (D : va_G) (ct : CT) (ad : Nat → Nat) (Z : Nat → Nat) (G : GG) (M : DD) (sz : Nat) (a : Nat) (p0 : Option Nat) (p1 : Int32) (p2 : Int32) (p3 : Int32) (p4 : Int32) (y : DD) (hc : a < G.1) (hk : G.2.1 a = 6) (hF : FX6_takeSides G M a p0 p1 p2 p3 p4 = some y) : Met l yX6_takeSides wuX6_takeSides ({ frames := 0, cells := 0, slots := 0, locals := 0 }) (va_Pc [.ref (ad a), va_re ad p0, .int p1, .int p2, .int p3, .int p4] (kB D ct ad Z G M sz)) (va_Qv (fun (_ : Unit) => True) (fun _ t => kE D ct ad G (wA ad G sz) y t) (wA ad G sz)) 0 0 (wA ad G sz) := by
  refine Met.ofW (cc := cX6_takeSides) (maxL := 8) (ret := none) (by decide) rfl ?_
  intro p e s m args below meth c s₁ B hml hv
  obtain ⟨rfl, hsz, hP, hK, hD0, hZ, hN⟩ := hv
  have hx := B.exec
  have hb := B.bytes
  have hr := B.returns
  have hts := atoms_spec (ws := wuX6_takeSides) B.pre
  have hown : s.vm.findClass RX6 = some m.cls := findClass_of_methodNamed B.named
  have hlocks := B.notSynchronized
  subst hsz
  have hD := wD_self (sz := s.heap.size) hD0
  have hA9 : ∀ q, s.heap.size ≤ q → wA ad G s.heap.size q := fun q h => Or.inr h
  generalize hAe : wA ad G s.heap.size = A at hD hA9 hZ ⊢
  have hS : va_S A s.heap s.heap [] := va_S.rf
  have hl := lv_entry ([.ref (ad a), va_re ad p0, .int p1, .int p2, .int p3, .int p4]) (n := 8) (by cases p0 <;> exact Nat.le_of_ble_eq_true rfl)
  rw [lg_entry_eq]
  generalize (lg_sl ([.ref (ad a), va_re ad p0, .int p1, .int p2, .int p3, .int p4]) ++ List.replicate (8 - (lg_sl ([.ref (ad a), va_re ad p0, .int p1, .int p2, .int p3, .int p4])).length) Slot.unset).toArray = ls at hl ⊢
  have hl : lv_has ls 8 [(0, .ref (ad a)), (1, va_re ad p0), (2, .int p1), (3, .int p2), (4, .int p3), (5, .int p4)] := by have e9 : lv_args 0 [.ref (ad a), va_re ad p0, .int p1, .int p2, .int p3, .int p4] = [(0, .ref (ad a)), (1, va_re ad p0), (2, .int p1), (3, .int p2), (4, .int p3), (5, .int p4)] := (by cases p0 <;> rfl); rw [e9] at hl; exact hl
  unfold FX6_takeSides at hF
  refine lv_iload hx hb dX6_takeSides_0 (lv_at hl 5 rfl) ?_
  refine lv_iconst (v := (4 : Int32)) hx hb dX6_takeSides_2 (by decide) ?_
  refine lv_iand hx hb dX6_takeSides_3 ?_
  obtain ⟨x1, ex1, hF⟩ := ltt_some hF
  refine lv_topi (fun zx1 ezx1 => ?_)
  obtain rfl : x1 = zx1 := ex1.trans ezx1.symm
  obtain ⟨y2, hy2, hF⟩ := bnd_some hF
  have J2 : ∀ (H : Heap) (locs : List Loc) (ls : Array Slot), va_P D classes (wld ct ad G M) H → va_D A (wld ct ad G M) → va_S A s.heap H locs → lv_has ls 8 [(0, .ref (ad a)), (1, va_re ad p0), (2, .int p1), (3, .int p2), (4, .int p3), (5, .int p4)] → W p l e (headSpec wuX6_takeSides ({ frames := 0, cells := 0, slots := 0, locals := 0 })).room s m ([.ref (ad a), va_re ad p0, .int p1, .int p2, .int p3, .int p4] : List Value).toArray below meth c H locs 0 0 (MQ below (va_Qv (fun (_ : Unit) => True) (fun _ t => kE D ct ad G A y t) A) ([.ref (ad a), va_re ad p0, .int p1, .int p2, .int p3, .int p4] : List Value).toArray s 0 0 A) (F0 m 18 ls [.int y2]) := by
    intro H locs ls hP hD hS hl
    refine lv_istore (lv' := [(6, .int y2), (0, .ref (ad a)), (1, va_re ad p0), (2, .int p1), (3, .int p2), (4, .int p3), (5, .int p4)]) hx hb dX6_takeSides_18 hl (by decide) rfl (fun ls hl => ?_)
    refine lv_aload_n hx hb dX6_takeSides_20 rfl (lv_at hl 1 rfl) ?_
    refine va_get (D := D) (ci := 6) (v := va_re ad (M.2 a 8)) (C := RX6) (T := TX6) (N := 14) hx hb hts (mus hf_X6) hown hK hP a (wld_o ct ad G M hc hk (by decide)) rfl 8 (by decide) (hts (.fieldLink RX6 36 "VideoSuite$Samples" "around" "[I") (mu mw_544)) (fun _ h9 => h9) rfl dX6_takeSides_21 ?_
    refine lv_iconst (v := (0 : Int32)) hx hb dX6_takeSides_24 (by decide) ?_
    refine lv_iload hx hb dX6_takeSides_25 (lv_at hl 0 rfl) ?_
    obtain ⟨b3, ho3, hc3, hk3, hF⟩ := dr_some hF
    refine W_st (st' := [.int y2, .int (0 : Int32), .ref (ad b3)]) (by rw [va_some ho3]) ?_
    obtain ⟨hvc, hF⟩ := chk_some hF
    refine va_iast hx hb hK hP hD hS b3 1 (wld_i ct ad G M hc3 hk3) rfl hvc dX6_takeSides_27 (fun H locs hP hD hS => ?_)
    obtain ⟨M4, eM4, hF⟩ := ltt_some hF
    rw [set_i ct ad G M hc3 hk3, ← eM4] at hP hD
    refine lv_aload_n hx hb dX6_takeSides_28 rfl (lv_at hl 1 rfl) ?_
    refine va_get (D := D) (ci := 6) (v := va_re ad (M4.2 a 8)) (C := RX6) (T := TX6) (N := 14) hx hb hts (mus hf_X6) hown hK hP a (wld_o ct ad G M4 hc hk (by decide)) rfl 8 (by decide) (hts (.fieldLink RX6 36 "VideoSuite$Samples" "around" "[I") (mu mw_544)) (fun _ h9 => h9) rfl dX6_takeSides_29 ?_
    refine lv_iload hx hb dX6_takeSides_32 (lv_at hl 5 rfl) ?_
    refine lv_iconst (v := (1 : Int32)) hx hb dX6_takeSides_34 (by decide) ?_
    refine lv_iadd hx hb dX6_takeSides_35 ?_
    obtain ⟨x5, ex5, hF⟩ := ltt_some hF
    refine lv_topi (fun zx5 ezx5 => ?_)
    obtain rfl : x5 = zx5 := ex5.trans ezx5.symm
    refine lv_iload hx hb dX6_takeSides_36 (lv_at hl 0 rfl) ?_
    obtain ⟨b6, ho6, hc6, hk6, hF⟩ := dr_some hF
    refine W_st (st' := [.int y2, .int x5, .ref (ad b6)]) (by rw [va_some ho6]) ?_
    obtain ⟨hvc, hF⟩ := chk_some hF
    refine va_iast hx hb hK hP hD hS b6 1 (wld_i ct ad G M4 hc6 hk6) rfl hvc dX6_takeSides_38 (fun H locs hP hD hS => ?_)
    obtain ⟨M7, eM7, hF⟩ := ltt_some hF
    rw [set_i ct ad G M4 hc6 hk6, ← eM7] at hP hD
    refine lv_iconst (v := (0 : Int32)) hx hb dX6_takeSides_39 (by decide) ?_
    refine lv_istore (lv' := [(7, .int (0 : Int32)), (6, .int y2), (0, .ref (ad a)), (1, va_re ad p0), (2, .int p1), (3, .int p2), (4, .int p3), (5, .int p4)]) hx hb dX6_takeSides_40 hl (by decide) rfl (fun ls hl => ?_)
    obtain ⟨y8, hy8, hF⟩ := bnd_some hF
    have K8 : ∀ (H : Heap) (locs : List Loc) (ls : Array Slot), va_P D classes (wld ct ad G y8.2) H → va_D A (wld ct ad G y8.2) → va_S A s.heap H locs → lv_has ls 8 [(7, .int y8.1), (6, .int y2), (0, .ref (ad a)), (1, va_re ad p0), (2, .int p1), (3, .int p2), (4, .int p3), (5, .int p4)] → W p l e (headSpec wuX6_takeSides ({ frames := 0, cells := 0, slots := 0, locals := 0 })).room s m ([.ref (ad a), va_re ad p0, .int p1, .int p2, .int p3, .int p4] : List Value).toArray below meth c H locs 0 0 (MQ below (va_Qv (fun (_ : Unit) => True) (fun _ t => kE D ct ad G A y t) A) ([.ref (ad a), va_re ad p0, .int p1, .int p2, .int p3, .int p4] : List Value).toArray s 0 0 A) (F0 m 116 ls []) := by
      intro H locs ls hP hD hS hl
      obtain rfl := Option.some.inj hF
      exact W.vret hx hb hr (fun t ht hW => ⟨⟨(), rfl, trivial, ⟨by rw [ht]; exact hP, va_K.moved hW.alike hK, hD⟩⟩, hS.F ht⟩) hS.2.2 dX6_takeSides_116
    clear hF
    refine itr_rule (fun (s9 : Int32 × DD) => ∀ (H : Heap) (locs : List Loc) (ls : Array Slot), va_P D classes (wld ct ad G s9.2) H → va_D A (wld ct ad G s9.2) → va_S A s.heap H locs → lv_has ls 8 [(7, .int s9.1), (6, .int y2), (0, .ref (ad a)), (1, va_re ad p0), (2, .int p1), (3, .int p2), (4, .int p3), (5, .int p4)] → W p l e (headSpec wuX6_takeSides ({ frames := 0, cells := 0, slots := 0, locals := 0 })).room s m ([.ref (ad a), va_re ad p0, .int p1, .int p2, .int p3, .int p4] : List Value).toArray below meth c H locs 0 0 (MQ below (va_Qv (fun (_ : Unit) => True) (fun _ t => kE D ct ad G A y t) A) ([.ref (ad a), va_re ad p0, .int p1, .int p2, .int p3, .int p4] : List Value).toArray s 0 0 A) (F0 m 42 ls [])) ?_ _ _ hy8 _ _ _ hP hD hS (lv_sub hl [0, 1, 2, 3, 4, 5, 6, 7] rfl)
    rintro s9 ⟨z11, hF, hwz11⟩ H locs ls hP hD hS hl
    try dsimp only at hF
    refine lv_iload hx hb dX6_takeSides_42 (lv_at hl 0 rfl) ?_
    refine lv_iload hx hb dX6_takeSides_44 (lv_at hl 6 rfl) ?_
    refine lv_icmp_ge (tgt := 116) hx hb dX6_takeSides_46 (by decide) (fun c12 => ?_) (fun c12 => ?_)
    · rw [if_pos c12] at hF
      obtain rfl := Option.some.inj hF
      subst hwz11
      exact K8 _ _ _ hP hD hS (lv_sub hl [0, 1, 2, 3, 4, 5, 6, 7] rfl)
    · rw [if_neg c12] at hF
      refine lv_aload_n hx hb dX6_takeSides_49 rfl (lv_at hl 2 rfl) ?_
      refine va_get (D := D) (ci := 6) (v := va_re ad (s9.2.2 a 8)) (C := RX6) (T := TX6) (N := 14) hx hb hts (mus hf_X6) hown hK hP a (wld_o ct ad G s9.2 hc hk (by decide)) rfl 8 (by decide) (hts (.fieldLink RX6 36 "VideoSuite$Samples" "around" "[I") (mu mw_544)) (fun _ h9 => h9) rfl dX6_takeSides_50 ?_
      refine lv_iconst (v := (1 : Int32)) hx hb dX6_takeSides_53 (by decide) ?_
      refine lv_iload hx hb dX6_takeSides_54 (lv_at hl 0 rfl) ?_
      refine lv_iadd hx hb dX6_takeSides_56 ?_
      obtain ⟨x13, ex13, hF⟩ := ltt_some hF
      refine lv_topi (fun zx13 ezx13 => ?_)
      obtain rfl : x13 = zx13 := ex13.trans ezx13.symm
      refine lv_iload hx hb dX6_takeSides_57 (lv_at hl 7 rfl) ?_
      refine lv_iconst (v := (2 : Int32)) hx hb dX6_takeSides_59 (by decide) ?_
      refine lv_iand hx hb dX6_takeSides_60 ?_
      obtain ⟨x14, ex14, hF⟩ := ltt_some hF
      refine lv_topi (fun zx14 ezx14 => ?_)
      obtain rfl : x14 = zx14 := ex14.trans ezx14.symm
      obtain ⟨y15, hy15, hF⟩ := bnd_some hF
      have J15 : ∀ (H : Heap) (locs : List Loc) (ls : Array Slot), va_P D classes (wld ct ad G s9.2) H → va_D A (wld ct ad G s9.2) → va_S A s.heap H locs → lv_has ls 8 [(7, .int s9.1), (6, .int y2), (0, .ref (ad a)), (1, va_re ad p0), (2, .int p1), (3, .int p2), (4, .int p3), (5, .int p4)] → W p l e (headSpec wuX6_takeSides ({ frames := 0, cells := 0, slots := 0, locals := 0 })).room s m ([.ref (ad a), va_re ad p0, .int p1, .int p2, .int p3, .int p4] : List Value).toArray below meth c H locs 0 0 (MQ below (va_Qv (fun (_ : Unit) => True) (fun _ t => kE D ct ad G A y t) A) ([.ref (ad a), va_re ad p0, .int p1, .int p2, .int p3, .int p4] : List Value).toArray s 0 0 A) (F0 m 76 ls [.int y15, .int x13, va_re ad (s9.2.2 a 8)]) := by
        intro H locs ls hP hD hS hl
        obtain ⟨b16, ho16, hc16, hk16, hF⟩ := dr_some hF
        refine W_st (st' := [.int y15, .int x13, .ref (ad b16)]) (by rw [va_some ho16]) ?_
        obtain ⟨hvc, hF⟩ := chk_some hF
        refine va_iast hx hb hK hP hD hS b16 1 (wld_i ct ad G s9.2 hc16 hk16) rfl hvc dX6_takeSides_76 (fun H locs hP hD hS => ?_)
        obtain ⟨M17, eM17, hF⟩ := ltt_some hF
        rw [set_i ct ad G s9.2 hc16 hk16, ← eM17] at hP hD
        refine lv_aload_n hx hb dX6_takeSides_77 rfl (lv_at hl 2 rfl) ?_
        refine va_get (D := D) (ci := 6) (v := va_re ad (M17.2 a 8)) (C := RX6) (T := TX6) (N := 14) hx hb hts (mus hf_X6) hown hK hP a (wld_o ct ad G M17 hc hk (by decide)) rfl 8 (by decide) (hts (.fieldLink RX6 36 "VideoSuite$Samples" "around" "[I") (mu mw_544)) (fun _ h9 => h9) rfl dX6_takeSides_78 ?_
        refine lv_iload hx hb dX6_takeSides_81 (lv_at hl 6 rfl) ?_
        refine lv_iconst (v := (2 : Int32)) hx hb dX6_takeSides_83 (by decide) ?_
        refine lv_iadd hx hb dX6_takeSides_84 ?_
        obtain ⟨x18, ex18, hF⟩ := ltt_some hF
        refine lv_topi (fun zx18 ezx18 => ?_)
        obtain rfl : x18 = zx18 := ex18.trans ezx18.symm
        refine lv_iload hx hb dX6_takeSides_85 (lv_at hl 0 rfl) ?_
        refine lv_iadd hx hb dX6_takeSides_87 ?_
        obtain ⟨x19, ex19, hF⟩ := ltt_some hF
        refine lv_topi (fun zx19 ezx19 => ?_)
        obtain rfl : x19 = zx19 := ex19.trans ezx19.symm
        refine lv_iload hx hb dX6_takeSides_88 (lv_at hl 7 rfl) ?_
        refine lv_iconst (v := (1 : Int32)) hx hb dX6_takeSides_90 (by decide) ?_
        refine lv_iand hx hb dX6_takeSides_91 ?_
        obtain ⟨x20, ex20, hF⟩ := ltt_some hF
        refine lv_topi (fun zx20 ezx20 => ?_)
        obtain rfl : x20 = zx20 := ex20.trans ezx20.symm
        obtain ⟨y21, hy21, hF⟩ := bnd_some hF
        have J21 : ∀ (H : Heap) (locs : List Loc) (ls : Array Slot), va_P D classes (wld ct ad G M17) H → va_D A (wld ct ad G M17) → va_S A s.heap H locs → lv_has ls 8 [(7, .int s9.1), (6, .int y2), (0, .ref (ad a)), (1, va_re ad p0), (2, .int p1), (3, .int p2), (4, .int p3), (5, .int p4)] → W p l e (headSpec wuX6_takeSides ({ frames := 0, cells := 0, slots := 0, locals := 0 })).room s m ([.ref (ad a), va_re ad p0, .int p1, .int p2, .int p3, .int p4] : List Value).toArray below meth c H locs 0 0 (MQ below (va_Qv (fun (_ : Unit) => True) (fun _ t => kE D ct ad G A y t) A) ([.ref (ad a), va_re ad p0, .int p1, .int p2, .int p3, .int p4] : List Value).toArray s 0 0 A) (F0 m 109 ls [.int y21, .int x19, va_re ad (M17.2 a 8)]) := by
          intro H locs ls hP hD hS hl
          obtain ⟨b22, ho22, hc22, hk22, hF⟩ := dr_some hF
          refine W_st (st' := [.int y21, .int x19, .ref (ad b22)]) (by rw [va_some ho22]) ?_
          obtain ⟨hvc, hF⟩ := chk_some hF
          refine va_iast hx hb hK hP hD hS b22 1 (wld_i ct ad G M17 hc22 hk22) rfl hvc dX6_takeSides_109 (fun H locs hP hD hS => ?_)
          obtain ⟨M23, eM23, hF⟩ := ltt_some hF
          rw [set_i ct ad G M17 hc22 hk22, ← eM23] at hP hD
          obtain ⟨x24, ex24, hF⟩ := ltt_some hF
          refine lv_iinc (v := x24) (lv' := [(7, .int x24), (6, .int y2), (0, .ref (ad a)), (1, va_re ad p0), (2, .int p1), (3, .int p2), (4, .int p3), (5, .int p4)]) hx hb dX6_takeSides_110 hl (k := 0) rfl (by rw [ex24]; rfl) (by decide) rfl (fun ls hl => ?_)
          refine lv_goto (tgt := 42) hx hb dX6_takeSides_113 (by decide) ?_
          obtain rfl := Option.some.inj hF
          exact hwz11 _ _ _ hP hD hS (lv_sub hl [0, 1, 2, 3, 4, 5, 6, 7] rfl)
        clear hF
        have hF := hy21
        clear hy21
        refine lv_if_eq (tgt := 108) hx hb dX6_takeSides_92 (by decide) (fun c25 => ?_) (fun c25 => ?_)
        · rw [if_pos c25] at hF
          refine lv_iconst (v := (0 : Int32)) hx hb dX6_takeSides_108 (by decide) ?_
          obtain rfl := Option.some.inj hF
          exact J21 _ _ _ hP hD hS (lv_sub hl [0, 1, 2, 3, 4, 5, 6, 7] rfl)
        · rw [if_neg c25] at hF
          refine lv_aloadq_n hx hb dX6_takeSides_95 rfl (lv_at hl 3 rfl) ?_
          refine lv_iload_n hx hb dX6_takeSides_96 rfl (lv_at hl 4 rfl) ?_
          refine lv_iload hx hb dX6_takeSides_97 (lv_at hl 0 rfl) ?_
          refine lv_iload_n hx hb dX6_takeSides_99 rfl (lv_at hl 5 rfl) ?_
          refine lv_imul hx hb dX6_takeSides_100 ?_
          obtain ⟨x26, ex26, hF⟩ := ltt_some hF
          refine lv_topi (fun zx26 ezx26 => ?_)
          obtain rfl : x26 = zx26 := ex26.trans ezx26.symm
          refine lv_iadd hx hb dX6_takeSides_101 ?_
          obtain ⟨x27, ex27, hF⟩ := ltt_some hF
          refine lv_topi (fun zx27 ezx27 => ?_)
          obtain rfl : x27 = zx27 := ex27.trans ezx27.symm
          refine lv_iconst (v := (1 : Int32)) hx hb dX6_takeSides_102 (by decide) ?_
          refine lv_isub hx hb dX6_takeSides_103 ?_
          obtain ⟨x28, ex28, hF⟩ := ltt_some hF
          refine lv_topi (fun zx28 ezx28 => ?_)
          obtain rfl : x28 = zx28 := ex28.trans ezx28.symm
          obtain ⟨b29, ho29, hc29, hk29, hF⟩ := dr_some hF
          refine W_st (st' := [.int x28, .ref (ad b29), .int x19, va_re ad (M17.2 a 8)]) (by rw [va_some ho29]) ?_
          obtain ⟨hvc, hF⟩ := chk_some hF
          refine va_iald hx hb hK hP b29 1 (wld_i ct ad G M17 hc29 hk29) rfl hvc dX6_takeSides_104 ?_
          obtain ⟨x30, ex30, hF⟩ := ltt_some hF
          refine lv_topi (fun zx30 ezx30 => ?_)
          obtain rfl : x30 = zx30 := ex30.trans ezx30.symm
          refine lv_goto (tgt := 109) hx hb dX6_takeSides_105 (by decide) ?_
          obtain rfl := Option.some.inj hF
          exact J21 _ _ _ hP hD hS (lv_sub hl [0, 1, 2, 3, 4, 5, 6, 7] rfl)
      clear hF
      have hF := hy15
      clear hy15
      refine lv_if_eq (tgt := 75) hx hb dX6_takeSides_61 (by decide) (fun c31 => ?_) (fun c31 => ?_)
      · rw [if_pos c31] at hF
        refine lv_iconst (v := (0 : Int32)) hx hb dX6_takeSides_75 (by decide) ?_
        obtain rfl := Option.some.inj hF
        exact J15 _ _ _ hP hD hS (lv_sub hl [0, 1, 2, 3, 4, 5, 6, 7] rfl)
      · rw [if_neg c31] at hF
        refine lv_aloadq_n hx hb dX6_takeSides_64 rfl (lv_at hl 3 rfl) ?_
        refine lv_iload_n hx hb dX6_takeSides_65 rfl (lv_at hl 4 rfl) ?_
        refine lv_iload_n hx hb dX6_takeSides_66 rfl (lv_at hl 5 rfl) ?_
        refine lv_isub hx hb dX6_takeSides_67 ?_
        obtain ⟨x32, ex32, hF⟩ := ltt_some hF
        refine lv_topi (fun zx32 ezx32 => ?_)
        obtain rfl : x32 = zx32 := ex32.trans ezx32.symm
        refine lv_iload hx hb dX6_takeSides_68 (lv_at hl 0 rfl) ?_
        refine lv_iadd hx hb dX6_takeSides_70 ?_
        obtain ⟨x33, ex33, hF⟩ := ltt_some hF
        refine lv_topi (fun zx33 ezx33 => ?_)
        obtain rfl : x33 = zx33 := ex33.trans ezx33.symm
        obtain ⟨b34, ho34, hc34, hk34, hF⟩ := dr_some hF
        refine W_st (st' := [.int x33, .ref (ad b34), .int x13, va_re ad (s9.2.2 a 8)]) (by rw [va_some ho34]) ?_
        obtain ⟨hvc, hF⟩ := chk_some hF
        refine va_iald hx hb hK hP b34 1 (wld_i ct ad G s9.2 hc34 hk34) rfl hvc dX6_takeSides_71 ?_
        obtain ⟨x35, ex35, hF⟩ := ltt_some hF
        refine lv_topi (fun zx35 ezx35 => ?_)
        obtain rfl : x35 = zx35 := ex35.trans ezx35.symm
        refine lv_goto (tgt := 76) hx hb dX6_takeSides_72 (by decide) ?_
        obtain rfl := Option.some.inj hF
        exact J15 _ _ _ hP hD hS (lv_sub hl [0, 1, 2, 3, 4, 5, 6, 7] rfl)
  clear hF
  have hF := hy2
  clear hy2
  refine lv_if_eq (tgt := 17) hx hb dX6_takeSides_4 (by decide) (fun c36 => ?_) (fun c36 => ?_)
  · rw [if_pos c36] at hF
    refine lv_iconst (v := (0 : Int32)) hx hb dX6_takeSides_17 (by decide) ?_
    obtain rfl := Option.some.inj hF
    exact J2 _ _ _ hP hD hS (lv_sub hl [0, 1, 2, 3, 4, 5] rfl)
  · rw [if_neg c36] at hF
    refine lv_aloadq_n hx hb dX6_takeSides_7 rfl (lv_at hl 1 rfl) ?_
    refine lv_iload_n hx hb dX6_takeSides_8 rfl (lv_at hl 2 rfl) ?_
    refine lv_iload_n hx hb dX6_takeSides_9 rfl (lv_at hl 3 rfl) ?_
    refine lv_isub hx hb dX6_takeSides_10 ?_
    obtain ⟨x37, ex37, hF⟩ := ltt_some hF
    refine lv_topi (fun zx37 ezx37 => ?_)
    obtain rfl : x37 = zx37 := ex37.trans ezx37.symm
    refine lv_iconst (v := (1 : Int32)) hx hb dX6_takeSides_11 (by decide) ?_
    refine lv_isub hx hb dX6_takeSides_12 ?_
    obtain ⟨x38, ex38, hF⟩ := ltt_some hF
    refine lv_topi (fun zx38 ezx38 => ?_)
    obtain rfl : x38 = zx38 := ex38.trans ezx38.symm
    obtain ⟨b39, ho39, hc39, hk39, hF⟩ := dr_some hF
    refine W_st (st' := [.int x38, .ref (ad b39)]) (by rw [va_some ho39]) ?_
    obtain ⟨hvc, hF⟩ := chk_some hF
    refine va_iald hx hb hK hP b39 1 (wld_i ct ad G M hc39 hk39) rfl hvc dX6_takeSides_13 ?_
    obtain ⟨x40, ex40, hF⟩ := ltt_some hF
    refine lv_topi (fun zx40 ezx40 => ?_)
    obtain rfl : x40 = zx40 := ex40.trans ezx40.symm
    refine lv_goto (tgt := 18) hx hb dX6_takeSides_14 (by decide) ?_
    obtain rfl := Option.some.inj hF
    exact J2 _ _ _ hP hD hS (lv_sub hl [0, 1, 2, 3, 4, 5] rfl)
theorem dX6_tapBoth_0 : decode cX6_tapBoth 0 = .ok (.aload_n 0, 1) := by decide +kernel
theorem dX6_tapBoth_1 : decode cX6_tapBoth 1 = .ok (.getfield 21, 3) := by decide +kernel
theorem dX6_tapBoth_4 : decode cX6_tapBoth 4 = .ok (.astore 5, 2) := by decide +kernel
theorem dX6_tapBoth_6 : decode cX6_tapBoth 6 = .ok (.iconst 0, 1) := by decide +kernel
theorem dX6_tapBoth_7 : decode cX6_tapBoth 7 = .ok (.istore 6, 2) := by decide +kernel
theorem dX6_tapBoth_9 : decode cX6_tapBoth 9 = .ok (.iload 6, 2) := by decide +kernel
theorem dX6_tapBoth_11 : decode cX6_tapBoth 11 = .ok (.iload_n 1, 1) := by decide +kernel
theorem dX6_tapBoth_12 : decode cX6_tapBoth 12 = .ok (.iload_n 1, 1) := by decide +kernel
theorem dX6_tapBoth_13 : decode cX6_tapBoth 13 = .ok (.iconst 5, 1) := by decide +kernel
theorem dX6_tapBoth_14 : decode cX6_tapBoth 14 = .ok (.iadd, 1) := by decide +kernel
theorem dX6_tapBoth_15 : decode cX6_tapBoth 15 = .ok (.imul, 1) := by decide +kernel
theorem dX6_tapBoth_16 : decode cX6_tapBoth 16 = .ok (.if_icmp .ge 95, 3) := by decide +kernel
theorem dX6_tapBoth_19 : decode cX6_tapBoth 19 = .ok (.iload 6, 2) := by decide +kernel
theorem dX6_tapBoth_21 : decode cX6_tapBoth 21 = .ok (.iload_n 1, 1) := by decide +kernel
theorem dX6_tapBoth_22 : decode cX6_tapBoth 22 = .ok (.idiv, 1) := by decide +kernel
theorem dX6_tapBoth_23 : decode cX6_tapBoth 23 = .ok (.bipush 21, 2) := by decide +kernel
theorem dX6_tapBoth_25 : decode cX6_tapBoth 25 = .ok (.imul, 1) := by decide +kernel
theorem dX6_tapBoth_26 : decode cX6_tapBoth 26 = .ok (.iload 6, 2) := by decide +kernel
theorem dX6_tapBoth_28 : decode cX6_tapBoth 28 = .ok (.iload_n 1, 1) := by decide +kernel
theorem dX6_tapBoth_29 : decode cX6_tapBoth 29 = .ok (.irem, 1) := by decide +kernel
theorem dX6_tapBoth_30 : decode cX6_tapBoth 30 = .ok (.iadd, 1) := by decide +kernel
theorem dX6_tapBoth_31 : decode cX6_tapBoth 31 = .ok (.istore 7, 2) := by decide +kernel
theorem dX6_tapBoth_33 : decode cX6_tapBoth 33 = .ok (.aload_n 0, 1) := by decide +kernel
theorem dX6_tapBoth_34 : decode cX6_tapBoth 34 = .ok (.getfield 24, 3) := by decide +kernel
theorem dX6_tapBoth_37 : decode cX6_tapBoth 37 = .ok (.iload 6, 2) := by decide +kernel
theorem dX6_tapBoth_39 : decode cX6_tapBoth 39 = .ok (.iload_n 1, 1) := by decide +kernel
theorem dX6_tapBoth_40 : decode cX6_tapBoth 40 = .ok (.idiv, 1) := by decide +kernel
theorem dX6_tapBoth_41 : decode cX6_tapBoth 41 = .ok (.bipush 16, 2) := by decide +kernel
theorem dX6_tapBoth_43 : decode cX6_tapBoth 43 = .ok (.imul, 1) := by decide +kernel
theorem dX6_tapBoth_44 : decode cX6_tapBoth 44 = .ok (.iload 6, 2) := by decide +kernel
theorem dX6_tapBoth_46 : decode cX6_tapBoth 46 = .ok (.iload_n 1, 1) := by decide +kernel
theorem dX6_tapBoth_47 : decode cX6_tapBoth 47 = .ok (.irem, 1) := by decide +kernel
theorem dX6_tapBoth_48 : decode cX6_tapBoth 48 = .ok (.iadd, 1) := by decide +kernel
theorem dX6_tapBoth_49 : decode cX6_tapBoth 49 = .ok (.aload 5, 2) := by decide +kernel
theorem dX6_tapBoth_51 : decode cX6_tapBoth 51 = .ok (.iload 7, 2) := by decide +kernel
theorem dX6_tapBoth_53 : decode cX6_tapBoth 53 = .ok (.iaload, 1) := by decide +kernel
theorem dX6_tapBoth_54 : decode cX6_tapBoth 54 = .ok (.iconst 5, 1) := by decide +kernel
theorem dX6_tapBoth_55 : decode cX6_tapBoth 55 = .ok (.aload 5, 2) := by decide +kernel
theorem dX6_tapBoth_57 : decode cX6_tapBoth 57 = .ok (.iload 7, 2) := by decide +kernel
theorem dX6_tapBoth_59 : decode cX6_tapBoth 59 = .ok (.iconst 1, 1) := by decide +kernel
theorem dX6_tapBoth_60 : decode cX6_tapBoth 60 = .ok (.iadd, 1) := by decide +kernel
theorem dX6_tapBoth_61 : decode cX6_tapBoth 61 = .ok (.iaload, 1) := by decide +kernel
theorem dX6_tapBoth_62 : decode cX6_tapBoth 62 = .ok (.imul, 1) := by decide +kernel
theorem dX6_tapBoth_63 : decode cX6_tapBoth 63 = .ok (.isub, 1) := by decide +kernel
theorem dX6_tapBoth_64 : decode cX6_tapBoth 64 = .ok (.bipush 20, 2) := by decide +kernel
theorem dX6_tapBoth_66 : decode cX6_tapBoth 66 = .ok (.aload 5, 2) := by decide +kernel
theorem dX6_tapBoth_68 : decode cX6_tapBoth 68 = .ok (.iload 7, 2) := by decide +kernel
theorem dX6_tapBoth_70 : decode cX6_tapBoth 70 = .ok (.iconst 2, 1) := by decide +kernel
theorem dX6_tapBoth_71 : decode cX6_tapBoth 71 = .ok (.iadd, 1) := by decide +kernel
theorem dX6_tapBoth_72 : decode cX6_tapBoth 72 = .ok (.iaload, 1) := by decide +kernel
theorem dX6_tapBoth_73 : decode cX6_tapBoth 73 = .ok (.imul, 1) := by decide +kernel
theorem dX6_tapBoth_74 : decode cX6_tapBoth 74 = .ok (.iadd, 1) := by decide +kernel
theorem dX6_tapBoth_75 : decode cX6_tapBoth 75 = .ok (.bipush 20, 2) := by decide +kernel
theorem dX6_tapBoth_77 : decode cX6_tapBoth 77 = .ok (.aload 5, 2) := by decide +kernel
theorem dX6_tapBoth_79 : decode cX6_tapBoth 79 = .ok (.iload 7, 2) := by decide +kernel
theorem dX6_tapBoth_81 : decode cX6_tapBoth 81 = .ok (.iconst 3, 1) := by decide +kernel
theorem dX6_tapBoth_82 : decode cX6_tapBoth 82 = .ok (.iadd, 1) := by decide +kernel
theorem dX6_tapBoth_83 : decode cX6_tapBoth 83 = .ok (.iaload, 1) := by decide +kernel
theorem dX6_tapBoth_84 : decode cX6_tapBoth 84 = .ok (.imul, 1) := by decide +kernel
theorem dX6_tapBoth_85 : decode cX6_tapBoth 85 = .ok (.iadd, 1) := by decide +kernel
theorem dX6_tapBoth_86 : decode cX6_tapBoth 86 = .ok (.iconst 5, 1) := by decide +kernel
theorem dX6_tapBoth_87 : decode cX6_tapBoth 87 = .ok (.aload 5, 2) := by decide +kernel
theorem dX6_tapBoth_89 : decode cX6_tapBoth 89 = .ok (.iload 7, 2) := by decide +kernel
theorem dX6_tapBoth_91 : decode cX6_tapBoth 91 = .ok (.iconst 4, 1) := by decide +kernel
theorem dX6_tapBoth_92 : decode cX6_tapBoth 92 = .ok (.iadd, 1) := by decide +kernel
theorem dX6_tapBoth_93 : decode cX6_tapBoth 93 = .ok (.iaload, 1) := by decide +kernel
theorem dX6_tapBoth_94 : decode cX6_tapBoth 94 = .ok (.imul, 1) := by decide +kernel
theorem dX6_tapBoth_95 : decode cX6_tapBoth 95 = .ok (.isub, 1) := by decide +kernel
theorem dX6_tapBoth_96 : decode cX6_tapBoth 96 = .ok (.aload 5, 2) := by decide +kernel
theorem dX6_tapBoth_98 : decode cX6_tapBoth 98 = .ok (.iload 7, 2) := by decide +kernel
theorem dX6_tapBoth_100 : decode cX6_tapBoth 100 = .ok (.iconst 5, 1) := by decide +kernel
theorem dX6_tapBoth_101 : decode cX6_tapBoth 101 = .ok (.iadd, 1) := by decide +kernel
theorem dX6_tapBoth_102 : decode cX6_tapBoth 102 = .ok (.iaload, 1) := by decide +kernel
theorem dX6_tapBoth_103 : decode cX6_tapBoth 103 = .ok (.iadd, 1) := by decide +kernel
theorem dX6_tapBoth_104 : decode cX6_tapBoth 104 = .ok (.iastore, 1) := by decide +kernel
theorem dX6_tapBoth_105 : decode cX6_tapBoth 105 = .ok (.iinc 6 1, 3) := by decide +kernel
theorem dX6_tapBoth_108 : decode cX6_tapBoth 108 = .ok (.goto (-99), 3) := by decide +kernel
theorem dX6_tapBoth_111 : decode cX6_tapBoth 111 = .ok (.aload_n 0, 1) := by decide +kernel
theorem dX6_tapBoth_112 : decode cX6_tapBoth 112 = .ok (.getfield 24, 3) := by decide +kernel
theorem dX6_tapBoth_115 : decode cX6_tapBoth 115 = .ok (.astore 5, 2) := by decide +kernel
theorem dX6_tapBoth_117 : decode cX6_tapBoth 117 = .ok (.iconst 0, 1) := by decide +kernel
theorem dX6_tapBoth_118 : decode cX6_tapBoth 118 = .ok (.istore 6, 2) := by decide +kernel
theorem dX6_tapBoth_120 : decode cX6_tapBoth 120 = .ok (.iload 6, 2) := by decide +kernel
theorem dX6_tapBoth_122 : decode cX6_tapBoth 122 = .ok (.iload_n 1, 1) := by decide +kernel
theorem dX6_tapBoth_123 : decode cX6_tapBoth 123 = .ok (.iload_n 1, 1) := by decide +kernel
theorem dX6_tapBoth_124 : decode cX6_tapBoth 124 = .ok (.imul, 1) := by decide +kernel
theorem dX6_tapBoth_125 : decode cX6_tapBoth 125 = .ok (.if_icmp .ge 148, 3) := by decide +kernel
theorem dX6_tapBoth_128 : decode cX6_tapBoth 128 = .ok (.iload 6, 2) := by decide +kernel
theorem dX6_tapBoth_130 : decode cX6_tapBoth 130 = .ok (.iload_n 1, 1) := by decide +kernel
theorem dX6_tapBoth_131 : decode cX6_tapBoth 131 = .ok (.idiv, 1) := by decide +kernel
theorem dX6_tapBoth_132 : decode cX6_tapBoth 132 = .ok (.bipush 16, 2) := by decide +kernel
theorem dX6_tapBoth_134 : decode cX6_tapBoth 134 = .ok (.imul, 1) := by decide +kernel
theorem dX6_tapBoth_135 : decode cX6_tapBoth 135 = .ok (.iload 6, 2) := by decide +kernel
theorem dX6_tapBoth_137 : decode cX6_tapBoth 137 = .ok (.iload_n 1, 1) := by decide +kernel
theorem dX6_tapBoth_138 : decode cX6_tapBoth 138 = .ok (.irem, 1) := by decide +kernel
theorem dX6_tapBoth_139 : decode cX6_tapBoth 139 = .ok (.iadd, 1) := by decide +kernel
theorem dX6_tapBoth_140 : decode cX6_tapBoth 140 = .ok (.istore 7, 2) := by decide +kernel
theorem dX6_tapBoth_142 : decode cX6_tapBoth 142 = .ok (.aload 5, 2) := by decide +kernel
theorem dX6_tapBoth_144 : decode cX6_tapBoth 144 = .ok (.iload 7, 2) := by decide +kernel
theorem dX6_tapBoth_146 : decode cX6_tapBoth 146 = .ok (.iaload, 1) := by decide +kernel
theorem dX6_tapBoth_147 : decode cX6_tapBoth 147 = .ok (.iconst 5, 1) := by decide +kernel
theorem dX6_tapBoth_148 : decode cX6_tapBoth 148 = .ok (.aload 5, 2) := by decide +kernel
theorem dX6_tapBoth_150 : decode cX6_tapBoth 150 = .ok (.iload 7, 2) := by decide +kernel
theorem dX6_tapBoth_152 : decode cX6_tapBoth 152 = .ok (.bipush 16, 2) := by decide +kernel
theorem dX6_tapBoth_154 : decode cX6_tapBoth 154 = .ok (.iadd, 1) := by decide +kernel
theorem dX6_tapBoth_155 : decode cX6_tapBoth 155 = .ok (.iaload, 1) := by decide +kernel
theorem dX6_tapBoth_156 : decode cX6_tapBoth 156 = .ok (.imul, 1) := by decide +kernel
theorem dX6_tapBoth_157 : decode cX6_tapBoth 157 = .ok (.isub, 1) := by decide +kernel
theorem dX6_tapBoth_158 : decode cX6_tapBoth 158 = .ok (.bipush 20, 2) := by decide +kernel
theorem dX6_tapBoth_160 : decode cX6_tapBoth 160 = .ok (.aload 5, 2) := by decide +kernel
theorem dX6_tapBoth_162 : decode cX6_tapBoth 162 = .ok (.iload 7, 2) := by decide +kernel
theorem dX6_tapBoth_164 : decode cX6_tapBoth 164 = .ok (.bipush 32, 2) := by decide +kernel
theorem dX6_tapBoth_166 : decode cX6_tapBoth 166 = .ok (.iadd, 1) := by decide +kernel
theorem dX6_tapBoth_167 : decode cX6_tapBoth 167 = .ok (.iaload, 1) := by decide +kernel
theorem dX6_tapBoth_168 : decode cX6_tapBoth 168 = .ok (.imul, 1) := by decide +kernel
theorem dX6_tapBoth_169 : decode cX6_tapBoth 169 = .ok (.iadd, 1) := by decide +kernel
theorem dX6_tapBoth_170 : decode cX6_tapBoth 170 = .ok (.bipush 20, 2) := by decide +kernel
theorem dX6_tapBoth_172 : decode cX6_tapBoth 172 = .ok (.aload 5, 2) := by decide +kernel
theorem dX6_tapBoth_174 : decode cX6_tapBoth 174 = .ok (.iload 7, 2) := by decide +kernel
theorem dX6_tapBoth_176 : decode cX6_tapBoth 176 = .ok (.bipush 48, 2) := by decide +kernel
theorem dX6_tapBoth_178 : decode cX6_tapBoth 178 = .ok (.iadd, 1) := by decide +kernel
theorem dX6_tapBoth_179 : decode cX6_tapBoth 179 = .ok (.iaload, 1) := by decide +kernel
theorem dX6_tapBoth_180 : decode cX6_tapBoth 180 = .ok (.imul, 1) := by decide +kernel
theorem dX6_tapBoth_181 : decode cX6_tapBoth 181 = .ok (.iadd, 1) := by decide +kernel
theorem dX6_tapBoth_182 : decode cX6_tapBoth 182 = .ok (.iconst 5, 1) := by decide +kernel
theorem dX6_tapBoth_183 : decode cX6_tapBoth 183 = .ok (.aload 5, 2) := by decide +kernel
theorem dX6_tapBoth_185 : decode cX6_tapBoth 185 = .ok (.iload 7, 2) := by decide +kernel
theorem dX6_tapBoth_187 : decode cX6_tapBoth 187 = .ok (.bipush 64, 2) := by decide +kernel
theorem dX6_tapBoth_189 : decode cX6_tapBoth 189 = .ok (.iadd, 1) := by decide +kernel
theorem dX6_tapBoth_190 : decode cX6_tapBoth 190 = .ok (.iaload, 1) := by decide +kernel
theorem dX6_tapBoth_191 : decode cX6_tapBoth 191 = .ok (.imul, 1) := by decide +kernel
theorem dX6_tapBoth_192 : decode cX6_tapBoth 192 = .ok (.isub, 1) := by decide +kernel
theorem dX6_tapBoth_193 : decode cX6_tapBoth 193 = .ok (.aload 5, 2) := by decide +kernel
theorem dX6_tapBoth_195 : decode cX6_tapBoth 195 = .ok (.iload 7, 2) := by decide +kernel
theorem dX6_tapBoth_197 : decode cX6_tapBoth 197 = .ok (.bipush 80, 2) := by decide +kernel
theorem dX6_tapBoth_199 : decode cX6_tapBoth 199 = .ok (.iadd, 1) := by decide +kernel
theorem dX6_tapBoth_200 : decode cX6_tapBoth 200 = .ok (.iaload, 1) := by decide +kernel
theorem dX6_tapBoth_201 : decode cX6_tapBoth 201 = .ok (.iadd, 1) := by decide +kernel
theorem dX6_tapBoth_202 : decode cX6_tapBoth 202 = .ok (.sipush 512, 3) := by decide +kernel
theorem dX6_tapBoth_205 : decode cX6_tapBoth 205 = .ok (.iadd, 1) := by decide +kernel
theorem dX6_tapBoth_206 : decode cX6_tapBoth 206 = .ok (.bipush 10, 2) := by decide +kernel
theorem dX6_tapBoth_208 : decode cX6_tapBoth 208 = .ok (.ishr, 1) := by decide +kernel
theorem dX6_tapBoth_209 : decode cX6_tapBoth 209 = .ok (.istore 8, 2) := by decide +kernel
theorem dX6_tapBoth_211 : decode cX6_tapBoth 211 = .ok (.iload 8, 2) := by decide +kernel
theorem dX6_tapBoth_213 : decode cX6_tapBoth 213 = .ok (.ifCond .ge 7, 3) := by decide +kernel
theorem dX6_tapBoth_216 : decode cX6_tapBoth 216 = .ok (.iconst 0, 1) := by decide +kernel
theorem dX6_tapBoth_217 : decode cX6_tapBoth 217 = .ok (.goto 19, 3) := by decide +kernel
theorem dX6_tapBoth_220 : decode cX6_tapBoth 220 = .ok (.iload 8, 2) := by decide +kernel
theorem dX6_tapBoth_222 : decode cX6_tapBoth 222 = .ok (.sipush 255, 3) := by decide +kernel
theorem dX6_tapBoth_225 : decode cX6_tapBoth 225 = .ok (.if_icmp .le 9, 3) := by decide +kernel
theorem dX6_tapBoth_228 : decode cX6_tapBoth 228 = .ok (.sipush 255, 3) := by decide +kernel
theorem dX6_tapBoth_231 : decode cX6_tapBoth 231 = .ok (.goto 5, 3) := by decide +kernel
theorem dX6_tapBoth_234 : decode cX6_tapBoth 234 = .ok (.iload 8, 2) := by decide +kernel
theorem dX6_tapBoth_236 : decode cX6_tapBoth 236 = .ok (.istore 8, 2) := by decide +kernel
theorem dX6_tapBoth_238 : decode cX6_tapBoth 238 = .ok (.aload_n 2, 1) := by decide +kernel
theorem dX6_tapBoth_239 : decode cX6_tapBoth 239 = .ok (.iload_n 3, 1) := by decide +kernel
theorem dX6_tapBoth_240 : decode cX6_tapBoth 240 = .ok (.iload 7, 2) := by decide +kernel
theorem dX6_tapBoth_242 : decode cX6_tapBoth 242 = .ok (.iadd, 1) := by decide +kernel
theorem dX6_tapBoth_243 : decode cX6_tapBoth 243 = .ok (.iload 4, 2) := by decide +kernel
theorem dX6_tapBoth_245 : decode cX6_tapBoth 245 = .ok (.ifCond .eq 19, 3) := by decide +kernel
theorem dX6_tapBoth_248 : decode cX6_tapBoth 248 = .ok (.aload_n 2, 1) := by decide +kernel
theorem dX6_tapBoth_249 : decode cX6_tapBoth 249 = .ok (.iload_n 3, 1) := by decide +kernel
theorem dX6_tapBoth_250 : decode cX6_tapBoth 250 = .ok (.iload 7, 2) := by decide +kernel
theorem dX6_tapBoth_252 : decode cX6_tapBoth 252 = .ok (.iadd, 1) := by decide +kernel
theorem dX6_tapBoth_253 : decode cX6_tapBoth 253 = .ok (.iaload, 1) := by decide +kernel
theorem dX6_tapBoth_254 : decode cX6_tapBoth 254 = .ok (.iload 8, 2) := by decide +kernel
theorem dX6_tapBoth_256 : decode cX6_tapBoth 256 = .ok (.iadd, 1) := by decide +kernel
theorem dX6_tapBoth_257 : decode cX6_tapBoth 257 = .ok (.iconst 1, 1) := by decide +kernel
theorem dX6_tapBoth_258 : decode cX6_tapBoth 258 = .ok (.iadd, 1) := by decide +kernel
theorem dX6_tapBoth_259 : decode cX6_tapBoth 259 = .ok (.iconst 1, 1) := by decide +kernel
theorem dX6_tapBoth_260 : decode cX6_tapBoth 260 = .ok (.ishr, 1) := by decide +kernel
theorem dX6_tapBoth_261 : decode cX6_tapBoth 261 = .ok (.goto 5, 3) := by decide +kernel
theorem dX6_tapBoth_264 : decode cX6_tapBoth 264 = .ok (.iload 8, 2) := by decide +kernel
theorem dX6_tapBoth_266 : decode cX6_tapBoth 266 = .ok (.iastore, 1) := by decide +kernel
theorem dX6_tapBoth_267 : decode cX6_tapBoth 267 = .ok (.iinc 6 1, 3) := by decide +kernel
theorem dX6_tapBoth_270 : decode cX6_tapBoth 270 = .ok (.goto (-150), 3) := by decide +kernel
theorem dX6_tapBoth_273 : decode cX6_tapBoth 273 = .ok (.return_, 1) := by decide +kernel
def FX6_tapBoth (G : GG) (M : DD) (a : Nat) (p0 : Int32) (p1 : Option Nat) (p2 : Int32) (p3 : Int32) : Option (DD) :=
  bnd (itr (fun (s2 : Int32 × DD) => ((ltt ((p0 + ((5 : Int32)))) fun x54 =>
  ltt ((p0 * x54)) fun x55 =>
  if x55 ≤ s2.1 then (some (.inr (s2.1, s2.2))) else
  (chk (¬ p0 = 0) <|
  ltt (s2.1 / p0) fun x57 =>
  ltt ((x57 * ((21 : Int32)))) fun x58 =>
  chk (¬ p0 = 0) <|
  ltt (s2.1 - s2.1 / p0 * p0) fun x59 =>
  ltt ((x58 + x59)) fun x60 =>
  chk (¬ p0 = 0) <|
  ltt (s2.1 / p0) fun x61 =>
  ltt ((x61 * ((16 : Int32)))) fun x62 =>
  chk (¬ p0 = 0) <|
  ltt (s2.1 - s2.1 / p0 * p0) fun x63 =>
  ltt ((x62 + x63)) fun x64 =>
  dr G 13 ((M.2 a 3)) fun b65 =>
  chk (¬ (x60 < 0 ∨ G.2.2 b65 ≤ x60.toNatClampNeg)) <|
  ltt (s2.2.1 b65 x60.toNatClampNeg) fun x66 =>
  ltt ((x60 + ((1 : Int32)))) fun x67 =>
  chk (¬ (x67 < 0 ∨ G.2.2 b65 ≤ x67.toNatClampNeg)) <|
  ltt (s2.2.1 b65 x67.toNatClampNeg) fun x68 =>
  ltt ((((5 : Int32)) * x68)) fun x69 =>
  ltt ((x66 - x69)) fun x70 =>
  ltt ((x60 + ((2 : Int32)))) fun x71 =>
  chk (¬ (x71 < 0 ∨ G.2.2 b65 ≤ x71.toNatClampNeg)) <|
  ltt (s2.2.1 b65 x71.toNatClampNeg) fun x72 =>
  ltt ((((20 : Int32)) * x72)) fun x73 =>
  ltt ((x70 + x73)) fun x74 =>
  ltt ((x60 + ((3 : Int32)))) fun x75 =>
  chk (¬ (x75 < 0 ∨ G.2.2 b65 ≤ x75.toNatClampNeg)) <|
  ltt (s2.2.1 b65 x75.toNatClampNeg) fun x76 =>
  ltt ((((20 : Int32)) * x76)) fun x77 =>
  ltt ((x74 + x77)) fun x78 =>
  ltt ((x60 + ((4 : Int32)))) fun x79 =>
  chk (¬ (x79 < 0 ∨ G.2.2 b65 ≤ x79.toNatClampNeg)) <|
  ltt (s2.2.1 b65 x79.toNatClampNeg) fun x80 =>
  ltt ((((5 : Int32)) * x80)) fun x81 =>
  ltt ((x78 - x81)) fun x82 =>
  ltt ((x60 + ((5 : Int32)))) fun x83 =>
  chk (¬ (x83 < 0 ∨ G.2.2 b65 ≤ x83.toNatClampNeg)) <|
  ltt (s2.2.1 b65 x83.toNatClampNeg) fun x84 =>
  ltt ((x82 + x84)) fun x85 =>
  dr G 13 ((s2.2.2 a 4)) fun b86 =>
  chk (¬ (x64 < 0 ∨ G.2.2 b86 ≤ x64.toNatClampNeg)) <|
  ltt (uI s2.2 b86 x64.toNatClampNeg x85) fun M87 =>
  ltt (s2.1 + (1 : Int32)) fun x88 =>
  some (.inl (x88, M87)))) : Option ((Int32 × DD) ⊕ (Int32 × DD)))) 1000000 ((0 : Int32), M)) fun (y1 : Int32 × DD) =>
  bnd (itr (fun (s5 : Int32 × DD) => ((ltt ((p0 * p0)) fun x8 =>
  if x8 ≤ s5.1 then (some (.inr (s5.1, s5.2))) else
  (chk (¬ p0 = 0) <|
  ltt (s5.1 / p0) fun x10 =>
  ltt ((x10 * ((16 : Int32)))) fun x11 =>
  chk (¬ p0 = 0) <|
  ltt (s5.1 - s5.1 / p0 * p0) fun x12 =>
  ltt ((x11 + x12)) fun x13 =>
  dr G 13 ((y1.2.2 a 4)) fun b14 =>
  chk (¬ (x13 < 0 ∨ G.2.2 b14 ≤ x13.toNatClampNeg)) <|
  ltt (s5.2.1 b14 x13.toNatClampNeg) fun x15 =>
  ltt ((x13 + ((16 : Int32)))) fun x16 =>
  chk (¬ (x16 < 0 ∨ G.2.2 b14 ≤ x16.toNatClampNeg)) <|
  ltt (s5.2.1 b14 x16.toNatClampNeg) fun x17 =>
  ltt ((((5 : Int32)) * x17)) fun x18 =>
  ltt ((x15 - x18)) fun x19 =>
  ltt ((x13 + ((32 : Int32)))) fun x20 =>
  chk (¬ (x20 < 0 ∨ G.2.2 b14 ≤ x20.toNatClampNeg)) <|
  ltt (s5.2.1 b14 x20.toNatClampNeg) fun x21 =>
  ltt ((((20 : Int32)) * x21)) fun x22 =>
  ltt ((x19 + x22)) fun x23 =>
  ltt ((x13 + ((48 : Int32)))) fun x24 =>
  chk (¬ (x24 < 0 ∨ G.2.2 b14 ≤ x24.toNatClampNeg)) <|
  ltt (s5.2.1 b14 x24.toNatClampNeg) fun x25 =>
  ltt ((((20 : Int32)) * x25)) fun x26 =>
  ltt ((x23 + x26)) fun x27 =>
  ltt ((x13 + ((64 : Int32)))) fun x28 =>
  chk (¬ (x28 < 0 ∨ G.2.2 b14 ≤ x28.toNatClampNeg)) <|
  ltt (s5.2.1 b14 x28.toNatClampNeg) fun x29 =>
  ltt ((((5 : Int32)) * x29)) fun x30 =>
  ltt ((x27 - x30)) fun x31 =>
  ltt ((x13 + ((80 : Int32)))) fun x32 =>
  chk (¬ (x32 < 0 ∨ G.2.2 b14 ≤ x32.toNatClampNeg)) <|
  ltt (s5.2.1 b14 x32.toNatClampNeg) fun x33 =>
  ltt ((x31 + x33)) fun x34 =>
  ltt ((x34 + ((512 : Int32)))) fun x35 =>
  ltt ((x35 >>> (((10 : Int32)) &&& 31))) fun x36 =>
  bnd (if ((0 : Int32)) ≤ x36 then (bnd (if x36 ≤ ((255 : Int32)) then (some (x36)) else
  (some ((255 : Int32)))) fun (y51 : Int32) =>
  some (y51)) else
  (some ((0 : Int32)))) fun (y37 : Int32) =>
  ltt ((p2 + x13)) fun x38 =>
  bnd (if p3 = ((0 : Int32)) then (some (y37)) else
  (ltt ((p2 + x13)) fun x44 =>
  dr G 13 p1 fun b45 =>
  chk (¬ (x44 < 0 ∨ G.2.2 b45 ≤ x44.toNatClampNeg)) <|
  ltt (s5.2.1 b45 x44.toNatClampNeg) fun x46 =>
  ltt ((x46 + y37)) fun x47 =>
  ltt ((x47 + ((1 : Int32)))) fun x48 =>
  ltt ((x48 >>> (((1 : Int32)) &&& 31))) fun x49 =>
  some (x49))) fun (y39 : Int32) =>
  dr G 13 p1 fun b40 =>
  chk (¬ (x38 < 0 ∨ G.2.2 b40 ≤ x38.toNatClampNeg)) <|
  ltt (uI s5.2 b40 x38.toNatClampNeg y39) fun M41 =>
  ltt (s5.1 + (1 : Int32)) fun x42 =>
  some (.inl (x42, M41)))) : Option ((Int32 × DD) ⊕ (Int32 × DD)))) 1000000 ((0 : Int32), y1.2)) fun (y4 : Int32 × DD) =>
  some y4.2
set_option maxHeartbeats 4000000 in
set_option maxRecDepth 100000 in
theorem kX6_tapBoth (l : Launch) (D : va_G) (ct : CT) (ad : Nat → Nat) (Z : Nat → Nat) (G : GG) (M : DD) (sz : Nat) (a : Nat) (p0 : Int32) (p1 : Option Nat) (p2 : Int32) (p3 : Int32) (y : DD) (hc : a < G.1) (hk : G.2.1 a = 6) (hF : FX6_tapBoth G M a p0 p1 p2 p3 = some y) : Met l yX6_tapBoth wuX6_tapBoth ({ frames := 0, cells := 0, slots := 0, locals := 0 }) (va_Pc [.ref (ad a), .int p0, va_re ad p1, .int p2, .int p3] (kB D ct ad Z G M sz)) (va_Qv (fun (_ : Unit) => True) (fun _ t => kE D ct ad G (wA ad G sz) y t) (wA ad G sz)) 0 0 (wA ad G sz) := by
  refine Met.ofW (cc := cX6_tapBoth) (maxL := 9) (ret := none) (by decide) rfl ?_
  intro p e s m args below meth c s₁ B hml hv
  obtain ⟨rfl, hsz, hP, hK, hD0, hZ, hN⟩ := hv
  have hx := B.exec
  have hb := B.bytes
  have hr := B.returns
  have hts := atoms_spec (ws := wuX6_tapBoth) B.pre
  have hown : s.vm.findClass RX6 = some m.cls := findClass_of_methodNamed B.named
  have hlocks := B.notSynchronized
  subst hsz
  have hD := wD_self (sz := s.heap.size) hD0
  have hA9 : ∀ q, s.heap.size ≤ q → wA ad G s.heap.size q := fun q h => Or.inr h
  generalize hAe : wA ad G s.heap.size = A at hD hA9 hZ ⊢
  have hS : va_S A s.heap s.heap [] := va_S.rf
  have hl := lv_entry ([.ref (ad a), .int p0, va_re ad p1, .int p2, .int p3]) (n := 9) (by cases p1 <;> exact Nat.le_of_ble_eq_true rfl)
  rw [lg_entry_eq]
  generalize (lg_sl ([.ref (ad a), .int p0, va_re ad p1, .int p2, .int p3]) ++ List.replicate (9 - (lg_sl ([.ref (ad a), .int p0, va_re ad p1, .int p2, .int p3])).length) Slot.unset).toArray = ls at hl ⊢
  have hl : lv_has ls 9 [(0, .ref (ad a)), (1, .int p0), (2, va_re ad p1), (3, .int p2), (4, .int p3)] := by have e9 : lv_args 0 [.ref (ad a), .int p0, va_re ad p1, .int p2, .int p3] = [(0, .ref (ad a)), (1, .int p0), (2, va_re ad p1), (3, .int p2), (4, .int p3)] := (by cases p1 <;> rfl); rw [e9] at hl; exact hl
  unfold FX6_tapBoth at hF
  refine lv_aload_n hx hb dX6_tapBoth_0 rfl (lv_at hl 0 rfl) ?_
  refine va_get (D := D) (ci := 6) (v := va_re ad (M.2 a 3)) (C := RX6) (T := TX6) (N := 14) hx hb hts (mus hf_X6) hown hK hP a (wld_o ct ad G M hc hk (by decide)) rfl 3 (by decide) (hts (.fieldLink RX6 21 "VideoSuite$Samples" "window" "[I") (mu mw_538)) (fun _ h9 => h9) rfl dX6_tapBoth_1 ?_
  refine lv_astoreq (lv' := [(5, va_re ad (M.2 a 3)), (0, .ref (ad a)), (1, .int p0), (2, va_re ad p1), (3, .int p2), (4, .int p3)]) hx hb dX6_tapBoth_4 hl (by decide) rfl (fun ls hl => ?_)
  refine lv_iconst (v := (0 : Int32)) hx hb dX6_tapBoth_6 (by decide) ?_
  refine lv_istore (lv' := [(6, .int (0 : Int32)), (5, va_re ad (M.2 a 3)), (0, .ref (ad a)), (1, .int p0), (2, va_re ad p1), (3, .int p2), (4, .int p3)]) hx hb dX6_tapBoth_7 hl (by decide) (by generalize ((M.2 a 3)) = o9; cases o9 <;> rfl) (fun ls hl => ?_)
  obtain ⟨y1, hy1, hF⟩ := bnd_some hF
  have K1 : ∀ (H : Heap) (locs : List Loc) (ls : Array Slot), va_P D classes (wld ct ad G y1.2) H → va_D A (wld ct ad G y1.2) → va_S A s.heap H locs → lv_has ls 9 [(6, .int y1.1), (5, va_re ad (M.2 a 3)), (0, .ref (ad a)), (1, .int p0), (2, va_re ad p1), (3, .int p2), (4, .int p3)] → W p l e (headSpec wuX6_tapBoth ({ frames := 0, cells := 0, slots := 0, locals := 0 })).room s m ([.ref (ad a), .int p0, va_re ad p1, .int p2, .int p3] : List Value).toArray below meth c H locs 0 0 (MQ below (va_Qv (fun (_ : Unit) => True) (fun _ t => kE D ct ad G A y t) A) ([.ref (ad a), .int p0, va_re ad p1, .int p2, .int p3] : List Value).toArray s 0 0 A) (F0 m 111 ls []) := by
    intro H locs ls hP hD hS hl
    refine lv_aload_n hx hb dX6_tapBoth_111 rfl (lv_at hl 2 rfl) ?_
    refine va_get (D := D) (ci := 6) (v := va_re ad (y1.2.2 a 4)) (C := RX6) (T := TX6) (N := 14) hx hb hts (mus hf_X6) hown hK hP a (wld_o ct ad G y1.2 hc hk (by decide)) rfl 4 (by decide) (hts (.fieldLink RX6 24 "VideoSuite$Samples" "middle" "[I") (mu mw_539)) (fun _ h9 => h9) rfl dX6_tapBoth_112 ?_
    refine lv_astoreq (lv' := [(5, va_re ad (y1.2.2 a 4)), (6, .int y1.1), (0, .ref (ad a)), (1, .int p0), (2, va_re ad p1), (3, .int p2), (4, .int p3)]) hx hb dX6_tapBoth_115 hl (by decide) rfl (fun ls hl => ?_)
    refine lv_iconst (v := (0 : Int32)) hx hb dX6_tapBoth_117 (by decide) ?_
    refine lv_istore (lv' := [(6, .int (0 : Int32)), (5, va_re ad (y1.2.2 a 4)), (0, .ref (ad a)), (1, .int p0), (2, va_re ad p1), (3, .int p2), (4, .int p3)]) hx hb dX6_tapBoth_118 hl (by decide) (by generalize ((y1.2.2 a 4)) = o9; cases o9 <;> rfl) (fun ls hl => ?_)
    obtain ⟨y4, hy4, hF⟩ := bnd_some hF
    have K4 : ∀ (H : Heap) (locs : List Loc) (ls : Array Slot), va_P D classes (wld ct ad G y4.2) H → va_D A (wld ct ad G y4.2) → va_S A s.heap H locs → lv_has ls 9 [(6, .int y4.1), (5, va_re ad (y1.2.2 a 4)), (0, .ref (ad a)), (1, .int p0), (2, va_re ad p1), (3, .int p2), (4, .int p3)] → W p l e (headSpec wuX6_tapBoth ({ frames := 0, cells := 0, slots := 0, locals := 0 })).room s m ([.ref (ad a), .int p0, va_re ad p1, .int p2, .int p3] : List Value).toArray below meth c H locs 0 0 (MQ below (va_Qv (fun (_ : Unit) => True) (fun _ t => kE D ct ad G A y t) A) ([.ref (ad a), .int p0, va_re ad p1, .int p2, .int p3] : List Value).toArray s 0 0 A) (F0 m 273 ls []) := by
      intro H locs ls hP hD hS hl
      obtain rfl := Option.some.inj hF
      exact W.vret hx hb hr (fun t ht hW => ⟨⟨(), rfl, trivial, ⟨by rw [ht]; exact hP, va_K.moved hW.alike hK, hD⟩⟩, hS.F ht⟩) hS.2.2 dX6_tapBoth_273
    clear hF
    refine itr_rule (fun (s5 : Int32 × DD) => ∀ (H : Heap) (locs : List Loc) (ls : Array Slot), va_P D classes (wld ct ad G s5.2) H → va_D A (wld ct ad G s5.2) → va_S A s.heap H locs → lv_has ls 9 [(6, .int s5.1), (5, va_re ad (y1.2.2 a 4)), (0, .ref (ad a)), (1, .int p0), (2, va_re ad p1), (3, .int p2), (4, .int p3)] → W p l e (headSpec wuX6_tapBoth ({ frames := 0, cells := 0, slots := 0, locals := 0 })).room s m ([.ref (ad a), .int p0, va_re ad p1, .int p2, .int p3] : List Value).toArray below meth c H locs 0 0 (MQ below (va_Qv (fun (_ : Unit) => True) (fun _ t => kE D ct ad G A y t) A) ([.ref (ad a), .int p0, va_re ad p1, .int p2, .int p3] : List Value).toArray s 0 0 A) (F0 m 120 ls [])) ?_ _ _ hy4 _ _ _ hP hD hS (lv_sub hl [0, 1, 2, 3, 4, 5, 6] rfl)
    rintro s5 ⟨z7, hF, hwz7⟩ H locs ls hP hD hS hl
    try dsimp only at hF
    refine lv_iload hx hb dX6_tapBoth_120 (lv_at hl 0 rfl) ?_
    refine lv_iload_n hx hb dX6_tapBoth_122 rfl (lv_at hl 3 rfl) ?_
    refine lv_iload_n hx hb dX6_tapBoth_123 rfl (lv_at hl 3 rfl) ?_
    refine lv_imul hx hb dX6_tapBoth_124 ?_
    obtain ⟨x8, ex8, hF⟩ := ltt_some hF
    refine lv_topi (fun zx8 ezx8 => ?_)
    obtain rfl : x8 = zx8 := ex8.trans ezx8.symm
    refine lv_icmp_ge (tgt := 273) hx hb dX6_tapBoth_125 (by decide) (fun c9 => ?_) (fun c9 => ?_)
    · rw [if_pos c9] at hF
      obtain rfl := Option.some.inj hF
      subst hwz7
      exact K4 _ _ _ hP hD hS (lv_sub hl [0, 1, 2, 3, 4, 5, 6] rfl)
    · rw [if_neg c9] at hF
      refine lv_iload hx hb dX6_tapBoth_128 (lv_at hl 0 rfl) ?_
      refine lv_iload_n hx hb dX6_tapBoth_130 rfl (lv_at hl 3 rfl) ?_
      obtain ⟨hne, hF⟩ := chk_some hF
      refine lv_idiv hx hb dX6_tapBoth_131 hne ?_
      obtain ⟨x10, ex10, hF⟩ := ltt_some hF
      refine lv_topi (fun zx10 ezx10 => ?_)
      obtain rfl : x10 = zx10 := ex10.trans ezx10.symm
      refine lv_bipush (v := (16 : Int32)) hx hb dX6_tapBoth_132 (by decide) ?_
      refine lv_imul hx hb dX6_tapBoth_134 ?_
      obtain ⟨x11, ex11, hF⟩ := ltt_some hF
      refine lv_topi (fun zx11 ezx11 => ?_)
      obtain rfl : x11 = zx11 := ex11.trans ezx11.symm
      refine lv_iload hx hb dX6_tapBoth_135 (lv_at hl 0 rfl) ?_
      refine lv_iload_n hx hb dX6_tapBoth_137 rfl (lv_at hl 3 rfl) ?_
      obtain ⟨hne, hF⟩ := chk_some hF
      refine lv_irem hx hb dX6_tapBoth_138 hne ?_
      obtain ⟨x12, ex12, hF⟩ := ltt_some hF
      refine lv_topi (fun zx12 ezx12 => ?_)
      obtain rfl : x12 = zx12 := ex12.trans ezx12.symm
      refine lv_iadd hx hb dX6_tapBoth_139 ?_
      obtain ⟨x13, ex13, hF⟩ := ltt_some hF
      refine lv_topi (fun zx13 ezx13 => ?_)
      obtain rfl : x13 = zx13 := ex13.trans ezx13.symm
      refine lv_istore (lv' := [(7, .int x13), (6, .int s5.1), (5, va_re ad (y1.2.2 a 4)), (0, .ref (ad a)), (1, .int p0), (2, va_re ad p1), (3, .int p2), (4, .int p3)]) hx hb dX6_tapBoth_140 hl (by decide) rfl (fun ls hl => ?_)
      refine lv_aloadq hx hb dX6_tapBoth_142 (lv_at hl 2 rfl) ?_
      refine lv_iload hx hb dX6_tapBoth_144 (lv_at hl 0 rfl) ?_
      obtain ⟨b14, ho14, hc14, hk14, hF⟩ := dr_some hF
      refine W_st (st' := [.int x13, .ref (ad b14)]) (by rw [va_some ho14]) ?_
      obtain ⟨hvc, hF⟩ := chk_some hF
      refine va_iald hx hb hK hP b14 1 (wld_i ct ad G s5.2 hc14 hk14) rfl hvc dX6_tapBoth_146 ?_
      obtain ⟨x15, ex15, hF⟩ := ltt_some hF
      refine lv_topi (fun zx15 ezx15 => ?_)
      obtain rfl : x15 = zx15 := ex15.trans ezx15.symm
      refine lv_iconst (v := (5 : Int32)) hx hb dX6_tapBoth_147 (by decide) ?_
      refine lv_aloadq hx hb dX6_tapBoth_148 (lv_at hl 2 rfl) ?_
      refine lv_iload hx hb dX6_tapBoth_150 (lv_at hl 0 rfl) ?_
      refine lv_bipush (v := (16 : Int32)) hx hb dX6_tapBoth_152 (by decide) ?_
      refine lv_iadd hx hb dX6_tapBoth_154 ?_
      obtain ⟨x16, ex16, hF⟩ := ltt_some hF
      refine lv_topi (fun zx16 ezx16 => ?_)
      obtain rfl : x16 = zx16 := ex16.trans ezx16.symm
      refine W_st (st' := [.int x16, .ref (ad b14), .int (5 : Int32), .int x15]) (by rw [va_some ho14]) ?_
      obtain ⟨hvc, hF⟩ := chk_some hF
      refine va_iald hx hb hK hP b14 1 (wld_i ct ad G s5.2 hc14 hk14) rfl hvc dX6_tapBoth_155 ?_
      obtain ⟨x17, ex17, hF⟩ := ltt_some hF
      refine lv_topi (fun zx17 ezx17 => ?_)
      obtain rfl : x17 = zx17 := ex17.trans ezx17.symm
      refine lv_imul hx hb dX6_tapBoth_156 ?_
      obtain ⟨x18, ex18, hF⟩ := ltt_some hF
      refine lv_topi (fun zx18 ezx18 => ?_)
      obtain rfl : x18 = zx18 := ex18.trans ezx18.symm
      refine lv_isub hx hb dX6_tapBoth_157 ?_
      obtain ⟨x19, ex19, hF⟩ := ltt_some hF
      refine lv_topi (fun zx19 ezx19 => ?_)
      obtain rfl : x19 = zx19 := ex19.trans ezx19.symm
      refine lv_bipush (v := (20 : Int32)) hx hb dX6_tapBoth_158 (by decide) ?_
      refine lv_aloadq hx hb dX6_tapBoth_160 (lv_at hl 2 rfl) ?_
      refine lv_iload hx hb dX6_tapBoth_162 (lv_at hl 0 rfl) ?_
      refine lv_bipush (v := (32 : Int32)) hx hb dX6_tapBoth_164 (by decide) ?_
      refine lv_iadd hx hb dX6_tapBoth_166 ?_
      obtain ⟨x20, ex20, hF⟩ := ltt_some hF
      refine lv_topi (fun zx20 ezx20 => ?_)
      obtain rfl : x20 = zx20 := ex20.trans ezx20.symm
      refine W_st (st' := [.int x20, .ref (ad b14), .int (20 : Int32), .int x19]) (by rw [va_some ho14]) ?_
      obtain ⟨hvc, hF⟩ := chk_some hF
      refine va_iald hx hb hK hP b14 1 (wld_i ct ad G s5.2 hc14 hk14) rfl hvc dX6_tapBoth_167 ?_
      obtain ⟨x21, ex21, hF⟩ := ltt_some hF
      refine lv_topi (fun zx21 ezx21 => ?_)
      obtain rfl : x21 = zx21 := ex21.trans ezx21.symm
      refine lv_imul hx hb dX6_tapBoth_168 ?_
      obtain ⟨x22, ex22, hF⟩ := ltt_some hF
      refine lv_topi (fun zx22 ezx22 => ?_)
      obtain rfl : x22 = zx22 := ex22.trans ezx22.symm
      refine lv_iadd hx hb dX6_tapBoth_169 ?_
      obtain ⟨x23, ex23, hF⟩ := ltt_some hF
      refine lv_topi (fun zx23 ezx23 => ?_)
      obtain rfl : x23 = zx23 := ex23.trans ezx23.symm
      refine lv_bipush (v := (20 : Int32)) hx hb dX6_tapBoth_170 (by decide) ?_
      refine lv_aloadq hx hb dX6_tapBoth_172 (lv_at hl 2 rfl) ?_
      refine lv_iload hx hb dX6_tapBoth_174 (lv_at hl 0 rfl) ?_
      refine lv_bipush (v := (48 : Int32)) hx hb dX6_tapBoth_176 (by decide) ?_
      refine lv_iadd hx hb dX6_tapBoth_178 ?_
      obtain ⟨x24, ex24, hF⟩ := ltt_some hF
      refine lv_topi (fun zx24 ezx24 => ?_)
      obtain rfl : x24 = zx24 := ex24.trans ezx24.symm
      refine W_st (st' := [.int x24, .ref (ad b14), .int (20 : Int32), .int x23]) (by rw [va_some ho14]) ?_
      obtain ⟨hvc, hF⟩ := chk_some hF
      refine va_iald hx hb hK hP b14 1 (wld_i ct ad G s5.2 hc14 hk14) rfl hvc dX6_tapBoth_179 ?_
      obtain ⟨x25, ex25, hF⟩ := ltt_some hF
      refine lv_topi (fun zx25 ezx25 => ?_)
      obtain rfl : x25 = zx25 := ex25.trans ezx25.symm
      refine lv_imul hx hb dX6_tapBoth_180 ?_
      obtain ⟨x26, ex26, hF⟩ := ltt_some hF
      refine lv_topi (fun zx26 ezx26 => ?_)
      obtain rfl : x26 = zx26 := ex26.trans ezx26.symm
      refine lv_iadd hx hb dX6_tapBoth_181 ?_
      obtain ⟨x27, ex27, hF⟩ := ltt_some hF
      refine lv_topi (fun zx27 ezx27 => ?_)
      obtain rfl : x27 = zx27 := ex27.trans ezx27.symm
      refine lv_iconst (v := (5 : Int32)) hx hb dX6_tapBoth_182 (by decide) ?_
      refine lv_aloadq hx hb dX6_tapBoth_183 (lv_at hl 2 rfl) ?_
      refine lv_iload hx hb dX6_tapBoth_185 (lv_at hl 0 rfl) ?_
      refine lv_bipush (v := (64 : Int32)) hx hb dX6_tapBoth_187 (by decide) ?_
      refine lv_iadd hx hb dX6_tapBoth_189 ?_
      obtain ⟨x28, ex28, hF⟩ := ltt_some hF
      refine lv_topi (fun zx28 ezx28 => ?_)
      obtain rfl : x28 = zx28 := ex28.trans ezx28.symm
      refine W_st (st' := [.int x28, .ref (ad b14), .int (5 : Int32), .int x27]) (by rw [va_some ho14]) ?_
      obtain ⟨hvc, hF⟩ := chk_some hF
      refine va_iald hx hb hK hP b14 1 (wld_i ct ad G s5.2 hc14 hk14) rfl hvc dX6_tapBoth_190 ?_
      obtain ⟨x29, ex29, hF⟩ := ltt_some hF
      refine lv_topi (fun zx29 ezx29 => ?_)
      obtain rfl : x29 = zx29 := ex29.trans ezx29.symm
      refine lv_imul hx hb dX6_tapBoth_191 ?_
      obtain ⟨x30, ex30, hF⟩ := ltt_some hF
      refine lv_topi (fun zx30 ezx30 => ?_)
      obtain rfl : x30 = zx30 := ex30.trans ezx30.symm
      refine lv_isub hx hb dX6_tapBoth_192 ?_
      obtain ⟨x31, ex31, hF⟩ := ltt_some hF
      refine lv_topi (fun zx31 ezx31 => ?_)
      obtain rfl : x31 = zx31 := ex31.trans ezx31.symm
      refine lv_aloadq hx hb dX6_tapBoth_193 (lv_at hl 2 rfl) ?_
      refine lv_iload hx hb dX6_tapBoth_195 (lv_at hl 0 rfl) ?_
      refine lv_bipush (v := (80 : Int32)) hx hb dX6_tapBoth_197 (by decide) ?_
      refine lv_iadd hx hb dX6_tapBoth_199 ?_
      obtain ⟨x32, ex32, hF⟩ := ltt_some hF
      refine lv_topi (fun zx32 ezx32 => ?_)
      obtain rfl : x32 = zx32 := ex32.trans ezx32.symm
      refine W_st (st' := [.int x32, .ref (ad b14), .int x31]) (by rw [va_some ho14]) ?_
      obtain ⟨hvc, hF⟩ := chk_some hF
      refine va_iald hx hb hK hP b14 1 (wld_i ct ad G s5.2 hc14 hk14) rfl hvc dX6_tapBoth_200 ?_
      obtain ⟨x33, ex33, hF⟩ := ltt_some hF
      refine lv_topi (fun zx33 ezx33 => ?_)
      obtain rfl : x33 = zx33 := ex33.trans ezx33.symm
      refine lv_iadd hx hb dX6_tapBoth_201 ?_
      obtain ⟨x34, ex34, hF⟩ := ltt_some hF
      refine lv_topi (fun zx34 ezx34 => ?_)
      obtain rfl : x34 = zx34 := ex34.trans ezx34.symm
      refine lv_sipush (v := (512 : Int32)) hx hb dX6_tapBoth_202 (by decide) ?_
      refine lv_iadd hx hb dX6_tapBoth_205 ?_
      obtain ⟨x35, ex35, hF⟩ := ltt_some hF
      refine lv_topi (fun zx35 ezx35 => ?_)
      obtain rfl : x35 = zx35 := ex35.trans ezx35.symm
      refine lv_bipush (v := (10 : Int32)) hx hb dX6_tapBoth_206 (by decide) ?_
      refine lv_ishr hx hb dX6_tapBoth_208 ?_
      obtain ⟨x36, ex36, hF⟩ := ltt_some hF
      refine lv_topi (fun zx36 ezx36 => ?_)
      obtain rfl : x36 = zx36 := ex36.trans ezx36.symm
      refine lv_istore (lv' := [(8, .int x36), (7, .int x13), (6, .int s5.1), (5, va_re ad (y1.2.2 a 4)), (0, .ref (ad a)), (1, .int p0), (2, va_re ad p1), (3, .int p2), (4, .int p3)]) hx hb dX6_tapBoth_209 hl (by decide) rfl (fun ls hl => ?_)
      refine lv_iload hx hb dX6_tapBoth_211 (lv_at hl 0 rfl) ?_
      obtain ⟨y37, hy37, hF⟩ := bnd_some hF
      have J37 : ∀ (H : Heap) (locs : List Loc) (ls : Array Slot), va_P D classes (wld ct ad G s5.2) H → va_D A (wld ct ad G s5.2) → va_S A s.heap H locs → lv_has ls 9 [(8, .int x36), (7, .int x13), (6, .int s5.1), (5, va_re ad (y1.2.2 a 4)), (0, .ref (ad a)), (1, .int p0), (2, va_re ad p1), (3, .int p2), (4, .int p3)] → W p l e (headSpec wuX6_tapBoth ({ frames := 0, cells := 0, slots := 0, locals := 0 })).room s m ([.ref (ad a), .int p0, va_re ad p1, .int p2, .int p3] : List Value).toArray below meth c H locs 0 0 (MQ below (va_Qv (fun (_ : Unit) => True) (fun _ t => kE D ct ad G A y t) A) ([.ref (ad a), .int p0, va_re ad p1, .int p2, .int p3] : List Value).toArray s 0 0 A) (F0 m 236 ls [.int y37]) := by
        intro H locs ls hP hD hS hl
        refine lv_istore (lv' := [(8, .int y37), (7, .int x13), (6, .int s5.1), (5, va_re ad (y1.2.2 a 4)), (0, .ref (ad a)), (1, .int p0), (2, va_re ad p1), (3, .int p2), (4, .int p3)]) hx hb dX6_tapBoth_236 hl (by decide) rfl (fun ls hl => ?_)
        refine lv_aloadq_n hx hb dX6_tapBoth_238 rfl (lv_at hl 6 rfl) ?_
        refine lv_iload_n hx hb dX6_tapBoth_239 rfl (lv_at hl 7 rfl) ?_
        refine lv_iload hx hb dX6_tapBoth_240 (lv_at hl 1 rfl) ?_
        refine lv_iadd hx hb dX6_tapBoth_242 ?_
        obtain ⟨x38, ex38, hF⟩ := ltt_some hF
        refine lv_topi (fun zx38 ezx38 => ?_)
        obtain rfl : x38 = zx38 := ex38.trans ezx38.symm
        refine lv_iload hx hb dX6_tapBoth_243 (lv_at hl 8 rfl) ?_
        obtain ⟨y39, hy39, hF⟩ := bnd_some hF
        have J39 : ∀ (H : Heap) (locs : List Loc) (ls : Array Slot), va_P D classes (wld ct ad G s5.2) H → va_D A (wld ct ad G s5.2) → va_S A s.heap H locs → lv_has ls 9 [(8, .int y37), (7, .int x13), (6, .int s5.1), (5, va_re ad (y1.2.2 a 4)), (0, .ref (ad a)), (1, .int p0), (2, va_re ad p1), (3, .int p2), (4, .int p3)] → W p l e (headSpec wuX6_tapBoth ({ frames := 0, cells := 0, slots := 0, locals := 0 })).room s m ([.ref (ad a), .int p0, va_re ad p1, .int p2, .int p3] : List Value).toArray below meth c H locs 0 0 (MQ below (va_Qv (fun (_ : Unit) => True) (fun _ t => kE D ct ad G A y t) A) ([.ref (ad a), .int p0, va_re ad p1, .int p2, .int p3] : List Value).toArray s 0 0 A) (F0 m 266 ls [.int y39, .int x38, va_re ad p1]) := by
          intro H locs ls hP hD hS hl
          obtain ⟨b40, ho40, hc40, hk40, hF⟩ := dr_some hF
          refine W_st (st' := [.int y39, .int x38, .ref (ad b40)]) (by rw [va_some ho40]) ?_
          obtain ⟨hvc, hF⟩ := chk_some hF
          refine va_iast hx hb hK hP hD hS b40 1 (wld_i ct ad G s5.2 hc40 hk40) rfl hvc dX6_tapBoth_266 (fun H locs hP hD hS => ?_)
          obtain ⟨M41, eM41, hF⟩ := ltt_some hF
          rw [set_i ct ad G s5.2 hc40 hk40, ← eM41] at hP hD
          obtain ⟨x42, ex42, hF⟩ := ltt_some hF
          refine lv_iinc (v := x42) (lv' := [(6, .int x42), (8, .int y37), (7, .int x13), (5, va_re ad (y1.2.2 a 4)), (0, .ref (ad a)), (1, .int p0), (2, va_re ad p1), (3, .int p2), (4, .int p3)]) hx hb dX6_tapBoth_267 hl (k := 2) rfl (by rw [ex42]; rfl) (by decide) (by generalize ((y1.2.2 a 4)) = o9; cases o9 <;> rfl) (fun ls hl => ?_)
          refine lv_goto (tgt := 120) hx hb dX6_tapBoth_270 (by decide) ?_
          obtain rfl := Option.some.inj hF
          exact hwz7 _ _ _ hP hD hS (lv_sub hl [0, 3, 4, 5, 6, 7, 8] rfl)
        clear hF
        have hF := hy39
        clear hy39
        refine lv_if_eq (tgt := 264) hx hb dX6_tapBoth_245 (by decide) (fun c43 => ?_) (fun c43 => ?_)
        · rw [if_pos c43] at hF
          refine lv_iload hx hb dX6_tapBoth_264 (lv_at hl 0 rfl) ?_
          obtain rfl := Option.some.inj hF
          exact J39 _ _ _ hP hD hS (lv_sub hl [0, 1, 2, 3, 4, 5, 6, 7, 8] rfl)
        · rw [if_neg c43] at hF
          refine lv_aloadq_n hx hb dX6_tapBoth_248 rfl (lv_at hl 6 rfl) ?_
          refine lv_iload_n hx hb dX6_tapBoth_249 rfl (lv_at hl 7 rfl) ?_
          refine lv_iload hx hb dX6_tapBoth_250 (lv_at hl 1 rfl) ?_
          refine lv_iadd hx hb dX6_tapBoth_252 ?_
          obtain ⟨x44, ex44, hF⟩ := ltt_some hF
          refine lv_topi (fun zx44 ezx44 => ?_)
          obtain rfl : x44 = zx44 := ex44.trans ezx44.symm
          obtain ⟨b45, ho45, hc45, hk45, hF⟩ := dr_some hF
          refine W_st (st' := [.int x44, .ref (ad b45), .int x38, .ref (ad b45)]) (by rw [va_some ho45]) ?_
          obtain ⟨hvc, hF⟩ := chk_some hF
          refine va_iald hx hb hK hP b45 1 (wld_i ct ad G s5.2 hc45 hk45) rfl hvc dX6_tapBoth_253 ?_
          obtain ⟨x46, ex46, hF⟩ := ltt_some hF
          refine lv_topi (fun zx46 ezx46 => ?_)
          obtain rfl : x46 = zx46 := ex46.trans ezx46.symm
          refine lv_iload hx hb dX6_tapBoth_254 (lv_at hl 0 rfl) ?_
          refine lv_iadd hx hb dX6_tapBoth_256 ?_
          obtain ⟨x47, ex47, hF⟩ := ltt_some hF
          refine lv_topi (fun zx47 ezx47 => ?_)
          obtain rfl : x47 = zx47 := ex47.trans ezx47.symm
          refine lv_iconst (v := (1 : Int32)) hx hb dX6_tapBoth_257 (by decide) ?_
          refine lv_iadd hx hb dX6_tapBoth_258 ?_
          obtain ⟨x48, ex48, hF⟩ := ltt_some hF
          refine lv_topi (fun zx48 ezx48 => ?_)
          obtain rfl : x48 = zx48 := ex48.trans ezx48.symm
          refine lv_iconst (v := (1 : Int32)) hx hb dX6_tapBoth_259 (by decide) ?_
          refine lv_ishr hx hb dX6_tapBoth_260 ?_
          obtain ⟨x49, ex49, hF⟩ := ltt_some hF
          refine lv_topi (fun zx49 ezx49 => ?_)
          obtain rfl : x49 = zx49 := ex49.trans ezx49.symm
          refine lv_goto (tgt := 266) hx hb dX6_tapBoth_261 (by decide) ?_
          obtain rfl := Option.some.inj hF
          refine W_st (st' := [.int x49, .int x38, va_re ad p1]) (by rw [va_some ho45]) ?_
          exact J39 _ _ _ hP hD hS (lv_sub hl [0, 1, 2, 3, 4, 5, 6, 7, 8] rfl)
      clear hF
      have hF := hy37
      clear hy37
      refine lv_if_ge (tgt := 220) hx hb dX6_tapBoth_213 (by decide) (fun c50 => ?_) (fun c50 => ?_)
      · rw [if_pos c50] at hF
        refine lv_iload hx hb dX6_tapBoth_220 (lv_at hl 0 rfl) ?_
        refine lv_sipush (v := (255 : Int32)) hx hb dX6_tapBoth_222 (by decide) ?_
        obtain ⟨y51, hy51, hF⟩ := bnd_some hF
        have J51 : ∀ (H : Heap) (locs : List Loc) (ls : Array Slot), va_P D classes (wld ct ad G s5.2) H → va_D A (wld ct ad G s5.2) → va_S A s.heap H locs → lv_has ls 9 [(8, .int x36), (7, .int x13), (6, .int s5.1), (5, va_re ad (y1.2.2 a 4)), (0, .ref (ad a)), (1, .int p0), (2, va_re ad p1), (3, .int p2), (4, .int p3)] → W p l e (headSpec wuX6_tapBoth ({ frames := 0, cells := 0, slots := 0, locals := 0 })).room s m ([.ref (ad a), .int p0, va_re ad p1, .int p2, .int p3] : List Value).toArray below meth c H locs 0 0 (MQ below (va_Qv (fun (_ : Unit) => True) (fun _ t => kE D ct ad G A y t) A) ([.ref (ad a), .int p0, va_re ad p1, .int p2, .int p3] : List Value).toArray s 0 0 A) (F0 m 236 ls [.int y51]) := by
          intro H locs ls hP hD hS hl
          obtain rfl := Option.some.inj hF
          exact J37 _ _ _ hP hD hS (lv_sub hl [0, 1, 2, 3, 4, 5, 6, 7, 8] rfl)
        clear hF
        have hF := hy51
        clear hy51
        refine lv_icmp_le (tgt := 234) hx hb dX6_tapBoth_225 (by decide) (fun c52 => ?_) (fun c52 => ?_)
        · rw [if_pos c52] at hF
          refine lv_iload hx hb dX6_tapBoth_234 (lv_at hl 0 rfl) ?_
          obtain rfl := Option.some.inj hF
          exact J51 _ _ _ hP hD hS (lv_sub hl [0, 1, 2, 3, 4, 5, 6, 7, 8] rfl)
        · rw [if_neg c52] at hF
          refine lv_sipush (v := (255 : Int32)) hx hb dX6_tapBoth_228 (by decide) ?_
          refine lv_goto (tgt := 236) hx hb dX6_tapBoth_231 (by decide) ?_
          obtain rfl := Option.some.inj hF
          exact J51 _ _ _ hP hD hS (lv_sub hl [0, 1, 2, 3, 4, 5, 6, 7, 8] rfl)
      · rw [if_neg c50] at hF
        refine lv_iconst (v := (0 : Int32)) hx hb dX6_tapBoth_216 (by decide) ?_
        refine lv_goto (tgt := 236) hx hb dX6_tapBoth_217 (by decide) ?_
        obtain rfl := Option.some.inj hF
        exact J37 _ _ _ hP hD hS (lv_sub hl [0, 1, 2, 3, 4, 5, 6, 7, 8] rfl)
  clear hF
  refine itr_rule (fun (s2 : Int32 × DD) => ∀ (H : Heap) (locs : List Loc) (ls : Array Slot), va_P D classes (wld ct ad G s2.2) H → va_D A (wld ct ad G s2.2) → va_S A s.heap H locs → lv_has ls 9 [(6, .int s2.1), (5, va_re ad (M.2 a 3)), (0, .ref (ad a)), (1, .int p0), (2, va_re ad p1), (3, .int p2), (4, .int p3)] → W p l e (headSpec wuX6_tapBoth ({ frames := 0, cells := 0, slots := 0, locals := 0 })).room s m ([.ref (ad a), .int p0, va_re ad p1, .int p2, .int p3] : List Value).toArray below meth c H locs 0 0 (MQ below (va_Qv (fun (_ : Unit) => True) (fun _ t => kE D ct ad G A y t) A) ([.ref (ad a), .int p0, va_re ad p1, .int p2, .int p3] : List Value).toArray s 0 0 A) (F0 m 9 ls [])) ?_ _ _ hy1 _ _ _ hP hD hS (lv_sub hl [0, 1, 2, 3, 4, 5, 6] rfl)
  rintro s2 ⟨z53, hF, hwz53⟩ H locs ls hP hD hS hl
  try dsimp only at hF
  refine lv_iload hx hb dX6_tapBoth_9 (lv_at hl 0 rfl) ?_
  refine lv_iload_n hx hb dX6_tapBoth_11 rfl (lv_at hl 3 rfl) ?_
  refine lv_iload_n hx hb dX6_tapBoth_12 rfl (lv_at hl 3 rfl) ?_
  refine lv_iconst (v := (5 : Int32)) hx hb dX6_tapBoth_13 (by decide) ?_
  refine lv_iadd hx hb dX6_tapBoth_14 ?_
  obtain ⟨x54, ex54, hF⟩ := ltt_some hF
  refine lv_topi (fun zx54 ezx54 => ?_)
  obtain rfl : x54 = zx54 := ex54.trans ezx54.symm
  refine lv_imul hx hb dX6_tapBoth_15 ?_
  obtain ⟨x55, ex55, hF⟩ := ltt_some hF
  refine lv_topi (fun zx55 ezx55 => ?_)
  obtain rfl : x55 = zx55 := ex55.trans ezx55.symm
  refine lv_icmp_ge (tgt := 111) hx hb dX6_tapBoth_16 (by decide) (fun c56 => ?_) (fun c56 => ?_)
  · rw [if_pos c56] at hF
    obtain rfl := Option.some.inj hF
    subst hwz53
    exact K1 _ _ _ hP hD hS (lv_sub hl [0, 1, 2, 3, 4, 5, 6] rfl)
  · rw [if_neg c56] at hF
    refine lv_iload hx hb dX6_tapBoth_19 (lv_at hl 0 rfl) ?_
    refine lv_iload_n hx hb dX6_tapBoth_21 rfl (lv_at hl 3 rfl) ?_
    obtain ⟨hne, hF⟩ := chk_some hF
    refine lv_idiv hx hb dX6_tapBoth_22 hne ?_
    obtain ⟨x57, ex57, hF⟩ := ltt_some hF
    refine lv_topi (fun zx57 ezx57 => ?_)
    obtain rfl : x57 = zx57 := ex57.trans ezx57.symm
    refine lv_bipush (v := (21 : Int32)) hx hb dX6_tapBoth_23 (by decide) ?_
    refine lv_imul hx hb dX6_tapBoth_25 ?_
    obtain ⟨x58, ex58, hF⟩ := ltt_some hF
    refine lv_topi (fun zx58 ezx58 => ?_)
    obtain rfl : x58 = zx58 := ex58.trans ezx58.symm
    refine lv_iload hx hb dX6_tapBoth_26 (lv_at hl 0 rfl) ?_
    refine lv_iload_n hx hb dX6_tapBoth_28 rfl (lv_at hl 3 rfl) ?_
    obtain ⟨hne, hF⟩ := chk_some hF
    refine lv_irem hx hb dX6_tapBoth_29 hne ?_
    obtain ⟨x59, ex59, hF⟩ := ltt_some hF
    refine lv_topi (fun zx59 ezx59 => ?_)
    obtain rfl : x59 = zx59 := ex59.trans ezx59.symm
    refine lv_iadd hx hb dX6_tapBoth_30 ?_
    obtain ⟨x60, ex60, hF⟩ := ltt_some hF
    refine lv_topi (fun zx60 ezx60 => ?_)
    obtain rfl : x60 = zx60 := ex60.trans ezx60.symm
    refine lv_istore (lv' := [(7, .int x60), (6, .int s2.1), (5, va_re ad (M.2 a 3)), (0, .ref (ad a)), (1, .int p0), (2, va_re ad p1), (3, .int p2), (4, .int p3)]) hx hb dX6_tapBoth_31 hl (by decide) rfl (fun ls hl => ?_)
    refine lv_aload_n hx hb dX6_tapBoth_33 rfl (lv_at hl 3 rfl) ?_
    refine va_get (D := D) (ci := 6) (v := va_re ad (s2.2.2 a 4)) (C := RX6) (T := TX6) (N := 14) hx hb hts (mus hf_X6) hown hK hP a (wld_o ct ad G s2.2 hc hk (by decide)) rfl 4 (by decide) (hts (.fieldLink RX6 24 "VideoSuite$Samples" "middle" "[I") (mu mw_539)) (fun _ h9 => h9) rfl dX6_tapBoth_34 ?_
    refine lv_iload hx hb dX6_tapBoth_37 (lv_at hl 1 rfl) ?_
    refine lv_iload_n hx hb dX6_tapBoth_39 rfl (lv_at hl 4 rfl) ?_
    obtain ⟨hne, hF⟩ := chk_some hF
    refine lv_idiv hx hb dX6_tapBoth_40 hne ?_
    obtain ⟨x61, ex61, hF⟩ := ltt_some hF
    refine lv_topi (fun zx61 ezx61 => ?_)
    obtain rfl : x61 = zx61 := ex61.trans ezx61.symm
    refine lv_bipush (v := (16 : Int32)) hx hb dX6_tapBoth_41 (by decide) ?_
    refine lv_imul hx hb dX6_tapBoth_43 ?_
    obtain ⟨x62, ex62, hF⟩ := ltt_some hF
    refine lv_topi (fun zx62 ezx62 => ?_)
    obtain rfl : x62 = zx62 := ex62.trans ezx62.symm
    refine lv_iload hx hb dX6_tapBoth_44 (lv_at hl 1 rfl) ?_
    refine lv_iload_n hx hb dX6_tapBoth_46 rfl (lv_at hl 4 rfl) ?_
    obtain ⟨hne, hF⟩ := chk_some hF
    refine lv_irem hx hb dX6_tapBoth_47 hne ?_
    obtain ⟨x63, ex63, hF⟩ := ltt_some hF
    refine lv_topi (fun zx63 ezx63 => ?_)
    obtain rfl : x63 = zx63 := ex63.trans ezx63.symm
    refine lv_iadd hx hb dX6_tapBoth_48 ?_
    obtain ⟨x64, ex64, hF⟩ := ltt_some hF
    refine lv_topi (fun zx64 ezx64 => ?_)
    obtain rfl : x64 = zx64 := ex64.trans ezx64.symm
    refine lv_aloadq hx hb dX6_tapBoth_49 (lv_at hl 2 rfl) ?_
    refine lv_iload hx hb dX6_tapBoth_51 (lv_at hl 0 rfl) ?_
    obtain ⟨b65, ho65, hc65, hk65, hF⟩ := dr_some hF
    refine W_st (st' := [.int x60, .ref (ad b65), .int x64, va_re ad (s2.2.2 a 4)]) (by rw [va_some ho65]) ?_
    obtain ⟨hvc, hF⟩ := chk_some hF
    refine va_iald hx hb hK hP b65 1 (wld_i ct ad G s2.2 hc65 hk65) rfl hvc dX6_tapBoth_53 ?_
    obtain ⟨x66, ex66, hF⟩ := ltt_some hF
    refine lv_topi (fun zx66 ezx66 => ?_)
    obtain rfl : x66 = zx66 := ex66.trans ezx66.symm
    refine lv_iconst (v := (5 : Int32)) hx hb dX6_tapBoth_54 (by decide) ?_
    refine lv_aloadq hx hb dX6_tapBoth_55 (lv_at hl 2 rfl) ?_
    refine lv_iload hx hb dX6_tapBoth_57 (lv_at hl 0 rfl) ?_
    refine lv_iconst (v := (1 : Int32)) hx hb dX6_tapBoth_59 (by decide) ?_
    refine lv_iadd hx hb dX6_tapBoth_60 ?_
    obtain ⟨x67, ex67, hF⟩ := ltt_some hF
    refine lv_topi (fun zx67 ezx67 => ?_)
    obtain rfl : x67 = zx67 := ex67.trans ezx67.symm
    refine W_st (st' := [.int x67, .ref (ad b65), .int (5 : Int32), .int x66, .int x64, va_re ad (s2.2.2 a 4)]) (by rw [va_some ho65]) ?_
    obtain ⟨hvc, hF⟩ := chk_some hF
    refine va_iald hx hb hK hP b65 1 (wld_i ct ad G s2.2 hc65 hk65) rfl hvc dX6_tapBoth_61 ?_
    obtain ⟨x68, ex68, hF⟩ := ltt_some hF
    refine lv_topi (fun zx68 ezx68 => ?_)
    obtain rfl : x68 = zx68 := ex68.trans ezx68.symm
    refine lv_imul hx hb dX6_tapBoth_62 ?_
    obtain ⟨x69, ex69, hF⟩ := ltt_some hF
    refine lv_topi (fun zx69 ezx69 => ?_)
    obtain rfl : x69 = zx69 := ex69.trans ezx69.symm
    refine lv_isub hx hb dX6_tapBoth_63 ?_
    obtain ⟨x70, ex70, hF⟩ := ltt_some hF
    refine lv_topi (fun zx70 ezx70 => ?_)
    obtain rfl : x70 = zx70 := ex70.trans ezx70.symm
    refine lv_bipush (v := (20 : Int32)) hx hb dX6_tapBoth_64 (by decide) ?_
    refine lv_aloadq hx hb dX6_tapBoth_66 (lv_at hl 2 rfl) ?_
    refine lv_iload hx hb dX6_tapBoth_68 (lv_at hl 0 rfl) ?_
    refine lv_iconst (v := (2 : Int32)) hx hb dX6_tapBoth_70 (by decide) ?_
    refine lv_iadd hx hb dX6_tapBoth_71 ?_
    obtain ⟨x71, ex71, hF⟩ := ltt_some hF
    refine lv_topi (fun zx71 ezx71 => ?_)
    obtain rfl : x71 = zx71 := ex71.trans ezx71.symm
    refine W_st (st' := [.int x71, .ref (ad b65), .int (20 : Int32), .int x70, .int x64, va_re ad (s2.2.2 a 4)]) (by rw [va_some ho65]) ?_
    obtain ⟨hvc, hF⟩ := chk_some hF
    refine va_iald hx hb hK hP b65 1 (wld_i ct ad G s2.2 hc65 hk65) rfl hvc dX6_tapBoth_72 ?_
    obtain ⟨x72, ex72, hF⟩ := ltt_some hF
    refine lv_topi (fun zx72 ezx72 => ?_)
    obtain rfl : x72 = zx72 := ex72.trans ezx72.symm
    refine lv_imul hx hb dX6_tapBoth_73 ?_
    obtain ⟨x73, ex73, hF⟩ := ltt_some hF
    refine lv_topi (fun zx73 ezx73 => ?_)
    obtain rfl : x73 = zx73 := ex73.trans ezx73.symm
    refine lv_iadd hx hb dX6_tapBoth_74 ?_
    obtain ⟨x74, ex74, hF⟩ := ltt_some hF
    refine lv_topi (fun zx74 ezx74 => ?_)
    obtain rfl : x74 = zx74 := ex74.trans ezx74.symm
    refine lv_bipush (v := (20 : Int32)) hx hb dX6_tapBoth_75 (by decide) ?_
    refine lv_aloadq hx hb dX6_tapBoth_77 (lv_at hl 2 rfl) ?_
    refine lv_iload hx hb dX6_tapBoth_79 (lv_at hl 0 rfl) ?_
    refine lv_iconst (v := (3 : Int32)) hx hb dX6_tapBoth_81 (by decide) ?_
    refine lv_iadd hx hb dX6_tapBoth_82 ?_
    obtain ⟨x75, ex75, hF⟩ := ltt_some hF
    refine lv_topi (fun zx75 ezx75 => ?_)
    obtain rfl : x75 = zx75 := ex75.trans ezx75.symm
    refine W_st (st' := [.int x75, .ref (ad b65), .int (20 : Int32), .int x74, .int x64, va_re ad (s2.2.2 a 4)]) (by rw [va_some ho65]) ?_
    obtain ⟨hvc, hF⟩ := chk_some hF
    refine va_iald hx hb hK hP b65 1 (wld_i ct ad G s2.2 hc65 hk65) rfl hvc dX6_tapBoth_83 ?_
    obtain ⟨x76, ex76, hF⟩ := ltt_some hF
    refine lv_topi (fun zx76 ezx76 => ?_)
    obtain rfl : x76 = zx76 := ex76.trans ezx76.symm
    refine lv_imul hx hb dX6_tapBoth_84 ?_
    obtain ⟨x77, ex77, hF⟩ := ltt_some hF
    refine lv_topi (fun zx77 ezx77 => ?_)
    obtain rfl : x77 = zx77 := ex77.trans ezx77.symm
    refine lv_iadd hx hb dX6_tapBoth_85 ?_
    obtain ⟨x78, ex78, hF⟩ := ltt_some hF
    refine lv_topi (fun zx78 ezx78 => ?_)
    obtain rfl : x78 = zx78 := ex78.trans ezx78.symm
    refine lv_iconst (v := (5 : Int32)) hx hb dX6_tapBoth_86 (by decide) ?_
    refine lv_aloadq hx hb dX6_tapBoth_87 (lv_at hl 2 rfl) ?_
    refine lv_iload hx hb dX6_tapBoth_89 (lv_at hl 0 rfl) ?_
    refine lv_iconst (v := (4 : Int32)) hx hb dX6_tapBoth_91 (by decide) ?_
    refine lv_iadd hx hb dX6_tapBoth_92 ?_
    obtain ⟨x79, ex79, hF⟩ := ltt_some hF
    refine lv_topi (fun zx79 ezx79 => ?_)
    obtain rfl : x79 = zx79 := ex79.trans ezx79.symm
    refine W_st (st' := [.int x79, .ref (ad b65), .int (5 : Int32), .int x78, .int x64, va_re ad (s2.2.2 a 4)]) (by rw [va_some ho65]) ?_
    obtain ⟨hvc, hF⟩ := chk_some hF
    refine va_iald hx hb hK hP b65 1 (wld_i ct ad G s2.2 hc65 hk65) rfl hvc dX6_tapBoth_93 ?_
    obtain ⟨x80, ex80, hF⟩ := ltt_some hF
    refine lv_topi (fun zx80 ezx80 => ?_)
    obtain rfl : x80 = zx80 := ex80.trans ezx80.symm
    refine lv_imul hx hb dX6_tapBoth_94 ?_
    obtain ⟨x81, ex81, hF⟩ := ltt_some hF
    refine lv_topi (fun zx81 ezx81 => ?_)
    obtain rfl : x81 = zx81 := ex81.trans ezx81.symm
    refine lv_isub hx hb dX6_tapBoth_95 ?_
    obtain ⟨x82, ex82, hF⟩ := ltt_some hF
    refine lv_topi (fun zx82 ezx82 => ?_)
    obtain rfl : x82 = zx82 := ex82.trans ezx82.symm
    refine lv_aloadq hx hb dX6_tapBoth_96 (lv_at hl 2 rfl) ?_
    refine lv_iload hx hb dX6_tapBoth_98 (lv_at hl 0 rfl) ?_
    refine lv_iconst (v := (5 : Int32)) hx hb dX6_tapBoth_100 (by decide) ?_
    refine lv_iadd hx hb dX6_tapBoth_101 ?_
    obtain ⟨x83, ex83, hF⟩ := ltt_some hF
    refine lv_topi (fun zx83 ezx83 => ?_)
    obtain rfl : x83 = zx83 := ex83.trans ezx83.symm
    refine W_st (st' := [.int x83, .ref (ad b65), .int x82, .int x64, va_re ad (s2.2.2 a 4)]) (by rw [va_some ho65]) ?_
    obtain ⟨hvc, hF⟩ := chk_some hF
    refine va_iald hx hb hK hP b65 1 (wld_i ct ad G s2.2 hc65 hk65) rfl hvc dX6_tapBoth_102 ?_
    obtain ⟨x84, ex84, hF⟩ := ltt_some hF
    refine lv_topi (fun zx84 ezx84 => ?_)
    obtain rfl : x84 = zx84 := ex84.trans ezx84.symm
    refine lv_iadd hx hb dX6_tapBoth_103 ?_
    obtain ⟨x85, ex85, hF⟩ := ltt_some hF
    refine lv_topi (fun zx85 ezx85 => ?_)
    obtain rfl : x85 = zx85 := ex85.trans ezx85.symm
    obtain ⟨b86, ho86, hc86, hk86, hF⟩ := dr_some hF
    refine W_st (st' := [.int x85, .int x64, .ref (ad b86)]) (by rw [va_some ho86]) ?_
    obtain ⟨hvc, hF⟩ := chk_some hF
    refine va_iast hx hb hK hP hD hS b86 1 (wld_i ct ad G s2.2 hc86 hk86) rfl hvc dX6_tapBoth_104 (fun H locs hP hD hS => ?_)
    obtain ⟨M87, eM87, hF⟩ := ltt_some hF
    rw [set_i ct ad G s2.2 hc86 hk86, ← eM87] at hP hD
    obtain ⟨x88, ex88, hF⟩ := ltt_some hF
    refine lv_iinc (v := x88) (lv' := [(6, .int x88), (7, .int x60), (5, va_re ad (M.2 a 3)), (0, .ref (ad a)), (1, .int p0), (2, va_re ad p1), (3, .int p2), (4, .int p3)]) hx hb dX6_tapBoth_105 hl (k := 1) rfl (by rw [ex88]; rfl) (by decide) (by generalize ((M.2 a 3)) = o9; cases o9 <;> rfl) (fun ls hl => ?_)
    refine lv_goto (tgt := 9) hx hb dX6_tapBoth_108 (by decide) ?_
    obtain rfl := Option.some.inj hF
    exact hwz53 _ _ _ hP hD hS (lv_sub hl [0, 2, 3, 4, 5, 6, 7] rfl)
theorem dX6_tapColumns_0 : decode cX6_tapColumns 0 = .ok (.aload_n 0, 1) := by decide +kernel
theorem dX6_tapColumns_1 : decode cX6_tapColumns 1 = .ok (.getfield 21, 3) := by decide +kernel
theorem dX6_tapColumns_4 : decode cX6_tapColumns 4 = .ok (.astore 6, 2) := by decide +kernel
theorem dX6_tapColumns_6 : decode cX6_tapColumns 6 = .ok (.iconst 0, 1) := by decide +kernel
theorem dX6_tapColumns_7 : decode cX6_tapColumns 7 = .ok (.istore 7, 2) := by decide +kernel
theorem dX6_tapColumns_9 : decode cX6_tapColumns 9 = .ok (.iload 7, 2) := by decide +kernel
theorem dX6_tapColumns_11 : decode cX6_tapColumns 11 = .ok (.iload_n 1, 1) := by decide +kernel
theorem dX6_tapColumns_12 : decode cX6_tapColumns 12 = .ok (.iload_n 1, 1) := by decide +kernel
theorem dX6_tapColumns_13 : decode cX6_tapColumns 13 = .ok (.imul, 1) := by decide +kernel
theorem dX6_tapColumns_14 : decode cX6_tapColumns 14 = .ok (.if_icmp .ge 161, 3) := by decide +kernel
theorem dX6_tapColumns_17 : decode cX6_tapColumns 17 = .ok (.iload 7, 2) := by decide +kernel
theorem dX6_tapColumns_19 : decode cX6_tapColumns 19 = .ok (.iload_n 1, 1) := by decide +kernel
theorem dX6_tapColumns_20 : decode cX6_tapColumns 20 = .ok (.idiv, 1) := by decide +kernel
theorem dX6_tapColumns_21 : decode cX6_tapColumns 21 = .ok (.bipush 21, 2) := by decide +kernel
theorem dX6_tapColumns_23 : decode cX6_tapColumns 23 = .ok (.imul, 1) := by decide +kernel
theorem dX6_tapColumns_24 : decode cX6_tapColumns 24 = .ok (.iload 7, 2) := by decide +kernel
theorem dX6_tapColumns_26 : decode cX6_tapColumns 26 = .ok (.iload_n 1, 1) := by decide +kernel
theorem dX6_tapColumns_27 : decode cX6_tapColumns 27 = .ok (.irem, 1) := by decide +kernel
theorem dX6_tapColumns_28 : decode cX6_tapColumns 28 = .ok (.iadd, 1) := by decide +kernel
theorem dX6_tapColumns_29 : decode cX6_tapColumns 29 = .ok (.iload_n 2, 1) := by decide +kernel
theorem dX6_tapColumns_30 : decode cX6_tapColumns 30 = .ok (.iadd, 1) := by decide +kernel
theorem dX6_tapColumns_31 : decode cX6_tapColumns 31 = .ok (.istore 8, 2) := by decide +kernel
theorem dX6_tapColumns_33 : decode cX6_tapColumns 33 = .ok (.aload 6, 2) := by decide +kernel
theorem dX6_tapColumns_35 : decode cX6_tapColumns 35 = .ok (.iload 8, 2) := by decide +kernel
theorem dX6_tapColumns_37 : decode cX6_tapColumns 37 = .ok (.iaload, 1) := by decide +kernel
theorem dX6_tapColumns_38 : decode cX6_tapColumns 38 = .ok (.iconst 5, 1) := by decide +kernel
theorem dX6_tapColumns_39 : decode cX6_tapColumns 39 = .ok (.aload 6, 2) := by decide +kernel
theorem dX6_tapColumns_41 : decode cX6_tapColumns 41 = .ok (.iload 8, 2) := by decide +kernel
theorem dX6_tapColumns_43 : decode cX6_tapColumns 43 = .ok (.bipush 21, 2) := by decide +kernel
theorem dX6_tapColumns_45 : decode cX6_tapColumns 45 = .ok (.iadd, 1) := by decide +kernel
theorem dX6_tapColumns_46 : decode cX6_tapColumns 46 = .ok (.iaload, 1) := by decide +kernel
theorem dX6_tapColumns_47 : decode cX6_tapColumns 47 = .ok (.imul, 1) := by decide +kernel
theorem dX6_tapColumns_48 : decode cX6_tapColumns 48 = .ok (.isub, 1) := by decide +kernel
theorem dX6_tapColumns_49 : decode cX6_tapColumns 49 = .ok (.bipush 20, 2) := by decide +kernel
theorem dX6_tapColumns_51 : decode cX6_tapColumns 51 = .ok (.aload 6, 2) := by decide +kernel
theorem dX6_tapColumns_53 : decode cX6_tapColumns 53 = .ok (.iload 8, 2) := by decide +kernel
theorem dX6_tapColumns_55 : decode cX6_tapColumns 55 = .ok (.bipush 42, 2) := by decide +kernel
theorem dX6_tapColumns_57 : decode cX6_tapColumns 57 = .ok (.iadd, 1) := by decide +kernel
theorem dX6_tapColumns_58 : decode cX6_tapColumns 58 = .ok (.iaload, 1) := by decide +kernel
theorem dX6_tapColumns_59 : decode cX6_tapColumns 59 = .ok (.imul, 1) := by decide +kernel
theorem dX6_tapColumns_60 : decode cX6_tapColumns 60 = .ok (.iadd, 1) := by decide +kernel
theorem dX6_tapColumns_61 : decode cX6_tapColumns 61 = .ok (.bipush 20, 2) := by decide +kernel
theorem dX6_tapColumns_63 : decode cX6_tapColumns 63 = .ok (.aload 6, 2) := by decide +kernel
theorem dX6_tapColumns_65 : decode cX6_tapColumns 65 = .ok (.iload 8, 2) := by decide +kernel
theorem dX6_tapColumns_67 : decode cX6_tapColumns 67 = .ok (.bipush 63, 2) := by decide +kernel
theorem dX6_tapColumns_69 : decode cX6_tapColumns 69 = .ok (.iadd, 1) := by decide +kernel
theorem dX6_tapColumns_70 : decode cX6_tapColumns 70 = .ok (.iaload, 1) := by decide +kernel
theorem dX6_tapColumns_71 : decode cX6_tapColumns 71 = .ok (.imul, 1) := by decide +kernel
theorem dX6_tapColumns_72 : decode cX6_tapColumns 72 = .ok (.iadd, 1) := by decide +kernel
theorem dX6_tapColumns_73 : decode cX6_tapColumns 73 = .ok (.iconst 5, 1) := by decide +kernel
theorem dX6_tapColumns_74 : decode cX6_tapColumns 74 = .ok (.aload 6, 2) := by decide +kernel
theorem dX6_tapColumns_76 : decode cX6_tapColumns 76 = .ok (.iload 8, 2) := by decide +kernel
theorem dX6_tapColumns_78 : decode cX6_tapColumns 78 = .ok (.bipush 84, 2) := by decide +kernel
theorem dX6_tapColumns_80 : decode cX6_tapColumns 80 = .ok (.iadd, 1) := by decide +kernel
theorem dX6_tapColumns_81 : decode cX6_tapColumns 81 = .ok (.iaload, 1) := by decide +kernel
theorem dX6_tapColumns_82 : decode cX6_tapColumns 82 = .ok (.imul, 1) := by decide +kernel
theorem dX6_tapColumns_83 : decode cX6_tapColumns 83 = .ok (.isub, 1) := by decide +kernel
theorem dX6_tapColumns_84 : decode cX6_tapColumns 84 = .ok (.aload 6, 2) := by decide +kernel
theorem dX6_tapColumns_86 : decode cX6_tapColumns 86 = .ok (.iload 8, 2) := by decide +kernel
theorem dX6_tapColumns_88 : decode cX6_tapColumns 88 = .ok (.bipush 105, 2) := by decide +kernel
theorem dX6_tapColumns_90 : decode cX6_tapColumns 90 = .ok (.iadd, 1) := by decide +kernel
theorem dX6_tapColumns_91 : decode cX6_tapColumns 91 = .ok (.iaload, 1) := by decide +kernel
theorem dX6_tapColumns_92 : decode cX6_tapColumns 92 = .ok (.iadd, 1) := by decide +kernel
theorem dX6_tapColumns_93 : decode cX6_tapColumns 93 = .ok (.bipush 16, 2) := by decide +kernel
theorem dX6_tapColumns_95 : decode cX6_tapColumns 95 = .ok (.iadd, 1) := by decide +kernel
theorem dX6_tapColumns_96 : decode cX6_tapColumns 96 = .ok (.iconst 5, 1) := by decide +kernel
theorem dX6_tapColumns_97 : decode cX6_tapColumns 97 = .ok (.ishr, 1) := by decide +kernel
theorem dX6_tapColumns_98 : decode cX6_tapColumns 98 = .ok (.istore 9, 2) := by decide +kernel
theorem dX6_tapColumns_100 : decode cX6_tapColumns 100 = .ok (.iload 9, 2) := by decide +kernel
theorem dX6_tapColumns_102 : decode cX6_tapColumns 102 = .ok (.ifCond .ge 7, 3) := by decide +kernel
theorem dX6_tapColumns_105 : decode cX6_tapColumns 105 = .ok (.iconst 0, 1) := by decide +kernel
theorem dX6_tapColumns_106 : decode cX6_tapColumns 106 = .ok (.goto 19, 3) := by decide +kernel
theorem dX6_tapColumns_109 : decode cX6_tapColumns 109 = .ok (.iload 9, 2) := by decide +kernel
theorem dX6_tapColumns_111 : decode cX6_tapColumns 111 = .ok (.sipush 255, 3) := by decide +kernel
theorem dX6_tapColumns_114 : decode cX6_tapColumns 114 = .ok (.if_icmp .le 9, 3) := by decide +kernel
theorem dX6_tapColumns_117 : decode cX6_tapColumns 117 = .ok (.sipush 255, 3) := by decide +kernel
theorem dX6_tapColumns_120 : decode cX6_tapColumns 120 = .ok (.goto 5, 3) := by decide +kernel
theorem dX6_tapColumns_123 : decode cX6_tapColumns 123 = .ok (.iload 9, 2) := by decide +kernel
theorem dX6_tapColumns_125 : decode cX6_tapColumns 125 = .ok (.istore 9, 2) := by decide +kernel
theorem dX6_tapColumns_127 : decode cX6_tapColumns 127 = .ok (.iload 4, 2) := by decide +kernel
theorem dX6_tapColumns_129 : decode cX6_tapColumns 129 = .ok (.iload 7, 2) := by decide +kernel
theorem dX6_tapColumns_131 : decode cX6_tapColumns 131 = .ok (.iload_n 1, 1) := by decide +kernel
theorem dX6_tapColumns_132 : decode cX6_tapColumns 132 = .ok (.idiv, 1) := by decide +kernel
theorem dX6_tapColumns_133 : decode cX6_tapColumns 133 = .ok (.bipush 16, 2) := by decide +kernel
theorem dX6_tapColumns_135 : decode cX6_tapColumns 135 = .ok (.imul, 1) := by decide +kernel
theorem dX6_tapColumns_136 : decode cX6_tapColumns 136 = .ok (.iadd, 1) := by decide +kernel
theorem dX6_tapColumns_137 : decode cX6_tapColumns 137 = .ok (.iload 7, 2) := by decide +kernel
theorem dX6_tapColumns_139 : decode cX6_tapColumns 139 = .ok (.iload_n 1, 1) := by decide +kernel
theorem dX6_tapColumns_140 : decode cX6_tapColumns 140 = .ok (.irem, 1) := by decide +kernel
theorem dX6_tapColumns_141 : decode cX6_tapColumns 141 = .ok (.iadd, 1) := by decide +kernel
theorem dX6_tapColumns_142 : decode cX6_tapColumns 142 = .ok (.istore 10, 2) := by decide +kernel
theorem dX6_tapColumns_144 : decode cX6_tapColumns 144 = .ok (.aload_n 3, 1) := by decide +kernel
theorem dX6_tapColumns_145 : decode cX6_tapColumns 145 = .ok (.iload 10, 2) := by decide +kernel
theorem dX6_tapColumns_147 : decode cX6_tapColumns 147 = .ok (.iload 5, 2) := by decide +kernel
theorem dX6_tapColumns_149 : decode cX6_tapColumns 149 = .ok (.ifCond .eq 17, 3) := by decide +kernel
theorem dX6_tapColumns_152 : decode cX6_tapColumns 152 = .ok (.aload_n 3, 1) := by decide +kernel
theorem dX6_tapColumns_153 : decode cX6_tapColumns 153 = .ok (.iload 10, 2) := by decide +kernel
theorem dX6_tapColumns_155 : decode cX6_tapColumns 155 = .ok (.iaload, 1) := by decide +kernel
theorem dX6_tapColumns_156 : decode cX6_tapColumns 156 = .ok (.iload 9, 2) := by decide +kernel
theorem dX6_tapColumns_158 : decode cX6_tapColumns 158 = .ok (.iadd, 1) := by decide +kernel
theorem dX6_tapColumns_159 : decode cX6_tapColumns 159 = .ok (.iconst 1, 1) := by decide +kernel
theorem dX6_tapColumns_160 : decode cX6_tapColumns 160 = .ok (.iadd, 1) := by decide +kernel
theorem dX6_tapColumns_161 : decode cX6_tapColumns 161 = .ok (.iconst 1, 1) := by decide +kernel
theorem dX6_tapColumns_162 : decode cX6_tapColumns 162 = .ok (.ishr, 1) := by decide +kernel
theorem dX6_tapColumns_163 : decode cX6_tapColumns 163 = .ok (.goto 5, 3) := by decide +kernel
theorem dX6_tapColumns_166 : decode cX6_tapColumns 166 = .ok (.iload 9, 2) := by decide +kernel
theorem dX6_tapColumns_168 : decode cX6_tapColumns 168 = .ok (.iastore, 1) := by decide +kernel
theorem dX6_tapColumns_169 : decode cX6_tapColumns 169 = .ok (.iinc 7 1, 3) := by decide +kernel
theorem dX6_tapColumns_172 : decode cX6_tapColumns 172 = .ok (.goto (-163), 3) := by decide +kernel
theorem dX6_tapColumns_175 : decode cX6_tapColumns 175 = .ok (.return_, 1) := by decide +kernel
def FX6_tapColumns (G : GG) (M : DD) (a : Nat) (p0 : Int32) (p1 : Int32) (p2 : Option Nat) (p3 : Int32) (p4 : Int32) : Option (DD) :=
  bnd (itr (fun (s2 : Int32 × DD) => ((ltt ((p0 * p0)) fun x5 =>
  if x5 ≤ s2.1 then (some (.inr (s2.1, s2.2))) else
  (chk (¬ p0 = 0) <|
  ltt (s2.1 / p0) fun x7 =>
  ltt ((x7 * ((21 : Int32)))) fun x8 =>
  chk (¬ p0 = 0) <|
  ltt (s2.1 - s2.1 / p0 * p0) fun x9 =>
  ltt ((x8 + x9)) fun x10 =>
  ltt ((x10 + p1)) fun x11 =>
  dr G 13 ((M.2 a 3)) fun b12 =>
  chk (¬ (x11 < 0 ∨ G.2.2 b12 ≤ x11.toNatClampNeg)) <|
  ltt (s2.2.1 b12 x11.toNatClampNeg) fun x13 =>
  ltt ((x11 + ((21 : Int32)))) fun x14 =>
  chk (¬ (x14 < 0 ∨ G.2.2 b12 ≤ x14.toNatClampNeg)) <|
  ltt (s2.2.1 b12 x14.toNatClampNeg) fun x15 =>
  ltt ((((5 : Int32)) * x15)) fun x16 =>
  ltt ((x13 - x16)) fun x17 =>
  ltt ((x11 + ((42 : Int32)))) fun x18 =>
  chk (¬ (x18 < 0 ∨ G.2.2 b12 ≤ x18.toNatClampNeg)) <|
  ltt (s2.2.1 b12 x18.toNatClampNeg) fun x19 =>
  ltt ((((20 : Int32)) * x19)) fun x20 =>
  ltt ((x17 + x20)) fun x21 =>
  ltt ((x11 + ((63 : Int32)))) fun x22 =>
  chk (¬ (x22 < 0 ∨ G.2.2 b12 ≤ x22.toNatClampNeg)) <|
  ltt (s2.2.1 b12 x22.toNatClampNeg) fun x23 =>
  ltt ((((20 : Int32)) * x23)) fun x24 =>
  ltt ((x21 + x24)) fun x25 =>
  ltt ((x11 + ((84 : Int32)))) fun x26 =>
  chk (¬ (x26 < 0 ∨ G.2.2 b12 ≤ x26.toNatClampNeg)) <|
  ltt (s2.2.1 b12 x26.toNatClampNeg) fun x27 =>
  ltt ((((5 : Int32)) * x27)) fun x28 =>
  ltt ((x25 - x28)) fun x29 =>
  ltt ((x11 + ((105 : Int32)))) fun x30 =>
  chk (¬ (x30 < 0 ∨ G.2.2 b12 ≤ x30.toNatClampNeg)) <|
  ltt (s2.2.1 b12 x30.toNatClampNeg) fun x31 =>
  ltt ((x29 + x31)) fun x32 =>
  ltt ((x32 + ((16 : Int32)))) fun x33 =>
  ltt ((x33 >>> (((5 : Int32)) &&& 31))) fun x34 =>
  bnd (if ((0 : Int32)) ≤ x34 then (bnd (if x34 ≤ ((255 : Int32)) then (some (x34)) else
  (some ((255 : Int32)))) fun (y52 : Int32) =>
  some (y52)) else
  (some ((0 : Int32)))) fun (y35 : Int32) =>
  chk (¬ p0 = 0) <|
  ltt (s2.1 / p0) fun x36 =>
  ltt ((x36 * ((16 : Int32)))) fun x37 =>
  ltt ((p3 + x37)) fun x38 =>
  chk (¬ p0 = 0) <|
  ltt (s2.1 - s2.1 / p0 * p0) fun x39 =>
  ltt ((x38 + x39)) fun x40 =>
  bnd (if p4 = ((0 : Int32)) then (some (y35)) else
  (dr G 13 p2 fun b46 =>
  chk (¬ (x40 < 0 ∨ G.2.2 b46 ≤ x40.toNatClampNeg)) <|
  ltt (s2.2.1 b46 x40.toNatClampNeg) fun x47 =>
  ltt ((x47 + y35)) fun x48 =>
  ltt ((x48 + ((1 : Int32)))) fun x49 =>
  ltt ((x49 >>> (((1 : Int32)) &&& 31))) fun x50 =>
  some (x50))) fun (y41 : Int32) =>
  dr G 13 p2 fun b42 =>
  chk (¬ (x40 < 0 ∨ G.2.2 b42 ≤ x40.toNatClampNeg)) <|
  ltt (uI s2.2 b42 x40.toNatClampNeg y41) fun M43 =>
  ltt (s2.1 + (1 : Int32)) fun x44 =>
  some (.inl (x44, M43)))) : Option ((Int32 × DD) ⊕ (Int32 × DD)))) 1000000 ((0 : Int32), M)) fun (y1 : Int32 × DD) =>
  some y1.2
set_option maxHeartbeats 4000000 in
set_option maxRecDepth 100000 in
theorem kX6_tapColumns (l : Launch) (D : va_G) (ct : CT) (ad : Nat → Nat) (Z : Nat → Nat) (G : GG) (M : DD) (sz : Nat) (a : Nat) (p0 : Int32) (p1 : Int32) (p2 : Option Nat) (p3 : Int32) (p4 : Int32) (y : DD) (hc : a < G.1) (hk : G.2.1 a = 6) (hF : FX6_tapColumns G M a p0 p1 p2 p3 p4 = some y) : Met l yX6_tapColumns wuX6_tapColumns ({ frames := 0, cells := 0, slots := 0, locals := 0 }) (va_Pc [.ref (ad a), .int p0, .int p1, va_re ad p2, .int p3, .int p4] (kB D ct ad Z G M sz)) (va_Qv (fun (_ : Unit) => True) (fun _ t => kE D ct ad G (wA ad G sz) y t) (wA ad G sz)) 0 0 (wA ad G sz) := by
  refine Met.ofW (cc := cX6_tapColumns) (maxL := 11) (ret := none) (by decide) rfl ?_
  intro p e s m args below meth c s₁ B hml hv
  obtain ⟨rfl, hsz, hP, hK, hD0, hZ, hN⟩ := hv
  have hx := B.exec
  have hb := B.bytes
  have hr := B.returns
  have hts := atoms_spec (ws := wuX6_tapColumns) B.pre
  have hown : s.vm.findClass RX6 = some m.cls := findClass_of_methodNamed B.named
  have hlocks := B.notSynchronized
  subst hsz
  have hD := wD_self (sz := s.heap.size) hD0
  have hA9 : ∀ q, s.heap.size ≤ q → wA ad G s.heap.size q := fun q h => Or.inr h
  generalize hAe : wA ad G s.heap.size = A at hD hA9 hZ ⊢
  have hS : va_S A s.heap s.heap [] := va_S.rf
  have hl := lv_entry ([.ref (ad a), .int p0, .int p1, va_re ad p2, .int p3, .int p4]) (n := 11) (by cases p2 <;> exact Nat.le_of_ble_eq_true rfl)
  rw [lg_entry_eq]
  generalize (lg_sl ([.ref (ad a), .int p0, .int p1, va_re ad p2, .int p3, .int p4]) ++ List.replicate (11 - (lg_sl ([.ref (ad a), .int p0, .int p1, va_re ad p2, .int p3, .int p4])).length) Slot.unset).toArray = ls at hl ⊢
  have hl : lv_has ls 11 [(0, .ref (ad a)), (1, .int p0), (2, .int p1), (3, va_re ad p2), (4, .int p3), (5, .int p4)] := by have e9 : lv_args 0 [.ref (ad a), .int p0, .int p1, va_re ad p2, .int p3, .int p4] = [(0, .ref (ad a)), (1, .int p0), (2, .int p1), (3, va_re ad p2), (4, .int p3), (5, .int p4)] := (by cases p2 <;> rfl); rw [e9] at hl; exact hl
  unfold FX6_tapColumns at hF
  refine lv_aload_n hx hb dX6_tapColumns_0 rfl (lv_at hl 0 rfl) ?_
  refine va_get (D := D) (ci := 6) (v := va_re ad (M.2 a 3)) (C := RX6) (T := TX6) (N := 14) hx hb hts (mus hf_X6) hown hK hP a (wld_o ct ad G M hc hk (by decide)) rfl 3 (by decide) (hts (.fieldLink RX6 21 "VideoSuite$Samples" "window" "[I") (mu mw_538)) (fun _ h9 => h9) rfl dX6_tapColumns_1 ?_
  refine lv_astoreq (lv' := [(6, va_re ad (M.2 a 3)), (0, .ref (ad a)), (1, .int p0), (2, .int p1), (3, va_re ad p2), (4, .int p3), (5, .int p4)]) hx hb dX6_tapColumns_4 hl (by decide) rfl (fun ls hl => ?_)
  refine lv_iconst (v := (0 : Int32)) hx hb dX6_tapColumns_6 (by decide) ?_
  refine lv_istore (lv' := [(7, .int (0 : Int32)), (6, va_re ad (M.2 a 3)), (0, .ref (ad a)), (1, .int p0), (2, .int p1), (3, va_re ad p2), (4, .int p3), (5, .int p4)]) hx hb dX6_tapColumns_7 hl (by decide) (by generalize ((M.2 a 3)) = o9; cases o9 <;> rfl) (fun ls hl => ?_)
  obtain ⟨y1, hy1, hF⟩ := bnd_some hF
  have K1 : ∀ (H : Heap) (locs : List Loc) (ls : Array Slot), va_P D classes (wld ct ad G y1.2) H → va_D A (wld ct ad G y1.2) → va_S A s.heap H locs → lv_has ls 11 [(7, .int y1.1), (6, va_re ad (M.2 a 3)), (0, .ref (ad a)), (1, .int p0), (2, .int p1), (3, va_re ad p2), (4, .int p3), (5, .int p4)] → W p l e (headSpec wuX6_tapColumns ({ frames := 0, cells := 0, slots := 0, locals := 0 })).room s m ([.ref (ad a), .int p0, .int p1, va_re ad p2, .int p3, .int p4] : List Value).toArray below meth c H locs 0 0 (MQ below (va_Qv (fun (_ : Unit) => True) (fun _ t => kE D ct ad G A y t) A) ([.ref (ad a), .int p0, .int p1, va_re ad p2, .int p3, .int p4] : List Value).toArray s 0 0 A) (F0 m 175 ls []) := by
    intro H locs ls hP hD hS hl
    obtain rfl := Option.some.inj hF
    exact W.vret hx hb hr (fun t ht hW => ⟨⟨(), rfl, trivial, ⟨by rw [ht]; exact hP, va_K.moved hW.alike hK, hD⟩⟩, hS.F ht⟩) hS.2.2 dX6_tapColumns_175
  clear hF
  refine itr_rule (fun (s2 : Int32 × DD) => ∀ (H : Heap) (locs : List Loc) (ls : Array Slot), va_P D classes (wld ct ad G s2.2) H → va_D A (wld ct ad G s2.2) → va_S A s.heap H locs → lv_has ls 11 [(7, .int s2.1), (6, va_re ad (M.2 a 3)), (0, .ref (ad a)), (1, .int p0), (2, .int p1), (3, va_re ad p2), (4, .int p3), (5, .int p4)] → W p l e (headSpec wuX6_tapColumns ({ frames := 0, cells := 0, slots := 0, locals := 0 })).room s m ([.ref (ad a), .int p0, .int p1, va_re ad p2, .int p3, .int p4] : List Value).toArray below meth c H locs 0 0 (MQ below (va_Qv (fun (_ : Unit) => True) (fun _ t => kE D ct ad G A y t) A) ([.ref (ad a), .int p0, .int p1, va_re ad p2, .int p3, .int p4] : List Value).toArray s 0 0 A) (F0 m 9 ls [])) ?_ _ _ hy1 _ _ _ hP hD hS (lv_sub hl [0, 1, 2, 3, 4, 5, 6, 7] rfl)
  rintro s2 ⟨z4, hF, hwz4⟩ H locs ls hP hD hS hl
  try dsimp only at hF
  refine lv_iload hx hb dX6_tapColumns_9 (lv_at hl 0 rfl) ?_
  refine lv_iload_n hx hb dX6_tapColumns_11 rfl (lv_at hl 3 rfl) ?_
  refine lv_iload_n hx hb dX6_tapColumns_12 rfl (lv_at hl 3 rfl) ?_
  refine lv_imul hx hb dX6_tapColumns_13 ?_
  obtain ⟨x5, ex5, hF⟩ := ltt_some hF
  refine lv_topi (fun zx5 ezx5 => ?_)
  obtain rfl : x5 = zx5 := ex5.trans ezx5.symm
  refine lv_icmp_ge (tgt := 175) hx hb dX6_tapColumns_14 (by decide) (fun c6 => ?_) (fun c6 => ?_)
  · rw [if_pos c6] at hF
    obtain rfl := Option.some.inj hF
    subst hwz4
    exact K1 _ _ _ hP hD hS (lv_sub hl [0, 1, 2, 3, 4, 5, 6, 7] rfl)
  · rw [if_neg c6] at hF
    refine lv_iload hx hb dX6_tapColumns_17 (lv_at hl 0 rfl) ?_
    refine lv_iload_n hx hb dX6_tapColumns_19 rfl (lv_at hl 3 rfl) ?_
    obtain ⟨hne, hF⟩ := chk_some hF
    refine lv_idiv hx hb dX6_tapColumns_20 hne ?_
    obtain ⟨x7, ex7, hF⟩ := ltt_some hF
    refine lv_topi (fun zx7 ezx7 => ?_)
    obtain rfl : x7 = zx7 := ex7.trans ezx7.symm
    refine lv_bipush (v := (21 : Int32)) hx hb dX6_tapColumns_21 (by decide) ?_
    refine lv_imul hx hb dX6_tapColumns_23 ?_
    obtain ⟨x8, ex8, hF⟩ := ltt_some hF
    refine lv_topi (fun zx8 ezx8 => ?_)
    obtain rfl : x8 = zx8 := ex8.trans ezx8.symm
    refine lv_iload hx hb dX6_tapColumns_24 (lv_at hl 0 rfl) ?_
    refine lv_iload_n hx hb dX6_tapColumns_26 rfl (lv_at hl 3 rfl) ?_
    obtain ⟨hne, hF⟩ := chk_some hF
    refine lv_irem hx hb dX6_tapColumns_27 hne ?_
    obtain ⟨x9, ex9, hF⟩ := ltt_some hF
    refine lv_topi (fun zx9 ezx9 => ?_)
    obtain rfl : x9 = zx9 := ex9.trans ezx9.symm
    refine lv_iadd hx hb dX6_tapColumns_28 ?_
    obtain ⟨x10, ex10, hF⟩ := ltt_some hF
    refine lv_topi (fun zx10 ezx10 => ?_)
    obtain rfl : x10 = zx10 := ex10.trans ezx10.symm
    refine lv_iload_n hx hb dX6_tapColumns_29 rfl (lv_at hl 4 rfl) ?_
    refine lv_iadd hx hb dX6_tapColumns_30 ?_
    obtain ⟨x11, ex11, hF⟩ := ltt_some hF
    refine lv_topi (fun zx11 ezx11 => ?_)
    obtain rfl : x11 = zx11 := ex11.trans ezx11.symm
    refine lv_istore (lv' := [(8, .int x11), (7, .int s2.1), (6, va_re ad (M.2 a 3)), (0, .ref (ad a)), (1, .int p0), (2, .int p1), (3, va_re ad p2), (4, .int p3), (5, .int p4)]) hx hb dX6_tapColumns_31 hl (by decide) rfl (fun ls hl => ?_)
    refine lv_aloadq hx hb dX6_tapColumns_33 (lv_at hl 2 rfl) ?_
    refine lv_iload hx hb dX6_tapColumns_35 (lv_at hl 0 rfl) ?_
    obtain ⟨b12, ho12, hc12, hk12, hF⟩ := dr_some hF
    refine W_st (st' := [.int x11, .ref (ad b12)]) (by rw [va_some ho12]) ?_
    obtain ⟨hvc, hF⟩ := chk_some hF
    refine va_iald hx hb hK hP b12 1 (wld_i ct ad G s2.2 hc12 hk12) rfl hvc dX6_tapColumns_37 ?_
    obtain ⟨x13, ex13, hF⟩ := ltt_some hF
    refine lv_topi (fun zx13 ezx13 => ?_)
    obtain rfl : x13 = zx13 := ex13.trans ezx13.symm
    refine lv_iconst (v := (5 : Int32)) hx hb dX6_tapColumns_38 (by decide) ?_
    refine lv_aloadq hx hb dX6_tapColumns_39 (lv_at hl 2 rfl) ?_
    refine lv_iload hx hb dX6_tapColumns_41 (lv_at hl 0 rfl) ?_
    refine lv_bipush (v := (21 : Int32)) hx hb dX6_tapColumns_43 (by decide) ?_
    refine lv_iadd hx hb dX6_tapColumns_45 ?_
    obtain ⟨x14, ex14, hF⟩ := ltt_some hF
    refine lv_topi (fun zx14 ezx14 => ?_)
    obtain rfl : x14 = zx14 := ex14.trans ezx14.symm
    refine W_st (st' := [.int x14, .ref (ad b12), .int (5 : Int32), .int x13]) (by rw [va_some ho12]) ?_
    obtain ⟨hvc, hF⟩ := chk_some hF
    refine va_iald hx hb hK hP b12 1 (wld_i ct ad G s2.2 hc12 hk12) rfl hvc dX6_tapColumns_46 ?_
    obtain ⟨x15, ex15, hF⟩ := ltt_some hF
    refine lv_topi (fun zx15 ezx15 => ?_)
    obtain rfl : x15 = zx15 := ex15.trans ezx15.symm
    refine lv_imul hx hb dX6_tapColumns_47 ?_
    obtain ⟨x16, ex16, hF⟩ := ltt_some hF
    refine lv_topi (fun zx16 ezx16 => ?_)
    obtain rfl : x16 = zx16 := ex16.trans ezx16.symm
    refine lv_isub hx hb dX6_tapColumns_48 ?_
    obtain ⟨x17, ex17, hF⟩ := ltt_some hF
    refine lv_topi (fun zx17 ezx17 => ?_)
    obtain rfl : x17 = zx17 := ex17.trans ezx17.symm
    refine lv_bipush (v := (20 : Int32)) hx hb dX6_tapColumns_49 (by decide) ?_
    refine lv_aloadq hx hb dX6_tapColumns_51 (lv_at hl 2 rfl) ?_
    refine lv_iload hx hb dX6_tapColumns_53 (lv_at hl 0 rfl) ?_
    refine lv_bipush (v := (42 : Int32)) hx hb dX6_tapColumns_55 (by decide) ?_
    refine lv_iadd hx hb dX6_tapColumns_57 ?_
    obtain ⟨x18, ex18, hF⟩ := ltt_some hF
    refine lv_topi (fun zx18 ezx18 => ?_)
    obtain rfl : x18 = zx18 := ex18.trans ezx18.symm
    refine W_st (st' := [.int x18, .ref (ad b12), .int (20 : Int32), .int x17]) (by rw [va_some ho12]) ?_
    obtain ⟨hvc, hF⟩ := chk_some hF
    refine va_iald hx hb hK hP b12 1 (wld_i ct ad G s2.2 hc12 hk12) rfl hvc dX6_tapColumns_58 ?_
    obtain ⟨x19, ex19, hF⟩ := ltt_some hF
    refine lv_topi (fun zx19 ezx19 => ?_)
    obtain rfl : x19 = zx19 := ex19.trans ezx19.symm
    refine lv_imul hx hb dX6_tapColumns_59 ?_
    obtain ⟨x20, ex20, hF⟩ := ltt_some hF
    refine lv_topi (fun zx20 ezx20 => ?_)
    obtain rfl : x20 = zx20 := ex20.trans ezx20.symm
    refine lv_iadd hx hb dX6_tapColumns_60 ?_
    obtain ⟨x21, ex21, hF⟩ := ltt_some hF
    refine lv_topi (fun zx21 ezx21 => ?_)
    obtain rfl : x21 = zx21 := ex21.trans ezx21.symm
    refine lv_bipush (v := (20 : Int32)) hx hb dX6_tapColumns_61 (by decide) ?_
    refine lv_aloadq hx hb dX6_tapColumns_63 (lv_at hl 2 rfl) ?_
    refine lv_iload hx hb dX6_tapColumns_65 (lv_at hl 0 rfl) ?_
    refine lv_bipush (v := (63 : Int32)) hx hb dX6_tapColumns_67 (by decide) ?_
    refine lv_iadd hx hb dX6_tapColumns_69 ?_
    obtain ⟨x22, ex22, hF⟩ := ltt_some hF
    refine lv_topi (fun zx22 ezx22 => ?_)
    obtain rfl : x22 = zx22 := ex22.trans ezx22.symm
    refine W_st (st' := [.int x22, .ref (ad b12), .int (20 : Int32), .int x21]) (by rw [va_some ho12]) ?_
    obtain ⟨hvc, hF⟩ := chk_some hF
    refine va_iald hx hb hK hP b12 1 (wld_i ct ad G s2.2 hc12 hk12) rfl hvc dX6_tapColumns_70 ?_
    obtain ⟨x23, ex23, hF⟩ := ltt_some hF
    refine lv_topi (fun zx23 ezx23 => ?_)
    obtain rfl : x23 = zx23 := ex23.trans ezx23.symm
    refine lv_imul hx hb dX6_tapColumns_71 ?_
    obtain ⟨x24, ex24, hF⟩ := ltt_some hF
    refine lv_topi (fun zx24 ezx24 => ?_)
    obtain rfl : x24 = zx24 := ex24.trans ezx24.symm
    refine lv_iadd hx hb dX6_tapColumns_72 ?_
    obtain ⟨x25, ex25, hF⟩ := ltt_some hF
    refine lv_topi (fun zx25 ezx25 => ?_)
    obtain rfl : x25 = zx25 := ex25.trans ezx25.symm
    refine lv_iconst (v := (5 : Int32)) hx hb dX6_tapColumns_73 (by decide) ?_
    refine lv_aloadq hx hb dX6_tapColumns_74 (lv_at hl 2 rfl) ?_
    refine lv_iload hx hb dX6_tapColumns_76 (lv_at hl 0 rfl) ?_
    refine lv_bipush (v := (84 : Int32)) hx hb dX6_tapColumns_78 (by decide) ?_
    refine lv_iadd hx hb dX6_tapColumns_80 ?_
    obtain ⟨x26, ex26, hF⟩ := ltt_some hF
    refine lv_topi (fun zx26 ezx26 => ?_)
    obtain rfl : x26 = zx26 := ex26.trans ezx26.symm
    refine W_st (st' := [.int x26, .ref (ad b12), .int (5 : Int32), .int x25]) (by rw [va_some ho12]) ?_
    obtain ⟨hvc, hF⟩ := chk_some hF
    refine va_iald hx hb hK hP b12 1 (wld_i ct ad G s2.2 hc12 hk12) rfl hvc dX6_tapColumns_81 ?_
    obtain ⟨x27, ex27, hF⟩ := ltt_some hF
    refine lv_topi (fun zx27 ezx27 => ?_)
    obtain rfl : x27 = zx27 := ex27.trans ezx27.symm
    refine lv_imul hx hb dX6_tapColumns_82 ?_
    obtain ⟨x28, ex28, hF⟩ := ltt_some hF
    refine lv_topi (fun zx28 ezx28 => ?_)
    obtain rfl : x28 = zx28 := ex28.trans ezx28.symm
    refine lv_isub hx hb dX6_tapColumns_83 ?_
    obtain ⟨x29, ex29, hF⟩ := ltt_some hF
    refine lv_topi (fun zx29 ezx29 => ?_)
    obtain rfl : x29 = zx29 := ex29.trans ezx29.symm
    refine lv_aloadq hx hb dX6_tapColumns_84 (lv_at hl 2 rfl) ?_
    refine lv_iload hx hb dX6_tapColumns_86 (lv_at hl 0 rfl) ?_
    refine lv_bipush (v := (105 : Int32)) hx hb dX6_tapColumns_88 (by decide) ?_
    refine lv_iadd hx hb dX6_tapColumns_90 ?_
    obtain ⟨x30, ex30, hF⟩ := ltt_some hF
    refine lv_topi (fun zx30 ezx30 => ?_)
    obtain rfl : x30 = zx30 := ex30.trans ezx30.symm
    refine W_st (st' := [.int x30, .ref (ad b12), .int x29]) (by rw [va_some ho12]) ?_
    obtain ⟨hvc, hF⟩ := chk_some hF
    refine va_iald hx hb hK hP b12 1 (wld_i ct ad G s2.2 hc12 hk12) rfl hvc dX6_tapColumns_91 ?_
    obtain ⟨x31, ex31, hF⟩ := ltt_some hF
    refine lv_topi (fun zx31 ezx31 => ?_)
    obtain rfl : x31 = zx31 := ex31.trans ezx31.symm
    refine lv_iadd hx hb dX6_tapColumns_92 ?_
    obtain ⟨x32, ex32, hF⟩ := ltt_some hF
    refine lv_topi (fun zx32 ezx32 => ?_)
    obtain rfl : x32 = zx32 := ex32.trans ezx32.symm
    refine lv_bipush (v := (16 : Int32)) hx hb dX6_tapColumns_93 (by decide) ?_
    refine lv_iadd hx hb dX6_tapColumns_95 ?_
    obtain ⟨x33, ex33, hF⟩ := ltt_some hF
    refine lv_topi (fun zx33 ezx33 => ?_)
    obtain rfl : x33 = zx33 := ex33.trans ezx33.symm
    refine lv_iconst (v := (5 : Int32)) hx hb dX6_tapColumns_96 (by decide) ?_
    refine lv_ishr hx hb dX6_tapColumns_97 ?_
    obtain ⟨x34, ex34, hF⟩ := ltt_some hF
    refine lv_topi (fun zx34 ezx34 => ?_)
    obtain rfl : x34 = zx34 := ex34.trans ezx34.symm
    refine lv_istore (lv' := [(9, .int x34), (8, .int x11), (7, .int s2.1), (6, va_re ad (M.2 a 3)), (0, .ref (ad a)), (1, .int p0), (2, .int p1), (3, va_re ad p2), (4, .int p3), (5, .int p4)]) hx hb dX6_tapColumns_98 hl (by decide) rfl (fun ls hl => ?_)
    refine lv_iload hx hb dX6_tapColumns_100 (lv_at hl 0 rfl) ?_
    obtain ⟨y35, hy35, hF⟩ := bnd_some hF
    have J35 : ∀ (H : Heap) (locs : List Loc) (ls : Array Slot), va_P D classes (wld ct ad G s2.2) H → va_D A (wld ct ad G s2.2) → va_S A s.heap H locs → lv_has ls 11 [(9, .int x34), (8, .int x11), (7, .int s2.1), (6, va_re ad (M.2 a 3)), (0, .ref (ad a)), (1, .int p0), (2, .int p1), (3, va_re ad p2), (4, .int p3), (5, .int p4)] → W p l e (headSpec wuX6_tapColumns ({ frames := 0, cells := 0, slots := 0, locals := 0 })).room s m ([.ref (ad a), .int p0, .int p1, va_re ad p2, .int p3, .int p4] : List Value).toArray below meth c H locs 0 0 (MQ below (va_Qv (fun (_ : Unit) => True) (fun _ t => kE D ct ad G A y t) A) ([.ref (ad a), .int p0, .int p1, va_re ad p2, .int p3, .int p4] : List Value).toArray s 0 0 A) (F0 m 125 ls [.int y35]) := by
      intro H locs ls hP hD hS hl
      refine lv_istore (lv' := [(9, .int y35), (8, .int x11), (7, .int s2.1), (6, va_re ad (M.2 a 3)), (0, .ref (ad a)), (1, .int p0), (2, .int p1), (3, va_re ad p2), (4, .int p3), (5, .int p4)]) hx hb dX6_tapColumns_125 hl (by decide) rfl (fun ls hl => ?_)
      refine lv_iload hx hb dX6_tapColumns_127 (lv_at hl 8 rfl) ?_
      refine lv_iload hx hb dX6_tapColumns_129 (lv_at hl 2 rfl) ?_
      refine lv_iload_n hx hb dX6_tapColumns_131 rfl (lv_at hl 5 rfl) ?_
      obtain ⟨hne, hF⟩ := chk_some hF
      refine lv_idiv hx hb dX6_tapColumns_132 hne ?_
      obtain ⟨x36, ex36, hF⟩ := ltt_some hF
      refine lv_topi (fun zx36 ezx36 => ?_)
      obtain rfl : x36 = zx36 := ex36.trans ezx36.symm
      refine lv_bipush (v := (16 : Int32)) hx hb dX6_tapColumns_133 (by decide) ?_
      refine lv_imul hx hb dX6_tapColumns_135 ?_
      obtain ⟨x37, ex37, hF⟩ := ltt_some hF
      refine lv_topi (fun zx37 ezx37 => ?_)
      obtain rfl : x37 = zx37 := ex37.trans ezx37.symm
      refine lv_iadd hx hb dX6_tapColumns_136 ?_
      obtain ⟨x38, ex38, hF⟩ := ltt_some hF
      refine lv_topi (fun zx38 ezx38 => ?_)
      obtain rfl : x38 = zx38 := ex38.trans ezx38.symm
      refine lv_iload hx hb dX6_tapColumns_137 (lv_at hl 2 rfl) ?_
      refine lv_iload_n hx hb dX6_tapColumns_139 rfl (lv_at hl 5 rfl) ?_
      obtain ⟨hne, hF⟩ := chk_some hF
      refine lv_irem hx hb dX6_tapColumns_140 hne ?_
      obtain ⟨x39, ex39, hF⟩ := ltt_some hF
      refine lv_topi (fun zx39 ezx39 => ?_)
      obtain rfl : x39 = zx39 := ex39.trans ezx39.symm
      refine lv_iadd hx hb dX6_tapColumns_141 ?_
      obtain ⟨x40, ex40, hF⟩ := ltt_some hF
      refine lv_topi (fun zx40 ezx40 => ?_)
      obtain rfl : x40 = zx40 := ex40.trans ezx40.symm
      refine lv_istore (lv' := [(10, .int x40), (9, .int y35), (8, .int x11), (7, .int s2.1), (6, va_re ad (M.2 a 3)), (0, .ref (ad a)), (1, .int p0), (2, .int p1), (3, va_re ad p2), (4, .int p3), (5, .int p4)]) hx hb dX6_tapColumns_142 hl (by decide) rfl (fun ls hl => ?_)
      refine lv_aloadq_n hx hb dX6_tapColumns_144 rfl (lv_at hl 8 rfl) ?_
      refine lv_iload hx hb dX6_tapColumns_145 (lv_at hl 0 rfl) ?_
      refine lv_iload hx hb dX6_tapColumns_147 (lv_at hl 10 rfl) ?_
      obtain ⟨y41, hy41, hF⟩ := bnd_some hF
      have J41 : ∀ (H : Heap) (locs : List Loc) (ls : Array Slot), va_P D classes (wld ct ad G s2.2) H → va_D A (wld ct ad G s2.2) → va_S A s.heap H locs → lv_has ls 11 [(10, .int x40), (9, .int y35), (8, .int x11), (7, .int s2.1), (6, va_re ad (M.2 a 3)), (0, .ref (ad a)), (1, .int p0), (2, .int p1), (3, va_re ad p2), (4, .int p3), (5, .int p4)] → W p l e (headSpec wuX6_tapColumns ({ frames := 0, cells := 0, slots := 0, locals := 0 })).room s m ([.ref (ad a), .int p0, .int p1, va_re ad p2, .int p3, .int p4] : List Value).toArray below meth c H locs 0 0 (MQ below (va_Qv (fun (_ : Unit) => True) (fun _ t => kE D ct ad G A y t) A) ([.ref (ad a), .int p0, .int p1, va_re ad p2, .int p3, .int p4] : List Value).toArray s 0 0 A) (F0 m 168 ls [.int y41, .int x40, va_re ad p2]) := by
        intro H locs ls hP hD hS hl
        obtain ⟨b42, ho42, hc42, hk42, hF⟩ := dr_some hF
        refine W_st (st' := [.int y41, .int x40, .ref (ad b42)]) (by rw [va_some ho42]) ?_
        obtain ⟨hvc, hF⟩ := chk_some hF
        refine va_iast hx hb hK hP hD hS b42 1 (wld_i ct ad G s2.2 hc42 hk42) rfl hvc dX6_tapColumns_168 (fun H locs hP hD hS => ?_)
        obtain ⟨M43, eM43, hF⟩ := ltt_some hF
        rw [set_i ct ad G s2.2 hc42 hk42, ← eM43] at hP hD
        obtain ⟨x44, ex44, hF⟩ := ltt_some hF
        refine lv_iinc (v := x44) (lv' := [(7, .int x44), (10, .int x40), (9, .int y35), (8, .int x11), (6, va_re ad (M.2 a 3)), (0, .ref (ad a)), (1, .int p0), (2, .int p1), (3, va_re ad p2), (4, .int p3), (5, .int p4)]) hx hb dX6_tapColumns_169 hl (k := 3) rfl (by rw [ex44]; rfl) (by decide) (by generalize ((M.2 a 3)) = o9; cases o9 <;> rfl) (fun ls hl => ?_)
        refine lv_goto (tgt := 9) hx hb dX6_tapColumns_172 (by decide) ?_
        obtain rfl := Option.some.inj hF
        exact hwz4 _ _ _ hP hD hS (lv_sub hl [0, 4, 5, 6, 7, 8, 9, 10] rfl)
      clear hF
      have hF := hy41
      clear hy41
      refine lv_if_eq (tgt := 166) hx hb dX6_tapColumns_149 (by decide) (fun c45 => ?_) (fun c45 => ?_)
      · rw [if_pos c45] at hF
        refine lv_iload hx hb dX6_tapColumns_166 (lv_at hl 1 rfl) ?_
        obtain rfl := Option.some.inj hF
        exact J41 _ _ _ hP hD hS (lv_sub hl [0, 1, 2, 3, 4, 5, 6, 7, 8, 9, 10] rfl)
      · rw [if_neg c45] at hF
        refine lv_aloadq_n hx hb dX6_tapColumns_152 rfl (lv_at hl 8 rfl) ?_
        refine lv_iload hx hb dX6_tapColumns_153 (lv_at hl 0 rfl) ?_
        obtain ⟨b46, ho46, hc46, hk46, hF⟩ := dr_some hF
        refine W_st (st' := [.int x40, .ref (ad b46), .int x40, .ref (ad b46)]) (by rw [va_some ho46]) ?_
        obtain ⟨hvc, hF⟩ := chk_some hF
        refine va_iald hx hb hK hP b46 1 (wld_i ct ad G s2.2 hc46 hk46) rfl hvc dX6_tapColumns_155 ?_
        obtain ⟨x47, ex47, hF⟩ := ltt_some hF
        refine lv_topi (fun zx47 ezx47 => ?_)
        obtain rfl : x47 = zx47 := ex47.trans ezx47.symm
        refine lv_iload hx hb dX6_tapColumns_156 (lv_at hl 1 rfl) ?_
        refine lv_iadd hx hb dX6_tapColumns_158 ?_
        obtain ⟨x48, ex48, hF⟩ := ltt_some hF
        refine lv_topi (fun zx48 ezx48 => ?_)
        obtain rfl : x48 = zx48 := ex48.trans ezx48.symm
        refine lv_iconst (v := (1 : Int32)) hx hb dX6_tapColumns_159 (by decide) ?_
        refine lv_iadd hx hb dX6_tapColumns_160 ?_
        obtain ⟨x49, ex49, hF⟩ := ltt_some hF
        refine lv_topi (fun zx49 ezx49 => ?_)
        obtain rfl : x49 = zx49 := ex49.trans ezx49.symm
        refine lv_iconst (v := (1 : Int32)) hx hb dX6_tapColumns_161 (by decide) ?_
        refine lv_ishr hx hb dX6_tapColumns_162 ?_
        obtain ⟨x50, ex50, hF⟩ := ltt_some hF
        refine lv_topi (fun zx50 ezx50 => ?_)
        obtain rfl : x50 = zx50 := ex50.trans ezx50.symm
        refine lv_goto (tgt := 168) hx hb dX6_tapColumns_163 (by decide) ?_
        obtain rfl := Option.some.inj hF
        refine W_st (st' := [.int x50, .int x40, va_re ad p2]) (by rw [va_some ho46]) ?_
        exact J41 _ _ _ hP hD hS (lv_sub hl [0, 1, 2, 3, 4, 5, 6, 7, 8, 9, 10] rfl)
    clear hF
    have hF := hy35
    clear hy35
    refine lv_if_ge (tgt := 109) hx hb dX6_tapColumns_102 (by decide) (fun c51 => ?_) (fun c51 => ?_)
    · rw [if_pos c51] at hF
      refine lv_iload hx hb dX6_tapColumns_109 (lv_at hl 0 rfl) ?_
      refine lv_sipush (v := (255 : Int32)) hx hb dX6_tapColumns_111 (by decide) ?_
      obtain ⟨y52, hy52, hF⟩ := bnd_some hF
      have J52 : ∀ (H : Heap) (locs : List Loc) (ls : Array Slot), va_P D classes (wld ct ad G s2.2) H → va_D A (wld ct ad G s2.2) → va_S A s.heap H locs → lv_has ls 11 [(9, .int x34), (8, .int x11), (7, .int s2.1), (6, va_re ad (M.2 a 3)), (0, .ref (ad a)), (1, .int p0), (2, .int p1), (3, va_re ad p2), (4, .int p3), (5, .int p4)] → W p l e (headSpec wuX6_tapColumns ({ frames := 0, cells := 0, slots := 0, locals := 0 })).room s m ([.ref (ad a), .int p0, .int p1, va_re ad p2, .int p3, .int p4] : List Value).toArray below meth c H locs 0 0 (MQ below (va_Qv (fun (_ : Unit) => True) (fun _ t => kE D ct ad G A y t) A) ([.ref (ad a), .int p0, .int p1, va_re ad p2, .int p3, .int p4] : List Value).toArray s 0 0 A) (F0 m 125 ls [.int y52]) := by
        intro H locs ls hP hD hS hl
        obtain rfl := Option.some.inj hF
        exact J35 _ _ _ hP hD hS (lv_sub hl [0, 1, 2, 3, 4, 5, 6, 7, 8, 9] rfl)
      clear hF
      have hF := hy52
      clear hy52
      refine lv_icmp_le (tgt := 123) hx hb dX6_tapColumns_114 (by decide) (fun c53 => ?_) (fun c53 => ?_)
      · rw [if_pos c53] at hF
        refine lv_iload hx hb dX6_tapColumns_123 (lv_at hl 0 rfl) ?_
        obtain rfl := Option.some.inj hF
        exact J52 _ _ _ hP hD hS (lv_sub hl [0, 1, 2, 3, 4, 5, 6, 7, 8, 9] rfl)
      · rw [if_neg c53] at hF
        refine lv_sipush (v := (255 : Int32)) hx hb dX6_tapColumns_117 (by decide) ?_
        refine lv_goto (tgt := 125) hx hb dX6_tapColumns_120 (by decide) ?_
        obtain rfl := Option.some.inj hF
        exact J52 _ _ _ hP hD hS (lv_sub hl [0, 1, 2, 3, 4, 5, 6, 7, 8, 9] rfl)
    · rw [if_neg c51] at hF
      refine lv_iconst (v := (0 : Int32)) hx hb dX6_tapColumns_105 (by decide) ?_
      refine lv_goto (tgt := 125) hx hb dX6_tapColumns_106 (by decide) ?_
      obtain rfl := Option.some.inj hF
      exact J35 _ _ _ hP hD hS (lv_sub hl [0, 1, 2, 3, 4, 5, 6, 7, 8, 9] rfl)
theorem dX6_tapRows_0 : decode cX6_tapRows 0 = .ok (.aload_n 0, 1) := by decide +kernel
theorem dX6_tapRows_1 : decode cX6_tapRows 1 = .ok (.getfield 21, 3) := by decide +kernel
theorem dX6_tapRows_4 : decode cX6_tapRows 4 = .ok (.astore 6, 2) := by decide +kernel
theorem dX6_tapRows_6 : decode cX6_tapRows 6 = .ok (.iconst 0, 1) := by decide +kernel
theorem dX6_tapRows_7 : decode cX6_tapRows 7 = .ok (.istore 7, 2) := by decide +kernel
theorem dX6_tapRows_9 : decode cX6_tapRows 9 = .ok (.iload 7, 2) := by decide +kernel
theorem dX6_tapRows_11 : decode cX6_tapRows 11 = .ok (.iload_n 1, 1) := by decide +kernel
theorem dX6_tapRows_12 : decode cX6_tapRows 12 = .ok (.iload_n 1, 1) := by decide +kernel
theorem dX6_tapRows_13 : decode cX6_tapRows 13 = .ok (.imul, 1) := by decide +kernel
theorem dX6_tapRows_14 : decode cX6_tapRows 14 = .ok (.if_icmp .ge 156, 3) := by decide +kernel
theorem dX6_tapRows_17 : decode cX6_tapRows 17 = .ok (.iload 7, 2) := by decide +kernel
theorem dX6_tapRows_19 : decode cX6_tapRows 19 = .ok (.iload_n 1, 1) := by decide +kernel
theorem dX6_tapRows_20 : decode cX6_tapRows 20 = .ok (.idiv, 1) := by decide +kernel
theorem dX6_tapRows_21 : decode cX6_tapRows 21 = .ok (.iload_n 2, 1) := by decide +kernel
theorem dX6_tapRows_22 : decode cX6_tapRows 22 = .ok (.iadd, 1) := by decide +kernel
theorem dX6_tapRows_23 : decode cX6_tapRows 23 = .ok (.bipush 21, 2) := by decide +kernel
theorem dX6_tapRows_25 : decode cX6_tapRows 25 = .ok (.imul, 1) := by decide +kernel
theorem dX6_tapRows_26 : decode cX6_tapRows 26 = .ok (.iload 7, 2) := by decide +kernel
theorem dX6_tapRows_28 : decode cX6_tapRows 28 = .ok (.iload_n 1, 1) := by decide +kernel
theorem dX6_tapRows_29 : decode cX6_tapRows 29 = .ok (.irem, 1) := by decide +kernel
theorem dX6_tapRows_30 : decode cX6_tapRows 30 = .ok (.iadd, 1) := by decide +kernel
theorem dX6_tapRows_31 : decode cX6_tapRows 31 = .ok (.istore 8, 2) := by decide +kernel
theorem dX6_tapRows_33 : decode cX6_tapRows 33 = .ok (.aload 6, 2) := by decide +kernel
theorem dX6_tapRows_35 : decode cX6_tapRows 35 = .ok (.iload 8, 2) := by decide +kernel
theorem dX6_tapRows_37 : decode cX6_tapRows 37 = .ok (.iaload, 1) := by decide +kernel
theorem dX6_tapRows_38 : decode cX6_tapRows 38 = .ok (.iconst 5, 1) := by decide +kernel
theorem dX6_tapRows_39 : decode cX6_tapRows 39 = .ok (.aload 6, 2) := by decide +kernel
theorem dX6_tapRows_41 : decode cX6_tapRows 41 = .ok (.iload 8, 2) := by decide +kernel
theorem dX6_tapRows_43 : decode cX6_tapRows 43 = .ok (.iconst 1, 1) := by decide +kernel
theorem dX6_tapRows_44 : decode cX6_tapRows 44 = .ok (.iadd, 1) := by decide +kernel
theorem dX6_tapRows_45 : decode cX6_tapRows 45 = .ok (.iaload, 1) := by decide +kernel
theorem dX6_tapRows_46 : decode cX6_tapRows 46 = .ok (.imul, 1) := by decide +kernel
theorem dX6_tapRows_47 : decode cX6_tapRows 47 = .ok (.isub, 1) := by decide +kernel
theorem dX6_tapRows_48 : decode cX6_tapRows 48 = .ok (.bipush 20, 2) := by decide +kernel
theorem dX6_tapRows_50 : decode cX6_tapRows 50 = .ok (.aload 6, 2) := by decide +kernel
theorem dX6_tapRows_52 : decode cX6_tapRows 52 = .ok (.iload 8, 2) := by decide +kernel
theorem dX6_tapRows_54 : decode cX6_tapRows 54 = .ok (.iconst 2, 1) := by decide +kernel
theorem dX6_tapRows_55 : decode cX6_tapRows 55 = .ok (.iadd, 1) := by decide +kernel
theorem dX6_tapRows_56 : decode cX6_tapRows 56 = .ok (.iaload, 1) := by decide +kernel
theorem dX6_tapRows_57 : decode cX6_tapRows 57 = .ok (.imul, 1) := by decide +kernel
theorem dX6_tapRows_58 : decode cX6_tapRows 58 = .ok (.iadd, 1) := by decide +kernel
theorem dX6_tapRows_59 : decode cX6_tapRows 59 = .ok (.bipush 20, 2) := by decide +kernel
theorem dX6_tapRows_61 : decode cX6_tapRows 61 = .ok (.aload 6, 2) := by decide +kernel
theorem dX6_tapRows_63 : decode cX6_tapRows 63 = .ok (.iload 8, 2) := by decide +kernel
theorem dX6_tapRows_65 : decode cX6_tapRows 65 = .ok (.iconst 3, 1) := by decide +kernel
theorem dX6_tapRows_66 : decode cX6_tapRows 66 = .ok (.iadd, 1) := by decide +kernel
theorem dX6_tapRows_67 : decode cX6_tapRows 67 = .ok (.iaload, 1) := by decide +kernel
theorem dX6_tapRows_68 : decode cX6_tapRows 68 = .ok (.imul, 1) := by decide +kernel
theorem dX6_tapRows_69 : decode cX6_tapRows 69 = .ok (.iadd, 1) := by decide +kernel
theorem dX6_tapRows_70 : decode cX6_tapRows 70 = .ok (.iconst 5, 1) := by decide +kernel
theorem dX6_tapRows_71 : decode cX6_tapRows 71 = .ok (.aload 6, 2) := by decide +kernel
theorem dX6_tapRows_73 : decode cX6_tapRows 73 = .ok (.iload 8, 2) := by decide +kernel
theorem dX6_tapRows_75 : decode cX6_tapRows 75 = .ok (.iconst 4, 1) := by decide +kernel
theorem dX6_tapRows_76 : decode cX6_tapRows 76 = .ok (.iadd, 1) := by decide +kernel
theorem dX6_tapRows_77 : decode cX6_tapRows 77 = .ok (.iaload, 1) := by decide +kernel
theorem dX6_tapRows_78 : decode cX6_tapRows 78 = .ok (.imul, 1) := by decide +kernel
theorem dX6_tapRows_79 : decode cX6_tapRows 79 = .ok (.isub, 1) := by decide +kernel
theorem dX6_tapRows_80 : decode cX6_tapRows 80 = .ok (.aload 6, 2) := by decide +kernel
theorem dX6_tapRows_82 : decode cX6_tapRows 82 = .ok (.iload 8, 2) := by decide +kernel
theorem dX6_tapRows_84 : decode cX6_tapRows 84 = .ok (.iconst 5, 1) := by decide +kernel
theorem dX6_tapRows_85 : decode cX6_tapRows 85 = .ok (.iadd, 1) := by decide +kernel
theorem dX6_tapRows_86 : decode cX6_tapRows 86 = .ok (.iaload, 1) := by decide +kernel
theorem dX6_tapRows_87 : decode cX6_tapRows 87 = .ok (.iadd, 1) := by decide +kernel
theorem dX6_tapRows_88 : decode cX6_tapRows 88 = .ok (.bipush 16, 2) := by decide +kernel
theorem dX6_tapRows_90 : decode cX6_tapRows 90 = .ok (.iadd, 1) := by decide +kernel
theorem dX6_tapRows_91 : decode cX6_tapRows 91 = .ok (.iconst 5, 1) := by decide +kernel
theorem dX6_tapRows_92 : decode cX6_tapRows 92 = .ok (.ishr, 1) := by decide +kernel
theorem dX6_tapRows_93 : decode cX6_tapRows 93 = .ok (.istore 9, 2) := by decide +kernel
theorem dX6_tapRows_95 : decode cX6_tapRows 95 = .ok (.iload 9, 2) := by decide +kernel
theorem dX6_tapRows_97 : decode cX6_tapRows 97 = .ok (.ifCond .ge 7, 3) := by decide +kernel
theorem dX6_tapRows_100 : decode cX6_tapRows 100 = .ok (.iconst 0, 1) := by decide +kernel
theorem dX6_tapRows_101 : decode cX6_tapRows 101 = .ok (.goto 19, 3) := by decide +kernel
theorem dX6_tapRows_104 : decode cX6_tapRows 104 = .ok (.iload 9, 2) := by decide +kernel
theorem dX6_tapRows_106 : decode cX6_tapRows 106 = .ok (.sipush 255, 3) := by decide +kernel
theorem dX6_tapRows_109 : decode cX6_tapRows 109 = .ok (.if_icmp .le 9, 3) := by decide +kernel
theorem dX6_tapRows_112 : decode cX6_tapRows 112 = .ok (.sipush 255, 3) := by decide +kernel
theorem dX6_tapRows_115 : decode cX6_tapRows 115 = .ok (.goto 5, 3) := by decide +kernel
theorem dX6_tapRows_118 : decode cX6_tapRows 118 = .ok (.iload 9, 2) := by decide +kernel
theorem dX6_tapRows_120 : decode cX6_tapRows 120 = .ok (.istore 9, 2) := by decide +kernel
theorem dX6_tapRows_122 : decode cX6_tapRows 122 = .ok (.iload 4, 2) := by decide +kernel
theorem dX6_tapRows_124 : decode cX6_tapRows 124 = .ok (.iload 7, 2) := by decide +kernel
theorem dX6_tapRows_126 : decode cX6_tapRows 126 = .ok (.iload_n 1, 1) := by decide +kernel
theorem dX6_tapRows_127 : decode cX6_tapRows 127 = .ok (.idiv, 1) := by decide +kernel
theorem dX6_tapRows_128 : decode cX6_tapRows 128 = .ok (.bipush 16, 2) := by decide +kernel
theorem dX6_tapRows_130 : decode cX6_tapRows 130 = .ok (.imul, 1) := by decide +kernel
theorem dX6_tapRows_131 : decode cX6_tapRows 131 = .ok (.iadd, 1) := by decide +kernel
theorem dX6_tapRows_132 : decode cX6_tapRows 132 = .ok (.iload 7, 2) := by decide +kernel
theorem dX6_tapRows_134 : decode cX6_tapRows 134 = .ok (.iload_n 1, 1) := by decide +kernel
theorem dX6_tapRows_135 : decode cX6_tapRows 135 = .ok (.irem, 1) := by decide +kernel
theorem dX6_tapRows_136 : decode cX6_tapRows 136 = .ok (.iadd, 1) := by decide +kernel
theorem dX6_tapRows_137 : decode cX6_tapRows 137 = .ok (.istore 10, 2) := by decide +kernel
theorem dX6_tapRows_139 : decode cX6_tapRows 139 = .ok (.aload_n 3, 1) := by decide +kernel
theorem dX6_tapRows_140 : decode cX6_tapRows 140 = .ok (.iload 10, 2) := by decide +kernel
theorem dX6_tapRows_142 : decode cX6_tapRows 142 = .ok (.iload 5, 2) := by decide +kernel
theorem dX6_tapRows_144 : decode cX6_tapRows 144 = .ok (.ifCond .eq 17, 3) := by decide +kernel
theorem dX6_tapRows_147 : decode cX6_tapRows 147 = .ok (.aload_n 3, 1) := by decide +kernel
theorem dX6_tapRows_148 : decode cX6_tapRows 148 = .ok (.iload 10, 2) := by decide +kernel
theorem dX6_tapRows_150 : decode cX6_tapRows 150 = .ok (.iaload, 1) := by decide +kernel
theorem dX6_tapRows_151 : decode cX6_tapRows 151 = .ok (.iload 9, 2) := by decide +kernel
theorem dX6_tapRows_153 : decode cX6_tapRows 153 = .ok (.iadd, 1) := by decide +kernel
theorem dX6_tapRows_154 : decode cX6_tapRows 154 = .ok (.iconst 1, 1) := by decide +kernel
theorem dX6_tapRows_155 : decode cX6_tapRows 155 = .ok (.iadd, 1) := by decide +kernel
theorem dX6_tapRows_156 : decode cX6_tapRows 156 = .ok (.iconst 1, 1) := by decide +kernel
theorem dX6_tapRows_157 : decode cX6_tapRows 157 = .ok (.ishr, 1) := by decide +kernel
theorem dX6_tapRows_158 : decode cX6_tapRows 158 = .ok (.goto 5, 3) := by decide +kernel
theorem dX6_tapRows_161 : decode cX6_tapRows 161 = .ok (.iload 9, 2) := by decide +kernel
theorem dX6_tapRows_163 : decode cX6_tapRows 163 = .ok (.iastore, 1) := by decide +kernel
theorem dX6_tapRows_164 : decode cX6_tapRows 164 = .ok (.iinc 7 1, 3) := by decide +kernel
theorem dX6_tapRows_167 : decode cX6_tapRows 167 = .ok (.goto (-158), 3) := by decide +kernel
theorem dX6_tapRows_170 : decode cX6_tapRows 170 = .ok (.return_, 1) := by decide +kernel
def FX6_tapRows (G : GG) (M : DD) (a : Nat) (p0 : Int32) (p1 : Int32) (p2 : Option Nat) (p3 : Int32) (p4 : Int32) : Option (DD) :=
  bnd (itr (fun (s2 : Int32 × DD) => ((ltt ((p0 * p0)) fun x5 =>
  if x5 ≤ s2.1 then (some (.inr (s2.1, s2.2))) else
  (chk (¬ p0 = 0) <|
  ltt (s2.1 / p0) fun x7 =>
  ltt ((x7 + p1)) fun x8 =>
  ltt ((x8 * ((21 : Int32)))) fun x9 =>
  chk (¬ p0 = 0) <|
  ltt (s2.1 - s2.1 / p0 * p0) fun x10 =>
  ltt ((x9 + x10)) fun x11 =>
  dr G 13 ((M.2 a 3)) fun b12 =>
  chk (¬ (x11 < 0 ∨ G.2.2 b12 ≤ x11.toNatClampNeg)) <|
  ltt (s2.2.1 b12 x11.toNatClampNeg) fun x13 =>
  ltt ((x11 + ((1 : Int32)))) fun x14 =>
  chk (¬ (x14 < 0 ∨ G.2.2 b12 ≤ x14.toNatClampNeg)) <|
  ltt (s2.2.1 b12 x14.toNatClampNeg) fun x15 =>
  ltt ((((5 : Int32)) * x15)) fun x16 =>
  ltt ((x13 - x16)) fun x17 =>
  ltt ((x11 + ((2 : Int32)))) fun x18 =>
  chk (¬ (x18 < 0 ∨ G.2.2 b12 ≤ x18.toNatClampNeg)) <|
  ltt (s2.2.1 b12 x18.toNatClampNeg) fun x19 =>
  ltt ((((20 : Int32)) * x19)) fun x20 =>
  ltt ((x17 + x20)) fun x21 =>
  ltt ((x11 + ((3 : Int32)))) fun x22 =>
  chk (¬ (x22 < 0 ∨ G.2.2 b12 ≤ x22.toNatClampNeg)) <|
  ltt (s2.2.1 b12 x22.toNatClampNeg) fun x23 =>
  ltt ((((20 : Int32)) * x23)) fun x24 =>
  ltt ((x21 + x24)) fun x25 =>
  ltt ((x11 + ((4 : Int32)))) fun x26 =>
  chk (¬ (x26 < 0 ∨ G.2.2 b12 ≤ x26.toNatClampNeg)) <|
  ltt (s2.2.1 b12 x26.toNatClampNeg) fun x27 =>
  ltt ((((5 : Int32)) * x27)) fun x28 =>
  ltt ((x25 - x28)) fun x29 =>
  ltt ((x11 + ((5 : Int32)))) fun x30 =>
  chk (¬ (x30 < 0 ∨ G.2.2 b12 ≤ x30.toNatClampNeg)) <|
  ltt (s2.2.1 b12 x30.toNatClampNeg) fun x31 =>
  ltt ((x29 + x31)) fun x32 =>
  ltt ((x32 + ((16 : Int32)))) fun x33 =>
  ltt ((x33 >>> (((5 : Int32)) &&& 31))) fun x34 =>
  bnd (if ((0 : Int32)) ≤ x34 then (bnd (if x34 ≤ ((255 : Int32)) then (some (x34)) else
  (some ((255 : Int32)))) fun (y52 : Int32) =>
  some (y52)) else
  (some ((0 : Int32)))) fun (y35 : Int32) =>
  chk (¬ p0 = 0) <|
  ltt (s2.1 / p0) fun x36 =>
  ltt ((x36 * ((16 : Int32)))) fun x37 =>
  ltt ((p3 + x37)) fun x38 =>
  chk (¬ p0 = 0) <|
  ltt (s2.1 - s2.1 / p0 * p0) fun x39 =>
  ltt ((x38 + x39)) fun x40 =>
  bnd (if p4 = ((0 : Int32)) then (some (y35)) else
  (dr G 13 p2 fun b46 =>
  chk (¬ (x40 < 0 ∨ G.2.2 b46 ≤ x40.toNatClampNeg)) <|
  ltt (s2.2.1 b46 x40.toNatClampNeg) fun x47 =>
  ltt ((x47 + y35)) fun x48 =>
  ltt ((x48 + ((1 : Int32)))) fun x49 =>
  ltt ((x49 >>> (((1 : Int32)) &&& 31))) fun x50 =>
  some (x50))) fun (y41 : Int32) =>
  dr G 13 p2 fun b42 =>
  chk (¬ (x40 < 0 ∨ G.2.2 b42 ≤ x40.toNatClampNeg)) <|
  ltt (uI s2.2 b42 x40.toNatClampNeg y41) fun M43 =>
  ltt (s2.1 + (1 : Int32)) fun x44 =>
  some (.inl (x44, M43)))) : Option ((Int32 × DD) ⊕ (Int32 × DD)))) 1000000 ((0 : Int32), M)) fun (y1 : Int32 × DD) =>
  some y1.2
set_option maxHeartbeats 4000000 in
set_option maxRecDepth 100000 in
theorem kX6_tapRows (l : Launch) (D : va_G) (ct : CT) (ad : Nat → Nat) (Z : Nat → Nat) (G : GG) (M : DD) (sz : Nat) (a : Nat) (p0 : Int32) (p1 : Int32) (p2 : Option Nat) (p3 : Int32) (p4 : Int32) (y : DD) (hc : a < G.1) (hk : G.2.1 a = 6) (hF : FX6_tapRows G M a p0 p1 p2 p3 p4 = some y) : Met l yX6_tapRows wuX6_tapRows ({ frames := 0, cells := 0, slots := 0, locals := 0 }) (va_Pc [.ref (ad a), .int p0, .int p1, va_re ad p2, .int p3, .int p4] (kB D ct ad Z G M sz)) (va_Qv (fun (_ : Unit) => True) (fun _ t => kE D ct ad G (wA ad G sz) y t) (wA ad G sz)) 0 0 (wA ad G sz) := by
  refine Met.ofW (cc := cX6_tapRows) (maxL := 11) (ret := none) (by decide) rfl ?_
  intro p e s m args below meth c s₁ B hml hv
  obtain ⟨rfl, hsz, hP, hK, hD0, hZ, hN⟩ := hv
  have hx := B.exec
  have hb := B.bytes
  have hr := B.returns
  have hts := atoms_spec (ws := wuX6_tapRows) B.pre
  have hown : s.vm.findClass RX6 = some m.cls := findClass_of_methodNamed B.named
  have hlocks := B.notSynchronized
  subst hsz
  have hD := wD_self (sz := s.heap.size) hD0
  have hA9 : ∀ q, s.heap.size ≤ q → wA ad G s.heap.size q := fun q h => Or.inr h
  generalize hAe : wA ad G s.heap.size = A at hD hA9 hZ ⊢
  have hS : va_S A s.heap s.heap [] := va_S.rf
  have hl := lv_entry ([.ref (ad a), .int p0, .int p1, va_re ad p2, .int p3, .int p4]) (n := 11) (by cases p2 <;> exact Nat.le_of_ble_eq_true rfl)
  rw [lg_entry_eq]
  generalize (lg_sl ([.ref (ad a), .int p0, .int p1, va_re ad p2, .int p3, .int p4]) ++ List.replicate (11 - (lg_sl ([.ref (ad a), .int p0, .int p1, va_re ad p2, .int p3, .int p4])).length) Slot.unset).toArray = ls at hl ⊢
  have hl : lv_has ls 11 [(0, .ref (ad a)), (1, .int p0), (2, .int p1), (3, va_re ad p2), (4, .int p3), (5, .int p4)] := by have e9 : lv_args 0 [.ref (ad a), .int p0, .int p1, va_re ad p2, .int p3, .int p4] = [(0, .ref (ad a)), (1, .int p0), (2, .int p1), (3, va_re ad p2), (4, .int p3), (5, .int p4)] := (by cases p2 <;> rfl); rw [e9] at hl; exact hl
  unfold FX6_tapRows at hF
  refine lv_aload_n hx hb dX6_tapRows_0 rfl (lv_at hl 0 rfl) ?_
  refine va_get (D := D) (ci := 6) (v := va_re ad (M.2 a 3)) (C := RX6) (T := TX6) (N := 14) hx hb hts (mus hf_X6) hown hK hP a (wld_o ct ad G M hc hk (by decide)) rfl 3 (by decide) (hts (.fieldLink RX6 21 "VideoSuite$Samples" "window" "[I") (mu mw_538)) (fun _ h9 => h9) rfl dX6_tapRows_1 ?_
  refine lv_astoreq (lv' := [(6, va_re ad (M.2 a 3)), (0, .ref (ad a)), (1, .int p0), (2, .int p1), (3, va_re ad p2), (4, .int p3), (5, .int p4)]) hx hb dX6_tapRows_4 hl (by decide) rfl (fun ls hl => ?_)
  refine lv_iconst (v := (0 : Int32)) hx hb dX6_tapRows_6 (by decide) ?_
  refine lv_istore (lv' := [(7, .int (0 : Int32)), (6, va_re ad (M.2 a 3)), (0, .ref (ad a)), (1, .int p0), (2, .int p1), (3, va_re ad p2), (4, .int p3), (5, .int p4)]) hx hb dX6_tapRows_7 hl (by decide) (by generalize ((M.2 a 3)) = o9; cases o9 <;> rfl) (fun ls hl => ?_)
  obtain ⟨y1, hy1, hF⟩ := bnd_some hF
  have K1 : ∀ (H : Heap) (locs : List Loc) (ls : Array Slot), va_P D classes (wld ct ad G y1.2) H → va_D A (wld ct ad G y1.2) → va_S A s.heap H locs → lv_has ls 11 [(7, .int y1.1), (6, va_re ad (M.2 a 3)), (0, .ref (ad a)), (1, .int p0), (2, .int p1), (3, va_re ad p2), (4, .int p3), (5, .int p4)] → W p l e (headSpec wuX6_tapRows ({ frames := 0, cells := 0, slots := 0, locals := 0 })).room s m ([.ref (ad a), .int p0, .int p1, va_re ad p2, .int p3, .int p4] : List Value).toArray below meth c H locs 0 0 (MQ below (va_Qv (fun (_ : Unit) => True) (fun _ t => kE D ct ad G A y t) A) ([.ref (ad a), .int p0, .int p1, va_re ad p2, .int p3, .int p4] : List Value).toArray s 0 0 A) (F0 m 170 ls []) := by
    intro H locs ls hP hD hS hl
    obtain rfl := Option.some.inj hF
    exact W.vret hx hb hr (fun t ht hW => ⟨⟨(), rfl, trivial, ⟨by rw [ht]; exact hP, va_K.moved hW.alike hK, hD⟩⟩, hS.F ht⟩) hS.2.2 dX6_tapRows_170
  clear hF
  refine itr_rule (fun (s2 : Int32 × DD) => ∀ (H : Heap) (locs : List Loc) (ls : Array Slot), va_P D classes (wld ct ad G s2.2) H → va_D A (wld ct ad G s2.2) → va_S A s.heap H locs → lv_has ls 11 [(7, .int s2.1), (6, va_re ad (M.2 a 3)), (0, .ref (ad a)), (1, .int p0), (2, .int p1), (3, va_re ad p2), (4, .int p3), (5, .int p4)] → W p l e (headSpec wuX6_tapRows ({ frames := 0, cells := 0, slots := 0, locals := 0 })).room s m ([.ref (ad a), .int p0, .int p1, va_re ad p2, .int p3, .int p4] : List Value).toArray below meth c H locs 0 0 (MQ below (va_Qv (fun (_ : Unit) => True) (fun _ t => kE D ct ad G A y t) A) ([.ref (ad a), .int p0, .int p1, va_re ad p2, .int p3, .int p4] : List Value).toArray s 0 0 A) (F0 m 9 ls [])) ?_ _ _ hy1 _ _ _ hP hD hS (lv_sub hl [0, 1, 2, 3, 4, 5, 6, 7] rfl)
  rintro s2 ⟨z4, hF, hwz4⟩ H locs ls hP hD hS hl
  try dsimp only at hF
  refine lv_iload hx hb dX6_tapRows_9 (lv_at hl 0 rfl) ?_
  refine lv_iload_n hx hb dX6_tapRows_11 rfl (lv_at hl 3 rfl) ?_
  refine lv_iload_n hx hb dX6_tapRows_12 rfl (lv_at hl 3 rfl) ?_
  refine lv_imul hx hb dX6_tapRows_13 ?_
  obtain ⟨x5, ex5, hF⟩ := ltt_some hF
  refine lv_topi (fun zx5 ezx5 => ?_)
  obtain rfl : x5 = zx5 := ex5.trans ezx5.symm
  refine lv_icmp_ge (tgt := 170) hx hb dX6_tapRows_14 (by decide) (fun c6 => ?_) (fun c6 => ?_)
  · rw [if_pos c6] at hF
    obtain rfl := Option.some.inj hF
    subst hwz4
    exact K1 _ _ _ hP hD hS (lv_sub hl [0, 1, 2, 3, 4, 5, 6, 7] rfl)
  · rw [if_neg c6] at hF
    refine lv_iload hx hb dX6_tapRows_17 (lv_at hl 0 rfl) ?_
    refine lv_iload_n hx hb dX6_tapRows_19 rfl (lv_at hl 3 rfl) ?_
    obtain ⟨hne, hF⟩ := chk_some hF
    refine lv_idiv hx hb dX6_tapRows_20 hne ?_
    obtain ⟨x7, ex7, hF⟩ := ltt_some hF
    refine lv_topi (fun zx7 ezx7 => ?_)
    obtain rfl : x7 = zx7 := ex7.trans ezx7.symm
    refine lv_iload_n hx hb dX6_tapRows_21 rfl (lv_at hl 4 rfl) ?_
    refine lv_iadd hx hb dX6_tapRows_22 ?_
    obtain ⟨x8, ex8, hF⟩ := ltt_some hF
    refine lv_topi (fun zx8 ezx8 => ?_)
    obtain rfl : x8 = zx8 := ex8.trans ezx8.symm
    refine lv_bipush (v := (21 : Int32)) hx hb dX6_tapRows_23 (by decide) ?_
    refine lv_imul hx hb dX6_tapRows_25 ?_
    obtain ⟨x9, ex9, hF⟩ := ltt_some hF
    refine lv_topi (fun zx9 ezx9 => ?_)
    obtain rfl : x9 = zx9 := ex9.trans ezx9.symm
    refine lv_iload hx hb dX6_tapRows_26 (lv_at hl 0 rfl) ?_
    refine lv_iload_n hx hb dX6_tapRows_28 rfl (lv_at hl 3 rfl) ?_
    obtain ⟨hne, hF⟩ := chk_some hF
    refine lv_irem hx hb dX6_tapRows_29 hne ?_
    obtain ⟨x10, ex10, hF⟩ := ltt_some hF
    refine lv_topi (fun zx10 ezx10 => ?_)
    obtain rfl : x10 = zx10 := ex10.trans ezx10.symm
    refine lv_iadd hx hb dX6_tapRows_30 ?_
    obtain ⟨x11, ex11, hF⟩ := ltt_some hF
    refine lv_topi (fun zx11 ezx11 => ?_)
    obtain rfl : x11 = zx11 := ex11.trans ezx11.symm
    refine lv_istore (lv' := [(8, .int x11), (7, .int s2.1), (6, va_re ad (M.2 a 3)), (0, .ref (ad a)), (1, .int p0), (2, .int p1), (3, va_re ad p2), (4, .int p3), (5, .int p4)]) hx hb dX6_tapRows_31 hl (by decide) rfl (fun ls hl => ?_)
    refine lv_aloadq hx hb dX6_tapRows_33 (lv_at hl 2 rfl) ?_
    refine lv_iload hx hb dX6_tapRows_35 (lv_at hl 0 rfl) ?_
    obtain ⟨b12, ho12, hc12, hk12, hF⟩ := dr_some hF
    refine W_st (st' := [.int x11, .ref (ad b12)]) (by rw [va_some ho12]) ?_
    obtain ⟨hvc, hF⟩ := chk_some hF
    refine va_iald hx hb hK hP b12 1 (wld_i ct ad G s2.2 hc12 hk12) rfl hvc dX6_tapRows_37 ?_
    obtain ⟨x13, ex13, hF⟩ := ltt_some hF
    refine lv_topi (fun zx13 ezx13 => ?_)
    obtain rfl : x13 = zx13 := ex13.trans ezx13.symm
    refine lv_iconst (v := (5 : Int32)) hx hb dX6_tapRows_38 (by decide) ?_
    refine lv_aloadq hx hb dX6_tapRows_39 (lv_at hl 2 rfl) ?_
    refine lv_iload hx hb dX6_tapRows_41 (lv_at hl 0 rfl) ?_
    refine lv_iconst (v := (1 : Int32)) hx hb dX6_tapRows_43 (by decide) ?_
    refine lv_iadd hx hb dX6_tapRows_44 ?_
    obtain ⟨x14, ex14, hF⟩ := ltt_some hF
    refine lv_topi (fun zx14 ezx14 => ?_)
    obtain rfl : x14 = zx14 := ex14.trans ezx14.symm
    refine W_st (st' := [.int x14, .ref (ad b12), .int (5 : Int32), .int x13]) (by rw [va_some ho12]) ?_
    obtain ⟨hvc, hF⟩ := chk_some hF
    refine va_iald hx hb hK hP b12 1 (wld_i ct ad G s2.2 hc12 hk12) rfl hvc dX6_tapRows_45 ?_
    obtain ⟨x15, ex15, hF⟩ := ltt_some hF
    refine lv_topi (fun zx15 ezx15 => ?_)
    obtain rfl : x15 = zx15 := ex15.trans ezx15.symm
    refine lv_imul hx hb dX6_tapRows_46 ?_
    obtain ⟨x16, ex16, hF⟩ := ltt_some hF
    refine lv_topi (fun zx16 ezx16 => ?_)
    obtain rfl : x16 = zx16 := ex16.trans ezx16.symm
    refine lv_isub hx hb dX6_tapRows_47 ?_
    obtain ⟨x17, ex17, hF⟩ := ltt_some hF
    refine lv_topi (fun zx17 ezx17 => ?_)
    obtain rfl : x17 = zx17 := ex17.trans ezx17.symm
    refine lv_bipush (v := (20 : Int32)) hx hb dX6_tapRows_48 (by decide) ?_
    refine lv_aloadq hx hb dX6_tapRows_50 (lv_at hl 2 rfl) ?_
    refine lv_iload hx hb dX6_tapRows_52 (lv_at hl 0 rfl) ?_
    refine lv_iconst (v := (2 : Int32)) hx hb dX6_tapRows_54 (by decide) ?_
    refine lv_iadd hx hb dX6_tapRows_55 ?_
    obtain ⟨x18, ex18, hF⟩ := ltt_some hF
    refine lv_topi (fun zx18 ezx18 => ?_)
    obtain rfl : x18 = zx18 := ex18.trans ezx18.symm
    refine W_st (st' := [.int x18, .ref (ad b12), .int (20 : Int32), .int x17]) (by rw [va_some ho12]) ?_
    obtain ⟨hvc, hF⟩ := chk_some hF
    refine va_iald hx hb hK hP b12 1 (wld_i ct ad G s2.2 hc12 hk12) rfl hvc dX6_tapRows_56 ?_
    obtain ⟨x19, ex19, hF⟩ := ltt_some hF
    refine lv_topi (fun zx19 ezx19 => ?_)
    obtain rfl : x19 = zx19 := ex19.trans ezx19.symm
    refine lv_imul hx hb dX6_tapRows_57 ?_
    obtain ⟨x20, ex20, hF⟩ := ltt_some hF
    refine lv_topi (fun zx20 ezx20 => ?_)
    obtain rfl : x20 = zx20 := ex20.trans ezx20.symm
    refine lv_iadd hx hb dX6_tapRows_58 ?_
    obtain ⟨x21, ex21, hF⟩ := ltt_some hF
    refine lv_topi (fun zx21 ezx21 => ?_)
    obtain rfl : x21 = zx21 := ex21.trans ezx21.symm
    refine lv_bipush (v := (20 : Int32)) hx hb dX6_tapRows_59 (by decide) ?_
    refine lv_aloadq hx hb dX6_tapRows_61 (lv_at hl 2 rfl) ?_
    refine lv_iload hx hb dX6_tapRows_63 (lv_at hl 0 rfl) ?_
    refine lv_iconst (v := (3 : Int32)) hx hb dX6_tapRows_65 (by decide) ?_
    refine lv_iadd hx hb dX6_tapRows_66 ?_
    obtain ⟨x22, ex22, hF⟩ := ltt_some hF
    refine lv_topi (fun zx22 ezx22 => ?_)
    obtain rfl : x22 = zx22 := ex22.trans ezx22.symm
    refine W_st (st' := [.int x22, .ref (ad b12), .int (20 : Int32), .int x21]) (by rw [va_some ho12]) ?_
    obtain ⟨hvc, hF⟩ := chk_some hF
    refine va_iald hx hb hK hP b12 1 (wld_i ct ad G s2.2 hc12 hk12) rfl hvc dX6_tapRows_67 ?_
    obtain ⟨x23, ex23, hF⟩ := ltt_some hF
    refine lv_topi (fun zx23 ezx23 => ?_)
    obtain rfl : x23 = zx23 := ex23.trans ezx23.symm
    refine lv_imul hx hb dX6_tapRows_68 ?_
    obtain ⟨x24, ex24, hF⟩ := ltt_some hF
    refine lv_topi (fun zx24 ezx24 => ?_)
    obtain rfl : x24 = zx24 := ex24.trans ezx24.symm
    refine lv_iadd hx hb dX6_tapRows_69 ?_
    obtain ⟨x25, ex25, hF⟩ := ltt_some hF
    refine lv_topi (fun zx25 ezx25 => ?_)
    obtain rfl : x25 = zx25 := ex25.trans ezx25.symm
    refine lv_iconst (v := (5 : Int32)) hx hb dX6_tapRows_70 (by decide) ?_
    refine lv_aloadq hx hb dX6_tapRows_71 (lv_at hl 2 rfl) ?_
    refine lv_iload hx hb dX6_tapRows_73 (lv_at hl 0 rfl) ?_
    refine lv_iconst (v := (4 : Int32)) hx hb dX6_tapRows_75 (by decide) ?_
    refine lv_iadd hx hb dX6_tapRows_76 ?_
    obtain ⟨x26, ex26, hF⟩ := ltt_some hF
    refine lv_topi (fun zx26 ezx26 => ?_)
    obtain rfl : x26 = zx26 := ex26.trans ezx26.symm
    refine W_st (st' := [.int x26, .ref (ad b12), .int (5 : Int32), .int x25]) (by rw [va_some ho12]) ?_
    obtain ⟨hvc, hF⟩ := chk_some hF
    refine va_iald hx hb hK hP b12 1 (wld_i ct ad G s2.2 hc12 hk12) rfl hvc dX6_tapRows_77 ?_
    obtain ⟨x27, ex27, hF⟩ := ltt_some hF
    refine lv_topi (fun zx27 ezx27 => ?_)
    obtain rfl : x27 = zx27 := ex27.trans ezx27.symm
    refine lv_imul hx hb dX6_tapRows_78 ?_
    obtain ⟨x28, ex28, hF⟩ := ltt_some hF
    refine lv_topi (fun zx28 ezx28 => ?_)
    obtain rfl : x28 = zx28 := ex28.trans ezx28.symm
    refine lv_isub hx hb dX6_tapRows_79 ?_
    obtain ⟨x29, ex29, hF⟩ := ltt_some hF
    refine lv_topi (fun zx29 ezx29 => ?_)
    obtain rfl : x29 = zx29 := ex29.trans ezx29.symm
    refine lv_aloadq hx hb dX6_tapRows_80 (lv_at hl 2 rfl) ?_
    refine lv_iload hx hb dX6_tapRows_82 (lv_at hl 0 rfl) ?_
    refine lv_iconst (v := (5 : Int32)) hx hb dX6_tapRows_84 (by decide) ?_
    refine lv_iadd hx hb dX6_tapRows_85 ?_
    obtain ⟨x30, ex30, hF⟩ := ltt_some hF
    refine lv_topi (fun zx30 ezx30 => ?_)
    obtain rfl : x30 = zx30 := ex30.trans ezx30.symm
    refine W_st (st' := [.int x30, .ref (ad b12), .int x29]) (by rw [va_some ho12]) ?_
    obtain ⟨hvc, hF⟩ := chk_some hF
    refine va_iald hx hb hK hP b12 1 (wld_i ct ad G s2.2 hc12 hk12) rfl hvc dX6_tapRows_86 ?_
    obtain ⟨x31, ex31, hF⟩ := ltt_some hF
    refine lv_topi (fun zx31 ezx31 => ?_)
    obtain rfl : x31 = zx31 := ex31.trans ezx31.symm
    refine lv_iadd hx hb dX6_tapRows_87 ?_
    obtain ⟨x32, ex32, hF⟩ := ltt_some hF
    refine lv_topi (fun zx32 ezx32 => ?_)
    obtain rfl : x32 = zx32 := ex32.trans ezx32.symm
    refine lv_bipush (v := (16 : Int32)) hx hb dX6_tapRows_88 (by decide) ?_
    refine lv_iadd hx hb dX6_tapRows_90 ?_
    obtain ⟨x33, ex33, hF⟩ := ltt_some hF
    refine lv_topi (fun zx33 ezx33 => ?_)
    obtain rfl : x33 = zx33 := ex33.trans ezx33.symm
    refine lv_iconst (v := (5 : Int32)) hx hb dX6_tapRows_91 (by decide) ?_
    refine lv_ishr hx hb dX6_tapRows_92 ?_
    obtain ⟨x34, ex34, hF⟩ := ltt_some hF
    refine lv_topi (fun zx34 ezx34 => ?_)
    obtain rfl : x34 = zx34 := ex34.trans ezx34.symm
    refine lv_istore (lv' := [(9, .int x34), (8, .int x11), (7, .int s2.1), (6, va_re ad (M.2 a 3)), (0, .ref (ad a)), (1, .int p0), (2, .int p1), (3, va_re ad p2), (4, .int p3), (5, .int p4)]) hx hb dX6_tapRows_93 hl (by decide) rfl (fun ls hl => ?_)
    refine lv_iload hx hb dX6_tapRows_95 (lv_at hl 0 rfl) ?_
    obtain ⟨y35, hy35, hF⟩ := bnd_some hF
    have J35 : ∀ (H : Heap) (locs : List Loc) (ls : Array Slot), va_P D classes (wld ct ad G s2.2) H → va_D A (wld ct ad G s2.2) → va_S A s.heap H locs → lv_has ls 11 [(9, .int x34), (8, .int x11), (7, .int s2.1), (6, va_re ad (M.2 a 3)), (0, .ref (ad a)), (1, .int p0), (2, .int p1), (3, va_re ad p2), (4, .int p3), (5, .int p4)] → W p l e (headSpec wuX6_tapRows ({ frames := 0, cells := 0, slots := 0, locals := 0 })).room s m ([.ref (ad a), .int p0, .int p1, va_re ad p2, .int p3, .int p4] : List Value).toArray below meth c H locs 0 0 (MQ below (va_Qv (fun (_ : Unit) => True) (fun _ t => kE D ct ad G A y t) A) ([.ref (ad a), .int p0, .int p1, va_re ad p2, .int p3, .int p4] : List Value).toArray s 0 0 A) (F0 m 120 ls [.int y35]) := by
      intro H locs ls hP hD hS hl
      refine lv_istore (lv' := [(9, .int y35), (8, .int x11), (7, .int s2.1), (6, va_re ad (M.2 a 3)), (0, .ref (ad a)), (1, .int p0), (2, .int p1), (3, va_re ad p2), (4, .int p3), (5, .int p4)]) hx hb dX6_tapRows_120 hl (by decide) rfl (fun ls hl => ?_)
      refine lv_iload hx hb dX6_tapRows_122 (lv_at hl 8 rfl) ?_
      refine lv_iload hx hb dX6_tapRows_124 (lv_at hl 2 rfl) ?_
      refine lv_iload_n hx hb dX6_tapRows_126 rfl (lv_at hl 5 rfl) ?_
      obtain ⟨hne, hF⟩ := chk_some hF
      refine lv_idiv hx hb dX6_tapRows_127 hne ?_
      obtain ⟨x36, ex36, hF⟩ := ltt_some hF
      refine lv_topi (fun zx36 ezx36 => ?_)
      obtain rfl : x36 = zx36 := ex36.trans ezx36.symm
      refine lv_bipush (v := (16 : Int32)) hx hb dX6_tapRows_128 (by decide) ?_
      refine lv_imul hx hb dX6_tapRows_130 ?_
      obtain ⟨x37, ex37, hF⟩ := ltt_some hF
      refine lv_topi (fun zx37 ezx37 => ?_)
      obtain rfl : x37 = zx37 := ex37.trans ezx37.symm
      refine lv_iadd hx hb dX6_tapRows_131 ?_
      obtain ⟨x38, ex38, hF⟩ := ltt_some hF
      refine lv_topi (fun zx38 ezx38 => ?_)
      obtain rfl : x38 = zx38 := ex38.trans ezx38.symm
      refine lv_iload hx hb dX6_tapRows_132 (lv_at hl 2 rfl) ?_
      refine lv_iload_n hx hb dX6_tapRows_134 rfl (lv_at hl 5 rfl) ?_
      obtain ⟨hne, hF⟩ := chk_some hF
      refine lv_irem hx hb dX6_tapRows_135 hne ?_
      obtain ⟨x39, ex39, hF⟩ := ltt_some hF
      refine lv_topi (fun zx39 ezx39 => ?_)
      obtain rfl : x39 = zx39 := ex39.trans ezx39.symm
      refine lv_iadd hx hb dX6_tapRows_136 ?_
      obtain ⟨x40, ex40, hF⟩ := ltt_some hF
      refine lv_topi (fun zx40 ezx40 => ?_)
      obtain rfl : x40 = zx40 := ex40.trans ezx40.symm
      refine lv_istore (lv' := [(10, .int x40), (9, .int y35), (8, .int x11), (7, .int s2.1), (6, va_re ad (M.2 a 3)), (0, .ref (ad a)), (1, .int p0), (2, .int p1), (3, va_re ad p2), (4, .int p3), (5, .int p4)]) hx hb dX6_tapRows_137 hl (by decide) rfl (fun ls hl => ?_)
      refine lv_aloadq_n hx hb dX6_tapRows_139 rfl (lv_at hl 8 rfl) ?_
      refine lv_iload hx hb dX6_tapRows_140 (lv_at hl 0 rfl) ?_
      refine lv_iload hx hb dX6_tapRows_142 (lv_at hl 10 rfl) ?_
      obtain ⟨y41, hy41, hF⟩ := bnd_some hF
      have J41 : ∀ (H : Heap) (locs : List Loc) (ls : Array Slot), va_P D classes (wld ct ad G s2.2) H → va_D A (wld ct ad G s2.2) → va_S A s.heap H locs → lv_has ls 11 [(10, .int x40), (9, .int y35), (8, .int x11), (7, .int s2.1), (6, va_re ad (M.2 a 3)), (0, .ref (ad a)), (1, .int p0), (2, .int p1), (3, va_re ad p2), (4, .int p3), (5, .int p4)] → W p l e (headSpec wuX6_tapRows ({ frames := 0, cells := 0, slots := 0, locals := 0 })).room s m ([.ref (ad a), .int p0, .int p1, va_re ad p2, .int p3, .int p4] : List Value).toArray below meth c H locs 0 0 (MQ below (va_Qv (fun (_ : Unit) => True) (fun _ t => kE D ct ad G A y t) A) ([.ref (ad a), .int p0, .int p1, va_re ad p2, .int p3, .int p4] : List Value).toArray s 0 0 A) (F0 m 163 ls [.int y41, .int x40, va_re ad p2]) := by
        intro H locs ls hP hD hS hl
        obtain ⟨b42, ho42, hc42, hk42, hF⟩ := dr_some hF
        refine W_st (st' := [.int y41, .int x40, .ref (ad b42)]) (by rw [va_some ho42]) ?_
        obtain ⟨hvc, hF⟩ := chk_some hF
        refine va_iast hx hb hK hP hD hS b42 1 (wld_i ct ad G s2.2 hc42 hk42) rfl hvc dX6_tapRows_163 (fun H locs hP hD hS => ?_)
        obtain ⟨M43, eM43, hF⟩ := ltt_some hF
        rw [set_i ct ad G s2.2 hc42 hk42, ← eM43] at hP hD
        obtain ⟨x44, ex44, hF⟩ := ltt_some hF
        refine lv_iinc (v := x44) (lv' := [(7, .int x44), (10, .int x40), (9, .int y35), (8, .int x11), (6, va_re ad (M.2 a 3)), (0, .ref (ad a)), (1, .int p0), (2, .int p1), (3, va_re ad p2), (4, .int p3), (5, .int p4)]) hx hb dX6_tapRows_164 hl (k := 3) rfl (by rw [ex44]; rfl) (by decide) (by generalize ((M.2 a 3)) = o9; cases o9 <;> rfl) (fun ls hl => ?_)
        refine lv_goto (tgt := 9) hx hb dX6_tapRows_167 (by decide) ?_
        obtain rfl := Option.some.inj hF
        exact hwz4 _ _ _ hP hD hS (lv_sub hl [0, 4, 5, 6, 7, 8, 9, 10] rfl)
      clear hF
      have hF := hy41
      clear hy41
      refine lv_if_eq (tgt := 161) hx hb dX6_tapRows_144 (by decide) (fun c45 => ?_) (fun c45 => ?_)
      · rw [if_pos c45] at hF
        refine lv_iload hx hb dX6_tapRows_161 (lv_at hl 1 rfl) ?_
        obtain rfl := Option.some.inj hF
        exact J41 _ _ _ hP hD hS (lv_sub hl [0, 1, 2, 3, 4, 5, 6, 7, 8, 9, 10] rfl)
      · rw [if_neg c45] at hF
        refine lv_aloadq_n hx hb dX6_tapRows_147 rfl (lv_at hl 8 rfl) ?_
        refine lv_iload hx hb dX6_tapRows_148 (lv_at hl 0 rfl) ?_
        obtain ⟨b46, ho46, hc46, hk46, hF⟩ := dr_some hF
        refine W_st (st' := [.int x40, .ref (ad b46), .int x40, .ref (ad b46)]) (by rw [va_some ho46]) ?_
        obtain ⟨hvc, hF⟩ := chk_some hF
        refine va_iald hx hb hK hP b46 1 (wld_i ct ad G s2.2 hc46 hk46) rfl hvc dX6_tapRows_150 ?_
        obtain ⟨x47, ex47, hF⟩ := ltt_some hF
        refine lv_topi (fun zx47 ezx47 => ?_)
        obtain rfl : x47 = zx47 := ex47.trans ezx47.symm
        refine lv_iload hx hb dX6_tapRows_151 (lv_at hl 1 rfl) ?_
        refine lv_iadd hx hb dX6_tapRows_153 ?_
        obtain ⟨x48, ex48, hF⟩ := ltt_some hF
        refine lv_topi (fun zx48 ezx48 => ?_)
        obtain rfl : x48 = zx48 := ex48.trans ezx48.symm
        refine lv_iconst (v := (1 : Int32)) hx hb dX6_tapRows_154 (by decide) ?_
        refine lv_iadd hx hb dX6_tapRows_155 ?_
        obtain ⟨x49, ex49, hF⟩ := ltt_some hF
        refine lv_topi (fun zx49 ezx49 => ?_)
        obtain rfl : x49 = zx49 := ex49.trans ezx49.symm
        refine lv_iconst (v := (1 : Int32)) hx hb dX6_tapRows_156 (by decide) ?_
        refine lv_ishr hx hb dX6_tapRows_157 ?_
        obtain ⟨x50, ex50, hF⟩ := ltt_some hF
        refine lv_topi (fun zx50 ezx50 => ?_)
        obtain rfl : x50 = zx50 := ex50.trans ezx50.symm
        refine lv_goto (tgt := 163) hx hb dX6_tapRows_158 (by decide) ?_
        obtain rfl := Option.some.inj hF
        refine W_st (st' := [.int x50, .int x40, va_re ad p2]) (by rw [va_some ho46]) ?_
        exact J41 _ _ _ hP hD hS (lv_sub hl [0, 1, 2, 3, 4, 5, 6, 7, 8, 9, 10] rfl)
    clear hF
    have hF := hy35
    clear hy35
    refine lv_if_ge (tgt := 104) hx hb dX6_tapRows_97 (by decide) (fun c51 => ?_) (fun c51 => ?_)
    · rw [if_pos c51] at hF
      refine lv_iload hx hb dX6_tapRows_104 (lv_at hl 0 rfl) ?_
      refine lv_sipush (v := (255 : Int32)) hx hb dX6_tapRows_106 (by decide) ?_
      obtain ⟨y52, hy52, hF⟩ := bnd_some hF
      have J52 : ∀ (H : Heap) (locs : List Loc) (ls : Array Slot), va_P D classes (wld ct ad G s2.2) H → va_D A (wld ct ad G s2.2) → va_S A s.heap H locs → lv_has ls 11 [(9, .int x34), (8, .int x11), (7, .int s2.1), (6, va_re ad (M.2 a 3)), (0, .ref (ad a)), (1, .int p0), (2, .int p1), (3, va_re ad p2), (4, .int p3), (5, .int p4)] → W p l e (headSpec wuX6_tapRows ({ frames := 0, cells := 0, slots := 0, locals := 0 })).room s m ([.ref (ad a), .int p0, .int p1, va_re ad p2, .int p3, .int p4] : List Value).toArray below meth c H locs 0 0 (MQ below (va_Qv (fun (_ : Unit) => True) (fun _ t => kE D ct ad G A y t) A) ([.ref (ad a), .int p0, .int p1, va_re ad p2, .int p3, .int p4] : List Value).toArray s 0 0 A) (F0 m 120 ls [.int y52]) := by
        intro H locs ls hP hD hS hl
        obtain rfl := Option.some.inj hF
        exact J35 _ _ _ hP hD hS (lv_sub hl [0, 1, 2, 3, 4, 5, 6, 7, 8, 9] rfl)
      clear hF
      have hF := hy52
      clear hy52
      refine lv_icmp_le (tgt := 118) hx hb dX6_tapRows_109 (by decide) (fun c53 => ?_) (fun c53 => ?_)
      · rw [if_pos c53] at hF
        refine lv_iload hx hb dX6_tapRows_118 (lv_at hl 0 rfl) ?_
        obtain rfl := Option.some.inj hF
        exact J52 _ _ _ hP hD hS (lv_sub hl [0, 1, 2, 3, 4, 5, 6, 7, 8, 9] rfl)
      · rw [if_neg c53] at hF
        refine lv_sipush (v := (255 : Int32)) hx hb dX6_tapRows_112 (by decide) ?_
        refine lv_goto (tgt := 120) hx hb dX6_tapRows_115 (by decide) ?_
        obtain rfl := Option.some.inj hF
        exact J52 _ _ _ hP hD hS (lv_sub hl [0, 1, 2, 3, 4, 5, 6, 7, 8, 9] rfl)
    · rw [if_neg c51] at hF
      refine lv_iconst (v := (0 : Int32)) hx hb dX6_tapRows_100 (by decide) ?_
      refine lv_goto (tgt := 120) hx hb dX6_tapRows_101 (by decide) ?_
      obtain rfl := Option.some.inj hF
      exact J35 _ _ _ hP hD hS (lv_sub hl [0, 1, 2, 3, 4, 5, 6, 7, 8, 9] rfl)
theorem dX6_three_0 : decode cX6_three 0 = .ok (.aload_n 0, 1) := by decide +kernel
theorem dX6_three_1 : decode cX6_three 1 = .ok (.getfield 36, 3) := by decide +kernel
theorem dX6_three_4 : decode cX6_three 4 = .ok (.iload_n 1, 1) := by decide +kernel
theorem dX6_three_5 : decode cX6_three 5 = .ok (.iaload, 1) := by decide +kernel
theorem dX6_three_6 : decode cX6_three 6 = .ok (.iconst 2, 1) := by decide +kernel
theorem dX6_three_7 : decode cX6_three 7 = .ok (.aload_n 0, 1) := by decide +kernel
theorem dX6_three_8 : decode cX6_three 8 = .ok (.getfield 36, 3) := by decide +kernel
theorem dX6_three_11 : decode cX6_three 11 = .ok (.iload_n 2, 1) := by decide +kernel
theorem dX6_three_12 : decode cX6_three 12 = .ok (.iaload, 1) := by decide +kernel
theorem dX6_three_13 : decode cX6_three 13 = .ok (.imul, 1) := by decide +kernel
theorem dX6_three_14 : decode cX6_three 14 = .ok (.iadd, 1) := by decide +kernel
theorem dX6_three_15 : decode cX6_three 15 = .ok (.aload_n 0, 1) := by decide +kernel
theorem dX6_three_16 : decode cX6_three 16 = .ok (.getfield 36, 3) := by decide +kernel
theorem dX6_three_19 : decode cX6_three 19 = .ok (.iload_n 3, 1) := by decide +kernel
theorem dX6_three_20 : decode cX6_three 20 = .ok (.iaload, 1) := by decide +kernel
theorem dX6_three_21 : decode cX6_three 21 = .ok (.iadd, 1) := by decide +kernel
theorem dX6_three_22 : decode cX6_three 22 = .ok (.iconst 2, 1) := by decide +kernel
theorem dX6_three_23 : decode cX6_three 23 = .ok (.iadd, 1) := by decide +kernel
theorem dX6_three_24 : decode cX6_three 24 = .ok (.iconst 2, 1) := by decide +kernel
theorem dX6_three_25 : decode cX6_three 25 = .ok (.ishr, 1) := by decide +kernel
theorem dX6_three_26 : decode cX6_three 26 = .ok (.ireturn, 1) := by decide +kernel
def FX6_three (G : GG) (M : DD) (a : Nat) (p0 : Int32) (p1 : Int32) (p2 : Int32) : Option (DD × Int32) :=
  dr G 13 ((M.2 a 8)) fun b1 =>
  chk (¬ (p0 < 0 ∨ G.2.2 b1 ≤ p0.toNatClampNeg)) <|
  ltt (M.1 b1 p0.toNatClampNeg) fun x2 =>
  chk (¬ (p1 < 0 ∨ G.2.2 b1 ≤ p1.toNatClampNeg)) <|
  ltt (M.1 b1 p1.toNatClampNeg) fun x3 =>
  ltt ((((2 : Int32)) * x3)) fun x4 =>
  ltt ((x2 + x4)) fun x5 =>
  chk (¬ (p2 < 0 ∨ G.2.2 b1 ≤ p2.toNatClampNeg)) <|
  ltt (M.1 b1 p2.toNatClampNeg) fun x6 =>
  ltt ((x5 + x6)) fun x7 =>
  ltt ((x7 + ((2 : Int32)))) fun x8 =>
  ltt ((x8 >>> (((2 : Int32)) &&& 31))) fun x9 =>
  some (M, x9)
set_option maxHeartbeats 4000000 in
set_option maxRecDepth 100000 in
theorem kX6_three (l : Launch) (D : va_G) (ct : CT) (ad : Nat → Nat) (Z : Nat → Nat) (G : GG) (M : DD) (sz : Nat) (a : Nat) (p0 : Int32) (p1 : Int32) (p2 : Int32) (y : DD × Int32) (hc : a < G.1) (hk : G.2.1 a = 6) (hF : FX6_three G M a p0 p1 p2 = some y) : Met l yX6_three wuX6_three ({ frames := 0, cells := 0, slots := 0, locals := 0 }) (va_Pc [.ref (ad a), .int p0, .int p1, .int p2] (kB D ct ad Z G M sz)) (va_Qi (fun (q : Int32) (_ : Unit) => q = y.2) (fun _ t => kE D ct ad G (wA ad G sz) y.1 t) (wA ad G sz)) 0 0 (wA ad G sz) := by
  refine Met.ofW (cc := cX6_three) (maxL := 4) (ret := (some .int)) (by decide) rfl ?_
  intro p e s m args below meth c s₁ B hml hv
  obtain ⟨rfl, hsz, hP, hK, hD0, hZ, hN⟩ := hv
  have hx := B.exec
  have hb := B.bytes
  have hr := B.returns
  have hts := atoms_spec (ws := wuX6_three) B.pre
  have hown : s.vm.findClass RX6 = some m.cls := findClass_of_methodNamed B.named
  have hlocks := B.notSynchronized
  subst hsz
  have hD := wD_self (sz := s.heap.size) hD0
  have hA9 : ∀ q, s.heap.size ≤ q → wA ad G s.heap.size q := fun q h => Or.inr h
  generalize hAe : wA ad G s.heap.size = A at hD hA9 hZ ⊢
  have hS : va_S A s.heap s.heap [] := va_S.rf
  have hl := lv_entry ([.ref (ad a), .int p0, .int p1, .int p2]) (n := 4) (Nat.le_of_ble_eq_true rfl)
  rw [lg_entry_eq]
  generalize (lg_sl ([.ref (ad a), .int p0, .int p1, .int p2]) ++ List.replicate (4 - (lg_sl ([.ref (ad a), .int p0, .int p1, .int p2])).length) Slot.unset).toArray = ls at hl ⊢
  have hl : lv_has ls 4 [(0, .ref (ad a)), (1, .int p0), (2, .int p1), (3, .int p2)] := hl
  unfold FX6_three at hF
  refine lv_aload_n hx hb dX6_three_0 rfl (lv_at hl 0 rfl) ?_
  refine va_get (D := D) (ci := 6) (v := va_re ad (M.2 a 8)) (C := RX6) (T := TX6) (N := 14) hx hb hts (mus hf_X6) hown hK hP a (wld_o ct ad G M hc hk (by decide)) rfl 8 (by decide) (hts (.fieldLink RX6 36 "VideoSuite$Samples" "around" "[I") (mu mw_544)) (fun _ h9 => h9) rfl dX6_three_1 ?_
  refine lv_iload_n hx hb dX6_three_4 rfl (lv_at hl 1 rfl) ?_
  obtain ⟨b1, ho1, hc1, hk1, hF⟩ := dr_some hF
  refine W_st (st' := [.int p0, .ref (ad b1)]) (by rw [va_some ho1]) ?_
  obtain ⟨hvc, hF⟩ := chk_some hF
  refine va_iald hx hb hK hP b1 1 (wld_i ct ad G M hc1 hk1) rfl hvc dX6_three_5 ?_
  obtain ⟨x2, ex2, hF⟩ := ltt_some hF
  refine lv_topi (fun zx2 ezx2 => ?_)
  obtain rfl : x2 = zx2 := ex2.trans ezx2.symm
  refine lv_iconst (v := (2 : Int32)) hx hb dX6_three_6 (by decide) ?_
  refine lv_aload_n hx hb dX6_three_7 rfl (lv_at hl 0 rfl) ?_
  refine va_get (D := D) (ci := 6) (v := va_re ad (M.2 a 8)) (C := RX6) (T := TX6) (N := 14) hx hb hts (mus hf_X6) hown hK hP a (wld_o ct ad G M hc hk (by decide)) rfl 8 (by decide) (hts (.fieldLink RX6 36 "VideoSuite$Samples" "around" "[I") (mu mw_544)) (fun _ h9 => h9) rfl dX6_three_8 ?_
  refine lv_iload_n hx hb dX6_three_11 rfl (lv_at hl 2 rfl) ?_
  refine W_st (st' := [.int p1, .ref (ad b1), .int (2 : Int32), .int x2]) (by rw [va_some ho1]) ?_
  obtain ⟨hvc, hF⟩ := chk_some hF
  refine va_iald hx hb hK hP b1 1 (wld_i ct ad G M hc1 hk1) rfl hvc dX6_three_12 ?_
  obtain ⟨x3, ex3, hF⟩ := ltt_some hF
  refine lv_topi (fun zx3 ezx3 => ?_)
  obtain rfl : x3 = zx3 := ex3.trans ezx3.symm
  refine lv_imul hx hb dX6_three_13 ?_
  obtain ⟨x4, ex4, hF⟩ := ltt_some hF
  refine lv_topi (fun zx4 ezx4 => ?_)
  obtain rfl : x4 = zx4 := ex4.trans ezx4.symm
  refine lv_iadd hx hb dX6_three_14 ?_
  obtain ⟨x5, ex5, hF⟩ := ltt_some hF
  refine lv_topi (fun zx5 ezx5 => ?_)
  obtain rfl : x5 = zx5 := ex5.trans ezx5.symm
  refine lv_aload_n hx hb dX6_three_15 rfl (lv_at hl 0 rfl) ?_
  refine va_get (D := D) (ci := 6) (v := va_re ad (M.2 a 8)) (C := RX6) (T := TX6) (N := 14) hx hb hts (mus hf_X6) hown hK hP a (wld_o ct ad G M hc hk (by decide)) rfl 8 (by decide) (hts (.fieldLink RX6 36 "VideoSuite$Samples" "around" "[I") (mu mw_544)) (fun _ h9 => h9) rfl dX6_three_16 ?_
  refine lv_iload_n hx hb dX6_three_19 rfl (lv_at hl 3 rfl) ?_
  refine W_st (st' := [.int p2, .ref (ad b1), .int x5]) (by rw [va_some ho1]) ?_
  obtain ⟨hvc, hF⟩ := chk_some hF
  refine va_iald hx hb hK hP b1 1 (wld_i ct ad G M hc1 hk1) rfl hvc dX6_three_20 ?_
  obtain ⟨x6, ex6, hF⟩ := ltt_some hF
  refine lv_topi (fun zx6 ezx6 => ?_)
  obtain rfl : x6 = zx6 := ex6.trans ezx6.symm
  refine lv_iadd hx hb dX6_three_21 ?_
  obtain ⟨x7, ex7, hF⟩ := ltt_some hF
  refine lv_topi (fun zx7 ezx7 => ?_)
  obtain rfl : x7 = zx7 := ex7.trans ezx7.symm
  refine lv_iconst (v := (2 : Int32)) hx hb dX6_three_22 (by decide) ?_
  refine lv_iadd hx hb dX6_three_23 ?_
  obtain ⟨x8, ex8, hF⟩ := ltt_some hF
  refine lv_topi (fun zx8 ezx8 => ?_)
  obtain rfl : x8 = zx8 := ex8.trans ezx8.symm
  refine lv_iconst (v := (2 : Int32)) hx hb dX6_three_24 (by decide) ?_
  refine lv_ishr hx hb dX6_three_25 ?_
  obtain ⟨x9, ex9, hF⟩ := ltt_some hF
  refine lv_topi (fun zx9 ezx9 => ?_)
  obtain rfl : x9 = zx9 := ex9.trans ezx9.symm
  obtain rfl := Option.some.inj hF
  exact W.iret (v := x9) hx hb hr (fun t ht hW => ⟨⟨_, (), rfl, rfl, ⟨by rw [ht]; exact hP, va_K.moved hW.alike hK, hD⟩⟩, hS.F ht⟩) hS.2.2 dX6_three_26
theorem dX6_turn_0 : decode cX6_turn 0 = .ok (.iconst 0, 1) := by decide +kernel
theorem dX6_turn_1 : decode cX6_turn 1 = .ok (.istore 6, 2) := by decide +kernel
theorem dX6_turn_3 : decode cX6_turn 3 = .ok (.iload 6, 2) := by decide +kernel
theorem dX6_turn_5 : decode cX6_turn 5 = .ok (.bipush 16, 2) := by decide +kernel
theorem dX6_turn_7 : decode cX6_turn 7 = .ok (.if_icmp .ge 52, 3) := by decide +kernel
theorem dX6_turn_10 : decode cX6_turn 10 = .ok (.aload_n 0, 1) := by decide +kernel
theorem dX6_turn_11 : decode cX6_turn 11 = .ok (.getfield 30, 3) := by decide +kernel
theorem dX6_turn_14 : decode cX6_turn 14 = .ok (.iload 6, 2) := by decide +kernel
theorem dX6_turn_16 : decode cX6_turn 16 = .ok (.aload_n 1, 1) := by decide +kernel
theorem dX6_turn_17 : decode cX6_turn 17 = .ok (.iload_n 2, 1) := by decide +kernel
theorem dX6_turn_18 : decode cX6_turn 18 = .ok (.iload 6, 2) := by decide +kernel
theorem dX6_turn_20 : decode cX6_turn 20 = .ok (.iconst 4, 1) := by decide +kernel
theorem dX6_turn_21 : decode cX6_turn 21 = .ok (.idiv, 1) := by decide +kernel
theorem dX6_turn_22 : decode cX6_turn 22 = .ok (.iload_n 3, 1) := by decide +kernel
theorem dX6_turn_23 : decode cX6_turn 23 = .ok (.imul, 1) := by decide +kernel
theorem dX6_turn_24 : decode cX6_turn 24 = .ok (.iadd, 1) := by decide +kernel
theorem dX6_turn_25 : decode cX6_turn 25 = .ok (.iload 6, 2) := by decide +kernel
theorem dX6_turn_27 : decode cX6_turn 27 = .ok (.iconst 4, 1) := by decide +kernel
theorem dX6_turn_28 : decode cX6_turn 28 = .ok (.irem, 1) := by decide +kernel
theorem dX6_turn_29 : decode cX6_turn 29 = .ok (.iadd, 1) := by decide +kernel
theorem dX6_turn_30 : decode cX6_turn 30 = .ok (.iaload, 1) := by decide +kernel
theorem dX6_turn_31 : decode cX6_turn 31 = .ok (.aload_n 0, 1) := by decide +kernel
theorem dX6_turn_32 : decode cX6_turn 32 = .ok (.getfield 9, 3) := by decide +kernel
theorem dX6_turn_35 : decode cX6_turn 35 = .ok (.iload 4, 2) := by decide +kernel
theorem dX6_turn_37 : decode cX6_turn 37 = .ok (.iload 6, 2) := by decide +kernel
theorem dX6_turn_39 : decode cX6_turn 39 = .ok (.iconst 4, 1) := by decide +kernel
theorem dX6_turn_40 : decode cX6_turn 40 = .ok (.idiv, 1) := by decide +kernel
theorem dX6_turn_41 : decode cX6_turn 41 = .ok (.iload 5, 2) := by decide +kernel
theorem dX6_turn_43 : decode cX6_turn 43 = .ok (.imul, 1) := by decide +kernel
theorem dX6_turn_44 : decode cX6_turn 44 = .ok (.iadd, 1) := by decide +kernel
theorem dX6_turn_45 : decode cX6_turn 45 = .ok (.iload 6, 2) := by decide +kernel
theorem dX6_turn_47 : decode cX6_turn 47 = .ok (.iconst 4, 1) := by decide +kernel
theorem dX6_turn_48 : decode cX6_turn 48 = .ok (.irem, 1) := by decide +kernel
theorem dX6_turn_49 : decode cX6_turn 49 = .ok (.iadd, 1) := by decide +kernel
theorem dX6_turn_50 : decode cX6_turn 50 = .ok (.iaload, 1) := by decide +kernel
theorem dX6_turn_51 : decode cX6_turn 51 = .ok (.isub, 1) := by decide +kernel
theorem dX6_turn_52 : decode cX6_turn 52 = .ok (.iastore, 1) := by decide +kernel
theorem dX6_turn_53 : decode cX6_turn 53 = .ok (.iinc 6 1, 3) := by decide +kernel
theorem dX6_turn_56 : decode cX6_turn 56 = .ok (.goto (-53), 3) := by decide +kernel
theorem dX6_turn_59 : decode cX6_turn 59 = .ok (.iconst 0, 1) := by decide +kernel
theorem dX6_turn_60 : decode cX6_turn 60 = .ok (.istore 6, 2) := by decide +kernel
theorem dX6_turn_62 : decode cX6_turn 62 = .ok (.iload 6, 2) := by decide +kernel
theorem dX6_turn_64 : decode cX6_turn 64 = .ok (.iconst 2, 1) := by decide +kernel
theorem dX6_turn_65 : decode cX6_turn 65 = .ok (.if_icmp .ge 211, 3) := by decide +kernel
theorem dX6_turn_68 : decode cX6_turn 68 = .ok (.iload 6, 2) := by decide +kernel
theorem dX6_turn_70 : decode cX6_turn 70 = .ok (.ifCond .ne 7, 3) := by decide +kernel
theorem dX6_turn_73 : decode cX6_turn 73 = .ok (.iconst 1, 1) := by decide +kernel
theorem dX6_turn_74 : decode cX6_turn 74 = .ok (.goto 4, 3) := by decide +kernel
theorem dX6_turn_77 : decode cX6_turn 77 = .ok (.iconst 4, 1) := by decide +kernel
theorem dX6_turn_78 : decode cX6_turn 78 = .ok (.istore 7, 2) := by decide +kernel
theorem dX6_turn_80 : decode cX6_turn 80 = .ok (.iconst 0, 1) := by decide +kernel
theorem dX6_turn_81 : decode cX6_turn 81 = .ok (.istore 8, 2) := by decide +kernel
theorem dX6_turn_83 : decode cX6_turn 83 = .ok (.iload 8, 2) := by decide +kernel
theorem dX6_turn_85 : decode cX6_turn 85 = .ok (.iconst 4, 1) := by decide +kernel
theorem dX6_turn_86 : decode cX6_turn 86 = .ok (.if_icmp .ge 184, 3) := by decide +kernel
theorem dX6_turn_89 : decode cX6_turn 89 = .ok (.iload 6, 2) := by decide +kernel
theorem dX6_turn_91 : decode cX6_turn 91 = .ok (.ifCond .ne 10, 3) := by decide +kernel
theorem dX6_turn_94 : decode cX6_turn 94 = .ok (.iconst 4, 1) := by decide +kernel
theorem dX6_turn_95 : decode cX6_turn 95 = .ok (.iload 8, 2) := by decide +kernel
theorem dX6_turn_97 : decode cX6_turn 97 = .ok (.imul, 1) := by decide +kernel
theorem dX6_turn_98 : decode cX6_turn 98 = .ok (.goto 5, 3) := by decide +kernel
theorem dX6_turn_101 : decode cX6_turn 101 = .ok (.iload 8, 2) := by decide +kernel
theorem dX6_turn_103 : decode cX6_turn 103 = .ok (.istore 9, 2) := by decide +kernel
theorem dX6_turn_105 : decode cX6_turn 105 = .ok (.aload_n 0, 1) := by decide +kernel
theorem dX6_turn_106 : decode cX6_turn 106 = .ok (.getfield 30, 3) := by decide +kernel
theorem dX6_turn_109 : decode cX6_turn 109 = .ok (.iload 9, 2) := by decide +kernel
theorem dX6_turn_111 : decode cX6_turn 111 = .ok (.iaload, 1) := by decide +kernel
theorem dX6_turn_112 : decode cX6_turn 112 = .ok (.aload_n 0, 1) := by decide +kernel
theorem dX6_turn_113 : decode cX6_turn 113 = .ok (.getfield 30, 3) := by decide +kernel
theorem dX6_turn_116 : decode cX6_turn 116 = .ok (.iload 9, 2) := by decide +kernel
theorem dX6_turn_118 : decode cX6_turn 118 = .ok (.iconst 3, 1) := by decide +kernel
theorem dX6_turn_119 : decode cX6_turn 119 = .ok (.iload 7, 2) := by decide +kernel
theorem dX6_turn_121 : decode cX6_turn 121 = .ok (.imul, 1) := by decide +kernel
theorem dX6_turn_122 : decode cX6_turn 122 = .ok (.iadd, 1) := by decide +kernel
theorem dX6_turn_123 : decode cX6_turn 123 = .ok (.iaload, 1) := by decide +kernel
theorem dX6_turn_124 : decode cX6_turn 124 = .ok (.iadd, 1) := by decide +kernel
theorem dX6_turn_125 : decode cX6_turn 125 = .ok (.istore 10, 2) := by decide +kernel
theorem dX6_turn_127 : decode cX6_turn 127 = .ok (.aload_n 0, 1) := by decide +kernel
theorem dX6_turn_128 : decode cX6_turn 128 = .ok (.getfield 30, 3) := by decide +kernel
theorem dX6_turn_131 : decode cX6_turn 131 = .ok (.iload 9, 2) := by decide +kernel
theorem dX6_turn_133 : decode cX6_turn 133 = .ok (.iload 7, 2) := by decide +kernel
theorem dX6_turn_135 : decode cX6_turn 135 = .ok (.iadd, 1) := by decide +kernel
theorem dX6_turn_136 : decode cX6_turn 136 = .ok (.iaload, 1) := by decide +kernel
theorem dX6_turn_137 : decode cX6_turn 137 = .ok (.aload_n 0, 1) := by decide +kernel
theorem dX6_turn_138 : decode cX6_turn 138 = .ok (.getfield 30, 3) := by decide +kernel
theorem dX6_turn_141 : decode cX6_turn 141 = .ok (.iload 9, 2) := by decide +kernel
theorem dX6_turn_143 : decode cX6_turn 143 = .ok (.iconst 2, 1) := by decide +kernel
theorem dX6_turn_144 : decode cX6_turn 144 = .ok (.iload 7, 2) := by decide +kernel
theorem dX6_turn_146 : decode cX6_turn 146 = .ok (.imul, 1) := by decide +kernel
theorem dX6_turn_147 : decode cX6_turn 147 = .ok (.iadd, 1) := by decide +kernel
theorem dX6_turn_148 : decode cX6_turn 148 = .ok (.iaload, 1) := by decide +kernel
theorem dX6_turn_149 : decode cX6_turn 149 = .ok (.iadd, 1) := by decide +kernel
theorem dX6_turn_150 : decode cX6_turn 150 = .ok (.istore 11, 2) := by decide +kernel
theorem dX6_turn_152 : decode cX6_turn 152 = .ok (.aload_n 0, 1) := by decide +kernel
theorem dX6_turn_153 : decode cX6_turn 153 = .ok (.getfield 30, 3) := by decide +kernel
theorem dX6_turn_156 : decode cX6_turn 156 = .ok (.iload 9, 2) := by decide +kernel
theorem dX6_turn_158 : decode cX6_turn 158 = .ok (.iload 7, 2) := by decide +kernel
theorem dX6_turn_160 : decode cX6_turn 160 = .ok (.iadd, 1) := by decide +kernel
theorem dX6_turn_161 : decode cX6_turn 161 = .ok (.iaload, 1) := by decide +kernel
theorem dX6_turn_162 : decode cX6_turn 162 = .ok (.aload_n 0, 1) := by decide +kernel
theorem dX6_turn_163 : decode cX6_turn 163 = .ok (.getfield 30, 3) := by decide +kernel
theorem dX6_turn_166 : decode cX6_turn 166 = .ok (.iload 9, 2) := by decide +kernel
theorem dX6_turn_168 : decode cX6_turn 168 = .ok (.iconst 2, 1) := by decide +kernel
theorem dX6_turn_169 : decode cX6_turn 169 = .ok (.iload 7, 2) := by decide +kernel
theorem dX6_turn_171 : decode cX6_turn 171 = .ok (.imul, 1) := by decide +kernel
theorem dX6_turn_172 : decode cX6_turn 172 = .ok (.iadd, 1) := by decide +kernel
theorem dX6_turn_173 : decode cX6_turn 173 = .ok (.iaload, 1) := by decide +kernel
theorem dX6_turn_174 : decode cX6_turn 174 = .ok (.isub, 1) := by decide +kernel
theorem dX6_turn_175 : decode cX6_turn 175 = .ok (.istore 12, 2) := by decide +kernel
theorem dX6_turn_177 : decode cX6_turn 177 = .ok (.aload_n 0, 1) := by decide +kernel
theorem dX6_turn_178 : decode cX6_turn 178 = .ok (.getfield 30, 3) := by decide +kernel
theorem dX6_turn_181 : decode cX6_turn 181 = .ok (.iload 9, 2) := by decide +kernel
theorem dX6_turn_183 : decode cX6_turn 183 = .ok (.iaload, 1) := by decide +kernel
theorem dX6_turn_184 : decode cX6_turn 184 = .ok (.aload_n 0, 1) := by decide +kernel
theorem dX6_turn_185 : decode cX6_turn 185 = .ok (.getfield 30, 3) := by decide +kernel
theorem dX6_turn_188 : decode cX6_turn 188 = .ok (.iload 9, 2) := by decide +kernel
theorem dX6_turn_190 : decode cX6_turn 190 = .ok (.iconst 3, 1) := by decide +kernel
theorem dX6_turn_191 : decode cX6_turn 191 = .ok (.iload 7, 2) := by decide +kernel
theorem dX6_turn_193 : decode cX6_turn 193 = .ok (.imul, 1) := by decide +kernel
theorem dX6_turn_194 : decode cX6_turn 194 = .ok (.iadd, 1) := by decide +kernel
theorem dX6_turn_195 : decode cX6_turn 195 = .ok (.iaload, 1) := by decide +kernel
theorem dX6_turn_196 : decode cX6_turn 196 = .ok (.isub, 1) := by decide +kernel
theorem dX6_turn_197 : decode cX6_turn 197 = .ok (.istore 13, 2) := by decide +kernel
theorem dX6_turn_199 : decode cX6_turn 199 = .ok (.aload_n 0, 1) := by decide +kernel
theorem dX6_turn_200 : decode cX6_turn 200 = .ok (.getfield 30, 3) := by decide +kernel
theorem dX6_turn_203 : decode cX6_turn 203 = .ok (.iload 9, 2) := by decide +kernel
theorem dX6_turn_205 : decode cX6_turn 205 = .ok (.iload 10, 2) := by decide +kernel
theorem dX6_turn_207 : decode cX6_turn 207 = .ok (.iload 11, 2) := by decide +kernel
theorem dX6_turn_209 : decode cX6_turn 209 = .ok (.iadd, 1) := by decide +kernel
theorem dX6_turn_210 : decode cX6_turn 210 = .ok (.iastore, 1) := by decide +kernel
theorem dX6_turn_211 : decode cX6_turn 211 = .ok (.aload_n 0, 1) := by decide +kernel
theorem dX6_turn_212 : decode cX6_turn 212 = .ok (.getfield 30, 3) := by decide +kernel
theorem dX6_turn_215 : decode cX6_turn 215 = .ok (.iload 9, 2) := by decide +kernel
theorem dX6_turn_217 : decode cX6_turn 217 = .ok (.iload 7, 2) := by decide +kernel
theorem dX6_turn_219 : decode cX6_turn 219 = .ok (.iadd, 1) := by decide +kernel
theorem dX6_turn_220 : decode cX6_turn 220 = .ok (.iconst 2, 1) := by decide +kernel
theorem dX6_turn_221 : decode cX6_turn 221 = .ok (.iload 13, 2) := by decide +kernel
theorem dX6_turn_223 : decode cX6_turn 223 = .ok (.imul, 1) := by decide +kernel
theorem dX6_turn_224 : decode cX6_turn 224 = .ok (.iload 12, 2) := by decide +kernel
theorem dX6_turn_226 : decode cX6_turn 226 = .ok (.iadd, 1) := by decide +kernel
theorem dX6_turn_227 : decode cX6_turn 227 = .ok (.iastore, 1) := by decide +kernel
theorem dX6_turn_228 : decode cX6_turn 228 = .ok (.aload_n 0, 1) := by decide +kernel
theorem dX6_turn_229 : decode cX6_turn 229 = .ok (.getfield 30, 3) := by decide +kernel
theorem dX6_turn_232 : decode cX6_turn 232 = .ok (.iload 9, 2) := by decide +kernel
theorem dX6_turn_234 : decode cX6_turn 234 = .ok (.iconst 2, 1) := by decide +kernel
theorem dX6_turn_235 : decode cX6_turn 235 = .ok (.iload 7, 2) := by decide +kernel
theorem dX6_turn_237 : decode cX6_turn 237 = .ok (.imul, 1) := by decide +kernel
theorem dX6_turn_238 : decode cX6_turn 238 = .ok (.iadd, 1) := by decide +kernel
theorem dX6_turn_239 : decode cX6_turn 239 = .ok (.iload 10, 2) := by decide +kernel
theorem dX6_turn_241 : decode cX6_turn 241 = .ok (.iload 11, 2) := by decide +kernel
theorem dX6_turn_243 : decode cX6_turn 243 = .ok (.isub, 1) := by decide +kernel
theorem dX6_turn_244 : decode cX6_turn 244 = .ok (.iastore, 1) := by decide +kernel
theorem dX6_turn_245 : decode cX6_turn 245 = .ok (.aload_n 0, 1) := by decide +kernel
theorem dX6_turn_246 : decode cX6_turn 246 = .ok (.getfield 30, 3) := by decide +kernel
theorem dX6_turn_249 : decode cX6_turn 249 = .ok (.iload 9, 2) := by decide +kernel
theorem dX6_turn_251 : decode cX6_turn 251 = .ok (.iconst 3, 1) := by decide +kernel
theorem dX6_turn_252 : decode cX6_turn 252 = .ok (.iload 7, 2) := by decide +kernel
theorem dX6_turn_254 : decode cX6_turn 254 = .ok (.imul, 1) := by decide +kernel
theorem dX6_turn_255 : decode cX6_turn 255 = .ok (.iadd, 1) := by decide +kernel
theorem dX6_turn_256 : decode cX6_turn 256 = .ok (.iload 13, 2) := by decide +kernel
theorem dX6_turn_258 : decode cX6_turn 258 = .ok (.iconst 2, 1) := by decide +kernel
theorem dX6_turn_259 : decode cX6_turn 259 = .ok (.iload 12, 2) := by decide +kernel
theorem dX6_turn_261 : decode cX6_turn 261 = .ok (.imul, 1) := by decide +kernel
theorem dX6_turn_262 : decode cX6_turn 262 = .ok (.isub, 1) := by decide +kernel
theorem dX6_turn_263 : decode cX6_turn 263 = .ok (.iastore, 1) := by decide +kernel
theorem dX6_turn_264 : decode cX6_turn 264 = .ok (.iinc 8 1, 3) := by decide +kernel
theorem dX6_turn_267 : decode cX6_turn 267 = .ok (.goto (-184), 3) := by decide +kernel
theorem dX6_turn_270 : decode cX6_turn 270 = .ok (.iinc 6 1, 3) := by decide +kernel
theorem dX6_turn_273 : decode cX6_turn 273 = .ok (.goto (-211), 3) := by decide +kernel
theorem dX6_turn_276 : decode cX6_turn 276 = .ok (.return_, 1) := by decide +kernel
def FX6_turn (G : GG) (M : DD) (a : Nat) (p0 : Option Nat) (p1 : Int32) (p2 : Int32) (p3 : Int32) (p4 : Int32) : Option (DD) :=
  bnd (itr (fun (s2 : Int32 × DD) => ((if ((16 : Int32)) ≤ s2.1 then (some (.inr (s2.1, s2.2))) else
  (ltt (s2.1 / ((4 : Int32))) fun x64 =>
  ltt ((x64 * p2)) fun x65 =>
  ltt ((p1 + x65)) fun x66 =>
  ltt (s2.1 - s2.1 / ((4 : Int32)) * ((4 : Int32))) fun x67 =>
  ltt ((x66 + x67)) fun x68 =>
  dr G 13 p0 fun b69 =>
  chk (¬ (x68 < 0 ∨ G.2.2 b69 ≤ x68.toNatClampNeg)) <|
  ltt (s2.2.1 b69 x68.toNatClampNeg) fun x70 =>
  ltt (s2.1 / ((4 : Int32))) fun x71 =>
  ltt ((x71 * p4)) fun x72 =>
  ltt ((p3 + x72)) fun x73 =>
  ltt (s2.1 - s2.1 / ((4 : Int32)) * ((4 : Int32))) fun x74 =>
  ltt ((x73 + x74)) fun x75 =>
  dr G 13 ((s2.2.2 a 0)) fun b76 =>
  chk (¬ (x75 < 0 ∨ G.2.2 b76 ≤ x75.toNatClampNeg)) <|
  ltt (s2.2.1 b76 x75.toNatClampNeg) fun x77 =>
  ltt ((x70 - x77)) fun x78 =>
  dr G 13 ((s2.2.2 a 6)) fun b79 =>
  chk (¬ (s2.1 < 0 ∨ G.2.2 b79 ≤ s2.1.toNatClampNeg)) <|
  ltt (uI s2.2 b79 s2.1.toNatClampNeg x78) fun M80 =>
  ltt (s2.1 + (1 : Int32)) fun x81 =>
  some (.inl (x81, M80)))) : Option ((Int32 × DD) ⊕ (Int32 × DD)))) 1000000 ((0 : Int32), M)) fun (y1 : Int32 × DD) =>
  bnd (itr (fun (s5 : Int32 × DD) => ((if ((2 : Int32)) ≤ s5.1 then (some (.inr (s5.1, s5.2))) else
  (bnd (if s5.1 = ((0 : Int32)) then (some ((1 : Int32))) else
  (some ((4 : Int32)))) fun (y9 : Int32) =>
  bnd (itr (fun (s11 : Int32 × DD) => ((if ((4 : Int32)) ≤ s11.1 then (some (.inr (s11.1, s11.2))) else
  (bnd (if s5.1 = ((0 : Int32)) then (ltt ((((4 : Int32)) * s11.1)) fun x60 =>
  some (x60)) else
  (some (s11.1))) fun (y16 : Int32) =>
  dr G 13 ((s11.2.2 a 6)) fun b17 =>
  chk (¬ (y16 < 0 ∨ G.2.2 b17 ≤ y16.toNatClampNeg)) <|
  ltt (s11.2.1 b17 y16.toNatClampNeg) fun x18 =>
  ltt ((((3 : Int32)) * y9)) fun x19 =>
  ltt ((y16 + x19)) fun x20 =>
  chk (¬ (x20 < 0 ∨ G.2.2 b17 ≤ x20.toNatClampNeg)) <|
  ltt (s11.2.1 b17 x20.toNatClampNeg) fun x21 =>
  ltt ((x18 + x21)) fun x22 =>
  ltt ((y16 + y9)) fun x23 =>
  chk (¬ (x23 < 0 ∨ G.2.2 b17 ≤ x23.toNatClampNeg)) <|
  ltt (s11.2.1 b17 x23.toNatClampNeg) fun x24 =>
  ltt ((((2 : Int32)) * y9)) fun x25 =>
  ltt ((y16 + x25)) fun x26 =>
  chk (¬ (x26 < 0 ∨ G.2.2 b17 ≤ x26.toNatClampNeg)) <|
  ltt (s11.2.1 b17 x26.toNatClampNeg) fun x27 =>
  ltt ((x24 + x27)) fun x28 =>
  ltt ((y16 + y9)) fun x29 =>
  chk (¬ (x29 < 0 ∨ G.2.2 b17 ≤ x29.toNatClampNeg)) <|
  ltt (s11.2.1 b17 x29.toNatClampNeg) fun x30 =>
  ltt ((((2 : Int32)) * y9)) fun x31 =>
  ltt ((y16 + x31)) fun x32 =>
  chk (¬ (x32 < 0 ∨ G.2.2 b17 ≤ x32.toNatClampNeg)) <|
  ltt (s11.2.1 b17 x32.toNatClampNeg) fun x33 =>
  ltt ((x30 - x33)) fun x34 =>
  chk (¬ (y16 < 0 ∨ G.2.2 b17 ≤ y16.toNatClampNeg)) <|
  ltt (s11.2.1 b17 y16.toNatClampNeg) fun x35 =>
  ltt ((((3 : Int32)) * y9)) fun x36 =>
  ltt ((y16 + x36)) fun x37 =>
  chk (¬ (x37 < 0 ∨ G.2.2 b17 ≤ x37.toNatClampNeg)) <|
  ltt (s11.2.1 b17 x37.toNatClampNeg) fun x38 =>
  ltt ((x35 - x38)) fun x39 =>
  ltt ((x22 + x28)) fun x40 =>
  chk (¬ (y16 < 0 ∨ G.2.2 b17 ≤ y16.toNatClampNeg)) <|
  ltt (uI s11.2 b17 y16.toNatClampNeg x40) fun M41 =>
  ltt ((y16 + y9)) fun x42 =>
  ltt ((((2 : Int32)) * x39)) fun x43 =>
  ltt ((x43 + x34)) fun x44 =>
  dr G 13 ((M41.2 a 6)) fun b45 =>
  chk (¬ (x42 < 0 ∨ G.2.2 b45 ≤ x42.toNatClampNeg)) <|
  ltt (uI M41 b45 x42.toNatClampNeg x44) fun M46 =>
  ltt ((((2 : Int32)) * y9)) fun x47 =>
  ltt ((y16 + x47)) fun x48 =>
  ltt ((x22 - x28)) fun x49 =>
  dr G 13 ((M46.2 a 6)) fun b50 =>
  chk (¬ (x48 < 0 ∨ G.2.2 b50 ≤ x48.toNatClampNeg)) <|
  ltt (uI M46 b50 x48.toNatClampNeg x49) fun M51 =>
  ltt ((((3 : Int32)) * y9)) fun x52 =>
  ltt ((y16 + x52)) fun x53 =>
  ltt ((((2 : Int32)) * x34)) fun x54 =>
  ltt ((x39 - x54)) fun x55 =>
  dr G 13 ((M51.2 a 6)) fun b56 =>
  chk (¬ (x53 < 0 ∨ G.2.2 b56 ≤ x53.toNatClampNeg)) <|
  ltt (uI M51 b56 x53.toNatClampNeg x55) fun M57 =>
  ltt (s11.1 + (1 : Int32)) fun x58 =>
  some (.inl (x58, M57)))) : Option ((Int32 × DD) ⊕ (Int32 × DD)))) 1000000 ((0 : Int32), s5.2)) fun (y10 : Int32 × DD) =>
  ltt (s5.1 + (1 : Int32)) fun x13 =>
  some (.inl (x13, y10.2)))) : Option ((Int32 × DD) ⊕ (Int32 × DD)))) 1000000 ((0 : Int32), y1.2)) fun (y4 : Int32 × DD) =>
  some y4.2
set_option maxHeartbeats 4000000 in
set_option maxRecDepth 100000 in
theorem kX6_turn (l : Launch) (D : va_G) (ct : CT) (ad : Nat → Nat) (Z : Nat → Nat) (G : GG) (M : DD) (sz : Nat) (a : Nat) (p0 : Option Nat) (p1 : Int32) (p2 : Int32) (p3 : Int32) (p4 : Int32) (y : DD) (hc : a < G.1) (hk : G.2.1 a = 6) (hF : FX6_turn G M a p0 p1 p2 p3 p4 = some y) : Met l yX6_turn wuX6_turn ({ frames := 0, cells := 0, slots := 0, locals := 0 }) (va_Pc [.ref (ad a), va_re ad p0, .int p1, .int p2, .int p3, .int p4] (kB D ct ad Z G M sz)) (va_Qv (fun (_ : Unit) => True) (fun _ t => kE D ct ad G (wA ad G sz) y t) (wA ad G sz)) 0 0 (wA ad G sz) := by
  refine Met.ofW (cc := cX6_turn) (maxL := 14) (ret := none) (by decide) rfl ?_
  intro p e s m args below meth c s₁ B hml hv
  obtain ⟨rfl, hsz, hP, hK, hD0, hZ, hN⟩ := hv
  have hx := B.exec
  have hb := B.bytes
  have hr := B.returns
  have hts := atoms_spec (ws := wuX6_turn) B.pre
  have hown : s.vm.findClass RX6 = some m.cls := findClass_of_methodNamed B.named
  have hlocks := B.notSynchronized
  subst hsz
  have hD := wD_self (sz := s.heap.size) hD0
  have hA9 : ∀ q, s.heap.size ≤ q → wA ad G s.heap.size q := fun q h => Or.inr h
  generalize hAe : wA ad G s.heap.size = A at hD hA9 hZ ⊢
  have hS : va_S A s.heap s.heap [] := va_S.rf
  have hl := lv_entry ([.ref (ad a), va_re ad p0, .int p1, .int p2, .int p3, .int p4]) (n := 14) (by cases p0 <;> exact Nat.le_of_ble_eq_true rfl)
  rw [lg_entry_eq]
  generalize (lg_sl ([.ref (ad a), va_re ad p0, .int p1, .int p2, .int p3, .int p4]) ++ List.replicate (14 - (lg_sl ([.ref (ad a), va_re ad p0, .int p1, .int p2, .int p3, .int p4])).length) Slot.unset).toArray = ls at hl ⊢
  have hl : lv_has ls 14 [(0, .ref (ad a)), (1, va_re ad p0), (2, .int p1), (3, .int p2), (4, .int p3), (5, .int p4)] := by have e9 : lv_args 0 [.ref (ad a), va_re ad p0, .int p1, .int p2, .int p3, .int p4] = [(0, .ref (ad a)), (1, va_re ad p0), (2, .int p1), (3, .int p2), (4, .int p3), (5, .int p4)] := (by cases p0 <;> rfl); rw [e9] at hl; exact hl
  unfold FX6_turn at hF
  refine lv_iconst (v := (0 : Int32)) hx hb dX6_turn_0 (by decide) ?_
  refine lv_istore (lv' := [(6, .int (0 : Int32)), (0, .ref (ad a)), (1, va_re ad p0), (2, .int p1), (3, .int p2), (4, .int p3), (5, .int p4)]) hx hb dX6_turn_1 hl (by decide) rfl (fun ls hl => ?_)
  obtain ⟨y1, hy1, hF⟩ := bnd_some hF
  have K1 : ∀ (H : Heap) (locs : List Loc) (ls : Array Slot), va_P D classes (wld ct ad G y1.2) H → va_D A (wld ct ad G y1.2) → va_S A s.heap H locs → lv_has ls 14 [(6, .int y1.1), (0, .ref (ad a)), (1, va_re ad p0), (2, .int p1), (3, .int p2), (4, .int p3), (5, .int p4)] → W p l e (headSpec wuX6_turn ({ frames := 0, cells := 0, slots := 0, locals := 0 })).room s m ([.ref (ad a), va_re ad p0, .int p1, .int p2, .int p3, .int p4] : List Value).toArray below meth c H locs 0 0 (MQ below (va_Qv (fun (_ : Unit) => True) (fun _ t => kE D ct ad G A y t) A) ([.ref (ad a), va_re ad p0, .int p1, .int p2, .int p3, .int p4] : List Value).toArray s 0 0 A) (F0 m 59 ls []) := by
    intro H locs ls hP hD hS hl
    refine lv_iconst (v := (0 : Int32)) hx hb dX6_turn_59 (by decide) ?_
    refine lv_istore (lv' := [(6, .int (0 : Int32)), (0, .ref (ad a)), (1, va_re ad p0), (2, .int p1), (3, .int p2), (4, .int p3), (5, .int p4)]) hx hb dX6_turn_60 hl (by decide) rfl (fun ls hl => ?_)
    obtain ⟨y4, hy4, hF⟩ := bnd_some hF
    have K4 : ∀ (H : Heap) (locs : List Loc) (ls : Array Slot), va_P D classes (wld ct ad G y4.2) H → va_D A (wld ct ad G y4.2) → va_S A s.heap H locs → lv_has ls 14 [(6, .int y4.1), (0, .ref (ad a)), (1, va_re ad p0), (2, .int p1), (3, .int p2), (4, .int p3), (5, .int p4)] → W p l e (headSpec wuX6_turn ({ frames := 0, cells := 0, slots := 0, locals := 0 })).room s m ([.ref (ad a), va_re ad p0, .int p1, .int p2, .int p3, .int p4] : List Value).toArray below meth c H locs 0 0 (MQ below (va_Qv (fun (_ : Unit) => True) (fun _ t => kE D ct ad G A y t) A) ([.ref (ad a), va_re ad p0, .int p1, .int p2, .int p3, .int p4] : List Value).toArray s 0 0 A) (F0 m 276 ls []) := by
      intro H locs ls hP hD hS hl
      obtain rfl := Option.some.inj hF
      exact W.vret hx hb hr (fun t ht hW => ⟨⟨(), rfl, trivial, ⟨by rw [ht]; exact hP, va_K.moved hW.alike hK, hD⟩⟩, hS.F ht⟩) hS.2.2 dX6_turn_276
    clear hF
    refine itr_rule (fun (s5 : Int32 × DD) => ∀ (H : Heap) (locs : List Loc) (ls : Array Slot), va_P D classes (wld ct ad G s5.2) H → va_D A (wld ct ad G s5.2) → va_S A s.heap H locs → lv_has ls 14 [(6, .int s5.1), (0, .ref (ad a)), (1, va_re ad p0), (2, .int p1), (3, .int p2), (4, .int p3), (5, .int p4)] → W p l e (headSpec wuX6_turn ({ frames := 0, cells := 0, slots := 0, locals := 0 })).room s m ([.ref (ad a), va_re ad p0, .int p1, .int p2, .int p3, .int p4] : List Value).toArray below meth c H locs 0 0 (MQ below (va_Qv (fun (_ : Unit) => True) (fun _ t => kE D ct ad G A y t) A) ([.ref (ad a), va_re ad p0, .int p1, .int p2, .int p3, .int p4] : List Value).toArray s 0 0 A) (F0 m 62 ls [])) ?_ _ _ hy4 _ _ _ hP hD hS (lv_sub hl [0, 1, 2, 3, 4, 5, 6] rfl)
    rintro s5 ⟨z7, hF, hwz7⟩ H locs ls hP hD hS hl
    try dsimp only at hF
    refine lv_iload hx hb dX6_turn_62 (lv_at hl 0 rfl) ?_
    refine lv_iconst (v := (2 : Int32)) hx hb dX6_turn_64 (by decide) ?_
    refine lv_icmp_ge (tgt := 276) hx hb dX6_turn_65 (by decide) (fun c8 => ?_) (fun c8 => ?_)
    · rw [if_pos c8] at hF
      obtain rfl := Option.some.inj hF
      subst hwz7
      exact K4 _ _ _ hP hD hS (lv_sub hl [0, 1, 2, 3, 4, 5, 6] rfl)
    · rw [if_neg c8] at hF
      refine lv_iload hx hb dX6_turn_68 (lv_at hl 0 rfl) ?_
      obtain ⟨y9, hy9, hF⟩ := bnd_some hF
      have J9 : ∀ (H : Heap) (locs : List Loc) (ls : Array Slot), va_P D classes (wld ct ad G s5.2) H → va_D A (wld ct ad G s5.2) → va_S A s.heap H locs → lv_has ls 14 [(6, .int s5.1), (0, .ref (ad a)), (1, va_re ad p0), (2, .int p1), (3, .int p2), (4, .int p3), (5, .int p4)] → W p l e (headSpec wuX6_turn ({ frames := 0, cells := 0, slots := 0, locals := 0 })).room s m ([.ref (ad a), va_re ad p0, .int p1, .int p2, .int p3, .int p4] : List Value).toArray below meth c H locs 0 0 (MQ below (va_Qv (fun (_ : Unit) => True) (fun _ t => kE D ct ad G A y t) A) ([.ref (ad a), va_re ad p0, .int p1, .int p2, .int p3, .int p4] : List Value).toArray s 0 0 A) (F0 m 78 ls [.int y9]) := by
        intro H locs ls hP hD hS hl
        refine lv_istore (lv' := [(7, .int y9), (6, .int s5.1), (0, .ref (ad a)), (1, va_re ad p0), (2, .int p1), (3, .int p2), (4, .int p3), (5, .int p4)]) hx hb dX6_turn_78 hl (by decide) rfl (fun ls hl => ?_)
        refine lv_iconst (v := (0 : Int32)) hx hb dX6_turn_80 (by decide) ?_
        refine lv_istore (lv' := [(8, .int (0 : Int32)), (7, .int y9), (6, .int s5.1), (0, .ref (ad a)), (1, va_re ad p0), (2, .int p1), (3, .int p2), (4, .int p3), (5, .int p4)]) hx hb dX6_turn_81 hl (by decide) rfl (fun ls hl => ?_)
        obtain ⟨y10, hy10, hF⟩ := bnd_some hF
        have K10 : ∀ (H : Heap) (locs : List Loc) (ls : Array Slot), va_P D classes (wld ct ad G y10.2) H → va_D A (wld ct ad G y10.2) → va_S A s.heap H locs → lv_has ls 14 [(8, .int y10.1), (7, .int y9), (6, .int s5.1), (0, .ref (ad a)), (1, va_re ad p0), (2, .int p1), (3, .int p2), (4, .int p3), (5, .int p4)] → W p l e (headSpec wuX6_turn ({ frames := 0, cells := 0, slots := 0, locals := 0 })).room s m ([.ref (ad a), va_re ad p0, .int p1, .int p2, .int p3, .int p4] : List Value).toArray below meth c H locs 0 0 (MQ below (va_Qv (fun (_ : Unit) => True) (fun _ t => kE D ct ad G A y t) A) ([.ref (ad a), va_re ad p0, .int p1, .int p2, .int p3, .int p4] : List Value).toArray s 0 0 A) (F0 m 270 ls []) := by
          intro H locs ls hP hD hS hl
          obtain ⟨x13, ex13, hF⟩ := ltt_some hF
          refine lv_iinc (v := x13) (lv' := [(6, .int x13), (8, .int y10.1), (7, .int y9), (0, .ref (ad a)), (1, va_re ad p0), (2, .int p1), (3, .int p2), (4, .int p3), (5, .int p4)]) hx hb dX6_turn_270 hl (k := 2) rfl (by rw [ex13]; rfl) (by decide) rfl (fun ls hl => ?_)
          refine lv_goto (tgt := 62) hx hb dX6_turn_273 (by decide) ?_
          obtain rfl := Option.some.inj hF
          exact hwz7 _ _ _ hP hD hS (lv_sub hl [0, 3, 4, 5, 6, 7, 8] rfl)
        clear hF
        refine itr_rule (fun (s11 : Int32 × DD) => ∀ (H : Heap) (locs : List Loc) (ls : Array Slot), va_P D classes (wld ct ad G s11.2) H → va_D A (wld ct ad G s11.2) → va_S A s.heap H locs → lv_has ls 14 [(8, .int s11.1), (7, .int y9), (6, .int s5.1), (0, .ref (ad a)), (1, va_re ad p0), (2, .int p1), (3, .int p2), (4, .int p3), (5, .int p4)] → W p l e (headSpec wuX6_turn ({ frames := 0, cells := 0, slots := 0, locals := 0 })).room s m ([.ref (ad a), va_re ad p0, .int p1, .int p2, .int p3, .int p4] : List Value).toArray below meth c H locs 0 0 (MQ below (va_Qv (fun (_ : Unit) => True) (fun _ t => kE D ct ad G A y t) A) ([.ref (ad a), va_re ad p0, .int p1, .int p2, .int p3, .int p4] : List Value).toArray s 0 0 A) (F0 m 83 ls [])) ?_ _ _ hy10 _ _ _ hP hD hS (lv_sub hl [0, 1, 2, 3, 4, 5, 6, 7, 8] rfl)
        rintro s11 ⟨z14, hF, hwz14⟩ H locs ls hP hD hS hl
        try dsimp only at hF
        refine lv_iload hx hb dX6_turn_83 (lv_at hl 0 rfl) ?_
        refine lv_iconst (v := (4 : Int32)) hx hb dX6_turn_85 (by decide) ?_
        refine lv_icmp_ge (tgt := 270) hx hb dX6_turn_86 (by decide) (fun c15 => ?_) (fun c15 => ?_)
        · rw [if_pos c15] at hF
          obtain rfl := Option.some.inj hF
          subst hwz14
          exact K10 _ _ _ hP hD hS (lv_sub hl [0, 1, 2, 3, 4, 5, 6, 7, 8] rfl)
        · rw [if_neg c15] at hF
          refine lv_iload hx hb dX6_turn_89 (lv_at hl 2 rfl) ?_
          obtain ⟨y16, hy16, hF⟩ := bnd_some hF
          have J16 : ∀ (H : Heap) (locs : List Loc) (ls : Array Slot), va_P D classes (wld ct ad G s11.2) H → va_D A (wld ct ad G s11.2) → va_S A s.heap H locs → lv_has ls 14 [(8, .int s11.1), (7, .int y9), (6, .int s5.1), (0, .ref (ad a)), (1, va_re ad p0), (2, .int p1), (3, .int p2), (4, .int p3), (5, .int p4)] → W p l e (headSpec wuX6_turn ({ frames := 0, cells := 0, slots := 0, locals := 0 })).room s m ([.ref (ad a), va_re ad p0, .int p1, .int p2, .int p3, .int p4] : List Value).toArray below meth c H locs 0 0 (MQ below (va_Qv (fun (_ : Unit) => True) (fun _ t => kE D ct ad G A y t) A) ([.ref (ad a), va_re ad p0, .int p1, .int p2, .int p3, .int p4] : List Value).toArray s 0 0 A) (F0 m 103 ls [.int y16]) := by
            intro H locs ls hP hD hS hl
            refine lv_istore (lv' := [(9, .int y16), (8, .int s11.1), (7, .int y9), (6, .int s5.1), (0, .ref (ad a)), (1, va_re ad p0), (2, .int p1), (3, .int p2), (4, .int p3), (5, .int p4)]) hx hb dX6_turn_103 hl (by decide) rfl (fun ls hl => ?_)
            refine lv_aload_n hx hb dX6_turn_105 rfl (lv_at hl 4 rfl) ?_
            refine va_get (D := D) (ci := 6) (v := va_re ad (s11.2.2 a 6)) (C := RX6) (T := TX6) (N := 14) hx hb hts (mus hf_X6) hown hK hP a (wld_o ct ad G s11.2 hc hk (by decide)) rfl 6 (by decide) (hts (.fieldLink RX6 30 "VideoSuite$Samples" "rest" "[I") (mu mw_542)) (fun _ h9 => h9) rfl dX6_turn_106 ?_
            refine lv_iload hx hb dX6_turn_109 (lv_at hl 0 rfl) ?_
            obtain ⟨b17, ho17, hc17, hk17, hF⟩ := dr_some hF
            refine W_st (st' := [.int y16, .ref (ad b17)]) (by rw [va_some ho17]) ?_
            obtain ⟨hvc, hF⟩ := chk_some hF
            refine va_iald hx hb hK hP b17 1 (wld_i ct ad G s11.2 hc17 hk17) rfl hvc dX6_turn_111 ?_
            obtain ⟨x18, ex18, hF⟩ := ltt_some hF
            refine lv_topi (fun zx18 ezx18 => ?_)
            obtain rfl : x18 = zx18 := ex18.trans ezx18.symm
            refine lv_aload_n hx hb dX6_turn_112 rfl (lv_at hl 4 rfl) ?_
            refine va_get (D := D) (ci := 6) (v := va_re ad (s11.2.2 a 6)) (C := RX6) (T := TX6) (N := 14) hx hb hts (mus hf_X6) hown hK hP a (wld_o ct ad G s11.2 hc hk (by decide)) rfl 6 (by decide) (hts (.fieldLink RX6 30 "VideoSuite$Samples" "rest" "[I") (mu mw_542)) (fun _ h9 => h9) rfl dX6_turn_113 ?_
            refine lv_iload hx hb dX6_turn_116 (lv_at hl 0 rfl) ?_
            refine lv_iconst (v := (3 : Int32)) hx hb dX6_turn_118 (by decide) ?_
            refine lv_iload hx hb dX6_turn_119 (lv_at hl 2 rfl) ?_
            refine lv_imul hx hb dX6_turn_121 ?_
            obtain ⟨x19, ex19, hF⟩ := ltt_some hF
            refine lv_topi (fun zx19 ezx19 => ?_)
            obtain rfl : x19 = zx19 := ex19.trans ezx19.symm
            refine lv_iadd hx hb dX6_turn_122 ?_
            obtain ⟨x20, ex20, hF⟩ := ltt_some hF
            refine lv_topi (fun zx20 ezx20 => ?_)
            obtain rfl : x20 = zx20 := ex20.trans ezx20.symm
            refine W_st (st' := [.int x20, .ref (ad b17), .int x18]) (by rw [va_some ho17]) ?_
            obtain ⟨hvc, hF⟩ := chk_some hF
            refine va_iald hx hb hK hP b17 1 (wld_i ct ad G s11.2 hc17 hk17) rfl hvc dX6_turn_123 ?_
            obtain ⟨x21, ex21, hF⟩ := ltt_some hF
            refine lv_topi (fun zx21 ezx21 => ?_)
            obtain rfl : x21 = zx21 := ex21.trans ezx21.symm
            refine lv_iadd hx hb dX6_turn_124 ?_
            obtain ⟨x22, ex22, hF⟩ := ltt_some hF
            refine lv_topi (fun zx22 ezx22 => ?_)
            obtain rfl : x22 = zx22 := ex22.trans ezx22.symm
            refine lv_istore (lv' := [(10, .int x22), (9, .int y16), (8, .int s11.1), (7, .int y9), (6, .int s5.1), (0, .ref (ad a)), (1, va_re ad p0), (2, .int p1), (3, .int p2), (4, .int p3), (5, .int p4)]) hx hb dX6_turn_125 hl (by decide) rfl (fun ls hl => ?_)
            refine lv_aload_n hx hb dX6_turn_127 rfl (lv_at hl 5 rfl) ?_
            refine va_get (D := D) (ci := 6) (v := va_re ad (s11.2.2 a 6)) (C := RX6) (T := TX6) (N := 14) hx hb hts (mus hf_X6) hown hK hP a (wld_o ct ad G s11.2 hc hk (by decide)) rfl 6 (by decide) (hts (.fieldLink RX6 30 "VideoSuite$Samples" "rest" "[I") (mu mw_542)) (fun _ h9 => h9) rfl dX6_turn_128 ?_
            refine lv_iload hx hb dX6_turn_131 (lv_at hl 1 rfl) ?_
            refine lv_iload hx hb dX6_turn_133 (lv_at hl 3 rfl) ?_
            refine lv_iadd hx hb dX6_turn_135 ?_
            obtain ⟨x23, ex23, hF⟩ := ltt_some hF
            refine lv_topi (fun zx23 ezx23 => ?_)
            obtain rfl : x23 = zx23 := ex23.trans ezx23.symm
            refine W_st (st' := [.int x23, .ref (ad b17)]) (by rw [va_some ho17]) ?_
            obtain ⟨hvc, hF⟩ := chk_some hF
            refine va_iald hx hb hK hP b17 1 (wld_i ct ad G s11.2 hc17 hk17) rfl hvc dX6_turn_136 ?_
            obtain ⟨x24, ex24, hF⟩ := ltt_some hF
            refine lv_topi (fun zx24 ezx24 => ?_)
            obtain rfl : x24 = zx24 := ex24.trans ezx24.symm
            refine lv_aload_n hx hb dX6_turn_137 rfl (lv_at hl 5 rfl) ?_
            refine va_get (D := D) (ci := 6) (v := va_re ad (s11.2.2 a 6)) (C := RX6) (T := TX6) (N := 14) hx hb hts (mus hf_X6) hown hK hP a (wld_o ct ad G s11.2 hc hk (by decide)) rfl 6 (by decide) (hts (.fieldLink RX6 30 "VideoSuite$Samples" "rest" "[I") (mu mw_542)) (fun _ h9 => h9) rfl dX6_turn_138 ?_
            refine lv_iload hx hb dX6_turn_141 (lv_at hl 1 rfl) ?_
            refine lv_iconst (v := (2 : Int32)) hx hb dX6_turn_143 (by decide) ?_
            refine lv_iload hx hb dX6_turn_144 (lv_at hl 3 rfl) ?_
            refine lv_imul hx hb dX6_turn_146 ?_
            obtain ⟨x25, ex25, hF⟩ := ltt_some hF
            refine lv_topi (fun zx25 ezx25 => ?_)
            obtain rfl : x25 = zx25 := ex25.trans ezx25.symm
            refine lv_iadd hx hb dX6_turn_147 ?_
            obtain ⟨x26, ex26, hF⟩ := ltt_some hF
            refine lv_topi (fun zx26 ezx26 => ?_)
            obtain rfl : x26 = zx26 := ex26.trans ezx26.symm
            refine W_st (st' := [.int x26, .ref (ad b17), .int x24]) (by rw [va_some ho17]) ?_
            obtain ⟨hvc, hF⟩ := chk_some hF
            refine va_iald hx hb hK hP b17 1 (wld_i ct ad G s11.2 hc17 hk17) rfl hvc dX6_turn_148 ?_
            obtain ⟨x27, ex27, hF⟩ := ltt_some hF
            refine lv_topi (fun zx27 ezx27 => ?_)
            obtain rfl : x27 = zx27 := ex27.trans ezx27.symm
            refine lv_iadd hx hb dX6_turn_149 ?_
            obtain ⟨x28, ex28, hF⟩ := ltt_some hF
            refine lv_topi (fun zx28 ezx28 => ?_)
            obtain rfl : x28 = zx28 := ex28.trans ezx28.symm
            refine lv_istore (lv' := [(11, .int x28), (10, .int x22), (9, .int y16), (8, .int s11.1), (7, .int y9), (6, .int s5.1), (0, .ref (ad a)), (1, va_re ad p0), (2, .int p1), (3, .int p2), (4, .int p3), (5, .int p4)]) hx hb dX6_turn_150 hl (by decide) rfl (fun ls hl => ?_)
            refine lv_aload_n hx hb dX6_turn_152 rfl (lv_at hl 6 rfl) ?_
            refine va_get (D := D) (ci := 6) (v := va_re ad (s11.2.2 a 6)) (C := RX6) (T := TX6) (N := 14) hx hb hts (mus hf_X6) hown hK hP a (wld_o ct ad G s11.2 hc hk (by decide)) rfl 6 (by decide) (hts (.fieldLink RX6 30 "VideoSuite$Samples" "rest" "[I") (mu mw_542)) (fun _ h9 => h9) rfl dX6_turn_153 ?_
            refine lv_iload hx hb dX6_turn_156 (lv_at hl 2 rfl) ?_
            refine lv_iload hx hb dX6_turn_158 (lv_at hl 4 rfl) ?_
            refine lv_iadd hx hb dX6_turn_160 ?_
            obtain ⟨x29, ex29, hF⟩ := ltt_some hF
            refine lv_topi (fun zx29 ezx29 => ?_)
            obtain rfl : x29 = zx29 := ex29.trans ezx29.symm
            refine W_st (st' := [.int x29, .ref (ad b17)]) (by rw [va_some ho17]) ?_
            obtain ⟨hvc, hF⟩ := chk_some hF
            refine va_iald hx hb hK hP b17 1 (wld_i ct ad G s11.2 hc17 hk17) rfl hvc dX6_turn_161 ?_
            obtain ⟨x30, ex30, hF⟩ := ltt_some hF
            refine lv_topi (fun zx30 ezx30 => ?_)
            obtain rfl : x30 = zx30 := ex30.trans ezx30.symm
            refine lv_aload_n hx hb dX6_turn_162 rfl (lv_at hl 6 rfl) ?_
            refine va_get (D := D) (ci := 6) (v := va_re ad (s11.2.2 a 6)) (C := RX6) (T := TX6) (N := 14) hx hb hts (mus hf_X6) hown hK hP a (wld_o ct ad G s11.2 hc hk (by decide)) rfl 6 (by decide) (hts (.fieldLink RX6 30 "VideoSuite$Samples" "rest" "[I") (mu mw_542)) (fun _ h9 => h9) rfl dX6_turn_163 ?_
            refine lv_iload hx hb dX6_turn_166 (lv_at hl 2 rfl) ?_
            refine lv_iconst (v := (2 : Int32)) hx hb dX6_turn_168 (by decide) ?_
            refine lv_iload hx hb dX6_turn_169 (lv_at hl 4 rfl) ?_
            refine lv_imul hx hb dX6_turn_171 ?_
            obtain ⟨x31, ex31, hF⟩ := ltt_some hF
            refine lv_topi (fun zx31 ezx31 => ?_)
            obtain rfl : x31 = zx31 := ex31.trans ezx31.symm
            refine lv_iadd hx hb dX6_turn_172 ?_
            obtain ⟨x32, ex32, hF⟩ := ltt_some hF
            refine lv_topi (fun zx32 ezx32 => ?_)
            obtain rfl : x32 = zx32 := ex32.trans ezx32.symm
            refine W_st (st' := [.int x32, .ref (ad b17), .int x30]) (by rw [va_some ho17]) ?_
            obtain ⟨hvc, hF⟩ := chk_some hF
            refine va_iald hx hb hK hP b17 1 (wld_i ct ad G s11.2 hc17 hk17) rfl hvc dX6_turn_173 ?_
            obtain ⟨x33, ex33, hF⟩ := ltt_some hF
            refine lv_topi (fun zx33 ezx33 => ?_)
            obtain rfl : x33 = zx33 := ex33.trans ezx33.symm
            refine lv_isub hx hb dX6_turn_174 ?_
            obtain ⟨x34, ex34, hF⟩ := ltt_some hF
            refine lv_topi (fun zx34 ezx34 => ?_)
            obtain rfl : x34 = zx34 := ex34.trans ezx34.symm
            refine lv_istore (lv' := [(12, .int x34), (11, .int x28), (10, .int x22), (9, .int y16), (8, .int s11.1), (7, .int y9), (6, .int s5.1), (0, .ref (ad a)), (1, va_re ad p0), (2, .int p1), (3, .int p2), (4, .int p3), (5, .int p4)]) hx hb dX6_turn_175 hl (by decide) rfl (fun ls hl => ?_)
            refine lv_aload_n hx hb dX6_turn_177 rfl (lv_at hl 7 rfl) ?_
            refine va_get (D := D) (ci := 6) (v := va_re ad (s11.2.2 a 6)) (C := RX6) (T := TX6) (N := 14) hx hb hts (mus hf_X6) hown hK hP a (wld_o ct ad G s11.2 hc hk (by decide)) rfl 6 (by decide) (hts (.fieldLink RX6 30 "VideoSuite$Samples" "rest" "[I") (mu mw_542)) (fun _ h9 => h9) rfl dX6_turn_178 ?_
            refine lv_iload hx hb dX6_turn_181 (lv_at hl 3 rfl) ?_
            refine W_st (st' := [.int y16, .ref (ad b17)]) (by rw [va_some ho17]) ?_
            obtain ⟨hvc, hF⟩ := chk_some hF
            refine va_iald hx hb hK hP b17 1 (wld_i ct ad G s11.2 hc17 hk17) rfl hvc dX6_turn_183 ?_
            obtain ⟨x35, ex35, hF⟩ := ltt_some hF
            refine lv_topi (fun zx35 ezx35 => ?_)
            obtain rfl : x35 = zx35 := ex35.trans ezx35.symm
            refine lv_aload_n hx hb dX6_turn_184 rfl (lv_at hl 7 rfl) ?_
            refine va_get (D := D) (ci := 6) (v := va_re ad (s11.2.2 a 6)) (C := RX6) (T := TX6) (N := 14) hx hb hts (mus hf_X6) hown hK hP a (wld_o ct ad G s11.2 hc hk (by decide)) rfl 6 (by decide) (hts (.fieldLink RX6 30 "VideoSuite$Samples" "rest" "[I") (mu mw_542)) (fun _ h9 => h9) rfl dX6_turn_185 ?_
            refine lv_iload hx hb dX6_turn_188 (lv_at hl 3 rfl) ?_
            refine lv_iconst (v := (3 : Int32)) hx hb dX6_turn_190 (by decide) ?_
            refine lv_iload hx hb dX6_turn_191 (lv_at hl 5 rfl) ?_
            refine lv_imul hx hb dX6_turn_193 ?_
            obtain ⟨x36, ex36, hF⟩ := ltt_some hF
            refine lv_topi (fun zx36 ezx36 => ?_)
            obtain rfl : x36 = zx36 := ex36.trans ezx36.symm
            refine lv_iadd hx hb dX6_turn_194 ?_
            obtain ⟨x37, ex37, hF⟩ := ltt_some hF
            refine lv_topi (fun zx37 ezx37 => ?_)
            obtain rfl : x37 = zx37 := ex37.trans ezx37.symm
            refine W_st (st' := [.int x37, .ref (ad b17), .int x35]) (by rw [va_some ho17]) ?_
            obtain ⟨hvc, hF⟩ := chk_some hF
            refine va_iald hx hb hK hP b17 1 (wld_i ct ad G s11.2 hc17 hk17) rfl hvc dX6_turn_195 ?_
            obtain ⟨x38, ex38, hF⟩ := ltt_some hF
            refine lv_topi (fun zx38 ezx38 => ?_)
            obtain rfl : x38 = zx38 := ex38.trans ezx38.symm
            refine lv_isub hx hb dX6_turn_196 ?_
            obtain ⟨x39, ex39, hF⟩ := ltt_some hF
            refine lv_topi (fun zx39 ezx39 => ?_)
            obtain rfl : x39 = zx39 := ex39.trans ezx39.symm
            refine lv_istore (lv' := [(13, .int x39), (12, .int x34), (11, .int x28), (10, .int x22), (9, .int y16), (8, .int s11.1), (7, .int y9), (6, .int s5.1), (0, .ref (ad a)), (1, va_re ad p0), (2, .int p1), (3, .int p2), (4, .int p3), (5, .int p4)]) hx hb dX6_turn_197 hl (by decide) rfl (fun ls hl => ?_)
            refine lv_aload_n hx hb dX6_turn_199 rfl (lv_at hl 8 rfl) ?_
            refine va_get (D := D) (ci := 6) (v := va_re ad (s11.2.2 a 6)) (C := RX6) (T := TX6) (N := 14) hx hb hts (mus hf_X6) hown hK hP a (wld_o ct ad G s11.2 hc hk (by decide)) rfl 6 (by decide) (hts (.fieldLink RX6 30 "VideoSuite$Samples" "rest" "[I") (mu mw_542)) (fun _ h9 => h9) rfl dX6_turn_200 ?_
            refine lv_iload hx hb dX6_turn_203 (lv_at hl 4 rfl) ?_
            refine lv_iload hx hb dX6_turn_205 (lv_at hl 3 rfl) ?_
            refine lv_iload hx hb dX6_turn_207 (lv_at hl 2 rfl) ?_
            refine lv_iadd hx hb dX6_turn_209 ?_
            obtain ⟨x40, ex40, hF⟩ := ltt_some hF
            refine lv_topi (fun zx40 ezx40 => ?_)
            obtain rfl : x40 = zx40 := ex40.trans ezx40.symm
            refine W_st (st' := [.int x40, .int y16, .ref (ad b17)]) (by rw [va_some ho17]) ?_
            obtain ⟨hvc, hF⟩ := chk_some hF
            refine va_iast hx hb hK hP hD hS b17 1 (wld_i ct ad G s11.2 hc17 hk17) rfl hvc dX6_turn_210 (fun H locs hP hD hS => ?_)
            obtain ⟨M41, eM41, hF⟩ := ltt_some hF
            rw [set_i ct ad G s11.2 hc17 hk17, ← eM41] at hP hD
            refine lv_aload_n hx hb dX6_turn_211 rfl (lv_at hl 8 rfl) ?_
            refine va_get (D := D) (ci := 6) (v := va_re ad (M41.2 a 6)) (C := RX6) (T := TX6) (N := 14) hx hb hts (mus hf_X6) hown hK hP a (wld_o ct ad G M41 hc hk (by decide)) rfl 6 (by decide) (hts (.fieldLink RX6 30 "VideoSuite$Samples" "rest" "[I") (mu mw_542)) (fun _ h9 => h9) rfl dX6_turn_212 ?_
            refine lv_iload hx hb dX6_turn_215 (lv_at hl 4 rfl) ?_
            refine lv_iload hx hb dX6_turn_217 (lv_at hl 6 rfl) ?_
            refine lv_iadd hx hb dX6_turn_219 ?_
            obtain ⟨x42, ex42, hF⟩ := ltt_some hF
            refine lv_topi (fun zx42 ezx42 => ?_)
            obtain rfl : x42 = zx42 := ex42.trans ezx42.symm
            refine lv_iconst (v := (2 : Int32)) hx hb dX6_turn_220 (by decide) ?_
            refine lv_iload hx hb dX6_turn_221 (lv_at hl 0 rfl) ?_
            refine lv_imul hx hb dX6_turn_223 ?_
            obtain ⟨x43, ex43, hF⟩ := ltt_some hF
            refine lv_topi (fun zx43 ezx43 => ?_)
            obtain rfl : x43 = zx43 := ex43.trans ezx43.symm
            refine lv_iload hx hb dX6_turn_224 (lv_at hl 1 rfl) ?_
            refine lv_iadd hx hb dX6_turn_226 ?_
            obtain ⟨x44, ex44, hF⟩ := ltt_some hF
            refine lv_topi (fun zx44 ezx44 => ?_)
            obtain rfl : x44 = zx44 := ex44.trans ezx44.symm
            obtain ⟨b45, ho45, hc45, hk45, hF⟩ := dr_some hF
            refine W_st (st' := [.int x44, .int x42, .ref (ad b45)]) (by rw [va_some ho45]) ?_
            obtain ⟨hvc, hF⟩ := chk_some hF
            refine va_iast hx hb hK hP hD hS b45 1 (wld_i ct ad G M41 hc45 hk45) rfl hvc dX6_turn_227 (fun H locs hP hD hS => ?_)
            obtain ⟨M46, eM46, hF⟩ := ltt_some hF
            rw [set_i ct ad G M41 hc45 hk45, ← eM46] at hP hD
            refine lv_aload_n hx hb dX6_turn_228 rfl (lv_at hl 8 rfl) ?_
            refine va_get (D := D) (ci := 6) (v := va_re ad (M46.2 a 6)) (C := RX6) (T := TX6) (N := 14) hx hb hts (mus hf_X6) hown hK hP a (wld_o ct ad G M46 hc hk (by decide)) rfl 6 (by decide) (hts (.fieldLink RX6 30 "VideoSuite$Samples" "rest" "[I") (mu mw_542)) (fun _ h9 => h9) rfl dX6_turn_229 ?_
            refine lv_iload hx hb dX6_turn_232 (lv_at hl 4 rfl) ?_
            refine lv_iconst (v := (2 : Int32)) hx hb dX6_turn_234 (by decide) ?_
            refine lv_iload hx hb dX6_turn_235 (lv_at hl 6 rfl) ?_
            refine lv_imul hx hb dX6_turn_237 ?_
            obtain ⟨x47, ex47, hF⟩ := ltt_some hF
            refine lv_topi (fun zx47 ezx47 => ?_)
            obtain rfl : x47 = zx47 := ex47.trans ezx47.symm
            refine lv_iadd hx hb dX6_turn_238 ?_
            obtain ⟨x48, ex48, hF⟩ := ltt_some hF
            refine lv_topi (fun zx48 ezx48 => ?_)
            obtain rfl : x48 = zx48 := ex48.trans ezx48.symm
            refine lv_iload hx hb dX6_turn_239 (lv_at hl 3 rfl) ?_
            refine lv_iload hx hb dX6_turn_241 (lv_at hl 2 rfl) ?_
            refine lv_isub hx hb dX6_turn_243 ?_
            obtain ⟨x49, ex49, hF⟩ := ltt_some hF
            refine lv_topi (fun zx49 ezx49 => ?_)
            obtain rfl : x49 = zx49 := ex49.trans ezx49.symm
            obtain ⟨b50, ho50, hc50, hk50, hF⟩ := dr_some hF
            refine W_st (st' := [.int x49, .int x48, .ref (ad b50)]) (by rw [va_some ho50]) ?_
            obtain ⟨hvc, hF⟩ := chk_some hF
            refine va_iast hx hb hK hP hD hS b50 1 (wld_i ct ad G M46 hc50 hk50) rfl hvc dX6_turn_244 (fun H locs hP hD hS => ?_)
            obtain ⟨M51, eM51, hF⟩ := ltt_some hF
            rw [set_i ct ad G M46 hc50 hk50, ← eM51] at hP hD
            refine lv_aload_n hx hb dX6_turn_245 rfl (lv_at hl 8 rfl) ?_
            refine va_get (D := D) (ci := 6) (v := va_re ad (M51.2 a 6)) (C := RX6) (T := TX6) (N := 14) hx hb hts (mus hf_X6) hown hK hP a (wld_o ct ad G M51 hc hk (by decide)) rfl 6 (by decide) (hts (.fieldLink RX6 30 "VideoSuite$Samples" "rest" "[I") (mu mw_542)) (fun _ h9 => h9) rfl dX6_turn_246 ?_
            refine lv_iload hx hb dX6_turn_249 (lv_at hl 4 rfl) ?_
            refine lv_iconst (v := (3 : Int32)) hx hb dX6_turn_251 (by decide) ?_
            refine lv_iload hx hb dX6_turn_252 (lv_at hl 6 rfl) ?_
            refine lv_imul hx hb dX6_turn_254 ?_
            obtain ⟨x52, ex52, hF⟩ := ltt_some hF
            refine lv_topi (fun zx52 ezx52 => ?_)
            obtain rfl : x52 = zx52 := ex52.trans ezx52.symm
            refine lv_iadd hx hb dX6_turn_255 ?_
            obtain ⟨x53, ex53, hF⟩ := ltt_some hF
            refine lv_topi (fun zx53 ezx53 => ?_)
            obtain rfl : x53 = zx53 := ex53.trans ezx53.symm
            refine lv_iload hx hb dX6_turn_256 (lv_at hl 0 rfl) ?_
            refine lv_iconst (v := (2 : Int32)) hx hb dX6_turn_258 (by decide) ?_
            refine lv_iload hx hb dX6_turn_259 (lv_at hl 1 rfl) ?_
            refine lv_imul hx hb dX6_turn_261 ?_
            obtain ⟨x54, ex54, hF⟩ := ltt_some hF
            refine lv_topi (fun zx54 ezx54 => ?_)
            obtain rfl : x54 = zx54 := ex54.trans ezx54.symm
            refine lv_isub hx hb dX6_turn_262 ?_
            obtain ⟨x55, ex55, hF⟩ := ltt_some hF
            refine lv_topi (fun zx55 ezx55 => ?_)
            obtain rfl : x55 = zx55 := ex55.trans ezx55.symm
            obtain ⟨b56, ho56, hc56, hk56, hF⟩ := dr_some hF
            refine W_st (st' := [.int x55, .int x53, .ref (ad b56)]) (by rw [va_some ho56]) ?_
            obtain ⟨hvc, hF⟩ := chk_some hF
            refine va_iast hx hb hK hP hD hS b56 1 (wld_i ct ad G M51 hc56 hk56) rfl hvc dX6_turn_263 (fun H locs hP hD hS => ?_)
            obtain ⟨M57, eM57, hF⟩ := ltt_some hF
            rw [set_i ct ad G M51 hc56 hk56, ← eM57] at hP hD
            obtain ⟨x58, ex58, hF⟩ := ltt_some hF
            refine lv_iinc (v := x58) (lv' := [(8, .int x58), (13, .int x39), (12, .int x34), (11, .int x28), (10, .int x22), (9, .int y16), (7, .int y9), (6, .int s5.1), (0, .ref (ad a)), (1, va_re ad p0), (2, .int p1), (3, .int p2), (4, .int p3), (5, .int p4)]) hx hb dX6_turn_264 hl (k := 5) rfl (by rw [ex58]; rfl) (by decide) rfl (fun ls hl => ?_)
            refine lv_goto (tgt := 83) hx hb dX6_turn_267 (by decide) ?_
            obtain rfl := Option.some.inj hF
            exact hwz14 _ _ _ hP hD hS (lv_sub hl [0, 6, 7, 8, 9, 10, 11, 12, 13] rfl)
          clear hF
          have hF := hy16
          clear hy16
          refine lv_if_ne (tgt := 101) hx hb dX6_turn_91 (by decide) (fun c59 => ?_) (fun c59 => ?_)
          · rw [if_neg c59] at hF
            refine lv_iload hx hb dX6_turn_101 (lv_at hl 0 rfl) ?_
            obtain rfl := Option.some.inj hF
            exact J16 _ _ _ hP hD hS (lv_sub hl [0, 1, 2, 3, 4, 5, 6, 7, 8] rfl)
          · rw [if_pos c59] at hF
            refine lv_iconst (v := (4 : Int32)) hx hb dX6_turn_94 (by decide) ?_
            refine lv_iload hx hb dX6_turn_95 (lv_at hl 0 rfl) ?_
            refine lv_imul hx hb dX6_turn_97 ?_
            obtain ⟨x60, ex60, hF⟩ := ltt_some hF
            refine lv_topi (fun zx60 ezx60 => ?_)
            obtain rfl : x60 = zx60 := ex60.trans ezx60.symm
            refine lv_goto (tgt := 103) hx hb dX6_turn_98 (by decide) ?_
            obtain rfl := Option.some.inj hF
            exact J16 _ _ _ hP hD hS (lv_sub hl [0, 1, 2, 3, 4, 5, 6, 7, 8] rfl)
      clear hF
      have hF := hy9
      clear hy9
      refine lv_if_ne (tgt := 77) hx hb dX6_turn_70 (by decide) (fun c61 => ?_) (fun c61 => ?_)
      · rw [if_neg c61] at hF
        refine lv_iconst (v := (4 : Int32)) hx hb dX6_turn_77 (by decide) ?_
        obtain rfl := Option.some.inj hF
        exact J9 _ _ _ hP hD hS (lv_sub hl [0, 1, 2, 3, 4, 5, 6] rfl)
      · rw [if_pos c61] at hF
        refine lv_iconst (v := (1 : Int32)) hx hb dX6_turn_73 (by decide) ?_
        refine lv_goto (tgt := 78) hx hb dX6_turn_74 (by decide) ?_
        obtain rfl := Option.some.inj hF
        exact J9 _ _ _ hP hD hS (lv_sub hl [0, 1, 2, 3, 4, 5, 6] rfl)
  clear hF
  refine itr_rule (fun (s2 : Int32 × DD) => ∀ (H : Heap) (locs : List Loc) (ls : Array Slot), va_P D classes (wld ct ad G s2.2) H → va_D A (wld ct ad G s2.2) → va_S A s.heap H locs → lv_has ls 14 [(6, .int s2.1), (0, .ref (ad a)), (1, va_re ad p0), (2, .int p1), (3, .int p2), (4, .int p3), (5, .int p4)] → W p l e (headSpec wuX6_turn ({ frames := 0, cells := 0, slots := 0, locals := 0 })).room s m ([.ref (ad a), va_re ad p0, .int p1, .int p2, .int p3, .int p4] : List Value).toArray below meth c H locs 0 0 (MQ below (va_Qv (fun (_ : Unit) => True) (fun _ t => kE D ct ad G A y t) A) ([.ref (ad a), va_re ad p0, .int p1, .int p2, .int p3, .int p4] : List Value).toArray s 0 0 A) (F0 m 3 ls [])) ?_ _ _ hy1 _ _ _ hP hD hS (lv_sub hl [0, 1, 2, 3, 4, 5, 6] rfl)
  rintro s2 ⟨z62, hF, hwz62⟩ H locs ls hP hD hS hl
  try dsimp only at hF
  refine lv_iload hx hb dX6_turn_3 (lv_at hl 0 rfl) ?_
  refine lv_bipush (v := (16 : Int32)) hx hb dX6_turn_5 (by decide) ?_
  refine lv_icmp_ge (tgt := 59) hx hb dX6_turn_7 (by decide) (fun c63 => ?_) (fun c63 => ?_)
  · rw [if_pos c63] at hF
    obtain rfl := Option.some.inj hF
    subst hwz62
    exact K1 _ _ _ hP hD hS (lv_sub hl [0, 1, 2, 3, 4, 5, 6] rfl)
  · rw [if_neg c63] at hF
    refine lv_aload_n hx hb dX6_turn_10 rfl (lv_at hl 1 rfl) ?_
    refine va_get (D := D) (ci := 6) (v := va_re ad (s2.2.2 a 6)) (C := RX6) (T := TX6) (N := 14) hx hb hts (mus hf_X6) hown hK hP a (wld_o ct ad G s2.2 hc hk (by decide)) rfl 6 (by decide) (hts (.fieldLink RX6 30 "VideoSuite$Samples" "rest" "[I") (mu mw_542)) (fun _ h9 => h9) rfl dX6_turn_11 ?_
    refine lv_iload hx hb dX6_turn_14 (lv_at hl 0 rfl) ?_
    refine lv_aloadq_n hx hb dX6_turn_16 rfl (lv_at hl 2 rfl) ?_
    refine lv_iload_n hx hb dX6_turn_17 rfl (lv_at hl 3 rfl) ?_
    refine lv_iload hx hb dX6_turn_18 (lv_at hl 0 rfl) ?_
    refine lv_iconst (v := (4 : Int32)) hx hb dX6_turn_20 (by decide) ?_
    refine lv_idiv hx hb dX6_turn_21 (by decide) ?_
    obtain ⟨x64, ex64, hF⟩ := ltt_some hF
    refine lv_topi (fun zx64 ezx64 => ?_)
    obtain rfl : x64 = zx64 := ex64.trans ezx64.symm
    refine lv_iload_n hx hb dX6_turn_22 rfl (lv_at hl 4 rfl) ?_
    refine lv_imul hx hb dX6_turn_23 ?_
    obtain ⟨x65, ex65, hF⟩ := ltt_some hF
    refine lv_topi (fun zx65 ezx65 => ?_)
    obtain rfl : x65 = zx65 := ex65.trans ezx65.symm
    refine lv_iadd hx hb dX6_turn_24 ?_
    obtain ⟨x66, ex66, hF⟩ := ltt_some hF
    refine lv_topi (fun zx66 ezx66 => ?_)
    obtain rfl : x66 = zx66 := ex66.trans ezx66.symm
    refine lv_iload hx hb dX6_turn_25 (lv_at hl 0 rfl) ?_
    refine lv_iconst (v := (4 : Int32)) hx hb dX6_turn_27 (by decide) ?_
    refine lv_irem hx hb dX6_turn_28 (by decide) ?_
    obtain ⟨x67, ex67, hF⟩ := ltt_some hF
    refine lv_topi (fun zx67 ezx67 => ?_)
    obtain rfl : x67 = zx67 := ex67.trans ezx67.symm
    refine lv_iadd hx hb dX6_turn_29 ?_
    obtain ⟨x68, ex68, hF⟩ := ltt_some hF
    refine lv_topi (fun zx68 ezx68 => ?_)
    obtain rfl : x68 = zx68 := ex68.trans ezx68.symm
    obtain ⟨b69, ho69, hc69, hk69, hF⟩ := dr_some hF
    refine W_st (st' := [.int x68, .ref (ad b69), .int s2.1, va_re ad (s2.2.2 a 6)]) (by rw [va_some ho69]) ?_
    obtain ⟨hvc, hF⟩ := chk_some hF
    refine va_iald hx hb hK hP b69 1 (wld_i ct ad G s2.2 hc69 hk69) rfl hvc dX6_turn_30 ?_
    obtain ⟨x70, ex70, hF⟩ := ltt_some hF
    refine lv_topi (fun zx70 ezx70 => ?_)
    obtain rfl : x70 = zx70 := ex70.trans ezx70.symm
    refine lv_aload_n hx hb dX6_turn_31 rfl (lv_at hl 1 rfl) ?_
    refine va_get (D := D) (ci := 6) (v := va_re ad (s2.2.2 a 0)) (C := RX6) (T := TX6) (N := 14) hx hb hts (mus hf_X6) hown hK hP a (wld_o ct ad G s2.2 hc hk (by decide)) rfl 0 (by decide) (hts (.fieldLink RX6 9 "VideoSuite$Samples" "guess" "[I") (mu mw_533)) (fun _ h9 => h9) rfl dX6_turn_32 ?_
    refine lv_iload hx hb dX6_turn_35 (lv_at hl 5 rfl) ?_
    refine lv_iload hx hb dX6_turn_37 (lv_at hl 0 rfl) ?_
    refine lv_iconst (v := (4 : Int32)) hx hb dX6_turn_39 (by decide) ?_
    refine lv_idiv hx hb dX6_turn_40 (by decide) ?_
    obtain ⟨x71, ex71, hF⟩ := ltt_some hF
    refine lv_topi (fun zx71 ezx71 => ?_)
    obtain rfl : x71 = zx71 := ex71.trans ezx71.symm
    refine lv_iload hx hb dX6_turn_41 (lv_at hl 6 rfl) ?_
    refine lv_imul hx hb dX6_turn_43 ?_
    obtain ⟨x72, ex72, hF⟩ := ltt_some hF
    refine lv_topi (fun zx72 ezx72 => ?_)
    obtain rfl : x72 = zx72 := ex72.trans ezx72.symm
    refine lv_iadd hx hb dX6_turn_44 ?_
    obtain ⟨x73, ex73, hF⟩ := ltt_some hF
    refine lv_topi (fun zx73 ezx73 => ?_)
    obtain rfl : x73 = zx73 := ex73.trans ezx73.symm
    refine lv_iload hx hb dX6_turn_45 (lv_at hl 0 rfl) ?_
    refine lv_iconst (v := (4 : Int32)) hx hb dX6_turn_47 (by decide) ?_
    refine lv_irem hx hb dX6_turn_48 (by decide) ?_
    obtain ⟨x74, ex74, hF⟩ := ltt_some hF
    refine lv_topi (fun zx74 ezx74 => ?_)
    obtain rfl : x74 = zx74 := ex74.trans ezx74.symm
    refine lv_iadd hx hb dX6_turn_49 ?_
    obtain ⟨x75, ex75, hF⟩ := ltt_some hF
    refine lv_topi (fun zx75 ezx75 => ?_)
    obtain rfl : x75 = zx75 := ex75.trans ezx75.symm
    obtain ⟨b76, ho76, hc76, hk76, hF⟩ := dr_some hF
    refine W_st (st' := [.int x75, .ref (ad b76), .int x70, .int s2.1, va_re ad (s2.2.2 a 6)]) (by rw [va_some ho76]) ?_
    obtain ⟨hvc, hF⟩ := chk_some hF
    refine va_iald hx hb hK hP b76 1 (wld_i ct ad G s2.2 hc76 hk76) rfl hvc dX6_turn_50 ?_
    obtain ⟨x77, ex77, hF⟩ := ltt_some hF
    refine lv_topi (fun zx77 ezx77 => ?_)
    obtain rfl : x77 = zx77 := ex77.trans ezx77.symm
    refine lv_isub hx hb dX6_turn_51 ?_
    obtain ⟨x78, ex78, hF⟩ := ltt_some hF
    refine lv_topi (fun zx78 ezx78 => ?_)
    obtain rfl : x78 = zx78 := ex78.trans ezx78.symm
    obtain ⟨b79, ho79, hc79, hk79, hF⟩ := dr_some hF
    refine W_st (st' := [.int x78, .int s2.1, .ref (ad b79)]) (by rw [va_some ho79]) ?_
    obtain ⟨hvc, hF⟩ := chk_some hF
    refine va_iast hx hb hK hP hD hS b79 1 (wld_i ct ad G s2.2 hc79 hk79) rfl hvc dX6_turn_52 (fun H locs hP hD hS => ?_)
    obtain ⟨M80, eM80, hF⟩ := ltt_some hF
    rw [set_i ct ad G s2.2 hc79 hk79, ← eM80] at hP hD
    obtain ⟨x81, ex81, hF⟩ := ltt_some hF
    refine lv_iinc (v := x81) (lv' := [(6, .int x81), (0, .ref (ad a)), (1, va_re ad p0), (2, .int p1), (3, .int p2), (4, .int p3), (5, .int p4)]) hx hb dX6_turn_53 hl (k := 0) rfl (by rw [ex81]; rfl) (by decide) rfl (fun ls hl => ?_)
    refine lv_goto (tgt := 3) hx hb dX6_turn_56 (by decide) ?_
    obtain rfl := Option.some.inj hF
    exact hwz62 _ _ _ hP hD hS (lv_sub hl [0, 1, 2, 3, 4, 5, 6] rfl)
