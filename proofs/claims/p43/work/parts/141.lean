theorem ggX0_writePattern_X10_se : GoodIn wsX0_writePattern wsX10_se := goodIn_r _ [65, 66, 67, 14, 68, 16, 17, 18, 19, 20, 21, 22, 23, 24, 25, 26, 27, 28, 29, 30, 31, 32, 33, 34, 35, 36, 37, 38, 39, 40, 41, 42, 43, 44, 45, 46, 47, 48, 49, 50, 51, 52, 53, 54, 55, 56, 57, 58, 59, 60, 61, 110, 111, 112, 113, 114, 115, 116, 117, 118, 119, 120, 121, 122, 123, 124, 125, 126, 127, 128, 129] (by decide +kernel) (by decide +kernel)
set_option maxRecDepth 20000 in
theorem gX0_writePattern_X10_se : GoodIn wsX0_writePattern (wsV RX0 169 RX10 yX10_se wsX10_se) := goodIn_app (goodIn_of _ (by decide +kernel)) ggX0_writePattern_X10_se
theorem ggX0_writePattern_X0_isSkipped : GoodIn wsX0_writePattern wsX0_isSkipped := goodIn_r _ [10, 1, 2, 69, 70, 71, 72, 73, 74, 75, 76, 77, 78, 79, 80, 81, 82, 83, 84, 85, 86, 87, 88, 89, 90, 91, 92, 93, 94, 95, 96, 97, 98, 99, 100, 101, 102, 103, 104, 105, 106, 107, 108, 109] (by decide +kernel) (by decide +kernel)
set_option maxRecDepth 20000 in
theorem gX0_writePattern_X0_isSkipped : GoodIn wsX0_writePattern (wsV RX0 563 RX0 yX0_isSkipped wsX0_isSkipped) := goodIn_app (goodIn_of _ (by decide +kernel)) ggX0_writePattern_X0_isSkipped
set_option maxRecDepth 20000 in
theorem ggX0_writePattern_X10_ue : GoodIn wsX0_writePattern wsX10_ue := goodIn_r _ [15, 16, 17, 14, 18, 19, 20, 21, 22, 23, 24, 25, 26, 27, 28, 29, 30, 31, 32, 33, 34, 35, 36, 37, 38, 39, 40, 41, 42, 43, 44, 45, 46, 47, 48, 49, 50, 51, 52, 53, 54, 55, 56, 57, 58, 59, 60, 61, 110, 111, 112, 113, 114, 115, 116, 117, 118, 119, 120, 121, 122, 123, 124, 125, 126, 127, 128, 129] (by decide +kernel) (by decide +kernel)
set_option maxRecDepth 20000 in
theorem gX0_writePattern_X10_ue : GoodIn wsX0_writePattern (wsV RX0 162 RX10 yX10_ue wsX10_ue) := goodIn_app (goodIn_of _ (by decide +kernel)) ggX0_writePattern_X10_ue
set_option maxRecDepth 20000 in
theorem dX0_writePattern_0 : decode cX0_writePattern 0 = .ok (.bipush 8, 2) := by decide +kernel
theorem dX0_writePattern_2 : decode cX0_writePattern 2 = .ok (.iload_n 1, 1) := by decide +kernel
theorem dX0_writePattern_3 : decode cX0_writePattern 3 = .ok (.imul, 1) := by decide +kernel
theorem dX0_writePattern_4 : decode cX0_writePattern 4 = .ok (.istore_n 3, 1) := by decide +kernel
theorem dX0_writePattern_5 : decode cX0_writePattern 5 = .ok (.aload_n 0, 1) := by decide +kernel
theorem dX0_writePattern_6 : decode cX0_writePattern 6 = .ok (.getfield 36, 3) := by decide +kernel
theorem dX0_writePattern_9 : decode cX0_writePattern 9 = .ok (.getfield 216, 3) := by decide +kernel
theorem dX0_writePattern_12 : decode cX0_writePattern 12 = .ok (.iload_n 3, 1) := by decide +kernel
theorem dX0_writePattern_13 : decode cX0_writePattern 13 = .ok (.iconst 0, 1) := by decide +kernel
theorem dX0_writePattern_14 : decode cX0_writePattern 14 = .ok (.iadd, 1) := by decide +kernel
theorem dX0_writePattern_15 : decode cX0_writePattern 15 = .ok (.iaload, 1) := by decide +kernel
theorem dX0_writePattern_16 : decode cX0_writePattern 16 = .ok (.istore 4, 2) := by decide +kernel
theorem dX0_writePattern_18 : decode cX0_writePattern 18 = .ok (.iload 4, 2) := by decide +kernel
theorem dX0_writePattern_20 : decode cX0_writePattern 20 = .ok (.iconst 2, 1) := by decide +kernel
theorem dX0_writePattern_21 : decode cX0_writePattern 21 = .ok (.if_icmp .ne 4, 3) := by decide +kernel
theorem dX0_writePattern_24 : decode cX0_writePattern 24 = .ok (.return_, 1) := by decide +kernel
theorem dX0_writePattern_25 : decode cX0_writePattern 25 = .ok (.aload_n 0, 1) := by decide +kernel
theorem dX0_writePattern_26 : decode cX0_writePattern 26 = .ok (.getfield 36, 3) := by decide +kernel
theorem dX0_writePattern_29 : decode cX0_writePattern 29 = .ok (.getfield 216, 3) := by decide +kernel
theorem dX0_writePattern_32 : decode cX0_writePattern 32 = .ok (.iload_n 3, 1) := by decide +kernel
theorem dX0_writePattern_33 : decode cX0_writePattern 33 = .ok (.iconst 3, 1) := by decide +kernel
theorem dX0_writePattern_34 : decode cX0_writePattern 34 = .ok (.iadd, 1) := by decide +kernel
theorem dX0_writePattern_35 : decode cX0_writePattern 35 = .ok (.iaload, 1) := by decide +kernel
theorem dX0_writePattern_36 : decode cX0_writePattern 36 = .ok (.bipush 16, 2) := by decide +kernel
theorem dX0_writePattern_38 : decode cX0_writePattern 38 = .ok (.aload_n 0, 1) := by decide +kernel
theorem dX0_writePattern_39 : decode cX0_writePattern 39 = .ok (.getfield 36, 3) := by decide +kernel
theorem dX0_writePattern_42 : decode cX0_writePattern 42 = .ok (.getfield 216, 3) := by decide +kernel
theorem dX0_writePattern_45 : decode cX0_writePattern 45 = .ok (.iload_n 3, 1) := by decide +kernel
theorem dX0_writePattern_46 : decode cX0_writePattern 46 = .ok (.iconst 4, 1) := by decide +kernel
theorem dX0_writePattern_47 : decode cX0_writePattern 47 = .ok (.iadd, 1) := by decide +kernel
theorem dX0_writePattern_48 : decode cX0_writePattern 48 = .ok (.iaload, 1) := by decide +kernel
theorem dX0_writePattern_49 : decode cX0_writePattern 49 = .ok (.imul, 1) := by decide +kernel
theorem dX0_writePattern_50 : decode cX0_writePattern 50 = .ok (.iadd, 1) := by decide +kernel
theorem dX0_writePattern_51 : decode cX0_writePattern 51 = .ok (.istore 5, 2) := by decide +kernel
theorem dX0_writePattern_53 : decode cX0_writePattern 53 = .ok (.iload 4, 2) := by decide +kernel
theorem dX0_writePattern_55 : decode cX0_writePattern 55 = .ok (.iconst 1, 1) := by decide +kernel
theorem dX0_writePattern_56 : decode cX0_writePattern 56 = .ok (.if_icmp .eq 65, 3) := by decide +kernel
theorem dX0_writePattern_59 : decode cX0_writePattern 59 = .ok (.aload_n 0, 1) := by decide +kernel
theorem dX0_writePattern_60 : decode cX0_writePattern 60 = .ok (.iload_n 1, 1) := by decide +kernel
theorem dX0_writePattern_61 : decode cX0_writePattern 61 = .ok (.invokevirtual 563, 3) := by decide +kernel
theorem dX0_writePattern_64 : decode cX0_writePattern 64 = .ok (.ifCond .ne 57, 3) := by decide +kernel
theorem dX0_writePattern_67 : decode cX0_writePattern 67 = .ok (.iload 4, 2) := by decide +kernel
theorem dX0_writePattern_69 : decode cX0_writePattern 69 = .ok (.ifCond .ne 7, 3) := by decide +kernel
theorem dX0_writePattern_72 : decode cX0_writePattern 72 = .ok (.iconst 0, 1) := by decide +kernel
theorem dX0_writePattern_73 : decode cX0_writePattern 73 = .ok (.goto 5, 3) := by decide +kernel
theorem dX0_writePattern_76 : decode cX0_writePattern 76 = .ok (.bipush 48, 2) := by decide +kernel
theorem dX0_writePattern_78 : decode cX0_writePattern 78 = .ok (.istore 6, 2) := by decide +kernel
theorem dX0_writePattern_80 : decode cX0_writePattern 80 = .ok (.iconst 0, 1) := by decide +kernel
theorem dX0_writePattern_81 : decode cX0_writePattern 81 = .ok (.istore 7, 2) := by decide +kernel
theorem dX0_writePattern_83 : decode cX0_writePattern 83 = .ok (.iload 7, 2) := by decide +kernel
theorem dX0_writePattern_85 : decode cX0_writePattern 85 = .ok (.bipush 48, 2) := by decide +kernel
theorem dX0_writePattern_87 : decode cX0_writePattern 87 = .ok (.if_icmp .ge 34, 3) := by decide +kernel
theorem dX0_writePattern_90 : decode cX0_writePattern 90 = .ok (.getstatic 578, 3) := by decide +kernel
theorem dX0_writePattern_93 : decode cX0_writePattern 93 = .ok (.iload 6, 2) := by decide +kernel
theorem dX0_writePattern_95 : decode cX0_writePattern 95 = .ok (.iload 7, 2) := by decide +kernel
theorem dX0_writePattern_97 : decode cX0_writePattern 97 = .ok (.iadd, 1) := by decide +kernel
theorem dX0_writePattern_98 : decode cX0_writePattern 98 = .ok (.iaload, 1) := by decide +kernel
theorem dX0_writePattern_99 : decode cX0_writePattern 99 = .ok (.iload 5, 2) := by decide +kernel
theorem dX0_writePattern_101 : decode cX0_writePattern 101 = .ok (.if_icmp .ne 14, 3) := by decide +kernel
theorem dX0_writePattern_104 : decode cX0_writePattern 104 = .ok (.aload_n 0, 1) := by decide +kernel
theorem dX0_writePattern_105 : decode cX0_writePattern 105 = .ok (.getfield 29, 3) := by decide +kernel
theorem dX0_writePattern_108 : decode cX0_writePattern 108 = .ok (.bipush 9, 2) := by decide +kernel
theorem dX0_writePattern_110 : decode cX0_writePattern 110 = .ok (.iload 7, 2) := by decide +kernel
theorem dX0_writePattern_112 : decode cX0_writePattern 112 = .ok (.invokevirtual 162, 3) := by decide +kernel
theorem dX0_writePattern_115 : decode cX0_writePattern 115 = .ok (.iinc 7 1, 3) := by decide +kernel
theorem dX0_writePattern_118 : decode cX0_writePattern 118 = .ok (.goto (-35), 3) := by decide +kernel
theorem dX0_writePattern_121 : decode cX0_writePattern 121 = .ok (.iload 4, 2) := by decide +kernel
theorem dX0_writePattern_123 : decode cX0_writePattern 123 = .ok (.iconst 1, 1) := by decide +kernel
theorem dX0_writePattern_124 : decode cX0_writePattern 124 = .ok (.if_icmp .eq 8, 3) := by decide +kernel
theorem dX0_writePattern_127 : decode cX0_writePattern 127 = .ok (.iload 5, 2) := by decide +kernel
theorem dX0_writePattern_129 : decode cX0_writePattern 129 = .ok (.ifCond .le 23, 3) := by decide +kernel
theorem dX0_writePattern_132 : decode cX0_writePattern 132 = .ok (.aload_n 0, 1) := by decide +kernel
theorem dX0_writePattern_133 : decode cX0_writePattern 133 = .ok (.getfield 29, 3) := by decide +kernel
theorem dX0_writePattern_136 : decode cX0_writePattern 136 = .ok (.bipush 10, 2) := by decide +kernel
theorem dX0_writePattern_138 : decode cX0_writePattern 138 = .ok (.iload_n 2, 1) := by decide +kernel
theorem dX0_writePattern_139 : decode cX0_writePattern 139 = .ok (.aload_n 0, 1) := by decide +kernel
theorem dX0_writePattern_140 : decode cX0_writePattern 140 = .ok (.getfield 299, 3) := by decide +kernel
theorem dX0_writePattern_143 : decode cX0_writePattern 143 = .ok (.isub, 1) := by decide +kernel
theorem dX0_writePattern_144 : decode cX0_writePattern 144 = .ok (.invokevirtual 169, 3) := by decide +kernel
theorem dX0_writePattern_147 : decode cX0_writePattern 147 = .ok (.aload_n 0, 1) := by decide +kernel
theorem dX0_writePattern_148 : decode cX0_writePattern 148 = .ok (.iload_n 2, 1) := by decide +kernel
theorem dX0_writePattern_149 : decode cX0_writePattern 149 = .ok (.putfield 299, 3) := by decide +kernel
theorem dX0_writePattern_152 : decode cX0_writePattern 152 = .ok (.aload_n 0, 1) := by decide +kernel
theorem dX0_writePattern_153 : decode cX0_writePattern 153 = .ok (.getfield 36, 3) := by decide +kernel
theorem dX0_writePattern_156 : decode cX0_writePattern 156 = .ok (.getfield 216, 3) := by decide +kernel
theorem dX0_writePattern_159 : decode cX0_writePattern 159 = .ok (.iload_n 3, 1) := by decide +kernel
theorem dX0_writePattern_160 : decode cX0_writePattern 160 = .ok (.iconst 2, 1) := by decide +kernel
theorem dX0_writePattern_161 : decode cX0_writePattern 161 = .ok (.iadd, 1) := by decide +kernel
theorem dX0_writePattern_162 : decode cX0_writePattern 162 = .ok (.aload_n 0, 1) := by decide +kernel
theorem dX0_writePattern_163 : decode cX0_writePattern 163 = .ok (.getfield 299, 3) := by decide +kernel
theorem dX0_writePattern_166 : decode cX0_writePattern 166 = .ok (.iastore, 1) := by decide +kernel
theorem dX0_writePattern_167 : decode cX0_writePattern 167 = .ok (.return_, 1) := by decide +kernel
noncomputable def FX0_writePattern (G : GG) (M : DD) (a : Nat) (p0 : Int32) (p1 : Int32) : Option (NN × DD) :=
  ltt ((((8 : Int32)) * p0)) fun x1 =>
  dr (xt G []) 9 ((M.2 a 3)) fun b2 =>
  ltt ((x1 + ((0 : Int32)))) fun x3 =>
  dr (xt G []) 13 ((M.2 b2 6)) fun b4 =>
  chk (¬ (x3 < 0 ∨ (xt G []).2.2 b4 ≤ x3.toNatClampNeg)) <|
  ltt (M.1 b4 x3.toNatClampNeg) fun x5 =>
  if x5 = ((2 : Int32)) then (some ([], M)) else
  (ltt ((x1 + ((3 : Int32)))) fun x7 =>
  chk (¬ (x7 < 0 ∨ (xt G []).2.2 b4 ≤ x7.toNatClampNeg)) <|
  ltt (M.1 b4 x7.toNatClampNeg) fun x8 =>
  ltt ((x1 + ((4 : Int32)))) fun x9 =>
  chk (¬ (x9 < 0 ∨ (xt G []).2.2 b4 ≤ x9.toNatClampNeg)) <|
  ltt (M.1 b4 x9.toNatClampNeg) fun x10 =>
  ltt ((((16 : Int32)) * x10)) fun x11 =>
  ltt ((x8 + x11)) fun x12 =>
  bnd (if x5 = ((1 : Int32)) then (some ([], M)) else
  (bnd (FX0_isSkipped (xt G []) M a p0) fun y54 =>
  bnd (if y54.2 = ((0 : Int32)) then (bnd (if x5 = ((0 : Int32)) then (some ((0 : Int32))) else
  (some ((48 : Int32)))) fun (y61 : Int32) =>
  bnd (itrA (fun (s63 : NN × Int32 × DD) => ((if ((48 : Int32)) ≤ s63.2.1 then (some ([], .inr ((s63.2.1, s63.2.2)))) else
  (ltt ((y61 + s63.2.1)) fun x73 =>
  chk (¬ (x73 < 0 ∨ 96 ≤ x73.toNatClampNeg)) <|
  ltt ((sT 9).getD x73.toNatClampNeg 0) fun x74 =>
  bnd (if x74 = x12 then (dr (xt G s63.1) 10 ((s63.2.2.2 a 2)) fun b82 =>
  bnd (FX10_ue (xt G s63.1) s63.2.2 b82 ((9 : Int32)) s63.2.1) fun y83 =>
  app y83.1 <|
  ltt (s63.1 ++ y83.1) fun L85 =>
  some ([], y83.2)) else
  (some ([], s63.2.2))) fun (y75 : NN × DD) =>
  app y75.1 <|
  ltt (s63.1 ++ y75.1) fun L77 =>
  ltt (s63.2.1 + (1 : Int32)) fun x79 =>
  some ([], .inl (L77, (x79, y75.2))))) : Option (NN × ((NN × Int32 × DD) ⊕ (Int32 × DD))))) 1000000 ([], ((0 : Int32), y54.1))) fun (y62 : NN × Int32 × DD) =>
  app y62.1 <|
  ltt ([] ++ y62.1) fun L65 =>
  some ([], y62.2.2)) else
  (some ([], y54.1))) fun (y55 : NN × DD) =>
  app y55.1 <|
  ltt ([] ++ y55.1) fun L57 =>
  some ([], y55.2))) fun (y13 : NN × DD) =>
  app y13.1 <|
  ltt ([] ++ y13.1) fun L15 =>
  bnd (if x5 = ((1 : Int32)) then (ltt (y13.2.1 a 19) fun x28 =>
  ltt ((p1 - x28)) fun x29 =>
  dr (xt G L15) 10 ((y13.2.2 a 2)) fun b30 =>
  bnd (FX10_se (xt G L15) y13.2 b30 ((10 : Int32)) x29) fun y31 =>
  app y31.1 <|
  ltt (L15 ++ y31.1) fun L33 =>
  ltt (uI y31.2 a 19 p1) fun M36 =>
  some ([], M36)) else
  (bnd (if x12 ≤ ((0 : Int32)) then (some ([], y13.2)) else
  (ltt (y13.2.1 a 19) fun x43 =>
  ltt ((p1 - x43)) fun x44 =>
  dr (xt G L15) 10 ((y13.2.2 a 2)) fun b45 =>
  bnd (FX10_se (xt G L15) y13.2 b45 ((10 : Int32)) x44) fun y46 =>
  app y46.1 <|
  ltt (L15 ++ y46.1) fun L48 =>
  ltt (uI y46.2 a 19 p1) fun M51 =>
  some ([], M51))) fun (y37 : NN × DD) =>
  app y37.1 <|
  ltt (L15 ++ y37.1) fun L39 =>
  some ([], y37.2))) fun (y17 : NN × DD) =>
  app y17.1 <|
  ltt (L15 ++ y17.1) fun L19 =>
  dr (xt G L19) 9 ((y17.2.2 a 3)) fun b21 =>
  ltt ((x1 + ((2 : Int32)))) fun x22 =>
  ltt (y17.2.1 a 19) fun x23 =>
  dr (xt G L19) 13 ((y17.2.2 b21 6)) fun b24 =>
  chk (¬ (x22 < 0 ∨ (xt G L19).2.2 b24 ≤ x22.toNatClampNeg)) <|
  ltt (uI y17.2 b24 x22.toNatClampNeg x23) fun M25 =>
  some ([], M25))
set_option maxHeartbeats 4000000 in
set_option maxRecDepth 100000 in
theorem kX0_writePattern (l : Launch) (D : va_G) (ct : CT) (ad : Nat → Nat) (Z : Nat → Nat) (G : GG) (M : DD) (sz : Nat) (a : Nat) (p0 : Int32) (p1 : Int32) (y : NN × DD) (hc : a < G.1) (hk : G.2.1 a = 0) (hF : FX0_writePattern G M a p0 p1 = some y) : Met l yX0_writePattern wsX0_writePattern ({ frames := 6, cells := y.1.length, slots := wt y.1, locals := 198 }) (va_Pc [.ref (ad a), .int p0, .int p1] (kB D ct ad Z G M sz)) (va_Qv (fun (u : Nat → Nat) => agr G.1 ad u) (fun u t => kE D ct u (xt G y.1) (wA ad G sz) y.2 t) (wA ad G sz)) y.1.length (wt y.1) (wA ad G sz) := by
  refine Met.ofW (cc := cX0_writePattern) (maxL := 8) (ret := none) (by decide) rfl ?_
  intro p e s m args below meth c s₁ B hml hv
  obtain ⟨rfl, hsz, hP, hK, hD0, hZ, hN⟩ := hv
  have hx := B.exec
  have hb := B.bytes
  have hr := B.returns
  have hts := atoms_spec (ws := wsX0_writePattern) B.pre
  have hown : s.vm.findClass RX0 = some m.cls := findClass_of_methodNamed B.named
  have hlocks := B.notSynchronized
  subst hsz
  have hD := wD_self (sz := s.heap.size) hD0
  have hA9 : ∀ q, s.heap.size ≤ q → wA ad G s.heap.size q := fun q h => Or.inr h
  generalize hAe : wA ad G s.heap.size = A at hD hA9 hZ ⊢
  have hS : va_S A s.heap s.heap [] := va_S.rf
  have hl := lv_entry ([.ref (ad a), .int p0, .int p1]) (n := 8) (Nat.le_of_ble_eq_true rfl)
  rw [lg_entry_eq]
  generalize (lg_sl ([.ref (ad a), .int p0, .int p1]) ++ List.replicate (8 - (lg_sl ([.ref (ad a), .int p0, .int p1])).length) Slot.unset).toArray = ls at hl ⊢
  have hl : lv_has ls 8 [(0, .ref (ad a)), (1, .int p0), (2, .int p1)] := hl
  unfold FX0_writePattern at hF
  rw [← wld_0 ct ad G M] at hP hD
  have hk := xt_k0 hc hk
  have hc := xt_l0 hc
  have hag := agr_rf G.1 ad
  obtain ⟨w0, hw0⟩ : ∃ z, z = y := ⟨_, rfl⟩
  rw [← hw0] at hF
  have hT : y.1 = [] ++ w0.1 := by rw [hw0]; rfl
  have h2 : y.2 = w0.2 := by rw [hw0]
  have hbl : y.1.length ≤ y.1.length ∧ wt y.1 ≤ wt y.1 := ⟨Nat.le_refl _, Nat.le_refl _⟩
  refine lv_bipush (v := (8 : Int32)) hx hb dX0_writePattern_0 (by decide) ?_
  refine lv_iload_n hx hb dX0_writePattern_2 rfl (lv_at hl 1 rfl) ?_
  refine lv_imul hx hb dX0_writePattern_3 ?_
  obtain ⟨x1, ex1, hF⟩ := ltt_some hF
  refine lv_topi (fun zx1 ezx1 => ?_)
  obtain rfl : x1 = zx1 := ex1.trans ezx1.symm
  refine lv_istore_n (lv' := [(3, .int x1), (0, .ref (ad a)), (1, .int p0), (2, .int p1)]) hx hb dX0_writePattern_4 rfl hl (by decide) rfl (fun ls hl => ?_)
  refine lv_aload_n hx hb dX0_writePattern_5 rfl (lv_at hl 1 rfl) ?_
  refine va_get (D := D) (ci := 0) (v := va_re ad (M.2 a 3)) (C := RX0) (T := TX0) (N := 21) hx hb hts (by decide +kernel) hown hK hP a (wld_o ct ad (xt G []) M hc hk (by decide)) rfl 3 (by decide) (hts (.fieldLink RX0 36 "VideoSuite$Coder" "work" "LVideoSuite$Work;") (by decide +kernel)) (fun _ h9 => h9) rfl dX0_writePattern_6 ?_
  obtain ⟨b2, ho2, hc2, hk2, hF⟩ := dr_some hF
  refine W_st (st' := [.ref (ad b2)]) (by rw [va_some ho2]) ?_
  refine va_get (D := D) (ci := 9) (v := va_re ad (M.2 b2 6)) (C := RX9) (T := TX9) (N := 20) hx hb hts (by decide +kernel) hown hK hP b2 (wld_o ct ad (xt G []) M hc2 hk2 (by decide)) rfl 6 (by decide) (hts (.fieldLink RX0 216 "VideoSuite$Work" "info" "[I") (by decide +kernel)) (fun _ h9 => h9) rfl dX0_writePattern_9 ?_
  refine lv_iload_n hx hb dX0_writePattern_12 rfl (lv_at hl 0 rfl) ?_
  refine lv_iconst (v := (0 : Int32)) hx hb dX0_writePattern_13 (by decide) ?_
  refine lv_iadd hx hb dX0_writePattern_14 ?_
  obtain ⟨x3, ex3, hF⟩ := ltt_some hF
  refine lv_topi (fun zx3 ezx3 => ?_)
  obtain rfl : x3 = zx3 := ex3.trans ezx3.symm
  obtain ⟨b4, ho4, hc4, hk4, hF⟩ := dr_some hF
  refine W_st (st' := [.int x3, .ref (ad b4)]) (by rw [va_some ho4]) ?_
  obtain ⟨hvc, hF⟩ := chk_some hF
  refine va_iald hx hb hK hP b4 1 (wld_i ct ad (xt G []) M hc4 hk4) rfl hvc dX0_writePattern_15 ?_
  obtain ⟨x5, ex5, hF⟩ := ltt_some hF
  refine lv_topi (fun zx5 ezx5 => ?_)
  obtain rfl : x5 = zx5 := ex5.trans ezx5.symm
  refine lv_istore (lv' := [(4, .int x5), (3, .int x1), (0, .ref (ad a)), (1, .int p0), (2, .int p1)]) hx hb dX0_writePattern_16 hl (by decide) rfl (fun ls hl => ?_)
  refine lv_iload hx hb dX0_writePattern_18 (lv_at hl 0 rfl) ?_
  refine lv_iconst (v := (2 : Int32)) hx hb dX0_writePattern_20 (by decide) ?_
  refine lv_icmp_ne (tgt := 25) hx hb dX0_writePattern_21 (by decide) (fun c6 => ?_) (fun c6 => ?_)
  · rw [if_neg c6] at hF
    refine lv_aload_n hx hb dX0_writePattern_25 rfl (lv_at hl 2 rfl) ?_
    refine va_get (D := D) (ci := 0) (v := va_re ad (M.2 a 3)) (C := RX0) (T := TX0) (N := 21) hx hb hts (by decide +kernel) hown hK hP a (wld_o ct ad (xt G []) M hc hk (by decide)) rfl 3 (by decide) (hts (.fieldLink RX0 36 "VideoSuite$Coder" "work" "LVideoSuite$Work;") (by decide +kernel)) (fun _ h9 => h9) rfl dX0_writePattern_26 ?_
    refine W_st (st' := [.ref (ad b2)]) (by rw [va_some ho2]) ?_
    refine va_get (D := D) (ci := 9) (v := va_re ad (M.2 b2 6)) (C := RX9) (T := TX9) (N := 20) hx hb hts (by decide +kernel) hown hK hP b2 (wld_o ct ad (xt G []) M hc2 hk2 (by decide)) rfl 6 (by decide) (hts (.fieldLink RX0 216 "VideoSuite$Work" "info" "[I") (by decide +kernel)) (fun _ h9 => h9) rfl dX0_writePattern_29 ?_
    refine lv_iload_n hx hb dX0_writePattern_32 rfl (lv_at hl 1 rfl) ?_
    refine lv_iconst (v := (3 : Int32)) hx hb dX0_writePattern_33 (by decide) ?_
    refine lv_iadd hx hb dX0_writePattern_34 ?_
    obtain ⟨x7, ex7, hF⟩ := ltt_some hF
    refine lv_topi (fun zx7 ezx7 => ?_)
    obtain rfl : x7 = zx7 := ex7.trans ezx7.symm
    refine W_st (st' := [.int x7, .ref (ad b4)]) (by rw [va_some ho4]) ?_
    obtain ⟨hvc, hF⟩ := chk_some hF
    refine va_iald hx hb hK hP b4 1 (wld_i ct ad (xt G []) M hc4 hk4) rfl hvc dX0_writePattern_35 ?_
    obtain ⟨x8, ex8, hF⟩ := ltt_some hF
    refine lv_topi (fun zx8 ezx8 => ?_)
    obtain rfl : x8 = zx8 := ex8.trans ezx8.symm
    refine lv_bipush (v := (16 : Int32)) hx hb dX0_writePattern_36 (by decide) ?_
    refine lv_aload_n hx hb dX0_writePattern_38 rfl (lv_at hl 2 rfl) ?_
    refine va_get (D := D) (ci := 0) (v := va_re ad (M.2 a 3)) (C := RX0) (T := TX0) (N := 21) hx hb hts (by decide +kernel) hown hK hP a (wld_o ct ad (xt G []) M hc hk (by decide)) rfl 3 (by decide) (hts (.fieldLink RX0 36 "VideoSuite$Coder" "work" "LVideoSuite$Work;") (by decide +kernel)) (fun _ h9 => h9) rfl dX0_writePattern_39 ?_
    refine W_st (st' := [.ref (ad b2), .int (16 : Int32), .int x8]) (by rw [va_some ho2]) ?_
    refine va_get (D := D) (ci := 9) (v := va_re ad (M.2 b2 6)) (C := RX9) (T := TX9) (N := 20) hx hb hts (by decide +kernel) hown hK hP b2 (wld_o ct ad (xt G []) M hc2 hk2 (by decide)) rfl 6 (by decide) (hts (.fieldLink RX0 216 "VideoSuite$Work" "info" "[I") (by decide +kernel)) (fun _ h9 => h9) rfl dX0_writePattern_42 ?_
    refine lv_iload_n hx hb dX0_writePattern_45 rfl (lv_at hl 1 rfl) ?_
    refine lv_iconst (v := (4 : Int32)) hx hb dX0_writePattern_46 (by decide) ?_
    refine lv_iadd hx hb dX0_writePattern_47 ?_
    obtain ⟨x9, ex9, hF⟩ := ltt_some hF
    refine lv_topi (fun zx9 ezx9 => ?_)
    obtain rfl : x9 = zx9 := ex9.trans ezx9.symm
    refine W_st (st' := [.int x9, .ref (ad b4), .int (16 : Int32), .int x8]) (by rw [va_some ho4]) ?_
    obtain ⟨hvc, hF⟩ := chk_some hF
    refine va_iald hx hb hK hP b4 1 (wld_i ct ad (xt G []) M hc4 hk4) rfl hvc dX0_writePattern_48 ?_
    obtain ⟨x10, ex10, hF⟩ := ltt_some hF
    refine lv_topi (fun zx10 ezx10 => ?_)
    obtain rfl : x10 = zx10 := ex10.trans ezx10.symm
    refine lv_imul hx hb dX0_writePattern_49 ?_
    obtain ⟨x11, ex11, hF⟩ := ltt_some hF
    refine lv_topi (fun zx11 ezx11 => ?_)
    obtain rfl : x11 = zx11 := ex11.trans ezx11.symm
    refine lv_iadd hx hb dX0_writePattern_50 ?_
    obtain ⟨x12, ex12, hF⟩ := ltt_some hF
    refine lv_topi (fun zx12 ezx12 => ?_)
    obtain rfl : x12 = zx12 := ex12.trans ezx12.symm
    refine lv_istore (lv' := [(5, .int x12), (4, .int x5), (3, .int x1), (0, .ref (ad a)), (1, .int p0), (2, .int p1)]) hx hb dX0_writePattern_51 hl (by decide) rfl (fun ls hl => ?_)
    refine lv_iload hx hb dX0_writePattern_53 (lv_at hl 1 rfl) ?_
    refine lv_iconst (v := (1 : Int32)) hx hb dX0_writePattern_55 (by decide) ?_
    obtain ⟨y13, hy13, hF⟩ := bnd_some hF
    obtain ⟨w14, hF, ew14⟩ := app_some hF
    obtain ⟨L15, eL15, hF⟩ := ltt_some hF
    have hT15 : y.1 = ([] ++ y13.1) ++ w14.1 := by rw [hT, ew14]; simp only [List.append_assoc]
    have hbl15 : L15.length ≤ y.1.length ∧ wt L15 ≤ wt y.1 := by rw [eL15]; exact room_d hT15 hbl
    have J13 : ∀ (ad16 : Nat → Nat), agr G.1 ad ad16 → ∀ (H : Heap) (locs : List Loc) (ls : Array Slot), va_P D classes (wld ct ad16 (xt G L15) y13.2) H → va_D A (wld ct ad16 (xt G L15) y13.2) → va_S A s.heap H locs → lv_has ls 8 [(5, .int x12), (4, .int x5), (3, .int x1), (0, .ref (ad16 a)), (2, .int p1)] → W p l e (headSpec wsX0_writePattern ({ frames := 6, cells := y.1.length, slots := wt y.1, locals := 198 })).room s m ([.ref (ad a), .int p0, .int p1] : List Value).toArray below meth c H locs (L15 : NN).length (wt L15) (MQ below (va_Qv (fun (u : Nat → Nat) => agr G.1 ad u) (fun u t => kE D ct u (xt G y.1) A y.2 t) A) ([.ref (ad a), .int p0, .int p1] : List Value).toArray s y.1.length (wt y.1) A) (F0 m 121 ls []) := by
      intro ad16 hag H locs ls hP hD hS hl
      have hT : y.1 = L15 ++ w14.1 := by rw [hT15, eL15]
      have h2 : y.2 = w14.2 := by rw [h2, ew14]
      have hk : (xt G L15).2.1 a = 0 := by rw [eL15]; exact xt_k _ hc hk
      have hc : a < (xt G L15).1 := by rw [eL15]; exact xt_l _ hc
      have hk2 : (xt G L15).2.1 b2 = 9 := by rw [eL15]; exact xt_k _ hc2 hk2
      have hc2 : b2 < (xt G L15).1 := by rw [eL15]; exact xt_l _ hc2
      have hk4 : (xt G L15).2.1 b4 = 13 := by rw [eL15]; exact xt_k _ hc4 hk4
      have hc4 : b4 < (xt G L15).1 := by rw [eL15]; exact xt_l _ hc4
      refine lv_iload hx hb dX0_writePattern_121 (lv_at hl 1 rfl) ?_
      refine lv_iconst (v := (1 : Int32)) hx hb dX0_writePattern_123 (by decide) ?_
      obtain ⟨y17, hy17, hF⟩ := bnd_some hF
      obtain ⟨w18, hF, ew18⟩ := app_some hF
      obtain ⟨L19, eL19, hF⟩ := ltt_some hF
      have hT19 : y.1 = (L15 ++ y17.1) ++ w18.1 := by rw [hT, ew18]; simp only [List.append_assoc]
      have hbl19 : L19.length ≤ y.1.length ∧ wt L19 ≤ wt y.1 := by rw [eL19]; exact room_d hT19 hbl
      have J17 : ∀ (ad20 : Nat → Nat), agr G.1 ad ad20 → ∀ (H : Heap) (locs : List Loc) (ls : Array Slot), va_P D classes (wld ct ad20 (xt G L19) y17.2) H → va_D A (wld ct ad20 (xt G L19) y17.2) → va_S A s.heap H locs → lv_has ls 8 [(3, .int x1), (0, .ref (ad20 a))] → W p l e (headSpec wsX0_writePattern ({ frames := 6, cells := y.1.length, slots := wt y.1, locals := 198 })).room s m ([.ref (ad a), .int p0, .int p1] : List Value).toArray below meth c H locs (L19 : NN).length (wt L19) (MQ below (va_Qv (fun (u : Nat → Nat) => agr G.1 ad u) (fun u t => kE D ct u (xt G y.1) A y.2 t) A) ([.ref (ad a), .int p0, .int p1] : List Value).toArray s y.1.length (wt y.1) A) (F0 m 152 ls []) := by
        intro ad20 hag H locs ls hP hD hS hl
        have hT : y.1 = L19 ++ w18.1 := by rw [hT19, eL19]
        have h2 : y.2 = w18.2 := by rw [h2, ew18]
        have hk : (xt G L19).2.1 a = 0 := by rw [eL19]; exact xt_k _ hc hk
        have hc : a < (xt G L19).1 := by rw [eL19]; exact xt_l _ hc
        have hk2 : (xt G L19).2.1 b2 = 9 := by rw [eL19]; exact xt_k _ hc2 hk2
        have hc2 : b2 < (xt G L19).1 := by rw [eL19]; exact xt_l _ hc2
        have hk4 : (xt G L19).2.1 b4 = 13 := by rw [eL19]; exact xt_k _ hc4 hk4
        have hc4 : b4 < (xt G L19).1 := by rw [eL19]; exact xt_l _ hc4
        refine lv_aload_n hx hb dX0_writePattern_152 rfl (lv_at hl 1 rfl) ?_
        refine va_get (D := D) (ci := 0) (v := va_re ad20 (y17.2.2 a 3)) (C := RX0) (T := TX0) (N := 21) hx hb hts (by decide +kernel) hown hK hP a (wld_o ct ad20 (xt G L19) y17.2 hc hk (by decide)) rfl 3 (by decide) (hts (.fieldLink RX0 36 "VideoSuite$Coder" "work" "LVideoSuite$Work;") (by decide +kernel)) (fun _ h9 => h9) rfl dX0_writePattern_153 ?_
        obtain ⟨b21, ho21, hc21, hk21, hF⟩ := dr_some hF
        refine W_st (st' := [.ref (ad20 b21)]) (by rw [va_some ho21]) ?_
        refine va_get (D := D) (ci := 9) (v := va_re ad20 (y17.2.2 b21 6)) (C := RX9) (T := TX9) (N := 20) hx hb hts (by decide +kernel) hown hK hP b21 (wld_o ct ad20 (xt G L19) y17.2 hc21 hk21 (by decide)) rfl 6 (by decide) (hts (.fieldLink RX0 216 "VideoSuite$Work" "info" "[I") (by decide +kernel)) (fun _ h9 => h9) rfl dX0_writePattern_156 ?_
        refine lv_iload_n hx hb dX0_writePattern_159 rfl (lv_at hl 0 rfl) ?_
        refine lv_iconst (v := (2 : Int32)) hx hb dX0_writePattern_160 (by decide) ?_
        refine lv_iadd hx hb dX0_writePattern_161 ?_
        obtain ⟨x22, ex22, hF⟩ := ltt_some hF
        refine lv_topi (fun zx22 ezx22 => ?_)
        obtain rfl : x22 = zx22 := ex22.trans ezx22.symm
        refine lv_aload_n hx hb dX0_writePattern_162 rfl (lv_at hl 1 rfl) ?_
        refine va_get (D := D) (ci := 0) (v := .int (y17.2.1 a 19)) (C := RX0) (T := TX0) (N := 21) hx hb hts (by decide +kernel) hown hK hP a (wld_o ct ad20 (xt G L19) y17.2 hc hk (by decide)) rfl 19 (by decide) (hts (.fieldLink RX0 299 "VideoSuite$Coder" "step" "I") (by decide +kernel)) (fun _ h9 => h9) rfl dX0_writePattern_163 ?_
        obtain ⟨x23, ex23, hF⟩ := ltt_some hF
        refine lv_topi (fun zx23 ezx23 => ?_)
        obtain rfl : x23 = zx23 := ex23.trans ezx23.symm
        obtain ⟨b24, ho24, hc24, hk24, hF⟩ := dr_some hF
        refine W_st (st' := [.int x23, .int x22, .ref (ad20 b24)]) (by rw [va_some ho24]) ?_
        obtain ⟨hvc, hF⟩ := chk_some hF
        refine va_iast hx hb hK hP hD hS b24 1 (wld_i ct ad20 (xt G L19) y17.2 hc24 hk24) rfl hvc dX0_writePattern_166 (fun H locs hP hD hS => ?_)
        obtain ⟨M25, eM25, hF⟩ := ltt_some hF
        rw [set_i ct ad20 (xt G L19) y17.2 hc24 hk24, ← eM25] at hP hD
        obtain rfl := Option.some.inj hF
        have e1 : y.1 = L19 := by rw [hT]; exact List.append_nil _
        have e2 : y.2 = M25 := h2
        refine W.widen (k := y.1.length) (n := wt y.1) (Nat.le_of_eq (by rw [e1])) (Nat.le_of_eq (by rw [e1])) ?_
        exact W.vret hx hb hr (fun t ht hW => ⟨⟨ad20, rfl, hag, (by unfold kE; rw [e1, e2]; exact ⟨by rw [ht]; exact hP, va_K.moved hW.alike hK, hD⟩)⟩, hS.F ht⟩) hS.2.2 dX0_writePattern_167
      clear hF
      obtain ⟨w26, hw26⟩ : ∃ z, z = y17 := ⟨_, rfl⟩
      have hF := hy17
      rw [← hw26] at hF
      clear hy17
      have hT : L19 = L15 ++ w26.1 := by rw [eL19, hw26]
      have h2 : y17.2 = w26.2 := by rw [hw26]
      have hbl := hbl19
      refine lv_icmp_eq (tgt := 132) hx hb dX0_writePattern_124 (by decide) (fun c27 => ?_) (fun c27 => ?_)
      · rw [if_pos c27] at hF
        refine lv_aload_n hx hb dX0_writePattern_132 rfl (lv_at hl 3 rfl) ?_
        refine va_get (D := D) (ci := 0) (v := va_re ad16 (y13.2.2 a 2)) (C := RX0) (T := TX0) (N := 21) hx hb hts (by decide +kernel) hown hK hP a (wld_o ct ad16 (xt G L15) y13.2 hc hk (by decide)) rfl 2 (by decide) (hts (.fieldLink RX0 29 "VideoSuite$Coder" "writer" "LVideoSuite$Writer;") (by decide +kernel)) (fun _ h9 => h9) rfl dX0_writePattern_133 ?_
        refine lv_bipush (v := (10 : Int32)) hx hb dX0_writePattern_136 (by decide) ?_
        refine lv_iload_n hx hb dX0_writePattern_138 rfl (lv_at hl 4 rfl) ?_
        refine lv_aload_n hx hb dX0_writePattern_139 rfl (lv_at hl 3 rfl) ?_
        refine va_get (D := D) (ci := 0) (v := .int (y13.2.1 a 19)) (C := RX0) (T := TX0) (N := 21) hx hb hts (by decide +kernel) hown hK hP a (wld_o ct ad16 (xt G L15) y13.2 hc hk (by decide)) rfl 19 (by decide) (hts (.fieldLink RX0 299 "VideoSuite$Coder" "step" "I") (by decide +kernel)) (fun _ h9 => h9) rfl dX0_writePattern_140 ?_
        obtain ⟨x28, ex28, hF⟩ := ltt_some hF
        refine lv_topi (fun zx28 ezx28 => ?_)
        obtain rfl : x28 = zx28 := ex28.trans ezx28.symm
        refine lv_isub hx hb dX0_writePattern_143 ?_
        obtain ⟨x29, ex29, hF⟩ := ltt_some hF
        refine lv_topi (fun zx29 ezx29 => ?_)
        obtain rfl : x29 = zx29 := ex29.trans ezx29.symm
        obtain ⟨b30, ho30, hc30, hk30, hF⟩ := dr_some hF
        refine W_st (st' := [.int x29, .int (10 : Int32), .ref (ad16 b30)]) (by rw [va_some ho30]) ?_
        obtain ⟨y31, hy31, hF⟩ := bnd_some hF
        obtain ⟨w32, hF, ew32⟩ := app_some hF
        obtain ⟨L33, eL33, hF⟩ := ltt_some hF
        have hT33 : L19 = (L15 ++ y31.1) ++ w32.1 := by rw [hT, ew32]; simp only [List.append_assoc]
        have hf9 := wA_in hD hA9 hS
        refine va_callv (va_runV (As := [.int (10 : Int32), .int x29]) (rest := []) ⟨hx, hb, hml, hown, hts⟩ (kX10_se l D ct ad16 Z (xt G L15) y13.2 _ b30 ((10 : Int32)) x29 y31 hc30 hk30 hy31) (cwV 2 hts gX0_writePattern_X10_se rfl rfl rfl (by decide +kernel) ⟨Nat.le_of_ble_eq_true rfl, Nat.le_of_ble_eq_true rfl⟩) ⟨fun a U g mk q => by obtain ⟨q0, q1, qP, qK, qD, qZ, qN⟩ := q; exact ⟨q0, q1, qP, va_K.moved (u := U) (U := U.calling g mk a) (Vm.Alike.refl U.vm) qK, qD, sF.moved (u := U) (U := U.calling g mk a) (Vm.Alike.refl U.vm) qZ, nF.same rfl qN⟩, va_recv hK hP (ci := 10) (q0 := b30) rfl (wld_o ct ad16 (xt G L15) y13.2 hc30 hk30 (by decide)), fun U hU hW => ⟨rfl, by rw [hU], by rw [hU]; exact hP, va_K.moved hW.alike hK, hD.weaken (fun _ _ _ _ => trivial), by rw [hU]; exact ((hZ.kept hS.2.1).narrow hf9).moved hW.alike, hN.warm hW⟩⟩ rfl rfl hl.1 rfl (lv_room (Nat.le_of_ble_eq_true rfl)) dX0_writePattern_144 (room_s hT33 hbl)) hS (fun q _ h => hf9 q h) hf9 (fun ad34 t H locs ht hvm hw hB hz1 hk1 hS => ?_)
        have hn35 := hw
        obtain ⟨hP, hK9, hD9⟩ := hB
        rw [ht] at hP
        have hD := hD9.weaken (fun _ q _ h => hf9 q.1 h)
        rw [xt_xt, ← eL33] at hP hD
        refine W_cs (k := L33.length) (n := wt L33) (by rw [eL33]; exact (len_s L15 y31.1).symm) (by rw [eL33]; exact (wt_app L15 y31.1).symm) ?_
        have hT : L19 = L33 ++ w32.1 := by rw [hT33, eL33]
        have h2 : y17.2 = w32.2 := by rw [h2, ew32]
        have hl := lv_sub (l' := [(3, .int x1), (0, .ref (ad16 a)), (2, .int p1)]) hl [2, 3, 4] rfl
        have e9 : ([(3, .int x1), (0, .ref (ad16 a)), (2, .int p1)] : List (Nat × Value)) = [(3, .int x1), (0, .ref (ad34 a)), (2, .int p1)] := (by first | rfl | simp only [hn35 a hc])
        rw [e9] at hl
        clear e9
        have hk : (xt G L33).2.1 a = 0 := by rw [eL33]; exact xt_k _ hc hk
        have hc : a < (xt G L33).1 := by rw [eL33]; exact xt_l _ hc
        have hk2 : (xt G L33).2.1 b2 = 9 := by rw [eL33]; exact xt_k _ hc2 hk2
        have hc2 : b2 < (xt G L33).1 := by rw [eL33]; exact xt_l _ hc2
        have hk4 : (xt G L33).2.1 b4 = 13 := by rw [eL33]; exact xt_k _ hc4 hk4
        have hc4 : b4 < (xt G L33).1 := by rw [eL33]; exact xt_l _ hc4
        have hk30 : (xt G L33).2.1 b30 = 10 := by rw [eL33]; exact xt_k _ hc30 hk30
        have hc30 : b30 < (xt G L33).1 := by rw [eL33]; exact xt_l _ hc30
        have hag := agr_t (xt_ge _ _) hag hn35
        refine lv_aload_n hx hb dX0_writePattern_147 rfl (lv_at hl 1 rfl) ?_
        refine lv_iload_n hx hb dX0_writePattern_148 rfl (lv_at hl 2 rfl) ?_
        refine va_put (D := D) (ci := 0) (v := .int p1) (ty := .int) (C := RX0) (T := TX0) (N := 21) hx hb hts (by decide +kernel) tyX0 tyX0_ok nmX0 hown hK hP hD hS a (wld_o ct ad34 (xt G L33) y31.2 hc hk (by decide)) rfl 19 (by decide) (hts (.fieldLink RX0 299 "VideoSuite$Coder" "step" "I") (by decide +kernel)) (fun _ h9 => h9) rfl (by decide +kernel) rfl rfl (Nat.le_of_ble_eq_true rfl) dX0_writePattern_149 (fun H locs hP hD hS => ?_)
        obtain ⟨M36, eM36, hF⟩ := ltt_some hF
        rw [set_oI ct ad34 (xt G L33) y31.2 hc hk (by decide) (by rfl), ← eM36] at hP hD
        obtain rfl := Option.some.inj hF
        have e1 : L19 = L33 := by rw [hT]; exact List.append_nil _
        have e2 : y17.2 = M36 := h2
        rw [e1] at J17
        try rw [e2] at J17
        exact J17 _ hag _ _ _ hP hD hS (lv_sub hl [0, 1] rfl)
      · rw [if_neg c27] at hF
        refine lv_iload hx hb dX0_writePattern_127 (lv_at hl 0 rfl) ?_
        obtain ⟨y37, hy37, hF⟩ := bnd_some hF
        obtain ⟨w38, hF, ew38⟩ := app_some hF
        obtain ⟨L39, eL39, hF⟩ := ltt_some hF
        have hT39 : L19 = (L15 ++ y37.1) ++ w38.1 := by rw [hT, ew38]; simp only [List.append_assoc]
        have hbl39 : L39.length ≤ y.1.length ∧ wt L39 ≤ wt y.1 := by rw [eL39]; exact room_d hT39 hbl
        have J37 : ∀ (ad40 : Nat → Nat), agr G.1 ad ad40 → ∀ (H : Heap) (locs : List Loc) (ls : Array Slot), va_P D classes (wld ct ad40 (xt G L39) y37.2) H → va_D A (wld ct ad40 (xt G L39) y37.2) → va_S A s.heap H locs → lv_has ls 8 [(3, .int x1), (0, .ref (ad40 a))] → W p l e (headSpec wsX0_writePattern ({ frames := 6, cells := y.1.length, slots := wt y.1, locals := 198 })).room s m ([.ref (ad a), .int p0, .int p1] : List Value).toArray below meth c H locs (L39 : NN).length (wt L39) (MQ below (va_Qv (fun (u : Nat → Nat) => agr G.1 ad u) (fun u t => kE D ct u (xt G y.1) A y.2 t) A) ([.ref (ad a), .int p0, .int p1] : List Value).toArray s y.1.length (wt y.1) A) (F0 m 152 ls []) := by
          intro ad40 hag H locs ls hP hD hS hl
          have hT : L19 = L39 ++ w38.1 := by rw [hT39, eL39]
          have h2 : y17.2 = w38.2 := by rw [h2, ew38]
          have hk : (xt G L39).2.1 a = 0 := by rw [eL39]; exact xt_k _ hc hk
          have hc : a < (xt G L39).1 := by rw [eL39]; exact xt_l _ hc
          have hk2 : (xt G L39).2.1 b2 = 9 := by rw [eL39]; exact xt_k _ hc2 hk2
          have hc2 : b2 < (xt G L39).1 := by rw [eL39]; exact xt_l _ hc2
          have hk4 : (xt G L39).2.1 b4 = 13 := by rw [eL39]; exact xt_k _ hc4 hk4
          have hc4 : b4 < (xt G L39).1 := by rw [eL39]; exact xt_l _ hc4
          obtain rfl := Option.some.inj hF
          have e1 : L19 = L39 := by rw [hT]; exact List.append_nil _
          have e2 : y17.2 = y37.2 := h2
          rw [e1] at J17
          try rw [e2] at J17
          exact J17 _ hag _ _ _ hP hD hS (lv_sub hl [0, 1] rfl)
        clear hF
        obtain ⟨w41, hw41⟩ : ∃ z, z = y37 := ⟨_, rfl⟩
        have hF := hy37
        rw [← hw41] at hF
        clear hy37
        have hT : L39 = L15 ++ w41.1 := by rw [eL39, hw41]
        have h2 : y37.2 = w41.2 := by rw [hw41]
        have hbl := hbl39
        refine lv_if_le (tgt := 152) hx hb dX0_writePattern_129 (by decide) (fun c42 => ?_) (fun c42 => ?_)
        · rw [if_pos c42] at hF
          obtain rfl := Option.some.inj hF
          have e1 : L39 = L15 := by rw [hT]; exact List.append_nil _
          have e2 : y37.2 = y13.2 := h2
          rw [e1] at J37
          try rw [e2] at J37
          exact J37 _ hag _ _ _ hP hD hS (lv_sub hl [2, 3] rfl)
        · rw [if_neg c42] at hF
          refine lv_aload_n hx hb dX0_writePattern_132 rfl (lv_at hl 3 rfl) ?_
          refine va_get (D := D) (ci := 0) (v := va_re ad16 (y13.2.2 a 2)) (C := RX0) (T := TX0) (N := 21) hx hb hts (by decide +kernel) hown hK hP a (wld_o ct ad16 (xt G L15) y13.2 hc hk (by decide)) rfl 2 (by decide) (hts (.fieldLink RX0 29 "VideoSuite$Coder" "writer" "LVideoSuite$Writer;") (by decide +kernel)) (fun _ h9 => h9) rfl dX0_writePattern_133 ?_
          refine lv_bipush (v := (10 : Int32)) hx hb dX0_writePattern_136 (by decide) ?_
          refine lv_iload_n hx hb dX0_writePattern_138 rfl (lv_at hl 4 rfl) ?_
          refine lv_aload_n hx hb dX0_writePattern_139 rfl (lv_at hl 3 rfl) ?_
          refine va_get (D := D) (ci := 0) (v := .int (y13.2.1 a 19)) (C := RX0) (T := TX0) (N := 21) hx hb hts (by decide +kernel) hown hK hP a (wld_o ct ad16 (xt G L15) y13.2 hc hk (by decide)) rfl 19 (by decide) (hts (.fieldLink RX0 299 "VideoSuite$Coder" "step" "I") (by decide +kernel)) (fun _ h9 => h9) rfl dX0_writePattern_140 ?_
          obtain ⟨x43, ex43, hF⟩ := ltt_some hF
          refine lv_topi (fun zx43 ezx43 => ?_)
          obtain rfl : x43 = zx43 := ex43.trans ezx43.symm
          refine lv_isub hx hb dX0_writePattern_143 ?_
          obtain ⟨x44, ex44, hF⟩ := ltt_some hF
          refine lv_topi (fun zx44 ezx44 => ?_)
          obtain rfl : x44 = zx44 := ex44.trans ezx44.symm
          obtain ⟨b45, ho45, hc45, hk45, hF⟩ := dr_some hF
          refine W_st (st' := [.int x44, .int (10 : Int32), .ref (ad16 b45)]) (by rw [va_some ho45]) ?_
          obtain ⟨y46, hy46, hF⟩ := bnd_some hF
          obtain ⟨w47, hF, ew47⟩ := app_some hF
          obtain ⟨L48, eL48, hF⟩ := ltt_some hF
          have hT48 : L39 = (L15 ++ y46.1) ++ w47.1 := by rw [hT, ew47]; simp only [List.append_assoc]
          have hf9 := wA_in hD hA9 hS
          refine va_callv (va_runV (As := [.int (10 : Int32), .int x44]) (rest := []) ⟨hx, hb, hml, hown, hts⟩ (kX10_se l D ct ad16 Z (xt G L15) y13.2 _ b45 ((10 : Int32)) x44 y46 hc45 hk45 hy46) (cwV 2 hts gX0_writePattern_X10_se rfl rfl rfl (by decide +kernel) ⟨Nat.le_of_ble_eq_true rfl, Nat.le_of_ble_eq_true rfl⟩) ⟨fun a U g mk q => by obtain ⟨q0, q1, qP, qK, qD, qZ, qN⟩ := q; exact ⟨q0, q1, qP, va_K.moved (u := U) (U := U.calling g mk a) (Vm.Alike.refl U.vm) qK, qD, sF.moved (u := U) (U := U.calling g mk a) (Vm.Alike.refl U.vm) qZ, nF.same rfl qN⟩, va_recv hK hP (ci := 10) (q0 := b45) rfl (wld_o ct ad16 (xt G L15) y13.2 hc45 hk45 (by decide)), fun U hU hW => ⟨rfl, by rw [hU], by rw [hU]; exact hP, va_K.moved hW.alike hK, hD.weaken (fun _ _ _ _ => trivial), by rw [hU]; exact ((hZ.kept hS.2.1).narrow hf9).moved hW.alike, hN.warm hW⟩⟩ rfl rfl hl.1 rfl (lv_room (Nat.le_of_ble_eq_true rfl)) dX0_writePattern_144 (room_s hT48 hbl)) hS (fun q _ h => hf9 q h) hf9 (fun ad49 t H locs ht hvm hw hB hz1 hk1 hS => ?_)
          have hn50 := hw
          obtain ⟨hP, hK9, hD9⟩ := hB
          rw [ht] at hP
          have hD := hD9.weaken (fun _ q _ h => hf9 q.1 h)
          rw [xt_xt, ← eL48] at hP hD
          refine W_cs (k := L48.length) (n := wt L48) (by rw [eL48]; exact (len_s L15 y46.1).symm) (by rw [eL48]; exact (wt_app L15 y46.1).symm) ?_
          have hT : L39 = L48 ++ w47.1 := by rw [hT48, eL48]
          have h2 : y37.2 = w47.2 := by rw [h2, ew47]
          have hl := lv_sub (l' := [(3, .int x1), (0, .ref (ad16 a)), (2, .int p1)]) hl [2, 3, 4] rfl
          have e9 : ([(3, .int x1), (0, .ref (ad16 a)), (2, .int p1)] : List (Nat × Value)) = [(3, .int x1), (0, .ref (ad49 a)), (2, .int p1)] := (by first | rfl | simp only [hn50 a hc])
          rw [e9] at hl
          clear e9
          have hk : (xt G L48).2.1 a = 0 := by rw [eL48]; exact xt_k _ hc hk
          have hc : a < (xt G L48).1 := by rw [eL48]; exact xt_l _ hc
          have hk2 : (xt G L48).2.1 b2 = 9 := by rw [eL48]; exact xt_k _ hc2 hk2
          have hc2 : b2 < (xt G L48).1 := by rw [eL48]; exact xt_l _ hc2
          have hk4 : (xt G L48).2.1 b4 = 13 := by rw [eL48]; exact xt_k _ hc4 hk4
          have hc4 : b4 < (xt G L48).1 := by rw [eL48]; exact xt_l _ hc4
          have hk45 : (xt G L48).2.1 b45 = 10 := by rw [eL48]; exact xt_k _ hc45 hk45
          have hc45 : b45 < (xt G L48).1 := by rw [eL48]; exact xt_l _ hc45
          have hag := agr_t (xt_ge _ _) hag hn50
          refine lv_aload_n hx hb dX0_writePattern_147 rfl (lv_at hl 1 rfl) ?_
          refine lv_iload_n hx hb dX0_writePattern_148 rfl (lv_at hl 2 rfl) ?_
          refine va_put (D := D) (ci := 0) (v := .int p1) (ty := .int) (C := RX0) (T := TX0) (N := 21) hx hb hts (by decide +kernel) tyX0 tyX0_ok nmX0 hown hK hP hD hS a (wld_o ct ad49 (xt G L48) y46.2 hc hk (by decide)) rfl 19 (by decide) (hts (.fieldLink RX0 299 "VideoSuite$Coder" "step" "I") (by decide +kernel)) (fun _ h9 => h9) rfl (by decide +kernel) rfl rfl (Nat.le_of_ble_eq_true rfl) dX0_writePattern_149 (fun H locs hP hD hS => ?_)
          obtain ⟨M51, eM51, hF⟩ := ltt_some hF
          rw [set_oI ct ad49 (xt G L48) y46.2 hc hk (by decide) (by rfl), ← eM51] at hP hD
          obtain rfl := Option.some.inj hF
          have e1 : L39 = L48 := by rw [hT]; exact List.append_nil _
          have e2 : y37.2 = M51 := h2
          rw [e1] at J37
          try rw [e2] at J37
          exact J37 _ hag _ _ _ hP hD hS (lv_sub hl [0, 1] rfl)
    clear hF
    obtain ⟨w52, hw52⟩ : ∃ z, z = y13 := ⟨_, rfl⟩
    have hF := hy13
    rw [← hw52] at hF
    clear hy13
    have hT : L15 = [] ++ w52.1 := by rw [eL15, hw52]
    have h2 : y13.2 = w52.2 := by rw [hw52]
    have hbl := hbl15
    refine lv_icmp_eq (tgt := 121) hx hb dX0_writePattern_56 (by decide) (fun c53 => ?_) (fun c53 => ?_)
    · rw [if_pos c53] at hF
      obtain rfl := Option.some.inj hF
      have e1 : L15 = [] := by rw [hT]; exact List.append_nil _
      have e2 : y13.2 = M := h2
      rw [e1] at J13
      try rw [e2] at J13
      exact J13 _ hag _ _ _ hP hD hS (lv_sub hl [0, 1, 2, 3, 5] rfl)
    · rw [if_neg c53] at hF
      refine lv_aload_n hx hb dX0_writePattern_59 rfl (lv_at hl 3 rfl) ?_
      refine lv_iload_n hx hb dX0_writePattern_60 rfl (lv_at hl 4 rfl) ?_
      obtain ⟨y54, hy54, hF⟩ := bnd_some hF
      have hf9 := wA_in hD hA9 hS
      refine va_calli (va_runV (As := [.int p0]) (rest := []) ⟨hx, hb, hml, hown, hts⟩ (kX0_isSkipped l D ct ad Z (xt G []) M s.heap.size a p0 y54 hc hk hy54) (cwV 1 hts gX0_writePattern_X0_isSkipped rfl rfl rfl (by decide +kernel) ⟨Nat.le_of_ble_eq_true rfl, Nat.le_of_ble_eq_true rfl⟩) ⟨fun a U g mk q => by obtain ⟨q0, q1, qP, qK, qD, qZ, qN⟩ := q; exact ⟨q0, q1, qP, va_K.moved (u := U) (U := U.calling g mk a) (Vm.Alike.refl U.vm) qK, qD, sF.moved (u := U) (U := U.calling g mk a) (Vm.Alike.refl U.vm) qZ, nF.same rfl qN⟩, va_recv hK hP (ci := 0) (q0 := a) rfl (wld_o ct ad (xt G []) M hc hk (by decide)), fun U hU hW => ⟨rfl, by rw [hU], by rw [hU]; exact hP, va_K.moved hW.alike hK, hD.weaken (fun _ _ _ _ => trivial), by rw [hU]; exact ((hZ.kept hS.2.1).narrow hf9).moved hW.alike, hN.warm hW⟩⟩ rfl rfl hl.1 rfl (lv_room (Nat.le_of_ble_eq_true rfl)) dX0_writePattern_61 (room_d hT hbl)) hS (fun q _ h => hf9 q h) hf9 (fun r u t H locs ht hvm hw hB hz1 hk1 hS => ?_)
      obtain ⟨hP, hK9, hD9⟩ := hB
      rw [ht] at hP
      try dsimp only at hw
      subst hw
      refine W_cs (k := ([] : NN).length) (n := wt []) rfl rfl ?_
      have hD := hD9.weaken (fun _ q _ h => hf9 q.1 h)
      obtain ⟨y55, hy55, hF⟩ := bnd_some hF
      obtain ⟨w56, hF, ew56⟩ := app_some hF
      obtain ⟨L57, eL57, hF⟩ := ltt_some hF
      have hT57 : L15 = ([] ++ y55.1) ++ w56.1 := by rw [hT, ew56]; simp only [List.append_assoc]
      have hbl57 : L57.length ≤ y.1.length ∧ wt L57 ≤ wt y.1 := by rw [eL57]; exact room_d hT57 hbl
      have J55 : ∀ (ad58 : Nat → Nat), agr G.1 ad ad58 → ∀ (H : Heap) (locs : List Loc) (ls : Array Slot), va_P D classes (wld ct ad58 (xt G L57) y55.2) H → va_D A (wld ct ad58 (xt G L57) y55.2) → va_S A s.heap H locs → lv_has ls 8 [(5, .int x12), (4, .int x5), (3, .int x1), (0, .ref (ad58 a)), (2, .int p1)] → W p l e (headSpec wsX0_writePattern ({ frames := 6, cells := y.1.length, slots := wt y.1, locals := 198 })).room s m ([.ref (ad a), .int p0, .int p1] : List Value).toArray below meth c H locs (L57 : NN).length (wt L57) (MQ below (va_Qv (fun (u : Nat → Nat) => agr G.1 ad u) (fun u t => kE D ct u (xt G y.1) A y.2 t) A) ([.ref (ad a), .int p0, .int p1] : List Value).toArray s y.1.length (wt y.1) A) (F0 m 121 ls []) := by
        intro ad58 hag H locs ls hP hD hS hl
        have hT : L15 = L57 ++ w56.1 := by rw [hT57, eL57]
        have h2 : y13.2 = w56.2 := by rw [h2, ew56]
        have hk : (xt G L57).2.1 a = 0 := by rw [eL57]; exact xt_k _ hc hk
        have hc : a < (xt G L57).1 := by rw [eL57]; exact xt_l _ hc
        have hk2 : (xt G L57).2.1 b2 = 9 := by rw [eL57]; exact xt_k _ hc2 hk2
        have hc2 : b2 < (xt G L57).1 := by rw [eL57]; exact xt_l _ hc2
        have hk4 : (xt G L57).2.1 b4 = 13 := by rw [eL57]; exact xt_k _ hc4 hk4
        have hc4 : b4 < (xt G L57).1 := by rw [eL57]; exact xt_l _ hc4
        obtain rfl := Option.some.inj hF
        have e1 : L15 = L57 := by rw [hT]; exact List.append_nil _
        have e2 : y13.2 = y55.2 := h2
        rw [e1] at J13
        try rw [e2] at J13
        exact J13 _ hag _ _ _ hP hD hS (lv_sub hl [0, 1, 2, 3, 4] rfl)
      clear hF
      obtain ⟨w59, hw59⟩ : ∃ z, z = y55 := ⟨_, rfl⟩
      have hF := hy55
      rw [← hw59] at hF
      clear hy55
      have hT : L57 = [] ++ w59.1 := by rw [eL57, hw59]
      have h2 : y55.2 = w59.2 := by rw [hw59]
      have hbl := hbl57
      refine lv_if_ne (tgt := 121) hx hb dX0_writePattern_64 (by decide) (fun c60 => ?_) (fun c60 => ?_)
      · rw [if_neg c60] at hF
        obtain rfl := Option.some.inj hF
        have e1 : L57 = [] := by rw [hT]; exact List.append_nil _
        have e2 : y55.2 = y54.1 := h2
        rw [e1] at J55
        try rw [e2] at J55
        exact J55 _ hag _ _ _ hP hD hS (lv_sub hl [0, 1, 2, 3, 5] rfl)
      · rw [if_pos c60] at hF
        refine lv_iload hx hb dX0_writePattern_67 (lv_at hl 1 rfl) ?_
        obtain ⟨y61, hy61, hF⟩ := bnd_some hF
        have J61 : ∀ (H : Heap) (locs : List Loc) (ls : Array Slot), va_P D classes (wld ct ad (xt G []) y54.1) H → va_D A (wld ct ad (xt G []) y54.1) → va_S A s.heap H locs → lv_has ls 8 [(5, .int x12), (4, .int x5), (3, .int x1), (0, .ref (ad a)), (1, .int p0), (2, .int p1)] → W p l e (headSpec wsX0_writePattern ({ frames := 6, cells := y.1.length, slots := wt y.1, locals := 198 })).room s m ([.ref (ad a), .int p0, .int p1] : List Value).toArray below meth c H locs ([] : NN).length (wt []) (MQ below (va_Qv (fun (u : Nat → Nat) => agr G.1 ad u) (fun u t => kE D ct u (xt G y.1) A y.2 t) A) ([.ref (ad a), .int p0, .int p1] : List Value).toArray s y.1.length (wt y.1) A) (F0 m 78 ls [.int y61]) := by
          intro H locs ls hP hD hS hl
          refine lv_istore (lv' := [(6, .int y61), (5, .int x12), (4, .int x5), (3, .int x1), (0, .ref (ad a)), (1, .int p0), (2, .int p1)]) hx hb dX0_writePattern_78 hl (by decide) rfl (fun ls hl => ?_)
          refine lv_iconst (v := (0 : Int32)) hx hb dX0_writePattern_80 (by decide) ?_
          refine lv_istore (lv' := [(7, .int (0 : Int32)), (6, .int y61), (5, .int x12), (4, .int x5), (3, .int x1), (0, .ref (ad a)), (1, .int p0), (2, .int p1)]) hx hb dX0_writePattern_81 hl (by decide) rfl (fun ls hl => ?_)
          obtain ⟨y62, hy62, hF⟩ := bnd_some hF
          obtain ⟨w64, hF, ew64⟩ := app_some hF
          obtain ⟨L65, eL65, hF⟩ := ltt_some hF
          have hT65 : L57 = ([] ++ y62.1) ++ w64.1 := by rw [hT, ew64]; simp only [List.append_assoc]
          have hbl65 : L65.length ≤ y.1.length ∧ wt L65 ≤ wt y.1 := by rw [eL65]; exact room_d hT65 hbl
          have K62 : ∀ (ad66 : Nat → Nat), agr G.1 ad ad66 → ∀ (H : Heap) (locs : List Loc) (ls : Array Slot), va_P D classes (wld ct ad66 (xt G L65) y62.2.2) H → va_D A (wld ct ad66 (xt G L65) y62.2.2) → va_S A s.heap H locs → lv_has ls 8 [(5, .int x12), (4, .int x5), (3, .int x1), (0, .ref (ad66 a)), (2, .int p1)] → W p l e (headSpec wsX0_writePattern ({ frames := 6, cells := y.1.length, slots := wt y.1, locals := 198 })).room s m ([.ref (ad a), .int p0, .int p1] : List Value).toArray below meth c H locs (L65 : NN).length (wt L65) (MQ below (va_Qv (fun (u : Nat → Nat) => agr G.1 ad u) (fun u t => kE D ct u (xt G y.1) A y.2 t) A) ([.ref (ad a), .int p0, .int p1] : List Value).toArray s y.1.length (wt y.1) A) (F0 m 121 ls []) := by
            intro ad66 hag H locs ls hP hD hS hl
            have hT : L57 = L65 ++ w64.1 := by rw [hT65, eL65]
            have h2 : y55.2 = w64.2 := by rw [h2, ew64]
            have hk : (xt G L65).2.1 a = 0 := by rw [eL65]; exact xt_k _ hc hk
            have hc : a < (xt G L65).1 := by rw [eL65]; exact xt_l _ hc
            have hk2 : (xt G L65).2.1 b2 = 9 := by rw [eL65]; exact xt_k _ hc2 hk2
            have hc2 : b2 < (xt G L65).1 := by rw [eL65]; exact xt_l _ hc2
            have hk4 : (xt G L65).2.1 b4 = 13 := by rw [eL65]; exact xt_k _ hc4 hk4
            have hc4 : b4 < (xt G L65).1 := by rw [eL65]; exact xt_l _ hc4
            obtain rfl := Option.some.inj hF
            have e1 : L57 = L65 := by rw [hT]; exact List.append_nil _
            have e2 : y55.2 = y62.2.2 := h2
            rw [e1] at J55
            try rw [e2] at J55
            exact J55 _ hag _ _ _ hP hD hS (lv_sub hl [0, 1, 2, 3, 4] rfl)
          clear hF
          refine itrA_rule (fun (s63 : NN × Int32 × DD) (r68 : NN) => (∃ t, s63.1 = [] ++ t) → L65 = s63.1 ++ r68 → ∀ (ad67 : Nat → Nat), agr G.1 ad ad67 → ∀ (H : Heap) (locs : List Loc) (ls : Array Slot), va_P D classes (wld ct ad67 (xt G s63.1) s63.2.2) H → va_D A (wld ct ad67 (xt G s63.1) s63.2.2) → va_S A s.heap H locs → lv_has ls 8 [(7, .int s63.2.1), (6, .int y61), (5, .int x12), (4, .int x5), (3, .int x1), (0, .ref (ad67 a)), (2, .int p1)] → W p l e (headSpec wsX0_writePattern ({ frames := 6, cells := y.1.length, slots := wt y.1, locals := 198 })).room s m ([.ref (ad a), .int p0, .int p1] : List Value).toArray below meth c H locs (s63.1 : NN).length (wt s63.1) (MQ below (va_Qv (fun (u : Nat → Nat) => agr G.1 ad u) (fun u t => kE D ct u (xt G y.1) A y.2 t) A) ([.ref (ad a), .int p0, .int p1] : List Value).toArray s y.1.length (wt y.1) A) (F0 m 83 ls [])) ?_ _ _ _ hy62 ⟨[], (List.append_nil _).symm⟩ eL65 _ hag _ _ _ hP hD hS (lv_sub hl [0, 1, 2, 3, 4, 5, 7] rfl)
          rintro s63 r68 ⟨z69, hF, ⟨t62, et62⟩, hwz69⟩ ⟨u62, eu62⟩ eq62 ad67 hag H locs ls hP hD hS hl
          try dsimp only at hF
          obtain ⟨L70, eL70⟩ : ∃ x, x = s63.1 ++ z69.1 := ⟨_, rfl⟩
          obtain ⟨w71, hw71⟩ : ∃ x, x = z69 := ⟨_, rfl⟩
          rw [← hw71] at hF
          have hbl : L70.length ≤ y.1.length ∧ wt L70 ≤ wt y.1 := room_d (show L65 = L70 ++ t62 by rw [eq62, et62, eL70]; simp only [List.append_assoc]) hbl65
          have hT : L70 = s63.1 ++ w71.1 := by rw [eL70, hw71]
          have h2 : z69.2 = w71.2 := by rw [hw71]
          have hk : (xt G s63.1).2.1 a = 0 := by rw [eu62]; exact xt_k _ hc hk
          have hc : a < (xt G s63.1).1 := by rw [eu62]; exact xt_l _ hc
          have hk2 : (xt G s63.1).2.1 b2 = 9 := by rw [eu62]; exact xt_k _ hc2 hk2
          have hc2 : b2 < (xt G s63.1).1 := by rw [eu62]; exact xt_l _ hc2
          have hk4 : (xt G s63.1).2.1 b4 = 13 := by rw [eu62]; exact xt_k _ hc4 hk4
          have hc4 : b4 < (xt G s63.1).1 := by rw [eu62]; exact xt_l _ hc4
          refine lv_iload hx hb dX0_writePattern_83 (lv_at hl 0 rfl) ?_
          refine lv_bipush (v := (48 : Int32)) hx hb dX0_writePattern_85 (by decide) ?_
          refine lv_icmp_ge (tgt := 121) hx hb dX0_writePattern_87 (by decide) (fun c72 => ?_) (fun c72 => ?_)
          · rw [if_pos c72] at hF
            obtain rfl := Option.some.inj hF
            have e1 : L70 = s63.1 := by rw [hT]; exact List.append_nil _
            have e2 : z69.2 = .inr ((s63.2.1, s63.2.2)) := h2
            rw [e2] at hwz69
            obtain ⟨hw1, hw2⟩ := hwz69
            have e8 : L65 = s63.1 := by rw [eq62, hw2, ← eL70, e1]
            rw [e8] at K62
            try rw [← hw1] at K62
            exact K62 _ hag _ _ _ hP hD hS (lv_sub hl [2, 3, 4, 5, 6] rfl)
          · rw [if_neg c72] at hF
            refine va_gets hx hb (hZ.1 9 (by decide)).1 hS hown (hts (.fieldLink RX0 578 "VideoSuite$Reader" "PATTERN" "[I") (by decide +kernel)) (fun _ h => h) dX0_writePattern_90 ?_
            refine lv_iload hx hb dX0_writePattern_93 (lv_at hl 1 rfl) ?_
            refine lv_iload hx hb dX0_writePattern_95 (lv_at hl 0 rfl) ?_
            refine lv_iadd hx hb dX0_writePattern_97 ?_
            obtain ⟨x73, ex73, hF⟩ := ltt_some hF
            refine lv_topi (fun zx73 ezx73 => ?_)
            obtain rfl : x73 = zx73 := ex73.trans ezx73.symm
            obtain ⟨hvc, hF⟩ := chk_some hF
            refine va_ti (v := .int ((sT 9).getD x73.toNatClampNeg 0)) hx hb (hZ.1 9 (by decide)).2 hS hvc rfl dX0_writePattern_98 ?_
            obtain ⟨x74, ex74, hF⟩ := ltt_some hF
            refine lv_topi (fun zx74 ezx74 => ?_)
            obtain rfl : x74 = zx74 := ex74.trans ezx74.symm
            refine lv_iload hx hb dX0_writePattern_99 (lv_at hl 2 rfl) ?_
            obtain ⟨y75, hy75, hF⟩ := bnd_some hF
            obtain ⟨w76, hF, ew76⟩ := app_some hF
            obtain ⟨L77, eL77, hF⟩ := ltt_some hF
            have hT77 : L70 = (s63.1 ++ y75.1) ++ w76.1 := by rw [hT, ew76]; simp only [List.append_assoc]
            have hbl77 : L77.length ≤ y.1.length ∧ wt L77 ≤ wt y.1 := by rw [eL77]; exact room_d hT77 hbl
            have J75 : ∀ (ad78 : Nat → Nat), agr G.1 ad ad78 → ∀ (H : Heap) (locs : List Loc) (ls : Array Slot), va_P D classes (wld ct ad78 (xt G L77) y75.2) H → va_D A (wld ct ad78 (xt G L77) y75.2) → va_S A s.heap H locs → lv_has ls 8 [(7, .int s63.2.1), (6, .int y61), (5, .int x12), (4, .int x5), (3, .int x1), (0, .ref (ad78 a)), (2, .int p1)] → W p l e (headSpec wsX0_writePattern ({ frames := 6, cells := y.1.length, slots := wt y.1, locals := 198 })).room s m ([.ref (ad a), .int p0, .int p1] : List Value).toArray below meth c H locs (L77 : NN).length (wt L77) (MQ below (va_Qv (fun (u : Nat → Nat) => agr G.1 ad u) (fun u t => kE D ct u (xt G y.1) A y.2 t) A) ([.ref (ad a), .int p0, .int p1] : List Value).toArray s y.1.length (wt y.1) A) (F0 m 115 ls []) := by
              intro ad78 hag H locs ls hP hD hS hl
              have hT : L70 = L77 ++ w76.1 := by rw [hT77, eL77]
              have h2 : z69.2 = w76.2 := by rw [h2, ew76]
              have hk : (xt G L77).2.1 a = 0 := by rw [eL77]; exact xt_k _ hc hk
              have hc : a < (xt G L77).1 := by rw [eL77]; exact xt_l _ hc
              have hk2 : (xt G L77).2.1 b2 = 9 := by rw [eL77]; exact xt_k _ hc2 hk2
              have hc2 : b2 < (xt G L77).1 := by rw [eL77]; exact xt_l _ hc2
              have hk4 : (xt G L77).2.1 b4 = 13 := by rw [eL77]; exact xt_k _ hc4 hk4
              have hc4 : b4 < (xt G L77).1 := by rw [eL77]; exact xt_l _ hc4
              obtain ⟨x79, ex79, hF⟩ := ltt_some hF
              refine lv_iinc (v := x79) (lv' := [(7, .int x79), (6, .int y61), (5, .int x12), (4, .int x5), (3, .int x1), (0, .ref (ad78 a)), (2, .int p1)]) hx hb dX0_writePattern_115 hl (k := 0) rfl (by rw [ex79]; rfl) (by decide) rfl (fun ls hl => ?_)
              refine lv_goto (tgt := 83) hx hb dX0_writePattern_118 (by decide) ?_
              obtain rfl := Option.some.inj hF
              have e1 : L70 = L77 := by rw [hT]; exact List.append_nil _
              have e2 : z69.2 = .inl (L77, (x79, y75.2)) := h2
              rw [e2] at hwz69
              obtain ⟨r2, er2, hwz69⟩ := hwz69
              exact hwz69 ⟨u62 ++ z69.1, by show L77 = _; rw [← e1, eL70, eu62]; simp only [List.append_assoc]⟩ (by show L65 = L77 ++ r2; rw [eq62, er2, ← e1, eL70]; simp only [List.append_assoc]) _ hag _ _ _ hP hD hS (lv_sub hl [0, 1, 2, 3, 4, 5, 6] rfl)
            clear hF
            obtain ⟨w80, hw80⟩ : ∃ z, z = y75 := ⟨_, rfl⟩
            have hF := hy75
            rw [← hw80] at hF
            clear hy75
            have hT : L77 = s63.1 ++ w80.1 := by rw [eL77, hw80]
            have h2 : y75.2 = w80.2 := by rw [hw80]
            have hbl := hbl77
            refine lv_icmp_ne (tgt := 115) hx hb dX0_writePattern_101 (by decide) (fun c81 => ?_) (fun c81 => ?_)
            · rw [if_neg c81] at hF
              obtain rfl := Option.some.inj hF
              have e1 : L77 = s63.1 := by rw [hT]; exact List.append_nil _
              have e2 : y75.2 = s63.2.2 := h2
              rw [e1] at J75
              try rw [e2] at J75
              exact J75 _ hag _ _ _ hP hD hS (lv_sub hl [0, 1, 2, 3, 4, 5, 6] rfl)
            · rw [if_pos c81] at hF
              refine lv_aload_n hx hb dX0_writePattern_104 rfl (lv_at hl 5 rfl) ?_
              refine va_get (D := D) (ci := 0) (v := va_re ad67 (s63.2.2.2 a 2)) (C := RX0) (T := TX0) (N := 21) hx hb hts (by decide +kernel) hown hK hP a (wld_o ct ad67 (xt G s63.1) s63.2.2 hc hk (by decide)) rfl 2 (by decide) (hts (.fieldLink RX0 29 "VideoSuite$Coder" "writer" "LVideoSuite$Writer;") (by decide +kernel)) (fun _ h9 => h9) rfl dX0_writePattern_105 ?_
              refine lv_bipush (v := (9 : Int32)) hx hb dX0_writePattern_108 (by decide) ?_
              refine lv_iload hx hb dX0_writePattern_110 (lv_at hl 0 rfl) ?_
              obtain ⟨b82, ho82, hc82, hk82, hF⟩ := dr_some hF
              refine W_st (st' := [.int s63.2.1, .int (9 : Int32), .ref (ad67 b82)]) (by rw [va_some ho82]) ?_
              obtain ⟨y83, hy83, hF⟩ := bnd_some hF
              obtain ⟨w84, hF, ew84⟩ := app_some hF
              obtain ⟨L85, eL85, hF⟩ := ltt_some hF
              have hT85 : L77 = (s63.1 ++ y83.1) ++ w84.1 := by rw [hT, ew84]; simp only [List.append_assoc]
              have hf9 := wA_in hD hA9 hS
              refine va_callv (va_runV (As := [.int (9 : Int32), .int s63.2.1]) (rest := []) ⟨hx, hb, hml, hown, hts⟩ (kX10_ue l D ct ad67 Z (xt G s63.1) s63.2.2 _ b82 ((9 : Int32)) s63.2.1 y83 hc82 hk82 hy83) (cwV 2 hts gX0_writePattern_X10_ue rfl rfl rfl (by decide +kernel) ⟨Nat.le_of_ble_eq_true rfl, Nat.le_of_ble_eq_true rfl⟩) ⟨fun a U g mk q => by obtain ⟨q0, q1, qP, qK, qD, qZ, qN⟩ := q; exact ⟨q0, q1, qP, va_K.moved (u := U) (U := U.calling g mk a) (Vm.Alike.refl U.vm) qK, qD, sF.moved (u := U) (U := U.calling g mk a) (Vm.Alike.refl U.vm) qZ, nF.same rfl qN⟩, va_recv hK hP (ci := 10) (q0 := b82) rfl (wld_o ct ad67 (xt G s63.1) s63.2.2 hc82 hk82 (by decide)), fun U hU hW => ⟨rfl, by rw [hU], by rw [hU]; exact hP, va_K.moved hW.alike hK, hD.weaken (fun _ _ _ _ => trivial), by rw [hU]; exact ((hZ.kept hS.2.1).narrow hf9).moved hW.alike, hN.warm hW⟩⟩ rfl rfl hl.1 rfl (lv_room (Nat.le_of_ble_eq_true rfl)) dX0_writePattern_112 (room_s hT85 hbl)) hS (fun q _ h => hf9 q h) hf9 (fun ad86 t H locs ht hvm hw hB hz1 hk1 hS => ?_)
              have hn87 := hw
              obtain ⟨hP, hK9, hD9⟩ := hB
              rw [ht] at hP
              have hD := hD9.weaken (fun _ q _ h => hf9 q.1 h)
              rw [xt_xt, ← eL85] at hP hD
              refine W_cs (k := L85.length) (n := wt L85) (by rw [eL85]; exact (len_s s63.1 y83.1).symm) (by rw [eL85]; exact (wt_app s63.1 y83.1).symm) ?_
              have hT : L77 = L85 ++ w84.1 := by rw [hT85, eL85]
              have h2 : y75.2 = w84.2 := by rw [h2, ew84]
              have hl := lv_sub (l' := [(7, .int s63.2.1), (6, .int y61), (5, .int x12), (4, .int x5), (3, .int x1), (0, .ref (ad67 a)), (2, .int p1)]) hl [0, 1, 2, 3, 4, 5, 6] rfl
              have e9 : ([(7, .int s63.2.1), (6, .int y61), (5, .int x12), (4, .int x5), (3, .int x1), (0, .ref (ad67 a)), (2, .int p1)] : List (Nat × Value)) = [(7, .int s63.2.1), (6, .int y61), (5, .int x12), (4, .int x5), (3, .int x1), (0, .ref (ad86 a)), (2, .int p1)] := (by first | rfl | simp only [hn87 a hc])
              rw [e9] at hl
              clear e9
              have hk : (xt G L85).2.1 a = 0 := by rw [eL85]; exact xt_k _ hc hk
              have hc : a < (xt G L85).1 := by rw [eL85]; exact xt_l _ hc
              have hk2 : (xt G L85).2.1 b2 = 9 := by rw [eL85]; exact xt_k _ hc2 hk2
              have hc2 : b2 < (xt G L85).1 := by rw [eL85]; exact xt_l _ hc2
              have hk4 : (xt G L85).2.1 b4 = 13 := by rw [eL85]; exact xt_k _ hc4 hk4
              have hc4 : b4 < (xt G L85).1 := by rw [eL85]; exact xt_l _ hc4
              have hk82 : (xt G L85).2.1 b82 = 10 := by rw [eL85]; exact xt_k _ hc82 hk82
              have hc82 : b82 < (xt G L85).1 := by rw [eL85]; exact xt_l _ hc82
              have hag := agr_t (xt_ge _ _) hag hn87
              obtain rfl := Option.some.inj hF
              have e1 : L77 = L85 := by rw [hT]; exact List.append_nil _
              have e2 : y75.2 = y83.2 := h2
              rw [e1] at J75
              try rw [e2] at J75
              exact J75 _ hag _ _ _ hP hD hS (lv_sub hl [0, 1, 2, 3, 4, 5, 6] rfl)
        clear hF
        have hF := hy61
        clear hy61
        refine lv_if_ne (tgt := 76) hx hb dX0_writePattern_69 (by decide) (fun c88 => ?_) (fun c88 => ?_)
        · rw [if_neg c88] at hF
          refine lv_bipush (v := (48 : Int32)) hx hb dX0_writePattern_76 (by decide) ?_
          obtain rfl := Option.some.inj hF
          exact J61 _ _ _ hP hD hS (lv_sub hl [0, 1, 2, 3, 4, 5] rfl)
        · rw [if_pos c88] at hF
          refine lv_iconst (v := (0 : Int32)) hx hb dX0_writePattern_72 (by decide) ?_
          refine lv_goto (tgt := 78) hx hb dX0_writePattern_73 (by decide) ?_
          obtain rfl := Option.some.inj hF
          exact J61 _ _ _ hP hD hS (lv_sub hl [0, 1, 2, 3, 4, 5] rfl)
  · rw [if_pos c6] at hF
    obtain rfl := Option.some.inj hF
    have e1 : y.1 = [] := by rw [hT]; exact List.append_nil _
    have e2 : y.2 = M := h2
    refine W.widen (k := y.1.length) (n := wt y.1) (Nat.le_of_eq (by rw [e1])) (Nat.le_of_eq (by rw [e1])) ?_
    exact W.vret hx hb hr (fun t ht hW => ⟨⟨ad, rfl, hag, (by unfold kE; rw [e1, e2]; exact ⟨by rw [ht]; exact hP, va_K.moved hW.alike hK, hD⟩)⟩, hS.F ht⟩) hS.2.2 dX0_writePattern_24
theorem ggX0_writeWeights_X3_clearWeights : GoodIn wsX0_writeWeights wsX3_clearWeights := goodIn_r _ [10, 11, 12, 128, 129, 130, 131] (by decide +kernel) (by decide +kernel)
set_option maxRecDepth 20000 in
theorem gX0_writeWeights_X3_clearWeights : GoodIn wsX0_writeWeights (wsV RX0 325 RX3 yX3_clearWeights wsX3_clearWeights) := goodIn_app (goodIn_of _ (by decide +kernel)) ggX0_writeWeights_X3_clearWeights
set_option maxRecDepth 20000 in
theorem ggX0_writeWeights_X10_ue : GoodIn wsX0_writeWeights wsX10_ue := goodIn_r _ [17, 18, 19, 16, 20, 21, 22, 23, 24, 25, 26, 27, 28, 29, 30, 31, 32, 33, 34, 35, 36, 37, 38, 39, 40, 41, 42, 43, 44, 45, 46, 47, 48, 49, 50, 51, 52, 53, 54, 55, 56, 57, 58, 59, 60, 61, 62, 63, 132, 133, 134, 135, 136, 137, 138, 139, 140, 141, 142, 143, 144, 145, 146, 147, 148, 149, 150, 151] (by decide +kernel) (by decide +kernel)
set_option maxRecDepth 20000 in
theorem gX0_writeWeights_X10_ue : GoodIn wsX0_writeWeights (wsV RX0 162 RX10 yX10_ue wsX10_ue) := goodIn_app (goodIn_of _ (by decide +kernel)) ggX0_writeWeights_X10_ue
set_option maxRecDepth 20000 in
theorem ggX0_writeWeights_X3_weightAt : GoodIn wsX0_writeWeights wsX3_weightAt := goodIn_r _ [66] (by decide +kernel) (by decide +kernel)
set_option maxRecDepth 20000 in
theorem gX0_writeWeights_X3_weightAt : GoodIn wsX0_writeWeights (va_wsS RX0 328 yX3_weightAt wsX3_weightAt) := goodIn_app (goodIn_of _ (by decide +kernel)) ggX0_writeWeights_X3_weightAt
set_option maxRecDepth 20000 in
theorem ggX0_writeWeights_X0_draw : GoodIn wsX0_writeWeights wsX0_draw := goodIn_r _ [71, 72, 73, 74, 87, 88, 89, 90, 91, 92, 93, 94, 95, 96, 97, 98, 99, 100, 101, 102, 103, 104, 105, 106, 107] (by decide +kernel) (by decide +kernel)
set_option maxRecDepth 20000 in
theorem gX0_writeWeights_X0_draw : GoodIn wsX0_writeWeights (wsV RX0 334 RX0 yX0_draw wsX0_draw) := goodIn_app (goodIn_of _ (by decide +kernel)) ggX0_writeWeights_X0_draw
set_option maxRecDepth 20000 in
theorem ggX0_writeWeights_X0_flag : GoodIn wsX0_writeWeights wsX0_flag := goodIn_r _ [78, 4, 79, 22, 23, 16, 24, 25, 26, 27, 28, 29, 30, 31, 32, 33, 34, 35, 36, 37, 38, 39, 40, 41, 42, 43, 44, 45, 46, 47, 48, 49, 50, 51, 52, 53, 54, 55, 56, 57, 58, 59, 60, 61, 62, 63, 87, 88, 89, 90, 91, 92, 93, 94, 95, 96, 97, 98, 99, 100, 101, 102, 103, 104, 105, 106, 107, 132, 133, 134, 135, 136, 137, 138, 139, 140, 141, 142, 143, 144, 145, 146, 147, 148, 149, 150, 151] (by decide +kernel) (by decide +kernel)
set_option maxRecDepth 20000 in
theorem gX0_writeWeights_X0_flag : GoodIn wsX0_writeWeights (wsV RX0 166 RX0 yX0_flag wsX0_flag) := goodIn_app (goodIn_of _ (by decide +kernel)) ggX0_writeWeights_X0_flag
set_option maxRecDepth 20000 in
theorem ggX0_writeWeights_X10_se : GoodIn wsX0_writeWeights wsX10_se := goodIn_r _ [83, 84, 85, 16, 86, 18, 19, 20, 21, 22, 23, 24, 25, 26, 27, 28, 29, 30, 31, 32, 33, 34, 35, 36, 37, 38, 39, 40, 41, 42, 43, 44, 45, 46, 47, 48, 49, 50, 51, 52, 53, 54, 55, 56, 57, 58, 59, 60, 61, 62, 63, 132, 133, 134, 135, 136, 137, 138, 139, 140, 141, 142, 143, 144, 145, 146, 147, 148, 149, 150, 151] (by decide +kernel) (by decide +kernel)
set_option maxRecDepth 20000 in
theorem gX0_writeWeights_X10_se : GoodIn wsX0_writeWeights (wsV RX0 169 RX10 yX10_se wsX10_se) := goodIn_app (goodIn_of _ (by decide +kernel)) ggX0_writeWeights_X10_se
theorem dX0_writeWeights_0 : decode cX0_writeWeights 0 = .ok (.aload_n 0, 1) := by decide +kernel
theorem dX0_writeWeights_1 : decode cX0_writeWeights 1 = .ok (.getfield 36, 3) := by decide +kernel
theorem dX0_writeWeights_4 : decode cX0_writeWeights 4 = .ok (.getfield 81, 3) := by decide +kernel
theorem dX0_writeWeights_7 : decode cX0_writeWeights 7 = .ok (.getfield 252, 3) := by decide +kernel
theorem dX0_writeWeights_10 : decode cX0_writeWeights 10 = .ok (.bipush 22, 2) := by decide +kernel
theorem dX0_writeWeights_12 : decode cX0_writeWeights 12 = .ok (.iconst 5, 1) := by decide +kernel
theorem dX0_writeWeights_13 : decode cX0_writeWeights 13 = .ok (.iastore, 1) := by decide +kernel
theorem dX0_writeWeights_14 : decode cX0_writeWeights 14 = .ok (.aload_n 0, 1) := by decide +kernel
theorem dX0_writeWeights_15 : decode cX0_writeWeights 15 = .ok (.getfield 36, 3) := by decide +kernel
theorem dX0_writeWeights_18 : decode cX0_writeWeights 18 = .ok (.getfield 81, 3) := by decide +kernel
theorem dX0_writeWeights_21 : decode cX0_writeWeights 21 = .ok (.getfield 252, 3) := by decide +kernel
theorem dX0_writeWeights_24 : decode cX0_writeWeights 24 = .ok (.bipush 23, 2) := by decide +kernel
theorem dX0_writeWeights_26 : decode cX0_writeWeights 26 = .ok (.iconst 5, 1) := by decide +kernel
theorem dX0_writeWeights_27 : decode cX0_writeWeights 27 = .ok (.iastore, 1) := by decide +kernel
theorem dX0_writeWeights_28 : decode cX0_writeWeights 28 = .ok (.aload_n 0, 1) := by decide +kernel
theorem dX0_writeWeights_29 : decode cX0_writeWeights 29 = .ok (.getfield 36, 3) := by decide +kernel
theorem dX0_writeWeights_32 : decode cX0_writeWeights 32 = .ok (.getfield 81, 3) := by decide +kernel
theorem dX0_writeWeights_35 : decode cX0_writeWeights 35 = .ok (.invokevirtual 325, 3) := by decide +kernel
theorem dX0_writeWeights_38 : decode cX0_writeWeights 38 = .ok (.aload_n 0, 1) := by decide +kernel
theorem dX0_writeWeights_39 : decode cX0_writeWeights 39 = .ok (.getfield 29, 3) := by decide +kernel
theorem dX0_writeWeights_42 : decode cX0_writeWeights 42 = .ok (.iconst 0, 1) := by decide +kernel
theorem dX0_writeWeights_43 : decode cX0_writeWeights 43 = .ok (.iconst 5, 1) := by decide +kernel
theorem dX0_writeWeights_44 : decode cX0_writeWeights 44 = .ok (.invokevirtual 162, 3) := by decide +kernel
theorem dX0_writeWeights_47 : decode cX0_writeWeights 47 = .ok (.aload_n 0, 1) := by decide +kernel
theorem dX0_writeWeights_48 : decode cX0_writeWeights 48 = .ok (.getfield 29, 3) := by decide +kernel
theorem dX0_writeWeights_51 : decode cX0_writeWeights 51 = .ok (.iconst 0, 1) := by decide +kernel
theorem dX0_writeWeights_52 : decode cX0_writeWeights 52 = .ok (.iconst 5, 1) := by decide +kernel
theorem dX0_writeWeights_53 : decode cX0_writeWeights 53 = .ok (.invokevirtual 162, 3) := by decide +kernel
theorem dX0_writeWeights_56 : decode cX0_writeWeights 56 = .ok (.iconst 0, 1) := by decide +kernel
theorem dX0_writeWeights_57 : decode cX0_writeWeights 57 = .ok (.istore_n 1, 1) := by decide +kernel
theorem dX0_writeWeights_58 : decode cX0_writeWeights 58 = .ok (.iload_n 1, 1) := by decide +kernel
theorem dX0_writeWeights_59 : decode cX0_writeWeights 59 = .ok (.aload_n 0, 1) := by decide +kernel
theorem dX0_writeWeights_60 : decode cX0_writeWeights 60 = .ok (.getfield 36, 3) := by decide +kernel
theorem dX0_writeWeights_63 : decode cX0_writeWeights 63 = .ok (.getfield 81, 3) := by decide +kernel
theorem dX0_writeWeights_66 : decode cX0_writeWeights 66 = .ok (.getfield 252, 3) := by decide +kernel
theorem dX0_writeWeights_69 : decode cX0_writeWeights 69 = .ok (.bipush 9, 2) := by decide +kernel
theorem dX0_writeWeights_71 : decode cX0_writeWeights 71 = .ok (.iaload, 1) := by decide +kernel
theorem dX0_writeWeights_72 : decode cX0_writeWeights 72 = .ok (.if_icmp .ge 119, 3) := by decide +kernel
theorem dX0_writeWeights_75 : decode cX0_writeWeights 75 = .ok (.iload_n 1, 1) := by decide +kernel
theorem dX0_writeWeights_76 : decode cX0_writeWeights 76 = .ok (.bipush 8, 2) := by decide +kernel
theorem dX0_writeWeights_78 : decode cX0_writeWeights 78 = .ok (.if_icmp .ge 113, 3) := by decide +kernel
theorem dX0_writeWeights_81 : decode cX0_writeWeights 81 = .ok (.iconst 0, 1) := by decide +kernel
theorem dX0_writeWeights_82 : decode cX0_writeWeights 82 = .ok (.iload_n 1, 1) := by decide +kernel
theorem dX0_writeWeights_83 : decode cX0_writeWeights 83 = .ok (.iconst 0, 1) := by decide +kernel
theorem dX0_writeWeights_84 : decode cX0_writeWeights 84 = .ok (.invokestatic 328, 3) := by decide +kernel
theorem dX0_writeWeights_87 : decode cX0_writeWeights 87 = .ok (.istore_n 2, 1) := by decide +kernel
theorem dX0_writeWeights_88 : decode cX0_writeWeights 88 = .ok (.aload_n 0, 1) := by decide +kernel
theorem dX0_writeWeights_89 : decode cX0_writeWeights 89 = .ok (.getfield 36, 3) := by decide +kernel
theorem dX0_writeWeights_92 : decode cX0_writeWeights 92 = .ok (.getfield 81, 3) := by decide +kernel
theorem dX0_writeWeights_95 : decode cX0_writeWeights 95 = .ok (.getfield 331, 3) := by decide +kernel
theorem dX0_writeWeights_98 : decode cX0_writeWeights 98 = .ok (.iload_n 2, 1) := by decide +kernel
theorem dX0_writeWeights_99 : decode cX0_writeWeights 99 = .ok (.bipush 32, 2) := by decide +kernel
theorem dX0_writeWeights_101 : decode cX0_writeWeights 101 = .ok (.aload_n 0, 1) := by decide +kernel
theorem dX0_writeWeights_102 : decode cX0_writeWeights 102 = .ok (.bipush 9, 2) := by decide +kernel
theorem dX0_writeWeights_104 : decode cX0_writeWeights 104 = .ok (.invokevirtual 334, 3) := by decide +kernel
theorem dX0_writeWeights_107 : decode cX0_writeWeights 107 = .ok (.iadd, 1) := by decide +kernel
theorem dX0_writeWeights_108 : decode cX0_writeWeights 108 = .ok (.iconst 4, 1) := by decide +kernel
theorem dX0_writeWeights_109 : decode cX0_writeWeights 109 = .ok (.isub, 1) := by decide +kernel
theorem dX0_writeWeights_110 : decode cX0_writeWeights 110 = .ok (.iastore, 1) := by decide +kernel
theorem dX0_writeWeights_111 : decode cX0_writeWeights 111 = .ok (.aload_n 0, 1) := by decide +kernel
theorem dX0_writeWeights_112 : decode cX0_writeWeights 112 = .ok (.getfield 36, 3) := by decide +kernel
theorem dX0_writeWeights_115 : decode cX0_writeWeights 115 = .ok (.getfield 81, 3) := by decide +kernel
theorem dX0_writeWeights_118 : decode cX0_writeWeights 118 = .ok (.getfield 331, 3) := by decide +kernel
theorem dX0_writeWeights_121 : decode cX0_writeWeights 121 = .ok (.iload_n 2, 1) := by decide +kernel
theorem dX0_writeWeights_122 : decode cX0_writeWeights 122 = .ok (.iconst 1, 1) := by decide +kernel
theorem dX0_writeWeights_123 : decode cX0_writeWeights 123 = .ok (.iadd, 1) := by decide +kernel
theorem dX0_writeWeights_124 : decode cX0_writeWeights 124 = .ok (.aload_n 0, 1) := by decide +kernel
theorem dX0_writeWeights_125 : decode cX0_writeWeights 125 = .ok (.bipush 9, 2) := by decide +kernel
theorem dX0_writeWeights_127 : decode cX0_writeWeights 127 = .ok (.invokevirtual 334, 3) := by decide +kernel
theorem dX0_writeWeights_130 : decode cX0_writeWeights 130 = .ok (.iconst 4, 1) := by decide +kernel
theorem dX0_writeWeights_131 : decode cX0_writeWeights 131 = .ok (.isub, 1) := by decide +kernel
theorem dX0_writeWeights_132 : decode cX0_writeWeights 132 = .ok (.iastore, 1) := by decide +kernel
theorem dX0_writeWeights_133 : decode cX0_writeWeights 133 = .ok (.aload_n 0, 1) := by decide +kernel
theorem dX0_writeWeights_134 : decode cX0_writeWeights 134 = .ok (.iconst 1, 1) := by decide +kernel
theorem dX0_writeWeights_135 : decode cX0_writeWeights 135 = .ok (.invokevirtual 166, 3) := by decide +kernel
theorem dX0_writeWeights_138 : decode cX0_writeWeights 138 = .ok (.aload_n 0, 1) := by decide +kernel
theorem dX0_writeWeights_139 : decode cX0_writeWeights 139 = .ok (.getfield 29, 3) := by decide +kernel
theorem dX0_writeWeights_142 : decode cX0_writeWeights 142 = .ok (.iconst 0, 1) := by decide +kernel
theorem dX0_writeWeights_143 : decode cX0_writeWeights 143 = .ok (.aload_n 0, 1) := by decide +kernel
theorem dX0_writeWeights_144 : decode cX0_writeWeights 144 = .ok (.getfield 36, 3) := by decide +kernel
theorem dX0_writeWeights_147 : decode cX0_writeWeights 147 = .ok (.getfield 81, 3) := by decide +kernel
theorem dX0_writeWeights_150 : decode cX0_writeWeights 150 = .ok (.getfield 331, 3) := by decide +kernel
theorem dX0_writeWeights_153 : decode cX0_writeWeights 153 = .ok (.iload_n 2, 1) := by decide +kernel
theorem dX0_writeWeights_154 : decode cX0_writeWeights 154 = .ok (.iaload, 1) := by decide +kernel
theorem dX0_writeWeights_155 : decode cX0_writeWeights 155 = .ok (.invokevirtual 169, 3) := by decide +kernel
theorem dX0_writeWeights_158 : decode cX0_writeWeights 158 = .ok (.aload_n 0, 1) := by decide +kernel
theorem dX0_writeWeights_159 : decode cX0_writeWeights 159 = .ok (.getfield 29, 3) := by decide +kernel
theorem dX0_writeWeights_162 : decode cX0_writeWeights 162 = .ok (.iconst 0, 1) := by decide +kernel
theorem dX0_writeWeights_163 : decode cX0_writeWeights 163 = .ok (.aload_n 0, 1) := by decide +kernel
theorem dX0_writeWeights_164 : decode cX0_writeWeights 164 = .ok (.getfield 36, 3) := by decide +kernel
theorem dX0_writeWeights_167 : decode cX0_writeWeights 167 = .ok (.getfield 81, 3) := by decide +kernel
theorem dX0_writeWeights_170 : decode cX0_writeWeights 170 = .ok (.getfield 331, 3) := by decide +kernel
theorem dX0_writeWeights_173 : decode cX0_writeWeights 173 = .ok (.iload_n 2, 1) := by decide +kernel
theorem dX0_writeWeights_174 : decode cX0_writeWeights 174 = .ok (.iconst 1, 1) := by decide +kernel
theorem dX0_writeWeights_175 : decode cX0_writeWeights 175 = .ok (.iadd, 1) := by decide +kernel
theorem dX0_writeWeights_176 : decode cX0_writeWeights 176 = .ok (.iaload, 1) := by decide +kernel
theorem dX0_writeWeights_177 : decode cX0_writeWeights 177 = .ok (.invokevirtual 169, 3) := by decide +kernel
theorem dX0_writeWeights_180 : decode cX0_writeWeights 180 = .ok (.aload_n 0, 1) := by decide +kernel
theorem dX0_writeWeights_181 : decode cX0_writeWeights 181 = .ok (.iconst 0, 1) := by decide +kernel
theorem dX0_writeWeights_182 : decode cX0_writeWeights 182 = .ok (.invokevirtual 166, 3) := by decide +kernel
theorem dX0_writeWeights_185 : decode cX0_writeWeights 185 = .ok (.iinc 1 1, 3) := by decide +kernel
theorem dX0_writeWeights_188 : decode cX0_writeWeights 188 = .ok (.goto (-130), 3) := by decide +kernel
theorem dX0_writeWeights_191 : decode cX0_writeWeights 191 = .ok (.return_, 1) := by decide +kernel
noncomputable def FX0_writeWeights (G : GG) (M : DD) (a : Nat)  : Option (NN × DD) :=
  dr (xt G []) 9 ((M.2 a 3)) fun b2 =>
  dr (xt G []) 3 ((M.2 b2 1)) fun b3 =>
  dr (xt G []) 13 ((M.2 b3 0)) fun b4 =>
  chk (¬ (((22 : Int32)) < 0 ∨ (xt G []).2.2 b4 ≤ ((22 : Int32)).toNatClampNeg)) <|
  ltt (uI M b4 ((22 : Int32)).toNatClampNeg ((5 : Int32))) fun M5 =>
  dr (xt G []) 9 ((M5.2 a 3)) fun b6 =>
  dr (xt G []) 3 ((M5.2 b6 1)) fun b7 =>
  dr (xt G []) 13 ((M5.2 b7 0)) fun b8 =>
  chk (¬ (((23 : Int32)) < 0 ∨ (xt G []).2.2 b8 ≤ ((23 : Int32)).toNatClampNeg)) <|
  ltt (uI M5 b8 ((23 : Int32)).toNatClampNeg ((5 : Int32))) fun M9 =>
  dr (xt G []) 9 ((M9.2 a 3)) fun b10 =>
  dr (xt G []) 3 ((M9.2 b10 1)) fun b11 =>
  bnd (FX3_clearWeights (xt G []) M9 b11) fun y12 =>
  dr (xt G []) 10 ((y12.2 a 2)) fun b13 =>
  bnd (FX10_ue (xt G []) y12 b13 ((0 : Int32)) ((5 : Int32))) fun y14 =>
  app y14.1 <|
  ltt ([] ++ y14.1) fun L16 =>
  dr (xt G L16) 10 ((y14.2.2 a 2)) fun b19 =>
  bnd (FX10_ue (xt G L16) y14.2 b19 ((0 : Int32)) ((5 : Int32))) fun y20 =>
  app y20.1 <|
  ltt (L16 ++ y20.1) fun L22 =>
  bnd (itrA (fun (s26 : NN × Int32 × DD) => ((dr (xt G s26.1) 9 ((s26.2.2.2 a 3)) fun b35 =>
  dr (xt G s26.1) 3 ((s26.2.2.2 b35 1)) fun b36 =>
  dr (xt G s26.1) 13 ((s26.2.2.2 b36 0)) fun b37 =>
  chk (¬ (((9 : Int32)) < 0 ∨ (xt G s26.1).2.2 b37 ≤ ((9 : Int32)).toNatClampNeg)) <|
  ltt (s26.2.2.1 b37 ((9 : Int32)).toNatClampNeg) fun x38 =>
  if x38 ≤ s26.2.1 then (some ([], .inr ((s26.2.1, s26.2.2)))) else
  (if ((8 : Int32)) ≤ s26.2.1 then (some ([], .inr ((s26.2.1, s26.2.2)))) else
  (bnd (FX3_weightAt (xt G s26.1) s26.2.2 ((0 : Int32)) s26.2.1 ((0 : Int32))) fun y41 =>
  dr (xt G s26.1) 9 ((y41.1.2 a 3)) fun b42 =>
  dr (xt G s26.1) 3 ((y41.1.2 b42 1)) fun b43 =>
  bnd (FX0_draw (xt G s26.1) y41.1 a ((9 : Int32))) fun y44 =>
  ltt ((((32 : Int32)) + y44.2)) fun x45 =>
  ltt ((x45 - ((4 : Int32)))) fun x46 =>
  dr (xt G s26.1) 13 ((y41.1.2 b43 3)) fun b47 =>
  chk (¬ (y41.2 < 0 ∨ (xt G s26.1).2.2 b47 ≤ y41.2.toNatClampNeg)) <|
  ltt (uI y44.1 b47 y41.2.toNatClampNeg x46) fun M48 =>
  dr (xt G s26.1) 9 ((M48.2 a 3)) fun b49 =>
  dr (xt G s26.1) 3 ((M48.2 b49 1)) fun b50 =>
  ltt ((y41.2 + ((1 : Int32)))) fun x51 =>
  bnd (FX0_draw (xt G s26.1) M48 a ((9 : Int32))) fun y52 =>
  ltt ((y52.2 - ((4 : Int32)))) fun x53 =>
  dr (xt G s26.1) 13 ((M48.2 b50 3)) fun b54 =>
  chk (¬ (x51 < 0 ∨ (xt G s26.1).2.2 b54 ≤ x51.toNatClampNeg)) <|
  ltt (uI y52.1 b54 x51.toNatClampNeg x53) fun M55 =>
  bnd (FX0_flag (xt G s26.1) M55 a ((1 : Int32))) fun y56 =>
  app y56.1 <|
  ltt (s26.1 ++ y56.1) fun L58 =>
  dr (xt G L58) 9 ((y56.2.2 a 3)) fun b61 =>
  dr (xt G L58) 3 ((y56.2.2 b61 1)) fun b62 =>
  dr (xt G L58) 13 ((y56.2.2 b62 3)) fun b63 =>
  chk (¬ (y41.2 < 0 ∨ (xt G L58).2.2 b63 ≤ y41.2.toNatClampNeg)) <|
  ltt (y56.2.1 b63 y41.2.toNatClampNeg) fun x64 =>
  dr (xt G L58) 10 ((y56.2.2 a 2)) fun b65 =>
  bnd (FX10_se (xt G L58) y56.2 b65 ((0 : Int32)) x64) fun y66 =>
  app y66.1 <|
  ltt (L58 ++ y66.1) fun L68 =>
  dr (xt G L68) 9 ((y66.2.2 a 3)) fun b71 =>
  dr (xt G L68) 3 ((y66.2.2 b71 1)) fun b72 =>
  ltt ((y41.2 + ((1 : Int32)))) fun x73 =>
  dr (xt G L68) 13 ((y66.2.2 b72 3)) fun b74 =>
  chk (¬ (x73 < 0 ∨ (xt G L68).2.2 b74 ≤ x73.toNatClampNeg)) <|
  ltt (y66.2.1 b74 x73.toNatClampNeg) fun x75 =>
  dr (xt G L68) 10 ((y66.2.2 a 2)) fun b76 =>
  bnd (FX10_se (xt G L68) y66.2 b76 ((0 : Int32)) x75) fun y77 =>
  app y77.1 <|
  ltt (L68 ++ y77.1) fun L79 =>
  bnd (FX0_flag (xt G L79) y77.2 a ((0 : Int32))) fun y82 =>
  app y82.1 <|
  ltt (L79 ++ y82.1) fun L84 =>
  ltt (s26.2.1 + (1 : Int32)) fun x87 =>
  some ([], .inl (L84, (x87, y82.2)))))) : Option (NN × ((NN × Int32 × DD) ⊕ (Int32 × DD))))) 1000000 (L22, ((0 : Int32), y20.2))) fun (y25 : NN × Int32 × DD) =>
  app y25.1 <|
  ltt (L22 ++ y25.1) fun L28 =>
  some ([], y25.2.2)
set_option maxHeartbeats 4000000 in
set_option maxRecDepth 100000 in
theorem kX0_writeWeights (l : Launch) (D : va_G) (ct : CT) (ad : Nat → Nat) (Z : Nat → Nat) (G : GG) (M : DD) (sz : Nat) (a : Nat)  (y : NN × DD) (hc : a < G.1) (hk : G.2.1 a = 0) (hF : FX0_writeWeights G M a  = some y) : Met l yX0_writeWeights wsX0_writeWeights ({ frames := 6, cells := y.1.length, slots := wt y.1, locals := 198 }) (va_Pc [.ref (ad a)] (kB D ct ad Z G M sz)) (va_Qv (fun (u : Nat → Nat) => agr G.1 ad u) (fun u t => kE D ct u (xt G y.1) (wA ad G sz) y.2 t) (wA ad G sz)) y.1.length (wt y.1) (wA ad G sz) := by
  refine Met.ofW (cc := cX0_writeWeights) (maxL := 3) (ret := none) (by decide) rfl ?_
  intro p e s m args below meth c s₁ B hml hv
  obtain ⟨rfl, hsz, hP, hK, hD0, hZ, hN⟩ := hv
  have hx := B.exec
  have hb := B.bytes
  have hr := B.returns
  have hts := atoms_spec (ws := wsX0_writeWeights) B.pre
  have hown : s.vm.findClass RX0 = some m.cls := findClass_of_methodNamed B.named
  have hlocks := B.notSynchronized
  subst hsz
  have hD := wD_self (sz := s.heap.size) hD0
  have hA9 : ∀ q, s.heap.size ≤ q → wA ad G s.heap.size q := fun q h => Or.inr h
  generalize hAe : wA ad G s.heap.size = A at hD hA9 hZ ⊢
  have hS : va_S A s.heap s.heap [] := va_S.rf
  have hl := lv_entry ([.ref (ad a)]) (n := 3) (Nat.le_of_ble_eq_true rfl)
  rw [lg_entry_eq]
  generalize (lg_sl ([.ref (ad a)]) ++ List.replicate (3 - (lg_sl ([.ref (ad a)])).length) Slot.unset).toArray = ls at hl ⊢
  have hl : lv_has ls 3 [(0, .ref (ad a))] := hl
  unfold FX0_writeWeights at hF
  rw [← wld_0 ct ad G M] at hP hD
  have hk := xt_k0 hc hk
  have hc := xt_l0 hc
  have hag := agr_rf G.1 ad
  obtain ⟨w0, hw0⟩ : ∃ z, z = y := ⟨_, rfl⟩
  rw [← hw0] at hF
  have hT : y.1 = [] ++ w0.1 := by rw [hw0]; rfl
  have h2 : y.2 = w0.2 := by rw [hw0]
  have hbl : y.1.length ≤ y.1.length ∧ wt y.1 ≤ wt y.1 := ⟨Nat.le_refl _, Nat.le_refl _⟩
  refine lv_aload_n hx hb dX0_writeWeights_0 rfl (lv_at hl 0 rfl) ?_
  refine va_get (D := D) (ci := 0) (v := va_re ad (M.2 a 3)) (C := RX0) (T := TX0) (N := 21) hx hb hts (by decide +kernel) hown hK hP a (wld_o ct ad (xt G []) M hc hk (by decide)) rfl 3 (by decide) (hts (.fieldLink RX0 36 "VideoSuite$Coder" "work" "LVideoSuite$Work;") (by decide +kernel)) (fun _ h9 => h9) rfl dX0_writeWeights_1 ?_
  obtain ⟨b2, ho2, hc2, hk2, hF⟩ := dr_some hF
  refine W_st (st' := [.ref (ad b2)]) (by rw [va_some ho2]) ?_
  refine va_get (D := D) (ci := 9) (v := va_re ad (M.2 b2 1)) (C := RX9) (T := TX9) (N := 20) hx hb hts (by decide +kernel) hown hK hP b2 (wld_o ct ad (xt G []) M hc2 hk2 (by decide)) rfl 1 (by decide) (hts (.fieldLink RX0 81 "VideoSuite$Work" "head" "LVideoSuite$Header;") (by decide +kernel)) (fun _ h9 => h9) rfl dX0_writeWeights_4 ?_
  obtain ⟨b3, ho3, hc3, hk3, hF⟩ := dr_some hF
  refine W_st (st' := [.ref (ad b3)]) (by rw [va_some ho3]) ?_
  refine va_get (D := D) (ci := 3) (v := va_re ad (M.2 b3 0)) (C := RX3) (T := TX3) (N := 4) hx hb hts (by decide +kernel) hown hK hP b3 (wld_o ct ad (xt G []) M hc3 hk3 (by decide)) rfl 0 (by decide) (hts (.fieldLink RX0 252 "VideoSuite$Header" "v" "[I") (by decide +kernel)) (fun _ h9 => h9) rfl dX0_writeWeights_7 ?_
  refine lv_bipush (v := (22 : Int32)) hx hb dX0_writeWeights_10 (by decide) ?_
  refine lv_iconst (v := (5 : Int32)) hx hb dX0_writeWeights_12 (by decide) ?_
  obtain ⟨b4, ho4, hc4, hk4, hF⟩ := dr_some hF
  refine W_st (st' := [.int (5 : Int32), .int (22 : Int32), .ref (ad b4)]) (by rw [va_some ho4]) ?_
  obtain ⟨hvc, hF⟩ := chk_some hF
  refine va_iast hx hb hK hP hD hS b4 1 (wld_i ct ad (xt G []) M hc4 hk4) rfl hvc dX0_writeWeights_13 (fun H locs hP hD hS => ?_)
  obtain ⟨M5, eM5, hF⟩ := ltt_some hF
  rw [set_i ct ad (xt G []) M hc4 hk4, ← eM5] at hP hD
  refine lv_aload_n hx hb dX0_writeWeights_14 rfl (lv_at hl 0 rfl) ?_
  refine va_get (D := D) (ci := 0) (v := va_re ad (M5.2 a 3)) (C := RX0) (T := TX0) (N := 21) hx hb hts (by decide +kernel) hown hK hP a (wld_o ct ad (xt G []) M5 hc hk (by decide)) rfl 3 (by decide) (hts (.fieldLink RX0 36 "VideoSuite$Coder" "work" "LVideoSuite$Work;") (by decide +kernel)) (fun _ h9 => h9) rfl dX0_writeWeights_15 ?_
  obtain ⟨b6, ho6, hc6, hk6, hF⟩ := dr_some hF
  refine W_st (st' := [.ref (ad b6)]) (by rw [va_some ho6]) ?_
  refine va_get (D := D) (ci := 9) (v := va_re ad (M5.2 b6 1)) (C := RX9) (T := TX9) (N := 20) hx hb hts (by decide +kernel) hown hK hP b6 (wld_o ct ad (xt G []) M5 hc6 hk6 (by decide)) rfl 1 (by decide) (hts (.fieldLink RX0 81 "VideoSuite$Work" "head" "LVideoSuite$Header;") (by decide +kernel)) (fun _ h9 => h9) rfl dX0_writeWeights_18 ?_
  obtain ⟨b7, ho7, hc7, hk7, hF⟩ := dr_some hF
  refine W_st (st' := [.ref (ad b7)]) (by rw [va_some ho7]) ?_
  refine va_get (D := D) (ci := 3) (v := va_re ad (M5.2 b7 0)) (C := RX3) (T := TX3) (N := 4) hx hb hts (by decide +kernel) hown hK hP b7 (wld_o ct ad (xt G []) M5 hc7 hk7 (by decide)) rfl 0 (by decide) (hts (.fieldLink RX0 252 "VideoSuite$Header" "v" "[I") (by decide +kernel)) (fun _ h9 => h9) rfl dX0_writeWeights_21 ?_
  refine lv_bipush (v := (23 : Int32)) hx hb dX0_writeWeights_24 (by decide) ?_
  refine lv_iconst (v := (5 : Int32)) hx hb dX0_writeWeights_26 (by decide) ?_
  obtain ⟨b8, ho8, hc8, hk8, hF⟩ := dr_some hF
  refine W_st (st' := [.int (5 : Int32), .int (23 : Int32), .ref (ad b8)]) (by rw [va_some ho8]) ?_
  obtain ⟨hvc, hF⟩ := chk_some hF
  refine va_iast hx hb hK hP hD hS b8 1 (wld_i ct ad (xt G []) M5 hc8 hk8) rfl hvc dX0_writeWeights_27 (fun H locs hP hD hS => ?_)
  obtain ⟨M9, eM9, hF⟩ := ltt_some hF
  rw [set_i ct ad (xt G []) M5 hc8 hk8, ← eM9] at hP hD
  refine lv_aload_n hx hb dX0_writeWeights_28 rfl (lv_at hl 0 rfl) ?_
  refine va_get (D := D) (ci := 0) (v := va_re ad (M9.2 a 3)) (C := RX0) (T := TX0) (N := 21) hx hb hts (by decide +kernel) hown hK hP a (wld_o ct ad (xt G []) M9 hc hk (by decide)) rfl 3 (by decide) (hts (.fieldLink RX0 36 "VideoSuite$Coder" "work" "LVideoSuite$Work;") (by decide +kernel)) (fun _ h9 => h9) rfl dX0_writeWeights_29 ?_
  obtain ⟨b10, ho10, hc10, hk10, hF⟩ := dr_some hF
  refine W_st (st' := [.ref (ad b10)]) (by rw [va_some ho10]) ?_
  refine va_get (D := D) (ci := 9) (v := va_re ad (M9.2 b10 1)) (C := RX9) (T := TX9) (N := 20) hx hb hts (by decide +kernel) hown hK hP b10 (wld_o ct ad (xt G []) M9 hc10 hk10 (by decide)) rfl 1 (by decide) (hts (.fieldLink RX0 81 "VideoSuite$Work" "head" "LVideoSuite$Header;") (by decide +kernel)) (fun _ h9 => h9) rfl dX0_writeWeights_32 ?_
  obtain ⟨b11, ho11, hc11, hk11, hF⟩ := dr_some hF
  refine W_st (st' := [.ref (ad b11)]) (by rw [va_some ho11]) ?_
  obtain ⟨y12, hy12, hF⟩ := bnd_some hF
  have hf9 := wA_in hD hA9 hS
  refine va_callv (va_runV (As := []) (rest := []) ⟨hx, hb, hml, hown, hts⟩ (kX3_clearWeights l D ct ad Z (xt G []) M9 H.size b11 y12 hc11 hk11 hy12) (cwV 0 hts gX0_writeWeights_X3_clearWeights rfl rfl rfl (by decide +kernel) ⟨Nat.le_of_ble_eq_true rfl, Nat.le_of_ble_eq_true rfl⟩) ⟨fun a U g mk q => by obtain ⟨q0, q1, qP, qK, qD, qZ, qN⟩ := q; exact ⟨q0, q1, qP, va_K.moved (u := U) (U := U.calling g mk a) (Vm.Alike.refl U.vm) qK, qD, sF.moved (u := U) (U := U.calling g mk a) (Vm.Alike.refl U.vm) qZ, nF.same rfl qN⟩, va_recv hK hP (ci := 3) (q0 := b11) rfl (wld_o ct ad (xt G []) M9 hc11 hk11 (by decide)), fun U hU hW => ⟨rfl, by rw [hU], by rw [hU]; exact hP, va_K.moved hW.alike hK, hD.weaken (fun _ _ _ _ => trivial), by rw [hU]; exact ((hZ.kept hS.2.1).narrow hf9).moved hW.alike, hN.warm hW⟩⟩ rfl rfl hl.1 rfl (lv_room (Nat.le_of_ble_eq_true rfl)) dX0_writeWeights_35 (room_d hT hbl)) hS (fun q _ h => hf9 q h) hf9 (fun u t H locs ht hvm hw hB hz1 hk1 hS => ?_)
  obtain ⟨hP, hK9, hD9⟩ := hB
  rw [ht] at hP
  refine W_cs (k := ([] : NN).length) (n := wt []) rfl rfl ?_
  have hD := hD9.weaken (fun _ q _ h => hf9 q.1 h)
  refine lv_aload_n hx hb dX0_writeWeights_38 rfl (lv_at hl 0 rfl) ?_
  refine va_get (D := D) (ci := 0) (v := va_re ad (y12.2 a 2)) (C := RX0) (T := TX0) (N := 21) hx hb hts (by decide +kernel) hown hK hP a (wld_o ct ad (xt G []) y12 hc hk (by decide)) rfl 2 (by decide) (hts (.fieldLink RX0 29 "VideoSuite$Coder" "writer" "LVideoSuite$Writer;") (by decide +kernel)) (fun _ h9 => h9) rfl dX0_writeWeights_39 ?_
  refine lv_iconst (v := (0 : Int32)) hx hb dX0_writeWeights_42 (by decide) ?_
  refine lv_iconst (v := (5 : Int32)) hx hb dX0_writeWeights_43 (by decide) ?_
  obtain ⟨b13, ho13, hc13, hk13, hF⟩ := dr_some hF
  refine W_st (st' := [.int (5 : Int32), .int (0 : Int32), .ref (ad b13)]) (by rw [va_some ho13]) ?_
  obtain ⟨y14, hy14, hF⟩ := bnd_some hF
  obtain ⟨w15, hF, ew15⟩ := app_some hF
  obtain ⟨L16, eL16, hF⟩ := ltt_some hF
  have hT16 : y.1 = ([] ++ y14.1) ++ w15.1 := by rw [hT, ew15]; simp only [List.append_assoc]
  have hf9 := wA_in hD hA9 hS
  refine va_callv (va_runV (As := [.int (0 : Int32), .int (5 : Int32)]) (rest := []) ⟨hx, hb, hml, hown, hts⟩ (kX10_ue l D ct ad Z (xt G []) y12 _ b13 ((0 : Int32)) ((5 : Int32)) y14 hc13 hk13 hy14) (cwV 2 hts gX0_writeWeights_X10_ue rfl rfl rfl (by decide +kernel) ⟨Nat.le_of_ble_eq_true rfl, Nat.le_of_ble_eq_true rfl⟩) ⟨fun a U g mk q => by obtain ⟨q0, q1, qP, qK, qD, qZ, qN⟩ := q; exact ⟨q0, q1, qP, va_K.moved (u := U) (U := U.calling g mk a) (Vm.Alike.refl U.vm) qK, qD, sF.moved (u := U) (U := U.calling g mk a) (Vm.Alike.refl U.vm) qZ, nF.same rfl qN⟩, va_recv hK hP (ci := 10) (q0 := b13) rfl (wld_o ct ad (xt G []) y12 hc13 hk13 (by decide)), fun U hU hW => ⟨rfl, by rw [hU], by rw [hU]; exact hP, va_K.moved hW.alike hK, hD.weaken (fun _ _ _ _ => trivial), by rw [hU]; exact ((hZ.kept hS.2.1).narrow hf9).moved hW.alike, hN.warm hW⟩⟩ rfl rfl hl.1 rfl (lv_room (Nat.le_of_ble_eq_true rfl)) dX0_writeWeights_44 (room_s hT16 hbl)) hS (fun q _ h => hf9 q h) hf9 (fun ad17 t H locs ht hvm hw hB hz1 hk1 hS => ?_)
  have hn18 := hw
  obtain ⟨hP, hK9, hD9⟩ := hB
  rw [ht] at hP
  have hD := hD9.weaken (fun _ q _ h => hf9 q.1 h)
  rw [xt_xt, ← eL16] at hP hD
  refine W_cs (k := L16.length) (n := wt L16) (by rw [eL16]; exact (len_s [] y14.1).symm) (by rw [eL16]; exact (wt_app [] y14.1).symm) ?_
  have hT : y.1 = L16 ++ w15.1 := by rw [hT16, eL16]
  have h2 : y.2 = w15.2 := by rw [h2, ew15]
  have hl := lv_sub (l' := [(0, .ref (ad a))]) hl [0] rfl
  have e9 : ([(0, .ref (ad a))] : List (Nat × Value)) = [(0, .ref (ad17 a))] := (by first | rfl | simp only [hn18 a hc])
  rw [e9] at hl
  clear e9
  have hk : (xt G L16).2.1 a = 0 := by rw [eL16]; exact xt_k _ hc hk
  have hc : a < (xt G L16).1 := by rw [eL16]; exact xt_l _ hc
  have hk2 : (xt G L16).2.1 b2 = 9 := by rw [eL16]; exact xt_k _ hc2 hk2
  have hc2 : b2 < (xt G L16).1 := by rw [eL16]; exact xt_l _ hc2
  have hk3 : (xt G L16).2.1 b3 = 3 := by rw [eL16]; exact xt_k _ hc3 hk3
  have hc3 : b3 < (xt G L16).1 := by rw [eL16]; exact xt_l _ hc3
  have hk4 : (xt G L16).2.1 b4 = 13 := by rw [eL16]; exact xt_k _ hc4 hk4
  have hc4 : b4 < (xt G L16).1 := by rw [eL16]; exact xt_l _ hc4
  have hk6 : (xt G L16).2.1 b6 = 9 := by rw [eL16]; exact xt_k _ hc6 hk6
  have hc6 : b6 < (xt G L16).1 := by rw [eL16]; exact xt_l _ hc6
  have hk7 : (xt G L16).2.1 b7 = 3 := by rw [eL16]; exact xt_k _ hc7 hk7
  have hc7 : b7 < (xt G L16).1 := by rw [eL16]; exact xt_l _ hc7
  have hk8 : (xt G L16).2.1 b8 = 13 := by rw [eL16]; exact xt_k _ hc8 hk8
  have hc8 : b8 < (xt G L16).1 := by rw [eL16]; exact xt_l _ hc8
  have hk10 : (xt G L16).2.1 b10 = 9 := by rw [eL16]; exact xt_k _ hc10 hk10
  have hc10 : b10 < (xt G L16).1 := by rw [eL16]; exact xt_l _ hc10
  have hk11 : (xt G L16).2.1 b11 = 3 := by rw [eL16]; exact xt_k _ hc11 hk11
  have hc11 : b11 < (xt G L16).1 := by rw [eL16]; exact xt_l _ hc11
  have hk13 : (xt G L16).2.1 b13 = 10 := by rw [eL16]; exact xt_k _ hc13 hk13
  have hc13 : b13 < (xt G L16).1 := by rw [eL16]; exact xt_l _ hc13
  have hag := agr_t (xt_ge _ _) hag hn18
  refine lv_aload_n hx hb dX0_writeWeights_47 rfl (lv_at hl 0 rfl) ?_
  refine va_get (D := D) (ci := 0) (v := va_re ad17 (y14.2.2 a 2)) (C := RX0) (T := TX0) (N := 21) hx hb hts (by decide +kernel) hown hK hP a (wld_o ct ad17 (xt G L16) y14.2 hc hk (by decide)) rfl 2 (by decide) (hts (.fieldLink RX0 29 "VideoSuite$Coder" "writer" "LVideoSuite$Writer;") (by decide +kernel)) (fun _ h9 => h9) rfl dX0_writeWeights_48 ?_
  refine lv_iconst (v := (0 : Int32)) hx hb dX0_writeWeights_51 (by decide) ?_
  refine lv_iconst (v := (5 : Int32)) hx hb dX0_writeWeights_52 (by decide) ?_
  obtain ⟨b19, ho19, hc19, hk19, hF⟩ := dr_some hF
  refine W_st (st' := [.int (5 : Int32), .int (0 : Int32), .ref (ad17 b19)]) (by rw [va_some ho19]) ?_
  obtain ⟨y20, hy20, hF⟩ := bnd_some hF
  obtain ⟨w21, hF, ew21⟩ := app_some hF
  obtain ⟨L22, eL22, hF⟩ := ltt_some hF
  have hT22 : y.1 = (L16 ++ y20.1) ++ w21.1 := by rw [hT, ew21]; simp only [List.append_assoc]
  have hf9 := wA_in hD hA9 hS
  refine va_callv (va_runV (As := [.int (0 : Int32), .int (5 : Int32)]) (rest := []) ⟨hx, hb, hml, hown, hts⟩ (kX10_ue l D ct ad17 Z (xt G L16) y14.2 _ b19 ((0 : Int32)) ((5 : Int32)) y20 hc19 hk19 hy20) (cwV 2 hts gX0_writeWeights_X10_ue rfl rfl rfl (by decide +kernel) ⟨Nat.le_of_ble_eq_true rfl, Nat.le_of_ble_eq_true rfl⟩) ⟨fun a U g mk q => by obtain ⟨q0, q1, qP, qK, qD, qZ, qN⟩ := q; exact ⟨q0, q1, qP, va_K.moved (u := U) (U := U.calling g mk a) (Vm.Alike.refl U.vm) qK, qD, sF.moved (u := U) (U := U.calling g mk a) (Vm.Alike.refl U.vm) qZ, nF.same rfl qN⟩, va_recv hK hP (ci := 10) (q0 := b19) rfl (wld_o ct ad17 (xt G L16) y14.2 hc19 hk19 (by decide)), fun U hU hW => ⟨rfl, by rw [hU], by rw [hU]; exact hP, va_K.moved hW.alike hK, hD.weaken (fun _ _ _ _ => trivial), by rw [hU]; exact ((hZ.kept hS.2.1).narrow hf9).moved hW.alike, hN.warm hW⟩⟩ rfl rfl hl.1 rfl (lv_room (Nat.le_of_ble_eq_true rfl)) dX0_writeWeights_53 (room_s hT22 hbl)) hS (fun q _ h => hf9 q h) hf9 (fun ad23 t H locs ht hvm hw hB hz1 hk1 hS => ?_)
  have hn24 := hw
  obtain ⟨hP, hK9, hD9⟩ := hB
  rw [ht] at hP
  have hD := hD9.weaken (fun _ q _ h => hf9 q.1 h)
  rw [xt_xt, ← eL22] at hP hD
  refine W_cs (k := L22.length) (n := wt L22) (by rw [eL22]; exact (len_s L16 y20.1).symm) (by rw [eL22]; exact (wt_app L16 y20.1).symm) ?_
  have hT : y.1 = L22 ++ w21.1 := by rw [hT22, eL22]
  have h2 : y.2 = w21.2 := by rw [h2, ew21]
  have hl := lv_sub (l' := [(0, .ref (ad17 a))]) hl [0] rfl
  have e9 : ([(0, .ref (ad17 a))] : List (Nat × Value)) = [(0, .ref (ad23 a))] := (by first | rfl | simp only [hn24 a hc])
  rw [e9] at hl
  clear e9
  have hk : (xt G L22).2.1 a = 0 := by rw [eL22]; exact xt_k _ hc hk
  have hc : a < (xt G L22).1 := by rw [eL22]; exact xt_l _ hc
  have hk2 : (xt G L22).2.1 b2 = 9 := by rw [eL22]; exact xt_k _ hc2 hk2
  have hc2 : b2 < (xt G L22).1 := by rw [eL22]; exact xt_l _ hc2
  have hk3 : (xt G L22).2.1 b3 = 3 := by rw [eL22]; exact xt_k _ hc3 hk3
  have hc3 : b3 < (xt G L22).1 := by rw [eL22]; exact xt_l _ hc3
  have hk4 : (xt G L22).2.1 b4 = 13 := by rw [eL22]; exact xt_k _ hc4 hk4
  have hc4 : b4 < (xt G L22).1 := by rw [eL22]; exact xt_l _ hc4
  have hk6 : (xt G L22).2.1 b6 = 9 := by rw [eL22]; exact xt_k _ hc6 hk6
  have hc6 : b6 < (xt G L22).1 := by rw [eL22]; exact xt_l _ hc6
  have hk7 : (xt G L22).2.1 b7 = 3 := by rw [eL22]; exact xt_k _ hc7 hk7
  have hc7 : b7 < (xt G L22).1 := by rw [eL22]; exact xt_l _ hc7
  have hk8 : (xt G L22).2.1 b8 = 13 := by rw [eL22]; exact xt_k _ hc8 hk8
  have hc8 : b8 < (xt G L22).1 := by rw [eL22]; exact xt_l _ hc8
  have hk10 : (xt G L22).2.1 b10 = 9 := by rw [eL22]; exact xt_k _ hc10 hk10
  have hc10 : b10 < (xt G L22).1 := by rw [eL22]; exact xt_l _ hc10
  have hk11 : (xt G L22).2.1 b11 = 3 := by rw [eL22]; exact xt_k _ hc11 hk11
  have hc11 : b11 < (xt G L22).1 := by rw [eL22]; exact xt_l _ hc11
  have hk13 : (xt G L22).2.1 b13 = 10 := by rw [eL22]; exact xt_k _ hc13 hk13
  have hc13 : b13 < (xt G L22).1 := by rw [eL22]; exact xt_l _ hc13
  have hk19 : (xt G L22).2.1 b19 = 10 := by rw [eL22]; exact xt_k _ hc19 hk19
  have hc19 : b19 < (xt G L22).1 := by rw [eL22]; exact xt_l _ hc19
  have hag := agr_t (xt_ge _ _) hag hn24
  refine lv_iconst (v := (0 : Int32)) hx hb dX0_writeWeights_56 (by decide) ?_
  refine lv_istore_n (lv' := [(1, .int (0 : Int32)), (0, .ref (ad23 a))]) hx hb dX0_writeWeights_57 rfl hl (by decide) rfl (fun ls hl => ?_)
  obtain ⟨y25, hy25, hF⟩ := bnd_some hF
  obtain ⟨w27, hF, ew27⟩ := app_some hF
  obtain ⟨L28, eL28, hF⟩ := ltt_some hF
  have hT28 : y.1 = (L22 ++ y25.1) ++ w27.1 := by rw [hT, ew27]; simp only [List.append_assoc]
  have hbl28 : L28.length ≤ y.1.length ∧ wt L28 ≤ wt y.1 := by rw [eL28]; exact room_d hT28 hbl
  have K25 : ∀ (ad29 : Nat → Nat), agr G.1 ad ad29 → ∀ (H : Heap) (locs : List Loc) (ls : Array Slot), va_P D classes (wld ct ad29 (xt G L28) y25.2.2) H → va_D A (wld ct ad29 (xt G L28) y25.2.2) → va_S A s.heap H locs → lv_has ls 3 [] → W p l e (headSpec wsX0_writeWeights ({ frames := 6, cells := y.1.length, slots := wt y.1, locals := 198 })).room s m ([.ref (ad a)] : List Value).toArray below meth c H locs (L28 : NN).length (wt L28) (MQ below (va_Qv (fun (u : Nat → Nat) => agr G.1 ad u) (fun u t => kE D ct u (xt G y.1) A y.2 t) A) ([.ref (ad a)] : List Value).toArray s y.1.length (wt y.1) A) (F0 m 191 ls []) := by
    intro ad29 hag H locs ls hP hD hS hl
    have hT : y.1 = L28 ++ w27.1 := by rw [hT28, eL28]
    have h2 : y.2 = w27.2 := by rw [h2, ew27]
    have hk : (xt G L28).2.1 a = 0 := by rw [eL28]; exact xt_k _ hc hk
    have hc : a < (xt G L28).1 := by rw [eL28]; exact xt_l _ hc
    have hk2 : (xt G L28).2.1 b2 = 9 := by rw [eL28]; exact xt_k _ hc2 hk2
    have hc2 : b2 < (xt G L28).1 := by rw [eL28]; exact xt_l _ hc2
    have hk3 : (xt G L28).2.1 b3 = 3 := by rw [eL28]; exact xt_k _ hc3 hk3
    have hc3 : b3 < (xt G L28).1 := by rw [eL28]; exact xt_l _ hc3
    have hk4 : (xt G L28).2.1 b4 = 13 := by rw [eL28]; exact xt_k _ hc4 hk4
    have hc4 : b4 < (xt G L28).1 := by rw [eL28]; exact xt_l _ hc4
    have hk6 : (xt G L28).2.1 b6 = 9 := by rw [eL28]; exact xt_k _ hc6 hk6
    have hc6 : b6 < (xt G L28).1 := by rw [eL28]; exact xt_l _ hc6
    have hk7 : (xt G L28).2.1 b7 = 3 := by rw [eL28]; exact xt_k _ hc7 hk7
    have hc7 : b7 < (xt G L28).1 := by rw [eL28]; exact xt_l _ hc7
    have hk8 : (xt G L28).2.1 b8 = 13 := by rw [eL28]; exact xt_k _ hc8 hk8
    have hc8 : b8 < (xt G L28).1 := by rw [eL28]; exact xt_l _ hc8
    have hk10 : (xt G L28).2.1 b10 = 9 := by rw [eL28]; exact xt_k _ hc10 hk10
    have hc10 : b10 < (xt G L28).1 := by rw [eL28]; exact xt_l _ hc10
    have hk11 : (xt G L28).2.1 b11 = 3 := by rw [eL28]; exact xt_k _ hc11 hk11
    have hc11 : b11 < (xt G L28).1 := by rw [eL28]; exact xt_l _ hc11
    have hk13 : (xt G L28).2.1 b13 = 10 := by rw [eL28]; exact xt_k _ hc13 hk13
    have hc13 : b13 < (xt G L28).1 := by rw [eL28]; exact xt_l _ hc13
    have hk19 : (xt G L28).2.1 b19 = 10 := by rw [eL28]; exact xt_k _ hc19 hk19
    have hc19 : b19 < (xt G L28).1 := by rw [eL28]; exact xt_l _ hc19
    obtain rfl := Option.some.inj hF
    have e1 : y.1 = L28 := by rw [hT]; exact List.append_nil _
    have e2 : y.2 = y25.2.2 := h2
    refine W.widen (k := y.1.length) (n := wt y.1) (Nat.le_of_eq (by rw [e1])) (Nat.le_of_eq (by rw [e1])) ?_
    exact W.vret hx hb hr (fun t ht hW => ⟨⟨ad29, rfl, hag, (by unfold kE; rw [e1, e2]; exact ⟨by rw [ht]; exact hP, va_K.moved hW.alike hK, hD⟩)⟩, hS.F ht⟩) hS.2.2 dX0_writeWeights_191
  clear hF
  refine itrA_rule (fun (s26 : NN × Int32 × DD) (r31 : NN) => (∃ t, s26.1 = L22 ++ t) → L28 = s26.1 ++ r31 → ∀ (ad30 : Nat → Nat), agr G.1 ad ad30 → ∀ (H : Heap) (locs : List Loc) (ls : Array Slot), va_P D classes (wld ct ad30 (xt G s26.1) s26.2.2) H → va_D A (wld ct ad30 (xt G s26.1) s26.2.2) → va_S A s.heap H locs → lv_has ls 3 [(1, .int s26.2.1), (0, .ref (ad30 a))] → W p l e (headSpec wsX0_writeWeights ({ frames := 6, cells := y.1.length, slots := wt y.1, locals := 198 })).room s m ([.ref (ad a)] : List Value).toArray below meth c H locs (s26.1 : NN).length (wt s26.1) (MQ below (va_Qv (fun (u : Nat → Nat) => agr G.1 ad u) (fun u t => kE D ct u (xt G y.1) A y.2 t) A) ([.ref (ad a)] : List Value).toArray s y.1.length (wt y.1) A) (F0 m 58 ls [])) ?_ _ _ _ hy25 ⟨[], (List.append_nil _).symm⟩ eL28 _ hag _ _ _ hP hD hS (lv_sub hl [0, 1] rfl)
  rintro s26 r31 ⟨z32, hF, ⟨t25, et25⟩, hwz32⟩ ⟨u25, eu25⟩ eq25 ad30 hag H locs ls hP hD hS hl
  try dsimp only at hF
  obtain ⟨L33, eL33⟩ : ∃ x, x = s26.1 ++ z32.1 := ⟨_, rfl⟩
  obtain ⟨w34, hw34⟩ : ∃ x, x = z32 := ⟨_, rfl⟩
  rw [← hw34] at hF
  have hbl : L33.length ≤ y.1.length ∧ wt L33 ≤ wt y.1 := room_d (show L28 = L33 ++ t25 by rw [eq25, et25, eL33]; simp only [List.append_assoc]) hbl28
  have hT : L33 = s26.1 ++ w34.1 := by rw [eL33, hw34]
  have h2 : z32.2 = w34.2 := by rw [hw34]
  have hk : (xt G s26.1).2.1 a = 0 := by rw [eu25]; exact xt_k _ hc hk
  have hc : a < (xt G s26.1).1 := by rw [eu25]; exact xt_l _ hc
  have hk2 : (xt G s26.1).2.1 b2 = 9 := by rw [eu25]; exact xt_k _ hc2 hk2
  have hc2 : b2 < (xt G s26.1).1 := by rw [eu25]; exact xt_l _ hc2
  have hk3 : (xt G s26.1).2.1 b3 = 3 := by rw [eu25]; exact xt_k _ hc3 hk3
  have hc3 : b3 < (xt G s26.1).1 := by rw [eu25]; exact xt_l _ hc3
  have hk4 : (xt G s26.1).2.1 b4 = 13 := by rw [eu25]; exact xt_k _ hc4 hk4
  have hc4 : b4 < (xt G s26.1).1 := by rw [eu25]; exact xt_l _ hc4
  have hk6 : (xt G s26.1).2.1 b6 = 9 := by rw [eu25]; exact xt_k _ hc6 hk6
  have hc6 : b6 < (xt G s26.1).1 := by rw [eu25]; exact xt_l _ hc6
  have hk7 : (xt G s26.1).2.1 b7 = 3 := by rw [eu25]; exact xt_k _ hc7 hk7
  have hc7 : b7 < (xt G s26.1).1 := by rw [eu25]; exact xt_l _ hc7
  have hk8 : (xt G s26.1).2.1 b8 = 13 := by rw [eu25]; exact xt_k _ hc8 hk8
  have hc8 : b8 < (xt G s26.1).1 := by rw [eu25]; exact xt_l _ hc8
  have hk10 : (xt G s26.1).2.1 b10 = 9 := by rw [eu25]; exact xt_k _ hc10 hk10
  have hc10 : b10 < (xt G s26.1).1 := by rw [eu25]; exact xt_l _ hc10
  have hk11 : (xt G s26.1).2.1 b11 = 3 := by rw [eu25]; exact xt_k _ hc11 hk11
  have hc11 : b11 < (xt G s26.1).1 := by rw [eu25]; exact xt_l _ hc11
  have hk13 : (xt G s26.1).2.1 b13 = 10 := by rw [eu25]; exact xt_k _ hc13 hk13
  have hc13 : b13 < (xt G s26.1).1 := by rw [eu25]; exact xt_l _ hc13
  have hk19 : (xt G s26.1).2.1 b19 = 10 := by rw [eu25]; exact xt_k _ hc19 hk19
  have hc19 : b19 < (xt G s26.1).1 := by rw [eu25]; exact xt_l _ hc19
  refine lv_iload_n hx hb dX0_writeWeights_58 rfl (lv_at hl 0 rfl) ?_
  refine lv_aload_n hx hb dX0_writeWeights_59 rfl (lv_at hl 1 rfl) ?_
  refine va_get (D := D) (ci := 0) (v := va_re ad30 (s26.2.2.2 a 3)) (C := RX0) (T := TX0) (N := 21) hx hb hts (by decide +kernel) hown hK hP a (wld_o ct ad30 (xt G s26.1) s26.2.2 hc hk (by decide)) rfl 3 (by decide) (hts (.fieldLink RX0 36 "VideoSuite$Coder" "work" "LVideoSuite$Work;") (by decide +kernel)) (fun _ h9 => h9) rfl dX0_writeWeights_60 ?_
  obtain ⟨b35, ho35, hc35, hk35, hF⟩ := dr_some hF
  refine W_st (st' := [.ref (ad30 b35), .int s26.2.1]) (by rw [va_some ho35]) ?_
  refine va_get (D := D) (ci := 9) (v := va_re ad30 (s26.2.2.2 b35 1)) (C := RX9) (T := TX9) (N := 20) hx hb hts (by decide +kernel) hown hK hP b35 (wld_o ct ad30 (xt G s26.1) s26.2.2 hc35 hk35 (by decide)) rfl 1 (by decide) (hts (.fieldLink RX0 81 "VideoSuite$Work" "head" "LVideoSuite$Header;") (by decide +kernel)) (fun _ h9 => h9) rfl dX0_writeWeights_63 ?_
  obtain ⟨b36, ho36, hc36, hk36, hF⟩ := dr_some hF
  refine W_st (st' := [.ref (ad30 b36), .int s26.2.1]) (by rw [va_some ho36]) ?_
  refine va_get (D := D) (ci := 3) (v := va_re ad30 (s26.2.2.2 b36 0)) (C := RX3) (T := TX3) (N := 4) hx hb hts (by decide +kernel) hown hK hP b36 (wld_o ct ad30 (xt G s26.1) s26.2.2 hc36 hk36 (by decide)) rfl 0 (by decide) (hts (.fieldLink RX0 252 "VideoSuite$Header" "v" "[I") (by decide +kernel)) (fun _ h9 => h9) rfl dX0_writeWeights_66 ?_
  refine lv_bipush (v := (9 : Int32)) hx hb dX0_writeWeights_69 (by decide) ?_
  obtain ⟨b37, ho37, hc37, hk37, hF⟩ := dr_some hF
  refine W_st (st' := [.int (9 : Int32), .ref (ad30 b37), .int s26.2.1]) (by rw [va_some ho37]) ?_
  obtain ⟨hvc, hF⟩ := chk_some hF
  refine va_iald hx hb hK hP b37 1 (wld_i ct ad30 (xt G s26.1) s26.2.2 hc37 hk37) rfl hvc dX0_writeWeights_71 ?_
  obtain ⟨x38, ex38, hF⟩ := ltt_some hF
  refine lv_topi (fun zx38 ezx38 => ?_)
  obtain rfl : x38 = zx38 := ex38.trans ezx38.symm
  refine lv_icmp_ge (tgt := 191) hx hb dX0_writeWeights_72 (by decide) (fun c39 => ?_) (fun c39 => ?_)
  · rw [if_pos c39] at hF
    obtain rfl := Option.some.inj hF
    have e1 : L33 = s26.1 := by rw [hT]; exact List.append_nil _
    have e2 : z32.2 = .inr ((s26.2.1, s26.2.2)) := h2
    rw [e2] at hwz32
    obtain ⟨hw1, hw2⟩ := hwz32
    have e8 : L28 = s26.1 := by rw [eq25, hw2, ← eL33, e1]
    rw [e8] at K25
    try rw [← hw1] at K25
    exact K25 _ hag _ _ _ hP hD hS (lv_sub hl [] rfl)
  · rw [if_neg c39] at hF
    refine lv_iload_n hx hb dX0_writeWeights_75 rfl (lv_at hl 0 rfl) ?_
    refine lv_bipush (v := (8 : Int32)) hx hb dX0_writeWeights_76 (by decide) ?_
    refine lv_icmp_ge (tgt := 191) hx hb dX0_writeWeights_78 (by decide) (fun c40 => ?_) (fun c40 => ?_)
    · rw [if_pos c40] at hF
      obtain rfl := Option.some.inj hF
      have e1 : L33 = s26.1 := by rw [hT]; exact List.append_nil _
      have e2 : z32.2 = .inr ((s26.2.1, s26.2.2)) := h2
      rw [e2] at hwz32
      obtain ⟨hw1, hw2⟩ := hwz32
      have e8 : L28 = s26.1 := by rw [eq25, hw2, ← eL33, e1]
      rw [e8] at K25
      try rw [← hw1] at K25
      exact K25 _ hag _ _ _ hP hD hS (lv_sub hl [] rfl)
    · rw [if_neg c40] at hF
      refine lv_iconst (v := (0 : Int32)) hx hb dX0_writeWeights_81 (by decide) ?_
      refine lv_iload_n hx hb dX0_writeWeights_82 rfl (lv_at hl 0 rfl) ?_
      refine lv_iconst (v := (0 : Int32)) hx hb dX0_writeWeights_83 (by decide) ?_
      obtain ⟨y41, hy41, hF⟩ := bnd_some hF
      have hf9 := wA_in hD hA9 hS
      refine va_calli (va_runS (As := [.int (0 : Int32), .int s26.2.1, .int (0 : Int32)]) (rest := []) ⟨hx, hb, hml, hown, hts⟩ (kX3_weightAt l D ct ad30 Z (xt G s26.1) s26.2.2 H.size ((0 : Int32)) s26.2.1 ((0 : Int32)) y41 hy41) (va_cwS 3 hts gX0_writeWeights_X3_weightAt rfl rfl rfl (by decide +kernel) ⟨Nat.le_of_ble_eq_true rfl, Nat.le_of_ble_eq_true rfl⟩) ⟨fun a U g mk q => by obtain ⟨q0, q1, qP, qK, qD, qZ, qN⟩ := q; exact ⟨q0, q1, qP, va_K.moved (u := U) (U := U.calling g mk a) (Vm.Alike.refl U.vm) qK, qD, sF.moved (u := U) (U := U.calling g mk a) (Vm.Alike.refl U.vm) qZ, nF.same rfl qN⟩, fun U hU hW => ⟨rfl, by rw [hU], by rw [hU]; exact hP, va_K.moved hW.alike hK, hD.weaken (fun _ _ _ _ => trivial), by rw [hU]; exact ((hZ.kept hS.2.1).narrow hf9).moved hW.alike, hN.warm hW⟩⟩ rfl rfl hl.1 rfl (lv_room (Nat.le_of_ble_eq_true rfl)) dX0_writeWeights_84 (room_d hT hbl)) hS (fun q _ h => hf9 q h) hf9 (fun r u t H locs ht hvm hw hB hz1 hk1 hS => ?_)
      obtain ⟨hP, hK9, hD9⟩ := hB
      rw [ht] at hP
      try dsimp only at hw
      subst hw
      refine W_cs (k := (s26.1 : NN).length) (n := wt s26.1) rfl rfl ?_
      have hD := hD9.weaken (fun _ q _ h => hf9 q.1 h)
      refine lv_istore_n (lv' := [(2, .int y41.2), (1, .int s26.2.1), (0, .ref (ad30 a))]) hx hb dX0_writeWeights_87 rfl hl (by decide) rfl (fun ls hl => ?_)
      refine lv_aload_n hx hb dX0_writeWeights_88 rfl (lv_at hl 2 rfl) ?_
      refine va_get (D := D) (ci := 0) (v := va_re ad30 (y41.1.2 a 3)) (C := RX0) (T := TX0) (N := 21) hx hb hts (by decide +kernel) hown hK hP a (wld_o ct ad30 (xt G s26.1) y41.1 hc hk (by decide)) rfl 3 (by decide) (hts (.fieldLink RX0 36 "VideoSuite$Coder" "work" "LVideoSuite$Work;") (by decide +kernel)) (fun _ h9 => h9) rfl dX0_writeWeights_89 ?_
      obtain ⟨b42, ho42, hc42, hk42, hF⟩ := dr_some hF
      refine W_st (st' := [.ref (ad30 b42)]) (by rw [va_some ho42]) ?_
      refine va_get (D := D) (ci := 9) (v := va_re ad30 (y41.1.2 b42 1)) (C := RX9) (T := TX9) (N := 20) hx hb hts (by decide +kernel) hown hK hP b42 (wld_o ct ad30 (xt G s26.1) y41.1 hc42 hk42 (by decide)) rfl 1 (by decide) (hts (.fieldLink RX0 81 "VideoSuite$Work" "head" "LVideoSuite$Header;") (by decide +kernel)) (fun _ h9 => h9) rfl dX0_writeWeights_92 ?_
      obtain ⟨b43, ho43, hc43, hk43, hF⟩ := dr_some hF
      refine W_st (st' := [.ref (ad30 b43)]) (by rw [va_some ho43]) ?_
      refine va_get (D := D) (ci := 3) (v := va_re ad30 (y41.1.2 b43 3)) (C := RX3) (T := TX3) (N := 4) hx hb hts (by decide +kernel) hown hK hP b43 (wld_o ct ad30 (xt G s26.1) y41.1 hc43 hk43 (by decide)) rfl 3 (by decide) (hts (.fieldLink RX0 331 "VideoSuite$Header" "weight" "[I") (by decide +kernel)) (fun _ h9 => h9) rfl dX0_writeWeights_95 ?_
      refine lv_iload_n hx hb dX0_writeWeights_98 rfl (lv_at hl 0 rfl) ?_
      refine lv_bipush (v := (32 : Int32)) hx hb dX0_writeWeights_99 (by decide) ?_
      refine lv_aload_n hx hb dX0_writeWeights_101 rfl (lv_at hl 2 rfl) ?_
      refine lv_bipush (v := (9 : Int32)) hx hb dX0_writeWeights_102 (by decide) ?_
      obtain ⟨y44, hy44, hF⟩ := bnd_some hF
      have hf9 := wA_in hD hA9 hS
      refine va_calli (va_runV (As := [.int (9 : Int32)]) (rest := [.int (32 : Int32), .int y41.2, va_re ad30 (y41.1.2 b43 3)]) ⟨hx, hb, hml, hown, hts⟩ (kX0_draw l D ct ad30 Z (xt G s26.1) y41.1 H.size a ((9 : Int32)) y44 hc hk hy44) (cwV 1 hts gX0_writeWeights_X0_draw rfl rfl rfl (by decide +kernel) ⟨Nat.le_of_ble_eq_true rfl, Nat.le_of_ble_eq_true rfl⟩) ⟨fun a U g mk q => by obtain ⟨q0, q1, qP, qK, qD, qZ, qN⟩ := q; exact ⟨q0, q1, qP, va_K.moved (u := U) (U := U.calling g mk a) (Vm.Alike.refl U.vm) qK, qD, sF.moved (u := U) (U := U.calling g mk a) (Vm.Alike.refl U.vm) qZ, nF.same rfl qN⟩, va_recv hK hP (ci := 0) (q0 := a) rfl (wld_o ct ad30 (xt G s26.1) y41.1 hc hk (by decide)), fun U hU hW => ⟨rfl, by rw [hU], by rw [hU]; exact hP, va_K.moved hW.alike hK, hD.weaken (fun _ _ _ _ => trivial), by rw [hU]; exact ((hZ.kept hS.2.1).narrow hf9).moved hW.alike, hN.warm hW⟩⟩ rfl rfl hl.1 rfl (lv_room (by simp only [List.map, va_re_cat]; exact Nat.le_of_ble_eq_true rfl)) dX0_writeWeights_104 (room_d hT hbl)) hS (fun q _ h => hf9 q h) hf9 (fun r u t H locs ht hvm hw hB hz1 hk1 hS => ?_)
      obtain ⟨hP, hK9, hD9⟩ := hB
      rw [ht] at hP
      try dsimp only at hw
      subst hw
      refine W_cs (k := (s26.1 : NN).length) (n := wt s26.1) rfl rfl ?_
      have hD := hD9.weaken (fun _ q _ h => hf9 q.1 h)
      refine lv_iadd hx hb dX0_writeWeights_107 ?_
      obtain ⟨x45, ex45, hF⟩ := ltt_some hF
      refine lv_topi (fun zx45 ezx45 => ?_)
      obtain rfl : x45 = zx45 := ex45.trans ezx45.symm
      refine lv_iconst (v := (4 : Int32)) hx hb dX0_writeWeights_108 (by decide) ?_
      refine lv_isub hx hb dX0_writeWeights_109 ?_
      obtain ⟨x46, ex46, hF⟩ := ltt_some hF
      refine lv_topi (fun zx46 ezx46 => ?_)
      obtain rfl : x46 = zx46 := ex46.trans ezx46.symm
      obtain ⟨b47, ho47, hc47, hk47, hF⟩ := dr_some hF
      refine W_st (st' := [.int x46, .int y41.2, .ref (ad30 b47)]) (by rw [va_some ho47]) ?_
      obtain ⟨hvc, hF⟩ := chk_some hF
      refine va_iast hx hb hK hP hD hS b47 1 (wld_i ct ad30 (xt G s26.1) y44.1 hc47 hk47) rfl hvc dX0_writeWeights_110 (fun H locs hP hD hS => ?_)
      obtain ⟨M48, eM48, hF⟩ := ltt_some hF
      rw [set_i ct ad30 (xt G s26.1) y44.1 hc47 hk47, ← eM48] at hP hD
      refine lv_aload_n hx hb dX0_writeWeights_111 rfl (lv_at hl 2 rfl) ?_
      refine va_get (D := D) (ci := 0) (v := va_re ad30 (M48.2 a 3)) (C := RX0) (T := TX0) (N := 21) hx hb hts (by decide +kernel) hown hK hP a (wld_o ct ad30 (xt G s26.1) M48 hc hk (by decide)) rfl 3 (by decide) (hts (.fieldLink RX0 36 "VideoSuite$Coder" "work" "LVideoSuite$Work;") (by decide +kernel)) (fun _ h9 => h9) rfl dX0_writeWeights_112 ?_
      obtain ⟨b49, ho49, hc49, hk49, hF⟩ := dr_some hF
      refine W_st (st' := [.ref (ad30 b49)]) (by rw [va_some ho49]) ?_
      refine va_get (D := D) (ci := 9) (v := va_re ad30 (M48.2 b49 1)) (C := RX9) (T := TX9) (N := 20) hx hb hts (by decide +kernel) hown hK hP b49 (wld_o ct ad30 (xt G s26.1) M48 hc49 hk49 (by decide)) rfl 1 (by decide) (hts (.fieldLink RX0 81 "VideoSuite$Work" "head" "LVideoSuite$Header;") (by decide +kernel)) (fun _ h9 => h9) rfl dX0_writeWeights_115 ?_
      obtain ⟨b50, ho50, hc50, hk50, hF⟩ := dr_some hF
      refine W_st (st' := [.ref (ad30 b50)]) (by rw [va_some ho50]) ?_
      refine va_get (D := D) (ci := 3) (v := va_re ad30 (M48.2 b50 3)) (C := RX3) (T := TX3) (N := 4) hx hb hts (by decide +kernel) hown hK hP b50 (wld_o ct ad30 (xt G s26.1) M48 hc50 hk50 (by decide)) rfl 3 (by decide) (hts (.fieldLink RX0 331 "VideoSuite$Header" "weight" "[I") (by decide +kernel)) (fun _ h9 => h9) rfl dX0_writeWeights_118 ?_
      refine lv_iload_n hx hb dX0_writeWeights_121 rfl (lv_at hl 0 rfl) ?_
      refine lv_iconst (v := (1 : Int32)) hx hb dX0_writeWeights_122 (by decide) ?_
      refine lv_iadd hx hb dX0_writeWeights_123 ?_
      obtain ⟨x51, ex51, hF⟩ := ltt_some hF
      refine lv_topi (fun zx51 ezx51 => ?_)
      obtain rfl : x51 = zx51 := ex51.trans ezx51.symm
      refine lv_aload_n hx hb dX0_writeWeights_124 rfl (lv_at hl 2 rfl) ?_
      refine lv_bipush (v := (9 : Int32)) hx hb dX0_writeWeights_125 (by decide) ?_
      obtain ⟨y52, hy52, hF⟩ := bnd_some hF
      have hf9 := wA_in hD hA9 hS
      refine va_calli (va_runV (As := [.int (9 : Int32)]) (rest := [.int x51, va_re ad30 (M48.2 b50 3)]) ⟨hx, hb, hml, hown, hts⟩ (kX0_draw l D ct ad30 Z (xt G s26.1) M48 H.size a ((9 : Int32)) y52 hc hk hy52) (cwV 1 hts gX0_writeWeights_X0_draw rfl rfl rfl (by decide +kernel) ⟨Nat.le_of_ble_eq_true rfl, Nat.le_of_ble_eq_true rfl⟩) ⟨fun a U g mk q => by obtain ⟨q0, q1, qP, qK, qD, qZ, qN⟩ := q; exact ⟨q0, q1, qP, va_K.moved (u := U) (U := U.calling g mk a) (Vm.Alike.refl U.vm) qK, qD, sF.moved (u := U) (U := U.calling g mk a) (Vm.Alike.refl U.vm) qZ, nF.same rfl qN⟩, va_recv hK hP (ci := 0) (q0 := a) rfl (wld_o ct ad30 (xt G s26.1) M48 hc hk (by decide)), fun U hU hW => ⟨rfl, by rw [hU], by rw [hU]; exact hP, va_K.moved hW.alike hK, hD.weaken (fun _ _ _ _ => trivial), by rw [hU]; exact ((hZ.kept hS.2.1).narrow hf9).moved hW.alike, hN.warm hW⟩⟩ rfl rfl hl.1 rfl (lv_room (by simp only [List.map, va_re_cat]; exact Nat.le_of_ble_eq_true rfl)) dX0_writeWeights_127 (room_d hT hbl)) hS (fun q _ h => hf9 q h) hf9 (fun r u t H locs ht hvm hw hB hz1 hk1 hS => ?_)
      obtain ⟨hP, hK9, hD9⟩ := hB
      rw [ht] at hP
      try dsimp only at hw
      subst hw
      refine W_cs (k := (s26.1 : NN).length) (n := wt s26.1) rfl rfl ?_
      have hD := hD9.weaken (fun _ q _ h => hf9 q.1 h)
      refine lv_iconst (v := (4 : Int32)) hx hb dX0_writeWeights_130 (by decide) ?_
      refine lv_isub hx hb dX0_writeWeights_131 ?_
      obtain ⟨x53, ex53, hF⟩ := ltt_some hF
      refine lv_topi (fun zx53 ezx53 => ?_)
      obtain rfl : x53 = zx53 := ex53.trans ezx53.symm
      obtain ⟨b54, ho54, hc54, hk54, hF⟩ := dr_some hF
      refine W_st (st' := [.int x53, .int x51, .ref (ad30 b54)]) (by rw [va_some ho54]) ?_
      obtain ⟨hvc, hF⟩ := chk_some hF
      refine va_iast hx hb hK hP hD hS b54 1 (wld_i ct ad30 (xt G s26.1) y52.1 hc54 hk54) rfl hvc dX0_writeWeights_132 (fun H locs hP hD hS => ?_)
      obtain ⟨M55, eM55, hF⟩ := ltt_some hF
      rw [set_i ct ad30 (xt G s26.1) y52.1 hc54 hk54, ← eM55] at hP hD
      refine lv_aload_n hx hb dX0_writeWeights_133 rfl (lv_at hl 2 rfl) ?_
      refine lv_iconst (v := (1 : Int32)) hx hb dX0_writeWeights_134 (by decide) ?_
      obtain ⟨y56, hy56, hF⟩ := bnd_some hF
      obtain ⟨w57, hF, ew57⟩ := app_some hF
      obtain ⟨L58, eL58, hF⟩ := ltt_some hF
      have hT58 : L33 = (s26.1 ++ y56.1) ++ w57.1 := by rw [hT, ew57]; simp only [List.append_assoc]
      have hf9 := wA_in hD hA9 hS
      refine va_callv (va_runV (As := [.int (1 : Int32)]) (rest := []) ⟨hx, hb, hml, hown, hts⟩ (kX0_flag l D ct ad30 Z (xt G s26.1) M55 _ a ((1 : Int32)) y56 hc hk hy56) (cwV 1 hts gX0_writeWeights_X0_flag rfl rfl rfl (by decide +kernel) ⟨Nat.le_of_ble_eq_true rfl, Nat.le_of_ble_eq_true rfl⟩) ⟨fun a U g mk q => by obtain ⟨q0, q1, qP, qK, qD, qZ, qN⟩ := q; exact ⟨q0, q1, qP, va_K.moved (u := U) (U := U.calling g mk a) (Vm.Alike.refl U.vm) qK, qD, sF.moved (u := U) (U := U.calling g mk a) (Vm.Alike.refl U.vm) qZ, nF.same rfl qN⟩, va_recv hK hP (ci := 0) (q0 := a) rfl (wld_o ct ad30 (xt G s26.1) M55 hc hk (by decide)), fun U hU hW => ⟨rfl, by rw [hU], by rw [hU]; exact hP, va_K.moved hW.alike hK, hD.weaken (fun _ _ _ _ => trivial), by rw [hU]; exact ((hZ.kept hS.2.1).narrow hf9).moved hW.alike, hN.warm hW⟩⟩ rfl rfl hl.1 rfl (lv_room (Nat.le_of_ble_eq_true rfl)) dX0_writeWeights_135 (room_s hT58 hbl)) hS (fun q _ h => hf9 q h) hf9 (fun ad59 t H locs ht hvm hw hB hz1 hk1 hS => ?_)
      have hn60 := hw
      obtain ⟨hP, hK9, hD9⟩ := hB
      rw [ht] at hP
      have hD := hD9.weaken (fun _ q _ h => hf9 q.1 h)
      rw [xt_xt, ← eL58] at hP hD
      refine W_cs (k := L58.length) (n := wt L58) (by rw [eL58]; exact (len_s s26.1 y56.1).symm) (by rw [eL58]; exact (wt_app s26.1 y56.1).symm) ?_
      have hT : L33 = L58 ++ w57.1 := by rw [hT58, eL58]
      have h2 : z32.2 = w57.2 := by rw [h2, ew57]
      have hl := lv_sub (l' := [(2, .int y41.2), (1, .int s26.2.1), (0, .ref (ad30 a))]) hl [0, 1, 2] rfl
      have e9 : ([(2, .int y41.2), (1, .int s26.2.1), (0, .ref (ad30 a))] : List (Nat × Value)) = [(2, .int y41.2), (1, .int s26.2.1), (0, .ref (ad59 a))] := (by first | rfl | simp only [hn60 a hc])
      rw [e9] at hl
      clear e9
      have hk : (xt G L58).2.1 a = 0 := by rw [eL58]; exact xt_k _ hc hk
      have hc : a < (xt G L58).1 := by rw [eL58]; exact xt_l _ hc
      have hk2 : (xt G L58).2.1 b2 = 9 := by rw [eL58]; exact xt_k _ hc2 hk2
      have hc2 : b2 < (xt G L58).1 := by rw [eL58]; exact xt_l _ hc2
      have hk3 : (xt G L58).2.1 b3 = 3 := by rw [eL58]; exact xt_k _ hc3 hk3
      have hc3 : b3 < (xt G L58).1 := by rw [eL58]; exact xt_l _ hc3
      have hk4 : (xt G L58).2.1 b4 = 13 := by rw [eL58]; exact xt_k _ hc4 hk4
      have hc4 : b4 < (xt G L58).1 := by rw [eL58]; exact xt_l _ hc4
      have hk6 : (xt G L58).2.1 b6 = 9 := by rw [eL58]; exact xt_k _ hc6 hk6
      have hc6 : b6 < (xt G L58).1 := by rw [eL58]; exact xt_l _ hc6
      have hk7 : (xt G L58).2.1 b7 = 3 := by rw [eL58]; exact xt_k _ hc7 hk7
      have hc7 : b7 < (xt G L58).1 := by rw [eL58]; exact xt_l _ hc7
      have hk8 : (xt G L58).2.1 b8 = 13 := by rw [eL58]; exact xt_k _ hc8 hk8
      have hc8 : b8 < (xt G L58).1 := by rw [eL58]; exact xt_l _ hc8
      have hk10 : (xt G L58).2.1 b10 = 9 := by rw [eL58]; exact xt_k _ hc10 hk10
      have hc10 : b10 < (xt G L58).1 := by rw [eL58]; exact xt_l _ hc10
      have hk11 : (xt G L58).2.1 b11 = 3 := by rw [eL58]; exact xt_k _ hc11 hk11
      have hc11 : b11 < (xt G L58).1 := by rw [eL58]; exact xt_l _ hc11
      have hk13 : (xt G L58).2.1 b13 = 10 := by rw [eL58]; exact xt_k _ hc13 hk13
      have hc13 : b13 < (xt G L58).1 := by rw [eL58]; exact xt_l _ hc13
      have hk19 : (xt G L58).2.1 b19 = 10 := by rw [eL58]; exact xt_k _ hc19 hk19
      have hc19 : b19 < (xt G L58).1 := by rw [eL58]; exact xt_l _ hc19
      have hk35 : (xt G L58).2.1 b35 = 9 := by rw [eL58]; exact xt_k _ hc35 hk35
      have hc35 : b35 < (xt G L58).1 := by rw [eL58]; exact xt_l _ hc35
      have hk36 : (xt G L58).2.1 b36 = 3 := by rw [eL58]; exact xt_k _ hc36 hk36
      have hc36 : b36 < (xt G L58).1 := by rw [eL58]; exact xt_l _ hc36
      have hk37 : (xt G L58).2.1 b37 = 13 := by rw [eL58]; exact xt_k _ hc37 hk37
      have hc37 : b37 < (xt G L58).1 := by rw [eL58]; exact xt_l _ hc37
      have hk42 : (xt G L58).2.1 b42 = 9 := by rw [eL58]; exact xt_k _ hc42 hk42
      have hc42 : b42 < (xt G L58).1 := by rw [eL58]; exact xt_l _ hc42
      have hk43 : (xt G L58).2.1 b43 = 3 := by rw [eL58]; exact xt_k _ hc43 hk43
      have hc43 : b43 < (xt G L58).1 := by rw [eL58]; exact xt_l _ hc43
      have hk47 : (xt G L58).2.1 b47 = 13 := by rw [eL58]; exact xt_k _ hc47 hk47
      have hc47 : b47 < (xt G L58).1 := by rw [eL58]; exact xt_l _ hc47
      have hk49 : (xt G L58).2.1 b49 = 9 := by rw [eL58]; exact xt_k _ hc49 hk49
      have hc49 : b49 < (xt G L58).1 := by rw [eL58]; exact xt_l _ hc49
      have hk50 : (xt G L58).2.1 b50 = 3 := by rw [eL58]; exact xt_k _ hc50 hk50
      have hc50 : b50 < (xt G L58).1 := by rw [eL58]; exact xt_l _ hc50
      have hk54 : (xt G L58).2.1 b54 = 13 := by rw [eL58]; exact xt_k _ hc54 hk54
      have hc54 : b54 < (xt G L58).1 := by rw [eL58]; exact xt_l _ hc54
      have hag := agr_t (xt_ge _ _) hag hn60
      refine lv_aload_n hx hb dX0_writeWeights_138 rfl (lv_at hl 2 rfl) ?_
      refine va_get (D := D) (ci := 0) (v := va_re ad59 (y56.2.2 a 2)) (C := RX0) (T := TX0) (N := 21) hx hb hts (by decide +kernel) hown hK hP a (wld_o ct ad59 (xt G L58) y56.2 hc hk (by decide)) rfl 2 (by decide) (hts (.fieldLink RX0 29 "VideoSuite$Coder" "writer" "LVideoSuite$Writer;") (by decide +kernel)) (fun _ h9 => h9) rfl dX0_writeWeights_139 ?_
      refine lv_iconst (v := (0 : Int32)) hx hb dX0_writeWeights_142 (by decide) ?_
      refine lv_aload_n hx hb dX0_writeWeights_143 rfl (lv_at hl 2 rfl) ?_
      refine va_get (D := D) (ci := 0) (v := va_re ad59 (y56.2.2 a 3)) (C := RX0) (T := TX0) (N := 21) hx hb hts (by decide +kernel) hown hK hP a (wld_o ct ad59 (xt G L58) y56.2 hc hk (by decide)) rfl 3 (by decide) (hts (.fieldLink RX0 36 "VideoSuite$Coder" "work" "LVideoSuite$Work;") (by decide +kernel)) (fun _ h9 => h9) rfl dX0_writeWeights_144 ?_
      obtain ⟨b61, ho61, hc61, hk61, hF⟩ := dr_some hF
      refine W_st (st' := [.ref (ad59 b61), .int (0 : Int32), va_re ad59 (y56.2.2 a 2)]) (by rw [va_some ho61]) ?_
      refine va_get (D := D) (ci := 9) (v := va_re ad59 (y56.2.2 b61 1)) (C := RX9) (T := TX9) (N := 20) hx hb hts (by decide +kernel) hown hK hP b61 (wld_o ct ad59 (xt G L58) y56.2 hc61 hk61 (by decide)) rfl 1 (by decide) (hts (.fieldLink RX0 81 "VideoSuite$Work" "head" "LVideoSuite$Header;") (by decide +kernel)) (fun _ h9 => h9) rfl dX0_writeWeights_147 ?_
      obtain ⟨b62, ho62, hc62, hk62, hF⟩ := dr_some hF
      refine W_st (st' := [.ref (ad59 b62), .int (0 : Int32), va_re ad59 (y56.2.2 a 2)]) (by rw [va_some ho62]) ?_
      refine va_get (D := D) (ci := 3) (v := va_re ad59 (y56.2.2 b62 3)) (C := RX3) (T := TX3) (N := 4) hx hb hts (by decide +kernel) hown hK hP b62 (wld_o ct ad59 (xt G L58) y56.2 hc62 hk62 (by decide)) rfl 3 (by decide) (hts (.fieldLink RX0 331 "VideoSuite$Header" "weight" "[I") (by decide +kernel)) (fun _ h9 => h9) rfl dX0_writeWeights_150 ?_
      refine lv_iload_n hx hb dX0_writeWeights_153 rfl (lv_at hl 0 rfl) ?_
      obtain ⟨b63, ho63, hc63, hk63, hF⟩ := dr_some hF
      refine W_st (st' := [.int y41.2, .ref (ad59 b63), .int (0 : Int32), va_re ad59 (y56.2.2 a 2)]) (by rw [va_some ho63]) ?_
      obtain ⟨hvc, hF⟩ := chk_some hF
      refine va_iald hx hb hK hP b63 1 (wld_i ct ad59 (xt G L58) y56.2 hc63 hk63) rfl hvc dX0_writeWeights_154 ?_
      obtain ⟨x64, ex64, hF⟩ := ltt_some hF
      refine lv_topi (fun zx64 ezx64 => ?_)
      obtain rfl : x64 = zx64 := ex64.trans ezx64.symm
      obtain ⟨b65, ho65, hc65, hk65, hF⟩ := dr_some hF
      refine W_st (st' := [.int x64, .int (0 : Int32), .ref (ad59 b65)]) (by rw [va_some ho65]) ?_
      obtain ⟨y66, hy66, hF⟩ := bnd_some hF
      obtain ⟨w67, hF, ew67⟩ := app_some hF
      obtain ⟨L68, eL68, hF⟩ := ltt_some hF
      have hT68 : L33 = (L58 ++ y66.1) ++ w67.1 := by rw [hT, ew67]; simp only [List.append_assoc]
      have hf9 := wA_in hD hA9 hS
      refine va_callv (va_runV (As := [.int (0 : Int32), .int x64]) (rest := []) ⟨hx, hb, hml, hown, hts⟩ (kX10_se l D ct ad59 Z (xt G L58) y56.2 _ b65 ((0 : Int32)) x64 y66 hc65 hk65 hy66) (cwV 2 hts gX0_writeWeights_X10_se rfl rfl rfl (by decide +kernel) ⟨Nat.le_of_ble_eq_true rfl, Nat.le_of_ble_eq_true rfl⟩) ⟨fun a U g mk q => by obtain ⟨q0, q1, qP, qK, qD, qZ, qN⟩ := q; exact ⟨q0, q1, qP, va_K.moved (u := U) (U := U.calling g mk a) (Vm.Alike.refl U.vm) qK, qD, sF.moved (u := U) (U := U.calling g mk a) (Vm.Alike.refl U.vm) qZ, nF.same rfl qN⟩, va_recv hK hP (ci := 10) (q0 := b65) rfl (wld_o ct ad59 (xt G L58) y56.2 hc65 hk65 (by decide)), fun U hU hW => ⟨rfl, by rw [hU], by rw [hU]; exact hP, va_K.moved hW.alike hK, hD.weaken (fun _ _ _ _ => trivial), by rw [hU]; exact ((hZ.kept hS.2.1).narrow hf9).moved hW.alike, hN.warm hW⟩⟩ rfl rfl hl.1 rfl (lv_room (Nat.le_of_ble_eq_true rfl)) dX0_writeWeights_155 (room_s hT68 hbl)) hS (fun q _ h => hf9 q h) hf9 (fun ad69 t H locs ht hvm hw hB hz1 hk1 hS => ?_)
      have hn70 := hw
      obtain ⟨hP, hK9, hD9⟩ := hB
      rw [ht] at hP
      have hD := hD9.weaken (fun _ q _ h => hf9 q.1 h)
      rw [xt_xt, ← eL68] at hP hD
      refine W_cs (k := L68.length) (n := wt L68) (by rw [eL68]; exact (len_s L58 y66.1).symm) (by rw [eL68]; exact (wt_app L58 y66.1).symm) ?_
      have hT : L33 = L68 ++ w67.1 := by rw [hT68, eL68]
      have h2 : z32.2 = w67.2 := by rw [h2, ew67]
      have hl := lv_sub (l' := [(2, .int y41.2), (1, .int s26.2.1), (0, .ref (ad59 a))]) hl [0, 1, 2] rfl
      have e9 : ([(2, .int y41.2), (1, .int s26.2.1), (0, .ref (ad59 a))] : List (Nat × Value)) = [(2, .int y41.2), (1, .int s26.2.1), (0, .ref (ad69 a))] := (by first | rfl | simp only [hn70 a hc])
      rw [e9] at hl
      clear e9
      have hk : (xt G L68).2.1 a = 0 := by rw [eL68]; exact xt_k _ hc hk
      have hc : a < (xt G L68).1 := by rw [eL68]; exact xt_l _ hc
      have hk2 : (xt G L68).2.1 b2 = 9 := by rw [eL68]; exact xt_k _ hc2 hk2
      have hc2 : b2 < (xt G L68).1 := by rw [eL68]; exact xt_l _ hc2
      have hk3 : (xt G L68).2.1 b3 = 3 := by rw [eL68]; exact xt_k _ hc3 hk3
      have hc3 : b3 < (xt G L68).1 := by rw [eL68]; exact xt_l _ hc3
      have hk4 : (xt G L68).2.1 b4 = 13 := by rw [eL68]; exact xt_k _ hc4 hk4
      have hc4 : b4 < (xt G L68).1 := by rw [eL68]; exact xt_l _ hc4
      have hk6 : (xt G L68).2.1 b6 = 9 := by rw [eL68]; exact xt_k _ hc6 hk6
      have hc6 : b6 < (xt G L68).1 := by rw [eL68]; exact xt_l _ hc6
      have hk7 : (xt G L68).2.1 b7 = 3 := by rw [eL68]; exact xt_k _ hc7 hk7
      have hc7 : b7 < (xt G L68).1 := by rw [eL68]; exact xt_l _ hc7
      have hk8 : (xt G L68).2.1 b8 = 13 := by rw [eL68]; exact xt_k _ hc8 hk8
      have hc8 : b8 < (xt G L68).1 := by rw [eL68]; exact xt_l _ hc8
      have hk10 : (xt G L68).2.1 b10 = 9 := by rw [eL68]; exact xt_k _ hc10 hk10
      have hc10 : b10 < (xt G L68).1 := by rw [eL68]; exact xt_l _ hc10
      have hk11 : (xt G L68).2.1 b11 = 3 := by rw [eL68]; exact xt_k _ hc11 hk11
      have hc11 : b11 < (xt G L68).1 := by rw [eL68]; exact xt_l _ hc11
      have hk13 : (xt G L68).2.1 b13 = 10 := by rw [eL68]; exact xt_k _ hc13 hk13
      have hc13 : b13 < (xt G L68).1 := by rw [eL68]; exact xt_l _ hc13
      have hk19 : (xt G L68).2.1 b19 = 10 := by rw [eL68]; exact xt_k _ hc19 hk19
      have hc19 : b19 < (xt G L68).1 := by rw [eL68]; exact xt_l _ hc19
      have hk35 : (xt G L68).2.1 b35 = 9 := by rw [eL68]; exact xt_k _ hc35 hk35
      have hc35 : b35 < (xt G L68).1 := by rw [eL68]; exact xt_l _ hc35
      have hk36 : (xt G L68).2.1 b36 = 3 := by rw [eL68]; exact xt_k _ hc36 hk36
      have hc36 : b36 < (xt G L68).1 := by rw [eL68]; exact xt_l _ hc36
      have hk37 : (xt G L68).2.1 b37 = 13 := by rw [eL68]; exact xt_k _ hc37 hk37
      have hc37 : b37 < (xt G L68).1 := by rw [eL68]; exact xt_l _ hc37
      have hk42 : (xt G L68).2.1 b42 = 9 := by rw [eL68]; exact xt_k _ hc42 hk42
      have hc42 : b42 < (xt G L68).1 := by rw [eL68]; exact xt_l _ hc42
      have hk43 : (xt G L68).2.1 b43 = 3 := by rw [eL68]; exact xt_k _ hc43 hk43
      have hc43 : b43 < (xt G L68).1 := by rw [eL68]; exact xt_l _ hc43
      have hk47 : (xt G L68).2.1 b47 = 13 := by rw [eL68]; exact xt_k _ hc47 hk47
      have hc47 : b47 < (xt G L68).1 := by rw [eL68]; exact xt_l _ hc47
      have hk49 : (xt G L68).2.1 b49 = 9 := by rw [eL68]; exact xt_k _ hc49 hk49
      have hc49 : b49 < (xt G L68).1 := by rw [eL68]; exact xt_l _ hc49
      have hk50 : (xt G L68).2.1 b50 = 3 := by rw [eL68]; exact xt_k _ hc50 hk50
      have hc50 : b50 < (xt G L68).1 := by rw [eL68]; exact xt_l _ hc50
      have hk54 : (xt G L68).2.1 b54 = 13 := by rw [eL68]; exact xt_k _ hc54 hk54
      have hc54 : b54 < (xt G L68).1 := by rw [eL68]; exact xt_l _ hc54
      have hk61 : (xt G L68).2.1 b61 = 9 := by rw [eL68]; exact xt_k _ hc61 hk61
      have hc61 : b61 < (xt G L68).1 := by rw [eL68]; exact xt_l _ hc61
      have hk62 : (xt G L68).2.1 b62 = 3 := by rw [eL68]; exact xt_k _ hc62 hk62
      have hc62 : b62 < (xt G L68).1 := by rw [eL68]; exact xt_l _ hc62
      have hk63 : (xt G L68).2.1 b63 = 13 := by rw [eL68]; exact xt_k _ hc63 hk63
      have hc63 : b63 < (xt G L68).1 := by rw [eL68]; exact xt_l _ hc63
      have hk65 : (xt G L68).2.1 b65 = 10 := by rw [eL68]; exact xt_k _ hc65 hk65
      have hc65 : b65 < (xt G L68).1 := by rw [eL68]; exact xt_l _ hc65
      have hag := agr_t (xt_ge _ _) hag hn70
      refine lv_aload_n hx hb dX0_writeWeights_158 rfl (lv_at hl 2 rfl) ?_
      refine va_get (D := D) (ci := 0) (v := va_re ad69 (y66.2.2 a 2)) (C := RX0) (T := TX0) (N := 21) hx hb hts (by decide +kernel) hown hK hP a (wld_o ct ad69 (xt G L68) y66.2 hc hk (by decide)) rfl 2 (by decide) (hts (.fieldLink RX0 29 "VideoSuite$Coder" "writer" "LVideoSuite$Writer;") (by decide +kernel)) (fun _ h9 => h9) rfl dX0_writeWeights_159 ?_
      refine lv_iconst (v := (0 : Int32)) hx hb dX0_writeWeights_162 (by decide) ?_
      refine lv_aload_n hx hb dX0_writeWeights_163 rfl (lv_at hl 2 rfl) ?_
      refine va_get (D := D) (ci := 0) (v := va_re ad69 (y66.2.2 a 3)) (C := RX0) (T := TX0) (N := 21) hx hb hts (by decide +kernel) hown hK hP a (wld_o ct ad69 (xt G L68) y66.2 hc hk (by decide)) rfl 3 (by decide) (hts (.fieldLink RX0 36 "VideoSuite$Coder" "work" "LVideoSuite$Work;") (by decide +kernel)) (fun _ h9 => h9) rfl dX0_writeWeights_164 ?_
      obtain ⟨b71, ho71, hc71, hk71, hF⟩ := dr_some hF
      refine W_st (st' := [.ref (ad69 b71), .int (0 : Int32), va_re ad69 (y66.2.2 a 2)]) (by rw [va_some ho71]) ?_
      refine va_get (D := D) (ci := 9) (v := va_re ad69 (y66.2.2 b71 1)) (C := RX9) (T := TX9) (N := 20) hx hb hts (by decide +kernel) hown hK hP b71 (wld_o ct ad69 (xt G L68) y66.2 hc71 hk71 (by decide)) rfl 1 (by decide) (hts (.fieldLink RX0 81 "VideoSuite$Work" "head" "LVideoSuite$Header;") (by decide +kernel)) (fun _ h9 => h9) rfl dX0_writeWeights_167 ?_
      obtain ⟨b72, ho72, hc72, hk72, hF⟩ := dr_some hF
      refine W_st (st' := [.ref (ad69 b72), .int (0 : Int32), va_re ad69 (y66.2.2 a 2)]) (by rw [va_some ho72]) ?_
      refine va_get (D := D) (ci := 3) (v := va_re ad69 (y66.2.2 b72 3)) (C := RX3) (T := TX3) (N := 4) hx hb hts (by decide +kernel) hown hK hP b72 (wld_o ct ad69 (xt G L68) y66.2 hc72 hk72 (by decide)) rfl 3 (by decide) (hts (.fieldLink RX0 331 "VideoSuite$Header" "weight" "[I") (by decide +kernel)) (fun _ h9 => h9) rfl dX0_writeWeights_170 ?_
      refine lv_iload_n hx hb dX0_writeWeights_173 rfl (lv_at hl 0 rfl) ?_
      refine lv_iconst (v := (1 : Int32)) hx hb dX0_writeWeights_174 (by decide) ?_
      refine lv_iadd hx hb dX0_writeWeights_175 ?_
      obtain ⟨x73, ex73, hF⟩ := ltt_some hF
      refine lv_topi (fun zx73 ezx73 => ?_)
      obtain rfl : x73 = zx73 := ex73.trans ezx73.symm
      obtain ⟨b74, ho74, hc74, hk74, hF⟩ := dr_some hF
      refine W_st (st' := [.int x73, .ref (ad69 b74), .int (0 : Int32), va_re ad69 (y66.2.2 a 2)]) (by rw [va_some ho74]) ?_
      obtain ⟨hvc, hF⟩ := chk_some hF
      refine va_iald hx hb hK hP b74 1 (wld_i ct ad69 (xt G L68) y66.2 hc74 hk74) rfl hvc dX0_writeWeights_176 ?_
      obtain ⟨x75, ex75, hF⟩ := ltt_some hF
      refine lv_topi (fun zx75 ezx75 => ?_)
      obtain rfl : x75 = zx75 := ex75.trans ezx75.symm
      obtain ⟨b76, ho76, hc76, hk76, hF⟩ := dr_some hF
      refine W_st (st' := [.int x75, .int (0 : Int32), .ref (ad69 b76)]) (by rw [va_some ho76]) ?_
      obtain ⟨y77, hy77, hF⟩ := bnd_some hF
      obtain ⟨w78, hF, ew78⟩ := app_some hF
      obtain ⟨L79, eL79, hF⟩ := ltt_some hF
      have hT79 : L33 = (L68 ++ y77.1) ++ w78.1 := by rw [hT, ew78]; simp only [List.append_assoc]
      have hf9 := wA_in hD hA9 hS
      refine va_callv (va_runV (As := [.int (0 : Int32), .int x75]) (rest := []) ⟨hx, hb, hml, hown, hts⟩ (kX10_se l D ct ad69 Z (xt G L68) y66.2 _ b76 ((0 : Int32)) x75 y77 hc76 hk76 hy77) (cwV 2 hts gX0_writeWeights_X10_se rfl rfl rfl (by decide +kernel) ⟨Nat.le_of_ble_eq_true rfl, Nat.le_of_ble_eq_true rfl⟩) ⟨fun a U g mk q => by obtain ⟨q0, q1, qP, qK, qD, qZ, qN⟩ := q; exact ⟨q0, q1, qP, va_K.moved (u := U) (U := U.calling g mk a) (Vm.Alike.refl U.vm) qK, qD, sF.moved (u := U) (U := U.calling g mk a) (Vm.Alike.refl U.vm) qZ, nF.same rfl qN⟩, va_recv hK hP (ci := 10) (q0 := b76) rfl (wld_o ct ad69 (xt G L68) y66.2 hc76 hk76 (by decide)), fun U hU hW => ⟨rfl, by rw [hU], by rw [hU]; exact hP, va_K.moved hW.alike hK, hD.weaken (fun _ _ _ _ => trivial), by rw [hU]; exact ((hZ.kept hS.2.1).narrow hf9).moved hW.alike, hN.warm hW⟩⟩ rfl rfl hl.1 rfl (lv_room (Nat.le_of_ble_eq_true rfl)) dX0_writeWeights_177 (room_s hT79 hbl)) hS (fun q _ h => hf9 q h) hf9 (fun ad80 t H locs ht hvm hw hB hz1 hk1 hS => ?_)
      have hn81 := hw
      obtain ⟨hP, hK9, hD9⟩ := hB
      rw [ht] at hP
      have hD := hD9.weaken (fun _ q _ h => hf9 q.1 h)
      rw [xt_xt, ← eL79] at hP hD
      refine W_cs (k := L79.length) (n := wt L79) (by rw [eL79]; exact (len_s L68 y77.1).symm) (by rw [eL79]; exact (wt_app L68 y77.1).symm) ?_
      have hT : L33 = L79 ++ w78.1 := by rw [hT79, eL79]
      have h2 : z32.2 = w78.2 := by rw [h2, ew78]
      have hl := lv_sub (l' := [(1, .int s26.2.1), (0, .ref (ad69 a))]) hl [1, 2] rfl
      have e9 : ([(1, .int s26.2.1), (0, .ref (ad69 a))] : List (Nat × Value)) = [(1, .int s26.2.1), (0, .ref (ad80 a))] := (by first | rfl | simp only [hn81 a hc])
      rw [e9] at hl
      clear e9
      have hk : (xt G L79).2.1 a = 0 := by rw [eL79]; exact xt_k _ hc hk
      have hc : a < (xt G L79).1 := by rw [eL79]; exact xt_l _ hc
      have hk2 : (xt G L79).2.1 b2 = 9 := by rw [eL79]; exact xt_k _ hc2 hk2
      have hc2 : b2 < (xt G L79).1 := by rw [eL79]; exact xt_l _ hc2
      have hk3 : (xt G L79).2.1 b3 = 3 := by rw [eL79]; exact xt_k _ hc3 hk3
      have hc3 : b3 < (xt G L79).1 := by rw [eL79]; exact xt_l _ hc3
      have hk4 : (xt G L79).2.1 b4 = 13 := by rw [eL79]; exact xt_k _ hc4 hk4
      have hc4 : b4 < (xt G L79).1 := by rw [eL79]; exact xt_l _ hc4
      have hk6 : (xt G L79).2.1 b6 = 9 := by rw [eL79]; exact xt_k _ hc6 hk6
      have hc6 : b6 < (xt G L79).1 := by rw [eL79]; exact xt_l _ hc6
      have hk7 : (xt G L79).2.1 b7 = 3 := by rw [eL79]; exact xt_k _ hc7 hk7
      have hc7 : b7 < (xt G L79).1 := by rw [eL79]; exact xt_l _ hc7
      have hk8 : (xt G L79).2.1 b8 = 13 := by rw [eL79]; exact xt_k _ hc8 hk8
      have hc8 : b8 < (xt G L79).1 := by rw [eL79]; exact xt_l _ hc8
      have hk10 : (xt G L79).2.1 b10 = 9 := by rw [eL79]; exact xt_k _ hc10 hk10
      have hc10 : b10 < (xt G L79).1 := by rw [eL79]; exact xt_l _ hc10
      have hk11 : (xt G L79).2.1 b11 = 3 := by rw [eL79]; exact xt_k _ hc11 hk11
      have hc11 : b11 < (xt G L79).1 := by rw [eL79]; exact xt_l _ hc11
      have hk13 : (xt G L79).2.1 b13 = 10 := by rw [eL79]; exact xt_k _ hc13 hk13
      have hc13 : b13 < (xt G L79).1 := by rw [eL79]; exact xt_l _ hc13
      have hk19 : (xt G L79).2.1 b19 = 10 := by rw [eL79]; exact xt_k _ hc19 hk19
      have hc19 : b19 < (xt G L79).1 := by rw [eL79]; exact xt_l _ hc19
      have hk35 : (xt G L79).2.1 b35 = 9 := by rw [eL79]; exact xt_k _ hc35 hk35
      have hc35 : b35 < (xt G L79).1 := by rw [eL79]; exact xt_l _ hc35
      have hk36 : (xt G L79).2.1 b36 = 3 := by rw [eL79]; exact xt_k _ hc36 hk36
      have hc36 : b36 < (xt G L79).1 := by rw [eL79]; exact xt_l _ hc36
      have hk37 : (xt G L79).2.1 b37 = 13 := by rw [eL79]; exact xt_k _ hc37 hk37
      have hc37 : b37 < (xt G L79).1 := by rw [eL79]; exact xt_l _ hc37
      have hk42 : (xt G L79).2.1 b42 = 9 := by rw [eL79]; exact xt_k _ hc42 hk42
      have hc42 : b42 < (xt G L79).1 := by rw [eL79]; exact xt_l _ hc42
      have hk43 : (xt G L79).2.1 b43 = 3 := by rw [eL79]; exact xt_k _ hc43 hk43
      have hc43 : b43 < (xt G L79).1 := by rw [eL79]; exact xt_l _ hc43
      have hk47 : (xt G L79).2.1 b47 = 13 := by rw [eL79]; exact xt_k _ hc47 hk47
      have hc47 : b47 < (xt G L79).1 := by rw [eL79]; exact xt_l _ hc47
      have hk49 : (xt G L79).2.1 b49 = 9 := by rw [eL79]; exact xt_k _ hc49 hk49
      have hc49 : b49 < (xt G L79).1 := by rw [eL79]; exact xt_l _ hc49
      have hk50 : (xt G L79).2.1 b50 = 3 := by rw [eL79]; exact xt_k _ hc50 hk50
      have hc50 : b50 < (xt G L79).1 := by rw [eL79]; exact xt_l _ hc50
      have hk54 : (xt G L79).2.1 b54 = 13 := by rw [eL79]; exact xt_k _ hc54 hk54
      have hc54 : b54 < (xt G L79).1 := by rw [eL79]; exact xt_l _ hc54
      have hk61 : (xt G L79).2.1 b61 = 9 := by rw [eL79]; exact xt_k _ hc61 hk61
      have hc61 : b61 < (xt G L79).1 := by rw [eL79]; exact xt_l _ hc61
      have hk62 : (xt G L79).2.1 b62 = 3 := by rw [eL79]; exact xt_k _ hc62 hk62
      have hc62 : b62 < (xt G L79).1 := by rw [eL79]; exact xt_l _ hc62
      have hk63 : (xt G L79).2.1 b63 = 13 := by rw [eL79]; exact xt_k _ hc63 hk63
      have hc63 : b63 < (xt G L79).1 := by rw [eL79]; exact xt_l _ hc63
      have hk65 : (xt G L79).2.1 b65 = 10 := by rw [eL79]; exact xt_k _ hc65 hk65
      have hc65 : b65 < (xt G L79).1 := by rw [eL79]; exact xt_l _ hc65
      have hk71 : (xt G L79).2.1 b71 = 9 := by rw [eL79]; exact xt_k _ hc71 hk71
      have hc71 : b71 < (xt G L79).1 := by rw [eL79]; exact xt_l _ hc71
      have hk72 : (xt G L79).2.1 b72 = 3 := by rw [eL79]; exact xt_k _ hc72 hk72
      have hc72 : b72 < (xt G L79).1 := by rw [eL79]; exact xt_l _ hc72
      have hk74 : (xt G L79).2.1 b74 = 13 := by rw [eL79]; exact xt_k _ hc74 hk74
      have hc74 : b74 < (xt G L79).1 := by rw [eL79]; exact xt_l _ hc74
      have hk76 : (xt G L79).2.1 b76 = 10 := by rw [eL79]; exact xt_k _ hc76 hk76
      have hc76 : b76 < (xt G L79).1 := by rw [eL79]; exact xt_l _ hc76
      have hag := agr_t (xt_ge _ _) hag hn81
      refine lv_aload_n hx hb dX0_writeWeights_180 rfl (lv_at hl 1 rfl) ?_
      refine lv_iconst (v := (0 : Int32)) hx hb dX0_writeWeights_181 (by decide) ?_
      obtain ⟨y82, hy82, hF⟩ := bnd_some hF
      obtain ⟨w83, hF, ew83⟩ := app_some hF
      obtain ⟨L84, eL84, hF⟩ := ltt_some hF
      have hT84 : L33 = (L79 ++ y82.1) ++ w83.1 := by rw [hT, ew83]; simp only [List.append_assoc]
      have hf9 := wA_in hD hA9 hS
      refine va_callv (va_runV (As := [.int (0 : Int32)]) (rest := []) ⟨hx, hb, hml, hown, hts⟩ (kX0_flag l D ct ad80 Z (xt G L79) y77.2 _ a ((0 : Int32)) y82 hc hk hy82) (cwV 1 hts gX0_writeWeights_X0_flag rfl rfl rfl (by decide +kernel) ⟨Nat.le_of_ble_eq_true rfl, Nat.le_of_ble_eq_true rfl⟩) ⟨fun a U g mk q => by obtain ⟨q0, q1, qP, qK, qD, qZ, qN⟩ := q; exact ⟨q0, q1, qP, va_K.moved (u := U) (U := U.calling g mk a) (Vm.Alike.refl U.vm) qK, qD, sF.moved (u := U) (U := U.calling g mk a) (Vm.Alike.refl U.vm) qZ, nF.same rfl qN⟩, va_recv hK hP (ci := 0) (q0 := a) rfl (wld_o ct ad80 (xt G L79) y77.2 hc hk (by decide)), fun U hU hW => ⟨rfl, by rw [hU], by rw [hU]; exact hP, va_K.moved hW.alike hK, hD.weaken (fun _ _ _ _ => trivial), by rw [hU]; exact ((hZ.kept hS.2.1).narrow hf9).moved hW.alike, hN.warm hW⟩⟩ rfl rfl hl.1 rfl (lv_room (Nat.le_of_ble_eq_true rfl)) dX0_writeWeights_182 (room_s hT84 hbl)) hS (fun q _ h => hf9 q h) hf9 (fun ad85 t H locs ht hvm hw hB hz1 hk1 hS => ?_)
      have hn86 := hw
      obtain ⟨hP, hK9, hD9⟩ := hB
      rw [ht] at hP
      have hD := hD9.weaken (fun _ q _ h => hf9 q.1 h)
      rw [xt_xt, ← eL84] at hP hD
      refine W_cs (k := L84.length) (n := wt L84) (by rw [eL84]; exact (len_s L79 y82.1).symm) (by rw [eL84]; exact (wt_app L79 y82.1).symm) ?_
      have hT : L33 = L84 ++ w83.1 := by rw [hT84, eL84]
      have h2 : z32.2 = w83.2 := by rw [h2, ew83]
      have hl := lv_sub (l' := [(1, .int s26.2.1), (0, .ref (ad80 a))]) hl [0, 1] rfl
      have e9 : ([(1, .int s26.2.1), (0, .ref (ad80 a))] : List (Nat × Value)) = [(1, .int s26.2.1), (0, .ref (ad85 a))] := (by first | rfl | simp only [hn86 a hc])
      rw [e9] at hl
      clear e9
      have hk : (xt G L84).2.1 a = 0 := by rw [eL84]; exact xt_k _ hc hk
      have hc : a < (xt G L84).1 := by rw [eL84]; exact xt_l _ hc
      have hk2 : (xt G L84).2.1 b2 = 9 := by rw [eL84]; exact xt_k _ hc2 hk2
      have hc2 : b2 < (xt G L84).1 := by rw [eL84]; exact xt_l _ hc2
      have hk3 : (xt G L84).2.1 b3 = 3 := by rw [eL84]; exact xt_k _ hc3 hk3
      have hc3 : b3 < (xt G L84).1 := by rw [eL84]; exact xt_l _ hc3
      have hk4 : (xt G L84).2.1 b4 = 13 := by rw [eL84]; exact xt_k _ hc4 hk4
      have hc4 : b4 < (xt G L84).1 := by rw [eL84]; exact xt_l _ hc4
      have hk6 : (xt G L84).2.1 b6 = 9 := by rw [eL84]; exact xt_k _ hc6 hk6
      have hc6 : b6 < (xt G L84).1 := by rw [eL84]; exact xt_l _ hc6
      have hk7 : (xt G L84).2.1 b7 = 3 := by rw [eL84]; exact xt_k _ hc7 hk7
      have hc7 : b7 < (xt G L84).1 := by rw [eL84]; exact xt_l _ hc7
      have hk8 : (xt G L84).2.1 b8 = 13 := by rw [eL84]; exact xt_k _ hc8 hk8
      have hc8 : b8 < (xt G L84).1 := by rw [eL84]; exact xt_l _ hc8
      have hk10 : (xt G L84).2.1 b10 = 9 := by rw [eL84]; exact xt_k _ hc10 hk10
      have hc10 : b10 < (xt G L84).1 := by rw [eL84]; exact xt_l _ hc10
      have hk11 : (xt G L84).2.1 b11 = 3 := by rw [eL84]; exact xt_k _ hc11 hk11
      have hc11 : b11 < (xt G L84).1 := by rw [eL84]; exact xt_l _ hc11
      have hk13 : (xt G L84).2.1 b13 = 10 := by rw [eL84]; exact xt_k _ hc13 hk13
      have hc13 : b13 < (xt G L84).1 := by rw [eL84]; exact xt_l _ hc13
      have hk19 : (xt G L84).2.1 b19 = 10 := by rw [eL84]; exact xt_k _ hc19 hk19
      have hc19 : b19 < (xt G L84).1 := by rw [eL84]; exact xt_l _ hc19
      have hk35 : (xt G L84).2.1 b35 = 9 := by rw [eL84]; exact xt_k _ hc35 hk35
      have hc35 : b35 < (xt G L84).1 := by rw [eL84]; exact xt_l _ hc35
      have hk36 : (xt G L84).2.1 b36 = 3 := by rw [eL84]; exact xt_k _ hc36 hk36
      have hc36 : b36 < (xt G L84).1 := by rw [eL84]; exact xt_l _ hc36
      have hk37 : (xt G L84).2.1 b37 = 13 := by rw [eL84]; exact xt_k _ hc37 hk37
      have hc37 : b37 < (xt G L84).1 := by rw [eL84]; exact xt_l _ hc37
      have hk42 : (xt G L84).2.1 b42 = 9 := by rw [eL84]; exact xt_k _ hc42 hk42
      have hc42 : b42 < (xt G L84).1 := by rw [eL84]; exact xt_l _ hc42
      have hk43 : (xt G L84).2.1 b43 = 3 := by rw [eL84]; exact xt_k _ hc43 hk43
      have hc43 : b43 < (xt G L84).1 := by rw [eL84]; exact xt_l _ hc43
      have hk47 : (xt G L84).2.1 b47 = 13 := by rw [eL84]; exact xt_k _ hc47 hk47
      have hc47 : b47 < (xt G L84).1 := by rw [eL84]; exact xt_l _ hc47
      have hk49 : (xt G L84).2.1 b49 = 9 := by rw [eL84]; exact xt_k _ hc49 hk49
      have hc49 : b49 < (xt G L84).1 := by rw [eL84]; exact xt_l _ hc49
      have hk50 : (xt G L84).2.1 b50 = 3 := by rw [eL84]; exact xt_k _ hc50 hk50
      have hc50 : b50 < (xt G L84).1 := by rw [eL84]; exact xt_l _ hc50
      have hk54 : (xt G L84).2.1 b54 = 13 := by rw [eL84]; exact xt_k _ hc54 hk54
      have hc54 : b54 < (xt G L84).1 := by rw [eL84]; exact xt_l _ hc54
      have hk61 : (xt G L84).2.1 b61 = 9 := by rw [eL84]; exact xt_k _ hc61 hk61
      have hc61 : b61 < (xt G L84).1 := by rw [eL84]; exact xt_l _ hc61
      have hk62 : (xt G L84).2.1 b62 = 3 := by rw [eL84]; exact xt_k _ hc62 hk62
      have hc62 : b62 < (xt G L84).1 := by rw [eL84]; exact xt_l _ hc62
      have hk63 : (xt G L84).2.1 b63 = 13 := by rw [eL84]; exact xt_k _ hc63 hk63
      have hc63 : b63 < (xt G L84).1 := by rw [eL84]; exact xt_l _ hc63
      have hk65 : (xt G L84).2.1 b65 = 10 := by rw [eL84]; exact xt_k _ hc65 hk65
      have hc65 : b65 < (xt G L84).1 := by rw [eL84]; exact xt_l _ hc65
      have hk71 : (xt G L84).2.1 b71 = 9 := by rw [eL84]; exact xt_k _ hc71 hk71
      have hc71 : b71 < (xt G L84).1 := by rw [eL84]; exact xt_l _ hc71
      have hk72 : (xt G L84).2.1 b72 = 3 := by rw [eL84]; exact xt_k _ hc72 hk72
      have hc72 : b72 < (xt G L84).1 := by rw [eL84]; exact xt_l _ hc72
      have hk74 : (xt G L84).2.1 b74 = 13 := by rw [eL84]; exact xt_k _ hc74 hk74
      have hc74 : b74 < (xt G L84).1 := by rw [eL84]; exact xt_l _ hc74
      have hk76 : (xt G L84).2.1 b76 = 10 := by rw [eL84]; exact xt_k _ hc76 hk76
      have hc76 : b76 < (xt G L84).1 := by rw [eL84]; exact xt_l _ hc76
      have hag := agr_t (xt_ge _ _) hag hn86
      obtain ⟨x87, ex87, hF⟩ := ltt_some hF
      refine lv_iinc (v := x87) (lv' := [(1, .int x87), (0, .ref (ad85 a))]) hx hb dX0_writeWeights_185 hl (k := 0) rfl (by rw [ex87]; rfl) (by decide) rfl (fun ls hl => ?_)
      refine lv_goto (tgt := 58) hx hb dX0_writeWeights_188 (by decide) ?_
      obtain rfl := Option.some.inj hF
      have e1 : L33 = L84 := by rw [hT]; exact List.append_nil _
      have e2 : z32.2 = .inl (L84, (x87, y82.2)) := h2
      rw [e2] at hwz32
      obtain ⟨r2, er2, hwz32⟩ := hwz32
      exact hwz32 ⟨u25 ++ z32.1, by show L84 = _; rw [← e1, eL33, eu25]; simp only [List.append_assoc]⟩ (by show L28 = L84 ++ r2; rw [eq25, er2, ← e1, eL33]; simp only [List.append_assoc]) _ hag _ _ _ hP hD hS (lv_sub hl [0, 1] rfl)
theorem ggX10_beginData_X10_fill : GoodIn wsX10_beginData wsX10_fill := goodIn_r _ [6, 7, 8, 9, 10, 5, 11, 12, 13, 14, 15, 16, 17, 18, 19, 20, 21, 22, 23, 24, 25, 26, 27, 28, 29, 30, 31, 32, 33, 34, 35, 46, 47, 48, 49, 50, 51, 52, 53, 54, 55, 56, 57, 58, 59, 60, 61, 62, 63, 64, 65] (by decide +kernel) (by decide +kernel)
set_option maxRecDepth 20000 in
theorem gX10_beginData_X10_fill : GoodIn wsX10_beginData (wsV RX10 54 RX10 yX10_fill wsX10_fill) := goodIn_app (goodIn_of _ (by decide +kernel)) ggX10_beginData_X10_fill
set_option maxRecDepth 20000 in
theorem ggX10_beginData_J7_fill_53178 : GoodIn wsX10_beginData wsJ7_fill_53178 := goodIn_r _ [38] (by decide +kernel) (by decide +kernel)
set_option maxRecDepth 20000 in
theorem gX10_beginData_J7_fill_53178 : GoodIn wsX10_beginData (va_wsS RX10 87 yJ7_fill_53178 wsJ7_fill_53178) := goodIn_app (goodIn_of _ (by decide +kernel)) ggX10_beginData_J7_fill_53178
set_option maxRecDepth 20000 in
theorem ggX10_beginData_X10_beginArith : GoodIn wsX10_beginData wsX10_beginArith := goodIn_r _ [42, 43, 44, 13, 12, 45, 46, 47, 48, 49, 50, 51, 52, 53, 54, 55, 56, 57, 58, 59, 60, 61, 62, 63, 64, 65] (by decide +kernel) (by decide +kernel)
set_option maxRecDepth 20000 in
theorem gX10_beginData_X10_beginArith : GoodIn wsX10_beginData (wsV RX10 90 RX10 yX10_beginArith wsX10_beginArith) := goodIn_app (goodIn_of _ (by decide +kernel)) ggX10_beginData_X10_beginArith
theorem dX10_beginData_0 : decode cX10_beginData 0 = .ok (.aload_n 0, 1) := by decide +kernel
theorem dX10_beginData_1 : decode cX10_beginData 1 = .ok (.iconst 1, 1) := by decide +kernel
theorem dX10_beginData_2 : decode cX10_beginData 2 = .ok (.invokevirtual 54, 3) := by decide +kernel
theorem dX10_beginData_5 : decode cX10_beginData 5 = .ok (.aload_n 0, 1) := by decide +kernel
theorem dX10_beginData_6 : decode cX10_beginData 6 = .ok (.getfield 20, 3) := by decide +kernel
theorem dX10_beginData_9 : decode cX10_beginData 9 = .ok (.iconst 0, 1) := by decide +kernel
theorem dX10_beginData_10 : decode cX10_beginData 10 = .ok (.invokestatic 87, 3) := by decide +kernel
theorem dX10_beginData_13 : decode cX10_beginData 13 = .ok (.aload_n 0, 1) := by decide +kernel
theorem dX10_beginData_14 : decode cX10_beginData 14 = .ok (.invokevirtual 90, 3) := by decide +kernel
theorem dX10_beginData_17 : decode cX10_beginData 17 = .ok (.return_, 1) := by decide +kernel
noncomputable def FX10_beginData (G : GG) (M : DD) (a : Nat)  : Option (NN × DD) :=
  bnd (FX10_fill (xt G []) M a ((1 : Int32))) fun y1 =>
  app y1.1 <|
  ltt ([] ++ y1.1) fun L3 =>
  bnd (FJ7_fill_53178 (xt G L3) y1.2 ((y1.2.2 a 13)) ((0 : Int32))) fun y6 =>
  bnd (FX10_beginArith (xt G L3) y6 a) fun y7 =>
  some ([], y7)
set_option maxHeartbeats 4000000 in
set_option maxRecDepth 100000 in
theorem kX10_beginData (l : Launch) (D : va_G) (ct : CT) (ad : Nat → Nat) (Z : Nat → Nat) (G : GG) (M : DD) (sz : Nat) (a : Nat)  (y : NN × DD) (hc : a < G.1) (hk : G.2.1 a = 10) (hF : FX10_beginData G M a  = some y) : Met l yX10_beginData wsX10_beginData ({ frames := 4, cells := y.1.length, slots := wt y.1, locals := 146 }) (va_Pc [.ref (ad a)] (kB D ct ad Z G M sz)) (va_Qv (fun (u : Nat → Nat) => agr G.1 ad u) (fun u t => kE D ct u (xt G y.1) (wA ad G sz) y.2 t) (wA ad G sz)) y.1.length (wt y.1) (wA ad G sz) := by
  refine Met.ofW (cc := cX10_beginData) (maxL := 1) (ret := none) (by decide) rfl ?_
  intro p e s m args below meth c s₁ B hml hv
  obtain ⟨rfl, hsz, hP, hK, hD0, hZ, hN⟩ := hv
  have hx := B.exec
  have hb := B.bytes
  have hr := B.returns
  have hts := atoms_spec (ws := wsX10_beginData) B.pre
  have hown : s.vm.findClass RX10 = some m.cls := findClass_of_methodNamed B.named
  have hlocks := B.notSynchronized
  subst hsz
  have hD := wD_self (sz := s.heap.size) hD0
  have hA9 : ∀ q, s.heap.size ≤ q → wA ad G s.heap.size q := fun q h => Or.inr h
  generalize hAe : wA ad G s.heap.size = A at hD hA9 hZ ⊢
  have hS : va_S A s.heap s.heap [] := va_S.rf
  have hl := lv_entry ([.ref (ad a)]) (n := 1) (Nat.le_of_ble_eq_true rfl)
  rw [lg_entry_eq]
  generalize (lg_sl ([.ref (ad a)]) ++ List.replicate (1 - (lg_sl ([.ref (ad a)])).length) Slot.unset).toArray = ls at hl ⊢
  have hl : lv_has ls 1 [(0, .ref (ad a))] := hl
  unfold FX10_beginData at hF
  rw [← wld_0 ct ad G M] at hP hD
  have hk := xt_k0 hc hk
  have hc := xt_l0 hc
  have hag := agr_rf G.1 ad
  obtain ⟨w0, hw0⟩ : ∃ z, z = y := ⟨_, rfl⟩
  rw [← hw0] at hF
  have hT : y.1 = [] ++ w0.1 := by rw [hw0]; rfl
  have h2 : y.2 = w0.2 := by rw [hw0]
  have hbl : y.1.length ≤ y.1.length ∧ wt y.1 ≤ wt y.1 := ⟨Nat.le_refl _, Nat.le_refl _⟩
  refine lv_aload_n hx hb dX10_beginData_0 rfl (lv_at hl 0 rfl) ?_
  refine lv_iconst (v := (1 : Int32)) hx hb dX10_beginData_1 (by decide) ?_
  obtain ⟨y1, hy1, hF⟩ := bnd_some hF
  obtain ⟨w2, hF, ew2⟩ := app_some hF
  obtain ⟨L3, eL3, hF⟩ := ltt_some hF
  have hT3 : y.1 = ([] ++ y1.1) ++ w2.1 := by rw [hT, ew2]; simp only [List.append_assoc]
  have hf9 := wA_in hD hA9 hS
  refine va_callv (va_runV (As := [.int (1 : Int32)]) (rest := []) ⟨hx, hb, hml, hown, hts⟩ (kX10_fill l D ct ad Z (xt G []) M _ a ((1 : Int32)) y1 hc hk hy1) (cwV 1 hts gX10_beginData_X10_fill rfl rfl rfl (by decide +kernel) ⟨Nat.le_of_ble_eq_true rfl, Nat.le_of_ble_eq_true rfl⟩) ⟨fun a U g mk q => by obtain ⟨q0, q1, qP, qK, qD, qZ, qN⟩ := q; exact ⟨q0, q1, qP, va_K.moved (u := U) (U := U.calling g mk a) (Vm.Alike.refl U.vm) qK, qD, sF.moved (u := U) (U := U.calling g mk a) (Vm.Alike.refl U.vm) qZ, nF.same rfl qN⟩, va_recv hK hP (ci := 10) (q0 := a) rfl (wld_o ct ad (xt G []) M hc hk (by decide)), fun U hU hW => ⟨rfl, by rw [hU], by rw [hU]; exact hP, va_K.moved hW.alike hK, hD.weaken (fun _ _ _ _ => trivial), by rw [hU]; exact ((hZ.kept hS.2.1).narrow hf9).moved hW.alike, hN.warm hW⟩⟩ rfl rfl hl.1 rfl (lv_room (Nat.le_of_ble_eq_true rfl)) dX10_beginData_2 (room_s hT3 hbl)) hS (fun q _ h => hf9 q h) hf9 (fun ad4 t H locs ht hvm hw hB hz1 hk1 hS => ?_)
  have hn5 := hw
  obtain ⟨hP, hK9, hD9⟩ := hB
  rw [ht] at hP
  have hD := hD9.weaken (fun _ q _ h => hf9 q.1 h)
  rw [xt_xt, ← eL3] at hP hD
  refine W_cs (k := L3.length) (n := wt L3) (by rw [eL3]; exact (len_s [] y1.1).symm) (by rw [eL3]; exact (wt_app [] y1.1).symm) ?_
  have hT : y.1 = L3 ++ w2.1 := by rw [hT3, eL3]
  have h2 : y.2 = w2.2 := by rw [h2, ew2]
  have hl := lv_sub (l' := [(0, .ref (ad a))]) hl [0] rfl
  have e9 : ([(0, .ref (ad a))] : List (Nat × Value)) = [(0, .ref (ad4 a))] := (by first | rfl | simp only [hn5 a hc])
  rw [e9] at hl
  clear e9
  have hk : (xt G L3).2.1 a = 10 := by rw [eL3]; exact xt_k _ hc hk
  have hc : a < (xt G L3).1 := by rw [eL3]; exact xt_l _ hc
  have hag := agr_t (xt_ge _ _) hag hn5
  refine lv_aload_n hx hb dX10_beginData_5 rfl (lv_at hl 0 rfl) ?_
  refine va_get (D := D) (ci := 10) (v := va_re ad4 (y1.2.2 a 13)) (C := RX10) (T := TX10) (N := 20) hx hb hts (by decide +kernel) hown hK hP a (wld_o ct ad4 (xt G L3) y1.2 hc hk (by decide)) rfl 13 (by decide) (hts (.fieldLink RX10 20 "VideoSuite$Writer" "state" "[I") (by decide +kernel)) (fun _ h9 => h9) rfl dX10_beginData_6 ?_
  refine lv_iconst (v := (0 : Int32)) hx hb dX10_beginData_9 (by decide) ?_
  obtain ⟨y6, hy6, hF⟩ := bnd_some hF
  have hf9 := wA_in hD hA9 hS
  refine va_callv (va_runS (As := [va_re ad4 (y1.2.2 a 13), .int (0 : Int32)]) (rest := []) ⟨hx, hb, hml, hown, hts⟩ (kJ7_fill_53178 l D ct ad4 Z (xt G L3) y1.2 H.size ((y1.2.2 a 13)) ((0 : Int32)) y6 hy6) (va_cwS 2 hts gX10_beginData_J7_fill_53178 rfl rfl rfl (by decide +kernel) ⟨Nat.le_of_ble_eq_true rfl, Nat.le_of_ble_eq_true rfl⟩) ⟨fun a U g mk q => by obtain ⟨q0, q1, qP, qK, qD, qZ, qN⟩ := q; exact ⟨q0, q1, qP, va_K.moved (u := U) (U := U.calling g mk a) (Vm.Alike.refl U.vm) qK, qD, sF.moved (u := U) (U := U.calling g mk a) (Vm.Alike.refl U.vm) qZ, nF.same rfl qN⟩, fun U hU hW => ⟨rfl, by rw [hU], by rw [hU]; exact hP, va_K.moved hW.alike hK, hD.weaken (fun _ _ _ _ => trivial), by rw [hU]; exact ((hZ.kept hS.2.1).narrow hf9).moved hW.alike, hN.warm hW⟩⟩ rfl rfl hl.1 rfl (lv_room (Nat.le_of_ble_eq_true rfl)) dX10_beginData_10 (room_d hT hbl)) hS (fun q _ h => hf9 q h) hf9 (fun u t H locs ht hvm hw hB hz1 hk1 hS => ?_)
  obtain ⟨hP, hK9, hD9⟩ := hB
  rw [ht] at hP
  refine W_cs (k := (L3 : NN).length) (n := wt L3) rfl rfl ?_
  have hD := hD9.weaken (fun _ q _ h => hf9 q.1 h)
  refine lv_aload_n hx hb dX10_beginData_13 rfl (lv_at hl 0 rfl) ?_
  obtain ⟨y7, hy7, hF⟩ := bnd_some hF
  have hf9 := wA_in hD hA9 hS
  refine va_callv (va_runV (As := []) (rest := []) ⟨hx, hb, hml, hown, hts⟩ (kX10_beginArith l D ct ad4 Z (xt G L3) y6 H.size a y7 hc hk hy7) (cwV 0 hts gX10_beginData_X10_beginArith rfl rfl rfl (by decide +kernel) ⟨Nat.le_of_ble_eq_true rfl, Nat.le_of_ble_eq_true rfl⟩) ⟨fun a U g mk q => by obtain ⟨q0, q1, qP, qK, qD, qZ, qN⟩ := q; exact ⟨q0, q1, qP, va_K.moved (u := U) (U := U.calling g mk a) (Vm.Alike.refl U.vm) qK, qD, sF.moved (u := U) (U := U.calling g mk a) (Vm.Alike.refl U.vm) qZ, nF.same rfl qN⟩, va_recv hK hP (ci := 10) (q0 := a) rfl (wld_o ct ad4 (xt G L3) y6 hc hk (by decide)), fun U hU hW => ⟨rfl, by rw [hU], by rw [hU]; exact hP, va_K.moved hW.alike hK, hD.weaken (fun _ _ _ _ => trivial), by rw [hU]; exact ((hZ.kept hS.2.1).narrow hf9).moved hW.alike, hN.warm hW⟩⟩ rfl rfl hl.1 rfl (lv_room (Nat.le_of_ble_eq_true rfl)) dX10_beginData_14 (room_d hT hbl)) hS (fun q _ h => hf9 q h) hf9 (fun u t H locs ht hvm hw hB hz1 hk1 hS => ?_)
  obtain ⟨hP, hK9, hD9⟩ := hB
  rw [ht] at hP
  refine W_cs (k := (L3 : NN).length) (n := wt L3) rfl rfl ?_
  have hD := hD9.weaken (fun _ q _ h => hf9 q.1 h)
  obtain rfl := Option.some.inj hF
  have e1 : y.1 = L3 := by rw [hT]; exact List.append_nil _
  have e2 : y.2 = y7 := h2
  refine W.widen (k := y.1.length) (n := wt y.1) (Nat.le_of_eq (by rw [e1])) (Nat.le_of_eq (by rw [e1])) ?_
  exact W.vret hx hb hr (fun t ht hW => ⟨⟨ad4, rfl, hag, (by unfold kE; rw [e1, e2]; exact ⟨by rw [ht]; exact hP, va_K.moved hW.alike hK, hD⟩)⟩, hS.F ht⟩) hS.2.2 dX10_beginData_17
