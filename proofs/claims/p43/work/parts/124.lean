set_option maxRecDepth 20000 in
theorem gX0_writePattern_X10_se : GoodIn wuX0_writePattern (wsV RX0 169 RX10 yX10_se wuX10_se) := gu_V mw_1181 mw_1182 mw_1183 mw_176 mw_1184
set_option maxRecDepth 20000 in
theorem gX0_writePattern_X0_isSkipped : GoodIn wuX0_writePattern (wsV RX0 563 RX0 yX0_isSkipped wuX0_isSkipped) := gu_V mw_2652 mw_2654 mw_148 mw_175 mw_2655
set_option maxRecDepth 20000 in
set_option maxRecDepth 20000 in
theorem gX0_writePattern_X10_ue : GoodIn wuX0_writePattern (wsV RX0 162 RX10 yX10_ue wuX10_ue) := gu_V mw_1169 mw_1170 mw_1171 mw_176 mw_1172
set_option maxRecDepth 20000 in
theorem dX0_writePattern_0 : decode cX0_writePattern 0 = .ok (.bipush 8, 2) := by decide +kernel
theorem dX0_writePattern_2 : decode cX0_writePattern 2 = .ok (.iload_n 1, 1) := by decide +kernel
theorem dX0_writePattern_3 : decode cX0_writePattern 3 = .ok (.imul, 1) := by decide +kernel
theorem dX0_writePattern_4 : decode cX0_writePattern 4 = .ok (.istore_n 3, 1) := by decide +kernel
theorem dX0_writePattern_5 : decode cX0_writePattern 5 = .ok (.aload_n 0, 1) := by decide +kernel
theorem dX0_writePattern_6 : decode cX0_writePattern 6 = .ok (.getfield 36, 3) := by decide +kernel
theorem dX0_writePattern_9 : decode cX0_writePattern 9 = .ok (.getfield 216, 3) := by decide +kernel
theorem dX0_writePattern_12 : decode cX0_writePattern 12 = .ok (.iload_n 3, 1) := by decide +kernel
theorem dX0_writePattern_13 : decode cX0_writePattern 13 = .ok (.iconst 0, 1) := by decide +kernel
theorem dX0_writePattern_14 : decode cX0_writePattern 14 = .ok (.iadd, 1) := by decide +kernel
theorem dX0_writePattern_15 : decode cX0_writePattern 15 = .ok (.iaload, 1) := by decide +kernel
theorem dX0_writePattern_16 : decode cX0_writePattern 16 = .ok (.istore 4, 2) := by decide +kernel
theorem dX0_writePattern_18 : decode cX0_writePattern 18 = .ok (.iload 4, 2) := by decide +kernel
theorem dX0_writePattern_20 : decode cX0_writePattern 20 = .ok (.iconst 2, 1) := by decide +kernel
theorem dX0_writePattern_21 : decode cX0_writePattern 21 = .ok (.if_icmp .ne 4, 3) := by decide +kernel
theorem dX0_writePattern_24 : decode cX0_writePattern 24 = .ok (.return_, 1) := by decide +kernel
theorem dX0_writePattern_25 : decode cX0_writePattern 25 = .ok (.aload_n 0, 1) := by decide +kernel
theorem dX0_writePattern_26 : decode cX0_writePattern 26 = .ok (.getfield 36, 3) := by decide +kernel
theorem dX0_writePattern_29 : decode cX0_writePattern 29 = .ok (.getfield 216, 3) := by decide +kernel
theorem dX0_writePattern_32 : decode cX0_writePattern 32 = .ok (.iload_n 3, 1) := by decide +kernel
theorem dX0_writePattern_33 : decode cX0_writePattern 33 = .ok (.iconst 3, 1) := by decide +kernel
theorem dX0_writePattern_34 : decode cX0_writePattern 34 = .ok (.iadd, 1) := by decide +kernel
theorem dX0_writePattern_35 : decode cX0_writePattern 35 = .ok (.iaload, 1) := by decide +kernel
theorem dX0_writePattern_36 : decode cX0_writePattern 36 = .ok (.bipush 16, 2) := by decide +kernel
theorem dX0_writePattern_38 : decode cX0_writePattern 38 = .ok (.aload_n 0, 1) := by decide +kernel
theorem dX0_writePattern_39 : decode cX0_writePattern 39 = .ok (.getfield 36, 3) := by decide +kernel
theorem dX0_writePattern_42 : decode cX0_writePattern 42 = .ok (.getfield 216, 3) := by decide +kernel
theorem dX0_writePattern_45 : decode cX0_writePattern 45 = .ok (.iload_n 3, 1) := by decide +kernel
theorem dX0_writePattern_46 : decode cX0_writePattern 46 = .ok (.iconst 4, 1) := by decide +kernel
theorem dX0_writePattern_47 : decode cX0_writePattern 47 = .ok (.iadd, 1) := by decide +kernel
theorem dX0_writePattern_48 : decode cX0_writePattern 48 = .ok (.iaload, 1) := by decide +kernel
theorem dX0_writePattern_49 : decode cX0_writePattern 49 = .ok (.imul, 1) := by decide +kernel
theorem dX0_writePattern_50 : decode cX0_writePattern 50 = .ok (.iadd, 1) := by decide +kernel
theorem dX0_writePattern_51 : decode cX0_writePattern 51 = .ok (.istore 5, 2) := by decide +kernel
theorem dX0_writePattern_53 : decode cX0_writePattern 53 = .ok (.iload 4, 2) := by decide +kernel
theorem dX0_writePattern_55 : decode cX0_writePattern 55 = .ok (.iconst 1, 1) := by decide +kernel
theorem dX0_writePattern_56 : decode cX0_writePattern 56 = .ok (.if_icmp .eq 65, 3) := by decide +kernel
theorem dX0_writePattern_59 : decode cX0_writePattern 59 = .ok (.aload_n 0, 1) := by decide +kernel
theorem dX0_writePattern_60 : decode cX0_writePattern 60 = .ok (.iload_n 1, 1) := by decide +kernel
theorem dX0_writePattern_61 : decode cX0_writePattern 61 = .ok (.invokevirtual 563, 3) := by decide +kernel
theorem dX0_writePattern_64 : decode cX0_writePattern 64 = .ok (.ifCond .ne 57, 3) := by decide +kernel
theorem dX0_writePattern_67 : decode cX0_writePattern 67 = .ok (.iload 4, 2) := by decide +kernel
theorem dX0_writePattern_69 : decode cX0_writePattern 69 = .ok (.ifCond .ne 7, 3) := by decide +kernel
theorem dX0_writePattern_72 : decode cX0_writePattern 72 = .ok (.iconst 0, 1) := by decide +kernel
theorem dX0_writePattern_73 : decode cX0_writePattern 73 = .ok (.goto 5, 3) := by decide +kernel
theorem dX0_writePattern_76 : decode cX0_writePattern 76 = .ok (.bipush 48, 2) := by decide +kernel
theorem dX0_writePattern_78 : decode cX0_writePattern 78 = .ok (.istore 6, 2) := by decide +kernel
theorem dX0_writePattern_80 : decode cX0_writePattern 80 = .ok (.iconst 0, 1) := by decide +kernel
theorem dX0_writePattern_81 : decode cX0_writePattern 81 = .ok (.istore 7, 2) := by decide +kernel
theorem dX0_writePattern_83 : decode cX0_writePattern 83 = .ok (.iload 7, 2) := by decide +kernel
theorem dX0_writePattern_85 : decode cX0_writePattern 85 = .ok (.bipush 48, 2) := by decide +kernel
theorem dX0_writePattern_87 : decode cX0_writePattern 87 = .ok (.if_icmp .ge 34, 3) := by decide +kernel
theorem dX0_writePattern_90 : decode cX0_writePattern 90 = .ok (.getstatic 578, 3) := by decide +kernel
theorem dX0_writePattern_93 : decode cX0_writePattern 93 = .ok (.iload 6, 2) := by decide +kernel
theorem dX0_writePattern_95 : decode cX0_writePattern 95 = .ok (.iload 7, 2) := by decide +kernel
theorem dX0_writePattern_97 : decode cX0_writePattern 97 = .ok (.iadd, 1) := by decide +kernel
theorem dX0_writePattern_98 : decode cX0_writePattern 98 = .ok (.iaload, 1) := by decide +kernel
theorem dX0_writePattern_99 : decode cX0_writePattern 99 = .ok (.iload 5, 2) := by decide +kernel
theorem dX0_writePattern_101 : decode cX0_writePattern 101 = .ok (.if_icmp .ne 14, 3) := by decide +kernel
theorem dX0_writePattern_104 : decode cX0_writePattern 104 = .ok (.aload_n 0, 1) := by decide +kernel
theorem dX0_writePattern_105 : decode cX0_writePattern 105 = .ok (.getfield 29, 3) := by decide +kernel
theorem dX0_writePattern_108 : decode cX0_writePattern 108 = .ok (.bipush 9, 2) := by decide +kernel
theorem dX0_writePattern_110 : decode cX0_writePattern 110 = .ok (.iload 7, 2) := by decide +kernel
theorem dX0_writePattern_112 : decode cX0_writePattern 112 = .ok (.invokevirtual 162, 3) := by decide +kernel
theorem dX0_writePattern_115 : decode cX0_writePattern 115 = .ok (.iinc 7 1, 3) := by decide +kernel
theorem dX0_writePattern_118 : decode cX0_writePattern 118 = .ok (.goto (-35), 3) := by decide +kernel
theorem dX0_writePattern_121 : decode cX0_writePattern 121 = .ok (.iload 4, 2) := by decide +kernel
theorem dX0_writePattern_123 : decode cX0_writePattern 123 = .ok (.iconst 1, 1) := by decide +kernel
theorem dX0_writePattern_124 : decode cX0_writePattern 124 = .ok (.if_icmp .eq 8, 3) := by decide +kernel
theorem dX0_writePattern_127 : decode cX0_writePattern 127 = .ok (.iload 5, 2) := by decide +kernel
theorem dX0_writePattern_129 : decode cX0_writePattern 129 = .ok (.ifCond .le 23, 3) := by decide +kernel
theorem dX0_writePattern_132 : decode cX0_writePattern 132 = .ok (.aload_n 0, 1) := by decide +kernel
theorem dX0_writePattern_133 : decode cX0_writePattern 133 = .ok (.getfield 29, 3) := by decide +kernel
theorem dX0_writePattern_136 : decode cX0_writePattern 136 = .ok (.bipush 10, 2) := by decide +kernel
theorem dX0_writePattern_138 : decode cX0_writePattern 138 = .ok (.iload_n 2, 1) := by decide +kernel
theorem dX0_writePattern_139 : decode cX0_writePattern 139 = .ok (.aload_n 0, 1) := by decide +kernel
theorem dX0_writePattern_140 : decode cX0_writePattern 140 = .ok (.getfield 299, 3) := by decide +kernel
theorem dX0_writePattern_143 : decode cX0_writePattern 143 = .ok (.isub, 1) := by decide +kernel
theorem dX0_writePattern_144 : decode cX0_writePattern 144 = .ok (.invokevirtual 169, 3) := by decide +kernel
theorem dX0_writePattern_147 : decode cX0_writePattern 147 = .ok (.aload_n 0, 1) := by decide +kernel
theorem dX0_writePattern_148 : decode cX0_writePattern 148 = .ok (.iload_n 2, 1) := by decide +kernel
theorem dX0_writePattern_149 : decode cX0_writePattern 149 = .ok (.putfield 299, 3) := by decide +kernel
theorem dX0_writePattern_152 : decode cX0_writePattern 152 = .ok (.aload_n 0, 1) := by decide +kernel
theorem dX0_writePattern_153 : decode cX0_writePattern 153 = .ok (.getfield 36, 3) := by decide +kernel
theorem dX0_writePattern_156 : decode cX0_writePattern 156 = .ok (.getfield 216, 3) := by decide +kernel
theorem dX0_writePattern_159 : decode cX0_writePattern 159 = .ok (.iload_n 3, 1) := by decide +kernel
theorem dX0_writePattern_160 : decode cX0_writePattern 160 = .ok (.iconst 2, 1) := by decide +kernel
theorem dX0_writePattern_161 : decode cX0_writePattern 161 = .ok (.iadd, 1) := by decide +kernel
theorem dX0_writePattern_162 : decode cX0_writePattern 162 = .ok (.aload_n 0, 1) := by decide +kernel
theorem dX0_writePattern_163 : decode cX0_writePattern 163 = .ok (.getfield 299, 3) := by decide +kernel
theorem dX0_writePattern_166 : decode cX0_writePattern 166 = .ok (.iastore, 1) := by decide +kernel
theorem dX0_writePattern_167 : decode cX0_writePattern 167 = .ok (.return_, 1) := by decide +kernel
noncomputable def FX0_writePattern (G : GG) (M : DD) (a : Nat) (p0 : Int32) (p1 : Int32) : Option (NN × DD) :=
  ltt ((((8 : Int32)) * p0)) fun x1 =>
  dr (xt G []) 9 ((M.2 a 3)) fun b2 =>
  ltt ((x1 + ((0 : Int32)))) fun x3 =>
  dr (xt G []) 13 ((M.2 b2 6)) fun b4 =>
  chk (¬ (x3 < 0 ∨ (xt G []).2.2 b4 ≤ x3.toNatClampNeg)) <|
  ltt (M.1 b4 x3.toNatClampNeg) fun x5 =>
  if x5 = ((2 : Int32)) then (some ([], M)) else
  (ltt ((x1 + ((3 : Int32)))) fun x7 =>
  chk (¬ (x7 < 0 ∨ (xt G []).2.2 b4 ≤ x7.toNatClampNeg)) <|
  ltt (M.1 b4 x7.toNatClampNeg) fun x8 =>
  ltt ((x1 + ((4 : Int32)))) fun x9 =>
  chk (¬ (x9 < 0 ∨ (xt G []).2.2 b4 ≤ x9.toNatClampNeg)) <|
  ltt (M.1 b4 x9.toNatClampNeg) fun x10 =>
  ltt ((((16 : Int32)) * x10)) fun x11 =>
  ltt ((x8 + x11)) fun x12 =>
  bnd (if x5 = ((1 : Int32)) then (some ([], M)) else
  (bnd (FX0_isSkipped (xt G []) M a p0) fun y54 =>
  bnd (if y54.2 = ((0 : Int32)) then (bnd (if x5 = ((0 : Int32)) then (some ((0 : Int32))) else
  (some ((48 : Int32)))) fun (y61 : Int32) =>
  bnd (itrA (fun (s63 : NN × Int32 × DD) => ((if ((48 : Int32)) ≤ s63.2.1 then (some ([], .inr ((s63.2.1, s63.2.2)))) else
  (ltt ((y61 + s63.2.1)) fun x73 =>
  chk (¬ (x73 < 0 ∨ 96 ≤ x73.toNatClampNeg)) <|
  ltt ((sT 9).getD x73.toNatClampNeg 0) fun x74 =>
  bnd (if x74 = x12 then (dr (xt G s63.1) 10 ((s63.2.2.2 a 2)) fun b82 =>
  bnd (FX10_ue (xt G s63.1) s63.2.2 b82 ((9 : Int32)) s63.2.1) fun y83 =>
  app y83.1 <|
  ltt (s63.1 ++ y83.1) fun L85 =>
  some ([], y83.2)) else
  (some ([], s63.2.2))) fun (y75 : NN × DD) =>
  app y75.1 <|
  ltt (s63.1 ++ y75.1) fun L77 =>
  ltt (s63.2.1 + (1 : Int32)) fun x79 =>
  some ([], .inl (L77, (x79, y75.2))))) : Option (NN × ((NN × Int32 × DD) ⊕ (Int32 × DD))))) 1000000 ([], ((0 : Int32), y54.1))) fun (y62 : NN × Int32 × DD) =>
  app y62.1 <|
  ltt ([] ++ y62.1) fun L65 =>
  some ([], y62.2.2)) else
  (some ([], y54.1))) fun (y55 : NN × DD) =>
  app y55.1 <|
  ltt ([] ++ y55.1) fun L57 =>
  some ([], y55.2))) fun (y13 : NN × DD) =>
  app y13.1 <|
  ltt ([] ++ y13.1) fun L15 =>
  bnd (if x5 = ((1 : Int32)) then (ltt (y13.2.1 a 19) fun x28 =>
  ltt ((p1 - x28)) fun x29 =>
  dr (xt G L15) 10 ((y13.2.2 a 2)) fun b30 =>
  bnd (FX10_se (xt G L15) y13.2 b30 ((10 : Int32)) x29) fun y31 =>
  app y31.1 <|
  ltt (L15 ++ y31.1) fun L33 =>
  ltt (uI y31.2 a 19 p1) fun M36 =>
  some ([], M36)) else
  (bnd (if x12 ≤ ((0 : Int32)) then (some ([], y13.2)) else
  (ltt (y13.2.1 a 19) fun x43 =>
  ltt ((p1 - x43)) fun x44 =>
  dr (xt G L15) 10 ((y13.2.2 a 2)) fun b45 =>
  bnd (FX10_se (xt G L15) y13.2 b45 ((10 : Int32)) x44) fun y46 =>
  app y46.1 <|
  ltt (L15 ++ y46.1) fun L48 =>
  ltt (uI y46.2 a 19 p1) fun M51 =>
  some ([], M51))) fun (y37 : NN × DD) =>
  app y37.1 <|
  ltt (L15 ++ y37.1) fun L39 =>
  some ([], y37.2))) fun (y17 : NN × DD) =>
  app y17.1 <|
  ltt (L15 ++ y17.1) fun L19 =>
  dr (xt G L19) 9 ((y17.2.2 a 3)) fun b21 =>
  ltt ((x1 + ((2 : Int32)))) fun x22 =>
  ltt (y17.2.1 a 19) fun x23 =>
  dr (xt G L19) 13 ((y17.2.2 b21 6)) fun b24 =>
  chk (¬ (x22 < 0 ∨ (xt G L19).2.2 b24 ≤ x22.toNatClampNeg)) <|
  ltt (uI y17.2 b24 x22.toNatClampNeg x23) fun M25 =>
  some ([], M25))
set_option maxHeartbeats 4000000 in
set_option maxRecDepth 100000 in
theorem kX0_writePattern (l : Launch) (D : va_G) (ct : CT) (ad : Nat → Nat) (Z : Nat → Nat) (G : GG) (M : DD) (sz : Nat) (a : Nat) (p0 : Int32) (p1 : Int32) (y : NN × DD) (hc : a < G.1) (hk : G.2.1 a = 0) (hF : FX0_writePattern G M a p0 p1 = some y) : Met l yX0_writePattern wuX0_writePattern ({ frames := 6, cells := y.1.length, slots := wt y.1, locals := 198 }) (va_Pc [.ref (ad a), .int p0, .int p1] (kB D ct ad Z G M sz)) (va_Qv (fun (u : Nat → Nat) => agr G.1 ad u) (fun u t => kE D ct u (xt G y.1) (wA ad G sz) y.2 t) (wA ad G sz)) y.1.length (wt y.1) (wA ad G sz) := by
  refine Met.ofW (cc := cX0_writePattern) (maxL := 8) (ret := none) (by decide) rfl ?_
  intro p e s m args below meth c s₁ B hml hv
  obtain ⟨rfl, hsz, hP, hK, hD0, hZ, hN⟩ := hv
  have hx := B.exec
  have hb := B.bytes
  have hr := B.returns
  have hts := atoms_spec (ws := wuX0_writePattern) B.pre
  have hown : s.vm.findClass RX0 = some m.cls := findClass_of_methodNamed B.named
  have hlocks := B.notSynchronized
  subst hsz
  have hD := wD_self (sz := s.heap.size) hD0
  have hA9 : ∀ q, s.heap.size ≤ q → wA ad G s.heap.size q := fun q h => Or.inr h
  generalize hAe : wA ad G s.heap.size = A at hD hA9 hZ ⊢
  have hS : va_S A s.heap s.heap [] := va_S.rf
  have hl := lv_entry ([.ref (ad a), .int p0, .int p1]) (n := 8) (Nat.le_of_ble_eq_true rfl)
  rw [lg_entry_eq]
  generalize (lg_sl ([.ref (ad a), .int p0, .int p1]) ++ List.replicate (8 - (lg_sl ([.ref (ad a), .int p0, .int p1])).length) Slot.unset).toArray = ls at hl ⊢
  have hl : lv_has ls 8 [(0, .ref (ad a)), (1, .int p0), (2, .int p1)] := hl
  unfold FX0_writePattern at hF
  rw [← wld_0 ct ad G M] at hP hD
  have hk := xt_k0 hc hk
  have hc := xt_l0 hc
  have hag := agr_rf G.1 ad
  obtain ⟨w0, hw0⟩ : ∃ z, z = y := ⟨_, rfl⟩
  rw [← hw0] at hF
  have hT : y.1 = [] ++ w0.1 := by rw [hw0]; rfl
  have h2 : y.2 = w0.2 := by rw [hw0]
  have hbl : y.1.length ≤ y.1.length ∧ wt y.1 ≤ wt y.1 := ⟨Nat.le_refl _, Nat.le_refl _⟩
  refine lv_bipush (v := (8 : Int32)) hx hb dX0_writePattern_0 (by decide) ?_
  refine lv_iload_n hx hb dX0_writePattern_2 rfl (lv_at hl 1 rfl) ?_
  refine lv_imul hx hb dX0_writePattern_3 ?_
  obtain ⟨x1, ex1, hF⟩ := ltt_some hF
  refine lv_topi (fun zx1 ezx1 => ?_)
  obtain rfl : x1 = zx1 := ex1.trans ezx1.symm
  refine lv_istore_n (lv' := [(3, .int x1), (0, .ref (ad a)), (1, .int p0), (2, .int p1)]) hx hb dX0_writePattern_4 rfl hl (by decide) rfl (fun ls hl => ?_)
  refine lv_aload_n hx hb dX0_writePattern_5 rfl (lv_at hl 1 rfl) ?_
  refine va_get (D := D) (ci := 0) (v := va_re ad (M.2 a 3)) (C := RX0) (T := TX0) (N := 21) hx hb hts (mus hf_X0) hown hK hP a (wld_o ct ad (xt G []) M hc hk (by decide)) rfl 3 (by decide) (hts (.fieldLink RX0 36 "VideoSuite$Coder" "work" "LVideoSuite$Work;") (mu mw_817)) (fun _ h9 => h9) rfl dX0_writePattern_6 ?_
  obtain ⟨b2, ho2, hc2, hk2, hF⟩ := dr_some hF
  refine W_st (st' := [.ref (ad b2)]) (by rw [va_some ho2]) ?_
  refine va_get (D := D) (ci := 9) (v := va_re ad (M.2 b2 6)) (C := RX9) (T := TX9) (N := 20) hx hb hts (mus hf_X9) hown hK hP b2 (wld_o ct ad (xt G []) M hc2 hk2 (by decide)) rfl 6 (by decide) (hts (.fieldLink RX0 216 "VideoSuite$Work" "info" "[I") (mu mw_445)) (fun _ h9 => h9) rfl dX0_writePattern_9 ?_
  refine lv_iload_n hx hb dX0_writePattern_12 rfl (lv_at hl 0 rfl) ?_
  refine lv_iconst (v := (0 : Int32)) hx hb dX0_writePattern_13 (by decide) ?_
  refine lv_iadd hx hb dX0_writePattern_14 ?_
  obtain ⟨x3, ex3, hF⟩ := ltt_some hF
  refine lv_topi (fun zx3 ezx3 => ?_)
  obtain rfl : x3 = zx3 := ex3.trans ezx3.symm
  obtain ⟨b4, ho4, hc4, hk4, hF⟩ := dr_some hF
  refine W_st (st' := [.int x3, .ref (ad b4)]) (by rw [va_some ho4]) ?_
  obtain ⟨hvc, hF⟩ := chk_some hF
  refine va_iald hx hb hK hP b4 1 (wld_i ct ad (xt G []) M hc4 hk4) rfl hvc dX0_writePattern_15 ?_
  obtain ⟨x5, ex5, hF⟩ := ltt_some hF
  refine lv_topi (fun zx5 ezx5 => ?_)
  obtain rfl : x5 = zx5 := ex5.trans ezx5.symm
  refine lv_istore (lv' := [(4, .int x5), (3, .int x1), (0, .ref (ad a)), (1, .int p0), (2, .int p1)]) hx hb dX0_writePattern_16 hl (by decide) rfl (fun ls hl => ?_)
  refine lv_iload hx hb dX0_writePattern_18 (lv_at hl 0 rfl) ?_
  refine lv_iconst (v := (2 : Int32)) hx hb dX0_writePattern_20 (by decide) ?_
  refine lv_icmp_ne (tgt := 25) hx hb dX0_writePattern_21 (by decide) (fun c6 => ?_) (fun c6 => ?_)
  · rw [if_neg c6] at hF
    refine lv_aload_n hx hb dX0_writePattern_25 rfl (lv_at hl 2 rfl) ?_
    refine va_get (D := D) (ci := 0) (v := va_re ad (M.2 a 3)) (C := RX0) (T := TX0) (N := 21) hx hb hts (mus hf_X0) hown hK hP a (wld_o ct ad (xt G []) M hc hk (by decide)) rfl 3 (by decide) (hts (.fieldLink RX0 36 "VideoSuite$Coder" "work" "LVideoSuite$Work;") (mu mw_817)) (fun _ h9 => h9) rfl dX0_writePattern_26 ?_
    refine W_st (st' := [.ref (ad b2)]) (by rw [va_some ho2]) ?_
    refine va_get (D := D) (ci := 9) (v := va_re ad (M.2 b2 6)) (C := RX9) (T := TX9) (N := 20) hx hb hts (mus hf_X9) hown hK hP b2 (wld_o ct ad (xt G []) M hc2 hk2 (by decide)) rfl 6 (by decide) (hts (.fieldLink RX0 216 "VideoSuite$Work" "info" "[I") (mu mw_445)) (fun _ h9 => h9) rfl dX0_writePattern_29 ?_
    refine lv_iload_n hx hb dX0_writePattern_32 rfl (lv_at hl 1 rfl) ?_
    refine lv_iconst (v := (3 : Int32)) hx hb dX0_writePattern_33 (by decide) ?_
    refine lv_iadd hx hb dX0_writePattern_34 ?_
    obtain ⟨x7, ex7, hF⟩ := ltt_some hF
    refine lv_topi (fun zx7 ezx7 => ?_)
    obtain rfl : x7 = zx7 := ex7.trans ezx7.symm
    refine W_st (st' := [.int x7, .ref (ad b4)]) (by rw [va_some ho4]) ?_
    obtain ⟨hvc, hF⟩ := chk_some hF
    refine va_iald hx hb hK hP b4 1 (wld_i ct ad (xt G []) M hc4 hk4) rfl hvc dX0_writePattern_35 ?_
    obtain ⟨x8, ex8, hF⟩ := ltt_some hF
    refine lv_topi (fun zx8 ezx8 => ?_)
    obtain rfl : x8 = zx8 := ex8.trans ezx8.symm
    refine lv_bipush (v := (16 : Int32)) hx hb dX0_writePattern_36 (by decide) ?_
    refine lv_aload_n hx hb dX0_writePattern_38 rfl (lv_at hl 2 rfl) ?_
    refine va_get (D := D) (ci := 0) (v := va_re ad (M.2 a 3)) (C := RX0) (T := TX0) (N := 21) hx hb hts (mus hf_X0) hown hK hP a (wld_o ct ad (xt G []) M hc hk (by decide)) rfl 3 (by decide) (hts (.fieldLink RX0 36 "VideoSuite$Coder" "work" "LVideoSuite$Work;") (mu mw_817)) (fun _ h9 => h9) rfl dX0_writePattern_39 ?_
    refine W_st (st' := [.ref (ad b2), .int (16 : Int32), .int x8]) (by rw [va_some ho2]) ?_
    refine va_get (D := D) (ci := 9) (v := va_re ad (M.2 b2 6)) (C := RX9) (T := TX9) (N := 20) hx hb hts (mus hf_X9) hown hK hP b2 (wld_o ct ad (xt G []) M hc2 hk2 (by decide)) rfl 6 (by decide) (hts (.fieldLink RX0 216 "VideoSuite$Work" "info" "[I") (mu mw_445)) (fun _ h9 => h9) rfl dX0_writePattern_42 ?_
    refine lv_iload_n hx hb dX0_writePattern_45 rfl (lv_at hl 1 rfl) ?_
    refine lv_iconst (v := (4 : Int32)) hx hb dX0_writePattern_46 (by decide) ?_
    refine lv_iadd hx hb dX0_writePattern_47 ?_
    obtain ⟨x9, ex9, hF⟩ := ltt_some hF
    refine lv_topi (fun zx9 ezx9 => ?_)
    obtain rfl : x9 = zx9 := ex9.trans ezx9.symm
    refine W_st (st' := [.int x9, .ref (ad b4), .int (16 : Int32), .int x8]) (by rw [va_some ho4]) ?_
    obtain ⟨hvc, hF⟩ := chk_some hF
    refine va_iald hx hb hK hP b4 1 (wld_i ct ad (xt G []) M hc4 hk4) rfl hvc dX0_writePattern_48 ?_
    obtain ⟨x10, ex10, hF⟩ := ltt_some hF
    refine lv_topi (fun zx10 ezx10 => ?_)
    obtain rfl : x10 = zx10 := ex10.trans ezx10.symm
    refine lv_imul hx hb dX0_writePattern_49 ?_
    obtain ⟨x11, ex11, hF⟩ := ltt_some hF
    refine lv_topi (fun zx11 ezx11 => ?_)
    obtain rfl : x11 = zx11 := ex11.trans ezx11.symm
    refine lv_iadd hx hb dX0_writePattern_50 ?_
    obtain ⟨x12, ex12, hF⟩ := ltt_some hF
    refine lv_topi (fun zx12 ezx12 => ?_)
    obtain rfl : x12 = zx12 := ex12.trans ezx12.symm
    refine lv_istore (lv' := [(5, .int x12), (4, .int x5), (3, .int x1), (0, .ref (ad a)), (1, .int p0), (2, .int p1)]) hx hb dX0_writePattern_51 hl (by decide) rfl (fun ls hl => ?_)
    refine lv_iload hx hb dX0_writePattern_53 (lv_at hl 1 rfl) ?_
    refine lv_iconst (v := (1 : Int32)) hx hb dX0_writePattern_55 (by decide) ?_
    obtain ⟨y13, hy13, hF⟩ := bnd_some hF
    obtain ⟨w14, hF, ew14⟩ := app_some hF
    obtain ⟨L15, eL15, hF⟩ := ltt_some hF
    have hT15 : y.1 = ([] ++ y13.1) ++ w14.1 := by rw [hT, ew14]; simp only [List.append_assoc]
    have hbl15 : L15.length ≤ y.1.length ∧ wt L15 ≤ wt y.1 := by rw [eL15]; exact room_d hT15 hbl
    have J13 : ∀ (ad16 : Nat → Nat), agr G.1 ad ad16 → ∀ (H : Heap) (locs : List Loc) (ls : Array Slot), va_P D classes (wld ct ad16 (xt G L15) y13.2) H → va_D A (wld ct ad16 (xt G L15) y13.2) → va_S A s.heap H locs → lv_has ls 8 [(5, .int x12), (4, .int x5), (3, .int x1), (0, .ref (ad16 a)), (2, .int p1)] → W p l e (headSpec wuX0_writePattern ({ frames := 6, cells := y.1.length, slots := wt y.1, locals := 198 })).room s m ([.ref (ad a), .int p0, .int p1] : List Value).toArray below meth c H locs (L15 : NN).length (wt L15) (MQ below (va_Qv (fun (u : Nat → Nat) => agr G.1 ad u) (fun u t => kE D ct u (xt G y.1) A y.2 t) A) ([.ref (ad a), .int p0, .int p1] : List Value).toArray s y.1.length (wt y.1) A) (F0 m 121 ls []) := by
      intro ad16 hag H locs ls hP hD hS hl
      have hT : y.1 = L15 ++ w14.1 := by rw [hT15, eL15]
      have h2 : y.2 = w14.2 := by rw [h2, ew14]
      have hk : (xt G L15).2.1 a = 0 := by rw [eL15]; exact xt_k _ hc hk
      have hc : a < (xt G L15).1 := by rw [eL15]; exact xt_l _ hc
      have hk2 : (xt G L15).2.1 b2 = 9 := by rw [eL15]; exact xt_k _ hc2 hk2
      have hc2 : b2 < (xt G L15).1 := by rw [eL15]; exact xt_l _ hc2
      have hk4 : (xt G L15).2.1 b4 = 13 := by rw [eL15]; exact xt_k _ hc4 hk4
      have hc4 : b4 < (xt G L15).1 := by rw [eL15]; exact xt_l _ hc4
      refine lv_iload hx hb dX0_writePattern_121 (lv_at hl 1 rfl) ?_
      refine lv_iconst (v := (1 : Int32)) hx hb dX0_writePattern_123 (by decide) ?_
      obtain ⟨y17, hy17, hF⟩ := bnd_some hF
      obtain ⟨w18, hF, ew18⟩ := app_some hF
      obtain ⟨L19, eL19, hF⟩ := ltt_some hF
      have hT19 : y.1 = (L15 ++ y17.1) ++ w18.1 := by rw [hT, ew18]; simp only [List.append_assoc]
      have hbl19 : L19.length ≤ y.1.length ∧ wt L19 ≤ wt y.1 := by rw [eL19]; exact room_d hT19 hbl
      have J17 : ∀ (ad20 : Nat → Nat), agr G.1 ad ad20 → ∀ (H : Heap) (locs : List Loc) (ls : Array Slot), va_P D classes (wld ct ad20 (xt G L19) y17.2) H → va_D A (wld ct ad20 (xt G L19) y17.2) → va_S A s.heap H locs → lv_has ls 8 [(3, .int x1), (0, .ref (ad20 a))] → W p l e (headSpec wuX0_writePattern ({ frames := 6, cells := y.1.length, slots := wt y.1, locals := 198 })).room s m ([.ref (ad a), .int p0, .int p1] : List Value).toArray below meth c H locs (L19 : NN).length (wt L19) (MQ below (va_Qv (fun (u : Nat → Nat) => agr G.1 ad u) (fun u t => kE D ct u (xt G y.1) A y.2 t) A) ([.ref (ad a), .int p0, .int p1] : List Value).toArray s y.1.length (wt y.1) A) (F0 m 152 ls []) := by
        intro ad20 hag H locs ls hP hD hS hl
        have hT : y.1 = L19 ++ w18.1 := by rw [hT19, eL19]
        have h2 : y.2 = w18.2 := by rw [h2, ew18]
        have hk : (xt G L19).2.1 a = 0 := by rw [eL19]; exact xt_k _ hc hk
        have hc : a < (xt G L19).1 := by rw [eL19]; exact xt_l _ hc
        have hk2 : (xt G L19).2.1 b2 = 9 := by rw [eL19]; exact xt_k _ hc2 hk2
        have hc2 : b2 < (xt G L19).1 := by rw [eL19]; exact xt_l _ hc2
        have hk4 : (xt G L19).2.1 b4 = 13 := by rw [eL19]; exact xt_k _ hc4 hk4
        have hc4 : b4 < (xt G L19).1 := by rw [eL19]; exact xt_l _ hc4
        refine lv_aload_n hx hb dX0_writePattern_152 rfl (lv_at hl 1 rfl) ?_
        refine va_get (D := D) (ci := 0) (v := va_re ad20 (y17.2.2 a 3)) (C := RX0) (T := TX0) (N := 21) hx hb hts (mus hf_X0) hown hK hP a (wld_o ct ad20 (xt G L19) y17.2 hc hk (by decide)) rfl 3 (by decide) (hts (.fieldLink RX0 36 "VideoSuite$Coder" "work" "LVideoSuite$Work;") (mu mw_817)) (fun _ h9 => h9) rfl dX0_writePattern_153 ?_
        obtain ⟨b21, ho21, hc21, hk21, hF⟩ := dr_some hF
        refine W_st (st' := [.ref (ad20 b21)]) (by rw [va_some ho21]) ?_
        refine va_get (D := D) (ci := 9) (v := va_re ad20 (y17.2.2 b21 6)) (C := RX9) (T := TX9) (N := 20) hx hb hts (mus hf_X9) hown hK hP b21 (wld_o ct ad20 (xt G L19) y17.2 hc21 hk21 (by decide)) rfl 6 (by decide) (hts (.fieldLink RX0 216 "VideoSuite$Work" "info" "[I") (mu mw_445)) (fun _ h9 => h9) rfl dX0_writePattern_156 ?_
        refine lv_iload_n hx hb dX0_writePattern_159 rfl (lv_at hl 0 rfl) ?_
        refine lv_iconst (v := (2 : Int32)) hx hb dX0_writePattern_160 (by decide) ?_
        refine lv_iadd hx hb dX0_writePattern_161 ?_
        obtain ⟨x22, ex22, hF⟩ := ltt_some hF
        refine lv_topi (fun zx22 ezx22 => ?_)
        obtain rfl : x22 = zx22 := ex22.trans ezx22.symm
        refine lv_aload_n hx hb dX0_writePattern_162 rfl (lv_at hl 1 rfl) ?_
        refine va_get (D := D) (ci := 0) (v := .int (y17.2.1 a 19)) (C := RX0) (T := TX0) (N := 21) hx hb hts (mus hf_X0) hown hK hP a (wld_o ct ad20 (xt G L19) y17.2 hc hk (by decide)) rfl 19 (by decide) (hts (.fieldLink RX0 299 "VideoSuite$Coder" "step" "I") (mu mw_837)) (fun _ h9 => h9) rfl dX0_writePattern_163 ?_
        obtain ⟨x23, ex23, hF⟩ := ltt_some hF
        refine lv_topi (fun zx23 ezx23 => ?_)
        obtain rfl : x23 = zx23 := ex23.trans ezx23.symm
        obtain ⟨b24, ho24, hc24, hk24, hF⟩ := dr_some hF
        refine W_st (st' := [.int x23, .int x22, .ref (ad20 b24)]) (by rw [va_some ho24]) ?_
        obtain ⟨hvc, hF⟩ := chk_some hF
        refine va_iast hx hb hK hP hD hS b24 1 (wld_i ct ad20 (xt G L19) y17.2 hc24 hk24) rfl hvc dX0_writePattern_166 (fun H locs hP hD hS => ?_)
        obtain ⟨M25, eM25, hF⟩ := ltt_some hF
        rw [set_i ct ad20 (xt G L19) y17.2 hc24 hk24, ← eM25] at hP hD
        obtain rfl := Option.some.inj hF
        have e1 : y.1 = L19 := by rw [hT]; exact List.append_nil _
        have e2 : y.2 = M25 := h2
        refine W.widen (k := y.1.length) (n := wt y.1) (Nat.le_of_eq (by rw [e1])) (Nat.le_of_eq (by rw [e1])) ?_
        exact W.vret hx hb hr (fun t ht hW => ⟨⟨ad20, rfl, hag, (by unfold kE; rw [e1, e2]; exact ⟨by rw [ht]; exact hP, va_K.moved hW.alike hK, hD⟩)⟩, hS.F ht⟩) hS.2.2 dX0_writePattern_167
      clear hF
      obtain ⟨w26, hw26⟩ : ∃ z, z = y17 := ⟨_, rfl⟩
      have hF := hy17
      rw [← hw26] at hF
      clear hy17
      have hT : L19 = L15 ++ w26.1 := by rw [eL19, hw26]
      have h2 : y17.2 = w26.2 := by rw [hw26]
      have hbl := hbl19
      refine lv_icmp_eq (tgt := 132) hx hb dX0_writePattern_124 (by decide) (fun c27 => ?_) (fun c27 => ?_)
      · rw [if_pos c27] at hF
        refine lv_aload_n hx hb dX0_writePattern_132 rfl (lv_at hl 3 rfl) ?_
        refine va_get (D := D) (ci := 0) (v := va_re ad16 (y13.2.2 a 2)) (C := RX0) (T := TX0) (N := 21) hx hb hts (mus hf_X0) hown hK hP a (wld_o ct ad16 (xt G L15) y13.2 hc hk (by decide)) rfl 2 (by decide) (hts (.fieldLink RX0 29 "VideoSuite$Coder" "writer" "LVideoSuite$Writer;") (mu mw_815)) (fun _ h9 => h9) rfl dX0_writePattern_133 ?_
        refine lv_bipush (v := (10 : Int32)) hx hb dX0_writePattern_136 (by decide) ?_
        refine lv_iload_n hx hb dX0_writePattern_138 rfl (lv_at hl 4 rfl) ?_
        refine lv_aload_n hx hb dX0_writePattern_139 rfl (lv_at hl 3 rfl) ?_
        refine va_get (D := D) (ci := 0) (v := .int (y13.2.1 a 19)) (C := RX0) (T := TX0) (N := 21) hx hb hts (mus hf_X0) hown hK hP a (wld_o ct ad16 (xt G L15) y13.2 hc hk (by decide)) rfl 19 (by decide) (hts (.fieldLink RX0 299 "VideoSuite$Coder" "step" "I") (mu mw_837)) (fun _ h9 => h9) rfl dX0_writePattern_140 ?_
        obtain ⟨x28, ex28, hF⟩ := ltt_some hF
        refine lv_topi (fun zx28 ezx28 => ?_)
        obtain rfl : x28 = zx28 := ex28.trans ezx28.symm
        refine lv_isub hx hb dX0_writePattern_143 ?_
        obtain ⟨x29, ex29, hF⟩ := ltt_some hF
        refine lv_topi (fun zx29 ezx29 => ?_)
        obtain rfl : x29 = zx29 := ex29.trans ezx29.symm
        obtain ⟨b30, ho30, hc30, hk30, hF⟩ := dr_some hF
        refine W_st (st' := [.int x29, .int (10 : Int32), .ref (ad16 b30)]) (by rw [va_some ho30]) ?_
        obtain ⟨y31, hy31, hF⟩ := bnd_some hF
        obtain ⟨w32, hF, ew32⟩ := app_some hF
        obtain ⟨L33, eL33, hF⟩ := ltt_some hF
        have hT33 : L19 = (L15 ++ y31.1) ++ w32.1 := by rw [hT, ew32]; simp only [List.append_assoc]
        have hf9 := wA_in hD hA9 hS
        refine va_callv (va_runV (As := [.int (10 : Int32), .int x29]) (rest := []) ⟨hx, hb, hml, hown, hts⟩ (kX10_se l D ct ad16 Z (xt G L15) y13.2 _ b30 ((10 : Int32)) x29 y31 hc30 hk30 hy31) (cwV 2 hts gX0_writePattern_X10_se rfl rfl rfl (by decide +kernel) ⟨Nat.le_of_ble_eq_true rfl, Nat.le_of_ble_eq_true rfl⟩) ⟨fun a U g mk q => by obtain ⟨q0, q1, qP, qK, qD, qZ, qN⟩ := q; exact ⟨q0, q1, qP, va_K.moved (u := U) (U := U.calling g mk a) (Vm.Alike.refl U.vm) qK, qD, sF.moved (u := U) (U := U.calling g mk a) (Vm.Alike.refl U.vm) qZ, nF.same rfl qN⟩, va_recv hK hP (ci := 10) (q0 := b30) rfl (wld_o ct ad16 (xt G L15) y13.2 hc30 hk30 (by decide)), fun U hU hW => ⟨rfl, by rw [hU], by rw [hU]; exact hP, va_K.moved hW.alike hK, hD.weaken (fun _ _ _ _ => trivial), by rw [hU]; exact ((hZ.kept hS.2.1).narrow hf9).moved hW.alike, hN.warm hW⟩⟩ rfl rfl hl.1 rfl (lv_room (Nat.le_of_ble_eq_true rfl)) dX0_writePattern_144 (room_s hT33 hbl)) hS (fun q _ h => hf9 q h) hf9 (fun ad34 t H locs ht hvm hw hB hz1 hk1 hS => ?_)
        have hn35 := hw
        obtain ⟨hP, hK9, hD9⟩ := hB
        rw [ht] at hP
        have hD := hD9.weaken (fun _ q _ h => hf9 q.1 h)
        rw [xt_xt, ← eL33] at hP hD
        refine W_cs (k := L33.length) (n := wt L33) (by rw [eL33]; exact (len_s L15 y31.1).symm) (by rw [eL33]; exact (wt_app L15 y31.1).symm) ?_
        have hT : L19 = L33 ++ w32.1 := by rw [hT33, eL33]
        have h2 : y17.2 = w32.2 := by rw [h2, ew32]
        have hl := lv_sub (l' := [(3, .int x1), (0, .ref (ad16 a)), (2, .int p1)]) hl [2, 3, 4] rfl
        have e9 : ([(3, .int x1), (0, .ref (ad16 a)), (2, .int p1)] : List (Nat × Value)) = [(3, .int x1), (0, .ref (ad34 a)), (2, .int p1)] := (by first | rfl | simp only [hn35 a hc])
        rw [e9] at hl
        clear e9
        have hk : (xt G L33).2.1 a = 0 := by rw [eL33]; exact xt_k _ hc hk
        have hc : a < (xt G L33).1 := by rw [eL33]; exact xt_l _ hc
        have hk2 : (xt G L33).2.1 b2 = 9 := by rw [eL33]; exact xt_k _ hc2 hk2
        have hc2 : b2 < (xt G L33).1 := by rw [eL33]; exact xt_l _ hc2
        have hk4 : (xt G L33).2.1 b4 = 13 := by rw [eL33]; exact xt_k _ hc4 hk4
        have hc4 : b4 < (xt G L33).1 := by rw [eL33]; exact xt_l _ hc4
        have hk30 : (xt G L33).2.1 b30 = 10 := by rw [eL33]; exact xt_k _ hc30 hk30
        have hc30 : b30 < (xt G L33).1 := by rw [eL33]; exact xt_l _ hc30
        have hag := agr_t (xt_ge _ _) hag hn35
        refine lv_aload_n hx hb dX0_writePattern_147 rfl (lv_at hl 1 rfl) ?_
        refine lv_iload_n hx hb dX0_writePattern_148 rfl (lv_at hl 2 rfl) ?_
        refine va_put (D := D) (ci := 0) (v := .int p1) (ty := .int) (C := RX0) (T := TX0) (N := 21) hx hb hts (mus hf_X0) tyX0 tyX0_ok nmX0 hown hK hP hD hS a (wld_o ct ad34 (xt G L33) y31.2 hc hk (by decide)) rfl 19 (by decide) (hts (.fieldLink RX0 299 "VideoSuite$Coder" "step" "I") (mu mw_837)) (fun _ h9 => h9) rfl (by decide +kernel) rfl rfl (Nat.le_of_ble_eq_true rfl) dX0_writePattern_149 (fun H locs hP hD hS => ?_)
        obtain ⟨M36, eM36, hF⟩ := ltt_some hF
        rw [set_oI ct ad34 (xt G L33) y31.2 hc hk (by decide) (by rfl), ← eM36] at hP hD
        obtain rfl := Option.some.inj hF
        have e1 : L19 = L33 := by rw [hT]; exact List.append_nil _
        have e2 : y17.2 = M36 := h2
        rw [e1] at J17
        try rw [e2] at J17
        exact J17 _ hag _ _ _ hP hD hS (lv_sub hl [0, 1] rfl)
      · rw [if_neg c27] at hF
        refine lv_iload hx hb dX0_writePattern_127 (lv_at hl 0 rfl) ?_
        obtain ⟨y37, hy37, hF⟩ := bnd_some hF
        obtain ⟨w38, hF, ew38⟩ := app_some hF
        obtain ⟨L39, eL39, hF⟩ := ltt_some hF
        have hT39 : L19 = (L15 ++ y37.1) ++ w38.1 := by rw [hT, ew38]; simp only [List.append_assoc]
        have hbl39 : L39.length ≤ y.1.length ∧ wt L39 ≤ wt y.1 := by rw [eL39]; exact room_d hT39 hbl
        have J37 : ∀ (ad40 : Nat → Nat), agr G.1 ad ad40 → ∀ (H : Heap) (locs : List Loc) (ls : Array Slot), va_P D classes (wld ct ad40 (xt G L39) y37.2) H → va_D A (wld ct ad40 (xt G L39) y37.2) → va_S A s.heap H locs → lv_has ls 8 [(3, .int x1), (0, .ref (ad40 a))] → W p l e (headSpec wuX0_writePattern ({ frames := 6, cells := y.1.length, slots := wt y.1, locals := 198 })).room s m ([.ref (ad a), .int p0, .int p1] : List Value).toArray below meth c H locs (L39 : NN).length (wt L39) (MQ below (va_Qv (fun (u : Nat → Nat) => agr G.1 ad u) (fun u t => kE D ct u (xt G y.1) A y.2 t) A) ([.ref (ad a), .int p0, .int p1] : List Value).toArray s y.1.length (wt y.1) A) (F0 m 152 ls []) := by
          intro ad40 hag H locs ls hP hD hS hl
          have hT : L19 = L39 ++ w38.1 := by rw [hT39, eL39]
          have h2 : y17.2 = w38.2 := by rw [h2, ew38]
          have hk : (xt G L39).2.1 a = 0 := by rw [eL39]; exact xt_k _ hc hk
          have hc : a < (xt G L39).1 := by rw [eL39]; exact xt_l _ hc
          have hk2 : (xt G L39).2.1 b2 = 9 := by rw [eL39]; exact xt_k _ hc2 hk2
          have hc2 : b2 < (xt G L39).1 := by rw [eL39]; exact xt_l _ hc2
          have hk4 : (xt G L39).2.1 b4 = 13 := by rw [eL39]; exact xt_k _ hc4 hk4
          have hc4 : b4 < (xt G L39).1 := by rw [eL39]; exact xt_l _ hc4
          obtain rfl := Option.some.inj hF
          have e1 : L19 = L39 := by rw [hT]; exact List.append_nil _
          have e2 : y17.2 = y37.2 := h2
          rw [e1] at J17
          try rw [e2] at J17
          exact J17 _ hag _ _ _ hP hD hS (lv_sub hl [0, 1] rfl)
        clear hF
        obtain ⟨w41, hw41⟩ : ∃ z, z = y37 := ⟨_, rfl⟩
        have hF := hy37
        rw [← hw41] at hF
        clear hy37
        have hT : L39 = L15 ++ w41.1 := by rw [eL39, hw41]
        have h2 : y37.2 = w41.2 := by rw [hw41]
        have hbl := hbl39
        refine lv_if_le (tgt := 152) hx hb dX0_writePattern_129 (by decide) (fun c42 => ?_) (fun c42 => ?_)
        · rw [if_pos c42] at hF
          obtain rfl := Option.some.inj hF
          have e1 : L39 = L15 := by rw [hT]; exact List.append_nil _
          have e2 : y37.2 = y13.2 := h2
          rw [e1] at J37
          try rw [e2] at J37
          exact J37 _ hag _ _ _ hP hD hS (lv_sub hl [2, 3] rfl)
        · rw [if_neg c42] at hF
          refine lv_aload_n hx hb dX0_writePattern_132 rfl (lv_at hl 3 rfl) ?_
          refine va_get (D := D) (ci := 0) (v := va_re ad16 (y13.2.2 a 2)) (C := RX0) (T := TX0) (N := 21) hx hb hts (mus hf_X0) hown hK hP a (wld_o ct ad16 (xt G L15) y13.2 hc hk (by decide)) rfl 2 (by decide) (hts (.fieldLink RX0 29 "VideoSuite$Coder" "writer" "LVideoSuite$Writer;") (mu mw_815)) (fun _ h9 => h9) rfl dX0_writePattern_133 ?_
          refine lv_bipush (v := (10 : Int32)) hx hb dX0_writePattern_136 (by decide) ?_
          refine lv_iload_n hx hb dX0_writePattern_138 rfl (lv_at hl 4 rfl) ?_
          refine lv_aload_n hx hb dX0_writePattern_139 rfl (lv_at hl 3 rfl) ?_
          refine va_get (D := D) (ci := 0) (v := .int (y13.2.1 a 19)) (C := RX0) (T := TX0) (N := 21) hx hb hts (mus hf_X0) hown hK hP a (wld_o ct ad16 (xt G L15) y13.2 hc hk (by decide)) rfl 19 (by decide) (hts (.fieldLink RX0 299 "VideoSuite$Coder" "step" "I") (mu mw_837)) (fun _ h9 => h9) rfl dX0_writePattern_140 ?_
          obtain ⟨x43, ex43, hF⟩ := ltt_some hF
          refine lv_topi (fun zx43 ezx43 => ?_)
          obtain rfl : x43 = zx43 := ex43.trans ezx43.symm
          refine lv_isub hx hb dX0_writePattern_143 ?_
          obtain ⟨x44, ex44, hF⟩ := ltt_some hF
          refine lv_topi (fun zx44 ezx44 => ?_)
          obtain rfl : x44 = zx44 := ex44.trans ezx44.symm
          obtain ⟨b45, ho45, hc45, hk45, hF⟩ := dr_some hF
          refine W_st (st' := [.int x44, .int (10 : Int32), .ref (ad16 b45)]) (by rw [va_some ho45]) ?_
          obtain ⟨y46, hy46, hF⟩ := bnd_some hF
          obtain ⟨w47, hF, ew47⟩ := app_some hF
          obtain ⟨L48, eL48, hF⟩ := ltt_some hF
          have hT48 : L39 = (L15 ++ y46.1) ++ w47.1 := by rw [hT, ew47]; simp only [List.append_assoc]
          have hf9 := wA_in hD hA9 hS
          refine va_callv (va_runV (As := [.int (10 : Int32), .int x44]) (rest := []) ⟨hx, hb, hml, hown, hts⟩ (kX10_se l D ct ad16 Z (xt G L15) y13.2 _ b45 ((10 : Int32)) x44 y46 hc45 hk45 hy46) (cwV 2 hts gX0_writePattern_X10_se rfl rfl rfl (by decide +kernel) ⟨Nat.le_of_ble_eq_true rfl, Nat.le_of_ble_eq_true rfl⟩) ⟨fun a U g mk q => by obtain ⟨q0, q1, qP, qK, qD, qZ, qN⟩ := q; exact ⟨q0, q1, qP, va_K.moved (u := U) (U := U.calling g mk a) (Vm.Alike.refl U.vm) qK, qD, sF.moved (u := U) (U := U.calling g mk a) (Vm.Alike.refl U.vm) qZ, nF.same rfl qN⟩, va_recv hK hP (ci := 10) (q0 := b45) rfl (wld_o ct ad16 (xt G L15) y13.2 hc45 hk45 (by decide)), fun U hU hW => ⟨rfl, by rw [hU], by rw [hU]; exact hP, va_K.moved hW.alike hK, hD.weaken (fun _ _ _ _ => trivial), by rw [hU]; exact ((hZ.kept hS.2.1).narrow hf9).moved hW.alike, hN.warm hW⟩⟩ rfl rfl hl.1 rfl (lv_room (Nat.le_of_ble_eq_true rfl)) dX0_writePattern_144 (room_s hT48 hbl)) hS (fun q _ h => hf9 q h) hf9 (fun ad49 t H locs ht hvm hw hB hz1 hk1 hS => ?_)
          have hn50 := hw
          obtain ⟨hP, hK9, hD9⟩ := hB
          rw [ht] at hP
          have hD := hD9.weaken (fun _ q _ h => hf9 q.1 h)
          rw [xt_xt, ← eL48] at hP hD
          refine W_cs (k := L48.length) (n := wt L48) (by rw [eL48]; exact (len_s L15 y46.1).symm) (by rw [eL48]; exact (wt_app L15 y46.1).symm) ?_
          have hT : L39 = L48 ++ w47.1 := by rw [hT48, eL48]
          have h2 : y37.2 = w47.2 := by rw [h2, ew47]
          have hl := lv_sub (l' := [(3, .int x1), (0, .ref (ad16 a)), (2, .int p1)]) hl [2, 3, 4] rfl
          have e9 : ([(3, .int x1), (0, .ref (ad16 a)), (2, .int p1)] : List (Nat × Value)) = [(3, .int x1), (0, .ref (ad49 a)), (2, .int p1)] := (by first | rfl | simp only [hn50 a hc])
          rw [e9] at hl
          clear e9
          have hk : (xt G L48).2.1 a = 0 := by rw [eL48]; exact xt_k _ hc hk
          have hc : a < (xt G L48).1 := by rw [eL48]; exact xt_l _ hc
          have hk2 : (xt G L48).2.1 b2 = 9 := by rw [eL48]; exact xt_k _ hc2 hk2
          have hc2 : b2 < (xt G L48).1 := by rw [eL48]; exact xt_l _ hc2
          have hk4 : (xt G L48).2.1 b4 = 13 := by rw [eL48]; exact xt_k _ hc4 hk4
          have hc4 : b4 < (xt G L48).1 := by rw [eL48]; exact xt_l _ hc4
          have hk45 : (xt G L48).2.1 b45 = 10 := by rw [eL48]; exact xt_k _ hc45 hk45
          have hc45 : b45 < (xt G L48).1 := by rw [eL48]; exact xt_l _ hc45
          have hag := agr_t (xt_ge _ _) hag hn50
          refine lv_aload_n hx hb dX0_writePattern_147 rfl (lv_at hl 1 rfl) ?_
          refine lv_iload_n hx hb dX0_writePattern_148 rfl (lv_at hl 2 rfl) ?_
          refine va_put (D := D) (ci := 0) (v := .int p1) (ty := .int) (C := RX0) (T := TX0) (N := 21) hx hb hts (mus hf_X0) tyX0 tyX0_ok nmX0 hown hK hP hD hS a (wld_o ct ad49 (xt G L48) y46.2 hc hk (by decide)) rfl 19 (by decide) (hts (.fieldLink RX0 299 "VideoSuite$Coder" "step" "I") (mu mw_837)) (fun _ h9 => h9) rfl (by decide +kernel) rfl rfl (Nat.le_of_ble_eq_true rfl) dX0_writePattern_149 (fun H locs hP hD hS => ?_)
          obtain ⟨M51, eM51, hF⟩ := ltt_some hF
          rw [set_oI ct ad49 (xt G L48) y46.2 hc hk (by decide) (by rfl), ← eM51] at hP hD
          obtain rfl := Option.some.inj hF
          have e1 : L39 = L48 := by rw [hT]; exact List.append_nil _
          have e2 : y37.2 = M51 := h2
          rw [e1] at J37
          try rw [e2] at J37
          exact J37 _ hag _ _ _ hP hD hS (lv_sub hl [0, 1] rfl)
    clear hF
    obtain ⟨w52, hw52⟩ : ∃ z, z = y13 := ⟨_, rfl⟩
    have hF := hy13
    rw [← hw52] at hF
    clear hy13
    have hT : L15 = [] ++ w52.1 := by rw [eL15, hw52]
    have h2 : y13.2 = w52.2 := by rw [hw52]
    have hbl := hbl15
    refine lv_icmp_eq (tgt := 121) hx hb dX0_writePattern_56 (by decide) (fun c53 => ?_) (fun c53 => ?_)
    · rw [if_pos c53] at hF
      obtain rfl := Option.some.inj hF
      have e1 : L15 = [] := by rw [hT]; exact List.append_nil _
      have e2 : y13.2 = M := h2
      rw [e1] at J13
      try rw [e2] at J13
      exact J13 _ hag _ _ _ hP hD hS (lv_sub hl [0, 1, 2, 3, 5] rfl)
    · rw [if_neg c53] at hF
      refine lv_aload_n hx hb dX0_writePattern_59 rfl (lv_at hl 3 rfl) ?_
      refine lv_iload_n hx hb dX0_writePattern_60 rfl (lv_at hl 4 rfl) ?_
      obtain ⟨y54, hy54, hF⟩ := bnd_some hF
      have hf9 := wA_in hD hA9 hS
      refine va_calli (va_runV (As := [.int p0]) (rest := []) ⟨hx, hb, hml, hown, hts⟩ (kX0_isSkipped l D ct ad Z (xt G []) M s.heap.size a p0 y54 hc hk hy54) (cwV 1 hts gX0_writePattern_X0_isSkipped rfl rfl rfl (by decide +kernel) ⟨Nat.le_of_ble_eq_true rfl, Nat.le_of_ble_eq_true rfl⟩) ⟨fun a U g mk q => by obtain ⟨q0, q1, qP, qK, qD, qZ, qN⟩ := q; exact ⟨q0, q1, qP, va_K.moved (u := U) (U := U.calling g mk a) (Vm.Alike.refl U.vm) qK, qD, sF.moved (u := U) (U := U.calling g mk a) (Vm.Alike.refl U.vm) qZ, nF.same rfl qN⟩, va_recv hK hP (ci := 0) (q0 := a) rfl (wld_o ct ad (xt G []) M hc hk (by decide)), fun U hU hW => ⟨rfl, by rw [hU], by rw [hU]; exact hP, va_K.moved hW.alike hK, hD.weaken (fun _ _ _ _ => trivial), by rw [hU]; exact ((hZ.kept hS.2.1).narrow hf9).moved hW.alike, hN.warm hW⟩⟩ rfl rfl hl.1 rfl (lv_room (Nat.le_of_ble_eq_true rfl)) dX0_writePattern_61 (room_d hT hbl)) hS (fun q _ h => hf9 q h) hf9 (fun r u t H locs ht hvm hw hB hz1 hk1 hS => ?_)
      obtain ⟨hP, hK9, hD9⟩ := hB
      rw [ht] at hP
      try dsimp only at hw
      subst hw
      refine W_cs (k := ([] : NN).length) (n := wt []) rfl rfl ?_
      have hD := hD9.weaken (fun _ q _ h => hf9 q.1 h)
      obtain ⟨y55, hy55, hF⟩ := bnd_some hF
      obtain ⟨w56, hF, ew56⟩ := app_some hF
      obtain ⟨L57, eL57, hF⟩ := ltt_some hF
      have hT57 : L15 = ([] ++ y55.1) ++ w56.1 := by rw [hT, ew56]; simp only [List.append_assoc]
      have hbl57 : L57.length ≤ y.1.length ∧ wt L57 ≤ wt y.1 := by rw [eL57]; exact room_d hT57 hbl
      have J55 : ∀ (ad58 : Nat → Nat), agr G.1 ad ad58 → ∀ (H : Heap) (locs : List Loc) (ls : Array Slot), va_P D classes (wld ct ad58 (xt G L57) y55.2) H → va_D A (wld ct ad58 (xt G L57) y55.2) → va_S A s.heap H locs → lv_has ls 8 [(5, .int x12), (4, .int x5), (3, .int x1), (0, .ref (ad58 a)), (2, .int p1)] → W p l e (headSpec wuX0_writePattern ({ frames := 6, cells := y.1.length, slots := wt y.1, locals := 198 })).room s m ([.ref (ad a), .int p0, .int p1] : List Value).toArray below meth c H locs (L57 : NN).length (wt L57) (MQ below (va_Qv (fun (u : Nat → Nat) => agr G.1 ad u) (fun u t => kE D ct u (xt G y.1) A y.2 t) A) ([.ref (ad a), .int p0, .int p1] : List Value).toArray s y.1.length (wt y.1) A) (F0 m 121 ls []) := by
        intro ad58 hag H locs ls hP hD hS hl
        have hT : L15 = L57 ++ w56.1 := by rw [hT57, eL57]
        have h2 : y13.2 = w56.2 := by rw [h2, ew56]
        have hk : (xt G L57).2.1 a = 0 := by rw [eL57]; exact xt_k _ hc hk
        have hc : a < (xt G L57).1 := by rw [eL57]; exact xt_l _ hc
        have hk2 : (xt G L57).2.1 b2 = 9 := by rw [eL57]; exact xt_k _ hc2 hk2
        have hc2 : b2 < (xt G L57).1 := by rw [eL57]; exact xt_l _ hc2
        have hk4 : (xt G L57).2.1 b4 = 13 := by rw [eL57]; exact xt_k _ hc4 hk4
        have hc4 : b4 < (xt G L57).1 := by rw [eL57]; exact xt_l _ hc4
        obtain rfl := Option.some.inj hF
        have e1 : L15 = L57 := by rw [hT]; exact List.append_nil _
        have e2 : y13.2 = y55.2 := h2
        rw [e1] at J13
        try rw [e2] at J13
        exact J13 _ hag _ _ _ hP hD hS (lv_sub hl [0, 1, 2, 3, 4] rfl)
      clear hF
      obtain ⟨w59, hw59⟩ : ∃ z, z = y55 := ⟨_, rfl⟩
      have hF := hy55
      rw [← hw59] at hF
      clear hy55
      have hT : L57 = [] ++ w59.1 := by rw [eL57, hw59]
      have h2 : y55.2 = w59.2 := by rw [hw59]
      have hbl := hbl57
      refine lv_if_ne (tgt := 121) hx hb dX0_writePattern_64 (by decide) (fun c60 => ?_) (fun c60 => ?_)
      · rw [if_neg c60] at hF
        obtain rfl := Option.some.inj hF
        have e1 : L57 = [] := by rw [hT]; exact List.append_nil _
        have e2 : y55.2 = y54.1 := h2
        rw [e1] at J55
        try rw [e2] at J55
        exact J55 _ hag _ _ _ hP hD hS (lv_sub hl [0, 1, 2, 3, 5] rfl)
      · rw [if_pos c60] at hF
        refine lv_iload hx hb dX0_writePattern_67 (lv_at hl 1 rfl) ?_
        obtain ⟨y61, hy61, hF⟩ := bnd_some hF
        have J61 : ∀ (H : Heap) (locs : List Loc) (ls : Array Slot), va_P D classes (wld ct ad (xt G []) y54.1) H → va_D A (wld ct ad (xt G []) y54.1) → va_S A s.heap H locs → lv_has ls 8 [(5, .int x12), (4, .int x5), (3, .int x1), (0, .ref (ad a)), (1, .int p0), (2, .int p1)] → W p l e (headSpec wuX0_writePattern ({ frames := 6, cells := y.1.length, slots := wt y.1, locals := 198 })).room s m ([.ref (ad a), .int p0, .int p1] : List Value).toArray below meth c H locs ([] : NN).length (wt []) (MQ below (va_Qv (fun (u : Nat → Nat) => agr G.1 ad u) (fun u t => kE D ct u (xt G y.1) A y.2 t) A) ([.ref (ad a), .int p0, .int p1] : List Value).toArray s y.1.length (wt y.1) A) (F0 m 78 ls [.int y61]) := by
          intro H locs ls hP hD hS hl
          refine lv_istore (lv' := [(6, .int y61), (5, .int x12), (4, .int x5), (3, .int x1), (0, .ref (ad a)), (1, .int p0), (2, .int p1)]) hx hb dX0_writePattern_78 hl (by decide) rfl (fun ls hl => ?_)
          refine lv_iconst (v := (0 : Int32)) hx hb dX0_writePattern_80 (by decide) ?_
          refine lv_istore (lv' := [(7, .int (0 : Int32)), (6, .int y61), (5, .int x12), (4, .int x5), (3, .int x1), (0, .ref (ad a)), (1, .int p0), (2, .int p1)]) hx hb dX0_writePattern_81 hl (by decide) rfl (fun ls hl => ?_)
          obtain ⟨y62, hy62, hF⟩ := bnd_some hF
          obtain ⟨w64, hF, ew64⟩ := app_some hF
          obtain ⟨L65, eL65, hF⟩ := ltt_some hF
          have hT65 : L57 = ([] ++ y62.1) ++ w64.1 := by rw [hT, ew64]; simp only [List.append_assoc]
          have hbl65 : L65.length ≤ y.1.length ∧ wt L65 ≤ wt y.1 := by rw [eL65]; exact room_d hT65 hbl
          have K62 : ∀ (ad66 : Nat → Nat), agr G.1 ad ad66 → ∀ (H : Heap) (locs : List Loc) (ls : Array Slot), va_P D classes (wld ct ad66 (xt G L65) y62.2.2) H → va_D A (wld ct ad66 (xt G L65) y62.2.2) → va_S A s.heap H locs → lv_has ls 8 [(5, .int x12), (4, .int x5), (3, .int x1), (0, .ref (ad66 a)), (2, .int p1)] → W p l e (headSpec wuX0_writePattern ({ frames := 6, cells := y.1.length, slots := wt y.1, locals := 198 })).room s m ([.ref (ad a), .int p0, .int p1] : List Value).toArray below meth c H locs (L65 : NN).length (wt L65) (MQ below (va_Qv (fun (u : Nat → Nat) => agr G.1 ad u) (fun u t => kE D ct u (xt G y.1) A y.2 t) A) ([.ref (ad a), .int p0, .int p1] : List Value).toArray s y.1.length (wt y.1) A) (F0 m 121 ls []) := by
            intro ad66 hag H locs ls hP hD hS hl
            have hT : L57 = L65 ++ w64.1 := by rw [hT65, eL65]
            have h2 : y55.2 = w64.2 := by rw [h2, ew64]
            have hk : (xt G L65).2.1 a = 0 := by rw [eL65]; exact xt_k _ hc hk
            have hc : a < (xt G L65).1 := by rw [eL65]; exact xt_l _ hc
            have hk2 : (xt G L65).2.1 b2 = 9 := by rw [eL65]; exact xt_k _ hc2 hk2
            have hc2 : b2 < (xt G L65).1 := by rw [eL65]; exact xt_l _ hc2
            have hk4 : (xt G L65).2.1 b4 = 13 := by rw [eL65]; exact xt_k _ hc4 hk4
            have hc4 : b4 < (xt G L65).1 := by rw [eL65]; exact xt_l _ hc4
            obtain rfl := Option.some.inj hF
            have e1 : L57 = L65 := by rw [hT]; exact List.append_nil _
            have e2 : y55.2 = y62.2.2 := h2
            rw [e1] at J55
            try rw [e2] at J55
            exact J55 _ hag _ _ _ hP hD hS (lv_sub hl [0, 1, 2, 3, 4] rfl)
          clear hF
          refine itrA_rule (fun (s63 : NN × Int32 × DD) (r68 : NN) => (∃ t, s63.1 = [] ++ t) → L65 = s63.1 ++ r68 → ∀ (ad67 : Nat → Nat), agr G.1 ad ad67 → ∀ (H : Heap) (locs : List Loc) (ls : Array Slot), va_P D classes (wld ct ad67 (xt G s63.1) s63.2.2) H → va_D A (wld ct ad67 (xt G s63.1) s63.2.2) → va_S A s.heap H locs → lv_has ls 8 [(7, .int s63.2.1), (6, .int y61), (5, .int x12), (4, .int x5), (3, .int x1), (0, .ref (ad67 a)), (2, .int p1)] → W p l e (headSpec wuX0_writePattern ({ frames := 6, cells := y.1.length, slots := wt y.1, locals := 198 })).room s m ([.ref (ad a), .int p0, .int p1] : List Value).toArray below meth c H locs (s63.1 : NN).length (wt s63.1) (MQ below (va_Qv (fun (u : Nat → Nat) => agr G.1 ad u) (fun u t => kE D ct u (xt G y.1) A y.2 t) A) ([.ref (ad a), .int p0, .int p1] : List Value).toArray s y.1.length (wt y.1) A) (F0 m 83 ls [])) ?_ _ _ _ hy62 ⟨[], (List.append_nil _).symm⟩ eL65 _ hag _ _ _ hP hD hS (lv_sub hl [0, 1, 2, 3, 4, 5, 7] rfl)
          rintro s63 r68 ⟨z69, hF, ⟨t62, et62⟩, hwz69⟩ ⟨u62, eu62⟩ eq62 ad67 hag H locs ls hP hD hS hl
          try dsimp only at hF
          obtain ⟨L70, eL70⟩ : ∃ x, x = s63.1 ++ z69.1 := ⟨_, rfl⟩
          obtain ⟨w71, hw71⟩ : ∃ x, x = z69 := ⟨_, rfl⟩
          rw [← hw71] at hF
          have hbl : L70.length ≤ y.1.length ∧ wt L70 ≤ wt y.1 := room_d (show L65 = L70 ++ t62 by rw [eq62, et62, eL70]; simp only [List.append_assoc]) hbl65
          have hT : L70 = s63.1 ++ w71.1 := by rw [eL70, hw71]
          have h2 : z69.2 = w71.2 := by rw [hw71]
          have hk : (xt G s63.1).2.1 a = 0 := by rw [eu62]; exact xt_k _ hc hk
          have hc : a < (xt G s63.1).1 := by rw [eu62]; exact xt_l _ hc
          have hk2 : (xt G s63.1).2.1 b2 = 9 := by rw [eu62]; exact xt_k _ hc2 hk2
          have hc2 : b2 < (xt G s63.1).1 := by rw [eu62]; exact xt_l _ hc2
          have hk4 : (xt G s63.1).2.1 b4 = 13 := by rw [eu62]; exact xt_k _ hc4 hk4
          have hc4 : b4 < (xt G s63.1).1 := by rw [eu62]; exact xt_l _ hc4
          refine lv_iload hx hb dX0_writePattern_83 (lv_at hl 0 rfl) ?_
          refine lv_bipush (v := (48 : Int32)) hx hb dX0_writePattern_85 (by decide) ?_
          refine lv_icmp_ge (tgt := 121) hx hb dX0_writePattern_87 (by decide) (fun c72 => ?_) (fun c72 => ?_)
          · rw [if_pos c72] at hF
            obtain rfl := Option.some.inj hF
            have e1 : L70 = s63.1 := by rw [hT]; exact List.append_nil _
            have e2 : z69.2 = .inr ((s63.2.1, s63.2.2)) := h2
            rw [e2] at hwz69
            obtain ⟨hw1, hw2⟩ := hwz69
            have e8 : L65 = s63.1 := by rw [eq62, hw2, ← eL70, e1]
            rw [e8] at K62
            try rw [← hw1] at K62
            exact K62 _ hag _ _ _ hP hD hS (lv_sub hl [2, 3, 4, 5, 6] rfl)
          · rw [if_neg c72] at hF
            refine va_gets hx hb (hZ.1 9 (by decide)).1 hS hown (hts (.fieldLink RX0 578 "VideoSuite$Reader" "PATTERN" "[I") (mu mw_2680)) (fun _ h => h) dX0_writePattern_90 ?_
            refine lv_iload hx hb dX0_writePattern_93 (lv_at hl 1 rfl) ?_
            refine lv_iload hx hb dX0_writePattern_95 (lv_at hl 0 rfl) ?_
            refine lv_iadd hx hb dX0_writePattern_97 ?_
            obtain ⟨x73, ex73, hF⟩ := ltt_some hF
            refine lv_topi (fun zx73 ezx73 => ?_)
            obtain rfl : x73 = zx73 := ex73.trans ezx73.symm
            obtain ⟨hvc, hF⟩ := chk_some hF
            refine va_ti (v := .int ((sT 9).getD x73.toNatClampNeg 0)) hx hb (hZ.1 9 (by decide)).2 hS hvc rfl dX0_writePattern_98 ?_
            obtain ⟨x74, ex74, hF⟩ := ltt_some hF
            refine lv_topi (fun zx74 ezx74 => ?_)
            obtain rfl : x74 = zx74 := ex74.trans ezx74.symm
            refine lv_iload hx hb dX0_writePattern_99 (lv_at hl 2 rfl) ?_
            obtain ⟨y75, hy75, hF⟩ := bnd_some hF
            obtain ⟨w76, hF, ew76⟩ := app_some hF
            obtain ⟨L77, eL77, hF⟩ := ltt_some hF
            have hT77 : L70 = (s63.1 ++ y75.1) ++ w76.1 := by rw [hT, ew76]; simp only [List.append_assoc]
            have hbl77 : L77.length ≤ y.1.length ∧ wt L77 ≤ wt y.1 := by rw [eL77]; exact room_d hT77 hbl
            have J75 : ∀ (ad78 : Nat → Nat), agr G.1 ad ad78 → ∀ (H : Heap) (locs : List Loc) (ls : Array Slot), va_P D classes (wld ct ad78 (xt G L77) y75.2) H → va_D A (wld ct ad78 (xt G L77) y75.2) → va_S A s.heap H locs → lv_has ls 8 [(7, .int s63.2.1), (6, .int y61), (5, .int x12), (4, .int x5), (3, .int x1), (0, .ref (ad78 a)), (2, .int p1)] → W p l e (headSpec wuX0_writePattern ({ frames := 6, cells := y.1.length, slots := wt y.1, locals := 198 })).room s m ([.ref (ad a), .int p0, .int p1] : List Value).toArray below meth c H locs (L77 : NN).length (wt L77) (MQ below (va_Qv (fun (u : Nat → Nat) => agr G.1 ad u) (fun u t => kE D ct u (xt G y.1) A y.2 t) A) ([.ref (ad a), .int p0, .int p1] : List Value).toArray s y.1.length (wt y.1) A) (F0 m 115 ls []) := by
              intro ad78 hag H locs ls hP hD hS hl
              have hT : L70 = L77 ++ w76.1 := by rw [hT77, eL77]
              have h2 : z69.2 = w76.2 := by rw [h2, ew76]
              have hk : (xt G L77).2.1 a = 0 := by rw [eL77]; exact xt_k _ hc hk
              have hc : a < (xt G L77).1 := by rw [eL77]; exact xt_l _ hc
              have hk2 : (xt G L77).2.1 b2 = 9 := by rw [eL77]; exact xt_k _ hc2 hk2
              have hc2 : b2 < (xt G L77).1 := by rw [eL77]; exact xt_l _ hc2
              have hk4 : (xt G L77).2.1 b4 = 13 := by rw [eL77]; exact xt_k _ hc4 hk4
              have hc4 : b4 < (xt G L77).1 := by rw [eL77]; exact xt_l _ hc4
              obtain ⟨x79, ex79, hF⟩ := ltt_some hF
              refine lv_iinc (v := x79) (lv' := [(7, .int x79), (6, .int y61), (5, .int x12), (4, .int x5), (3, .int x1), (0, .ref (ad78 a)), (2, .int p1)]) hx hb dX0_writePattern_115 hl (k := 0) rfl (by rw [ex79]; rfl) (by decide) rfl (fun ls hl => ?_)
              refine lv_goto (tgt := 83) hx hb dX0_writePattern_118 (by decide) ?_
              obtain rfl := Option.some.inj hF
              have e1 : L70 = L77 := by rw [hT]; exact List.append_nil _
              have e2 : z69.2 = .inl (L77, (x79, y75.2)) := h2
              rw [e2] at hwz69
              obtain ⟨r2, er2, hwz69⟩ := hwz69
              exact hwz69 ⟨u62 ++ z69.1, by show L77 = _; rw [← e1, eL70, eu62]; simp only [List.append_assoc]⟩ (by show L65 = L77 ++ r2; rw [eq62, er2, ← e1, eL70]; simp only [List.append_assoc]) _ hag _ _ _ hP hD hS (lv_sub hl [0, 1, 2, 3, 4, 5, 6] rfl)
            clear hF
            obtain ⟨w80, hw80⟩ : ∃ z, z = y75 := ⟨_, rfl⟩
            have hF := hy75
            rw [← hw80] at hF
            clear hy75
            have hT : L77 = s63.1 ++ w80.1 := by rw [eL77, hw80]
            have h2 : y75.2 = w80.2 := by rw [hw80]
            have hbl := hbl77
            refine lv_icmp_ne (tgt := 115) hx hb dX0_writePattern_101 (by decide) (fun c81 => ?_) (fun c81 => ?_)
            · rw [if_neg c81] at hF
              obtain rfl := Option.some.inj hF
              have e1 : L77 = s63.1 := by rw [hT]; exact List.append_nil _
              have e2 : y75.2 = s63.2.2 := h2
              rw [e1] at J75
              try rw [e2] at J75
              exact J75 _ hag _ _ _ hP hD hS (lv_sub hl [0, 1, 2, 3, 4, 5, 6] rfl)
            · rw [if_pos c81] at hF
              refine lv_aload_n hx hb dX0_writePattern_104 rfl (lv_at hl 5 rfl) ?_
              refine va_get (D := D) (ci := 0) (v := va_re ad67 (s63.2.2.2 a 2)) (C := RX0) (T := TX0) (N := 21) hx hb hts (mus hf_X0) hown hK hP a (wld_o ct ad67 (xt G s63.1) s63.2.2 hc hk (by decide)) rfl 2 (by decide) (hts (.fieldLink RX0 29 "VideoSuite$Coder" "writer" "LVideoSuite$Writer;") (mu mw_815)) (fun _ h9 => h9) rfl dX0_writePattern_105 ?_
              refine lv_bipush (v := (9 : Int32)) hx hb dX0_writePattern_108 (by decide) ?_
              refine lv_iload hx hb dX0_writePattern_110 (lv_at hl 0 rfl) ?_
              obtain ⟨b82, ho82, hc82, hk82, hF⟩ := dr_some hF
              refine W_st (st' := [.int s63.2.1, .int (9 : Int32), .ref (ad67 b82)]) (by rw [va_some ho82]) ?_
              obtain ⟨y83, hy83, hF⟩ := bnd_some hF
              obtain ⟨w84, hF, ew84⟩ := app_some hF
              obtain ⟨L85, eL85, hF⟩ := ltt_some hF
              have hT85 : L77 = (s63.1 ++ y83.1) ++ w84.1 := by rw [hT, ew84]; simp only [List.append_assoc]
              have hf9 := wA_in hD hA9 hS
              refine va_callv (va_runV (As := [.int (9 : Int32), .int s63.2.1]) (rest := []) ⟨hx, hb, hml, hown, hts⟩ (kX10_ue l D ct ad67 Z (xt G s63.1) s63.2.2 _ b82 ((9 : Int32)) s63.2.1 y83 hc82 hk82 hy83) (cwV 2 hts gX0_writePattern_X10_ue rfl rfl rfl (by decide +kernel) ⟨Nat.le_of_ble_eq_true rfl, Nat.le_of_ble_eq_true rfl⟩) ⟨fun a U g mk q => by obtain ⟨q0, q1, qP, qK, qD, qZ, qN⟩ := q; exact ⟨q0, q1, qP, va_K.moved (u := U) (U := U.calling g mk a) (Vm.Alike.refl U.vm) qK, qD, sF.moved (u := U) (U := U.calling g mk a) (Vm.Alike.refl U.vm) qZ, nF.same rfl qN⟩, va_recv hK hP (ci := 10) (q0 := b82) rfl (wld_o ct ad67 (xt G s63.1) s63.2.2 hc82 hk82 (by decide)), fun U hU hW => ⟨rfl, by rw [hU], by rw [hU]; exact hP, va_K.moved hW.alike hK, hD.weaken (fun _ _ _ _ => trivial), by rw [hU]; exact ((hZ.kept hS.2.1).narrow hf9).moved hW.alike, hN.warm hW⟩⟩ rfl rfl hl.1 rfl (lv_room (Nat.le_of_ble_eq_true rfl)) dX0_writePattern_112 (room_s hT85 hbl)) hS (fun q _ h => hf9 q h) hf9 (fun ad86 t H locs ht hvm hw hB hz1 hk1 hS => ?_)
              have hn87 := hw
              obtain ⟨hP, hK9, hD9⟩ := hB
              rw [ht] at hP
              have hD := hD9.weaken (fun _ q _ h => hf9 q.1 h)
              rw [xt_xt, ← eL85] at hP hD
              refine W_cs (k := L85.length) (n := wt L85) (by rw [eL85]; exact (len_s s63.1 y83.1).symm) (by rw [eL85]; exact (wt_app s63.1 y83.1).symm) ?_
              have hT : L77 = L85 ++ w84.1 := by rw [hT85, eL85]
              have h2 : y75.2 = w84.2 := by rw [h2, ew84]
              have hl := lv_sub (l' := [(7, .int s63.2.1), (6, .int y61), (5, .int x12), (4, .int x5), (3, .int x1), (0, .ref (ad67 a)), (2, .int p1)]) hl [0, 1, 2, 3, 4, 5, 6] rfl
              have e9 : ([(7, .int s63.2.1), (6, .int y61), (5, .int x12), (4, .int x5), (3, .int x1), (0, .ref (ad67 a)), (2, .int p1)] : List (Nat × Value)) = [(7, .int s63.2.1), (6, .int y61), (5, .int x12), (4, .int x5), (3, .int x1), (0, .ref (ad86 a)), (2, .int p1)] := (by first | rfl | simp only [hn87 a hc])
              rw [e9] at hl
              clear e9
              have hk : (xt G L85).2.1 a = 0 := by rw [eL85]; exact xt_k _ hc hk
              have hc : a < (xt G L85).1 := by rw [eL85]; exact xt_l _ hc
              have hk2 : (xt G L85).2.1 b2 = 9 := by rw [eL85]; exact xt_k _ hc2 hk2
              have hc2 : b2 < (xt G L85).1 := by rw [eL85]; exact xt_l _ hc2
              have hk4 : (xt G L85).2.1 b4 = 13 := by rw [eL85]; exact xt_k _ hc4 hk4
              have hc4 : b4 < (xt G L85).1 := by rw [eL85]; exact xt_l _ hc4
              have hk82 : (xt G L85).2.1 b82 = 10 := by rw [eL85]; exact xt_k _ hc82 hk82
              have hc82 : b82 < (xt G L85).1 := by rw [eL85]; exact xt_l _ hc82
              have hag := agr_t (xt_ge _ _) hag hn87
              obtain rfl := Option.some.inj hF
              have e1 : L77 = L85 := by rw [hT]; exact List.append_nil _
              have e2 : y75.2 = y83.2 := h2
              rw [e1] at J75
              try rw [e2] at J75
              exact J75 _ hag _ _ _ hP hD hS (lv_sub hl [0, 1, 2, 3, 4, 5, 6] rfl)
        clear hF
        have hF := hy61
        clear hy61
        refine lv_if_ne (tgt := 76) hx hb dX0_writePattern_69 (by decide) (fun c88 => ?_) (fun c88 => ?_)
        · rw [if_neg c88] at hF
          refine lv_bipush (v := (48 : Int32)) hx hb dX0_writePattern_76 (by decide) ?_
          obtain rfl := Option.some.inj hF
          exact J61 _ _ _ hP hD hS (lv_sub hl [0, 1, 2, 3, 4, 5] rfl)
        · rw [if_pos c88] at hF
          refine lv_iconst (v := (0 : Int32)) hx hb dX0_writePattern_72 (by decide) ?_
          refine lv_goto (tgt := 78) hx hb dX0_writePattern_73 (by decide) ?_
          obtain rfl := Option.some.inj hF
          exact J61 _ _ _ hP hD hS (lv_sub hl [0, 1, 2, 3, 4, 5] rfl)
  · rw [if_pos c6] at hF
    obtain rfl := Option.some.inj hF
    have e1 : y.1 = [] := by rw [hT]; exact List.append_nil _
    have e2 : y.2 = M := h2
    refine W.widen (k := y.1.length) (n := wt y.1) (Nat.le_of_eq (by rw [e1])) (Nat.le_of_eq (by rw [e1])) ?_
    exact W.vret hx hb hr (fun t ht hW => ⟨⟨ad, rfl, hag, (by unfold kE; rw [e1, e2]; exact ⟨by rw [ht]; exact hP, va_K.moved hW.alike hK, hD⟩)⟩, hS.F ht⟩) hS.2.2 dX0_writePattern_24
set_option maxRecDepth 20000 in
theorem gX0_writeWeights_X3_clearWeights : GoodIn wuX0_writeWeights (wsV RX0 325 RX3 yX3_clearWeights wuX3_clearWeights) := gu_V mw_2468 mw_1377 mw_1378 mw_174 mw_1379
set_option maxRecDepth 20000 in
set_option maxRecDepth 20000 in
theorem gX0_writeWeights_X10_ue : GoodIn wuX0_writeWeights (wsV RX0 162 RX10 yX10_ue wuX10_ue) := gu_V mw_1169 mw_1170 mw_1171 mw_176 mw_1172
set_option maxRecDepth 20000 in
set_option maxRecDepth 20000 in
theorem gX0_writeWeights_X3_weightAt : GoodIn wuX0_writeWeights (va_wsS RX0 328 yX3_weightAt wuX3_weightAt) := gu_S mw_2469 mw_1385 mw_174 mw_1386
set_option maxRecDepth 20000 in
set_option maxRecDepth 20000 in
theorem gX0_writeWeights_X0_draw : GoodIn wuX0_writeWeights (wsV RX0 334 RX0 yX0_draw wuX0_draw) := gu_V mw_2470 mw_2472 mw_121 mw_175 mw_2473
set_option maxRecDepth 20000 in
set_option maxRecDepth 20000 in
theorem gX0_writeWeights_X0_flag : GoodIn wuX0_writeWeights (wsV RX0 166 RX0 yX0_flag wuX0_flag) := gu_V mw_1177 mw_1179 mw_28 mw_175 mw_1180
set_option maxRecDepth 20000 in
set_option maxRecDepth 20000 in
theorem gX0_writeWeights_X10_se : GoodIn wuX0_writeWeights (wsV RX0 169 RX10 yX10_se wuX10_se) := gu_V mw_1181 mw_1182 mw_1183 mw_176 mw_1184
theorem dX0_writeWeights_0 : decode cX0_writeWeights 0 = .ok (.aload_n 0, 1) := by decide +kernel
theorem dX0_writeWeights_1 : decode cX0_writeWeights 1 = .ok (.getfield 36, 3) := by decide +kernel
theorem dX0_writeWeights_4 : decode cX0_writeWeights 4 = .ok (.getfield 81, 3) := by decide +kernel
theorem dX0_writeWeights_7 : decode cX0_writeWeights 7 = .ok (.getfield 252, 3) := by decide +kernel
theorem dX0_writeWeights_10 : decode cX0_writeWeights 10 = .ok (.bipush 22, 2) := by decide +kernel
theorem dX0_writeWeights_12 : decode cX0_writeWeights 12 = .ok (.iconst 5, 1) := by decide +kernel
theorem dX0_writeWeights_13 : decode cX0_writeWeights 13 = .ok (.iastore, 1) := by decide +kernel
theorem dX0_writeWeights_14 : decode cX0_writeWeights 14 = .ok (.aload_n 0, 1) := by decide +kernel
theorem dX0_writeWeights_15 : decode cX0_writeWeights 15 = .ok (.getfield 36, 3) := by decide +kernel
theorem dX0_writeWeights_18 : decode cX0_writeWeights 18 = .ok (.getfield 81, 3) := by decide +kernel
theorem dX0_writeWeights_21 : decode cX0_writeWeights 21 = .ok (.getfield 252, 3) := by decide +kernel
theorem dX0_writeWeights_24 : decode cX0_writeWeights 24 = .ok (.bipush 23, 2) := by decide +kernel
theorem dX0_writeWeights_26 : decode cX0_writeWeights 26 = .ok (.iconst 5, 1) := by decide +kernel
theorem dX0_writeWeights_27 : decode cX0_writeWeights 27 = .ok (.iastore, 1) := by decide +kernel
theorem dX0_writeWeights_28 : decode cX0_writeWeights 28 = .ok (.aload_n 0, 1) := by decide +kernel
theorem dX0_writeWeights_29 : decode cX0_writeWeights 29 = .ok (.getfield 36, 3) := by decide +kernel
theorem dX0_writeWeights_32 : decode cX0_writeWeights 32 = .ok (.getfield 81, 3) := by decide +kernel
theorem dX0_writeWeights_35 : decode cX0_writeWeights 35 = .ok (.invokevirtual 325, 3) := by decide +kernel
theorem dX0_writeWeights_38 : decode cX0_writeWeights 38 = .ok (.aload_n 0, 1) := by decide +kernel
theorem dX0_writeWeights_39 : decode cX0_writeWeights 39 = .ok (.getfield 29, 3) := by decide +kernel
theorem dX0_writeWeights_42 : decode cX0_writeWeights 42 = .ok (.iconst 0, 1) := by decide +kernel
theorem dX0_writeWeights_43 : decode cX0_writeWeights 43 = .ok (.iconst 5, 1) := by decide +kernel
theorem dX0_writeWeights_44 : decode cX0_writeWeights 44 = .ok (.invokevirtual 162, 3) := by decide +kernel
theorem dX0_writeWeights_47 : decode cX0_writeWeights 47 = .ok (.aload_n 0, 1) := by decide +kernel
theorem dX0_writeWeights_48 : decode cX0_writeWeights 48 = .ok (.getfield 29, 3) := by decide +kernel
theorem dX0_writeWeights_51 : decode cX0_writeWeights 51 = .ok (.iconst 0, 1) := by decide +kernel
theorem dX0_writeWeights_52 : decode cX0_writeWeights 52 = .ok (.iconst 5, 1) := by decide +kernel
theorem dX0_writeWeights_53 : decode cX0_writeWeights 53 = .ok (.invokevirtual 162, 3) := by decide +kernel
theorem dX0_writeWeights_56 : decode cX0_writeWeights 56 = .ok (.iconst 0, 1) := by decide +kernel
theorem dX0_writeWeights_57 : decode cX0_writeWeights 57 = .ok (.istore_n 1, 1) := by decide +kernel
theorem dX0_writeWeights_58 : decode cX0_writeWeights 58 = .ok (.iload_n 1, 1) := by decide +kernel
theorem dX0_writeWeights_59 : decode cX0_writeWeights 59 = .ok (.aload_n 0, 1) := by decide +kernel
theorem dX0_writeWeights_60 : decode cX0_writeWeights 60 = .ok (.getfield 36, 3) := by decide +kernel
theorem dX0_writeWeights_63 : decode cX0_writeWeights 63 = .ok (.getfield 81, 3) := by decide +kernel
theorem dX0_writeWeights_66 : decode cX0_writeWeights 66 = .ok (.getfield 252, 3) := by decide +kernel
theorem dX0_writeWeights_69 : decode cX0_writeWeights 69 = .ok (.bipush 9, 2) := by decide +kernel
theorem dX0_writeWeights_71 : decode cX0_writeWeights 71 = .ok (.iaload, 1) := by decide +kernel
theorem dX0_writeWeights_72 : decode cX0_writeWeights 72 = .ok (.if_icmp .ge 119, 3) := by decide +kernel
theorem dX0_writeWeights_75 : decode cX0_writeWeights 75 = .ok (.iload_n 1, 1) := by decide +kernel
theorem dX0_writeWeights_76 : decode cX0_writeWeights 76 = .ok (.bipush 8, 2) := by decide +kernel
theorem dX0_writeWeights_78 : decode cX0_writeWeights 78 = .ok (.if_icmp .ge 113, 3) := by decide +kernel
theorem dX0_writeWeights_81 : decode cX0_writeWeights 81 = .ok (.iconst 0, 1) := by decide +kernel
theorem dX0_writeWeights_82 : decode cX0_writeWeights 82 = .ok (.iload_n 1, 1) := by decide +kernel
theorem dX0_writeWeights_83 : decode cX0_writeWeights 83 = .ok (.iconst 0, 1) := by decide +kernel
theorem dX0_writeWeights_84 : decode cX0_writeWeights 84 = .ok (.invokestatic 328, 3) := by decide +kernel
theorem dX0_writeWeights_87 : decode cX0_writeWeights 87 = .ok (.istore_n 2, 1) := by decide +kernel
theorem dX0_writeWeights_88 : decode cX0_writeWeights 88 = .ok (.aload_n 0, 1) := by decide +kernel
theorem dX0_writeWeights_89 : decode cX0_writeWeights 89 = .ok (.getfield 36, 3) := by decide +kernel
theorem dX0_writeWeights_92 : decode cX0_writeWeights 92 = .ok (.getfield 81, 3) := by decide +kernel
theorem dX0_writeWeights_95 : decode cX0_writeWeights 95 = .ok (.getfield 331, 3) := by decide +kernel
theorem dX0_writeWeights_98 : decode cX0_writeWeights 98 = .ok (.iload_n 2, 1) := by decide +kernel
theorem dX0_writeWeights_99 : decode cX0_writeWeights 99 = .ok (.bipush 32, 2) := by decide +kernel
theorem dX0_writeWeights_101 : decode cX0_writeWeights 101 = .ok (.aload_n 0, 1) := by decide +kernel
theorem dX0_writeWeights_102 : decode cX0_writeWeights 102 = .ok (.bipush 9, 2) := by decide +kernel
theorem dX0_writeWeights_104 : decode cX0_writeWeights 104 = .ok (.invokevirtual 334, 3) := by decide +kernel
theorem dX0_writeWeights_107 : decode cX0_writeWeights 107 = .ok (.iadd, 1) := by decide +kernel
theorem dX0_writeWeights_108 : decode cX0_writeWeights 108 = .ok (.iconst 4, 1) := by decide +kernel
theorem dX0_writeWeights_109 : decode cX0_writeWeights 109 = .ok (.isub, 1) := by decide +kernel
theorem dX0_writeWeights_110 : decode cX0_writeWeights 110 = .ok (.iastore, 1) := by decide +kernel
theorem dX0_writeWeights_111 : decode cX0_writeWeights 111 = .ok (.aload_n 0, 1) := by decide +kernel
theorem dX0_writeWeights_112 : decode cX0_writeWeights 112 = .ok (.getfield 36, 3) := by decide +kernel
theorem dX0_writeWeights_115 : decode cX0_writeWeights 115 = .ok (.getfield 81, 3) := by decide +kernel
theorem dX0_writeWeights_118 : decode cX0_writeWeights 118 = .ok (.getfield 331, 3) := by decide +kernel
theorem dX0_writeWeights_121 : decode cX0_writeWeights 121 = .ok (.iload_n 2, 1) := by decide +kernel
theorem dX0_writeWeights_122 : decode cX0_writeWeights 122 = .ok (.iconst 1, 1) := by decide +kernel
theorem dX0_writeWeights_123 : decode cX0_writeWeights 123 = .ok (.iadd, 1) := by decide +kernel
theorem dX0_writeWeights_124 : decode cX0_writeWeights 124 = .ok (.aload_n 0, 1) := by decide +kernel
theorem dX0_writeWeights_125 : decode cX0_writeWeights 125 = .ok (.bipush 9, 2) := by decide +kernel
theorem dX0_writeWeights_127 : decode cX0_writeWeights 127 = .ok (.invokevirtual 334, 3) := by decide +kernel
theorem dX0_writeWeights_130 : decode cX0_writeWeights 130 = .ok (.iconst 4, 1) := by decide +kernel
theorem dX0_writeWeights_131 : decode cX0_writeWeights 131 = .ok (.isub, 1) := by decide +kernel
theorem dX0_writeWeights_132 : decode cX0_writeWeights 132 = .ok (.iastore, 1) := by decide +kernel
theorem dX0_writeWeights_133 : decode cX0_writeWeights 133 = .ok (.aload_n 0, 1) := by decide +kernel
theorem dX0_writeWeights_134 : decode cX0_writeWeights 134 = .ok (.iconst 1, 1) := by decide +kernel
theorem dX0_writeWeights_135 : decode cX0_writeWeights 135 = .ok (.invokevirtual 166, 3) := by decide +kernel
theorem dX0_writeWeights_138 : decode cX0_writeWeights 138 = .ok (.aload_n 0, 1) := by decide +kernel
theorem dX0_writeWeights_139 : decode cX0_writeWeights 139 = .ok (.getfield 29, 3) := by decide +kernel
theorem dX0_writeWeights_142 : decode cX0_writeWeights 142 = .ok (.iconst 0, 1) := by decide +kernel
theorem dX0_writeWeights_143 : decode cX0_writeWeights 143 = .ok (.aload_n 0, 1) := by decide +kernel
theorem dX0_writeWeights_144 : decode cX0_writeWeights 144 = .ok (.getfield 36, 3) := by decide +kernel
theorem dX0_writeWeights_147 : decode cX0_writeWeights 147 = .ok (.getfield 81, 3) := by decide +kernel
theorem dX0_writeWeights_150 : decode cX0_writeWeights 150 = .ok (.getfield 331, 3) := by decide +kernel
theorem dX0_writeWeights_153 : decode cX0_writeWeights 153 = .ok (.iload_n 2, 1) := by decide +kernel
theorem dX0_writeWeights_154 : decode cX0_writeWeights 154 = .ok (.iaload, 1) := by decide +kernel
theorem dX0_writeWeights_155 : decode cX0_writeWeights 155 = .ok (.invokevirtual 169, 3) := by decide +kernel
theorem dX0_writeWeights_158 : decode cX0_writeWeights 158 = .ok (.aload_n 0, 1) := by decide +kernel
theorem dX0_writeWeights_159 : decode cX0_writeWeights 159 = .ok (.getfield 29, 3) := by decide +kernel
theorem dX0_writeWeights_162 : decode cX0_writeWeights 162 = .ok (.iconst 0, 1) := by decide +kernel
theorem dX0_writeWeights_163 : decode cX0_writeWeights 163 = .ok (.aload_n 0, 1) := by decide +kernel
theorem dX0_writeWeights_164 : decode cX0_writeWeights 164 = .ok (.getfield 36, 3) := by decide +kernel
theorem dX0_writeWeights_167 : decode cX0_writeWeights 167 = .ok (.getfield 81, 3) := by decide +kernel
theorem dX0_writeWeights_170 : decode cX0_writeWeights 170 = .ok (.getfield 331, 3) := by decide +kernel
theorem dX0_writeWeights_173 : decode cX0_writeWeights 173 = .ok (.iload_n 2, 1) := by decide +kernel
theorem dX0_writeWeights_174 : decode cX0_writeWeights 174 = .ok (.iconst 1, 1) := by decide +kernel
theorem dX0_writeWeights_175 : decode cX0_writeWeights 175 = .ok (.iadd, 1) := by decide +kernel
theorem dX0_writeWeights_176 : decode cX0_writeWeights 176 = .ok (.iaload, 1) := by decide +kernel
theorem dX0_writeWeights_177 : decode cX0_writeWeights 177 = .ok (.invokevirtual 169, 3) := by decide +kernel
theorem dX0_writeWeights_180 : decode cX0_writeWeights 180 = .ok (.aload_n 0, 1) := by decide +kernel
theorem dX0_writeWeights_181 : decode cX0_writeWeights 181 = .ok (.iconst 0, 1) := by decide +kernel
theorem dX0_writeWeights_182 : decode cX0_writeWeights 182 = .ok (.invokevirtual 166, 3) := by decide +kernel
theorem dX0_writeWeights_185 : decode cX0_writeWeights 185 = .ok (.iinc 1 1, 3) := by decide +kernel
theorem dX0_writeWeights_188 : decode cX0_writeWeights 188 = .ok (.goto (-130), 3) := by decide +kernel
theorem dX0_writeWeights_191 : decode cX0_writeWeights 191 = .ok (.return_, 1) := by decide +kernel
noncomputable def FX0_writeWeights (G : GG) (M : DD) (a : Nat)  : Option (NN × DD) :=
  dr (xt G []) 9 ((M.2 a 3)) fun b2 =>
  dr (xt G []) 3 ((M.2 b2 1)) fun b3 =>
  dr (xt G []) 13 ((M.2 b3 0)) fun b4 =>
  chk (¬ (((22 : Int32)) < 0 ∨ (xt G []).2.2 b4 ≤ ((22 : Int32)).toNatClampNeg)) <|
  ltt (uI M b4 ((22 : Int32)).toNatClampNeg ((5 : Int32))) fun M5 =>
  dr (xt G []) 9 ((M5.2 a 3)) fun b6 =>
  dr (xt G []) 3 ((M5.2 b6 1)) fun b7 =>
  dr (xt G []) 13 ((M5.2 b7 0)) fun b8 =>
  chk (¬ (((23 : Int32)) < 0 ∨ (xt G []).2.2 b8 ≤ ((23 : Int32)).toNatClampNeg)) <|
  ltt (uI M5 b8 ((23 : Int32)).toNatClampNeg ((5 : Int32))) fun M9 =>
  dr (xt G []) 9 ((M9.2 a 3)) fun b10 =>
  dr (xt G []) 3 ((M9.2 b10 1)) fun b11 =>
  bnd (FX3_clearWeights (xt G []) M9 b11) fun y12 =>
  dr (xt G []) 10 ((y12.2 a 2)) fun b13 =>
  bnd (FX10_ue (xt G []) y12 b13 ((0 : Int32)) ((5 : Int32))) fun y14 =>
  app y14.1 <|
  ltt ([] ++ y14.1) fun L16 =>
  dr (xt G L16) 10 ((y14.2.2 a 2)) fun b19 =>
  bnd (FX10_ue (xt G L16) y14.2 b19 ((0 : Int32)) ((5 : Int32))) fun y20 =>
  app y20.1 <|
  ltt (L16 ++ y20.1) fun L22 =>
  bnd (itrA (fun (s26 : NN × Int32 × DD) => ((dr (xt G s26.1) 9 ((s26.2.2.2 a 3)) fun b35 =>
  dr (xt G s26.1) 3 ((s26.2.2.2 b35 1)) fun b36 =>
  dr (xt G s26.1) 13 ((s26.2.2.2 b36 0)) fun b37 =>
  chk (¬ (((9 : Int32)) < 0 ∨ (xt G s26.1).2.2 b37 ≤ ((9 : Int32)).toNatClampNeg)) <|
  ltt (s26.2.2.1 b37 ((9 : Int32)).toNatClampNeg) fun x38 =>
  if x38 ≤ s26.2.1 then (some ([], .inr ((s26.2.1, s26.2.2)))) else
  (if ((8 : Int32)) ≤ s26.2.1 then (some ([], .inr ((s26.2.1, s26.2.2)))) else
  (bnd (FX3_weightAt (xt G s26.1) s26.2.2 ((0 : Int32)) s26.2.1 ((0 : Int32))) fun y41 =>
  dr (xt G s26.1) 9 ((y41.1.2 a 3)) fun b42 =>
  dr (xt G s26.1) 3 ((y41.1.2 b42 1)) fun b43 =>
  bnd (FX0_draw (xt G s26.1) y41.1 a ((9 : Int32))) fun y44 =>
  ltt ((((32 : Int32)) + y44.2)) fun x45 =>
  ltt ((x45 - ((4 : Int32)))) fun x46 =>
  dr (xt G s26.1) 13 ((y41.1.2 b43 3)) fun b47 =>
  chk (¬ (y41.2 < 0 ∨ (xt G s26.1).2.2 b47 ≤ y41.2.toNatClampNeg)) <|
  ltt (uI y44.1 b47 y41.2.toNatClampNeg x46) fun M48 =>
  dr (xt G s26.1) 9 ((M48.2 a 3)) fun b49 =>
  dr (xt G s26.1) 3 ((M48.2 b49 1)) fun b50 =>
  ltt ((y41.2 + ((1 : Int32)))) fun x51 =>
  bnd (FX0_draw (xt G s26.1) M48 a ((9 : Int32))) fun y52 =>
  ltt ((y52.2 - ((4 : Int32)))) fun x53 =>
  dr (xt G s26.1) 13 ((M48.2 b50 3)) fun b54 =>
  chk (¬ (x51 < 0 ∨ (xt G s26.1).2.2 b54 ≤ x51.toNatClampNeg)) <|
  ltt (uI y52.1 b54 x51.toNatClampNeg x53) fun M55 =>
  bnd (FX0_flag (xt G s26.1) M55 a ((1 : Int32))) fun y56 =>
  app y56.1 <|
  ltt (s26.1 ++ y56.1) fun L58 =>
  dr (xt G L58) 9 ((y56.2.2 a 3)) fun b61 =>
  dr (xt G L58) 3 ((y56.2.2 b61 1)) fun b62 =>
  dr (xt G L58) 13 ((y56.2.2 b62 3)) fun b63 =>
  chk (¬ (y41.2 < 0 ∨ (xt G L58).2.2 b63 ≤ y41.2.toNatClampNeg)) <|
  ltt (y56.2.1 b63 y41.2.toNatClampNeg) fun x64 =>
  dr (xt G L58) 10 ((y56.2.2 a 2)) fun b65 =>
  bnd (FX10_se (xt G L58) y56.2 b65 ((0 : Int32)) x64) fun y66 =>
  app y66.1 <|
  ltt (L58 ++ y66.1) fun L68 =>
  dr (xt G L68) 9 ((y66.2.2 a 3)) fun b71 =>
  dr (xt G L68) 3 ((y66.2.2 b71 1)) fun b72 =>
  ltt ((y41.2 + ((1 : Int32)))) fun x73 =>
  dr (xt G L68) 13 ((y66.2.2 b72 3)) fun b74 =>
  chk (¬ (x73 < 0 ∨ (xt G L68).2.2 b74 ≤ x73.toNatClampNeg)) <|
  ltt (y66.2.1 b74 x73.toNatClampNeg) fun x75 =>
  dr (xt G L68) 10 ((y66.2.2 a 2)) fun b76 =>
  bnd (FX10_se (xt G L68) y66.2 b76 ((0 : Int32)) x75) fun y77 =>
  app y77.1 <|
  ltt (L68 ++ y77.1) fun L79 =>
  bnd (FX0_flag (xt G L79) y77.2 a ((0 : Int32))) fun y82 =>
  app y82.1 <|
  ltt (L79 ++ y82.1) fun L84 =>
  ltt (s26.2.1 + (1 : Int32)) fun x87 =>
  some ([], .inl (L84, (x87, y82.2)))))) : Option (NN × ((NN × Int32 × DD) ⊕ (Int32 × DD))))) 1000000 (L22, ((0 : Int32), y20.2))) fun (y25 : NN × Int32 × DD) =>
  app y25.1 <|
  ltt (L22 ++ y25.1) fun L28 =>
  some ([], y25.2.2)
set_option maxHeartbeats 4000000 in
set_option maxRecDepth 100000 in
theorem kX0_writeWeights (l : Launch) (D : va_G) (ct : CT) (ad : Nat → Nat) (Z : Nat → Nat) (G : GG) (M : DD) (sz : Nat) (a : Nat)  (y : NN × DD) (hc : a < G.1) (hk : G.2.1 a = 0) (hF : FX0_writeWeights G M a  = some y) : Met l yX0_writeWeights wuX0_writeWeights ({ frames := 6, cells := y.1.length, slots := wt y.1, locals := 198 }) (va_Pc [.ref (ad a)] (kB D ct ad Z G M sz)) (va_Qv (fun (u : Nat → Nat) => agr G.1 ad u) (fun u t => kE D ct u (xt G y.1) (wA ad G sz) y.2 t) (wA ad G sz)) y.1.length (wt y.1) (wA ad G sz) := by
  refine Met.ofW (cc := cX0_writeWeights) (maxL := 3) (ret := none) (by decide) rfl ?_
  intro p e s m args below meth c s₁ B hml hv
  obtain ⟨rfl, hsz, hP, hK, hD0, hZ, hN⟩ := hv
  have hx := B.exec
  have hb := B.bytes
  have hr := B.returns
  have hts := atoms_spec (ws := wuX0_writeWeights) B.pre
  have hown : s.vm.findClass RX0 = some m.cls := findClass_of_methodNamed B.named
  have hlocks := B.notSynchronized
  subst hsz
  have hD := wD_self (sz := s.heap.size) hD0
  have hA9 : ∀ q, s.heap.size ≤ q → wA ad G s.heap.size q := fun q h => Or.inr h
  generalize hAe : wA ad G s.heap.size = A at hD hA9 hZ ⊢
  have hS : va_S A s.heap s.heap [] := va_S.rf
  have hl := lv_entry ([.ref (ad a)]) (n := 3) (Nat.le_of_ble_eq_true rfl)
  rw [lg_entry_eq]
  generalize (lg_sl ([.ref (ad a)]) ++ List.replicate (3 - (lg_sl ([.ref (ad a)])).length) Slot.unset).toArray = ls at hl ⊢
  have hl : lv_has ls 3 [(0, .ref (ad a))] := hl
  unfold FX0_writeWeights at hF
  rw [← wld_0 ct ad G M] at hP hD
  have hk := xt_k0 hc hk
  have hc := xt_l0 hc
  have hag := agr_rf G.1 ad
  obtain ⟨w0, hw0⟩ : ∃ z, z = y := ⟨_, rfl⟩
  rw [← hw0] at hF
  have hT : y.1 = [] ++ w0.1 := by rw [hw0]; rfl
  have h2 : y.2 = w0.2 := by rw [hw0]
  have hbl : y.1.length ≤ y.1.length ∧ wt y.1 ≤ wt y.1 := ⟨Nat.le_refl _, Nat.le_refl _⟩
  refine lv_aload_n hx hb dX0_writeWeights_0 rfl (lv_at hl 0 rfl) ?_
  refine va_get (D := D) (ci := 0) (v := va_re ad (M.2 a 3)) (C := RX0) (T := TX0) (N := 21) hx hb hts (mus hf_X0) hown hK hP a (wld_o ct ad (xt G []) M hc hk (by decide)) rfl 3 (by decide) (hts (.fieldLink RX0 36 "VideoSuite$Coder" "work" "LVideoSuite$Work;") (mu mw_817)) (fun _ h9 => h9) rfl dX0_writeWeights_1 ?_
  obtain ⟨b2, ho2, hc2, hk2, hF⟩ := dr_some hF
  refine W_st (st' := [.ref (ad b2)]) (by rw [va_some ho2]) ?_
  refine va_get (D := D) (ci := 9) (v := va_re ad (M.2 b2 1)) (C := RX9) (T := TX9) (N := 20) hx hb hts (mus hf_X9) hown hK hP b2 (wld_o ct ad (xt G []) M hc2 hk2 (by decide)) rfl 1 (by decide) (hts (.fieldLink RX0 81 "VideoSuite$Work" "head" "LVideoSuite$Header;") (mu mw_425)) (fun _ h9 => h9) rfl dX0_writeWeights_4 ?_
  obtain ⟨b3, ho3, hc3, hk3, hF⟩ := dr_some hF
  refine W_st (st' := [.ref (ad b3)]) (by rw [va_some ho3]) ?_
  refine va_get (D := D) (ci := 3) (v := va_re ad (M.2 b3 0)) (C := RX3) (T := TX3) (N := 4) hx hb hts (mus hf_X3) hown hK hP b3 (wld_o ct ad (xt G []) M hc3 hk3 (by decide)) rfl 0 (by decide) (hts (.fieldLink RX0 252 "VideoSuite$Header" "v" "[I") (mu mw_620)) (fun _ h9 => h9) rfl dX0_writeWeights_7 ?_
  refine lv_bipush (v := (22 : Int32)) hx hb dX0_writeWeights_10 (by decide) ?_
  refine lv_iconst (v := (5 : Int32)) hx hb dX0_writeWeights_12 (by decide) ?_
  obtain ⟨b4, ho4, hc4, hk4, hF⟩ := dr_some hF
  refine W_st (st' := [.int (5 : Int32), .int (22 : Int32), .ref (ad b4)]) (by rw [va_some ho4]) ?_
  obtain ⟨hvc, hF⟩ := chk_some hF
  refine va_iast hx hb hK hP hD hS b4 1 (wld_i ct ad (xt G []) M hc4 hk4) rfl hvc dX0_writeWeights_13 (fun H locs hP hD hS => ?_)
  obtain ⟨M5, eM5, hF⟩ := ltt_some hF
  rw [set_i ct ad (xt G []) M hc4 hk4, ← eM5] at hP hD
  refine lv_aload_n hx hb dX0_writeWeights_14 rfl (lv_at hl 0 rfl) ?_
  refine va_get (D := D) (ci := 0) (v := va_re ad (M5.2 a 3)) (C := RX0) (T := TX0) (N := 21) hx hb hts (mus hf_X0) hown hK hP a (wld_o ct ad (xt G []) M5 hc hk (by decide)) rfl 3 (by decide) (hts (.fieldLink RX0 36 "VideoSuite$Coder" "work" "LVideoSuite$Work;") (mu mw_817)) (fun _ h9 => h9) rfl dX0_writeWeights_15 ?_
  obtain ⟨b6, ho6, hc6, hk6, hF⟩ := dr_some hF
  refine W_st (st' := [.ref (ad b6)]) (by rw [va_some ho6]) ?_
  refine va_get (D := D) (ci := 9) (v := va_re ad (M5.2 b6 1)) (C := RX9) (T := TX9) (N := 20) hx hb hts (mus hf_X9) hown hK hP b6 (wld_o ct ad (xt G []) M5 hc6 hk6 (by decide)) rfl 1 (by decide) (hts (.fieldLink RX0 81 "VideoSuite$Work" "head" "LVideoSuite$Header;") (mu mw_425)) (fun _ h9 => h9) rfl dX0_writeWeights_18 ?_
  obtain ⟨b7, ho7, hc7, hk7, hF⟩ := dr_some hF
  refine W_st (st' := [.ref (ad b7)]) (by rw [va_some ho7]) ?_
  refine va_get (D := D) (ci := 3) (v := va_re ad (M5.2 b7 0)) (C := RX3) (T := TX3) (N := 4) hx hb hts (mus hf_X3) hown hK hP b7 (wld_o ct ad (xt G []) M5 hc7 hk7 (by decide)) rfl 0 (by decide) (hts (.fieldLink RX0 252 "VideoSuite$Header" "v" "[I") (mu mw_620)) (fun _ h9 => h9) rfl dX0_writeWeights_21 ?_
  refine lv_bipush (v := (23 : Int32)) hx hb dX0_writeWeights_24 (by decide) ?_
  refine lv_iconst (v := (5 : Int32)) hx hb dX0_writeWeights_26 (by decide) ?_
  obtain ⟨b8, ho8, hc8, hk8, hF⟩ := dr_some hF
  refine W_st (st' := [.int (5 : Int32), .int (23 : Int32), .ref (ad b8)]) (by rw [va_some ho8]) ?_
  obtain ⟨hvc, hF⟩ := chk_some hF
  refine va_iast hx hb hK hP hD hS b8 1 (wld_i ct ad (xt G []) M5 hc8 hk8) rfl hvc dX0_writeWeights_27 (fun H locs hP hD hS => ?_)
  obtain ⟨M9, eM9, hF⟩ := ltt_some hF
  rw [set_i ct ad (xt G []) M5 hc8 hk8, ← eM9] at hP hD
  refine lv_aload_n hx hb dX0_writeWeights_28 rfl (lv_at hl 0 rfl) ?_
  refine va_get (D := D) (ci := 0) (v := va_re ad (M9.2 a 3)) (C := RX0) (T := TX0) (N := 21) hx hb hts (mus hf_X0) hown hK hP a (wld_o ct ad (xt G []) M9 hc hk (by decide)) rfl 3 (by decide) (hts (.fieldLink RX0 36 "VideoSuite$Coder" "work" "LVideoSuite$Work;") (mu mw_817)) (fun _ h9 => h9) rfl dX0_writeWeights_29 ?_
  obtain ⟨b10, ho10, hc10, hk10, hF⟩ := dr_some hF
  refine W_st (st' := [.ref (ad b10)]) (by rw [va_some ho10]) ?_
  refine va_get (D := D) (ci := 9) (v := va_re ad (M9.2 b10 1)) (C := RX9) (T := TX9) (N := 20) hx hb hts (mus hf_X9) hown hK hP b10 (wld_o ct ad (xt G []) M9 hc10 hk10 (by decide)) rfl 1 (by decide) (hts (.fieldLink RX0 81 "VideoSuite$Work" "head" "LVideoSuite$Header;") (mu mw_425)) (fun _ h9 => h9) rfl dX0_writeWeights_32 ?_
  obtain ⟨b11, ho11, hc11, hk11, hF⟩ := dr_some hF
  refine W_st (st' := [.ref (ad b11)]) (by rw [va_some ho11]) ?_
  obtain ⟨y12, hy12, hF⟩ := bnd_some hF
  have hf9 := wA_in hD hA9 hS
  refine va_callv (va_runV (As := []) (rest := []) ⟨hx, hb, hml, hown, hts⟩ (kX3_clearWeights l D ct ad Z (xt G []) M9 H.size b11 y12 hc11 hk11 hy12) (cwV 0 hts gX0_writeWeights_X3_clearWeights rfl rfl rfl (by decide +kernel) ⟨Nat.le_of_ble_eq_true rfl, Nat.le_of_ble_eq_true rfl⟩) ⟨fun a U g mk q => by obtain ⟨q0, q1, qP, qK, qD, qZ, qN⟩ := q; exact ⟨q0, q1, qP, va_K.moved (u := U) (U := U.calling g mk a) (Vm.Alike.refl U.vm) qK, qD, sF.moved (u := U) (U := U.calling g mk a) (Vm.Alike.refl U.vm) qZ, nF.same rfl qN⟩, va_recv hK hP (ci := 3) (q0 := b11) rfl (wld_o ct ad (xt G []) M9 hc11 hk11 (by decide)), fun U hU hW => ⟨rfl, by rw [hU], by rw [hU]; exact hP, va_K.moved hW.alike hK, hD.weaken (fun _ _ _ _ => trivial), by rw [hU]; exact ((hZ.kept hS.2.1).narrow hf9).moved hW.alike, hN.warm hW⟩⟩ rfl rfl hl.1 rfl (lv_room (Nat.le_of_ble_eq_true rfl)) dX0_writeWeights_35 (room_d hT hbl)) hS (fun q _ h => hf9 q h) hf9 (fun u t H locs ht hvm hw hB hz1 hk1 hS => ?_)
  obtain ⟨hP, hK9, hD9⟩ := hB
  rw [ht] at hP
  refine W_cs (k := ([] : NN).length) (n := wt []) rfl rfl ?_
  have hD := hD9.weaken (fun _ q _ h => hf9 q.1 h)
  refine lv_aload_n hx hb dX0_writeWeights_38 rfl (lv_at hl 0 rfl) ?_
  refine va_get (D := D) (ci := 0) (v := va_re ad (y12.2 a 2)) (C := RX0) (T := TX0) (N := 21) hx hb hts (mus hf_X0) hown hK hP a (wld_o ct ad (xt G []) y12 hc hk (by decide)) rfl 2 (by decide) (hts (.fieldLink RX0 29 "VideoSuite$Coder" "writer" "LVideoSuite$Writer;") (mu mw_815)) (fun _ h9 => h9) rfl dX0_writeWeights_39 ?_
  refine lv_iconst (v := (0 : Int32)) hx hb dX0_writeWeights_42 (by decide) ?_
  refine lv_iconst (v := (5 : Int32)) hx hb dX0_writeWeights_43 (by decide) ?_
  obtain ⟨b13, ho13, hc13, hk13, hF⟩ := dr_some hF
  refine W_st (st' := [.int (5 : Int32), .int (0 : Int32), .ref (ad b13)]) (by rw [va_some ho13]) ?_
  obtain ⟨y14, hy14, hF⟩ := bnd_some hF
  obtain ⟨w15, hF, ew15⟩ := app_some hF
  obtain ⟨L16, eL16, hF⟩ := ltt_some hF
  have hT16 : y.1 = ([] ++ y14.1) ++ w15.1 := by rw [hT, ew15]; simp only [List.append_assoc]
  have hf9 := wA_in hD hA9 hS
  refine va_callv (va_runV (As := [.int (0 : Int32), .int (5 : Int32)]) (rest := []) ⟨hx, hb, hml, hown, hts⟩ (kX10_ue l D ct ad Z (xt G []) y12 _ b13 ((0 : Int32)) ((5 : Int32)) y14 hc13 hk13 hy14) (cwV 2 hts gX0_writeWeights_X10_ue rfl rfl rfl (by decide +kernel) ⟨Nat.le_of_ble_eq_true rfl, Nat.le_of_ble_eq_true rfl⟩) ⟨fun a U g mk q => by obtain ⟨q0, q1, qP, qK, qD, qZ, qN⟩ := q; exact ⟨q0, q1, qP, va_K.moved (u := U) (U := U.calling g mk a) (Vm.Alike.refl U.vm) qK, qD, sF.moved (u := U) (U := U.calling g mk a) (Vm.Alike.refl U.vm) qZ, nF.same rfl qN⟩, va_recv hK hP (ci := 10) (q0 := b13) rfl (wld_o ct ad (xt G []) y12 hc13 hk13 (by decide)), fun U hU hW => ⟨rfl, by rw [hU], by rw [hU]; exact hP, va_K.moved hW.alike hK, hD.weaken (fun _ _ _ _ => trivial), by rw [hU]; exact ((hZ.kept hS.2.1).narrow hf9).moved hW.alike, hN.warm hW⟩⟩ rfl rfl hl.1 rfl (lv_room (Nat.le_of_ble_eq_true rfl)) dX0_writeWeights_44 (room_s hT16 hbl)) hS (fun q _ h => hf9 q h) hf9 (fun ad17 t H locs ht hvm hw hB hz1 hk1 hS => ?_)
  have hn18 := hw
  obtain ⟨hP, hK9, hD9⟩ := hB
  rw [ht] at hP
  have hD := hD9.weaken (fun _ q _ h => hf9 q.1 h)
  rw [xt_xt, ← eL16] at hP hD
  refine W_cs (k := L16.length) (n := wt L16) (by rw [eL16]; exact (len_s [] y14.1).symm) (by rw [eL16]; exact (wt_app [] y14.1).symm) ?_
  have hT : y.1 = L16 ++ w15.1 := by rw [hT16, eL16]
  have h2 : y.2 = w15.2 := by rw [h2, ew15]
  have hl := lv_sub (l' := [(0, .ref (ad a))]) hl [0] rfl
  have e9 : ([(0, .ref (ad a))] : List (Nat × Value)) = [(0, .ref (ad17 a))] := (by first | rfl | simp only [hn18 a hc])
  rw [e9] at hl
  clear e9
  have hk : (xt G L16).2.1 a = 0 := by rw [eL16]; exact xt_k _ hc hk
  have hc : a < (xt G L16).1 := by rw [eL16]; exact xt_l _ hc
  have hk2 : (xt G L16).2.1 b2 = 9 := by rw [eL16]; exact xt_k _ hc2 hk2
  have hc2 : b2 < (xt G L16).1 := by rw [eL16]; exact xt_l _ hc2
  have hk3 : (xt G L16).2.1 b3 = 3 := by rw [eL16]; exact xt_k _ hc3 hk3
  have hc3 : b3 < (xt G L16).1 := by rw [eL16]; exact xt_l _ hc3
  have hk4 : (xt G L16).2.1 b4 = 13 := by rw [eL16]; exact xt_k _ hc4 hk4
  have hc4 : b4 < (xt G L16).1 := by rw [eL16]; exact xt_l _ hc4
  have hk6 : (xt G L16).2.1 b6 = 9 := by rw [eL16]; exact xt_k _ hc6 hk6
  have hc6 : b6 < (xt G L16).1 := by rw [eL16]; exact xt_l _ hc6
  have hk7 : (xt G L16).2.1 b7 = 3 := by rw [eL16]; exact xt_k _ hc7 hk7
  have hc7 : b7 < (xt G L16).1 := by rw [eL16]; exact xt_l _ hc7
  have hk8 : (xt G L16).2.1 b8 = 13 := by rw [eL16]; exact xt_k _ hc8 hk8
  have hc8 : b8 < (xt G L16).1 := by rw [eL16]; exact xt_l _ hc8
  have hk10 : (xt G L16).2.1 b10 = 9 := by rw [eL16]; exact xt_k _ hc10 hk10
  have hc10 : b10 < (xt G L16).1 := by rw [eL16]; exact xt_l _ hc10
  have hk11 : (xt G L16).2.1 b11 = 3 := by rw [eL16]; exact xt_k _ hc11 hk11
  have hc11 : b11 < (xt G L16).1 := by rw [eL16]; exact xt_l _ hc11
  have hk13 : (xt G L16).2.1 b13 = 10 := by rw [eL16]; exact xt_k _ hc13 hk13
  have hc13 : b13 < (xt G L16).1 := by rw [eL16]; exact xt_l _ hc13
  have hag := agr_t (xt_ge _ _) hag hn18
  refine lv_aload_n hx hb dX0_writeWeights_47 rfl (lv_at hl 0 rfl) ?_
  refine va_get (D := D) (ci := 0) (v := va_re ad17 (y14.2.2 a 2)) (C := RX0) (T := TX0) (N := 21) hx hb hts (mus hf_X0) hown hK hP a (wld_o ct ad17 (xt G L16) y14.2 hc hk (by decide)) rfl 2 (by decide) (hts (.fieldLink RX0 29 "VideoSuite$Coder" "writer" "LVideoSuite$Writer;") (mu mw_815)) (fun _ h9 => h9) rfl dX0_writeWeights_48 ?_
  refine lv_iconst (v := (0 : Int32)) hx hb dX0_writeWeights_51 (by decide) ?_
  refine lv_iconst (v := (5 : Int32)) hx hb dX0_writeWeights_52 (by decide) ?_
  obtain ⟨b19, ho19, hc19, hk19, hF⟩ := dr_some hF
  refine W_st (st' := [.int (5 : Int32), .int (0 : Int32), .ref (ad17 b19)]) (by rw [va_some ho19]) ?_
  obtain ⟨y20, hy20, hF⟩ := bnd_some hF
  obtain ⟨w21, hF, ew21⟩ := app_some hF
  obtain ⟨L22, eL22, hF⟩ := ltt_some hF
  have hT22 : y.1 = (L16 ++ y20.1) ++ w21.1 := by rw [hT, ew21]; simp only [List.append_assoc]
  have hf9 := wA_in hD hA9 hS
  refine va_callv (va_runV (As := [.int (0 : Int32), .int (5 : Int32)]) (rest := []) ⟨hx, hb, hml, hown, hts⟩ (kX10_ue l D ct ad17 Z (xt G L16) y14.2 _ b19 ((0 : Int32)) ((5 : Int32)) y20 hc19 hk19 hy20) (cwV 2 hts gX0_writeWeights_X10_ue rfl rfl rfl (by decide +kernel) ⟨Nat.le_of_ble_eq_true rfl, Nat.le_of_ble_eq_true rfl⟩) ⟨fun a U g mk q => by obtain ⟨q0, q1, qP, qK, qD, qZ, qN⟩ := q; exact ⟨q0, q1, qP, va_K.moved (u := U) (U := U.calling g mk a) (Vm.Alike.refl U.vm) qK, qD, sF.moved (u := U) (U := U.calling g mk a) (Vm.Alike.refl U.vm) qZ, nF.same rfl qN⟩, va_recv hK hP (ci := 10) (q0 := b19) rfl (wld_o ct ad17 (xt G L16) y14.2 hc19 hk19 (by decide)), fun U hU hW => ⟨rfl, by rw [hU], by rw [hU]; exact hP, va_K.moved hW.alike hK, hD.weaken (fun _ _ _ _ => trivial), by rw [hU]; exact ((hZ.kept hS.2.1).narrow hf9).moved hW.alike, hN.warm hW⟩⟩ rfl rfl hl.1 rfl (lv_room (Nat.le_of_ble_eq_true rfl)) dX0_writeWeights_53 (room_s hT22 hbl)) hS (fun q _ h => hf9 q h) hf9 (fun ad23 t H locs ht hvm hw hB hz1 hk1 hS => ?_)
  have hn24 := hw
  obtain ⟨hP, hK9, hD9⟩ := hB
  rw [ht] at hP
  have hD := hD9.weaken (fun _ q _ h => hf9 q.1 h)
  rw [xt_xt, ← eL22] at hP hD
  refine W_cs (k := L22.length) (n := wt L22) (by rw [eL22]; exact (len_s L16 y20.1).symm) (by rw [eL22]; exact (wt_app L16 y20.1).symm) ?_
  have hT : y.1 = L22 ++ w21.1 := by rw [hT22, eL22]
  have h2 : y.2 = w21.2 := by rw [h2, ew21]
  have hl := lv_sub (l' := [(0, .ref (ad17 a))]) hl [0] rfl
  have e9 : ([(0, .ref (ad17 a))] : List (Nat × Value)) = [(0, .ref (ad23 a))] := (by first | rfl | simp only [hn24 a hc])
  rw [e9] at hl
  clear e9
  have hk : (xt G L22).2.1 a = 0 := by rw [eL22]; exact xt_k _ hc hk
  have hc : a < (xt G L22).1 := by rw [eL22]; exact xt_l _ hc
  have hk2 : (xt G L22).2.1 b2 = 9 := by rw [eL22]; exact xt_k _ hc2 hk2
  have hc2 : b2 < (xt G L22).1 := by rw [eL22]; exact xt_l _ hc2
  have hk3 : (xt G L22).2.1 b3 = 3 := by rw [eL22]; exact xt_k _ hc3 hk3
  have hc3 : b3 < (xt G L22).1 := by rw [eL22]; exact xt_l _ hc3
  have hk4 : (xt G L22).2.1 b4 = 13 := by rw [eL22]; exact xt_k _ hc4 hk4
  have hc4 : b4 < (xt G L22).1 := by rw [eL22]; exact xt_l _ hc4
  have hk6 : (xt G L22).2.1 b6 = 9 := by rw [eL22]; exact xt_k _ hc6 hk6
  have hc6 : b6 < (xt G L22).1 := by rw [eL22]; exact xt_l _ hc6
  have hk7 : (xt G L22).2.1 b7 = 3 := by rw [eL22]; exact xt_k _ hc7 hk7
  have hc7 : b7 < (xt G L22).1 := by rw [eL22]; exact xt_l _ hc7
  have hk8 : (xt G L22).2.1 b8 = 13 := by rw [eL22]; exact xt_k _ hc8 hk8
  have hc8 : b8 < (xt G L22).1 := by rw [eL22]; exact xt_l _ hc8
  have hk10 : (xt G L22).2.1 b10 = 9 := by rw [eL22]; exact xt_k _ hc10 hk10
  have hc10 : b10 < (xt G L22).1 := by rw [eL22]; exact xt_l _ hc10
  have hk11 : (xt G L22).2.1 b11 = 3 := by rw [eL22]; exact xt_k _ hc11 hk11
  have hc11 : b11 < (xt G L22).1 := by rw [eL22]; exact xt_l _ hc11
  have hk13 : (xt G L22).2.1 b13 = 10 := by rw [eL22]; exact xt_k _ hc13 hk13
  have hc13 : b13 < (xt G L22).1 := by rw [eL22]; exact xt_l _ hc13
  have hk19 : (xt G L22).2.1 b19 = 10 := by rw [eL22]; exact xt_k _ hc19 hk19
  have hc19 : b19 < (xt G L22).1 := by rw [eL22]; exact xt_l _ hc19
  have hag := agr_t (xt_ge _ _) hag hn24
  refine lv_iconst (v := (0 : Int32)) hx hb dX0_writeWeights_56 (by decide) ?_
  refine lv_istore_n (lv' := [(1, .int (0 : Int32)), (0, .ref (ad23 a))]) hx hb dX0_writeWeights_57 rfl hl (by decide) rfl (fun ls hl => ?_)
  obtain ⟨y25, hy25, hF⟩ := bnd_some hF
  obtain ⟨w27, hF, ew27⟩ := app_some hF
  obtain ⟨L28, eL28, hF⟩ := ltt_some hF
  have hT28 : y.1 = (L22 ++ y25.1) ++ w27.1 := by rw [hT, ew27]; simp only [List.append_assoc]
  have hbl28 : L28.length ≤ y.1.length ∧ wt L28 ≤ wt y.1 := by rw [eL28]; exact room_d hT28 hbl
  have K25 : ∀ (ad29 : Nat → Nat), agr G.1 ad ad29 → ∀ (H : Heap) (locs : List Loc) (ls : Array Slot), va_P D classes (wld ct ad29 (xt G L28) y25.2.2) H → va_D A (wld ct ad29 (xt G L28) y25.2.2) → va_S A s.heap H locs → lv_has ls 3 [] → W p l e (headSpec wuX0_writeWeights ({ frames := 6, cells := y.1.length, slots := wt y.1, locals := 198 })).room s m ([.ref (ad a)] : List Value).toArray below meth c H locs (L28 : NN).length (wt L28) (MQ below (va_Qv (fun (u : Nat → Nat) => agr G.1 ad u) (fun u t => kE D ct u (xt G y.1) A y.2 t) A) ([.ref (ad a)] : List Value).toArray s y.1.length (wt y.1) A) (F0 m 191 ls []) := by
    intro ad29 hag H locs ls hP hD hS hl
    have hT : y.1 = L28 ++ w27.1 := by rw [hT28, eL28]
    have h2 : y.2 = w27.2 := by rw [h2, ew27]
    have hk : (xt G L28).2.1 a = 0 := by rw [eL28]; exact xt_k _ hc hk
    have hc : a < (xt G L28).1 := by rw [eL28]; exact xt_l _ hc
    have hk2 : (xt G L28).2.1 b2 = 9 := by rw [eL28]; exact xt_k _ hc2 hk2
    have hc2 : b2 < (xt G L28).1 := by rw [eL28]; exact xt_l _ hc2
    have hk3 : (xt G L28).2.1 b3 = 3 := by rw [eL28]; exact xt_k _ hc3 hk3
    have hc3 : b3 < (xt G L28).1 := by rw [eL28]; exact xt_l _ hc3
    have hk4 : (xt G L28).2.1 b4 = 13 := by rw [eL28]; exact xt_k _ hc4 hk4
    have hc4 : b4 < (xt G L28).1 := by rw [eL28]; exact xt_l _ hc4
    have hk6 : (xt G L28).2.1 b6 = 9 := by rw [eL28]; exact xt_k _ hc6 hk6
    have hc6 : b6 < (xt G L28).1 := by rw [eL28]; exact xt_l _ hc6
    have hk7 : (xt G L28).2.1 b7 = 3 := by rw [eL28]; exact xt_k _ hc7 hk7
    have hc7 : b7 < (xt G L28).1 := by rw [eL28]; exact xt_l _ hc7
    have hk8 : (xt G L28).2.1 b8 = 13 := by rw [eL28]; exact xt_k _ hc8 hk8
    have hc8 : b8 < (xt G L28).1 := by rw [eL28]; exact xt_l _ hc8
    have hk10 : (xt G L28).2.1 b10 = 9 := by rw [eL28]; exact xt_k _ hc10 hk10
    have hc10 : b10 < (xt G L28).1 := by rw [eL28]; exact xt_l _ hc10
    have hk11 : (xt G L28).2.1 b11 = 3 := by rw [eL28]; exact xt_k _ hc11 hk11
    have hc11 : b11 < (xt G L28).1 := by rw [eL28]; exact xt_l _ hc11
    have hk13 : (xt G L28).2.1 b13 = 10 := by rw [eL28]; exact xt_k _ hc13 hk13
    have hc13 : b13 < (xt G L28).1 := by rw [eL28]; exact xt_l _ hc13
    have hk19 : (xt G L28).2.1 b19 = 10 := by rw [eL28]; exact xt_k _ hc19 hk19
    have hc19 : b19 < (xt G L28).1 := by rw [eL28]; exact xt_l _ hc19
    obtain rfl := Option.some.inj hF
    have e1 : y.1 = L28 := by rw [hT]; exact List.append_nil _
    have e2 : y.2 = y25.2.2 := h2
    refine W.widen (k := y.1.length) (n := wt y.1) (Nat.le_of_eq (by rw [e1])) (Nat.le_of_eq (by rw [e1])) ?_
    exact W.vret hx hb hr (fun t ht hW => ⟨⟨ad29, rfl, hag, (by unfold kE; rw [e1, e2]; exact ⟨by rw [ht]; exact hP, va_K.moved hW.alike hK, hD⟩)⟩, hS.F ht⟩) hS.2.2 dX0_writeWeights_191
  clear hF
  refine itrA_rule (fun (s26 : NN × Int32 × DD) (r31 : NN) => (∃ t, s26.1 = L22 ++ t) → L28 = s26.1 ++ r31 → ∀ (ad30 : Nat → Nat), agr G.1 ad ad30 → ∀ (H : Heap) (locs : List Loc) (ls : Array Slot), va_P D classes (wld ct ad30 (xt G s26.1) s26.2.2) H → va_D A (wld ct ad30 (xt G s26.1) s26.2.2) → va_S A s.heap H locs → lv_has ls 3 [(1, .int s26.2.1), (0, .ref (ad30 a))] → W p l e (headSpec wuX0_writeWeights ({ frames := 6, cells := y.1.length, slots := wt y.1, locals := 198 })).room s m ([.ref (ad a)] : List Value).toArray below meth c H locs (s26.1 : NN).length (wt s26.1) (MQ below (va_Qv (fun (u : Nat → Nat) => agr G.1 ad u) (fun u t => kE D ct u (xt G y.1) A y.2 t) A) ([.ref (ad a)] : List Value).toArray s y.1.length (wt y.1) A) (F0 m 58 ls [])) ?_ _ _ _ hy25 ⟨[], (List.append_nil _).symm⟩ eL28 _ hag _ _ _ hP hD hS (lv_sub hl [0, 1] rfl)
  rintro s26 r31 ⟨z32, hF, ⟨t25, et25⟩, hwz32⟩ ⟨u25, eu25⟩ eq25 ad30 hag H locs ls hP hD hS hl
  try dsimp only at hF
  obtain ⟨L33, eL33⟩ : ∃ x, x = s26.1 ++ z32.1 := ⟨_, rfl⟩
  obtain ⟨w34, hw34⟩ : ∃ x, x = z32 := ⟨_, rfl⟩
  rw [← hw34] at hF
  have hbl : L33.length ≤ y.1.length ∧ wt L33 ≤ wt y.1 := room_d (show L28 = L33 ++ t25 by rw [eq25, et25, eL33]; simp only [List.append_assoc]) hbl28
  have hT : L33 = s26.1 ++ w34.1 := by rw [eL33, hw34]
  have h2 : z32.2 = w34.2 := by rw [hw34]
  have hk : (xt G s26.1).2.1 a = 0 := by rw [eu25]; exact xt_k _ hc hk
  have hc : a < (xt G s26.1).1 := by rw [eu25]; exact xt_l _ hc
  have hk2 : (xt G s26.1).2.1 b2 = 9 := by rw [eu25]; exact xt_k _ hc2 hk2
  have hc2 : b2 < (xt G s26.1).1 := by rw [eu25]; exact xt_l _ hc2
  have hk3 : (xt G s26.1).2.1 b3 = 3 := by rw [eu25]; exact xt_k _ hc3 hk3
  have hc3 : b3 < (xt G s26.1).1 := by rw [eu25]; exact xt_l _ hc3
  have hk4 : (xt G s26.1).2.1 b4 = 13 := by rw [eu25]; exact xt_k _ hc4 hk4
  have hc4 : b4 < (xt G s26.1).1 := by rw [eu25]; exact xt_l _ hc4
  have hk6 : (xt G s26.1).2.1 b6 = 9 := by rw [eu25]; exact xt_k _ hc6 hk6
  have hc6 : b6 < (xt G s26.1).1 := by rw [eu25]; exact xt_l _ hc6
  have hk7 : (xt G s26.1).2.1 b7 = 3 := by rw [eu25]; exact xt_k _ hc7 hk7
  have hc7 : b7 < (xt G s26.1).1 := by rw [eu25]; exact xt_l _ hc7
  have hk8 : (xt G s26.1).2.1 b8 = 13 := by rw [eu25]; exact xt_k _ hc8 hk8
  have hc8 : b8 < (xt G s26.1).1 := by rw [eu25]; exact xt_l _ hc8
  have hk10 : (xt G s26.1).2.1 b10 = 9 := by rw [eu25]; exact xt_k _ hc10 hk10
  have hc10 : b10 < (xt G s26.1).1 := by rw [eu25]; exact xt_l _ hc10
  have hk11 : (xt G s26.1).2.1 b11 = 3 := by rw [eu25]; exact xt_k _ hc11 hk11
  have hc11 : b11 < (xt G s26.1).1 := by rw [eu25]; exact xt_l _ hc11
  have hk13 : (xt G s26.1).2.1 b13 = 10 := by rw [eu25]; exact xt_k _ hc13 hk13
  have hc13 : b13 < (xt G s26.1).1 := by rw [eu25]; exact xt_l _ hc13
  have hk19 : (xt G s26.1).2.1 b19 = 10 := by rw [eu25]; exact xt_k _ hc19 hk19
  have hc19 : b19 < (xt G s26.1).1 := by rw [eu25]; exact xt_l _ hc19
  refine lv_iload_n hx hb dX0_writeWeights_58 rfl (lv_at hl 0 rfl) ?_
  refine lv_aload_n hx hb dX0_writeWeights_59 rfl (lv_at hl 1 rfl) ?_
  refine va_get (D := D) (ci := 0) (v := va_re ad30 (s26.2.2.2 a 3)) (C := RX0) (T := TX0) (N := 21) hx hb hts (mus hf_X0) hown hK hP a (wld_o ct ad30 (xt G s26.1) s26.2.2 hc hk (by decide)) rfl 3 (by decide) (hts (.fieldLink RX0 36 "VideoSuite$Coder" "work" "LVideoSuite$Work;") (mu mw_817)) (fun _ h9 => h9) rfl dX0_writeWeights_60 ?_
  obtain ⟨b35, ho35, hc35, hk35, hF⟩ := dr_some hF
  refine W_st (st' := [.ref (ad30 b35), .int s26.2.1]) (by rw [va_some ho35]) ?_
  refine va_get (D := D) (ci := 9) (v := va_re ad30 (s26.2.2.2 b35 1)) (C := RX9) (T := TX9) (N := 20) hx hb hts (mus hf_X9) hown hK hP b35 (wld_o ct ad30 (xt G s26.1) s26.2.2 hc35 hk35 (by decide)) rfl 1 (by decide) (hts (.fieldLink RX0 81 "VideoSuite$Work" "head" "LVideoSuite$Header;") (mu mw_425)) (fun _ h9 => h9) rfl dX0_writeWeights_63 ?_
  obtain ⟨b36, ho36, hc36, hk36, hF⟩ := dr_some hF
  refine W_st (st' := [.ref (ad30 b36), .int s26.2.1]) (by rw [va_some ho36]) ?_
  refine va_get (D := D) (ci := 3) (v := va_re ad30 (s26.2.2.2 b36 0)) (C := RX3) (T := TX3) (N := 4) hx hb hts (mus hf_X3) hown hK hP b36 (wld_o ct ad30 (xt G s26.1) s26.2.2 hc36 hk36 (by decide)) rfl 0 (by decide) (hts (.fieldLink RX0 252 "VideoSuite$Header" "v" "[I") (mu mw_620)) (fun _ h9 => h9) rfl dX0_writeWeights_66 ?_
  refine lv_bipush (v := (9 : Int32)) hx hb dX0_writeWeights_69 (by decide) ?_
  obtain ⟨b37, ho37, hc37, hk37, hF⟩ := dr_some hF
  refine W_st (st' := [.int (9 : Int32), .ref (ad30 b37), .int s26.2.1]) (by rw [va_some ho37]) ?_
  obtain ⟨hvc, hF⟩ := chk_some hF
  refine va_iald hx hb hK hP b37 1 (wld_i ct ad30 (xt G s26.1) s26.2.2 hc37 hk37) rfl hvc dX0_writeWeights_71 ?_
  obtain ⟨x38, ex38, hF⟩ := ltt_some hF
  refine lv_topi (fun zx38 ezx38 => ?_)
  obtain rfl : x38 = zx38 := ex38.trans ezx38.symm
  refine lv_icmp_ge (tgt := 191) hx hb dX0_writeWeights_72 (by decide) (fun c39 => ?_) (fun c39 => ?_)
  · rw [if_pos c39] at hF
    obtain rfl := Option.some.inj hF
    have e1 : L33 = s26.1 := by rw [hT]; exact List.append_nil _
    have e2 : z32.2 = .inr ((s26.2.1, s26.2.2)) := h2
    rw [e2] at hwz32
    obtain ⟨hw1, hw2⟩ := hwz32
    have e8 : L28 = s26.1 := by rw [eq25, hw2, ← eL33, e1]
    rw [e8] at K25
    try rw [← hw1] at K25
    exact K25 _ hag _ _ _ hP hD hS (lv_sub hl [] rfl)
  · rw [if_neg c39] at hF
    refine lv_iload_n hx hb dX0_writeWeights_75 rfl (lv_at hl 0 rfl) ?_
    refine lv_bipush (v := (8 : Int32)) hx hb dX0_writeWeights_76 (by decide) ?_
    refine lv_icmp_ge (tgt := 191) hx hb dX0_writeWeights_78 (by decide) (fun c40 => ?_) (fun c40 => ?_)
    · rw [if_pos c40] at hF
      obtain rfl := Option.some.inj hF
      have e1 : L33 = s26.1 := by rw [hT]; exact List.append_nil _
      have e2 : z32.2 = .inr ((s26.2.1, s26.2.2)) := h2
      rw [e2] at hwz32
      obtain ⟨hw1, hw2⟩ := hwz32
      have e8 : L28 = s26.1 := by rw [eq25, hw2, ← eL33, e1]
      rw [e8] at K25
      try rw [← hw1] at K25
      exact K25 _ hag _ _ _ hP hD hS (lv_sub hl [] rfl)
    · rw [if_neg c40] at hF
      refine lv_iconst (v := (0 : Int32)) hx hb dX0_writeWeights_81 (by decide) ?_
      refine lv_iload_n hx hb dX0_writeWeights_82 rfl (lv_at hl 0 rfl) ?_
      refine lv_iconst (v := (0 : Int32)) hx hb dX0_writeWeights_83 (by decide) ?_
      obtain ⟨y41, hy41, hF⟩ := bnd_some hF
      have hf9 := wA_in hD hA9 hS
      refine va_calli (va_runS (As := [.int (0 : Int32), .int s26.2.1, .int (0 : Int32)]) (rest := []) ⟨hx, hb, hml, hown, hts⟩ (kX3_weightAt l D ct ad30 Z (xt G s26.1) s26.2.2 H.size ((0 : Int32)) s26.2.1 ((0 : Int32)) y41 hy41) (va_cwS 3 hts gX0_writeWeights_X3_weightAt rfl rfl rfl (by decide +kernel) ⟨Nat.le_of_ble_eq_true rfl, Nat.le_of_ble_eq_true rfl⟩) ⟨fun a U g mk q => by obtain ⟨q0, q1, qP, qK, qD, qZ, qN⟩ := q; exact ⟨q0, q1, qP, va_K.moved (u := U) (U := U.calling g mk a) (Vm.Alike.refl U.vm) qK, qD, sF.moved (u := U) (U := U.calling g mk a) (Vm.Alike.refl U.vm) qZ, nF.same rfl qN⟩, fun U hU hW => ⟨rfl, by rw [hU], by rw [hU]; exact hP, va_K.moved hW.alike hK, hD.weaken (fun _ _ _ _ => trivial), by rw [hU]; exact ((hZ.kept hS.2.1).narrow hf9).moved hW.alike, hN.warm hW⟩⟩ rfl rfl hl.1 rfl (lv_room (Nat.le_of_ble_eq_true rfl)) dX0_writeWeights_84 (room_d hT hbl)) hS (fun q _ h => hf9 q h) hf9 (fun r u t H locs ht hvm hw hB hz1 hk1 hS => ?_)
      obtain ⟨hP, hK9, hD9⟩ := hB
      rw [ht] at hP
      try dsimp only at hw
      subst hw
      refine W_cs (k := (s26.1 : NN).length) (n := wt s26.1) rfl rfl ?_
      have hD := hD9.weaken (fun _ q _ h => hf9 q.1 h)
      refine lv_istore_n (lv' := [(2, .int y41.2), (1, .int s26.2.1), (0, .ref (ad30 a))]) hx hb dX0_writeWeights_87 rfl hl (by decide) rfl (fun ls hl => ?_)
      refine lv_aload_n hx hb dX0_writeWeights_88 rfl (lv_at hl 2 rfl) ?_
      refine va_get (D := D) (ci := 0) (v := va_re ad30 (y41.1.2 a 3)) (C := RX0) (T := TX0) (N := 21) hx hb hts (mus hf_X0) hown hK hP a (wld_o ct ad30 (xt G s26.1) y41.1 hc hk (by decide)) rfl 3 (by decide) (hts (.fieldLink RX0 36 "VideoSuite$Coder" "work" "LVideoSuite$Work;") (mu mw_817)) (fun _ h9 => h9) rfl dX0_writeWeights_89 ?_
      obtain ⟨b42, ho42, hc42, hk42, hF⟩ := dr_some hF
      refine W_st (st' := [.ref (ad30 b42)]) (by rw [va_some ho42]) ?_
      refine va_get (D := D) (ci := 9) (v := va_re ad30 (y41.1.2 b42 1)) (C := RX9) (T := TX9) (N := 20) hx hb hts (mus hf_X9) hown hK hP b42 (wld_o ct ad30 (xt G s26.1) y41.1 hc42 hk42 (by decide)) rfl 1 (by decide) (hts (.fieldLink RX0 81 "VideoSuite$Work" "head" "LVideoSuite$Header;") (mu mw_425)) (fun _ h9 => h9) rfl dX0_writeWeights_92 ?_
      obtain ⟨b43, ho43, hc43, hk43, hF⟩ := dr_some hF
      refine W_st (st' := [.ref (ad30 b43)]) (by rw [va_some ho43]) ?_
      refine va_get (D := D) (ci := 3) (v := va_re ad30 (y41.1.2 b43 3)) (C := RX3) (T := TX3) (N := 4) hx hb hts (mus hf_X3) hown hK hP b43 (wld_o ct ad30 (xt G s26.1) y41.1 hc43 hk43 (by decide)) rfl 3 (by decide) (hts (.fieldLink RX0 331 "VideoSuite$Header" "weight" "[I") (mu mw_630)) (fun _ h9 => h9) rfl dX0_writeWeights_95 ?_
      refine lv_iload_n hx hb dX0_writeWeights_98 rfl (lv_at hl 0 rfl) ?_
      refine lv_bipush (v := (32 : Int32)) hx hb dX0_writeWeights_99 (by decide) ?_
      refine lv_aload_n hx hb dX0_writeWeights_101 rfl (lv_at hl 2 rfl) ?_
      refine lv_bipush (v := (9 : Int32)) hx hb dX0_writeWeights_102 (by decide) ?_
      obtain ⟨y44, hy44, hF⟩ := bnd_some hF
      have hf9 := wA_in hD hA9 hS
      refine va_calli (va_runV (As := [.int (9 : Int32)]) (rest := [.int (32 : Int32), .int y41.2, va_re ad30 (y41.1.2 b43 3)]) ⟨hx, hb, hml, hown, hts⟩ (kX0_draw l D ct ad30 Z (xt G s26.1) y41.1 H.size a ((9 : Int32)) y44 hc hk hy44) (cwV 1 hts gX0_writeWeights_X0_draw rfl rfl rfl (by decide +kernel) ⟨Nat.le_of_ble_eq_true rfl, Nat.le_of_ble_eq_true rfl⟩) ⟨fun a U g mk q => by obtain ⟨q0, q1, qP, qK, qD, qZ, qN⟩ := q; exact ⟨q0, q1, qP, va_K.moved (u := U) (U := U.calling g mk a) (Vm.Alike.refl U.vm) qK, qD, sF.moved (u := U) (U := U.calling g mk a) (Vm.Alike.refl U.vm) qZ, nF.same rfl qN⟩, va_recv hK hP (ci := 0) (q0 := a) rfl (wld_o ct ad30 (xt G s26.1) y41.1 hc hk (by decide)), fun U hU hW => ⟨rfl, by rw [hU], by rw [hU]; exact hP, va_K.moved hW.alike hK, hD.weaken (fun _ _ _ _ => trivial), by rw [hU]; exact ((hZ.kept hS.2.1).narrow hf9).moved hW.alike, hN.warm hW⟩⟩ rfl rfl hl.1 rfl (lv_room (by simp only [List.map, va_re_cat]; exact Nat.le_of_ble_eq_true rfl)) dX0_writeWeights_104 (room_d hT hbl)) hS (fun q _ h => hf9 q h) hf9 (fun r u t H locs ht hvm hw hB hz1 hk1 hS => ?_)
      obtain ⟨hP, hK9, hD9⟩ := hB
      rw [ht] at hP
      try dsimp only at hw
      subst hw
      refine W_cs (k := (s26.1 : NN).length) (n := wt s26.1) rfl rfl ?_
      have hD := hD9.weaken (fun _ q _ h => hf9 q.1 h)
      refine lv_iadd hx hb dX0_writeWeights_107 ?_
      obtain ⟨x45, ex45, hF⟩ := ltt_some hF
      refine lv_topi (fun zx45 ezx45 => ?_)
      obtain rfl : x45 = zx45 := ex45.trans ezx45.symm
      refine lv_iconst (v := (4 : Int32)) hx hb dX0_writeWeights_108 (by decide) ?_
      refine lv_isub hx hb dX0_writeWeights_109 ?_
      obtain ⟨x46, ex46, hF⟩ := ltt_some hF
      refine lv_topi (fun zx46 ezx46 => ?_)
      obtain rfl : x46 = zx46 := ex46.trans ezx46.symm
      obtain ⟨b47, ho47, hc47, hk47, hF⟩ := dr_some hF
      refine W_st (st' := [.int x46, .int y41.2, .ref (ad30 b47)]) (by rw [va_some ho47]) ?_
      obtain ⟨hvc, hF⟩ := chk_some hF
      refine va_iast hx hb hK hP hD hS b47 1 (wld_i ct ad30 (xt G s26.1) y44.1 hc47 hk47) rfl hvc dX0_writeWeights_110 (fun H locs hP hD hS => ?_)
      obtain ⟨M48, eM48, hF⟩ := ltt_some hF
      rw [set_i ct ad30 (xt G s26.1) y44.1 hc47 hk47, ← eM48] at hP hD
      refine lv_aload_n hx hb dX0_writeWeights_111 rfl (lv_at hl 2 rfl) ?_
      refine va_get (D := D) (ci := 0) (v := va_re ad30 (M48.2 a 3)) (C := RX0) (T := TX0) (N := 21) hx hb hts (mus hf_X0) hown hK hP a (wld_o ct ad30 (xt G s26.1) M48 hc hk (by decide)) rfl 3 (by decide) (hts (.fieldLink RX0 36 "VideoSuite$Coder" "work" "LVideoSuite$Work;") (mu mw_817)) (fun _ h9 => h9) rfl dX0_writeWeights_112 ?_
      obtain ⟨b49, ho49, hc49, hk49, hF⟩ := dr_some hF
      refine W_st (st' := [.ref (ad30 b49)]) (by rw [va_some ho49]) ?_
      refine va_get (D := D) (ci := 9) (v := va_re ad30 (M48.2 b49 1)) (C := RX9) (T := TX9) (N := 20) hx hb hts (mus hf_X9) hown hK hP b49 (wld_o ct ad30 (xt G s26.1) M48 hc49 hk49 (by decide)) rfl 1 (by decide) (hts (.fieldLink RX0 81 "VideoSuite$Work" "head" "LVideoSuite$Header;") (mu mw_425)) (fun _ h9 => h9) rfl dX0_writeWeights_115 ?_
      obtain ⟨b50, ho50, hc50, hk50, hF⟩ := dr_some hF
      refine W_st (st' := [.ref (ad30 b50)]) (by rw [va_some ho50]) ?_
      refine va_get (D := D) (ci := 3) (v := va_re ad30 (M48.2 b50 3)) (C := RX3) (T := TX3) (N := 4) hx hb hts (mus hf_X3) hown hK hP b50 (wld_o ct ad30 (xt G s26.1) M48 hc50 hk50 (by decide)) rfl 3 (by decide) (hts (.fieldLink RX0 331 "VideoSuite$Header" "weight" "[I") (mu mw_630)) (fun _ h9 => h9) rfl dX0_writeWeights_118 ?_
      refine lv_iload_n hx hb dX0_writeWeights_121 rfl (lv_at hl 0 rfl) ?_
      refine lv_iconst (v := (1 : Int32)) hx hb dX0_writeWeights_122 (by decide) ?_
      refine lv_iadd hx hb dX0_writeWeights_123 ?_
      obtain ⟨x51, ex51, hF⟩ := ltt_some hF
      refine lv_topi (fun zx51 ezx51 => ?_)
      obtain rfl : x51 = zx51 := ex51.trans ezx51.symm
      refine lv_aload_n hx hb dX0_writeWeights_124 rfl (lv_at hl 2 rfl) ?_
      refine lv_bipush (v := (9 : Int32)) hx hb dX0_writeWeights_125 (by decide) ?_
      obtain ⟨y52, hy52, hF⟩ := bnd_some hF
      have hf9 := wA_in hD hA9 hS
      refine va_calli (va_runV (As := [.int (9 : Int32)]) (rest := [.int x51, va_re ad30 (M48.2 b50 3)]) ⟨hx, hb, hml, hown, hts⟩ (kX0_draw l D ct ad30 Z (xt G s26.1) M48 H.size a ((9 : Int32)) y52 hc hk hy52) (cwV 1 hts gX0_writeWeights_X0_draw rfl rfl rfl (by decide +kernel) ⟨Nat.le_of_ble_eq_true rfl, Nat.le_of_ble_eq_true rfl⟩) ⟨fun a U g mk q => by obtain ⟨q0, q1, qP, qK, qD, qZ, qN⟩ := q; exact ⟨q0, q1, qP, va_K.moved (u := U) (U := U.calling g mk a) (Vm.Alike.refl U.vm) qK, qD, sF.moved (u := U) (U := U.calling g mk a) (Vm.Alike.refl U.vm) qZ, nF.same rfl qN⟩, va_recv hK hP (ci := 0) (q0 := a) rfl (wld_o ct ad30 (xt G s26.1) M48 hc hk (by decide)), fun U hU hW => ⟨rfl, by rw [hU], by rw [hU]; exact hP, va_K.moved hW.alike hK, hD.weaken (fun _ _ _ _ => trivial), by rw [hU]; exact ((hZ.kept hS.2.1).narrow hf9).moved hW.alike, hN.warm hW⟩⟩ rfl rfl hl.1 rfl (lv_room (by simp only [List.map, va_re_cat]; exact Nat.le_of_ble_eq_true rfl)) dX0_writeWeights_127 (room_d hT hbl)) hS (fun q _ h => hf9 q h) hf9 (fun r u t H locs ht hvm hw hB hz1 hk1 hS => ?_)
      obtain ⟨hP, hK9, hD9⟩ := hB
      rw [ht] at hP
      try dsimp only at hw
      subst hw
      refine W_cs (k := (s26.1 : NN).length) (n := wt s26.1) rfl rfl ?_
      have hD := hD9.weaken (fun _ q _ h => hf9 q.1 h)
      refine lv_iconst (v := (4 : Int32)) hx hb dX0_writeWeights_130 (by decide) ?_
      refine lv_isub hx hb dX0_writeWeights_131 ?_
      obtain ⟨x53, ex53, hF⟩ := ltt_some hF
      refine lv_topi (fun zx53 ezx53 => ?_)
      obtain rfl : x53 = zx53 := ex53.trans ezx53.symm
      obtain ⟨b54, ho54, hc54, hk54, hF⟩ := dr_some hF
      refine W_st (st' := [.int x53, .int x51, .ref (ad30 b54)]) (by rw [va_some ho54]) ?_
      obtain ⟨hvc, hF⟩ := chk_some hF
      refine va_iast hx hb hK hP hD hS b54 1 (wld_i ct ad30 (xt G s26.1) y52.1 hc54 hk54) rfl hvc dX0_writeWeights_132 (fun H locs hP hD hS => ?_)
      obtain ⟨M55, eM55, hF⟩ := ltt_some hF
      rw [set_i ct ad30 (xt G s26.1) y52.1 hc54 hk54, ← eM55] at hP hD
      refine lv_aload_n hx hb dX0_writeWeights_133 rfl (lv_at hl 2 rfl) ?_
      refine lv_iconst (v := (1 : Int32)) hx hb dX0_writeWeights_134 (by decide) ?_
      obtain ⟨y56, hy56, hF⟩ := bnd_some hF
      obtain ⟨w57, hF, ew57⟩ := app_some hF
      obtain ⟨L58, eL58, hF⟩ := ltt_some hF
      have hT58 : L33 = (s26.1 ++ y56.1) ++ w57.1 := by rw [hT, ew57]; simp only [List.append_assoc]
      have hf9 := wA_in hD hA9 hS
      refine va_callv (va_runV (As := [.int (1 : Int32)]) (rest := []) ⟨hx, hb, hml, hown, hts⟩ (kX0_flag l D ct ad30 Z (xt G s26.1) M55 _ a ((1 : Int32)) y56 hc hk hy56) (cwV 1 hts gX0_writeWeights_X0_flag rfl rfl rfl (by decide +kernel) ⟨Nat.le_of_ble_eq_true rfl, Nat.le_of_ble_eq_true rfl⟩) ⟨fun a U g mk q => by obtain ⟨q0, q1, qP, qK, qD, qZ, qN⟩ := q; exact ⟨q0, q1, qP, va_K.moved (u := U) (U := U.calling g mk a) (Vm.Alike.refl U.vm) qK, qD, sF.moved (u := U) (U := U.calling g mk a) (Vm.Alike.refl U.vm) qZ, nF.same rfl qN⟩, va_recv hK hP (ci := 0) (q0 := a) rfl (wld_o ct ad30 (xt G s26.1) M55 hc hk (by decide)), fun U hU hW => ⟨rfl, by rw [hU], by rw [hU]; exact hP, va_K.moved hW.alike hK, hD.weaken (fun _ _ _ _ => trivial), by rw [hU]; exact ((hZ.kept hS.2.1).narrow hf9).moved hW.alike, hN.warm hW⟩⟩ rfl rfl hl.1 rfl (lv_room (Nat.le_of_ble_eq_true rfl)) dX0_writeWeights_135 (room_s hT58 hbl)) hS (fun q _ h => hf9 q h) hf9 (fun ad59 t H locs ht hvm hw hB hz1 hk1 hS => ?_)
      have hn60 := hw
      obtain ⟨hP, hK9, hD9⟩ := hB
      rw [ht] at hP
      have hD := hD9.weaken (fun _ q _ h => hf9 q.1 h)
      rw [xt_xt, ← eL58] at hP hD
      refine W_cs (k := L58.length) (n := wt L58) (by rw [eL58]; exact (len_s s26.1 y56.1).symm) (by rw [eL58]; exact (wt_app s26.1 y56.1).symm) ?_
      have hT : L33 = L58 ++ w57.1 := by rw [hT58, eL58]
      have h2 : z32.2 = w57.2 := by rw [h2, ew57]
      have hl := lv_sub (l' := [(2, .int y41.2), (1, .int s26.2.1), (0, .ref (ad30 a))]) hl [0, 1, 2] rfl
      have e9 : ([(2, .int y41.2), (1, .int s26.2.1), (0, .ref (ad30 a))] : List (Nat × Value)) = [(2, .int y41.2), (1, .int s26.2.1), (0, .ref (ad59 a))] := (by first | rfl | simp only [hn60 a hc])
      rw [e9] at hl
      clear e9
      have hk : (xt G L58).2.1 a = 0 := by rw [eL58]; exact xt_k _ hc hk
      have hc : a < (xt G L58).1 := by rw [eL58]; exact xt_l _ hc
      have hk2 : (xt G L58).2.1 b2 = 9 := by rw [eL58]; exact xt_k _ hc2 hk2
      have hc2 : b2 < (xt G L58).1 := by rw [eL58]; exact xt_l _ hc2
      have hk3 : (xt G L58).2.1 b3 = 3 := by rw [eL58]; exact xt_k _ hc3 hk3
      have hc3 : b3 < (xt G L58).1 := by rw [eL58]; exact xt_l _ hc3
      have hk4 : (xt G L58).2.1 b4 = 13 := by rw [eL58]; exact xt_k _ hc4 hk4
      have hc4 : b4 < (xt G L58).1 := by rw [eL58]; exact xt_l _ hc4
      have hk6 : (xt G L58).2.1 b6 = 9 := by rw [eL58]; exact xt_k _ hc6 hk6
      have hc6 : b6 < (xt G L58).1 := by rw [eL58]; exact xt_l _ hc6
      have hk7 : (xt G L58).2.1 b7 = 3 := by rw [eL58]; exact xt_k _ hc7 hk7
      have hc7 : b7 < (xt G L58).1 := by rw [eL58]; exact xt_l _ hc7
      have hk8 : (xt G L58).2.1 b8 = 13 := by rw [eL58]; exact xt_k _ hc8 hk8
      have hc8 : b8 < (xt G L58).1 := by rw [eL58]; exact xt_l _ hc8
      have hk10 : (xt G L58).2.1 b10 = 9 := by rw [eL58]; exact xt_k _ hc10 hk10
      have hc10 : b10 < (xt G L58).1 := by rw [eL58]; exact xt_l _ hc10
      have hk11 : (xt G L58).2.1 b11 = 3 := by rw [eL58]; exact xt_k _ hc11 hk11
      have hc11 : b11 < (xt G L58).1 := by rw [eL58]; exact xt_l _ hc11
      have hk13 : (xt G L58).2.1 b13 = 10 := by rw [eL58]; exact xt_k _ hc13 hk13
      have hc13 : b13 < (xt G L58).1 := by rw [eL58]; exact xt_l _ hc13
      have hk19 : (xt G L58).2.1 b19 = 10 := by rw [eL58]; exact xt_k _ hc19 hk19
      have hc19 : b19 < (xt G L58).1 := by rw [eL58]; exact xt_l _ hc19
      have hk35 : (xt G L58).2.1 b35 = 9 := by rw [eL58]; exact xt_k _ hc35 hk35
      have hc35 : b35 < (xt G L58).1 := by rw [eL58]; exact xt_l _ hc35
      have hk36 : (xt G L58).2.1 b36 = 3 := by rw [eL58]; exact xt_k _ hc36 hk36
      have hc36 : b36 < (xt G L58).1 := by rw [eL58]; exact xt_l _ hc36
      have hk37 : (xt G L58).2.1 b37 = 13 := by rw [eL58]; exact xt_k _ hc37 hk37
      have hc37 : b37 < (xt G L58).1 := by rw [eL58]; exact xt_l _ hc37
      have hk42 : (xt G L58).2.1 b42 = 9 := by rw [eL58]; exact xt_k _ hc42 hk42
      have hc42 : b42 < (xt G L58).1 := by rw [eL58]; exact xt_l _ hc42
      have hk43 : (xt G L58).2.1 b43 = 3 := by rw [eL58]; exact xt_k _ hc43 hk43
      have hc43 : b43 < (xt G L58).1 := by rw [eL58]; exact xt_l _ hc43
      have hk47 : (xt G L58).2.1 b47 = 13 := by rw [eL58]; exact xt_k _ hc47 hk47
      have hc47 : b47 < (xt G L58).1 := by rw [eL58]; exact xt_l _ hc47
      have hk49 : (xt G L58).2.1 b49 = 9 := by rw [eL58]; exact xt_k _ hc49 hk49
      have hc49 : b49 < (xt G L58).1 := by rw [eL58]; exact xt_l _ hc49
      have hk50 : (xt G L58).2.1 b50 = 3 := by rw [eL58]; exact xt_k _ hc50 hk50
      have hc50 : b50 < (xt G L58).1 := by rw [eL58]; exact xt_l _ hc50
      have hk54 : (xt G L58).2.1 b54 = 13 := by rw [eL58]; exact xt_k _ hc54 hk54
      have hc54 : b54 < (xt G L58).1 := by rw [eL58]; exact xt_l _ hc54
      have hag := agr_t (xt_ge _ _) hag hn60
      refine lv_aload_n hx hb dX0_writeWeights_138 rfl (lv_at hl 2 rfl) ?_
      refine va_get (D := D) (ci := 0) (v := va_re ad59 (y56.2.2 a 2)) (C := RX0) (T := TX0) (N := 21) hx hb hts (mus hf_X0) hown hK hP a (wld_o ct ad59 (xt G L58) y56.2 hc hk (by decide)) rfl 2 (by decide) (hts (.fieldLink RX0 29 "VideoSuite$Coder" "writer" "LVideoSuite$Writer;") (mu mw_815)) (fun _ h9 => h9) rfl dX0_writeWeights_139 ?_
      refine lv_iconst (v := (0 : Int32)) hx hb dX0_writeWeights_142 (by decide) ?_
      refine lv_aload_n hx hb dX0_writeWeights_143 rfl (lv_at hl 2 rfl) ?_
      refine va_get (D := D) (ci := 0) (v := va_re ad59 (y56.2.2 a 3)) (C := RX0) (T := TX0) (N := 21) hx hb hts (mus hf_X0) hown hK hP a (wld_o ct ad59 (xt G L58) y56.2 hc hk (by decide)) rfl 3 (by decide) (hts (.fieldLink RX0 36 "VideoSuite$Coder" "work" "LVideoSuite$Work;") (mu mw_817)) (fun _ h9 => h9) rfl dX0_writeWeights_144 ?_
      obtain ⟨b61, ho61, hc61, hk61, hF⟩ := dr_some hF
      refine W_st (st' := [.ref (ad59 b61), .int (0 : Int32), va_re ad59 (y56.2.2 a 2)]) (by rw [va_some ho61]) ?_
      refine va_get (D := D) (ci := 9) (v := va_re ad59 (y56.2.2 b61 1)) (C := RX9) (T := TX9) (N := 20) hx hb hts (mus hf_X9) hown hK hP b61 (wld_o ct ad59 (xt G L58) y56.2 hc61 hk61 (by decide)) rfl 1 (by decide) (hts (.fieldLink RX0 81 "VideoSuite$Work" "head" "LVideoSuite$Header;") (mu mw_425)) (fun _ h9 => h9) rfl dX0_writeWeights_147 ?_
      obtain ⟨b62, ho62, hc62, hk62, hF⟩ := dr_some hF
      refine W_st (st' := [.ref (ad59 b62), .int (0 : Int32), va_re ad59 (y56.2.2 a 2)]) (by rw [va_some ho62]) ?_
      refine va_get (D := D) (ci := 3) (v := va_re ad59 (y56.2.2 b62 3)) (C := RX3) (T := TX3) (N := 4) hx hb hts (mus hf_X3) hown hK hP b62 (wld_o ct ad59 (xt G L58) y56.2 hc62 hk62 (by decide)) rfl 3 (by decide) (hts (.fieldLink RX0 331 "VideoSuite$Header" "weight" "[I") (mu mw_630)) (fun _ h9 => h9) rfl dX0_writeWeights_150 ?_
      refine lv_iload_n hx hb dX0_writeWeights_153 rfl (lv_at hl 0 rfl) ?_
      obtain ⟨b63, ho63, hc63, hk63, hF⟩ := dr_some hF
      refine W_st (st' := [.int y41.2, .ref (ad59 b63), .int (0 : Int32), va_re ad59 (y56.2.2 a 2)]) (by rw [va_some ho63]) ?_
      obtain ⟨hvc, hF⟩ := chk_some hF
      refine va_iald hx hb hK hP b63 1 (wld_i ct ad59 (xt G L58) y56.2 hc63 hk63) rfl hvc dX0_writeWeights_154 ?_
      obtain ⟨x64, ex64, hF⟩ := ltt_some hF
      refine lv_topi (fun zx64 ezx64 => ?_)
      obtain rfl : x64 = zx64 := ex64.trans ezx64.symm
      obtain ⟨b65, ho65, hc65, hk65, hF⟩ := dr_some hF
      refine W_st (st' := [.int x64, .int (0 : Int32), .ref (ad59 b65)]) (by rw [va_some ho65]) ?_
      obtain ⟨y66, hy66, hF⟩ := bnd_some hF
      obtain ⟨w67, hF, ew67⟩ := app_some hF
      obtain ⟨L68, eL68, hF⟩ := ltt_some hF
      have hT68 : L33 = (L58 ++ y66.1) ++ w67.1 := by rw [hT, ew67]; simp only [List.append_assoc]
      have hf9 := wA_in hD hA9 hS
      refine va_callv (va_runV (As := [.int (0 : Int32), .int x64]) (rest := []) ⟨hx, hb, hml, hown, hts⟩ (kX10_se l D ct ad59 Z (xt G L58) y56.2 _ b65 ((0 : Int32)) x64 y66 hc65 hk65 hy66) (cwV 2 hts gX0_writeWeights_X10_se rfl rfl rfl (by decide +kernel) ⟨Nat.le_of_ble_eq_true rfl, Nat.le_of_ble_eq_true rfl⟩) ⟨fun a U g mk q => by obtain ⟨q0, q1, qP, qK, qD, qZ, qN⟩ := q; exact ⟨q0, q1, qP, va_K.moved (u := U) (U := U.calling g mk a) (Vm.Alike.refl U.vm) qK, qD, sF.moved (u := U) (U := U.calling g mk a) (Vm.Alike.refl U.vm) qZ, nF.same rfl qN⟩, va_recv hK hP (ci := 10) (q0 := b65) rfl (wld_o ct ad59 (xt G L58) y56.2 hc65 hk65 (by decide)), fun U hU hW => ⟨rfl, by rw [hU], by rw [hU]; exact hP, va_K.moved hW.alike hK, hD.weaken (fun _ _ _ _ => trivial), by rw [hU]; exact ((hZ.kept hS.2.1).narrow hf9).moved hW.alike, hN.warm hW⟩⟩ rfl rfl hl.1 rfl (lv_room (Nat.le_of_ble_eq_true rfl)) dX0_writeWeights_155 (room_s hT68 hbl)) hS (fun q _ h => hf9 q h) hf9 (fun ad69 t H locs ht hvm hw hB hz1 hk1 hS => ?_)
      have hn70 := hw
      obtain ⟨hP, hK9, hD9⟩ := hB
      rw [ht] at hP
      have hD := hD9.weaken (fun _ q _ h => hf9 q.1 h)
      rw [xt_xt, ← eL68] at hP hD
      refine W_cs (k := L68.length) (n := wt L68) (by rw [eL68]; exact (len_s L58 y66.1).symm) (by rw [eL68]; exact (wt_app L58 y66.1).symm) ?_
      have hT : L33 = L68 ++ w67.1 := by rw [hT68, eL68]
      have h2 : z32.2 = w67.2 := by rw [h2, ew67]
      have hl := lv_sub (l' := [(2, .int y41.2), (1, .int s26.2.1), (0, .ref (ad59 a))]) hl [0, 1, 2] rfl
      have e9 : ([(2, .int y41.2), (1, .int s26.2.1), (0, .ref (ad59 a))] : List (Nat × Value)) = [(2, .int y41.2), (1, .int s26.2.1), (0, .ref (ad69 a))] := (by first | rfl | simp only [hn70 a hc])
      rw [e9] at hl
      clear e9
      have hk : (xt G L68).2.1 a = 0 := by rw [eL68]; exact xt_k _ hc hk
      have hc : a < (xt G L68).1 := by rw [eL68]; exact xt_l _ hc
      have hk2 : (xt G L68).2.1 b2 = 9 := by rw [eL68]; exact xt_k _ hc2 hk2
      have hc2 : b2 < (xt G L68).1 := by rw [eL68]; exact xt_l _ hc2
      have hk3 : (xt G L68).2.1 b3 = 3 := by rw [eL68]; exact xt_k _ hc3 hk3
      have hc3 : b3 < (xt G L68).1 := by rw [eL68]; exact xt_l _ hc3
      have hk4 : (xt G L68).2.1 b4 = 13 := by rw [eL68]; exact xt_k _ hc4 hk4
      have hc4 : b4 < (xt G L68).1 := by rw [eL68]; exact xt_l _ hc4
      have hk6 : (xt G L68).2.1 b6 = 9 := by rw [eL68]; exact xt_k _ hc6 hk6
      have hc6 : b6 < (xt G L68).1 := by rw [eL68]; exact xt_l _ hc6
      have hk7 : (xt G L68).2.1 b7 = 3 := by rw [eL68]; exact xt_k _ hc7 hk7
      have hc7 : b7 < (xt G L68).1 := by rw [eL68]; exact xt_l _ hc7
      have hk8 : (xt G L68).2.1 b8 = 13 := by rw [eL68]; exact xt_k _ hc8 hk8
      have hc8 : b8 < (xt G L68).1 := by rw [eL68]; exact xt_l _ hc8
      have hk10 : (xt G L68).2.1 b10 = 9 := by rw [eL68]; exact xt_k _ hc10 hk10
      have hc10 : b10 < (xt G L68).1 := by rw [eL68]; exact xt_l _ hc10
      have hk11 : (xt G L68).2.1 b11 = 3 := by rw [eL68]; exact xt_k _ hc11 hk11
      have hc11 : b11 < (xt G L68).1 := by rw [eL68]; exact xt_l _ hc11
      have hk13 : (xt G L68).2.1 b13 = 10 := by rw [eL68]; exact xt_k _ hc13 hk13
      have hc13 : b13 < (xt G L68).1 := by rw [eL68]; exact xt_l _ hc13
      have hk19 : (xt G L68).2.1 b19 = 10 := by rw [eL68]; exact xt_k _ hc19 hk19
      have hc19 : b19 < (xt G L68).1 := by rw [eL68]; exact xt_l _ hc19
      have hk35 : (xt G L68).2.1 b35 = 9 := by rw [eL68]; exact xt_k _ hc35 hk35
      have hc35 : b35 < (xt G L68).1 := by rw [eL68]; exact xt_l _ hc35
      have hk36 : (xt G L68).2.1 b36 = 3 := by rw [eL68]; exact xt_k _ hc36 hk36
      have hc36 : b36 < (xt G L68).1 := by rw [eL68]; exact xt_l _ hc36
      have hk37 : (xt G L68).2.1 b37 = 13 := by rw [eL68]; exact xt_k _ hc37 hk37
      have hc37 : b37 < (xt G L68).1 := by rw [eL68]; exact xt_l _ hc37
      have hk42 : (xt G L68).2.1 b42 = 9 := by rw [eL68]; exact xt_k _ hc42 hk42
      have hc42 : b42 < (xt G L68).1 := by rw [eL68]; exact xt_l _ hc42
      have hk43 : (xt G L68).2.1 b43 = 3 := by rw [eL68]; exact xt_k _ hc43 hk43
      have hc43 : b43 < (xt G L68).1 := by rw [eL68]; exact xt_l _ hc43
      have hk47 : (xt G L68).2.1 b47 = 13 := by rw [eL68]; exact xt_k _ hc47 hk47
      have hc47 : b47 < (xt G L68).1 := by rw [eL68]; exact xt_l _ hc47
      have hk49 : (xt G L68).2.1 b49 = 9 := by rw [eL68]; exact xt_k _ hc49 hk49
      have hc49 : b49 < (xt G L68).1 := by rw [eL68]; exact xt_l _ hc49
      have hk50 : (xt G L68).2.1 b50 = 3 := by rw [eL68]; exact xt_k _ hc50 hk50
      have hc50 : b50 < (xt G L68).1 := by rw [eL68]; exact xt_l _ hc50
      have hk54 : (xt G L68).2.1 b54 = 13 := by rw [eL68]; exact xt_k _ hc54 hk54
      have hc54 : b54 < (xt G L68).1 := by rw [eL68]; exact xt_l _ hc54
      have hk61 : (xt G L68).2.1 b61 = 9 := by rw [eL68]; exact xt_k _ hc61 hk61
      have hc61 : b61 < (xt G L68).1 := by rw [eL68]; exact xt_l _ hc61
      have hk62 : (xt G L68).2.1 b62 = 3 := by rw [eL68]; exact xt_k _ hc62 hk62
      have hc62 : b62 < (xt G L68).1 := by rw [eL68]; exact xt_l _ hc62
      have hk63 : (xt G L68).2.1 b63 = 13 := by rw [eL68]; exact xt_k _ hc63 hk63
      have hc63 : b63 < (xt G L68).1 := by rw [eL68]; exact xt_l _ hc63
      have hk65 : (xt G L68).2.1 b65 = 10 := by rw [eL68]; exact xt_k _ hc65 hk65
      have hc65 : b65 < (xt G L68).1 := by rw [eL68]; exact xt_l _ hc65
      have hag := agr_t (xt_ge _ _) hag hn70
      refine lv_aload_n hx hb dX0_writeWeights_158 rfl (lv_at hl 2 rfl) ?_
      refine va_get (D := D) (ci := 0) (v := va_re ad69 (y66.2.2 a 2)) (C := RX0) (T := TX0) (N := 21) hx hb hts (mus hf_X0) hown hK hP a (wld_o ct ad69 (xt G L68) y66.2 hc hk (by decide)) rfl 2 (by decide) (hts (.fieldLink RX0 29 "VideoSuite$Coder" "writer" "LVideoSuite$Writer;") (mu mw_815)) (fun _ h9 => h9) rfl dX0_writeWeights_159 ?_
      refine lv_iconst (v := (0 : Int32)) hx hb dX0_writeWeights_162 (by decide) ?_
      refine lv_aload_n hx hb dX0_writeWeights_163 rfl (lv_at hl 2 rfl) ?_
      refine va_get (D := D) (ci := 0) (v := va_re ad69 (y66.2.2 a 3)) (C := RX0) (T := TX0) (N := 21) hx hb hts (mus hf_X0) hown hK hP a (wld_o ct ad69 (xt G L68) y66.2 hc hk (by decide)) rfl 3 (by decide) (hts (.fieldLink RX0 36 "VideoSuite$Coder" "work" "LVideoSuite$Work;") (mu mw_817)) (fun _ h9 => h9) rfl dX0_writeWeights_164 ?_
      obtain ⟨b71, ho71, hc71, hk71, hF⟩ := dr_some hF
      refine W_st (st' := [.ref (ad69 b71), .int (0 : Int32), va_re ad69 (y66.2.2 a 2)]) (by rw [va_some ho71]) ?_
      refine va_get (D := D) (ci := 9) (v := va_re ad69 (y66.2.2 b71 1)) (C := RX9) (T := TX9) (N := 20) hx hb hts (mus hf_X9) hown hK hP b71 (wld_o ct ad69 (xt G L68) y66.2 hc71 hk71 (by decide)) rfl 1 (by decide) (hts (.fieldLink RX0 81 "VideoSuite$Work" "head" "LVideoSuite$Header;") (mu mw_425)) (fun _ h9 => h9) rfl dX0_writeWeights_167 ?_
      obtain ⟨b72, ho72, hc72, hk72, hF⟩ := dr_some hF
      refine W_st (st' := [.ref (ad69 b72), .int (0 : Int32), va_re ad69 (y66.2.2 a 2)]) (by rw [va_some ho72]) ?_
      refine va_get (D := D) (ci := 3) (v := va_re ad69 (y66.2.2 b72 3)) (C := RX3) (T := TX3) (N := 4) hx hb hts (mus hf_X3) hown hK hP b72 (wld_o ct ad69 (xt G L68) y66.2 hc72 hk72 (by decide)) rfl 3 (by decide) (hts (.fieldLink RX0 331 "VideoSuite$Header" "weight" "[I") (mu mw_630)) (fun _ h9 => h9) rfl dX0_writeWeights_170 ?_
      refine lv_iload_n hx hb dX0_writeWeights_173 rfl (lv_at hl 0 rfl) ?_
      refine lv_iconst (v := (1 : Int32)) hx hb dX0_writeWeights_174 (by decide) ?_
      refine lv_iadd hx hb dX0_writeWeights_175 ?_
      obtain ⟨x73, ex73, hF⟩ := ltt_some hF
      refine lv_topi (fun zx73 ezx73 => ?_)
      obtain rfl : x73 = zx73 := ex73.trans ezx73.symm
      obtain ⟨b74, ho74, hc74, hk74, hF⟩ := dr_some hF
      refine W_st (st' := [.int x73, .ref (ad69 b74), .int (0 : Int32), va_re ad69 (y66.2.2 a 2)]) (by rw [va_some ho74]) ?_
      obtain ⟨hvc, hF⟩ := chk_some hF
      refine va_iald hx hb hK hP b74 1 (wld_i ct ad69 (xt G L68) y66.2 hc74 hk74) rfl hvc dX0_writeWeights_176 ?_
      obtain ⟨x75, ex75, hF⟩ := ltt_some hF
      refine lv_topi (fun zx75 ezx75 => ?_)
      obtain rfl : x75 = zx75 := ex75.trans ezx75.symm
      obtain ⟨b76, ho76, hc76, hk76, hF⟩ := dr_some hF
      refine W_st (st' := [.int x75, .int (0 : Int32), .ref (ad69 b76)]) (by rw [va_some ho76]) ?_
      obtain ⟨y77, hy77, hF⟩ := bnd_some hF
      obtain ⟨w78, hF, ew78⟩ := app_some hF
      obtain ⟨L79, eL79, hF⟩ := ltt_some hF
      have hT79 : L33 = (L68 ++ y77.1) ++ w78.1 := by rw [hT, ew78]; simp only [List.append_assoc]
      have hf9 := wA_in hD hA9 hS
      refine va_callv (va_runV (As := [.int (0 : Int32), .int x75]) (rest := []) ⟨hx, hb, hml, hown, hts⟩ (kX10_se l D ct ad69 Z (xt G L68) y66.2 _ b76 ((0 : Int32)) x75 y77 hc76 hk76 hy77) (cwV 2 hts gX0_writeWeights_X10_se rfl rfl rfl (by decide +kernel) ⟨Nat.le_of_ble_eq_true rfl, Nat.le_of_ble_eq_true rfl⟩) ⟨fun a U g mk q => by obtain ⟨q0, q1, qP, qK, qD, qZ, qN⟩ := q; exact ⟨q0, q1, qP, va_K.moved (u := U) (U := U.calling g mk a) (Vm.Alike.refl U.vm) qK, qD, sF.moved (u := U) (U := U.calling g mk a) (Vm.Alike.refl U.vm) qZ, nF.same rfl qN⟩, va_recv hK hP (ci := 10) (q0 := b76) rfl (wld_o ct ad69 (xt G L68) y66.2 hc76 hk76 (by decide)), fun U hU hW => ⟨rfl, by rw [hU], by rw [hU]; exact hP, va_K.moved hW.alike hK, hD.weaken (fun _ _ _ _ => trivial), by rw [hU]; exact ((hZ.kept hS.2.1).narrow hf9).moved hW.alike, hN.warm hW⟩⟩ rfl rfl hl.1 rfl (lv_room (Nat.le_of_ble_eq_true rfl)) dX0_writeWeights_177 (room_s hT79 hbl)) hS (fun q _ h => hf9 q h) hf9 (fun ad80 t H locs ht hvm hw hB hz1 hk1 hS => ?_)
      have hn81 := hw
      obtain ⟨hP, hK9, hD9⟩ := hB
      rw [ht] at hP
      have hD := hD9.weaken (fun _ q _ h => hf9 q.1 h)
      rw [xt_xt, ← eL79] at hP hD
      refine W_cs (k := L79.length) (n := wt L79) (by rw [eL79]; exact (len_s L68 y77.1).symm) (by rw [eL79]; exact (wt_app L68 y77.1).symm) ?_
      have hT : L33 = L79 ++ w78.1 := by rw [hT79, eL79]
      have h2 : z32.2 = w78.2 := by rw [h2, ew78]
      have hl := lv_sub (l' := [(1, .int s26.2.1), (0, .ref (ad69 a))]) hl [1, 2] rfl
      have e9 : ([(1, .int s26.2.1), (0, .ref (ad69 a))] : List (Nat × Value)) = [(1, .int s26.2.1), (0, .ref (ad80 a))] := (by first | rfl | simp only [hn81 a hc])
      rw [e9] at hl
      clear e9
      have hk : (xt G L79).2.1 a = 0 := by rw [eL79]; exact xt_k _ hc hk
      have hc : a < (xt G L79).1 := by rw [eL79]; exact xt_l _ hc
      have hk2 : (xt G L79).2.1 b2 = 9 := by rw [eL79]; exact xt_k _ hc2 hk2
      have hc2 : b2 < (xt G L79).1 := by rw [eL79]; exact xt_l _ hc2
      have hk3 : (xt G L79).2.1 b3 = 3 := by rw [eL79]; exact xt_k _ hc3 hk3
      have hc3 : b3 < (xt G L79).1 := by rw [eL79]; exact xt_l _ hc3
      have hk4 : (xt G L79).2.1 b4 = 13 := by rw [eL79]; exact xt_k _ hc4 hk4
      have hc4 : b4 < (xt G L79).1 := by rw [eL79]; exact xt_l _ hc4
      have hk6 : (xt G L79).2.1 b6 = 9 := by rw [eL79]; exact xt_k _ hc6 hk6
      have hc6 : b6 < (xt G L79).1 := by rw [eL79]; exact xt_l _ hc6
      have hk7 : (xt G L79).2.1 b7 = 3 := by rw [eL79]; exact xt_k _ hc7 hk7
      have hc7 : b7 < (xt G L79).1 := by rw [eL79]; exact xt_l _ hc7
      have hk8 : (xt G L79).2.1 b8 = 13 := by rw [eL79]; exact xt_k _ hc8 hk8
      have hc8 : b8 < (xt G L79).1 := by rw [eL79]; exact xt_l _ hc8
      have hk10 : (xt G L79).2.1 b10 = 9 := by rw [eL79]; exact xt_k _ hc10 hk10
      have hc10 : b10 < (xt G L79).1 := by rw [eL79]; exact xt_l _ hc10
      have hk11 : (xt G L79).2.1 b11 = 3 := by rw [eL79]; exact xt_k _ hc11 hk11
      have hc11 : b11 < (xt G L79).1 := by rw [eL79]; exact xt_l _ hc11
      have hk13 : (xt G L79).2.1 b13 = 10 := by rw [eL79]; exact xt_k _ hc13 hk13
      have hc13 : b13 < (xt G L79).1 := by rw [eL79]; exact xt_l _ hc13
      have hk19 : (xt G L79).2.1 b19 = 10 := by rw [eL79]; exact xt_k _ hc19 hk19
      have hc19 : b19 < (xt G L79).1 := by rw [eL79]; exact xt_l _ hc19
      have hk35 : (xt G L79).2.1 b35 = 9 := by rw [eL79]; exact xt_k _ hc35 hk35
      have hc35 : b35 < (xt G L79).1 := by rw [eL79]; exact xt_l _ hc35
      have hk36 : (xt G L79).2.1 b36 = 3 := by rw [eL79]; exact xt_k _ hc36 hk36
      have hc36 : b36 < (xt G L79).1 := by rw [eL79]; exact xt_l _ hc36
      have hk37 : (xt G L79).2.1 b37 = 13 := by rw [eL79]; exact xt_k _ hc37 hk37
      have hc37 : b37 < (xt G L79).1 := by rw [eL79]; exact xt_l _ hc37
      have hk42 : (xt G L79).2.1 b42 = 9 := by rw [eL79]; exact xt_k _ hc42 hk42
      have hc42 : b42 < (xt G L79).1 := by rw [eL79]; exact xt_l _ hc42
      have hk43 : (xt G L79).2.1 b43 = 3 := by rw [eL79]; exact xt_k _ hc43 hk43
      have hc43 : b43 < (xt G L79).1 := by rw [eL79]; exact xt_l _ hc43
      have hk47 : (xt G L79).2.1 b47 = 13 := by rw [eL79]; exact xt_k _ hc47 hk47
      have hc47 : b47 < (xt G L79).1 := by rw [eL79]; exact xt_l _ hc47
      have hk49 : (xt G L79).2.1 b49 = 9 := by rw [eL79]; exact xt_k _ hc49 hk49
      have hc49 : b49 < (xt G L79).1 := by rw [eL79]; exact xt_l _ hc49
      have hk50 : (xt G L79).2.1 b50 = 3 := by rw [eL79]; exact xt_k _ hc50 hk50
      have hc50 : b50 < (xt G L79).1 := by rw [eL79]; exact xt_l _ hc50
      have hk54 : (xt G L79).2.1 b54 = 13 := by rw [eL79]; exact xt_k _ hc54 hk54
      have hc54 : b54 < (xt G L79).1 := by rw [eL79]; exact xt_l _ hc54
      have hk61 : (xt G L79).2.1 b61 = 9 := by rw [eL79]; exact xt_k _ hc61 hk61
      have hc61 : b61 < (xt G L79).1 := by rw [eL79]; exact xt_l _ hc61
      have hk62 : (xt G L79).2.1 b62 = 3 := by rw [eL79]; exact xt_k _ hc62 hk62
      have hc62 : b62 < (xt G L79).1 := by rw [eL79]; exact xt_l _ hc62
      have hk63 : (xt G L79).2.1 b63 = 13 := by rw [eL79]; exact xt_k _ hc63 hk63
      have hc63 : b63 < (xt G L79).1 := by rw [eL79]; exact xt_l _ hc63
      have hk65 : (xt G L79).2.1 b65 = 10 := by rw [eL79]; exact xt_k _ hc65 hk65
      have hc65 : b65 < (xt G L79).1 := by rw [eL79]; exact xt_l _ hc65
      have hk71 : (xt G L79).2.1 b71 = 9 := by rw [eL79]; exact xt_k _ hc71 hk71
      have hc71 : b71 < (xt G L79).1 := by rw [eL79]; exact xt_l _ hc71
      have hk72 : (xt G L79).2.1 b72 = 3 := by rw [eL79]; exact xt_k _ hc72 hk72
      have hc72 : b72 < (xt G L79).1 := by rw [eL79]; exact xt_l _ hc72
      have hk74 : (xt G L79).2.1 b74 = 13 := by rw [eL79]; exact xt_k _ hc74 hk74
      have hc74 : b74 < (xt G L79).1 := by rw [eL79]; exact xt_l _ hc74
      have hk76 : (xt G L79).2.1 b76 = 10 := by rw [eL79]; exact xt_k _ hc76 hk76
      have hc76 : b76 < (xt G L79).1 := by rw [eL79]; exact xt_l _ hc76
      have hag := agr_t (xt_ge _ _) hag hn81
      refine lv_aload_n hx hb dX0_writeWeights_180 rfl (lv_at hl 1 rfl) ?_
      refine lv_iconst (v := (0 : Int32)) hx hb dX0_writeWeights_181 (by decide) ?_
      obtain ⟨y82, hy82, hF⟩ := bnd_some hF
      obtain ⟨w83, hF, ew83⟩ := app_some hF
      obtain ⟨L84, eL84, hF⟩ := ltt_some hF
      have hT84 : L33 = (L79 ++ y82.1) ++ w83.1 := by rw [hT, ew83]; simp only [List.append_assoc]
      have hf9 := wA_in hD hA9 hS
      refine va_callv (va_runV (As := [.int (0 : Int32)]) (rest := []) ⟨hx, hb, hml, hown, hts⟩ (kX0_flag l D ct ad80 Z (xt G L79) y77.2 _ a ((0 : Int32)) y82 hc hk hy82) (cwV 1 hts gX0_writeWeights_X0_flag rfl rfl rfl (by decide +kernel) ⟨Nat.le_of_ble_eq_true rfl, Nat.le_of_ble_eq_true rfl⟩) ⟨fun a U g mk q => by obtain ⟨q0, q1, qP, qK, qD, qZ, qN⟩ := q; exact ⟨q0, q1, qP, va_K.moved (u := U) (U := U.calling g mk a) (Vm.Alike.refl U.vm) qK, qD, sF.moved (u := U) (U := U.calling g mk a) (Vm.Alike.refl U.vm) qZ, nF.same rfl qN⟩, va_recv hK hP (ci := 0) (q0 := a) rfl (wld_o ct ad80 (xt G L79) y77.2 hc hk (by decide)), fun U hU hW => ⟨rfl, by rw [hU], by rw [hU]; exact hP, va_K.moved hW.alike hK, hD.weaken (fun _ _ _ _ => trivial), by rw [hU]; exact ((hZ.kept hS.2.1).narrow hf9).moved hW.alike, hN.warm hW⟩⟩ rfl rfl hl.1 rfl (lv_room (Nat.le_of_ble_eq_true rfl)) dX0_writeWeights_182 (room_s hT84 hbl)) hS (fun q _ h => hf9 q h) hf9 (fun ad85 t H locs ht hvm hw hB hz1 hk1 hS => ?_)
      have hn86 := hw
      obtain ⟨hP, hK9, hD9⟩ := hB
      rw [ht] at hP
      have hD := hD9.weaken (fun _ q _ h => hf9 q.1 h)
      rw [xt_xt, ← eL84] at hP hD
      refine W_cs (k := L84.length) (n := wt L84) (by rw [eL84]; exact (len_s L79 y82.1).symm) (by rw [eL84]; exact (wt_app L79 y82.1).symm) ?_
      have hT : L33 = L84 ++ w83.1 := by rw [hT84, eL84]
      have h2 : z32.2 = w83.2 := by rw [h2, ew83]
      have hl := lv_sub (l' := [(1, .int s26.2.1), (0, .ref (ad80 a))]) hl [0, 1] rfl
      have e9 : ([(1, .int s26.2.1), (0, .ref (ad80 a))] : List (Nat × Value)) = [(1, .int s26.2.1), (0, .ref (ad85 a))] := (by first | rfl | simp only [hn86 a hc])
      rw [e9] at hl
      clear e9
      have hk : (xt G L84).2.1 a = 0 := by rw [eL84]; exact xt_k _ hc hk
      have hc : a < (xt G L84).1 := by rw [eL84]; exact xt_l _ hc
      have hk2 : (xt G L84).2.1 b2 = 9 := by rw [eL84]; exact xt_k _ hc2 hk2
      have hc2 : b2 < (xt G L84).1 := by rw [eL84]; exact xt_l _ hc2
      have hk3 : (xt G L84).2.1 b3 = 3 := by rw [eL84]; exact xt_k _ hc3 hk3
      have hc3 : b3 < (xt G L84).1 := by rw [eL84]; exact xt_l _ hc3
      have hk4 : (xt G L84).2.1 b4 = 13 := by rw [eL84]; exact xt_k _ hc4 hk4
      have hc4 : b4 < (xt G L84).1 := by rw [eL84]; exact xt_l _ hc4
      have hk6 : (xt G L84).2.1 b6 = 9 := by rw [eL84]; exact xt_k _ hc6 hk6
      have hc6 : b6 < (xt G L84).1 := by rw [eL84]; exact xt_l _ hc6
      have hk7 : (xt G L84).2.1 b7 = 3 := by rw [eL84]; exact xt_k _ hc7 hk7
      have hc7 : b7 < (xt G L84).1 := by rw [eL84]; exact xt_l _ hc7
      have hk8 : (xt G L84).2.1 b8 = 13 := by rw [eL84]; exact xt_k _ hc8 hk8
      have hc8 : b8 < (xt G L84).1 := by rw [eL84]; exact xt_l _ hc8
      have hk10 : (xt G L84).2.1 b10 = 9 := by rw [eL84]; exact xt_k _ hc10 hk10
      have hc10 : b10 < (xt G L84).1 := by rw [eL84]; exact xt_l _ hc10
      have hk11 : (xt G L84).2.1 b11 = 3 := by rw [eL84]; exact xt_k _ hc11 hk11
      have hc11 : b11 < (xt G L84).1 := by rw [eL84]; exact xt_l _ hc11
      have hk13 : (xt G L84).2.1 b13 = 10 := by rw [eL84]; exact xt_k _ hc13 hk13
      have hc13 : b13 < (xt G L84).1 := by rw [eL84]; exact xt_l _ hc13
      have hk19 : (xt G L84).2.1 b19 = 10 := by rw [eL84]; exact xt_k _ hc19 hk19
      have hc19 : b19 < (xt G L84).1 := by rw [eL84]; exact xt_l _ hc19
      have hk35 : (xt G L84).2.1 b35 = 9 := by rw [eL84]; exact xt_k _ hc35 hk35
      have hc35 : b35 < (xt G L84).1 := by rw [eL84]; exact xt_l _ hc35
      have hk36 : (xt G L84).2.1 b36 = 3 := by rw [eL84]; exact xt_k _ hc36 hk36
      have hc36 : b36 < (xt G L84).1 := by rw [eL84]; exact xt_l _ hc36
      have hk37 : (xt G L84).2.1 b37 = 13 := by rw [eL84]; exact xt_k _ hc37 hk37
      have hc37 : b37 < (xt G L84).1 := by rw [eL84]; exact xt_l _ hc37
      have hk42 : (xt G L84).2.1 b42 = 9 := by rw [eL84]; exact xt_k _ hc42 hk42
      have hc42 : b42 < (xt G L84).1 := by rw [eL84]; exact xt_l _ hc42
      have hk43 : (xt G L84).2.1 b43 = 3 := by rw [eL84]; exact xt_k _ hc43 hk43
      have hc43 : b43 < (xt G L84).1 := by rw [eL84]; exact xt_l _ hc43
      have hk47 : (xt G L84).2.1 b47 = 13 := by rw [eL84]; exact xt_k _ hc47 hk47
      have hc47 : b47 < (xt G L84).1 := by rw [eL84]; exact xt_l _ hc47
      have hk49 : (xt G L84).2.1 b49 = 9 := by rw [eL84]; exact xt_k _ hc49 hk49
      have hc49 : b49 < (xt G L84).1 := by rw [eL84]; exact xt_l _ hc49
      have hk50 : (xt G L84).2.1 b50 = 3 := by rw [eL84]; exact xt_k _ hc50 hk50
      have hc50 : b50 < (xt G L84).1 := by rw [eL84]; exact xt_l _ hc50
      have hk54 : (xt G L84).2.1 b54 = 13 := by rw [eL84]; exact xt_k _ hc54 hk54
      have hc54 : b54 < (xt G L84).1 := by rw [eL84]; exact xt_l _ hc54
      have hk61 : (xt G L84).2.1 b61 = 9 := by rw [eL84]; exact xt_k _ hc61 hk61
      have hc61 : b61 < (xt G L84).1 := by rw [eL84]; exact xt_l _ hc61
      have hk62 : (xt G L84).2.1 b62 = 3 := by rw [eL84]; exact xt_k _ hc62 hk62
      have hc62 : b62 < (xt G L84).1 := by rw [eL84]; exact xt_l _ hc62
      have hk63 : (xt G L84).2.1 b63 = 13 := by rw [eL84]; exact xt_k _ hc63 hk63
      have hc63 : b63 < (xt G L84).1 := by rw [eL84]; exact xt_l _ hc63
      have hk65 : (xt G L84).2.1 b65 = 10 := by rw [eL84]; exact xt_k _ hc65 hk65
      have hc65 : b65 < (xt G L84).1 := by rw [eL84]; exact xt_l _ hc65
      have hk71 : (xt G L84).2.1 b71 = 9 := by rw [eL84]; exact xt_k _ hc71 hk71
      have hc71 : b71 < (xt G L84).1 := by rw [eL84]; exact xt_l _ hc71
      have hk72 : (xt G L84).2.1 b72 = 3 := by rw [eL84]; exact xt_k _ hc72 hk72
      have hc72 : b72 < (xt G L84).1 := by rw [eL84]; exact xt_l _ hc72
      have hk74 : (xt G L84).2.1 b74 = 13 := by rw [eL84]; exact xt_k _ hc74 hk74
      have hc74 : b74 < (xt G L84).1 := by rw [eL84]; exact xt_l _ hc74
      have hk76 : (xt G L84).2.1 b76 = 10 := by rw [eL84]; exact xt_k _ hc76 hk76
      have hc76 : b76 < (xt G L84).1 := by rw [eL84]; exact xt_l _ hc76
      have hag := agr_t (xt_ge _ _) hag hn86
      obtain ⟨x87, ex87, hF⟩ := ltt_some hF
      refine lv_iinc (v := x87) (lv' := [(1, .int x87), (0, .ref (ad85 a))]) hx hb dX0_writeWeights_185 hl (k := 0) rfl (by rw [ex87]; rfl) (by decide) rfl (fun ls hl => ?_)
      refine lv_goto (tgt := 58) hx hb dX0_writeWeights_188 (by decide) ?_
      obtain rfl := Option.some.inj hF
      have e1 : L33 = L84 := by rw [hT]; exact List.append_nil _
      have e2 : z32.2 = .inl (L84, (x87, y82.2)) := h2
      rw [e2] at hwz32
      obtain ⟨r2, er2, hwz32⟩ := hwz32
      exact hwz32 ⟨u25 ++ z32.1, by show L84 = _; rw [← e1, eL33, eu25]; simp only [List.append_assoc]⟩ (by show L28 = L84 ++ r2; rw [eq25, er2, ← e1, eL33]; simp only [List.append_assoc]) _ hag _ _ _ hP hD hS (lv_sub hl [0, 1] rfl)
set_option maxRecDepth 20000 in
theorem gX10_beginData_X10_fill : GoodIn wuX10_beginData (wsV RX10 54 RX10 yX10_fill wuX10_fill) := gu_V mw_1192 mw_1193 mw_1194 mw_176 mw_1195
set_option maxRecDepth 20000 in
set_option maxRecDepth 20000 in
theorem gX10_beginData_J7_fill_53178 : GoodIn wuX10_beginData (va_wsS RX10 87 yJ7_fill_53178 wuJ7_fill_53178) := gu_S mw_2478 mw_1125 mw_182 mw_1126
set_option maxRecDepth 20000 in
set_option maxRecDepth 20000 in
theorem gX10_beginData_X10_beginArith : GoodIn wuX10_beginData (wsV RX10 90 RX10 yX10_beginArith wuX10_beginArith) := gu_V mw_2479 mw_2481 mw_122 mw_176 mw_2482
theorem dX10_beginData_0 : decode cX10_beginData 0 = .ok (.aload_n 0, 1) := by decide +kernel
theorem dX10_beginData_1 : decode cX10_beginData 1 = .ok (.iconst 1, 1) := by decide +kernel
theorem dX10_beginData_2 : decode cX10_beginData 2 = .ok (.invokevirtual 54, 3) := by decide +kernel
theorem dX10_beginData_5 : decode cX10_beginData 5 = .ok (.aload_n 0, 1) := by decide +kernel
theorem dX10_beginData_6 : decode cX10_beginData 6 = .ok (.getfield 20, 3) := by decide +kernel
theorem dX10_beginData_9 : decode cX10_beginData 9 = .ok (.iconst 0, 1) := by decide +kernel
theorem dX10_beginData_10 : decode cX10_beginData 10 = .ok (.invokestatic 87, 3) := by decide +kernel
theorem dX10_beginData_13 : decode cX10_beginData 13 = .ok (.aload_n 0, 1) := by decide +kernel
theorem dX10_beginData_14 : decode cX10_beginData 14 = .ok (.invokevirtual 90, 3) := by decide +kernel
theorem dX10_beginData_17 : decode cX10_beginData 17 = .ok (.return_, 1) := by decide +kernel
noncomputable def FX10_beginData (G : GG) (M : DD) (a : Nat)  : Option (NN × DD) :=
  bnd (FX10_fill (xt G []) M a ((1 : Int32))) fun y1 =>
  app y1.1 <|
  ltt ([] ++ y1.1) fun L3 =>
  bnd (FJ7_fill_53178 (xt G L3) y1.2 ((y1.2.2 a 13)) ((0 : Int32))) fun y6 =>
  bnd (FX10_beginArith (xt G L3) y6 a) fun y7 =>
  some ([], y7)
set_option maxHeartbeats 4000000 in
set_option maxRecDepth 100000 in
theorem kX10_beginData (l : Launch) (D : va_G) (ct : CT) (ad : Nat → Nat) (Z : Nat → Nat) (G : GG) (M : DD) (sz : Nat) (a : Nat)  (y : NN × DD) (hc : a < G.1) (hk : G.2.1 a = 10) (hF : FX10_beginData G M a  = some y) : Met l yX10_beginData wuX10_beginData ({ frames := 4, cells := y.1.length, slots := wt y.1, locals := 146 }) (va_Pc [.ref (ad a)] (kB D ct ad Z G M sz)) (va_Qv (fun (u : Nat → Nat) => agr G.1 ad u) (fun u t => kE D ct u (xt G y.1) (wA ad G sz) y.2 t) (wA ad G sz)) y.1.length (wt y.1) (wA ad G sz) := by
  refine Met.ofW (cc := cX10_beginData) (maxL := 1) (ret := none) (by decide) rfl ?_
  intro p e s m args below meth c s₁ B hml hv
  obtain ⟨rfl, hsz, hP, hK, hD0, hZ, hN⟩ := hv
  have hx := B.exec
  have hb := B.bytes
  have hr := B.returns
  have hts := atoms_spec (ws := wuX10_beginData) B.pre
  have hown : s.vm.findClass RX10 = some m.cls := findClass_of_methodNamed B.named
  have hlocks := B.notSynchronized
  subst hsz
  have hD := wD_self (sz := s.heap.size) hD0
  have hA9 : ∀ q, s.heap.size ≤ q → wA ad G s.heap.size q := fun q h => Or.inr h
  generalize hAe : wA ad G s.heap.size = A at hD hA9 hZ ⊢
  have hS : va_S A s.heap s.heap [] := va_S.rf
  have hl := lv_entry ([.ref (ad a)]) (n := 1) (Nat.le_of_ble_eq_true rfl)
  rw [lg_entry_eq]
  generalize (lg_sl ([.ref (ad a)]) ++ List.replicate (1 - (lg_sl ([.ref (ad a)])).length) Slot.unset).toArray = ls at hl ⊢
  have hl : lv_has ls 1 [(0, .ref (ad a))] := hl
  unfold FX10_beginData at hF
  rw [← wld_0 ct ad G M] at hP hD
  have hk := xt_k0 hc hk
  have hc := xt_l0 hc
  have hag := agr_rf G.1 ad
  obtain ⟨w0, hw0⟩ : ∃ z, z = y := ⟨_, rfl⟩
  rw [← hw0] at hF
  have hT : y.1 = [] ++ w0.1 := by rw [hw0]; rfl
  have h2 : y.2 = w0.2 := by rw [hw0]
  have hbl : y.1.length ≤ y.1.length ∧ wt y.1 ≤ wt y.1 := ⟨Nat.le_refl _, Nat.le_refl _⟩
  refine lv_aload_n hx hb dX10_beginData_0 rfl (lv_at hl 0 rfl) ?_
  refine lv_iconst (v := (1 : Int32)) hx hb dX10_beginData_1 (by decide) ?_
  obtain ⟨y1, hy1, hF⟩ := bnd_some hF
  obtain ⟨w2, hF, ew2⟩ := app_some hF
  obtain ⟨L3, eL3, hF⟩ := ltt_some hF
  have hT3 : y.1 = ([] ++ y1.1) ++ w2.1 := by rw [hT, ew2]; simp only [List.append_assoc]
  have hf9 := wA_in hD hA9 hS
  refine va_callv (va_runV (As := [.int (1 : Int32)]) (rest := []) ⟨hx, hb, hml, hown, hts⟩ (kX10_fill l D ct ad Z (xt G []) M _ a ((1 : Int32)) y1 hc hk hy1) (cwV 1 hts gX10_beginData_X10_fill rfl rfl rfl (by decide +kernel) ⟨Nat.le_of_ble_eq_true rfl, Nat.le_of_ble_eq_true rfl⟩) ⟨fun a U g mk q => by obtain ⟨q0, q1, qP, qK, qD, qZ, qN⟩ := q; exact ⟨q0, q1, qP, va_K.moved (u := U) (U := U.calling g mk a) (Vm.Alike.refl U.vm) qK, qD, sF.moved (u := U) (U := U.calling g mk a) (Vm.Alike.refl U.vm) qZ, nF.same rfl qN⟩, va_recv hK hP (ci := 10) (q0 := a) rfl (wld_o ct ad (xt G []) M hc hk (by decide)), fun U hU hW => ⟨rfl, by rw [hU], by rw [hU]; exact hP, va_K.moved hW.alike hK, hD.weaken (fun _ _ _ _ => trivial), by rw [hU]; exact ((hZ.kept hS.2.1).narrow hf9).moved hW.alike, hN.warm hW⟩⟩ rfl rfl hl.1 rfl (lv_room (Nat.le_of_ble_eq_true rfl)) dX10_beginData_2 (room_s hT3 hbl)) hS (fun q _ h => hf9 q h) hf9 (fun ad4 t H locs ht hvm hw hB hz1 hk1 hS => ?_)
  have hn5 := hw
  obtain ⟨hP, hK9, hD9⟩ := hB
  rw [ht] at hP
  have hD := hD9.weaken (fun _ q _ h => hf9 q.1 h)
  rw [xt_xt, ← eL3] at hP hD
  refine W_cs (k := L3.length) (n := wt L3) (by rw [eL3]; exact (len_s [] y1.1).symm) (by rw [eL3]; exact (wt_app [] y1.1).symm) ?_
  have hT : y.1 = L3 ++ w2.1 := by rw [hT3, eL3]
  have h2 : y.2 = w2.2 := by rw [h2, ew2]
  have hl := lv_sub (l' := [(0, .ref (ad a))]) hl [0] rfl
  have e9 : ([(0, .ref (ad a))] : List (Nat × Value)) = [(0, .ref (ad4 a))] := (by first | rfl | simp only [hn5 a hc])
  rw [e9] at hl
  clear e9
  have hk : (xt G L3).2.1 a = 10 := by rw [eL3]; exact xt_k _ hc hk
  have hc : a < (xt G L3).1 := by rw [eL3]; exact xt_l _ hc
  have hag := agr_t (xt_ge _ _) hag hn5
  refine lv_aload_n hx hb dX10_beginData_5 rfl (lv_at hl 0 rfl) ?_
  refine va_get (D := D) (ci := 10) (v := va_re ad4 (y1.2.2 a 13)) (C := RX10) (T := TX10) (N := 20) hx hb hts (mus hf_X10) hown hK hP a (wld_o ct ad4 (xt G L3) y1.2 hc hk (by decide)) rfl 13 (by decide) (hts (.fieldLink RX10 20 "VideoSuite$Writer" "state" "[I") (mu mw_752)) (fun _ h9 => h9) rfl dX10_beginData_6 ?_
  refine lv_iconst (v := (0 : Int32)) hx hb dX10_beginData_9 (by decide) ?_
  obtain ⟨y6, hy6, hF⟩ := bnd_some hF
  have hf9 := wA_in hD hA9 hS
  refine va_callv (va_runS (As := [va_re ad4 (y1.2.2 a 13), .int (0 : Int32)]) (rest := []) ⟨hx, hb, hml, hown, hts⟩ (kJ7_fill_53178 l D ct ad4 Z (xt G L3) y1.2 H.size ((y1.2.2 a 13)) ((0 : Int32)) y6 hy6) (va_cwS 2 hts gX10_beginData_J7_fill_53178 rfl rfl rfl (by decide +kernel) ⟨Nat.le_of_ble_eq_true rfl, Nat.le_of_ble_eq_true rfl⟩) ⟨fun a U g mk q => by obtain ⟨q0, q1, qP, qK, qD, qZ, qN⟩ := q; exact ⟨q0, q1, qP, va_K.moved (u := U) (U := U.calling g mk a) (Vm.Alike.refl U.vm) qK, qD, sF.moved (u := U) (U := U.calling g mk a) (Vm.Alike.refl U.vm) qZ, nF.same rfl qN⟩, fun U hU hW => ⟨rfl, by rw [hU], by rw [hU]; exact hP, va_K.moved hW.alike hK, hD.weaken (fun _ _ _ _ => trivial), by rw [hU]; exact ((hZ.kept hS.2.1).narrow hf9).moved hW.alike, hN.warm hW⟩⟩ rfl rfl hl.1 rfl (lv_room (Nat.le_of_ble_eq_true rfl)) dX10_beginData_10 (room_d hT hbl)) hS (fun q _ h => hf9 q h) hf9 (fun u t H locs ht hvm hw hB hz1 hk1 hS => ?_)
  obtain ⟨hP, hK9, hD9⟩ := hB
  rw [ht] at hP
  refine W_cs (k := (L3 : NN).length) (n := wt L3) rfl rfl ?_
  have hD := hD9.weaken (fun _ q _ h => hf9 q.1 h)
  refine lv_aload_n hx hb dX10_beginData_13 rfl (lv_at hl 0 rfl) ?_
  obtain ⟨y7, hy7, hF⟩ := bnd_some hF
  have hf9 := wA_in hD hA9 hS
  refine va_callv (va_runV (As := []) (rest := []) ⟨hx, hb, hml, hown, hts⟩ (kX10_beginArith l D ct ad4 Z (xt G L3) y6 H.size a y7 hc hk hy7) (cwV 0 hts gX10_beginData_X10_beginArith rfl rfl rfl (by decide +kernel) ⟨Nat.le_of_ble_eq_true rfl, Nat.le_of_ble_eq_true rfl⟩) ⟨fun a U g mk q => by obtain ⟨q0, q1, qP, qK, qD, qZ, qN⟩ := q; exact ⟨q0, q1, qP, va_K.moved (u := U) (U := U.calling g mk a) (Vm.Alike.refl U.vm) qK, qD, sF.moved (u := U) (U := U.calling g mk a) (Vm.Alike.refl U.vm) qZ, nF.same rfl qN⟩, va_recv hK hP (ci := 10) (q0 := a) rfl (wld_o ct ad4 (xt G L3) y6 hc hk (by decide)), fun U hU hW => ⟨rfl, by rw [hU], by rw [hU]; exact hP, va_K.moved hW.alike hK, hD.weaken (fun _ _ _ _ => trivial), by rw [hU]; exact ((hZ.kept hS.2.1).narrow hf9).moved hW.alike, hN.warm hW⟩⟩ rfl rfl hl.1 rfl (lv_room (Nat.le_of_ble_eq_true rfl)) dX10_beginData_14 (room_d hT hbl)) hS (fun q _ h => hf9 q h) hf9 (fun u t H locs ht hvm hw hB hz1 hk1 hS => ?_)
  obtain ⟨hP, hK9, hD9⟩ := hB
  rw [ht] at hP
  refine W_cs (k := (L3 : NN).length) (n := wt L3) rfl rfl ?_
  have hD := hD9.weaken (fun _ q _ h => hf9 q.1 h)
  obtain rfl := Option.some.inj hF
  have e1 : y.1 = L3 := by rw [hT]; exact List.append_nil _
  have e2 : y.2 = y7 := h2
  refine W.widen (k := y.1.length) (n := wt y.1) (Nat.le_of_eq (by rw [e1])) (Nat.le_of_eq (by rw [e1])) ?_
  exact W.vret hx hb hr (fun t ht hW => ⟨⟨ad4, rfl, hag, (by unfold kE; rw [e1, e2]; exact ⟨by rw [ht]; exact hP, va_K.moved hW.alike hK, hD⟩)⟩, hS.F ht⟩) hS.2.2 dX10_beginData_17
set_option maxRecDepth 20000 in
theorem gX10_endUnit_X10_fill : GoodIn wuX10_endUnit (wsV RX10 54 RX10 yX10_fill wuX10_fill) := gu_V mw_1192 mw_1193 mw_1194 mw_176 mw_1195
set_option maxRecDepth 20000 in
set_option maxRecDepth 20000 in
theorem gX10_endUnit_X10_putByte : GoodIn wuX10_endUnit (wsV RX10 57 RX10 yX10_putByte wuX10_putByte) := gu_V mw_1196 mw_1198 mw_29 mw_176 mw_1199
set_option maxRecDepth 20000 in
theorem gX10_endUnit_X10_put : GoodIn wuX10_endUnit (wsV RX10 50 RX10 yX10_put wuX10_put) := gu_V mw_1144 mw_1146 mw_26 mw_176 mw_1147
set_option maxRecDepth 20000 in
theorem dX10_endUnit_0 : decode cX10_endUnit 0 = .ok (.iload_n 1, 1) := by decide +kernel
theorem dX10_endUnit_1 : decode cX10_endUnit 1 = .ok (.ifCond .ne 8, 3) := by decide +kernel
theorem dX10_endUnit_4 : decode cX10_endUnit 4 = .ok (.aload_n 0, 1) := by decide +kernel
theorem dX10_endUnit_5 : decode cX10_endUnit 5 = .ok (.iconst 1, 1) := by decide +kernel
theorem dX10_endUnit_6 : decode cX10_endUnit 6 = .ok (.invokevirtual 50, 3) := by decide +kernel
theorem dX10_endUnit_9 : decode cX10_endUnit 9 = .ok (.aload_n 0, 1) := by decide +kernel
theorem dX10_endUnit_10 : decode cX10_endUnit 10 = .ok (.iconst 0, 1) := by decide +kernel
theorem dX10_endUnit_11 : decode cX10_endUnit 11 = .ok (.invokevirtual 54, 3) := by decide +kernel
theorem dX10_endUnit_14 : decode cX10_endUnit 14 = .ok (.aload_n 0, 1) := by decide +kernel
theorem dX10_endUnit_15 : decode cX10_endUnit 15 = .ok (.iconst 0, 1) := by decide +kernel
theorem dX10_endUnit_16 : decode cX10_endUnit 16 = .ok (.invokevirtual 57, 3) := by decide +kernel
theorem dX10_endUnit_19 : decode cX10_endUnit 19 = .ok (.aload_n 0, 1) := by decide +kernel
theorem dX10_endUnit_20 : decode cX10_endUnit 20 = .ok (.iconst 0, 1) := by decide +kernel
theorem dX10_endUnit_21 : decode cX10_endUnit 21 = .ok (.invokevirtual 57, 3) := by decide +kernel
theorem dX10_endUnit_24 : decode cX10_endUnit 24 = .ok (.aload_n 0, 1) := by decide +kernel
theorem dX10_endUnit_25 : decode cX10_endUnit 25 = .ok (.iconst 0, 1) := by decide +kernel
theorem dX10_endUnit_26 : decode cX10_endUnit 26 = .ok (.invokevirtual 57, 3) := by decide +kernel
theorem dX10_endUnit_29 : decode cX10_endUnit 29 = .ok (.aload_n 0, 1) := by decide +kernel
theorem dX10_endUnit_30 : decode cX10_endUnit 30 = .ok (.iconst 1, 1) := by decide +kernel
theorem dX10_endUnit_31 : decode cX10_endUnit 31 = .ok (.invokevirtual 57, 3) := by decide +kernel
theorem dX10_endUnit_34 : decode cX10_endUnit 34 = .ok (.iconst 0, 1) := by decide +kernel
theorem dX10_endUnit_35 : decode cX10_endUnit 35 = .ok (.istore_n 2, 1) := by decide +kernel
theorem dX10_endUnit_36 : decode cX10_endUnit 36 = .ok (.iconst 0, 1) := by decide +kernel
theorem dX10_endUnit_37 : decode cX10_endUnit 37 = .ok (.istore_n 3, 1) := by decide +kernel
theorem dX10_endUnit_38 : decode cX10_endUnit 38 = .ok (.iload_n 3, 1) := by decide +kernel
theorem dX10_endUnit_39 : decode cX10_endUnit 39 = .ok (.aload_n 0, 1) := by decide +kernel
theorem dX10_endUnit_40 : decode cX10_endUnit 40 = .ok (.getfield 47, 3) := by decide +kernel
theorem dX10_endUnit_43 : decode cX10_endUnit 43 = .ok (.if_icmp .ge 58, 3) := by decide +kernel
theorem dX10_endUnit_46 : decode cX10_endUnit 46 = .ok (.aload_n 0, 1) := by decide +kernel
theorem dX10_endUnit_47 : decode cX10_endUnit 47 = .ok (.getfield 15, 3) := by decide +kernel
theorem dX10_endUnit_50 : decode cX10_endUnit 50 = .ok (.iload_n 3, 1) := by decide +kernel
theorem dX10_endUnit_51 : decode cX10_endUnit 51 = .ok (.baload, 1) := by decide +kernel
theorem dX10_endUnit_52 : decode cX10_endUnit 52 = .ok (.sipush 255, 3) := by decide +kernel
theorem dX10_endUnit_55 : decode cX10_endUnit 55 = .ok (.iand, 1) := by decide +kernel
theorem dX10_endUnit_56 : decode cX10_endUnit 56 = .ok (.istore 4, 2) := by decide +kernel
theorem dX10_endUnit_58 : decode cX10_endUnit 58 = .ok (.iload_n 2, 1) := by decide +kernel
theorem dX10_endUnit_59 : decode cX10_endUnit 59 = .ok (.iconst 2, 1) := by decide +kernel
theorem dX10_endUnit_60 : decode cX10_endUnit 60 = .ok (.if_icmp .lt 16, 3) := by decide +kernel
theorem dX10_endUnit_63 : decode cX10_endUnit 63 = .ok (.iload 4, 2) := by decide +kernel
theorem dX10_endUnit_65 : decode cX10_endUnit 65 = .ok (.iconst 4, 1) := by decide +kernel
theorem dX10_endUnit_66 : decode cX10_endUnit 66 = .ok (.if_icmp .ge 10, 3) := by decide +kernel
theorem dX10_endUnit_69 : decode cX10_endUnit 69 = .ok (.aload_n 0, 1) := by decide +kernel
theorem dX10_endUnit_70 : decode cX10_endUnit 70 = .ok (.iconst 3, 1) := by decide +kernel
theorem dX10_endUnit_71 : decode cX10_endUnit 71 = .ok (.invokevirtual 57, 3) := by decide +kernel
theorem dX10_endUnit_74 : decode cX10_endUnit 74 = .ok (.iconst 0, 1) := by decide +kernel
theorem dX10_endUnit_75 : decode cX10_endUnit 75 = .ok (.istore_n 2, 1) := by decide +kernel
theorem dX10_endUnit_76 : decode cX10_endUnit 76 = .ok (.aload_n 0, 1) := by decide +kernel
theorem dX10_endUnit_77 : decode cX10_endUnit 77 = .ok (.iload 4, 2) := by decide +kernel
theorem dX10_endUnit_79 : decode cX10_endUnit 79 = .ok (.invokevirtual 57, 3) := by decide +kernel
theorem dX10_endUnit_82 : decode cX10_endUnit 82 = .ok (.iload 4, 2) := by decide +kernel
theorem dX10_endUnit_84 : decode cX10_endUnit 84 = .ok (.ifCond .ne 9, 3) := by decide +kernel
theorem dX10_endUnit_87 : decode cX10_endUnit 87 = .ok (.iload_n 2, 1) := by decide +kernel
theorem dX10_endUnit_88 : decode cX10_endUnit 88 = .ok (.iconst 1, 1) := by decide +kernel
theorem dX10_endUnit_89 : decode cX10_endUnit 89 = .ok (.iadd, 1) := by decide +kernel
theorem dX10_endUnit_90 : decode cX10_endUnit 90 = .ok (.goto 4, 3) := by decide +kernel
theorem dX10_endUnit_93 : decode cX10_endUnit 93 = .ok (.iconst 0, 1) := by decide +kernel
theorem dX10_endUnit_94 : decode cX10_endUnit 94 = .ok (.istore_n 2, 1) := by decide +kernel
theorem dX10_endUnit_95 : decode cX10_endUnit 95 = .ok (.iinc 3 1, 3) := by decide +kernel
theorem dX10_endUnit_98 : decode cX10_endUnit 98 = .ok (.goto (-60), 3) := by decide +kernel
theorem dX10_endUnit_101 : decode cX10_endUnit 101 = .ok (.aload_n 0, 1) := by decide +kernel
theorem dX10_endUnit_102 : decode cX10_endUnit 102 = .ok (.dup, 1) := by decide +kernel
theorem dX10_endUnit_103 : decode cX10_endUnit 103 = .ok (.getfield 60, 3) := by decide +kernel
theorem dX10_endUnit_106 : decode cX10_endUnit 106 = .ok (.iconst 1, 1) := by decide +kernel
theorem dX10_endUnit_107 : decode cX10_endUnit 107 = .ok (.iadd, 1) := by decide +kernel
theorem dX10_endUnit_108 : decode cX10_endUnit 108 = .ok (.putfield 60, 3) := by decide +kernel
theorem dX10_endUnit_111 : decode cX10_endUnit 111 = .ok (.return_, 1) := by decide +kernel
noncomputable def FX10_endUnit (G : GG) (M : DD) (a : Nat) (p0 : Int32) : Option (NN × DD) :=
  bnd (if p0 = ((0 : Int32)) then (bnd (FX10_put (xt G []) M a ((1 : Int32))) fun y76 =>
  app y76.1 <|
  ltt ([] ++ y76.1) fun L78 =>
  some ([], y76.2)) else
  (some ([], M))) fun (y1 : NN × DD) =>
  app y1.1 <|
  ltt ([] ++ y1.1) fun L3 =>
  bnd (FX10_fill (xt G L3) y1.2 a ((0 : Int32))) fun y5 =>
  app y5.1 <|
  ltt (L3 ++ y5.1) fun L7 =>
  bnd (FX10_putByte (xt G L7) y5.2 a ((0 : Int32))) fun y10 =>
  app y10.1 <|
  ltt (L7 ++ y10.1) fun L12 =>
  bnd (FX10_putByte (xt G L12) y10.2 a ((0 : Int32))) fun y15 =>
  app y15.1 <|
  ltt (L12 ++ y15.1) fun L17 =>
  bnd (FX10_putByte (xt G L17) y15.2 a ((0 : Int32))) fun y20 =>
  app y20.1 <|
  ltt (L17 ++ y20.1) fun L22 =>
  bnd (FX10_putByte (xt G L22) y20.2 a ((1 : Int32))) fun y25 =>
  app y25.1 <|
  ltt (L22 ++ y25.1) fun L27 =>
  bnd (itrA (fun (s31 : NN × Int32 × Int32 × DD) => ((ltt (s31.2.2.2.1 a 5) fun x43 =>
  if x43 ≤ s31.2.2.1 then (some ([], .inr ((s31.2.1, s31.2.2.1, s31.2.2.2)))) else
  (dr (xt G s31.1) 12 ((s31.2.2.2.2 a 4)) fun b45 =>
  chk (¬ (s31.2.2.1 < 0 ∨ (xt G s31.1).2.2 b45 ≤ s31.2.2.1.toNatClampNeg)) <|
  ltt (s31.2.2.2.1 b45 s31.2.2.1.toNatClampNeg) fun x46 =>
  ltt ((x46 &&& ((255 : Int32)))) fun x47 =>
  bnd (if s31.2.1 < ((2 : Int32)) then (some ([], (s31.2.1, s31.2.2.2))) else
  (bnd (if ((4 : Int32)) ≤ x47 then (some ([], (s31.2.1, s31.2.2.2))) else
  (bnd (FX10_putByte (xt G s31.1) s31.2.2.2 a ((3 : Int32))) fun y69 =>
  app y69.1 <|
  ltt (s31.1 ++ y69.1) fun L71 =>
  some ([], ((0 : Int32), y69.2)))) fun (y63 : NN × Int32 × DD) =>
  app y63.1 <|
  ltt (s31.1 ++ y63.1) fun L65 =>
  some ([], (y63.2.1, y63.2.2)))) fun (y48 : NN × Int32 × DD) =>
  app y48.1 <|
  ltt (s31.1 ++ y48.1) fun L50 =>
  bnd (FX10_putByte (xt G L50) y48.2.2 a x47) fun y52 =>
  app y52.1 <|
  ltt (L50 ++ y52.1) fun L54 =>
  bnd (if x47 = ((0 : Int32)) then (ltt ((y48.2.1 + ((1 : Int32)))) fun x60 =>
  some (x60)) else
  (some ((0 : Int32)))) fun (y57 : Int32) =>
  ltt (s31.2.2.1 + (1 : Int32)) fun x58 =>
  some ([], .inl (L54, (y57, x58, y52.2))))) : Option (NN × ((NN × Int32 × Int32 × DD) ⊕ (Int32 × Int32 × DD))))) 1000000 (L27, ((0 : Int32), (0 : Int32), y25.2))) fun (y30 : NN × Int32 × Int32 × DD) =>
  app y30.1 <|
  ltt (L27 ++ y30.1) fun L33 =>
  ltt (y30.2.2.2.1 a 2) fun x35 =>
  ltt ((x35 + ((1 : Int32)))) fun x36 =>
  ltt (uI y30.2.2.2 a 2 x36) fun M37 =>
  some ([], M37)
set_option maxHeartbeats 4000000 in
set_option maxRecDepth 100000 in
theorem kX10_endUnit (l : Launch) (D : va_G) (ct : CT) (ad : Nat → Nat) (Z : Nat → Nat) (G : GG) (M : DD) (sz : Nat) (a : Nat) (p0 : Int32) (y : NN × DD) (hc : a < G.1) (hk : G.2.1 a = 10) (hF : FX10_endUnit G M a p0 = some y) : Met l yX10_endUnit wuX10_endUnit ({ frames := 4, cells := y.1.length, slots := wt y.1, locals := 146 }) (va_Pc [.ref (ad a), .int p0] (kB D ct ad Z G M sz)) (va_Qv (fun (u : Nat → Nat) => agr G.1 ad u) (fun u t => kE D ct u (xt G y.1) (wA ad G sz) y.2 t) (wA ad G sz)) y.1.length (wt y.1) (wA ad G sz) := by
  refine Met.ofW (cc := cX10_endUnit) (maxL := 5) (ret := none) (by decide) rfl ?_
  intro p e s m args below meth c s₁ B hml hv
  obtain ⟨rfl, hsz, hP, hK, hD0, hZ, hN⟩ := hv
  have hx := B.exec
  have hb := B.bytes
  have hr := B.returns
  have hts := atoms_spec (ws := wuX10_endUnit) B.pre
  have hown : s.vm.findClass RX10 = some m.cls := findClass_of_methodNamed B.named
  have hlocks := B.notSynchronized
  subst hsz
  have hD := wD_self (sz := s.heap.size) hD0
  have hA9 : ∀ q, s.heap.size ≤ q → wA ad G s.heap.size q := fun q h => Or.inr h
  generalize hAe : wA ad G s.heap.size = A at hD hA9 hZ ⊢
  have hS : va_S A s.heap s.heap [] := va_S.rf
  have hl := lv_entry ([.ref (ad a), .int p0]) (n := 5) (Nat.le_of_ble_eq_true rfl)
  rw [lg_entry_eq]
  generalize (lg_sl ([.ref (ad a), .int p0]) ++ List.replicate (5 - (lg_sl ([.ref (ad a), .int p0])).length) Slot.unset).toArray = ls at hl ⊢
  have hl : lv_has ls 5 [(0, .ref (ad a)), (1, .int p0)] := hl
  unfold FX10_endUnit at hF
  rw [← wld_0 ct ad G M] at hP hD
  have hk := xt_k0 hc hk
  have hc := xt_l0 hc
  have hag := agr_rf G.1 ad
  obtain ⟨w0, hw0⟩ : ∃ z, z = y := ⟨_, rfl⟩
  rw [← hw0] at hF
  have hT : y.1 = [] ++ w0.1 := by rw [hw0]; rfl
  have h2 : y.2 = w0.2 := by rw [hw0]
  have hbl : y.1.length ≤ y.1.length ∧ wt y.1 ≤ wt y.1 := ⟨Nat.le_refl _, Nat.le_refl _⟩
  refine lv_iload_n hx hb dX10_endUnit_0 rfl (lv_at hl 1 rfl) ?_
  obtain ⟨y1, hy1, hF⟩ := bnd_some hF
  obtain ⟨w2, hF, ew2⟩ := app_some hF
  obtain ⟨L3, eL3, hF⟩ := ltt_some hF
  have hT3 : y.1 = ([] ++ y1.1) ++ w2.1 := by rw [hT, ew2]; simp only [List.append_assoc]
  have hbl3 : L3.length ≤ y.1.length ∧ wt L3 ≤ wt y.1 := by rw [eL3]; exact room_d hT3 hbl
  have J1 : ∀ (ad4 : Nat → Nat), agr G.1 ad ad4 → ∀ (H : Heap) (locs : List Loc) (ls : Array Slot), va_P D classes (wld ct ad4 (xt G L3) y1.2) H → va_D A (wld ct ad4 (xt G L3) y1.2) → va_S A s.heap H locs → lv_has ls 5 [(0, .ref (ad4 a))] → W p l e (headSpec wuX10_endUnit ({ frames := 4, cells := y.1.length, slots := wt y.1, locals := 146 })).room s m ([.ref (ad a), .int p0] : List Value).toArray below meth c H locs (L3 : NN).length (wt L3) (MQ below (va_Qv (fun (u : Nat → Nat) => agr G.1 ad u) (fun u t => kE D ct u (xt G y.1) A y.2 t) A) ([.ref (ad a), .int p0] : List Value).toArray s y.1.length (wt y.1) A) (F0 m 9 ls []) := by
    intro ad4 hag H locs ls hP hD hS hl
    have hT : y.1 = L3 ++ w2.1 := by rw [hT3, eL3]
    have h2 : y.2 = w2.2 := by rw [h2, ew2]
    have hk : (xt G L3).2.1 a = 10 := by rw [eL3]; exact xt_k _ hc hk
    have hc : a < (xt G L3).1 := by rw [eL3]; exact xt_l _ hc
    refine lv_aload_n hx hb dX10_endUnit_9 rfl (lv_at hl 0 rfl) ?_
    refine lv_iconst (v := (0 : Int32)) hx hb dX10_endUnit_10 (by decide) ?_
    obtain ⟨y5, hy5, hF⟩ := bnd_some hF
    obtain ⟨w6, hF, ew6⟩ := app_some hF
    obtain ⟨L7, eL7, hF⟩ := ltt_some hF
    have hT7 : y.1 = (L3 ++ y5.1) ++ w6.1 := by rw [hT, ew6]; simp only [List.append_assoc]
    have hf9 := wA_in hD hA9 hS
    refine va_callv (va_runV (As := [.int (0 : Int32)]) (rest := []) ⟨hx, hb, hml, hown, hts⟩ (kX10_fill l D ct ad4 Z (xt G L3) y1.2 _ a ((0 : Int32)) y5 hc hk hy5) (cwV 1 hts gX10_endUnit_X10_fill rfl rfl rfl (by decide +kernel) ⟨Nat.le_of_ble_eq_true rfl, Nat.le_of_ble_eq_true rfl⟩) ⟨fun a U g mk q => by obtain ⟨q0, q1, qP, qK, qD, qZ, qN⟩ := q; exact ⟨q0, q1, qP, va_K.moved (u := U) (U := U.calling g mk a) (Vm.Alike.refl U.vm) qK, qD, sF.moved (u := U) (U := U.calling g mk a) (Vm.Alike.refl U.vm) qZ, nF.same rfl qN⟩, va_recv hK hP (ci := 10) (q0 := a) rfl (wld_o ct ad4 (xt G L3) y1.2 hc hk (by decide)), fun U hU hW => ⟨rfl, by rw [hU], by rw [hU]; exact hP, va_K.moved hW.alike hK, hD.weaken (fun _ _ _ _ => trivial), by rw [hU]; exact ((hZ.kept hS.2.1).narrow hf9).moved hW.alike, hN.warm hW⟩⟩ rfl rfl hl.1 rfl (lv_room (Nat.le_of_ble_eq_true rfl)) dX10_endUnit_11 (room_s hT7 hbl)) hS (fun q _ h => hf9 q h) hf9 (fun ad8 t H locs ht hvm hw hB hz1 hk1 hS => ?_)
    have hn9 := hw
    obtain ⟨hP, hK9, hD9⟩ := hB
    rw [ht] at hP
    have hD := hD9.weaken (fun _ q _ h => hf9 q.1 h)
    rw [xt_xt, ← eL7] at hP hD
    refine W_cs (k := L7.length) (n := wt L7) (by rw [eL7]; exact (len_s L3 y5.1).symm) (by rw [eL7]; exact (wt_app L3 y5.1).symm) ?_
    have hT : y.1 = L7 ++ w6.1 := by rw [hT7, eL7]
    have h2 : y.2 = w6.2 := by rw [h2, ew6]
    have hl := lv_sub (l' := [(0, .ref (ad4 a))]) hl [0] rfl
    have e9 : ([(0, .ref (ad4 a))] : List (Nat × Value)) = [(0, .ref (ad8 a))] := (by first | rfl | simp only [hn9 a hc])
    rw [e9] at hl
    clear e9
    have hk : (xt G L7).2.1 a = 10 := by rw [eL7]; exact xt_k _ hc hk
    have hc : a < (xt G L7).1 := by rw [eL7]; exact xt_l _ hc
    have hag := agr_t (xt_ge _ _) hag hn9
    refine lv_aload_n hx hb dX10_endUnit_14 rfl (lv_at hl 0 rfl) ?_
    refine lv_iconst (v := (0 : Int32)) hx hb dX10_endUnit_15 (by decide) ?_
    obtain ⟨y10, hy10, hF⟩ := bnd_some hF
    obtain ⟨w11, hF, ew11⟩ := app_some hF
    obtain ⟨L12, eL12, hF⟩ := ltt_some hF
    have hT12 : y.1 = (L7 ++ y10.1) ++ w11.1 := by rw [hT, ew11]; simp only [List.append_assoc]
    have hf9 := wA_in hD hA9 hS
    refine va_callv (va_runV (As := [.int (0 : Int32)]) (rest := []) ⟨hx, hb, hml, hown, hts⟩ (kX10_putByte l D ct ad8 Z (xt G L7) y5.2 _ a ((0 : Int32)) y10 hc hk hy10) (cwV 1 hts gX10_endUnit_X10_putByte rfl rfl rfl (by decide +kernel) ⟨Nat.le_of_ble_eq_true rfl, Nat.le_of_ble_eq_true rfl⟩) ⟨fun a U g mk q => by obtain ⟨q0, q1, qP, qK, qD, qZ, qN⟩ := q; exact ⟨q0, q1, qP, va_K.moved (u := U) (U := U.calling g mk a) (Vm.Alike.refl U.vm) qK, qD, sF.moved (u := U) (U := U.calling g mk a) (Vm.Alike.refl U.vm) qZ, nF.same rfl qN⟩, va_recv hK hP (ci := 10) (q0 := a) rfl (wld_o ct ad8 (xt G L7) y5.2 hc hk (by decide)), fun U hU hW => ⟨rfl, by rw [hU], by rw [hU]; exact hP, va_K.moved hW.alike hK, hD.weaken (fun _ _ _ _ => trivial), by rw [hU]; exact ((hZ.kept hS.2.1).narrow hf9).moved hW.alike, hN.warm hW⟩⟩ rfl rfl hl.1 rfl (lv_room (Nat.le_of_ble_eq_true rfl)) dX10_endUnit_16 (room_s hT12 hbl)) hS (fun q _ h => hf9 q h) hf9 (fun ad13 t H locs ht hvm hw hB hz1 hk1 hS => ?_)
    have hn14 := hw
    obtain ⟨hP, hK9, hD9⟩ := hB
    rw [ht] at hP
    have hD := hD9.weaken (fun _ q _ h => hf9 q.1 h)
    rw [xt_xt, ← eL12] at hP hD
    refine W_cs (k := L12.length) (n := wt L12) (by rw [eL12]; exact (len_s L7 y10.1).symm) (by rw [eL12]; exact (wt_app L7 y10.1).symm) ?_
    have hT : y.1 = L12 ++ w11.1 := by rw [hT12, eL12]
    have h2 : y.2 = w11.2 := by rw [h2, ew11]
    have hl := lv_sub (l' := [(0, .ref (ad8 a))]) hl [0] rfl
    have e9 : ([(0, .ref (ad8 a))] : List (Nat × Value)) = [(0, .ref (ad13 a))] := (by first | rfl | simp only [hn14 a hc])
    rw [e9] at hl
    clear e9
    have hk : (xt G L12).2.1 a = 10 := by rw [eL12]; exact xt_k _ hc hk
    have hc : a < (xt G L12).1 := by rw [eL12]; exact xt_l _ hc
    have hag := agr_t (xt_ge _ _) hag hn14
    refine lv_aload_n hx hb dX10_endUnit_19 rfl (lv_at hl 0 rfl) ?_
    refine lv_iconst (v := (0 : Int32)) hx hb dX10_endUnit_20 (by decide) ?_
    obtain ⟨y15, hy15, hF⟩ := bnd_some hF
    obtain ⟨w16, hF, ew16⟩ := app_some hF
    obtain ⟨L17, eL17, hF⟩ := ltt_some hF
    have hT17 : y.1 = (L12 ++ y15.1) ++ w16.1 := by rw [hT, ew16]; simp only [List.append_assoc]
    have hf9 := wA_in hD hA9 hS
    refine va_callv (va_runV (As := [.int (0 : Int32)]) (rest := []) ⟨hx, hb, hml, hown, hts⟩ (kX10_putByte l D ct ad13 Z (xt G L12) y10.2 _ a ((0 : Int32)) y15 hc hk hy15) (cwV 1 hts gX10_endUnit_X10_putByte rfl rfl rfl (by decide +kernel) ⟨Nat.le_of_ble_eq_true rfl, Nat.le_of_ble_eq_true rfl⟩) ⟨fun a U g mk q => by obtain ⟨q0, q1, qP, qK, qD, qZ, qN⟩ := q; exact ⟨q0, q1, qP, va_K.moved (u := U) (U := U.calling g mk a) (Vm.Alike.refl U.vm) qK, qD, sF.moved (u := U) (U := U.calling g mk a) (Vm.Alike.refl U.vm) qZ, nF.same rfl qN⟩, va_recv hK hP (ci := 10) (q0 := a) rfl (wld_o ct ad13 (xt G L12) y10.2 hc hk (by decide)), fun U hU hW => ⟨rfl, by rw [hU], by rw [hU]; exact hP, va_K.moved hW.alike hK, hD.weaken (fun _ _ _ _ => trivial), by rw [hU]; exact ((hZ.kept hS.2.1).narrow hf9).moved hW.alike, hN.warm hW⟩⟩ rfl rfl hl.1 rfl (lv_room (Nat.le_of_ble_eq_true rfl)) dX10_endUnit_21 (room_s hT17 hbl)) hS (fun q _ h => hf9 q h) hf9 (fun ad18 t H locs ht hvm hw hB hz1 hk1 hS => ?_)
    have hn19 := hw
    obtain ⟨hP, hK9, hD9⟩ := hB
    rw [ht] at hP
    have hD := hD9.weaken (fun _ q _ h => hf9 q.1 h)
    rw [xt_xt, ← eL17] at hP hD
    refine W_cs (k := L17.length) (n := wt L17) (by rw [eL17]; exact (len_s L12 y15.1).symm) (by rw [eL17]; exact (wt_app L12 y15.1).symm) ?_
    have hT : y.1 = L17 ++ w16.1 := by rw [hT17, eL17]
    have h2 : y.2 = w16.2 := by rw [h2, ew16]
    have hl := lv_sub (l' := [(0, .ref (ad13 a))]) hl [0] rfl
    have e9 : ([(0, .ref (ad13 a))] : List (Nat × Value)) = [(0, .ref (ad18 a))] := (by first | rfl | simp only [hn19 a hc])
    rw [e9] at hl
    clear e9
    have hk : (xt G L17).2.1 a = 10 := by rw [eL17]; exact xt_k _ hc hk
    have hc : a < (xt G L17).1 := by rw [eL17]; exact xt_l _ hc
    have hag := agr_t (xt_ge _ _) hag hn19
    refine lv_aload_n hx hb dX10_endUnit_24 rfl (lv_at hl 0 rfl) ?_
    refine lv_iconst (v := (0 : Int32)) hx hb dX10_endUnit_25 (by decide) ?_
    obtain ⟨y20, hy20, hF⟩ := bnd_some hF
    obtain ⟨w21, hF, ew21⟩ := app_some hF
    obtain ⟨L22, eL22, hF⟩ := ltt_some hF
    have hT22 : y.1 = (L17 ++ y20.1) ++ w21.1 := by rw [hT, ew21]; simp only [List.append_assoc]
    have hf9 := wA_in hD hA9 hS
    refine va_callv (va_runV (As := [.int (0 : Int32)]) (rest := []) ⟨hx, hb, hml, hown, hts⟩ (kX10_putByte l D ct ad18 Z (xt G L17) y15.2 _ a ((0 : Int32)) y20 hc hk hy20) (cwV 1 hts gX10_endUnit_X10_putByte rfl rfl rfl (by decide +kernel) ⟨Nat.le_of_ble_eq_true rfl, Nat.le_of_ble_eq_true rfl⟩) ⟨fun a U g mk q => by obtain ⟨q0, q1, qP, qK, qD, qZ, qN⟩ := q; exact ⟨q0, q1, qP, va_K.moved (u := U) (U := U.calling g mk a) (Vm.Alike.refl U.vm) qK, qD, sF.moved (u := U) (U := U.calling g mk a) (Vm.Alike.refl U.vm) qZ, nF.same rfl qN⟩, va_recv hK hP (ci := 10) (q0 := a) rfl (wld_o ct ad18 (xt G L17) y15.2 hc hk (by decide)), fun U hU hW => ⟨rfl, by rw [hU], by rw [hU]; exact hP, va_K.moved hW.alike hK, hD.weaken (fun _ _ _ _ => trivial), by rw [hU]; exact ((hZ.kept hS.2.1).narrow hf9).moved hW.alike, hN.warm hW⟩⟩ rfl rfl hl.1 rfl (lv_room (Nat.le_of_ble_eq_true rfl)) dX10_endUnit_26 (room_s hT22 hbl)) hS (fun q _ h => hf9 q h) hf9 (fun ad23 t H locs ht hvm hw hB hz1 hk1 hS => ?_)
    have hn24 := hw
    obtain ⟨hP, hK9, hD9⟩ := hB
    rw [ht] at hP
    have hD := hD9.weaken (fun _ q _ h => hf9 q.1 h)
    rw [xt_xt, ← eL22] at hP hD
    refine W_cs (k := L22.length) (n := wt L22) (by rw [eL22]; exact (len_s L17 y20.1).symm) (by rw [eL22]; exact (wt_app L17 y20.1).symm) ?_
    have hT : y.1 = L22 ++ w21.1 := by rw [hT22, eL22]
    have h2 : y.2 = w21.2 := by rw [h2, ew21]
    have hl := lv_sub (l' := [(0, .ref (ad18 a))]) hl [0] rfl
    have e9 : ([(0, .ref (ad18 a))] : List (Nat × Value)) = [(0, .ref (ad23 a))] := (by first | rfl | simp only [hn24 a hc])
    rw [e9] at hl
    clear e9
    have hk : (xt G L22).2.1 a = 10 := by rw [eL22]; exact xt_k _ hc hk
    have hc : a < (xt G L22).1 := by rw [eL22]; exact xt_l _ hc
    have hag := agr_t (xt_ge _ _) hag hn24
    refine lv_aload_n hx hb dX10_endUnit_29 rfl (lv_at hl 0 rfl) ?_
    refine lv_iconst (v := (1 : Int32)) hx hb dX10_endUnit_30 (by decide) ?_
    obtain ⟨y25, hy25, hF⟩ := bnd_some hF
    obtain ⟨w26, hF, ew26⟩ := app_some hF
    obtain ⟨L27, eL27, hF⟩ := ltt_some hF
    have hT27 : y.1 = (L22 ++ y25.1) ++ w26.1 := by rw [hT, ew26]; simp only [List.append_assoc]
    have hf9 := wA_in hD hA9 hS
    refine va_callv (va_runV (As := [.int (1 : Int32)]) (rest := []) ⟨hx, hb, hml, hown, hts⟩ (kX10_putByte l D ct ad23 Z (xt G L22) y20.2 _ a ((1 : Int32)) y25 hc hk hy25) (cwV 1 hts gX10_endUnit_X10_putByte rfl rfl rfl (by decide +kernel) ⟨Nat.le_of_ble_eq_true rfl, Nat.le_of_ble_eq_true rfl⟩) ⟨fun a U g mk q => by obtain ⟨q0, q1, qP, qK, qD, qZ, qN⟩ := q; exact ⟨q0, q1, qP, va_K.moved (u := U) (U := U.calling g mk a) (Vm.Alike.refl U.vm) qK, qD, sF.moved (u := U) (U := U.calling g mk a) (Vm.Alike.refl U.vm) qZ, nF.same rfl qN⟩, va_recv hK hP (ci := 10) (q0 := a) rfl (wld_o ct ad23 (xt G L22) y20.2 hc hk (by decide)), fun U hU hW => ⟨rfl, by rw [hU], by rw [hU]; exact hP, va_K.moved hW.alike hK, hD.weaken (fun _ _ _ _ => trivial), by rw [hU]; exact ((hZ.kept hS.2.1).narrow hf9).moved hW.alike, hN.warm hW⟩⟩ rfl rfl hl.1 rfl (lv_room (Nat.le_of_ble_eq_true rfl)) dX10_endUnit_31 (room_s hT27 hbl)) hS (fun q _ h => hf9 q h) hf9 (fun ad28 t H locs ht hvm hw hB hz1 hk1 hS => ?_)
    have hn29 := hw
    obtain ⟨hP, hK9, hD9⟩ := hB
    rw [ht] at hP
    have hD := hD9.weaken (fun _ q _ h => hf9 q.1 h)
    rw [xt_xt, ← eL27] at hP hD
    refine W_cs (k := L27.length) (n := wt L27) (by rw [eL27]; exact (len_s L22 y25.1).symm) (by rw [eL27]; exact (wt_app L22 y25.1).symm) ?_
    have hT : y.1 = L27 ++ w26.1 := by rw [hT27, eL27]
    have h2 : y.2 = w26.2 := by rw [h2, ew26]
    have hl := lv_sub (l' := [(0, .ref (ad23 a))]) hl [0] rfl
    have e9 : ([(0, .ref (ad23 a))] : List (Nat × Value)) = [(0, .ref (ad28 a))] := (by first | rfl | simp only [hn29 a hc])
    rw [e9] at hl
    clear e9
    have hk : (xt G L27).2.1 a = 10 := by rw [eL27]; exact xt_k _ hc hk
    have hc : a < (xt G L27).1 := by rw [eL27]; exact xt_l _ hc
    have hag := agr_t (xt_ge _ _) hag hn29
    refine lv_iconst (v := (0 : Int32)) hx hb dX10_endUnit_34 (by decide) ?_
    refine lv_istore_n (lv' := [(2, .int (0 : Int32)), (0, .ref (ad28 a))]) hx hb dX10_endUnit_35 rfl hl (by decide) rfl (fun ls hl => ?_)
    refine lv_iconst (v := (0 : Int32)) hx hb dX10_endUnit_36 (by decide) ?_
    refine lv_istore_n (lv' := [(3, .int (0 : Int32)), (2, .int (0 : Int32)), (0, .ref (ad28 a))]) hx hb dX10_endUnit_37 rfl hl (by decide) rfl (fun ls hl => ?_)
    obtain ⟨y30, hy30, hF⟩ := bnd_some hF
    obtain ⟨w32, hF, ew32⟩ := app_some hF
    obtain ⟨L33, eL33, hF⟩ := ltt_some hF
    have hT33 : y.1 = (L27 ++ y30.1) ++ w32.1 := by rw [hT, ew32]; simp only [List.append_assoc]
    have hbl33 : L33.length ≤ y.1.length ∧ wt L33 ≤ wt y.1 := by rw [eL33]; exact room_d hT33 hbl
    have K30 : ∀ (ad34 : Nat → Nat), agr G.1 ad ad34 → ∀ (H : Heap) (locs : List Loc) (ls : Array Slot), va_P D classes (wld ct ad34 (xt G L33) y30.2.2.2) H → va_D A (wld ct ad34 (xt G L33) y30.2.2.2) → va_S A s.heap H locs → lv_has ls 5 [(0, .ref (ad34 a))] → W p l e (headSpec wuX10_endUnit ({ frames := 4, cells := y.1.length, slots := wt y.1, locals := 146 })).room s m ([.ref (ad a), .int p0] : List Value).toArray below meth c H locs (L33 : NN).length (wt L33) (MQ below (va_Qv (fun (u : Nat → Nat) => agr G.1 ad u) (fun u t => kE D ct u (xt G y.1) A y.2 t) A) ([.ref (ad a), .int p0] : List Value).toArray s y.1.length (wt y.1) A) (F0 m 101 ls []) := by
      intro ad34 hag H locs ls hP hD hS hl
      have hT : y.1 = L33 ++ w32.1 := by rw [hT33, eL33]
      have h2 : y.2 = w32.2 := by rw [h2, ew32]
      have hk : (xt G L33).2.1 a = 10 := by rw [eL33]; exact xt_k _ hc hk
      have hc : a < (xt G L33).1 := by rw [eL33]; exact xt_l _ hc
      refine lv_aload_n hx hb dX10_endUnit_101 rfl (lv_at hl 0 rfl) ?_
      refine lv_dup hx hb dX10_endUnit_102 rfl ?_
      refine va_get (D := D) (ci := 10) (v := .int (y30.2.2.2.1 a 2)) (C := RX10) (T := TX10) (N := 20) hx hb hts (mus hf_X10) hown hK hP a (wld_o ct ad34 (xt G L33) y30.2.2.2 hc hk (by decide)) rfl 2 (by decide) (hts (.fieldLink RX10 60 "VideoSuite$Writer" "units" "I") (mu mw_740)) (fun _ h9 => h9) rfl dX10_endUnit_103 ?_
      obtain ⟨x35, ex35, hF⟩ := ltt_some hF
      refine lv_topi (fun zx35 ezx35 => ?_)
      obtain rfl : x35 = zx35 := ex35.trans ezx35.symm
      refine lv_iconst (v := (1 : Int32)) hx hb dX10_endUnit_106 (by decide) ?_
      refine lv_iadd hx hb dX10_endUnit_107 ?_
      obtain ⟨x36, ex36, hF⟩ := ltt_some hF
      refine lv_topi (fun zx36 ezx36 => ?_)
      obtain rfl : x36 = zx36 := ex36.trans ezx36.symm
      refine va_put (D := D) (ci := 10) (v := .int x36) (ty := .int) (C := RX10) (T := TX10) (N := 20) hx hb hts (mus hf_X10) tyX10 tyX10_ok nmX10 hown hK hP hD hS a (wld_o ct ad34 (xt G L33) y30.2.2.2 hc hk (by decide)) rfl 2 (by decide) (hts (.fieldLink RX10 60 "VideoSuite$Writer" "units" "I") (mu mw_740)) (fun _ h9 => h9) rfl (by decide +kernel) rfl rfl (Nat.le_of_ble_eq_true rfl) dX10_endUnit_108 (fun H locs hP hD hS => ?_)
      obtain ⟨M37, eM37, hF⟩ := ltt_some hF
      rw [set_oI ct ad34 (xt G L33) y30.2.2.2 hc hk (by decide) (by rfl), ← eM37] at hP hD
      obtain rfl := Option.some.inj hF
      have e1 : y.1 = L33 := by rw [hT]; exact List.append_nil _
      have e2 : y.2 = M37 := h2
      refine W.widen (k := y.1.length) (n := wt y.1) (Nat.le_of_eq (by rw [e1])) (Nat.le_of_eq (by rw [e1])) ?_
      exact W.vret hx hb hr (fun t ht hW => ⟨⟨ad34, rfl, hag, (by unfold kE; rw [e1, e2]; exact ⟨by rw [ht]; exact hP, va_K.moved hW.alike hK, hD⟩)⟩, hS.F ht⟩) hS.2.2 dX10_endUnit_111
    clear hF
    refine itrA_rule (fun (s31 : NN × Int32 × Int32 × DD) (r39 : NN) => (∃ t, s31.1 = L27 ++ t) → L33 = s31.1 ++ r39 → ∀ (ad38 : Nat → Nat), agr G.1 ad ad38 → ∀ (H : Heap) (locs : List Loc) (ls : Array Slot), va_P D classes (wld ct ad38 (xt G s31.1) s31.2.2.2) H → va_D A (wld ct ad38 (xt G s31.1) s31.2.2.2) → va_S A s.heap H locs → lv_has ls 5 [(3, .int s31.2.2.1), (2, .int s31.2.1), (0, .ref (ad38 a))] → W p l e (headSpec wuX10_endUnit ({ frames := 4, cells := y.1.length, slots := wt y.1, locals := 146 })).room s m ([.ref (ad a), .int p0] : List Value).toArray below meth c H locs (s31.1 : NN).length (wt s31.1) (MQ below (va_Qv (fun (u : Nat → Nat) => agr G.1 ad u) (fun u t => kE D ct u (xt G y.1) A y.2 t) A) ([.ref (ad a), .int p0] : List Value).toArray s y.1.length (wt y.1) A) (F0 m 38 ls [])) ?_ _ _ _ hy30 ⟨[], (List.append_nil _).symm⟩ eL33 _ hag _ _ _ hP hD hS (lv_sub hl [0, 1, 2] rfl)
    rintro s31 r39 ⟨z40, hF, ⟨t30, et30⟩, hwz40⟩ ⟨u30, eu30⟩ eq30 ad38 hag H locs ls hP hD hS hl
    try dsimp only at hF
    obtain ⟨L41, eL41⟩ : ∃ x, x = s31.1 ++ z40.1 := ⟨_, rfl⟩
    obtain ⟨w42, hw42⟩ : ∃ x, x = z40 := ⟨_, rfl⟩
    rw [← hw42] at hF
    have hbl : L41.length ≤ y.1.length ∧ wt L41 ≤ wt y.1 := room_d (show L33 = L41 ++ t30 by rw [eq30, et30, eL41]; simp only [List.append_assoc]) hbl33
    have hT : L41 = s31.1 ++ w42.1 := by rw [eL41, hw42]
    have h2 : z40.2 = w42.2 := by rw [hw42]
    have hk : (xt G s31.1).2.1 a = 10 := by rw [eu30]; exact xt_k _ hc hk
    have hc : a < (xt G s31.1).1 := by rw [eu30]; exact xt_l _ hc
    refine lv_iload_n hx hb dX10_endUnit_38 rfl (lv_at hl 0 rfl) ?_
    refine lv_aload_n hx hb dX10_endUnit_39 rfl (lv_at hl 2 rfl) ?_
    refine va_get (D := D) (ci := 10) (v := .int (s31.2.2.2.1 a 5)) (C := RX10) (T := TX10) (N := 20) hx hb hts (mus hf_X10) hown hK hP a (wld_o ct ad38 (xt G s31.1) s31.2.2.2 hc hk (by decide)) rfl 5 (by decide) (hts (.fieldLink RX10 47 "VideoSuite$Writer" "unitSize" "I") (mu mw_744)) (fun _ h9 => h9) rfl dX10_endUnit_40 ?_
    obtain ⟨x43, ex43, hF⟩ := ltt_some hF
    refine lv_topi (fun zx43 ezx43 => ?_)
    obtain rfl : x43 = zx43 := ex43.trans ezx43.symm
    refine lv_icmp_ge (tgt := 101) hx hb dX10_endUnit_43 (by decide) (fun c44 => ?_) (fun c44 => ?_)
    · rw [if_pos c44] at hF
      obtain rfl := Option.some.inj hF
      have e1 : L41 = s31.1 := by rw [hT]; exact List.append_nil _
      have e2 : z40.2 = .inr ((s31.2.1, s31.2.2.1, s31.2.2.2)) := h2
      rw [e2] at hwz40
      obtain ⟨hw1, hw2⟩ := hwz40
      have e8 : L33 = s31.1 := by rw [eq30, hw2, ← eL41, e1]
      rw [e8] at K30
      try rw [← hw1] at K30
      exact K30 _ hag _ _ _ hP hD hS (lv_sub hl [2] rfl)
    · rw [if_neg c44] at hF
      refine lv_aload_n hx hb dX10_endUnit_46 rfl (lv_at hl 2 rfl) ?_
      refine va_get (D := D) (ci := 10) (v := va_re ad38 (s31.2.2.2.2 a 4)) (C := RX10) (T := TX10) (N := 20) hx hb hts (mus hf_X10) hown hK hP a (wld_o ct ad38 (xt G s31.1) s31.2.2.2 hc hk (by decide)) rfl 4 (by decide) (hts (.fieldLink RX10 15 "VideoSuite$Writer" "unit" "[B") (mu mw_743)) (fun _ h9 => h9) rfl dX10_endUnit_47 ?_
      refine lv_iload_n hx hb dX10_endUnit_50 rfl (lv_at hl 0 rfl) ?_
      obtain ⟨b45, ho45, hc45, hk45, hF⟩ := dr_some hF
      refine W_st (st' := [.int s31.2.2.1, .ref (ad38 b45)]) (by rw [va_some ho45]) ?_
      obtain ⟨hvc, hF⟩ := chk_some hF
      refine va_bald hx hb hK hP b45 0 (wld_b ct ad38 (xt G s31.1) s31.2.2.2 hc45 hk45) rfl hvc dX10_endUnit_51 ?_
      obtain ⟨x46, ex46, hF⟩ := ltt_some hF
      refine lv_topi (fun zx46 ezx46 => ?_)
      obtain rfl : x46 = zx46 := ex46.trans ezx46.symm
      refine lv_sipush (v := (255 : Int32)) hx hb dX10_endUnit_52 (by decide) ?_
      refine lv_iand hx hb dX10_endUnit_55 ?_
      obtain ⟨x47, ex47, hF⟩ := ltt_some hF
      refine lv_topi (fun zx47 ezx47 => ?_)
      obtain rfl : x47 = zx47 := ex47.trans ezx47.symm
      refine lv_istore (lv' := [(4, .int x47), (3, .int s31.2.2.1), (2, .int s31.2.1), (0, .ref (ad38 a))]) hx hb dX10_endUnit_56 hl (by decide) rfl (fun ls hl => ?_)
      refine lv_iload_n hx hb dX10_endUnit_58 rfl (lv_at hl 2 rfl) ?_
      refine lv_iconst (v := (2 : Int32)) hx hb dX10_endUnit_59 (by decide) ?_
      obtain ⟨y48, hy48, hF⟩ := bnd_some hF
      obtain ⟨w49, hF, ew49⟩ := app_some hF
      obtain ⟨L50, eL50, hF⟩ := ltt_some hF
      have hT50 : L41 = (s31.1 ++ y48.1) ++ w49.1 := by rw [hT, ew49]; simp only [List.append_assoc]
      have hbl50 : L50.length ≤ y.1.length ∧ wt L50 ≤ wt y.1 := by rw [eL50]; exact room_d hT50 hbl
      have J48 : ∀ (ad51 : Nat → Nat), agr G.1 ad ad51 → ∀ (H : Heap) (locs : List Loc) (ls : Array Slot), va_P D classes (wld ct ad51 (xt G L50) y48.2.2) H → va_D A (wld ct ad51 (xt G L50) y48.2.2) → va_S A s.heap H locs → lv_has ls 5 [(4, .int x47), (3, .int s31.2.2.1), (2, .int y48.2.1), (0, .ref (ad51 a))] → W p l e (headSpec wuX10_endUnit ({ frames := 4, cells := y.1.length, slots := wt y.1, locals := 146 })).room s m ([.ref (ad a), .int p0] : List Value).toArray below meth c H locs (L50 : NN).length (wt L50) (MQ below (va_Qv (fun (u : Nat → Nat) => agr G.1 ad u) (fun u t => kE D ct u (xt G y.1) A y.2 t) A) ([.ref (ad a), .int p0] : List Value).toArray s y.1.length (wt y.1) A) (F0 m 76 ls []) := by
        intro ad51 hag H locs ls hP hD hS hl
        have hT : L41 = L50 ++ w49.1 := by rw [hT50, eL50]
        have h2 : z40.2 = w49.2 := by rw [h2, ew49]
        have hk : (xt G L50).2.1 a = 10 := by rw [eL50]; exact xt_k _ hc hk
        have hc : a < (xt G L50).1 := by rw [eL50]; exact xt_l _ hc
        have hk45 : (xt G L50).2.1 b45 = 12 := by rw [eL50]; exact xt_k _ hc45 hk45
        have hc45 : b45 < (xt G L50).1 := by rw [eL50]; exact xt_l _ hc45
        refine lv_aload_n hx hb dX10_endUnit_76 rfl (lv_at hl 3 rfl) ?_
        refine lv_iload hx hb dX10_endUnit_77 (lv_at hl 0 rfl) ?_
        obtain ⟨y52, hy52, hF⟩ := bnd_some hF
        obtain ⟨w53, hF, ew53⟩ := app_some hF
        obtain ⟨L54, eL54, hF⟩ := ltt_some hF
        have hT54 : L41 = (L50 ++ y52.1) ++ w53.1 := by rw [hT, ew53]; simp only [List.append_assoc]
        have hf9 := wA_in hD hA9 hS
        refine va_callv (va_runV (As := [.int x47]) (rest := []) ⟨hx, hb, hml, hown, hts⟩ (kX10_putByte l D ct ad51 Z (xt G L50) y48.2.2 _ a x47 y52 hc hk hy52) (cwV 1 hts gX10_endUnit_X10_putByte rfl rfl rfl (by decide +kernel) ⟨Nat.le_of_ble_eq_true rfl, Nat.le_of_ble_eq_true rfl⟩) ⟨fun a U g mk q => by obtain ⟨q0, q1, qP, qK, qD, qZ, qN⟩ := q; exact ⟨q0, q1, qP, va_K.moved (u := U) (U := U.calling g mk a) (Vm.Alike.refl U.vm) qK, qD, sF.moved (u := U) (U := U.calling g mk a) (Vm.Alike.refl U.vm) qZ, nF.same rfl qN⟩, va_recv hK hP (ci := 10) (q0 := a) rfl (wld_o ct ad51 (xt G L50) y48.2.2 hc hk (by decide)), fun U hU hW => ⟨rfl, by rw [hU], by rw [hU]; exact hP, va_K.moved hW.alike hK, hD.weaken (fun _ _ _ _ => trivial), by rw [hU]; exact ((hZ.kept hS.2.1).narrow hf9).moved hW.alike, hN.warm hW⟩⟩ rfl rfl hl.1 rfl (lv_room (Nat.le_of_ble_eq_true rfl)) dX10_endUnit_79 (room_s hT54 hbl)) hS (fun q _ h => hf9 q h) hf9 (fun ad55 t H locs ht hvm hw hB hz1 hk1 hS => ?_)
        have hn56 := hw
        obtain ⟨hP, hK9, hD9⟩ := hB
        rw [ht] at hP
        have hD := hD9.weaken (fun _ q _ h => hf9 q.1 h)
        rw [xt_xt, ← eL54] at hP hD
        refine W_cs (k := L54.length) (n := wt L54) (by rw [eL54]; exact (len_s L50 y52.1).symm) (by rw [eL54]; exact (wt_app L50 y52.1).symm) ?_
        have hT : L41 = L54 ++ w53.1 := by rw [hT54, eL54]
        have h2 : z40.2 = w53.2 := by rw [h2, ew53]
        have hl := lv_sub (l' := [(4, .int x47), (3, .int s31.2.2.1), (2, .int y48.2.1), (0, .ref (ad51 a))]) hl [0, 1, 2, 3] rfl
        have e9 : ([(4, .int x47), (3, .int s31.2.2.1), (2, .int y48.2.1), (0, .ref (ad51 a))] : List (Nat × Value)) = [(4, .int x47), (3, .int s31.2.2.1), (2, .int y48.2.1), (0, .ref (ad55 a))] := (by first | rfl | simp only [hn56 a hc])
        rw [e9] at hl
        clear e9
        have hk : (xt G L54).2.1 a = 10 := by rw [eL54]; exact xt_k _ hc hk
        have hc : a < (xt G L54).1 := by rw [eL54]; exact xt_l _ hc
        have hk45 : (xt G L54).2.1 b45 = 12 := by rw [eL54]; exact xt_k _ hc45 hk45
        have hc45 : b45 < (xt G L54).1 := by rw [eL54]; exact xt_l _ hc45
        have hag := agr_t (xt_ge _ _) hag hn56
        refine lv_iload hx hb dX10_endUnit_82 (lv_at hl 0 rfl) ?_
        obtain ⟨y57, hy57, hF⟩ := bnd_some hF
        have J57 : ∀ (H : Heap) (locs : List Loc) (ls : Array Slot), va_P D classes (wld ct ad55 (xt G L54) y52.2) H → va_D A (wld ct ad55 (xt G L54) y52.2) → va_S A s.heap H locs → lv_has ls 5 [(4, .int x47), (3, .int s31.2.2.1), (2, .int y48.2.1), (0, .ref (ad55 a))] → W p l e (headSpec wuX10_endUnit ({ frames := 4, cells := y.1.length, slots := wt y.1, locals := 146 })).room s m ([.ref (ad a), .int p0] : List Value).toArray below meth c H locs (L54 : NN).length (wt L54) (MQ below (va_Qv (fun (u : Nat → Nat) => agr G.1 ad u) (fun u t => kE D ct u (xt G y.1) A y.2 t) A) ([.ref (ad a), .int p0] : List Value).toArray s y.1.length (wt y.1) A) (F0 m 94 ls [.int y57]) := by
          intro H locs ls hP hD hS hl
          refine lv_istore_n (lv' := [(2, .int y57), (4, .int x47), (3, .int s31.2.2.1), (0, .ref (ad55 a))]) hx hb dX10_endUnit_94 rfl hl (by decide) rfl (fun ls hl => ?_)
          obtain ⟨x58, ex58, hF⟩ := ltt_some hF
          refine lv_iinc (v := x58) (lv' := [(3, .int x58), (2, .int y57), (4, .int x47), (0, .ref (ad55 a))]) hx hb dX10_endUnit_95 hl (k := 2) rfl (by rw [ex58]; rfl) (by decide) rfl (fun ls hl => ?_)
          refine lv_goto (tgt := 38) hx hb dX10_endUnit_98 (by decide) ?_
          obtain rfl := Option.some.inj hF
          have e1 : L41 = L54 := by rw [hT]; exact List.append_nil _
          have e2 : z40.2 = .inl (L54, (y57, x58, y52.2)) := h2
          rw [e2] at hwz40
          obtain ⟨r2, er2, hwz40⟩ := hwz40
          exact hwz40 ⟨u30 ++ z40.1, by show L54 = _; rw [← e1, eL41, eu30]; simp only [List.append_assoc]⟩ (by show L33 = L54 ++ r2; rw [eq30, er2, ← e1, eL41]; simp only [List.append_assoc]) _ hag _ _ _ hP hD hS (lv_sub hl [0, 1, 3] rfl)
        clear hF
        have hF := hy57
        clear hy57
        refine lv_if_ne (tgt := 93) hx hb dX10_endUnit_84 (by decide) (fun c59 => ?_) (fun c59 => ?_)
        · rw [if_neg c59] at hF
          refine lv_iconst (v := (0 : Int32)) hx hb dX10_endUnit_93 (by decide) ?_
          obtain rfl := Option.some.inj hF
          exact J57 _ _ _ hP hD hS (lv_sub hl [0, 1, 2, 3] rfl)
        · rw [if_pos c59] at hF
          refine lv_iload_n hx hb dX10_endUnit_87 rfl (lv_at hl 2 rfl) ?_
          refine lv_iconst (v := (1 : Int32)) hx hb dX10_endUnit_88 (by decide) ?_
          refine lv_iadd hx hb dX10_endUnit_89 ?_
          obtain ⟨x60, ex60, hF⟩ := ltt_some hF
          refine lv_topi (fun zx60 ezx60 => ?_)
          obtain rfl : x60 = zx60 := ex60.trans ezx60.symm
          refine lv_goto (tgt := 94) hx hb dX10_endUnit_90 (by decide) ?_
          obtain rfl := Option.some.inj hF
          exact J57 _ _ _ hP hD hS (lv_sub hl [0, 1, 2, 3] rfl)
      clear hF
      obtain ⟨w61, hw61⟩ : ∃ z, z = y48 := ⟨_, rfl⟩
      have hF := hy48
      rw [← hw61] at hF
      clear hy48
      have hT : L50 = s31.1 ++ w61.1 := by rw [eL50, hw61]
      have h2 : y48.2 = w61.2 := by rw [hw61]
      have hbl := hbl50
      refine lv_icmp_lt (tgt := 76) hx hb dX10_endUnit_60 (by decide) (fun c62 => ?_) (fun c62 => ?_)
      · rw [if_pos c62] at hF
        obtain rfl := Option.some.inj hF
        have e1 : L50 = s31.1 := by rw [hT]; exact List.append_nil _
        have e2 : y48.2 = (s31.2.1, s31.2.2.2) := h2
        rw [e1] at J48
        try rw [e2] at J48
        exact J48 _ hag _ _ _ hP hD hS (lv_sub hl [0, 1, 2, 3] rfl)
      · rw [if_neg c62] at hF
        refine lv_iload hx hb dX10_endUnit_63 (lv_at hl 0 rfl) ?_
        refine lv_iconst (v := (4 : Int32)) hx hb dX10_endUnit_65 (by decide) ?_
        obtain ⟨y63, hy63, hF⟩ := bnd_some hF
        obtain ⟨w64, hF, ew64⟩ := app_some hF
        obtain ⟨L65, eL65, hF⟩ := ltt_some hF
        have hT65 : L50 = (s31.1 ++ y63.1) ++ w64.1 := by rw [hT, ew64]; simp only [List.append_assoc]
        have hbl65 : L65.length ≤ y.1.length ∧ wt L65 ≤ wt y.1 := by rw [eL65]; exact room_d hT65 hbl
        have J63 : ∀ (ad66 : Nat → Nat), agr G.1 ad ad66 → ∀ (H : Heap) (locs : List Loc) (ls : Array Slot), va_P D classes (wld ct ad66 (xt G L65) y63.2.2) H → va_D A (wld ct ad66 (xt G L65) y63.2.2) → va_S A s.heap H locs → lv_has ls 5 [(4, .int x47), (3, .int s31.2.2.1), (2, .int y63.2.1), (0, .ref (ad66 a))] → W p l e (headSpec wuX10_endUnit ({ frames := 4, cells := y.1.length, slots := wt y.1, locals := 146 })).room s m ([.ref (ad a), .int p0] : List Value).toArray below meth c H locs (L65 : NN).length (wt L65) (MQ below (va_Qv (fun (u : Nat → Nat) => agr G.1 ad u) (fun u t => kE D ct u (xt G y.1) A y.2 t) A) ([.ref (ad a), .int p0] : List Value).toArray s y.1.length (wt y.1) A) (F0 m 76 ls []) := by
          intro ad66 hag H locs ls hP hD hS hl
          have hT : L50 = L65 ++ w64.1 := by rw [hT65, eL65]
          have h2 : y48.2 = w64.2 := by rw [h2, ew64]
          have hk : (xt G L65).2.1 a = 10 := by rw [eL65]; exact xt_k _ hc hk
          have hc : a < (xt G L65).1 := by rw [eL65]; exact xt_l _ hc
          have hk45 : (xt G L65).2.1 b45 = 12 := by rw [eL65]; exact xt_k _ hc45 hk45
          have hc45 : b45 < (xt G L65).1 := by rw [eL65]; exact xt_l _ hc45
          obtain rfl := Option.some.inj hF
          have e1 : L50 = L65 := by rw [hT]; exact List.append_nil _
          have e2 : y48.2 = (y63.2.1, y63.2.2) := h2
          rw [e1] at J48
          try rw [e2] at J48
          exact J48 _ hag _ _ _ hP hD hS (lv_sub hl [0, 1, 2, 3] rfl)
        clear hF
        obtain ⟨w67, hw67⟩ : ∃ z, z = y63 := ⟨_, rfl⟩
        have hF := hy63
        rw [← hw67] at hF
        clear hy63
        have hT : L65 = s31.1 ++ w67.1 := by rw [eL65, hw67]
        have h2 : y63.2 = w67.2 := by rw [hw67]
        have hbl := hbl65
        refine lv_icmp_ge (tgt := 76) hx hb dX10_endUnit_66 (by decide) (fun c68 => ?_) (fun c68 => ?_)
        · rw [if_pos c68] at hF
          obtain rfl := Option.some.inj hF
          have e1 : L65 = s31.1 := by rw [hT]; exact List.append_nil _
          have e2 : y63.2 = (s31.2.1, s31.2.2.2) := h2
          rw [e1] at J63
          try rw [e2] at J63
          exact J63 _ hag _ _ _ hP hD hS (lv_sub hl [0, 1, 2, 3] rfl)
        · rw [if_neg c68] at hF
          refine lv_aload_n hx hb dX10_endUnit_69 rfl (lv_at hl 3 rfl) ?_
          refine lv_iconst (v := (3 : Int32)) hx hb dX10_endUnit_70 (by decide) ?_
          obtain ⟨y69, hy69, hF⟩ := bnd_some hF
          obtain ⟨w70, hF, ew70⟩ := app_some hF
          obtain ⟨L71, eL71, hF⟩ := ltt_some hF
          have hT71 : L65 = (s31.1 ++ y69.1) ++ w70.1 := by rw [hT, ew70]; simp only [List.append_assoc]
          have hf9 := wA_in hD hA9 hS
          refine va_callv (va_runV (As := [.int (3 : Int32)]) (rest := []) ⟨hx, hb, hml, hown, hts⟩ (kX10_putByte l D ct ad38 Z (xt G s31.1) s31.2.2.2 _ a ((3 : Int32)) y69 hc hk hy69) (cwV 1 hts gX10_endUnit_X10_putByte rfl rfl rfl (by decide +kernel) ⟨Nat.le_of_ble_eq_true rfl, Nat.le_of_ble_eq_true rfl⟩) ⟨fun a U g mk q => by obtain ⟨q0, q1, qP, qK, qD, qZ, qN⟩ := q; exact ⟨q0, q1, qP, va_K.moved (u := U) (U := U.calling g mk a) (Vm.Alike.refl U.vm) qK, qD, sF.moved (u := U) (U := U.calling g mk a) (Vm.Alike.refl U.vm) qZ, nF.same rfl qN⟩, va_recv hK hP (ci := 10) (q0 := a) rfl (wld_o ct ad38 (xt G s31.1) s31.2.2.2 hc hk (by decide)), fun U hU hW => ⟨rfl, by rw [hU], by rw [hU]; exact hP, va_K.moved hW.alike hK, hD.weaken (fun _ _ _ _ => trivial), by rw [hU]; exact ((hZ.kept hS.2.1).narrow hf9).moved hW.alike, hN.warm hW⟩⟩ rfl rfl hl.1 rfl (lv_room (Nat.le_of_ble_eq_true rfl)) dX10_endUnit_71 (room_s hT71 hbl)) hS (fun q _ h => hf9 q h) hf9 (fun ad72 t H locs ht hvm hw hB hz1 hk1 hS => ?_)
          have hn73 := hw
          obtain ⟨hP, hK9, hD9⟩ := hB
          rw [ht] at hP
          have hD := hD9.weaken (fun _ q _ h => hf9 q.1 h)
          rw [xt_xt, ← eL71] at hP hD
          refine W_cs (k := L71.length) (n := wt L71) (by rw [eL71]; exact (len_s s31.1 y69.1).symm) (by rw [eL71]; exact (wt_app s31.1 y69.1).symm) ?_
          have hT : L65 = L71 ++ w70.1 := by rw [hT71, eL71]
          have h2 : y63.2 = w70.2 := by rw [h2, ew70]
          have hl := lv_sub (l' := [(4, .int x47), (3, .int s31.2.2.1), (0, .ref (ad38 a))]) hl [0, 1, 3] rfl
          have e9 : ([(4, .int x47), (3, .int s31.2.2.1), (0, .ref (ad38 a))] : List (Nat × Value)) = [(4, .int x47), (3, .int s31.2.2.1), (0, .ref (ad72 a))] := (by first | rfl | simp only [hn73 a hc])
          rw [e9] at hl
          clear e9
          have hk : (xt G L71).2.1 a = 10 := by rw [eL71]; exact xt_k _ hc hk
          have hc : a < (xt G L71).1 := by rw [eL71]; exact xt_l _ hc
          have hk45 : (xt G L71).2.1 b45 = 12 := by rw [eL71]; exact xt_k _ hc45 hk45
          have hc45 : b45 < (xt G L71).1 := by rw [eL71]; exact xt_l _ hc45
          have hag := agr_t (xt_ge _ _) hag hn73
          refine lv_iconst (v := (0 : Int32)) hx hb dX10_endUnit_74 (by decide) ?_
          refine lv_istore_n (lv' := [(2, .int (0 : Int32)), (4, .int x47), (3, .int s31.2.2.1), (0, .ref (ad72 a))]) hx hb dX10_endUnit_75 rfl hl (by decide) rfl (fun ls hl => ?_)
          obtain rfl := Option.some.inj hF
          have e1 : L65 = L71 := by rw [hT]; exact List.append_nil _
          have e2 : y63.2 = ((0 : Int32), y69.2) := h2
          rw [e1] at J63
          try rw [e2] at J63
          exact J63 _ hag _ _ _ hP hD hS (lv_sub hl [1, 2, 0, 3] rfl)
  clear hF
  obtain ⟨w74, hw74⟩ : ∃ z, z = y1 := ⟨_, rfl⟩
  have hF := hy1
  rw [← hw74] at hF
  clear hy1
  have hT : L3 = [] ++ w74.1 := by rw [eL3, hw74]
  have h2 : y1.2 = w74.2 := by rw [hw74]
  have hbl := hbl3
  refine lv_if_ne (tgt := 9) hx hb dX10_endUnit_1 (by decide) (fun c75 => ?_) (fun c75 => ?_)
  · rw [if_neg c75] at hF
    obtain rfl := Option.some.inj hF
    have e1 : L3 = [] := by rw [hT]; exact List.append_nil _
    have e2 : y1.2 = M := h2
    rw [e1] at J1
    try rw [e2] at J1
    exact J1 _ hag _ _ _ hP hD hS (lv_sub hl [0] rfl)
  · rw [if_pos c75] at hF
    refine lv_aload_n hx hb dX10_endUnit_4 rfl (lv_at hl 0 rfl) ?_
    refine lv_iconst (v := (1 : Int32)) hx hb dX10_endUnit_5 (by decide) ?_
    obtain ⟨y76, hy76, hF⟩ := bnd_some hF
    obtain ⟨w77, hF, ew77⟩ := app_some hF
    obtain ⟨L78, eL78, hF⟩ := ltt_some hF
    have hT78 : L3 = ([] ++ y76.1) ++ w77.1 := by rw [hT, ew77]; simp only [List.append_assoc]
    have hf9 := wA_in hD hA9 hS
    refine va_callv (va_runV (As := [.int (1 : Int32)]) (rest := []) ⟨hx, hb, hml, hown, hts⟩ (kX10_put l D ct ad Z (xt G []) M _ a ((1 : Int32)) y76 hc hk hy76) (cwV 1 hts gX10_endUnit_X10_put rfl rfl rfl (by decide +kernel) ⟨Nat.le_of_ble_eq_true rfl, Nat.le_of_ble_eq_true rfl⟩) ⟨fun a U g mk q => by obtain ⟨q0, q1, qP, qK, qD, qZ, qN⟩ := q; exact ⟨q0, q1, qP, va_K.moved (u := U) (U := U.calling g mk a) (Vm.Alike.refl U.vm) qK, qD, sF.moved (u := U) (U := U.calling g mk a) (Vm.Alike.refl U.vm) qZ, nF.same rfl qN⟩, va_recv hK hP (ci := 10) (q0 := a) rfl (wld_o ct ad (xt G []) M hc hk (by decide)), fun U hU hW => ⟨rfl, by rw [hU], by rw [hU]; exact hP, va_K.moved hW.alike hK, hD.weaken (fun _ _ _ _ => trivial), by rw [hU]; exact ((hZ.kept hS.2.1).narrow hf9).moved hW.alike, hN.warm hW⟩⟩ rfl rfl hl.1 rfl (lv_room (Nat.le_of_ble_eq_true rfl)) dX10_endUnit_6 (room_s hT78 hbl)) hS (fun q _ h => hf9 q h) hf9 (fun ad79 t H locs ht hvm hw hB hz1 hk1 hS => ?_)
    have hn80 := hw
    obtain ⟨hP, hK9, hD9⟩ := hB
    rw [ht] at hP
    have hD := hD9.weaken (fun _ q _ h => hf9 q.1 h)
    rw [xt_xt, ← eL78] at hP hD
    refine W_cs (k := L78.length) (n := wt L78) (by rw [eL78]; exact (len_s [] y76.1).symm) (by rw [eL78]; exact (wt_app [] y76.1).symm) ?_
    have hT : L3 = L78 ++ w77.1 := by rw [hT78, eL78]
    have h2 : y1.2 = w77.2 := by rw [h2, ew77]
    have hl := lv_sub (l' := [(0, .ref (ad a))]) hl [0] rfl
    have e9 : ([(0, .ref (ad a))] : List (Nat × Value)) = [(0, .ref (ad79 a))] := (by first | rfl | simp only [hn80 a hc])
    rw [e9] at hl
    clear e9
    have hk : (xt G L78).2.1 a = 10 := by rw [eL78]; exact xt_k _ hc hk
    have hc : a < (xt G L78).1 := by rw [eL78]; exact xt_l _ hc
    have hag := agr_t (xt_ge _ _) hag hn80
    obtain rfl := Option.some.inj hF
    have e1 : L3 = L78 := by rw [hT]; exact List.append_nil _
    have e2 : y1.2 = y76.2 := h2
    rw [e1] at J1
    try rw [e2] at J1
    exact J1 _ hag _ _ _ hP hD hS (lv_sub hl [0] rfl)
set_option maxRecDepth 20000 in
theorem gX11_adopt_X8_keepFound : GoodIn wuX11_adopt (wsV RX11 75 RX8 yX8_keepFound wuX8_keepFound) := gu_V mw_2757 mw_2758 mw_2759 mw_167 mw_2760
set_option maxRecDepth 20000 in
set_option maxRecDepth 20000 in
theorem gX11_adopt_X1_restart : GoodIn wuX11_adopt (wsV RX11 79 RX1 yX1_restart wuX1_restart) := gu_V mw_2762 mw_2763 mw_2764 mw_168 mw_2765
theorem dX11_adopt_0 : decode cX11_adopt 0 = .ok (.aload_n 0, 1) := by decide +kernel
theorem dX11_adopt_1 : decode cX11_adopt 1 = .ok (.getfield 17, 3) := by decide +kernel
theorem dX11_adopt_4 : decode cX11_adopt 4 = .ok (.aload_n 1, 1) := by decide +kernel
theorem dX11_adopt_5 : decode cX11_adopt 5 = .ok (.invokevirtual 75, 3) := by decide +kernel
theorem dX11_adopt_8 : decode cX11_adopt 8 = .ok (.aload_n 0, 1) := by decide +kernel
theorem dX11_adopt_9 : decode cX11_adopt 9 = .ok (.getfield 24, 3) := by decide +kernel
theorem dX11_adopt_12 : decode cX11_adopt 12 = .ok (.invokevirtual 79, 3) := by decide +kernel
theorem dX11_adopt_15 : decode cX11_adopt 15 = .ok (.aload_n 0, 1) := by decide +kernel
theorem dX11_adopt_16 : decode cX11_adopt 16 = .ok (.getfield 17, 3) := by decide +kernel
theorem dX11_adopt_19 : decode cX11_adopt 19 = .ok (.getfield 82, 3) := by decide +kernel
theorem dX11_adopt_22 : decode cX11_adopt 22 = .ok (.ireturn, 1) := by decide +kernel
def FX11_adopt (G : GG) (M : DD) (a : Nat) (p0 : Option Nat) : Option (DD × Int32) :=
  dr G 8 ((M.2 a 2)) fun b2 =>
  bnd (FX8_keepFound G M b2 p0) fun y3 =>
  dr G 1 ((y3.2 a 3)) fun b4 =>
  bnd (FX1_restart G y3 b4) fun y5 =>
  dr G 8 ((y5.2 a 2)) fun b6 =>
  ltt (y5.1 b6 3) fun x7 =>
  some (y5, x7)
set_option maxHeartbeats 4000000 in
set_option maxRecDepth 100000 in
theorem kX11_adopt (l : Launch) (D : va_G) (ct : CT) (ad : Nat → Nat) (Z : Nat → Nat) (G : GG) (M : DD) (sz : Nat) (a : Nat) (p0 : Option Nat) (y : DD × Int32) (hc : a < G.1) (hk : G.2.1 a = 11) (hF : FX11_adopt G M a p0 = some y) : Met l yX11_adopt wuX11_adopt ({ frames := 2, cells := 0, slots := 0, locals := 104 }) (va_Pc [.ref (ad a), va_re ad p0] (kB D ct ad Z G M sz)) (va_Qi (fun (q : Int32) (_ : Unit) => q = y.2) (fun _ t => kE D ct ad G (wA ad G sz) y.1 t) (wA ad G sz)) 0 0 (wA ad G sz) := by
  refine Met.ofW (cc := cX11_adopt) (maxL := 2) (ret := (some .int)) (by decide) rfl ?_
  intro p e s m args below meth c s₁ B hml hv
  obtain ⟨rfl, hsz, hP, hK, hD0, hZ, hN⟩ := hv
  have hx := B.exec
  have hb := B.bytes
  have hr := B.returns
  have hts := atoms_spec (ws := wuX11_adopt) B.pre
  have hown : s.vm.findClass RX11 = some m.cls := findClass_of_methodNamed B.named
  have hlocks := B.notSynchronized
  subst hsz
  have hD := wD_self (sz := s.heap.size) hD0
  have hA9 : ∀ q, s.heap.size ≤ q → wA ad G s.heap.size q := fun q h => Or.inr h
  generalize hAe : wA ad G s.heap.size = A at hD hA9 hZ ⊢
  have hS : va_S A s.heap s.heap [] := va_S.rf
  have hl := lv_entry ([.ref (ad a), va_re ad p0]) (n := 2) (by cases p0 <;> exact Nat.le_of_ble_eq_true rfl)
  rw [lg_entry_eq]
  generalize (lg_sl ([.ref (ad a), va_re ad p0]) ++ List.replicate (2 - (lg_sl ([.ref (ad a), va_re ad p0])).length) Slot.unset).toArray = ls at hl ⊢
  have hl : lv_has ls 2 [(0, .ref (ad a)), (1, va_re ad p0)] := by have e9 : lv_args 0 [.ref (ad a), va_re ad p0] = [(0, .ref (ad a)), (1, va_re ad p0)] := (by cases p0 <;> rfl); rw [e9] at hl; exact hl
  unfold FX11_adopt at hF
  refine lv_aload_n hx hb dX11_adopt_0 rfl (lv_at hl 0 rfl) ?_
  refine va_get (D := D) (ci := 11) (v := va_re ad (M.2 a 2)) (C := RX11) (T := TX11) (N := 5) hx hb hts (mus hf_X11) hown hK hP a (wld_o ct ad G M hc hk (by decide)) rfl 2 (by decide) (hts (.fieldLink RX11 17 "VideoSuite" "units" "LVideoSuite$Units;") (mu mw_884)) (fun _ h9 => h9) rfl dX11_adopt_1 ?_
  refine lv_aloadq_n hx hb dX11_adopt_4 rfl (lv_at hl 1 rfl) ?_
  obtain ⟨b2, ho2, hc2, hk2, hF⟩ := dr_some hF
  refine W_st (st' := [va_re ad p0, .ref (ad b2)]) (by rw [va_some ho2]) ?_
  obtain ⟨y3, hy3, hF⟩ := bnd_some hF
  have hf9 := wA_in hD hA9 hS
  refine va_callv (va_runV (As := [va_re ad p0]) (rest := []) ⟨hx, hb, hml, hown, hts⟩ (kX8_keepFound l D ct ad Z G M s.heap.size b2 p0 y3 hc2 hk2 hy3) (cwV 1 hts gX11_adopt_X8_keepFound rfl rfl rfl (by decide +kernel) ⟨Nat.le_of_ble_eq_true rfl, Nat.le_of_ble_eq_true rfl⟩) ⟨fun a U g mk q => by obtain ⟨q0, q1, qP, qK, qD, qZ, qN⟩ := q; exact ⟨q0, q1, qP, va_K.moved (u := U) (U := U.calling g mk a) (Vm.Alike.refl U.vm) qK, qD, sF.moved (u := U) (U := U.calling g mk a) (Vm.Alike.refl U.vm) qZ, nF.same rfl qN⟩, va_recv hK hP (ci := 8) (q0 := b2) rfl (wld_o ct ad G M hc2 hk2 (by decide)), fun U hU hW => ⟨rfl, by rw [hU], by rw [hU]; exact hP, va_K.moved hW.alike hK, hD.weaken (fun _ _ _ _ => trivial), by rw [hU]; exact ((hZ.kept hS.2.1).narrow hf9).moved hW.alike, hN.warm hW⟩⟩ rfl rfl hl.1 rfl (lv_room (Nat.le_of_ble_eq_true rfl)) dX11_adopt_5 ⟨(Nat.zero_le _), (Nat.zero_le _)⟩) hS (fun q _ h => hf9 q h) hf9 (fun u t H locs ht hvm hw hB hz1 hk1 hS => ?_)
  obtain ⟨hP, hK9, hD9⟩ := hB
  rw [ht] at hP
  have hD := hD9.weaken (fun _ q _ h => hf9 q.1 h)
  refine lv_aload_n hx hb dX11_adopt_8 rfl (lv_at hl 0 rfl) ?_
  refine va_get (D := D) (ci := 11) (v := va_re ad (y3.2 a 3)) (C := RX11) (T := TX11) (N := 5) hx hb hts (mus hf_X11) hown hK hP a (wld_o ct ad G y3 hc hk (by decide)) rfl 3 (by decide) (hts (.fieldLink RX11 24 "VideoSuite" "decoder" "LVideoSuite$Decoder;") (mu mw_885)) (fun _ h9 => h9) rfl dX11_adopt_9 ?_
  obtain ⟨b4, ho4, hc4, hk4, hF⟩ := dr_some hF
  refine W_st (st' := [.ref (ad b4)]) (by rw [va_some ho4]) ?_
  obtain ⟨y5, hy5, hF⟩ := bnd_some hF
  have hf9 := wA_in hD hA9 hS
  refine va_callv (va_runV (As := []) (rest := []) ⟨hx, hb, hml, hown, hts⟩ (kX1_restart l D ct ad Z G y3 H.size b4 y5 hc4 hk4 hy5) (cwV 0 hts gX11_adopt_X1_restart rfl rfl rfl (by decide +kernel) ⟨Nat.le_of_ble_eq_true rfl, Nat.le_of_ble_eq_true rfl⟩) ⟨fun a U g mk q => by obtain ⟨q0, q1, qP, qK, qD, qZ, qN⟩ := q; exact ⟨q0, q1, qP, va_K.moved (u := U) (U := U.calling g mk a) (Vm.Alike.refl U.vm) qK, qD, sF.moved (u := U) (U := U.calling g mk a) (Vm.Alike.refl U.vm) qZ, nF.same rfl qN⟩, va_recv hK hP (ci := 1) (q0 := b4) rfl (wld_o ct ad G y3 hc4 hk4 (by decide)), fun U hU hW => ⟨rfl, by rw [hU], by rw [hU]; exact hP, va_K.moved hW.alike hK, hD.weaken (fun _ _ _ _ => trivial), by rw [hU]; exact ((hZ.kept hS.2.1).narrow hf9).moved hW.alike, hN.warm hW⟩⟩ rfl rfl hl.1 rfl (lv_room (Nat.le_of_ble_eq_true rfl)) dX11_adopt_12 ⟨(Nat.zero_le _), (Nat.zero_le _)⟩) hS (fun q _ h => hf9 q h) hf9 (fun u t H locs ht hvm hw hB hz1 hk1 hS => ?_)
  obtain ⟨hP, hK9, hD9⟩ := hB
  rw [ht] at hP
  have hD := hD9.weaken (fun _ q _ h => hf9 q.1 h)
  refine lv_aload_n hx hb dX11_adopt_15 rfl (lv_at hl 0 rfl) ?_
  refine va_get (D := D) (ci := 11) (v := va_re ad (y5.2 a 2)) (C := RX11) (T := TX11) (N := 5) hx hb hts (mus hf_X11) hown hK hP a (wld_o ct ad G y5 hc hk (by decide)) rfl 2 (by decide) (hts (.fieldLink RX11 17 "VideoSuite" "units" "LVideoSuite$Units;") (mu mw_884)) (fun _ h9 => h9) rfl dX11_adopt_16 ?_
  obtain ⟨b6, ho6, hc6, hk6, hF⟩ := dr_some hF
  refine W_st (st' := [.ref (ad b6)]) (by rw [va_some ho6]) ?_
  refine va_get (D := D) (ci := 8) (v := .int (y5.1 b6 3)) (C := RX8) (T := TX8) (N := 15) hx hb hts (mus hf_X8) hown hK hP b6 (wld_o ct ad G y5 hc6 hk6 (by decide)) rfl 3 (by decide) (hts (.fieldLink RX11 82 "VideoSuite$Units" "count" "I") (mu mw_215)) (fun _ h9 => h9) rfl dX11_adopt_19 ?_
  obtain ⟨x7, ex7, hF⟩ := ltt_some hF
  refine lv_topi (fun zx7 ezx7 => ?_)
  obtain rfl : x7 = zx7 := ex7.trans ezx7.symm
  obtain rfl := Option.some.inj hF
  exact W.iret (v := x7) hx hb hr (fun t ht hW => ⟨⟨_, (), rfl, rfl, ⟨by rw [ht]; exact hP, va_K.moved hW.alike hK, hD⟩⟩, hS.F ht⟩) hS.2.2 dX11_adopt_22
set_option maxRecDepth 20000 in
theorem gX11_demux_X8_readBoxes : GoodIn wuX11_demux (wsV RX11 398 RX8 yX8_readBoxes wuX8_readBoxes) := gu_V mw_2823 mw_2824 mw_2825 mw_167 mw_2826
set_option maxRecDepth 20000 in
set_option maxRecDepth 20000 in
theorem gX11_demux_X8_cutByTables : GoodIn wuX11_demux (wsV RX11 401 RX8 yX8_cutByTables wuX8_cutByTables) := gu_V mw_2836 mw_2837 mw_2838 mw_167 mw_2839
set_option maxRecDepth 20000 in
set_option maxRecDepth 20000 in
theorem gX11_demux_X11_adopt : GoodIn wuX11_demux (wsV RX11 71 RX11 yX11_adopt wuX11_adopt) := gu_V mw_2753 mw_2755 mw_159 mw_166 mw_2756
theorem dX11_demux_0 : decode cX11_demux 0 = .ok (.aload_n 0, 1) := by decide +kernel
theorem dX11_demux_1 : decode cX11_demux 1 = .ok (.getfield 35, 3) := by decide +kernel
theorem dX11_demux_4 : decode cX11_demux 4 = .ok (.istore_n 1, 1) := by decide +kernel
theorem dX11_demux_5 : decode cX11_demux 5 = .ok (.aload_n 0, 1) := by decide +kernel
theorem dX11_demux_6 : decode cX11_demux 6 = .ok (.iconst 0, 1) := by decide +kernel
theorem dX11_demux_7 : decode cX11_demux 7 = .ok (.putfield 35, 3) := by decide +kernel
theorem dX11_demux_10 : decode cX11_demux 10 = .ok (.aload_n 0, 1) := by decide +kernel
theorem dX11_demux_11 : decode cX11_demux 11 = .ok (.getfield 17, 3) := by decide +kernel
theorem dX11_demux_14 : decode cX11_demux 14 = .ok (.iconst 0, 1) := by decide +kernel
theorem dX11_demux_15 : decode cX11_demux 15 = .ok (.putfield 58, 3) := by decide +kernel
theorem dX11_demux_18 : decode cX11_demux 18 = .ok (.aload_n 0, 1) := by decide +kernel
theorem dX11_demux_19 : decode cX11_demux 19 = .ok (.getfield 17, 3) := by decide +kernel
theorem dX11_demux_22 : decode cX11_demux 22 = .ok (.aload_n 0, 1) := by decide +kernel
theorem dX11_demux_23 : decode cX11_demux 23 = .ok (.getfield 10, 3) := by decide +kernel
theorem dX11_demux_26 : decode cX11_demux 26 = .ok (.iload_n 1, 1) := by decide +kernel
theorem dX11_demux_27 : decode cX11_demux 27 = .ok (.invokevirtual 398, 3) := by decide +kernel
theorem dX11_demux_30 : decode cX11_demux 30 = .ok (.ifCond .eq 18, 3) := by decide +kernel
theorem dX11_demux_33 : decode cX11_demux 33 = .ok (.aload_n 0, 1) := by decide +kernel
theorem dX11_demux_34 : decode cX11_demux 34 = .ok (.getfield 17, 3) := by decide +kernel
theorem dX11_demux_37 : decode cX11_demux 37 = .ok (.aload_n 0, 1) := by decide +kernel
theorem dX11_demux_38 : decode cX11_demux 38 = .ok (.getfield 10, 3) := by decide +kernel
theorem dX11_demux_41 : decode cX11_demux 41 = .ok (.iload_n 1, 1) := by decide +kernel
theorem dX11_demux_42 : decode cX11_demux 42 = .ok (.invokevirtual 401, 3) := by decide +kernel
theorem dX11_demux_45 : decode cX11_demux 45 = .ok (.ifCond .ne 14, 3) := by decide +kernel
theorem dX11_demux_48 : decode cX11_demux 48 = .ok (.new 40, 3) := by decide +kernel
theorem dX11_demux_51 : decode cX11_demux 51 = .ok (.dup, 1) := by decide +kernel
theorem dX11_demux_52 : decode cX11_demux 52 = .ok (.ldc_w 404, 3) := by decide +kernel
theorem dX11_demux_55 : decode cX11_demux 55 = .ok (.invokespecial 44, 3) := by decide +kernel
theorem dX11_demux_58 : decode cX11_demux 58 = .ok (.athrow, 1) := by decide +kernel
theorem dX11_demux_59 : decode cX11_demux 59 = .ok (.aload_n 0, 1) := by decide +kernel
theorem dX11_demux_60 : decode cX11_demux 60 = .ok (.aload_n 0, 1) := by decide +kernel
theorem dX11_demux_61 : decode cX11_demux 61 = .ok (.getfield 10, 3) := by decide +kernel
theorem dX11_demux_64 : decode cX11_demux 64 = .ok (.invokevirtual 71, 3) := by decide +kernel
theorem dX11_demux_67 : decode cX11_demux 67 = .ok (.ireturn, 1) := by decide +kernel
def FX11_demux (G : GG) (M : DD) (a : Nat)  : Option (DD × Int32) :=
  ltt (M.1 a 1) fun x1 =>
  ltt (uI M a 1 ((0 : Int32))) fun M2 =>
  dr G 8 ((M2.2 a 2)) fun b3 =>
  ltt (uI M2 b3 7 ((0 : Int32))) fun M4 =>
  dr G 8 ((M4.2 a 2)) fun b5 =>
  bnd (FX8_readBoxes G M4 b5 ((M4.2 a 0)) x1) fun y6 =>
  bnd (if y6.2 = ((0 : Int32)) then (none) else
  (some ())) fun (y7 : Unit) =>
  dr G 8 ((y6.1.2 a 2)) fun b8 =>
  bnd (FX8_cutByTables G y6.1 b8 ((y6.1.2 a 0)) x1) fun y9 =>
  bnd (if y9.2 = ((0 : Int32)) then (none) else
  (some ())) fun (y10 : Unit) =>
  bnd (FX11_adopt G y9.1 a ((y9.1.2 a 0))) fun y11 =>
  some (y11.1, y11.2)
set_option maxHeartbeats 4000000 in
set_option maxRecDepth 100000 in
theorem kX11_demux (l : Launch) (D : va_G) (ct : CT) (ad : Nat → Nat) (Z : Nat → Nat) (G : GG) (M : DD) (sz : Nat) (a : Nat)  (y : DD × Int32) (hc : a < G.1) (hk : G.2.1 a = 11) (hF : FX11_demux G M a  = some y) : Met l yX11_demux wuX11_demux ({ frames := 3, cells := 0, slots := 0, locals := 125 }) (va_Pc [.ref (ad a)] (kB D ct ad Z G M sz)) (va_Qi (fun (q : Int32) (_ : Unit) => q = y.2) (fun _ t => kE D ct ad G (wA ad G sz) y.1 t) (wA ad G sz)) 0 0 (wA ad G sz) := by
  refine Met.ofW (cc := cX11_demux) (maxL := 2) (ret := (some .int)) (by decide) rfl ?_
  intro p e s m args below meth c s₁ B hml hv
  obtain ⟨rfl, hsz, hP, hK, hD0, hZ, hN⟩ := hv
  have hx := B.exec
  have hb := B.bytes
  have hr := B.returns
  have hts := atoms_spec (ws := wuX11_demux) B.pre
  have hown : s.vm.findClass RX11 = some m.cls := findClass_of_methodNamed B.named
  have hlocks := B.notSynchronized
  subst hsz
  have hD := wD_self (sz := s.heap.size) hD0
  have hA9 : ∀ q, s.heap.size ≤ q → wA ad G s.heap.size q := fun q h => Or.inr h
  generalize hAe : wA ad G s.heap.size = A at hD hA9 hZ ⊢
  have hS : va_S A s.heap s.heap [] := va_S.rf
  have hl := lv_entry ([.ref (ad a)]) (n := 2) (Nat.le_of_ble_eq_true rfl)
  rw [lg_entry_eq]
  generalize (lg_sl ([.ref (ad a)]) ++ List.replicate (2 - (lg_sl ([.ref (ad a)])).length) Slot.unset).toArray = ls at hl ⊢
  have hl : lv_has ls 2 [(0, .ref (ad a))] := hl
  unfold FX11_demux at hF
  refine lv_aload_n hx hb dX11_demux_0 rfl (lv_at hl 0 rfl) ?_
  refine va_get (D := D) (ci := 11) (v := .int (M.1 a 1)) (C := RX11) (T := TX11) (N := 5) hx hb hts (mus hf_X11) hown hK hP a (wld_o ct ad G M hc hk (by decide)) rfl 1 (by decide) (hts (.fieldLink RX11 35 "VideoSuite" "tapeLength" "I") (mu mw_883)) (fun _ h9 => h9) rfl dX11_demux_1 ?_
  obtain ⟨x1, ex1, hF⟩ := ltt_some hF
  refine lv_topi (fun zx1 ezx1 => ?_)
  obtain rfl : x1 = zx1 := ex1.trans ezx1.symm
  refine lv_istore_n (lv' := [(1, .int x1), (0, .ref (ad a))]) hx hb dX11_demux_4 rfl hl (by decide) rfl (fun ls hl => ?_)
  refine lv_aload_n hx hb dX11_demux_5 rfl (lv_at hl 1 rfl) ?_
  refine lv_iconst (v := (0 : Int32)) hx hb dX11_demux_6 (by decide) ?_
  refine va_put (D := D) (ci := 11) (v := .int (0 : Int32)) (ty := .int) (C := RX11) (T := TX11) (N := 5) hx hb hts (mus hf_X11) tyX11 tyX11_ok nmX11 hown hK hP hD hS a (wld_o ct ad G M hc hk (by decide)) rfl 1 (by decide) (hts (.fieldLink RX11 35 "VideoSuite" "tapeLength" "I") (mu mw_883)) (fun _ h9 => h9) rfl (by decide +kernel) rfl rfl (Nat.le_of_ble_eq_true rfl) dX11_demux_7 (fun H locs hP hD hS => ?_)
  obtain ⟨M2, eM2, hF⟩ := ltt_some hF
  rw [set_oI ct ad G M hc hk (by decide) (by rfl), ← eM2] at hP hD
  refine lv_aload_n hx hb dX11_demux_10 rfl (lv_at hl 1 rfl) ?_
  refine va_get (D := D) (ci := 11) (v := va_re ad (M2.2 a 2)) (C := RX11) (T := TX11) (N := 5) hx hb hts (mus hf_X11) hown hK hP a (wld_o ct ad G M2 hc hk (by decide)) rfl 2 (by decide) (hts (.fieldLink RX11 17 "VideoSuite" "units" "LVideoSuite$Units;") (mu mw_884)) (fun _ h9 => h9) rfl dX11_demux_11 ?_
  refine lv_iconst (v := (0 : Int32)) hx hb dX11_demux_14 (by decide) ?_
  obtain ⟨b3, ho3, hc3, hk3, hF⟩ := dr_some hF
  refine W_st (st' := [.int (0 : Int32), .ref (ad b3)]) (by rw [va_some ho3]) ?_
  refine va_put (D := D) (ci := 8) (v := .int (0 : Int32)) (ty := .int) (C := RX8) (T := TX8) (N := 15) hx hb hts (mus hf_X8) tyX8 tyX8_ok nmX8 hown hK hP hD hS b3 (wld_o ct ad G M2 hc3 hk3 (by decide)) rfl 7 (by decide) (hts (.fieldLink RX11 58 "VideoSuite$Units" "found" "I") (mu mw_223)) (fun _ h9 => h9) rfl (by decide +kernel) rfl rfl (Nat.le_of_ble_eq_true rfl) dX11_demux_15 (fun H locs hP hD hS => ?_)
  obtain ⟨M4, eM4, hF⟩ := ltt_some hF
  rw [set_oI ct ad G M2 hc3 hk3 (by decide) (by rfl), ← eM4] at hP hD
  refine lv_aload_n hx hb dX11_demux_18 rfl (lv_at hl 1 rfl) ?_
  refine va_get (D := D) (ci := 11) (v := va_re ad (M4.2 a 2)) (C := RX11) (T := TX11) (N := 5) hx hb hts (mus hf_X11) hown hK hP a (wld_o ct ad G M4 hc hk (by decide)) rfl 2 (by decide) (hts (.fieldLink RX11 17 "VideoSuite" "units" "LVideoSuite$Units;") (mu mw_884)) (fun _ h9 => h9) rfl dX11_demux_19 ?_
  refine lv_aload_n hx hb dX11_demux_22 rfl (lv_at hl 1 rfl) ?_
  refine va_get (D := D) (ci := 11) (v := va_re ad (M4.2 a 0)) (C := RX11) (T := TX11) (N := 5) hx hb hts (mus hf_X11) hown hK hP a (wld_o ct ad G M4 hc hk (by decide)) rfl 0 (by decide) (hts (.fieldLink RX11 10 "VideoSuite" "tape" "[B") (mu mw_882)) (fun _ h9 => h9) rfl dX11_demux_23 ?_
  refine lv_iload_n hx hb dX11_demux_26 rfl (lv_at hl 0 rfl) ?_
  obtain ⟨b5, ho5, hc5, hk5, hF⟩ := dr_some hF
  refine W_st (st' := [.int x1, va_re ad (M4.2 a 0), .ref (ad b5)]) (by rw [va_some ho5]) ?_
  obtain ⟨y6, hy6, hF⟩ := bnd_some hF
  have hf9 := wA_in hD hA9 hS
  refine va_calli (va_runV (As := [va_re ad (M4.2 a 0), .int x1]) (rest := []) ⟨hx, hb, hml, hown, hts⟩ (kX8_readBoxes l D ct ad Z G M4 H.size b5 ((M4.2 a 0)) x1 y6 hc5 hk5 hy6) (cwV 2 hts gX11_demux_X8_readBoxes rfl rfl rfl (by decide +kernel) ⟨Nat.le_of_ble_eq_true rfl, Nat.le_of_ble_eq_true rfl⟩) ⟨fun a U g mk q => by obtain ⟨q0, q1, qP, qK, qD, qZ, qN⟩ := q; exact ⟨q0, q1, qP, va_K.moved (u := U) (U := U.calling g mk a) (Vm.Alike.refl U.vm) qK, qD, sF.moved (u := U) (U := U.calling g mk a) (Vm.Alike.refl U.vm) qZ, nF.same rfl qN⟩, va_recv hK hP (ci := 8) (q0 := b5) rfl (wld_o ct ad G M4 hc5 hk5 (by decide)), fun U hU hW => ⟨rfl, by rw [hU], by rw [hU]; exact hP, va_K.moved hW.alike hK, hD.weaken (fun _ _ _ _ => trivial), by rw [hU]; exact ((hZ.kept hS.2.1).narrow hf9).moved hW.alike, hN.warm hW⟩⟩ rfl rfl hl.1 rfl (lv_room (Nat.le_of_ble_eq_true rfl)) dX11_demux_27 ⟨(Nat.zero_le _), (Nat.zero_le _)⟩) hS (fun q _ h => hf9 q h) hf9 (fun r u t H locs ht hvm hw hB hz1 hk1 hS => ?_)
  obtain ⟨hP, hK9, hD9⟩ := hB
  rw [ht] at hP
  try dsimp only at hw
  subst hw
  have hD := hD9.weaken (fun _ q _ h => hf9 q.1 h)
  obtain ⟨y7, hy7, hF⟩ := bnd_some hF
  have J7 : ∀ (H : Heap) (locs : List Loc) (ls : Array Slot), va_P D classes (wld ct ad G y6.1) H → va_D A (wld ct ad G y6.1) → va_S A s.heap H locs → lv_has ls 2 [(1, .int x1), (0, .ref (ad a))] → W p l e (headSpec wuX11_demux ({ frames := 3, cells := 0, slots := 0, locals := 125 })).room s m ([.ref (ad a)] : List Value).toArray below meth c H locs 0 0 (MQ below (va_Qi (fun (q : Int32) (_ : Unit) => q = y.2) (fun _ t => kE D ct ad G A y.1 t) A) ([.ref (ad a)] : List Value).toArray s 0 0 A) (F0 m 33 ls []) := by
    intro H locs ls hP hD hS hl
    refine lv_aload_n hx hb dX11_demux_33 rfl (lv_at hl 1 rfl) ?_
    refine va_get (D := D) (ci := 11) (v := va_re ad (y6.1.2 a 2)) (C := RX11) (T := TX11) (N := 5) hx hb hts (mus hf_X11) hown hK hP a (wld_o ct ad G y6.1 hc hk (by decide)) rfl 2 (by decide) (hts (.fieldLink RX11 17 "VideoSuite" "units" "LVideoSuite$Units;") (mu mw_884)) (fun _ h9 => h9) rfl dX11_demux_34 ?_
    refine lv_aload_n hx hb dX11_demux_37 rfl (lv_at hl 1 rfl) ?_
    refine va_get (D := D) (ci := 11) (v := va_re ad (y6.1.2 a 0)) (C := RX11) (T := TX11) (N := 5) hx hb hts (mus hf_X11) hown hK hP a (wld_o ct ad G y6.1 hc hk (by decide)) rfl 0 (by decide) (hts (.fieldLink RX11 10 "VideoSuite" "tape" "[B") (mu mw_882)) (fun _ h9 => h9) rfl dX11_demux_38 ?_
    refine lv_iload_n hx hb dX11_demux_41 rfl (lv_at hl 0 rfl) ?_
    obtain ⟨b8, ho8, hc8, hk8, hF⟩ := dr_some hF
    refine W_st (st' := [.int x1, va_re ad (y6.1.2 a 0), .ref (ad b8)]) (by rw [va_some ho8]) ?_
    obtain ⟨y9, hy9, hF⟩ := bnd_some hF
    have hf9 := wA_in hD hA9 hS
    refine va_calli (va_runV (As := [va_re ad (y6.1.2 a 0), .int x1]) (rest := []) ⟨hx, hb, hml, hown, hts⟩ (kX8_cutByTables l D ct ad Z G y6.1 H.size b8 ((y6.1.2 a 0)) x1 y9 hc8 hk8 hy9) (cwV 2 hts gX11_demux_X8_cutByTables rfl rfl rfl (by decide +kernel) ⟨Nat.le_of_ble_eq_true rfl, Nat.le_of_ble_eq_true rfl⟩) ⟨fun a U g mk q => by obtain ⟨q0, q1, qP, qK, qD, qZ, qN⟩ := q; exact ⟨q0, q1, qP, va_K.moved (u := U) (U := U.calling g mk a) (Vm.Alike.refl U.vm) qK, qD, sF.moved (u := U) (U := U.calling g mk a) (Vm.Alike.refl U.vm) qZ, nF.same rfl qN⟩, va_recv hK hP (ci := 8) (q0 := b8) rfl (wld_o ct ad G y6.1 hc8 hk8 (by decide)), fun U hU hW => ⟨rfl, by rw [hU], by rw [hU]; exact hP, va_K.moved hW.alike hK, hD.weaken (fun _ _ _ _ => trivial), by rw [hU]; exact ((hZ.kept hS.2.1).narrow hf9).moved hW.alike, hN.warm hW⟩⟩ rfl rfl hl.1 rfl (lv_room (Nat.le_of_ble_eq_true rfl)) dX11_demux_42 ⟨(Nat.zero_le _), (Nat.zero_le _)⟩) hS (fun q _ h => hf9 q h) hf9 (fun r u t H locs ht hvm hw hB hz1 hk1 hS => ?_)
    obtain ⟨hP, hK9, hD9⟩ := hB
    rw [ht] at hP
    try dsimp only at hw
    subst hw
    have hD := hD9.weaken (fun _ q _ h => hf9 q.1 h)
    obtain ⟨y10, hy10, hF⟩ := bnd_some hF
    have J10 : ∀ (H : Heap) (locs : List Loc) (ls : Array Slot), va_P D classes (wld ct ad G y9.1) H → va_D A (wld ct ad G y9.1) → va_S A s.heap H locs → lv_has ls 2 [(1, .int x1), (0, .ref (ad a))] → W p l e (headSpec wuX11_demux ({ frames := 3, cells := 0, slots := 0, locals := 125 })).room s m ([.ref (ad a)] : List Value).toArray below meth c H locs 0 0 (MQ below (va_Qi (fun (q : Int32) (_ : Unit) => q = y.2) (fun _ t => kE D ct ad G A y.1 t) A) ([.ref (ad a)] : List Value).toArray s 0 0 A) (F0 m 59 ls []) := by
      intro H locs ls hP hD hS hl
      refine lv_aload_n hx hb dX11_demux_59 rfl (lv_at hl 1 rfl) ?_
      refine lv_aload_n hx hb dX11_demux_60 rfl (lv_at hl 1 rfl) ?_
      refine va_get (D := D) (ci := 11) (v := va_re ad (y9.1.2 a 0)) (C := RX11) (T := TX11) (N := 5) hx hb hts (mus hf_X11) hown hK hP a (wld_o ct ad G y9.1 hc hk (by decide)) rfl 0 (by decide) (hts (.fieldLink RX11 10 "VideoSuite" "tape" "[B") (mu mw_882)) (fun _ h9 => h9) rfl dX11_demux_61 ?_
      obtain ⟨y11, hy11, hF⟩ := bnd_some hF
      have hf9 := wA_in hD hA9 hS
      refine va_calli (va_runV (As := [va_re ad (y9.1.2 a 0)]) (rest := []) ⟨hx, hb, hml, hown, hts⟩ (kX11_adopt l D ct ad Z G y9.1 H.size a ((y9.1.2 a 0)) y11 hc hk hy11) (cwV 1 hts gX11_demux_X11_adopt rfl rfl rfl (by decide +kernel) ⟨Nat.le_of_ble_eq_true rfl, Nat.le_of_ble_eq_true rfl⟩) ⟨fun a U g mk q => by obtain ⟨q0, q1, qP, qK, qD, qZ, qN⟩ := q; exact ⟨q0, q1, qP, va_K.moved (u := U) (U := U.calling g mk a) (Vm.Alike.refl U.vm) qK, qD, sF.moved (u := U) (U := U.calling g mk a) (Vm.Alike.refl U.vm) qZ, nF.same rfl qN⟩, va_recv hK hP (ci := 11) (q0 := a) rfl (wld_o ct ad G y9.1 hc hk (by decide)), fun U hU hW => ⟨rfl, by rw [hU], by rw [hU]; exact hP, va_K.moved hW.alike hK, hD.weaken (fun _ _ _ _ => trivial), by rw [hU]; exact ((hZ.kept hS.2.1).narrow hf9).moved hW.alike, hN.warm hW⟩⟩ rfl rfl hl.1 rfl (lv_room (Nat.le_of_ble_eq_true rfl)) dX11_demux_64 ⟨(Nat.zero_le _), (Nat.zero_le _)⟩) hS (fun q _ h => hf9 q h) hf9 (fun r u t H locs ht hvm hw hB hz1 hk1 hS => ?_)
      obtain ⟨hP, hK9, hD9⟩ := hB
      rw [ht] at hP
      try dsimp only at hw
      subst hw
      have hD := hD9.weaken (fun _ q _ h => hf9 q.1 h)
      obtain rfl := Option.some.inj hF
      exact W.iret (v := y11.2) hx hb hr (fun t ht hW => ⟨⟨_, (), rfl, rfl, ⟨by rw [ht]; exact hP, va_K.moved hW.alike hK, hD⟩⟩, hS.F ht⟩) hS.2.2 dX11_demux_67
    clear hF
    have hF := hy10
    clear hy10
    refine lv_if_ne (tgt := 59) hx hb dX11_demux_45 (by decide) (fun c12 => ?_) (fun c12 => ?_)
    · rw [if_neg c12] at hF
      obtain rfl := Option.some.inj hF
      exact J10 _ _ _ hP hD hS (lv_sub hl [0, 1] rfl)
    · rw [if_pos c12] at hF
      cases hF
  clear hF
  have hF := hy7
  clear hy7
  refine lv_if_eq (tgt := 48) hx hb dX11_demux_30 (by decide) (fun c13 => ?_) (fun c13 => ?_)
  · rw [if_pos c13] at hF
    cases hF
  · rw [if_neg c13] at hF
    obtain rfl := Option.some.inj hF
    exact J7 _ _ _ hP hD hS (lv_sub hl [0, 1] rfl)
set_option maxRecDepth 20000 in
theorem gX11_mux_X8_fileLength : GoodIn wuX11_mux (wsV RX11 390 RX8 yX8_fileLength wuX8_fileLength) := gu_V mw_2782 mw_2783 mw_2784 mw_167 mw_2785
set_option maxRecDepth 20000 in
set_option maxRecDepth 20000 in
theorem gX11_mux_X8_writeFile : GoodIn wuX11_mux (wsV RX11 395 RX8 yX8_writeFile wuX8_writeFile) := gu_V mw_2795 mw_2796 mw_2797 mw_167 mw_2798
theorem dX11_mux_0 : decode cX11_mux 0 = .ok (.aload_n 0, 1) := by decide +kernel
theorem dX11_mux_1 : decode cX11_mux 1 = .ok (.getfield 17, 3) := by decide +kernel
theorem dX11_mux_4 : decode cX11_mux 4 = .ok (.invokevirtual 390, 3) := by decide +kernel
theorem dX11_mux_7 : decode cX11_mux 7 = .ok (.ldc 9, 2) := by decide +kernel
theorem dX11_mux_9 : decode cX11_mux 9 = .ok (.if_icmp .le 14, 3) := by decide +kernel
theorem dX11_mux_12 : decode cX11_mux 12 = .ok (.new 40, 3) := by decide +kernel
theorem dX11_mux_15 : decode cX11_mux 15 = .ok (.dup, 1) := by decide +kernel
theorem dX11_mux_16 : decode cX11_mux 16 = .ok (.ldc_w 393, 3) := by decide +kernel
theorem dX11_mux_19 : decode cX11_mux 19 = .ok (.invokespecial 44, 3) := by decide +kernel
theorem dX11_mux_22 : decode cX11_mux 22 = .ok (.athrow, 1) := by decide +kernel
theorem dX11_mux_23 : decode cX11_mux 23 = .ok (.aload_n 0, 1) := by decide +kernel
theorem dX11_mux_24 : decode cX11_mux 24 = .ok (.aload_n 0, 1) := by decide +kernel
theorem dX11_mux_25 : decode cX11_mux 25 = .ok (.getfield 17, 3) := by decide +kernel
theorem dX11_mux_28 : decode cX11_mux 28 = .ok (.aload_n 0, 1) := by decide +kernel
theorem dX11_mux_29 : decode cX11_mux 29 = .ok (.getfield 10, 3) := by decide +kernel
theorem dX11_mux_32 : decode cX11_mux 32 = .ok (.invokevirtual 395, 3) := by decide +kernel
theorem dX11_mux_35 : decode cX11_mux 35 = .ok (.putfield 35, 3) := by decide +kernel
theorem dX11_mux_38 : decode cX11_mux 38 = .ok (.aload_n 0, 1) := by decide +kernel
theorem dX11_mux_39 : decode cX11_mux 39 = .ok (.getfield 35, 3) := by decide +kernel
theorem dX11_mux_42 : decode cX11_mux 42 = .ok (.ireturn, 1) := by decide +kernel
def FX11_mux (G : GG) (M : DD) (a : Nat)  : Option (DD × Int32) :=
  dr G 8 ((M.2 a 2)) fun b2 =>
  bnd (FX8_fileLength G M b2) fun y3 =>
  bnd (if y3.2 ≤ ((65536 : Int32)) then (some ()) else
  (none)) fun (y4 : Unit) =>
  dr G 8 ((y3.1.2 a 2)) fun b5 =>
  bnd (FX8_writeFile G y3.1 b5 ((y3.1.2 a 0))) fun y6 =>
  ltt (uI y6.1 a 1 y6.2) fun M7 =>
  ltt (M7.1 a 1) fun x8 =>
  some (M7, x8)
set_option maxHeartbeats 4000000 in
set_option maxRecDepth 100000 in
theorem kX11_mux (l : Launch) (D : va_G) (ct : CT) (ad : Nat → Nat) (Z : Nat → Nat) (G : GG) (M : DD) (sz : Nat) (a : Nat)  (y : DD × Int32) (hc : a < G.1) (hk : G.2.1 a = 11) (hF : FX11_mux G M a  = some y) : Met l yX11_mux wuX11_mux ({ frames := 3, cells := 0, slots := 0, locals := 68 }) (va_Pc [.ref (ad a)] (kB D ct ad Z G M sz)) (va_Qi (fun (q : Int32) (_ : Unit) => q = y.2) (fun _ t => kE D ct ad G (wA ad G sz) y.1 t) (wA ad G sz)) 0 0 (wA ad G sz) := by
  refine Met.ofW (cc := cX11_mux) (maxL := 1) (ret := (some .int)) (by decide) rfl ?_
  intro p e s m args below meth c s₁ B hml hv
  obtain ⟨rfl, hsz, hP, hK, hD0, hZ, hN⟩ := hv
  have hx := B.exec
  have hb := B.bytes
  have hr := B.returns
  have hts := atoms_spec (ws := wuX11_mux) B.pre
  have hown : s.vm.findClass RX11 = some m.cls := findClass_of_methodNamed B.named
  have hlocks := B.notSynchronized
  subst hsz
  have hD := wD_self (sz := s.heap.size) hD0
  have hA9 : ∀ q, s.heap.size ≤ q → wA ad G s.heap.size q := fun q h => Or.inr h
  generalize hAe : wA ad G s.heap.size = A at hD hA9 hZ ⊢
  have hS : va_S A s.heap s.heap [] := va_S.rf
  have hl := lv_entry ([.ref (ad a)]) (n := 1) (Nat.le_of_ble_eq_true rfl)
  rw [lg_entry_eq]
  generalize (lg_sl ([.ref (ad a)]) ++ List.replicate (1 - (lg_sl ([.ref (ad a)])).length) Slot.unset).toArray = ls at hl ⊢
  have hl : lv_has ls 1 [(0, .ref (ad a))] := hl
  unfold FX11_mux at hF
  refine lv_aload_n hx hb dX11_mux_0 rfl (lv_at hl 0 rfl) ?_
  refine va_get (D := D) (ci := 11) (v := va_re ad (M.2 a 2)) (C := RX11) (T := TX11) (N := 5) hx hb hts (mus hf_X11) hown hK hP a (wld_o ct ad G M hc hk (by decide)) rfl 2 (by decide) (hts (.fieldLink RX11 17 "VideoSuite" "units" "LVideoSuite$Units;") (mu mw_884)) (fun _ h9 => h9) rfl dX11_mux_1 ?_
  obtain ⟨b2, ho2, hc2, hk2, hF⟩ := dr_some hF
  refine W_st (st' := [.ref (ad b2)]) (by rw [va_some ho2]) ?_
  obtain ⟨y3, hy3, hF⟩ := bnd_some hF
  have hf9 := wA_in hD hA9 hS
  refine va_calli (va_runV (As := []) (rest := []) ⟨hx, hb, hml, hown, hts⟩ (kX8_fileLength l D ct ad Z G M s.heap.size b2 y3 hc2 hk2 hy3) (cwV 0 hts gX11_mux_X8_fileLength rfl rfl rfl (by decide +kernel) ⟨Nat.le_of_ble_eq_true rfl, Nat.le_of_ble_eq_true rfl⟩) ⟨fun a U g mk q => by obtain ⟨q0, q1, qP, qK, qD, qZ, qN⟩ := q; exact ⟨q0, q1, qP, va_K.moved (u := U) (U := U.calling g mk a) (Vm.Alike.refl U.vm) qK, qD, sF.moved (u := U) (U := U.calling g mk a) (Vm.Alike.refl U.vm) qZ, nF.same rfl qN⟩, va_recv hK hP (ci := 8) (q0 := b2) rfl (wld_o ct ad G M hc2 hk2 (by decide)), fun U hU hW => ⟨rfl, by rw [hU], by rw [hU]; exact hP, va_K.moved hW.alike hK, hD.weaken (fun _ _ _ _ => trivial), by rw [hU]; exact ((hZ.kept hS.2.1).narrow hf9).moved hW.alike, hN.warm hW⟩⟩ rfl rfl hl.1 rfl (lv_room (Nat.le_of_ble_eq_true rfl)) dX11_mux_4 ⟨(Nat.zero_le _), (Nat.zero_le _)⟩) hS (fun q _ h => hf9 q h) hf9 (fun r u t H locs ht hvm hw hB hz1 hk1 hS => ?_)
  obtain ⟨hP, hK9, hD9⟩ := hB
  rw [ht] at hP
  try dsimp only at hw
  subst hw
  have hD := hD9.weaken (fun _ q _ h => hf9 q.1 h)
  refine lv_ldc (v := (65536 : Int32)) hx hb hown (hts (.constant RX11 9 (65536 : Int32)) (mu mw_204)) dX11_mux_7 ?_
  obtain ⟨y4, hy4, hF⟩ := bnd_some hF
  have J4 : ∀ (H : Heap) (locs : List Loc) (ls : Array Slot), va_P D classes (wld ct ad G y3.1) H → va_D A (wld ct ad G y3.1) → va_S A s.heap H locs → lv_has ls 1 [(0, .ref (ad a))] → W p l e (headSpec wuX11_mux ({ frames := 3, cells := 0, slots := 0, locals := 68 })).room s m ([.ref (ad a)] : List Value).toArray below meth c H locs 0 0 (MQ below (va_Qi (fun (q : Int32) (_ : Unit) => q = y.2) (fun _ t => kE D ct ad G A y.1 t) A) ([.ref (ad a)] : List Value).toArray s 0 0 A) (F0 m 23 ls []) := by
    intro H locs ls hP hD hS hl
    refine lv_aload_n hx hb dX11_mux_23 rfl (lv_at hl 0 rfl) ?_
    refine lv_aload_n hx hb dX11_mux_24 rfl (lv_at hl 0 rfl) ?_
    refine va_get (D := D) (ci := 11) (v := va_re ad (y3.1.2 a 2)) (C := RX11) (T := TX11) (N := 5) hx hb hts (mus hf_X11) hown hK hP a (wld_o ct ad G y3.1 hc hk (by decide)) rfl 2 (by decide) (hts (.fieldLink RX11 17 "VideoSuite" "units" "LVideoSuite$Units;") (mu mw_884)) (fun _ h9 => h9) rfl dX11_mux_25 ?_
    refine lv_aload_n hx hb dX11_mux_28 rfl (lv_at hl 0 rfl) ?_
    refine va_get (D := D) (ci := 11) (v := va_re ad (y3.1.2 a 0)) (C := RX11) (T := TX11) (N := 5) hx hb hts (mus hf_X11) hown hK hP a (wld_o ct ad G y3.1 hc hk (by decide)) rfl 0 (by decide) (hts (.fieldLink RX11 10 "VideoSuite" "tape" "[B") (mu mw_882)) (fun _ h9 => h9) rfl dX11_mux_29 ?_
    obtain ⟨b5, ho5, hc5, hk5, hF⟩ := dr_some hF
    refine W_st (st' := [va_re ad (y3.1.2 a 0), .ref (ad b5), .ref (ad a)]) (by rw [va_some ho5]) ?_
    obtain ⟨y6, hy6, hF⟩ := bnd_some hF
    have hf9 := wA_in hD hA9 hS
    refine va_calli (va_runV (As := [va_re ad (y3.1.2 a 0)]) (rest := [.ref (ad a)]) ⟨hx, hb, hml, hown, hts⟩ (kX8_writeFile l D ct ad Z G y3.1 H.size b5 ((y3.1.2 a 0)) y6 hc5 hk5 hy6) (cwV 1 hts gX11_mux_X8_writeFile rfl rfl rfl (by decide +kernel) ⟨Nat.le_of_ble_eq_true rfl, Nat.le_of_ble_eq_true rfl⟩) ⟨fun a U g mk q => by obtain ⟨q0, q1, qP, qK, qD, qZ, qN⟩ := q; exact ⟨q0, q1, qP, va_K.moved (u := U) (U := U.calling g mk a) (Vm.Alike.refl U.vm) qK, qD, sF.moved (u := U) (U := U.calling g mk a) (Vm.Alike.refl U.vm) qZ, nF.same rfl qN⟩, va_recv hK hP (ci := 8) (q0 := b5) rfl (wld_o ct ad G y3.1 hc5 hk5 (by decide)), fun U hU hW => ⟨rfl, by rw [hU], by rw [hU]; exact hP, va_K.moved hW.alike hK, hD.weaken (fun _ _ _ _ => trivial), by rw [hU]; exact ((hZ.kept hS.2.1).narrow hf9).moved hW.alike, hN.warm hW⟩⟩ rfl rfl hl.1 rfl (lv_room (Nat.le_of_ble_eq_true rfl)) dX11_mux_32 ⟨(Nat.zero_le _), (Nat.zero_le _)⟩) hS (fun q _ h => hf9 q h) hf9 (fun r u t H locs ht hvm hw hB hz1 hk1 hS => ?_)
    obtain ⟨hP, hK9, hD9⟩ := hB
    rw [ht] at hP
    try dsimp only at hw
    subst hw
    have hD := hD9.weaken (fun _ q _ h => hf9 q.1 h)
    refine va_put (D := D) (ci := 11) (v := .int y6.2) (ty := .int) (C := RX11) (T := TX11) (N := 5) hx hb hts (mus hf_X11) tyX11 tyX11_ok nmX11 hown hK hP hD hS a (wld_o ct ad G y6.1 hc hk (by decide)) rfl 1 (by decide) (hts (.fieldLink RX11 35 "VideoSuite" "tapeLength" "I") (mu mw_883)) (fun _ h9 => h9) rfl (by decide +kernel) rfl rfl (Nat.le_of_ble_eq_true rfl) dX11_mux_35 (fun H locs hP hD hS => ?_)
    obtain ⟨M7, eM7, hF⟩ := ltt_some hF
    rw [set_oI ct ad G y6.1 hc hk (by decide) (by rfl), ← eM7] at hP hD
    refine lv_aload_n hx hb dX11_mux_38 rfl (lv_at hl 0 rfl) ?_
    refine va_get (D := D) (ci := 11) (v := .int (M7.1 a 1)) (C := RX11) (T := TX11) (N := 5) hx hb hts (mus hf_X11) hown hK hP a (wld_o ct ad G M7 hc hk (by decide)) rfl 1 (by decide) (hts (.fieldLink RX11 35 "VideoSuite" "tapeLength" "I") (mu mw_883)) (fun _ h9 => h9) rfl dX11_mux_39 ?_
    obtain ⟨x8, ex8, hF⟩ := ltt_some hF
    refine lv_topi (fun zx8 ezx8 => ?_)
    obtain rfl : x8 = zx8 := ex8.trans ezx8.symm
    obtain rfl := Option.some.inj hF
    exact W.iret (v := x8) hx hb hr (fun t ht hW => ⟨⟨_, (), rfl, rfl, ⟨by rw [ht]; exact hP, va_K.moved hW.alike hK, hD⟩⟩, hS.F ht⟩) hS.2.2 dX11_mux_42
  clear hF
  have hF := hy4
  clear hy4
  refine lv_icmp_le (tgt := 23) hx hb dX11_mux_9 (by decide) (fun c9 => ?_) (fun c9 => ?_)
  · rw [if_pos c9] at hF
    obtain rfl := Option.some.inj hF
    exact J4 _ _ _ hP hD hS (lv_sub hl [0] rfl)
  · rw [if_neg c9] at hF
    cases hF
set_option maxRecDepth 20000 in
theorem gX11_sum_X7_keeps : GoodIn wuX11_sum (wsV RX11 158 RX7 yX7_keeps wuX7_keeps) := gu_V mw_2299 mw_2300 mw_2301 mw_170 mw_2302
set_option maxRecDepth 20000 in
set_option maxRecDepth 20000 in
theorem gX11_sum_X7_sumOf : GoodIn wuX11_sum (wsV RX11 180 RX7 yX7_sumOf wuX7_sumOf) := gu_V mw_2331 mw_2332 mw_2333 mw_170 mw_2334
theorem dX11_sum_0 : decode cX11_sum 0 = .ok (.aload_n 0, 1) := by decide +kernel
theorem dX11_sum_1 : decode cX11_sum 1 = .ok (.getfield 24, 3) := by decide +kernel
theorem dX11_sum_4 : decode cX11_sum 4 = .ok (.getfield 146, 3) := by decide +kernel
theorem dX11_sum_7 : decode cX11_sum 7 = .ok (.iload_n 1, 1) := by decide +kernel
theorem dX11_sum_8 : decode cX11_sum 8 = .ok (.invokevirtual 158, 3) := by decide +kernel
theorem dX11_sum_11 : decode cX11_sum 11 = .ok (.ifCond .eq 12, 3) := by decide +kernel
theorem dX11_sum_14 : decode cX11_sum 14 = .ok (.iload_n 2, 1) := by decide +kernel
theorem dX11_sum_15 : decode cX11_sum 15 = .ok (.ifCond .lt 8, 3) := by decide +kernel
theorem dX11_sum_18 : decode cX11_sum 18 = .ok (.iload_n 2, 1) := by decide +kernel
theorem dX11_sum_19 : decode cX11_sum 19 = .ok (.iconst 2, 1) := by decide +kernel
theorem dX11_sum_20 : decode cX11_sum 20 = .ok (.if_icmp .le 13, 3) := by decide +kernel
theorem dX11_sum_23 : decode cX11_sum 23 = .ok (.new 91, 3) := by decide +kernel
theorem dX11_sum_26 : decode cX11_sum 26 = .ok (.dup, 1) := by decide +kernel
theorem dX11_sum_27 : decode cX11_sum 27 = .ok (.ldc 166, 2) := by decide +kernel
theorem dX11_sum_29 : decode cX11_sum 29 = .ok (.invokespecial 95, 3) := by decide +kernel
theorem dX11_sum_32 : decode cX11_sum 32 = .ok (.athrow, 1) := by decide +kernel
theorem dX11_sum_33 : decode cX11_sum 33 = .ok (.aload_n 0, 1) := by decide +kernel
theorem dX11_sum_34 : decode cX11_sum 34 = .ok (.getfield 24, 3) := by decide +kernel
theorem dX11_sum_37 : decode cX11_sum 37 = .ok (.getfield 146, 3) := by decide +kernel
theorem dX11_sum_40 : decode cX11_sum 40 = .ok (.iload_n 1, 1) := by decide +kernel
theorem dX11_sum_41 : decode cX11_sum 41 = .ok (.iload_n 2, 1) := by decide +kernel
theorem dX11_sum_42 : decode cX11_sum 42 = .ok (.invokevirtual 180, 3) := by decide +kernel
theorem dX11_sum_45 : decode cX11_sum 45 = .ok (.ireturn, 1) := by decide +kernel
def FX11_sum (G : GG) (M : DD) (a : Nat) (p0 : Int32) (p1 : Int32) : Option (DD × Int32) :=
  dr G 1 ((M.2 a 3)) fun b2 =>
  dr G 7 ((M.2 b2 1)) fun b3 =>
  bnd (FX7_keeps G M b3 p0) fun y4 =>
  bnd (if y4.2 = ((0 : Int32)) then (none) else
  (some ())) fun (y5 : Unit) =>
  bnd (if p1 < ((0 : Int32)) then (none) else
  (some ())) fun (y6 : Unit) =>
  bnd (if p1 ≤ ((2 : Int32)) then (some ()) else
  (none)) fun (y7 : Unit) =>
  dr G 1 ((y4.1.2 a 3)) fun b8 =>
  dr G 7 ((y4.1.2 b8 1)) fun b9 =>
  bnd (FX7_sumOf G y4.1 b9 p0 p1) fun y10 =>
  some (y10.1, y10.2)
set_option maxHeartbeats 4000000 in
set_option maxRecDepth 100000 in
theorem kX11_sum (l : Launch) (D : va_G) (ct : CT) (ad : Nat → Nat) (Z : Nat → Nat) (G : GG) (M : DD) (sz : Nat) (a : Nat) (p0 : Int32) (p1 : Int32) (y : DD × Int32) (hc : a < G.1) (hk : G.2.1 a = 11) (hF : FX11_sum G M a p0 p1 = some y) : Met l yX11_sum wuX11_sum ({ frames := 3, cells := 0, slots := 0, locals := 67 }) (va_Pc [.ref (ad a), .int p0, .int p1] (kB D ct ad Z G M sz)) (va_Qi (fun (q : Int32) (_ : Unit) => q = y.2) (fun _ t => kE D ct ad G (wA ad G sz) y.1 t) (wA ad G sz)) 0 0 (wA ad G sz) := by
  refine Met.ofW (cc := cX11_sum) (maxL := 3) (ret := (some .int)) (by decide) rfl ?_
  intro p e s m args below meth c s₁ B hml hv
  obtain ⟨rfl, hsz, hP, hK, hD0, hZ, hN⟩ := hv
  have hx := B.exec
  have hb := B.bytes
  have hr := B.returns
  have hts := atoms_spec (ws := wuX11_sum) B.pre
  have hown : s.vm.findClass RX11 = some m.cls := findClass_of_methodNamed B.named
  have hlocks := B.notSynchronized
  subst hsz
  have hD := wD_self (sz := s.heap.size) hD0
  have hA9 : ∀ q, s.heap.size ≤ q → wA ad G s.heap.size q := fun q h => Or.inr h
  generalize hAe : wA ad G s.heap.size = A at hD hA9 hZ ⊢
  have hS : va_S A s.heap s.heap [] := va_S.rf
  have hl := lv_entry ([.ref (ad a), .int p0, .int p1]) (n := 3) (Nat.le_of_ble_eq_true rfl)
  rw [lg_entry_eq]
  generalize (lg_sl ([.ref (ad a), .int p0, .int p1]) ++ List.replicate (3 - (lg_sl ([.ref (ad a), .int p0, .int p1])).length) Slot.unset).toArray = ls at hl ⊢
  have hl : lv_has ls 3 [(0, .ref (ad a)), (1, .int p0), (2, .int p1)] := hl
  unfold FX11_sum at hF
  refine lv_aload_n hx hb dX11_sum_0 rfl (lv_at hl 0 rfl) ?_
  refine va_get (D := D) (ci := 11) (v := va_re ad (M.2 a 3)) (C := RX11) (T := TX11) (N := 5) hx hb hts (mus hf_X11) hown hK hP a (wld_o ct ad G M hc hk (by decide)) rfl 3 (by decide) (hts (.fieldLink RX11 24 "VideoSuite" "decoder" "LVideoSuite$Decoder;") (mu mw_885)) (fun _ h9 => h9) rfl dX11_sum_1 ?_
  obtain ⟨b2, ho2, hc2, hk2, hF⟩ := dr_some hF
  refine W_st (st' := [.ref (ad b2)]) (by rw [va_some ho2]) ?_
  refine va_get (D := D) (ci := 1) (v := va_re ad (M.2 b2 1)) (C := RX1) (T := TX1) (N := 22) hx hb hts (mus hf_X1) hown hK hP b2 (wld_o ct ad G M hc2 hk2 (by decide)) rfl 1 (by decide) (hts (.fieldLink RX11 146 "VideoSuite$Decoder" "store" "LVideoSuite$Store;") (mu mw_643)) (fun _ h9 => h9) rfl dX11_sum_4 ?_
  refine lv_iload_n hx hb dX11_sum_7 rfl (lv_at hl 1 rfl) ?_
  obtain ⟨b3, ho3, hc3, hk3, hF⟩ := dr_some hF
  refine W_st (st' := [.int p0, .ref (ad b3)]) (by rw [va_some ho3]) ?_
  obtain ⟨y4, hy4, hF⟩ := bnd_some hF
  have hf9 := wA_in hD hA9 hS
  refine va_calli (va_runV (As := [.int p0]) (rest := []) ⟨hx, hb, hml, hown, hts⟩ (kX7_keeps l D ct ad Z G M s.heap.size b3 p0 y4 hc3 hk3 hy4) (cwV 1 hts gX11_sum_X7_keeps rfl rfl rfl (by decide +kernel) ⟨Nat.le_of_ble_eq_true rfl, Nat.le_of_ble_eq_true rfl⟩) ⟨fun a U g mk q => by obtain ⟨q0, q1, qP, qK, qD, qZ, qN⟩ := q; exact ⟨q0, q1, qP, va_K.moved (u := U) (U := U.calling g mk a) (Vm.Alike.refl U.vm) qK, qD, sF.moved (u := U) (U := U.calling g mk a) (Vm.Alike.refl U.vm) qZ, nF.same rfl qN⟩, va_recv hK hP (ci := 7) (q0 := b3) rfl (wld_o ct ad G M hc3 hk3 (by decide)), fun U hU hW => ⟨rfl, by rw [hU], by rw [hU]; exact hP, va_K.moved hW.alike hK, hD.weaken (fun _ _ _ _ => trivial), by rw [hU]; exact ((hZ.kept hS.2.1).narrow hf9).moved hW.alike, hN.warm hW⟩⟩ rfl rfl hl.1 rfl (lv_room (Nat.le_of_ble_eq_true rfl)) dX11_sum_8 ⟨(Nat.zero_le _), (Nat.zero_le _)⟩) hS (fun q _ h => hf9 q h) hf9 (fun r u t H locs ht hvm hw hB hz1 hk1 hS => ?_)
  obtain ⟨hP, hK9, hD9⟩ := hB
  rw [ht] at hP
  try dsimp only at hw
  subst hw
  have hD := hD9.weaken (fun _ q _ h => hf9 q.1 h)
  obtain ⟨y5, hy5, hF⟩ := bnd_some hF
  have J5 : ∀ (H : Heap) (locs : List Loc) (ls : Array Slot), va_P D classes (wld ct ad G y4.1) H → va_D A (wld ct ad G y4.1) → va_S A s.heap H locs → lv_has ls 3 [(0, .ref (ad a)), (1, .int p0), (2, .int p1)] → W p l e (headSpec wuX11_sum ({ frames := 3, cells := 0, slots := 0, locals := 67 })).room s m ([.ref (ad a), .int p0, .int p1] : List Value).toArray below meth c H locs 0 0 (MQ below (va_Qi (fun (q : Int32) (_ : Unit) => q = y.2) (fun _ t => kE D ct ad G A y.1 t) A) ([.ref (ad a), .int p0, .int p1] : List Value).toArray s 0 0 A) (F0 m 14 ls []) := by
    intro H locs ls hP hD hS hl
    refine lv_iload_n hx hb dX11_sum_14 rfl (lv_at hl 2 rfl) ?_
    obtain ⟨y6, hy6, hF⟩ := bnd_some hF
    have J6 : ∀ (H : Heap) (locs : List Loc) (ls : Array Slot), va_P D classes (wld ct ad G y4.1) H → va_D A (wld ct ad G y4.1) → va_S A s.heap H locs → lv_has ls 3 [(0, .ref (ad a)), (1, .int p0), (2, .int p1)] → W p l e (headSpec wuX11_sum ({ frames := 3, cells := 0, slots := 0, locals := 67 })).room s m ([.ref (ad a), .int p0, .int p1] : List Value).toArray below meth c H locs 0 0 (MQ below (va_Qi (fun (q : Int32) (_ : Unit) => q = y.2) (fun _ t => kE D ct ad G A y.1 t) A) ([.ref (ad a), .int p0, .int p1] : List Value).toArray s 0 0 A) (F0 m 18 ls []) := by
      intro H locs ls hP hD hS hl
      refine lv_iload_n hx hb dX11_sum_18 rfl (lv_at hl 2 rfl) ?_
      refine lv_iconst (v := (2 : Int32)) hx hb dX11_sum_19 (by decide) ?_
      obtain ⟨y7, hy7, hF⟩ := bnd_some hF
      have J7 : ∀ (H : Heap) (locs : List Loc) (ls : Array Slot), va_P D classes (wld ct ad G y4.1) H → va_D A (wld ct ad G y4.1) → va_S A s.heap H locs → lv_has ls 3 [(0, .ref (ad a)), (1, .int p0), (2, .int p1)] → W p l e (headSpec wuX11_sum ({ frames := 3, cells := 0, slots := 0, locals := 67 })).room s m ([.ref (ad a), .int p0, .int p1] : List Value).toArray below meth c H locs 0 0 (MQ below (va_Qi (fun (q : Int32) (_ : Unit) => q = y.2) (fun _ t => kE D ct ad G A y.1 t) A) ([.ref (ad a), .int p0, .int p1] : List Value).toArray s 0 0 A) (F0 m 33 ls []) := by
        intro H locs ls hP hD hS hl
        refine lv_aload_n hx hb dX11_sum_33 rfl (lv_at hl 0 rfl) ?_
        refine va_get (D := D) (ci := 11) (v := va_re ad (y4.1.2 a 3)) (C := RX11) (T := TX11) (N := 5) hx hb hts (mus hf_X11) hown hK hP a (wld_o ct ad G y4.1 hc hk (by decide)) rfl 3 (by decide) (hts (.fieldLink RX11 24 "VideoSuite" "decoder" "LVideoSuite$Decoder;") (mu mw_885)) (fun _ h9 => h9) rfl dX11_sum_34 ?_
        obtain ⟨b8, ho8, hc8, hk8, hF⟩ := dr_some hF
        refine W_st (st' := [.ref (ad b8)]) (by rw [va_some ho8]) ?_
        refine va_get (D := D) (ci := 1) (v := va_re ad (y4.1.2 b8 1)) (C := RX1) (T := TX1) (N := 22) hx hb hts (mus hf_X1) hown hK hP b8 (wld_o ct ad G y4.1 hc8 hk8 (by decide)) rfl 1 (by decide) (hts (.fieldLink RX11 146 "VideoSuite$Decoder" "store" "LVideoSuite$Store;") (mu mw_643)) (fun _ h9 => h9) rfl dX11_sum_37 ?_
        refine lv_iload_n hx hb dX11_sum_40 rfl (lv_at hl 1 rfl) ?_
        refine lv_iload_n hx hb dX11_sum_41 rfl (lv_at hl 2 rfl) ?_
        obtain ⟨b9, ho9, hc9, hk9, hF⟩ := dr_some hF
        refine W_st (st' := [.int p1, .int p0, .ref (ad b9)]) (by rw [va_some ho9]) ?_
        obtain ⟨y10, hy10, hF⟩ := bnd_some hF
        have hf9 := wA_in hD hA9 hS
        refine va_calli (va_runV (As := [.int p0, .int p1]) (rest := []) ⟨hx, hb, hml, hown, hts⟩ (kX7_sumOf l D ct ad Z G y4.1 H.size b9 p0 p1 y10 hc9 hk9 hy10) (cwV 2 hts gX11_sum_X7_sumOf rfl rfl rfl (by decide +kernel) ⟨Nat.le_of_ble_eq_true rfl, Nat.le_of_ble_eq_true rfl⟩) ⟨fun a U g mk q => by obtain ⟨q0, q1, qP, qK, qD, qZ, qN⟩ := q; exact ⟨q0, q1, qP, va_K.moved (u := U) (U := U.calling g mk a) (Vm.Alike.refl U.vm) qK, qD, sF.moved (u := U) (U := U.calling g mk a) (Vm.Alike.refl U.vm) qZ, nF.same rfl qN⟩, va_recv hK hP (ci := 7) (q0 := b9) rfl (wld_o ct ad G y4.1 hc9 hk9 (by decide)), fun U hU hW => ⟨rfl, by rw [hU], by rw [hU]; exact hP, va_K.moved hW.alike hK, hD.weaken (fun _ _ _ _ => trivial), by rw [hU]; exact ((hZ.kept hS.2.1).narrow hf9).moved hW.alike, hN.warm hW⟩⟩ rfl rfl hl.1 rfl (lv_room (Nat.le_of_ble_eq_true rfl)) dX11_sum_42 ⟨(Nat.zero_le _), (Nat.zero_le _)⟩) hS (fun q _ h => hf9 q h) hf9 (fun r u t H locs ht hvm hw hB hz1 hk1 hS => ?_)
        obtain ⟨hP, hK9, hD9⟩ := hB
        rw [ht] at hP
        try dsimp only at hw
        subst hw
        have hD := hD9.weaken (fun _ q _ h => hf9 q.1 h)
        obtain rfl := Option.some.inj hF
        exact W.iret (v := y10.2) hx hb hr (fun t ht hW => ⟨⟨_, (), rfl, rfl, ⟨by rw [ht]; exact hP, va_K.moved hW.alike hK, hD⟩⟩, hS.F ht⟩) hS.2.2 dX11_sum_45
      clear hF
      have hF := hy7
      clear hy7
      refine lv_icmp_le (tgt := 33) hx hb dX11_sum_20 (by decide) (fun c11 => ?_) (fun c11 => ?_)
      · rw [if_pos c11] at hF
        obtain rfl := Option.some.inj hF
        exact J7 _ _ _ hP hD hS (lv_sub hl [0, 1, 2] rfl)
      · rw [if_neg c11] at hF
        cases hF
    clear hF
    have hF := hy6
    clear hy6
    refine lv_if_lt (tgt := 23) hx hb dX11_sum_15 (by decide) (fun c12 => ?_) (fun c12 => ?_)
    · rw [if_pos c12] at hF
      cases hF
    · rw [if_neg c12] at hF
      obtain rfl := Option.some.inj hF
      exact J6 _ _ _ hP hD hS (lv_sub hl [0, 1, 2] rfl)
  clear hF
  have hF := hy5
  clear hy5
  refine lv_if_eq (tgt := 23) hx hb dX11_sum_11 (by decide) (fun c13 => ?_) (fun c13 => ?_)
  · rw [if_pos c13] at hF
    cases hF
  · rw [if_neg c13] at hF
    obtain rfl := Option.some.inj hF
    exact J5 _ _ _ hP hD hS (lv_sub hl [0, 1, 2] rfl)
set_option maxRecDepth 20000 in
theorem gX11_take_X8_cutByMarks : GoodIn wuX11_take (wsV RX11 61 RX8 yX8_cutByMarks wuX8_cutByMarks) := gu_V mw_2741 mw_2742 mw_2743 mw_167 mw_2744
set_option maxRecDepth 20000 in
set_option maxRecDepth 20000 in
theorem gX11_take_X11_adopt : GoodIn wuX11_take (wsV RX11 71 RX11 yX11_adopt wuX11_adopt) := gu_V mw_2753 mw_2755 mw_159 mw_166 mw_2756
theorem dX11_take_0 : decode cX11_take 0 = .ok (.aload_n 0, 1) := by decide +kernel
theorem dX11_take_1 : decode cX11_take 1 = .ok (.getfield 17, 3) := by decide +kernel
theorem dX11_take_4 : decode cX11_take 4 = .ok (.iconst 0, 1) := by decide +kernel
theorem dX11_take_5 : decode cX11_take 5 = .ok (.putfield 58, 3) := by decide +kernel
theorem dX11_take_8 : decode cX11_take 8 = .ok (.aload_n 0, 1) := by decide +kernel
theorem dX11_take_9 : decode cX11_take 9 = .ok (.getfield 31, 3) := by decide +kernel
theorem dX11_take_12 : decode cX11_take 12 = .ok (.getfield 373, 3) := by decide +kernel
theorem dX11_take_15 : decode cX11_take 15 = .ok (.getfield 377, 3) := by decide +kernel
theorem dX11_take_18 : decode cX11_take 18 = .ok (.ldc 9, 2) := by decide +kernel
theorem dX11_take_20 : decode cX11_take 20 = .ok (.if_icmp .gt 33, 3) := by decide +kernel
theorem dX11_take_23 : decode cX11_take 23 = .ok (.aload_n 0, 1) := by decide +kernel
theorem dX11_take_24 : decode cX11_take 24 = .ok (.getfield 17, 3) := by decide +kernel
theorem dX11_take_27 : decode cX11_take 27 = .ok (.aload_n 0, 1) := by decide +kernel
theorem dX11_take_28 : decode cX11_take 28 = .ok (.getfield 31, 3) := by decide +kernel
theorem dX11_take_31 : decode cX11_take 31 = .ok (.getfield 373, 3) := by decide +kernel
theorem dX11_take_34 : decode cX11_take 34 = .ok (.getfield 382, 3) := by decide +kernel
theorem dX11_take_37 : decode cX11_take 37 = .ok (.aload_n 0, 1) := by decide +kernel
theorem dX11_take_38 : decode cX11_take 38 = .ok (.getfield 31, 3) := by decide +kernel
theorem dX11_take_41 : decode cX11_take 41 = .ok (.getfield 373, 3) := by decide +kernel
theorem dX11_take_44 : decode cX11_take 44 = .ok (.getfield 377, 3) := by decide +kernel
theorem dX11_take_47 : decode cX11_take 47 = .ok (.invokevirtual 61, 3) := by decide +kernel
theorem dX11_take_50 : decode cX11_take 50 = .ok (.ifCond .ne 14, 3) := by decide +kernel
theorem dX11_take_53 : decode cX11_take 53 = .ok (.new 40, 3) := by decide +kernel
theorem dX11_take_56 : decode cX11_take 56 = .ok (.dup, 1) := by decide +kernel
theorem dX11_take_57 : decode cX11_take 57 = .ok (.ldc_w 385, 3) := by decide +kernel
theorem dX11_take_60 : decode cX11_take 60 = .ok (.invokespecial 44, 3) := by decide +kernel
theorem dX11_take_63 : decode cX11_take 63 = .ok (.athrow, 1) := by decide +kernel
theorem dX11_take_64 : decode cX11_take 64 = .ok (.aload_n 0, 1) := by decide +kernel
theorem dX11_take_65 : decode cX11_take 65 = .ok (.aload_n 0, 1) := by decide +kernel
theorem dX11_take_66 : decode cX11_take 66 = .ok (.getfield 31, 3) := by decide +kernel
theorem dX11_take_69 : decode cX11_take 69 = .ok (.getfield 373, 3) := by decide +kernel
theorem dX11_take_72 : decode cX11_take 72 = .ok (.getfield 382, 3) := by decide +kernel
theorem dX11_take_75 : decode cX11_take 75 = .ok (.invokevirtual 71, 3) := by decide +kernel
theorem dX11_take_78 : decode cX11_take 78 = .ok (.ireturn, 1) := by decide +kernel
def FX11_take (G : GG) (M : DD) (a : Nat)  : Option (DD × Int32) :=
  dr G 8 ((M.2 a 2)) fun b2 =>
  ltt (uI M b2 7 ((0 : Int32))) fun M3 =>
  dr G 0 ((M3.2 a 4)) fun b4 =>
  dr G 10 ((M3.2 b4 2)) fun b5 =>
  ltt (M3.1 b5 1) fun x6 =>
  bnd (if ((65536 : Int32)) < x6 then (none) else
  (some ())) fun (y7 : Unit) =>
  ltt (M3.1 b5 1) fun x8 =>
  dr G 8 ((M3.2 a 2)) fun b9 =>
  bnd (FX8_cutByMarks G M3 b9 ((M3.2 b5 0)) x8) fun y10 =>
  bnd (if y10.2 = ((0 : Int32)) then (none) else
  (some ())) fun (y11 : Unit) =>
  dr G 0 ((y10.1.2 a 4)) fun b12 =>
  dr G 10 ((y10.1.2 b12 2)) fun b13 =>
  bnd (FX11_adopt G y10.1 a ((y10.1.2 b13 0))) fun y14 =>
  some (y14.1, y14.2)
set_option maxHeartbeats 4000000 in
set_option maxRecDepth 100000 in
theorem kX11_take (l : Launch) (D : va_G) (ct : CT) (ad : Nat → Nat) (Z : Nat → Nat) (G : GG) (M : DD) (sz : Nat) (a : Nat)  (y : DD × Int32) (hc : a < G.1) (hk : G.2.1 a = 11) (hF : FX11_take G M a  = some y) : Met l yX11_take wuX11_take ({ frames := 3, cells := 0, slots := 0, locals := 125 }) (va_Pc [.ref (ad a)] (kB D ct ad Z G M sz)) (va_Qi (fun (q : Int32) (_ : Unit) => q = y.2) (fun _ t => kE D ct ad G (wA ad G sz) y.1 t) (wA ad G sz)) 0 0 (wA ad G sz) := by
  refine Met.ofW (cc := cX11_take) (maxL := 1) (ret := (some .int)) (by decide) rfl ?_
  intro p e s m args below meth c s₁ B hml hv
  obtain ⟨rfl, hsz, hP, hK, hD0, hZ, hN⟩ := hv
  have hx := B.exec
  have hb := B.bytes
  have hr := B.returns
  have hts := atoms_spec (ws := wuX11_take) B.pre
  have hown : s.vm.findClass RX11 = some m.cls := findClass_of_methodNamed B.named
  have hlocks := B.notSynchronized
  subst hsz
  have hD := wD_self (sz := s.heap.size) hD0
  have hA9 : ∀ q, s.heap.size ≤ q → wA ad G s.heap.size q := fun q h => Or.inr h
  generalize hAe : wA ad G s.heap.size = A at hD hA9 hZ ⊢
  have hS : va_S A s.heap s.heap [] := va_S.rf
  have hl := lv_entry ([.ref (ad a)]) (n := 1) (Nat.le_of_ble_eq_true rfl)
  rw [lg_entry_eq]
  generalize (lg_sl ([.ref (ad a)]) ++ List.replicate (1 - (lg_sl ([.ref (ad a)])).length) Slot.unset).toArray = ls at hl ⊢
  have hl : lv_has ls 1 [(0, .ref (ad a))] := hl
  unfold FX11_take at hF
  refine lv_aload_n hx hb dX11_take_0 rfl (lv_at hl 0 rfl) ?_
  refine va_get (D := D) (ci := 11) (v := va_re ad (M.2 a 2)) (C := RX11) (T := TX11) (N := 5) hx hb hts (mus hf_X11) hown hK hP a (wld_o ct ad G M hc hk (by decide)) rfl 2 (by decide) (hts (.fieldLink RX11 17 "VideoSuite" "units" "LVideoSuite$Units;") (mu mw_884)) (fun _ h9 => h9) rfl dX11_take_1 ?_
  refine lv_iconst (v := (0 : Int32)) hx hb dX11_take_4 (by decide) ?_
  obtain ⟨b2, ho2, hc2, hk2, hF⟩ := dr_some hF
  refine W_st (st' := [.int (0 : Int32), .ref (ad b2)]) (by rw [va_some ho2]) ?_
  refine va_put (D := D) (ci := 8) (v := .int (0 : Int32)) (ty := .int) (C := RX8) (T := TX8) (N := 15) hx hb hts (mus hf_X8) tyX8 tyX8_ok nmX8 hown hK hP hD hS b2 (wld_o ct ad G M hc2 hk2 (by decide)) rfl 7 (by decide) (hts (.fieldLink RX11 58 "VideoSuite$Units" "found" "I") (mu mw_223)) (fun _ h9 => h9) rfl (by decide +kernel) rfl rfl (Nat.le_of_ble_eq_true rfl) dX11_take_5 (fun H locs hP hD hS => ?_)
  obtain ⟨M3, eM3, hF⟩ := ltt_some hF
  rw [set_oI ct ad G M hc2 hk2 (by decide) (by rfl), ← eM3] at hP hD
  refine lv_aload_n hx hb dX11_take_8 rfl (lv_at hl 0 rfl) ?_
  refine va_get (D := D) (ci := 11) (v := va_re ad (M3.2 a 4)) (C := RX11) (T := TX11) (N := 5) hx hb hts (mus hf_X11) hown hK hP a (wld_o ct ad G M3 hc hk (by decide)) rfl 4 (by decide) (hts (.fieldLink RX11 31 "VideoSuite" "coder" "LVideoSuite$Coder;") (mu mw_886)) (fun _ h9 => h9) rfl dX11_take_9 ?_
  obtain ⟨b4, ho4, hc4, hk4, hF⟩ := dr_some hF
  refine W_st (st' := [.ref (ad b4)]) (by rw [va_some ho4]) ?_
  refine va_get (D := D) (ci := 0) (v := va_re ad (M3.2 b4 2)) (C := RX0) (T := TX0) (N := 21) hx hb hts (mus hf_X0) hown hK hP b4 (wld_o ct ad G M3 hc4 hk4 (by decide)) rfl 2 (by decide) (hts (.fieldLink RX11 373 "VideoSuite$Coder" "writer" "LVideoSuite$Writer;") (mu mw_816)) (fun _ h9 => h9) rfl dX11_take_12 ?_
  obtain ⟨b5, ho5, hc5, hk5, hF⟩ := dr_some hF
  refine W_st (st' := [.ref (ad b5)]) (by rw [va_some ho5]) ?_
  refine va_get (D := D) (ci := 10) (v := .int (M3.1 b5 1)) (C := RX10) (T := TX10) (N := 20) hx hb hts (mus hf_X10) hown hK hP b5 (wld_o ct ad G M3 hc5 hk5 (by decide)) rfl 1 (by decide) (hts (.fieldLink RX11 377 "VideoSuite$Writer" "length" "I") (mu mw_739)) (fun _ h9 => h9) rfl dX11_take_15 ?_
  obtain ⟨x6, ex6, hF⟩ := ltt_some hF
  refine lv_topi (fun zx6 ezx6 => ?_)
  obtain rfl : x6 = zx6 := ex6.trans ezx6.symm
  refine lv_ldc (v := (65536 : Int32)) hx hb hown (hts (.constant RX11 9 (65536 : Int32)) (mu mw_204)) dX11_take_18 ?_
  obtain ⟨y7, hy7, hF⟩ := bnd_some hF
  have J7 : ∀ (H : Heap) (locs : List Loc) (ls : Array Slot), va_P D classes (wld ct ad G M3) H → va_D A (wld ct ad G M3) → va_S A s.heap H locs → lv_has ls 1 [(0, .ref (ad a))] → W p l e (headSpec wuX11_take ({ frames := 3, cells := 0, slots := 0, locals := 125 })).room s m ([.ref (ad a)] : List Value).toArray below meth c H locs 0 0 (MQ below (va_Qi (fun (q : Int32) (_ : Unit) => q = y.2) (fun _ t => kE D ct ad G A y.1 t) A) ([.ref (ad a)] : List Value).toArray s 0 0 A) (F0 m 23 ls []) := by
    intro H locs ls hP hD hS hl
    refine lv_aload_n hx hb dX11_take_23 rfl (lv_at hl 0 rfl) ?_
    refine va_get (D := D) (ci := 11) (v := va_re ad (M3.2 a 2)) (C := RX11) (T := TX11) (N := 5) hx hb hts (mus hf_X11) hown hK hP a (wld_o ct ad G M3 hc hk (by decide)) rfl 2 (by decide) (hts (.fieldLink RX11 17 "VideoSuite" "units" "LVideoSuite$Units;") (mu mw_884)) (fun _ h9 => h9) rfl dX11_take_24 ?_
    refine lv_aload_n hx hb dX11_take_27 rfl (lv_at hl 0 rfl) ?_
    refine va_get (D := D) (ci := 11) (v := va_re ad (M3.2 a 4)) (C := RX11) (T := TX11) (N := 5) hx hb hts (mus hf_X11) hown hK hP a (wld_o ct ad G M3 hc hk (by decide)) rfl 4 (by decide) (hts (.fieldLink RX11 31 "VideoSuite" "coder" "LVideoSuite$Coder;") (mu mw_886)) (fun _ h9 => h9) rfl dX11_take_28 ?_
    refine W_st (st' := [.ref (ad b4), va_re ad (M3.2 a 2)]) (by rw [va_some ho4]) ?_
    refine va_get (D := D) (ci := 0) (v := va_re ad (M3.2 b4 2)) (C := RX0) (T := TX0) (N := 21) hx hb hts (mus hf_X0) hown hK hP b4 (wld_o ct ad G M3 hc4 hk4 (by decide)) rfl 2 (by decide) (hts (.fieldLink RX11 373 "VideoSuite$Coder" "writer" "LVideoSuite$Writer;") (mu mw_816)) (fun _ h9 => h9) rfl dX11_take_31 ?_
    refine W_st (st' := [.ref (ad b5), va_re ad (M3.2 a 2)]) (by rw [va_some ho5]) ?_
    refine va_get (D := D) (ci := 10) (v := va_re ad (M3.2 b5 0)) (C := RX10) (T := TX10) (N := 20) hx hb hts (mus hf_X10) hown hK hP b5 (wld_o ct ad G M3 hc5 hk5 (by decide)) rfl 0 (by decide) (hts (.fieldLink RX11 382 "VideoSuite$Writer" "made" "[B") (mu mw_736)) (fun _ h9 => h9) rfl dX11_take_34 ?_
    refine lv_aload_n hx hb dX11_take_37 rfl (lv_at hl 0 rfl) ?_
    refine va_get (D := D) (ci := 11) (v := va_re ad (M3.2 a 4)) (C := RX11) (T := TX11) (N := 5) hx hb hts (mus hf_X11) hown hK hP a (wld_o ct ad G M3 hc hk (by decide)) rfl 4 (by decide) (hts (.fieldLink RX11 31 "VideoSuite" "coder" "LVideoSuite$Coder;") (mu mw_886)) (fun _ h9 => h9) rfl dX11_take_38 ?_
    refine W_st (st' := [.ref (ad b4), va_re ad (M3.2 b5 0), va_re ad (M3.2 a 2)]) (by rw [va_some ho4]) ?_
    refine va_get (D := D) (ci := 0) (v := va_re ad (M3.2 b4 2)) (C := RX0) (T := TX0) (N := 21) hx hb hts (mus hf_X0) hown hK hP b4 (wld_o ct ad G M3 hc4 hk4 (by decide)) rfl 2 (by decide) (hts (.fieldLink RX11 373 "VideoSuite$Coder" "writer" "LVideoSuite$Writer;") (mu mw_816)) (fun _ h9 => h9) rfl dX11_take_41 ?_
    refine W_st (st' := [.ref (ad b5), va_re ad (M3.2 b5 0), va_re ad (M3.2 a 2)]) (by rw [va_some ho5]) ?_
    refine va_get (D := D) (ci := 10) (v := .int (M3.1 b5 1)) (C := RX10) (T := TX10) (N := 20) hx hb hts (mus hf_X10) hown hK hP b5 (wld_o ct ad G M3 hc5 hk5 (by decide)) rfl 1 (by decide) (hts (.fieldLink RX11 377 "VideoSuite$Writer" "length" "I") (mu mw_739)) (fun _ h9 => h9) rfl dX11_take_44 ?_
    obtain ⟨x8, ex8, hF⟩ := ltt_some hF
    refine lv_topi (fun zx8 ezx8 => ?_)
    obtain rfl : x8 = zx8 := ex8.trans ezx8.symm
    obtain ⟨b9, ho9, hc9, hk9, hF⟩ := dr_some hF
    refine W_st (st' := [.int x8, va_re ad (M3.2 b5 0), .ref (ad b9)]) (by rw [va_some ho9]) ?_
    obtain ⟨y10, hy10, hF⟩ := bnd_some hF
    have hf9 := wA_in hD hA9 hS
    refine va_calli (va_runV (As := [va_re ad (M3.2 b5 0), .int x8]) (rest := []) ⟨hx, hb, hml, hown, hts⟩ (kX8_cutByMarks l D ct ad Z G M3 H.size b9 ((M3.2 b5 0)) x8 y10 hc9 hk9 hy10) (cwV 2 hts gX11_take_X8_cutByMarks rfl rfl rfl (by decide +kernel) ⟨Nat.le_of_ble_eq_true rfl, Nat.le_of_ble_eq_true rfl⟩) ⟨fun a U g mk q => by obtain ⟨q0, q1, qP, qK, qD, qZ, qN⟩ := q; exact ⟨q0, q1, qP, va_K.moved (u := U) (U := U.calling g mk a) (Vm.Alike.refl U.vm) qK, qD, sF.moved (u := U) (U := U.calling g mk a) (Vm.Alike.refl U.vm) qZ, nF.same rfl qN⟩, va_recv hK hP (ci := 8) (q0 := b9) rfl (wld_o ct ad G M3 hc9 hk9 (by decide)), fun U hU hW => ⟨rfl, by rw [hU], by rw [hU]; exact hP, va_K.moved hW.alike hK, hD.weaken (fun _ _ _ _ => trivial), by rw [hU]; exact ((hZ.kept hS.2.1).narrow hf9).moved hW.alike, hN.warm hW⟩⟩ rfl rfl hl.1 rfl (lv_room (Nat.le_of_ble_eq_true rfl)) dX11_take_47 ⟨(Nat.zero_le _), (Nat.zero_le _)⟩) hS (fun q _ h => hf9 q h) hf9 (fun r u t H locs ht hvm hw hB hz1 hk1 hS => ?_)
    obtain ⟨hP, hK9, hD9⟩ := hB
    rw [ht] at hP
    try dsimp only at hw
    subst hw
    have hD := hD9.weaken (fun _ q _ h => hf9 q.1 h)
    obtain ⟨y11, hy11, hF⟩ := bnd_some hF
    have J11 : ∀ (H : Heap) (locs : List Loc) (ls : Array Slot), va_P D classes (wld ct ad G y10.1) H → va_D A (wld ct ad G y10.1) → va_S A s.heap H locs → lv_has ls 1 [(0, .ref (ad a))] → W p l e (headSpec wuX11_take ({ frames := 3, cells := 0, slots := 0, locals := 125 })).room s m ([.ref (ad a)] : List Value).toArray below meth c H locs 0 0 (MQ below (va_Qi (fun (q : Int32) (_ : Unit) => q = y.2) (fun _ t => kE D ct ad G A y.1 t) A) ([.ref (ad a)] : List Value).toArray s 0 0 A) (F0 m 64 ls []) := by
      intro H locs ls hP hD hS hl
      refine lv_aload_n hx hb dX11_take_64 rfl (lv_at hl 0 rfl) ?_
      refine lv_aload_n hx hb dX11_take_65 rfl (lv_at hl 0 rfl) ?_
      refine va_get (D := D) (ci := 11) (v := va_re ad (y10.1.2 a 4)) (C := RX11) (T := TX11) (N := 5) hx hb hts (mus hf_X11) hown hK hP a (wld_o ct ad G y10.1 hc hk (by decide)) rfl 4 (by decide) (hts (.fieldLink RX11 31 "VideoSuite" "coder" "LVideoSuite$Coder;") (mu mw_886)) (fun _ h9 => h9) rfl dX11_take_66 ?_
      obtain ⟨b12, ho12, hc12, hk12, hF⟩ := dr_some hF
      refine W_st (st' := [.ref (ad b12), .ref (ad a)]) (by rw [va_some ho12]) ?_
      refine va_get (D := D) (ci := 0) (v := va_re ad (y10.1.2 b12 2)) (C := RX0) (T := TX0) (N := 21) hx hb hts (mus hf_X0) hown hK hP b12 (wld_o ct ad G y10.1 hc12 hk12 (by decide)) rfl 2 (by decide) (hts (.fieldLink RX11 373 "VideoSuite$Coder" "writer" "LVideoSuite$Writer;") (mu mw_816)) (fun _ h9 => h9) rfl dX11_take_69 ?_
      obtain ⟨b13, ho13, hc13, hk13, hF⟩ := dr_some hF
      refine W_st (st' := [.ref (ad b13), .ref (ad a)]) (by rw [va_some ho13]) ?_
      refine va_get (D := D) (ci := 10) (v := va_re ad (y10.1.2 b13 0)) (C := RX10) (T := TX10) (N := 20) hx hb hts (mus hf_X10) hown hK hP b13 (wld_o ct ad G y10.1 hc13 hk13 (by decide)) rfl 0 (by decide) (hts (.fieldLink RX11 382 "VideoSuite$Writer" "made" "[B") (mu mw_736)) (fun _ h9 => h9) rfl dX11_take_72 ?_
      obtain ⟨y14, hy14, hF⟩ := bnd_some hF
      have hf9 := wA_in hD hA9 hS
      refine va_calli (va_runV (As := [va_re ad (y10.1.2 b13 0)]) (rest := []) ⟨hx, hb, hml, hown, hts⟩ (kX11_adopt l D ct ad Z G y10.1 H.size a ((y10.1.2 b13 0)) y14 hc hk hy14) (cwV 1 hts gX11_take_X11_adopt rfl rfl rfl (by decide +kernel) ⟨Nat.le_of_ble_eq_true rfl, Nat.le_of_ble_eq_true rfl⟩) ⟨fun a U g mk q => by obtain ⟨q0, q1, qP, qK, qD, qZ, qN⟩ := q; exact ⟨q0, q1, qP, va_K.moved (u := U) (U := U.calling g mk a) (Vm.Alike.refl U.vm) qK, qD, sF.moved (u := U) (U := U.calling g mk a) (Vm.Alike.refl U.vm) qZ, nF.same rfl qN⟩, va_recv hK hP (ci := 11) (q0 := a) rfl (wld_o ct ad G y10.1 hc hk (by decide)), fun U hU hW => ⟨rfl, by rw [hU], by rw [hU]; exact hP, va_K.moved hW.alike hK, hD.weaken (fun _ _ _ _ => trivial), by rw [hU]; exact ((hZ.kept hS.2.1).narrow hf9).moved hW.alike, hN.warm hW⟩⟩ rfl rfl hl.1 rfl (lv_room (Nat.le_of_ble_eq_true rfl)) dX11_take_75 ⟨(Nat.zero_le _), (Nat.zero_le _)⟩) hS (fun q _ h => hf9 q h) hf9 (fun r u t H locs ht hvm hw hB hz1 hk1 hS => ?_)
      obtain ⟨hP, hK9, hD9⟩ := hB
      rw [ht] at hP
      try dsimp only at hw
      subst hw
      have hD := hD9.weaken (fun _ q _ h => hf9 q.1 h)
      obtain rfl := Option.some.inj hF
      exact W.iret (v := y14.2) hx hb hr (fun t ht hW => ⟨⟨_, (), rfl, rfl, ⟨by rw [ht]; exact hP, va_K.moved hW.alike hK, hD⟩⟩, hS.F ht⟩) hS.2.2 dX11_take_78
    clear hF
    have hF := hy11
    clear hy11
    refine lv_if_ne (tgt := 64) hx hb dX11_take_50 (by decide) (fun c15 => ?_) (fun c15 => ?_)
    · rw [if_neg c15] at hF
      obtain rfl := Option.some.inj hF
      exact J11 _ _ _ hP hD hS (lv_sub hl [0] rfl)
    · rw [if_pos c15] at hF
      cases hF
  clear hF
  have hF := hy7
  clear hy7
  refine lv_icmp_gt (tgt := 53) hx hb dX11_take_20 (by decide) (fun c16 => ?_) (fun c16 => ?_)
  · rw [if_pos c16] at hF
    cases hF
  · rw [if_neg c16] at hF
    obtain rfl := Option.some.inj hF
    exact J7 _ _ _ hP hD hS (lv_sub hl [0] rfl)
set_option maxRecDepth 20000 in
theorem gX1_beginSlice_X7_makeLists : GoodIn wuX1_beginSlice (wsV RX1 314 RX7 yX7_makeLists wuX7_makeLists) := gu_V mw_1808 mw_1809 mw_1810 mw_170 mw_1811
set_option maxRecDepth 20000 in
set_option maxRecDepth 20000 in
theorem gX1_beginSlice_X7_moveList : GoodIn wuX1_beginSlice (wsV RX1 318 RX7 yX7_moveList wuX7_moveList) := gu_V mw_1826 mw_1827 mw_1828 mw_170 mw_1829
set_option maxRecDepth 20000 in
set_option maxRecDepth 20000 in
theorem gX1_beginSlice_X9_noteEntries : GoodIn wuX1_beginSlice (wsV RX1 322 RX9 yX9_noteEntries wuX9_noteEntries) := gu_V mw_1841 mw_1842 mw_1843 mw_171 mw_1844
set_option maxRecDepth 20000 in
theorem dX1_beginSlice_0 : decode cX1_beginSlice 0 = .ok (.aload_n 0, 1) := by decide +kernel
theorem dX1_beginSlice_1 : decode cX1_beginSlice 1 = .ok (.getfield 68, 3) := by decide +kernel
theorem dX1_beginSlice_4 : decode cX1_beginSlice 4 = .ok (.astore_n 1, 1) := by decide +kernel
theorem dX1_beginSlice_5 : decode cX1_beginSlice 5 = .ok (.aload_n 0, 1) := by decide +kernel
theorem dX1_beginSlice_6 : decode cX1_beginSlice 6 = .ok (.aload_n 0, 1) := by decide +kernel
theorem dX1_beginSlice_7 : decode cX1_beginSlice 7 = .ok (.getfield 72, 3) := by decide +kernel
theorem dX1_beginSlice_10 : decode cX1_beginSlice 10 = .ok (.putfield 68, 3) := by decide +kernel
theorem dX1_beginSlice_13 : decode cX1_beginSlice 13 = .ok (.aload_n 0, 1) := by decide +kernel
theorem dX1_beginSlice_14 : decode cX1_beginSlice 14 = .ok (.aload_n 1, 1) := by decide +kernel
theorem dX1_beginSlice_15 : decode cX1_beginSlice 15 = .ok (.putfield 72, 3) := by decide +kernel
theorem dX1_beginSlice_18 : decode cX1_beginSlice 18 = .ok (.aload_n 0, 1) := by decide +kernel
theorem dX1_beginSlice_19 : decode cX1_beginSlice 19 = .ok (.dup, 1) := by decide +kernel
theorem dX1_beginSlice_20 : decode cX1_beginSlice 20 = .ok (.getfield 106, 3) := by decide +kernel
theorem dX1_beginSlice_23 : decode cX1_beginSlice 23 = .ok (.iconst 1, 1) := by decide +kernel
theorem dX1_beginSlice_24 : decode cX1_beginSlice 24 = .ok (.iadd, 1) := by decide +kernel
theorem dX1_beginSlice_25 : decode cX1_beginSlice 25 = .ok (.putfield 106, 3) := by decide +kernel
theorem dX1_beginSlice_28 : decode cX1_beginSlice 28 = .ok (.aload_n 0, 1) := by decide +kernel
theorem dX1_beginSlice_29 : decode cX1_beginSlice 29 = .ok (.getfield 72, 3) := by decide +kernel
theorem dX1_beginSlice_32 : decode cX1_beginSlice 32 = .ok (.getfield 212, 3) := by decide +kernel
theorem dX1_beginSlice_35 : decode cX1_beginSlice 35 = .ok (.astore_n 2, 1) := by decide +kernel
theorem dX1_beginSlice_36 : decode cX1_beginSlice 36 = .ok (.aload_n 2, 1) := by decide +kernel
theorem dX1_beginSlice_37 : decode cX1_beginSlice 37 = .ok (.bipush 16, 2) := by decide +kernel
theorem dX1_beginSlice_39 : decode cX1_beginSlice 39 = .ok (.iconst 0, 1) := by decide +kernel
theorem dX1_beginSlice_40 : decode cX1_beginSlice 40 = .ok (.iastore, 1) := by decide +kernel
theorem dX1_beginSlice_41 : decode cX1_beginSlice 41 = .ok (.aload_n 2, 1) := by decide +kernel
theorem dX1_beginSlice_42 : decode cX1_beginSlice 42 = .ok (.bipush 17, 2) := by decide +kernel
theorem dX1_beginSlice_44 : decode cX1_beginSlice 44 = .ok (.aload_n 0, 1) := by decide +kernel
theorem dX1_beginSlice_45 : decode cX1_beginSlice 45 = .ok (.getfield 28, 3) := by decide +kernel
theorem dX1_beginSlice_48 : decode cX1_beginSlice 48 = .ok (.getfield 84, 3) := by decide +kernel
theorem dX1_beginSlice_51 : decode cX1_beginSlice 51 = .ok (.getfield 285, 3) := by decide +kernel
theorem dX1_beginSlice_54 : decode cX1_beginSlice 54 = .ok (.iastore, 1) := by decide +kernel
theorem dX1_beginSlice_55 : decode cX1_beginSlice 55 = .ok (.aload_n 0, 1) := by decide +kernel
theorem dX1_beginSlice_56 : decode cX1_beginSlice 56 = .ok (.getfield 28, 3) := by decide +kernel
theorem dX1_beginSlice_59 : decode cX1_beginSlice 59 = .ok (.aload_n 0, 1) := by decide +kernel
theorem dX1_beginSlice_60 : decode cX1_beginSlice 60 = .ok (.getfield 72, 3) := by decide +kernel
theorem dX1_beginSlice_63 : decode cX1_beginSlice 63 = .ok (.putfield 307, 3) := by decide +kernel
theorem dX1_beginSlice_66 : decode cX1_beginSlice 66 = .ok (.aload_n 0, 1) := by decide +kernel
theorem dX1_beginSlice_67 : decode cX1_beginSlice 67 = .ok (.getfield 28, 3) := by decide +kernel
theorem dX1_beginSlice_70 : decode cX1_beginSlice 70 = .ok (.aload_n 0, 1) := by decide +kernel
theorem dX1_beginSlice_71 : decode cX1_beginSlice 71 = .ok (.getfield 51, 3) := by decide +kernel
theorem dX1_beginSlice_74 : decode cX1_beginSlice 74 = .ok (.aload_n 2, 1) := by decide +kernel
theorem dX1_beginSlice_75 : decode cX1_beginSlice 75 = .ok (.iconst 2, 1) := by decide +kernel
theorem dX1_beginSlice_76 : decode cX1_beginSlice 76 = .ok (.iaload, 1) := by decide +kernel
theorem dX1_beginSlice_77 : decode cX1_beginSlice 77 = .ok (.aaload, 1) := by decide +kernel
theorem dX1_beginSlice_78 : decode cX1_beginSlice 78 = .ok (.putfield 308, 3) := by decide +kernel
theorem dX1_beginSlice_81 : decode cX1_beginSlice 81 = .ok (.aload_n 0, 1) := by decide +kernel
theorem dX1_beginSlice_82 : decode cX1_beginSlice 82 = .ok (.getfield 28, 3) := by decide +kernel
theorem dX1_beginSlice_85 : decode cX1_beginSlice 85 = .ok (.dup, 1) := by decide +kernel
theorem dX1_beginSlice_86 : decode cX1_beginSlice 86 = .ok (.getfield 311, 3) := by decide +kernel
theorem dX1_beginSlice_89 : decode cX1_beginSlice 89 = .ok (.iconst 1, 1) := by decide +kernel
theorem dX1_beginSlice_90 : decode cX1_beginSlice 90 = .ok (.iadd, 1) := by decide +kernel
theorem dX1_beginSlice_91 : decode cX1_beginSlice 91 = .ok (.putfield 311, 3) := by decide +kernel
theorem dX1_beginSlice_94 : decode cX1_beginSlice 94 = .ok (.iconst 1, 1) := by decide +kernel
theorem dX1_beginSlice_95 : decode cX1_beginSlice 95 = .ok (.aload_n 0, 1) := by decide +kernel
theorem dX1_beginSlice_96 : decode cX1_beginSlice 96 = .ok (.getfield 54, 3) := by decide +kernel
theorem dX1_beginSlice_99 : decode cX1_beginSlice 99 = .ok (.iconst 2, 1) := by decide +kernel
theorem dX1_beginSlice_100 : decode cX1_beginSlice 100 = .ok (.iaload, 1) := by decide +kernel
theorem dX1_beginSlice_101 : decode cX1_beginSlice 101 = .ok (.ishl, 1) := by decide +kernel
theorem dX1_beginSlice_102 : decode cX1_beginSlice 102 = .ok (.istore_n 3, 1) := by decide +kernel
theorem dX1_beginSlice_103 : decode cX1_beginSlice 103 = .ok (.aload_n 0, 1) := by decide +kernel
theorem dX1_beginSlice_104 : decode cX1_beginSlice 104 = .ok (.getfield 21, 3) := by decide +kernel
theorem dX1_beginSlice_107 : decode cX1_beginSlice 107 = .ok (.aload_n 0, 1) := by decide +kernel
theorem dX1_beginSlice_108 : decode cX1_beginSlice 108 = .ok (.getfield 28, 3) := by decide +kernel
theorem dX1_beginSlice_111 : decode cX1_beginSlice 111 = .ok (.iload_n 3, 1) := by decide +kernel
theorem dX1_beginSlice_112 : decode cX1_beginSlice 112 = .ok (.invokevirtual 314, 3) := by decide +kernel
theorem dX1_beginSlice_115 : decode cX1_beginSlice 115 = .ok (.aload_n 0, 1) := by decide +kernel
theorem dX1_beginSlice_116 : decode cX1_beginSlice 116 = .ok (.getfield 21, 3) := by decide +kernel
theorem dX1_beginSlice_119 : decode cX1_beginSlice 119 = .ok (.aload_n 0, 1) := by decide +kernel
theorem dX1_beginSlice_120 : decode cX1_beginSlice 120 = .ok (.getfield 28, 3) := by decide +kernel
theorem dX1_beginSlice_123 : decode cX1_beginSlice 123 = .ok (.iconst 0, 1) := by decide +kernel
theorem dX1_beginSlice_124 : decode cX1_beginSlice 124 = .ok (.iload_n 3, 1) := by decide +kernel
theorem dX1_beginSlice_125 : decode cX1_beginSlice 125 = .ok (.invokevirtual 318, 3) := by decide +kernel
theorem dX1_beginSlice_128 : decode cX1_beginSlice 128 = .ok (.ifCond .eq 23, 3) := by decide +kernel
theorem dX1_beginSlice_131 : decode cX1_beginSlice 131 = .ok (.aload_n 0, 1) := by decide +kernel
theorem dX1_beginSlice_132 : decode cX1_beginSlice 132 = .ok (.getfield 21, 3) := by decide +kernel
theorem dX1_beginSlice_135 : decode cX1_beginSlice 135 = .ok (.aload_n 0, 1) := by decide +kernel
theorem dX1_beginSlice_136 : decode cX1_beginSlice 136 = .ok (.getfield 28, 3) := by decide +kernel
theorem dX1_beginSlice_139 : decode cX1_beginSlice 139 = .ok (.iconst 1, 1) := by decide +kernel
theorem dX1_beginSlice_140 : decode cX1_beginSlice 140 = .ok (.iload_n 3, 1) := by decide +kernel
theorem dX1_beginSlice_141 : decode cX1_beginSlice 141 = .ok (.invokevirtual 318, 3) := by decide +kernel
theorem dX1_beginSlice_144 : decode cX1_beginSlice 144 = .ok (.ifCond .eq 7, 3) := by decide +kernel
theorem dX1_beginSlice_147 : decode cX1_beginSlice 147 = .ok (.iconst 1, 1) := by decide +kernel
theorem dX1_beginSlice_148 : decode cX1_beginSlice 148 = .ok (.goto 4, 3) := by decide +kernel
theorem dX1_beginSlice_151 : decode cX1_beginSlice 151 = .ok (.iconst 0, 1) := by decide +kernel
theorem dX1_beginSlice_152 : decode cX1_beginSlice 152 = .ok (.istore 4, 2) := by decide +kernel
theorem dX1_beginSlice_154 : decode cX1_beginSlice 154 = .ok (.aload_n 0, 1) := by decide +kernel
theorem dX1_beginSlice_155 : decode cX1_beginSlice 155 = .ok (.getfield 28, 3) := by decide +kernel
theorem dX1_beginSlice_158 : decode cX1_beginSlice 158 = .ok (.invokevirtual 322, 3) := by decide +kernel
theorem dX1_beginSlice_161 : decode cX1_beginSlice 161 = .ok (.iload 4, 2) := by decide +kernel
theorem dX1_beginSlice_163 : decode cX1_beginSlice 163 = .ok (.ifCond .ne 11, 3) := by decide +kernel
theorem dX1_beginSlice_166 : decode cX1_beginSlice 166 = .ok (.aload_n 0, 1) := by decide +kernel
theorem dX1_beginSlice_167 : decode cX1_beginSlice 167 = .ok (.getfield 12, 3) := by decide +kernel
theorem dX1_beginSlice_170 : decode cX1_beginSlice 170 = .ok (.iconst 4, 1) := by decide +kernel
theorem dX1_beginSlice_171 : decode cX1_beginSlice 171 = .ok (.invokevirtual 325, 3) := by decide +kernel
theorem dX1_beginSlice_174 : decode cX1_beginSlice 174 = .ok (.return_, 1) := by decide +kernel
def FX1_beginSlice (G : GG) (M : DD) (a : Nat)  : Option (DD) :=
  ltt (uP M a 10 ((M.2 a 11))) fun M1 =>
  ltt (uP M1 a 11 ((M.2 a 10))) fun M2 =>
  ltt (M2.1 a 15) fun x3 =>
  ltt ((x3 + ((1 : Int32)))) fun x4 =>
  ltt (uI M2 a 15 x4) fun M5 =>
  dr G 3 ((M5.2 a 11)) fun b6 =>
  dr G 13 ((M5.2 b6 0)) fun b7 =>
  chk (¬ (((16 : Int32)) < 0 ∨ G.2.2 b7 ≤ ((16 : Int32)).toNatClampNeg)) <|
  ltt (uI M5 b7 ((16 : Int32)).toNatClampNeg ((0 : Int32))) fun M8 =>
  dr G 9 ((M8.2 a 2)) fun b9 =>
  dr G 4 ((M8.2 b9 0)) fun b10 =>
  ltt (M8.1 b10 9) fun x11 =>
  chk (¬ (((17 : Int32)) < 0 ∨ G.2.2 b7 ≤ ((17 : Int32)).toNatClampNeg)) <|
  ltt (uI M8 b7 ((17 : Int32)).toNatClampNeg x11) fun M12 =>
  dr G 9 ((M12.2 a 2)) fun b13 =>
  ltt (uP M12 b13 1 ((M12.2 a 11))) fun M14 =>
  chk (¬ (((2 : Int32)) < 0 ∨ G.2.2 b7 ≤ ((2 : Int32)).toNatClampNeg)) <|
  ltt (M14.1 b7 ((2 : Int32)).toNatClampNeg) fun x15 =>
  dr G 15 ((M14.2 a 6)) fun b16 =>
  chk (¬ (x15 < 0 ∨ G.2.2 b16 ≤ x15.toNatClampNeg)) <|
  dr G 9 ((M14.2 a 2)) fun b17 =>
  ltt (uP M14 b17 2 ((M14.2 b16 x15.toNatClampNeg))) fun M18 =>
  dr G 9 ((M18.2 a 2)) fun b19 =>
  ltt (M18.1 b19 11) fun x20 =>
  ltt ((x20 + ((1 : Int32)))) fun x21 =>
  ltt (uI M18 b19 11 x21) fun M22 =>
  dr G 13 ((M22.2 a 7)) fun b23 =>
  chk (¬ (((2 : Int32)) < 0 ∨ G.2.2 b23 ≤ ((2 : Int32)).toNatClampNeg)) <|
  ltt (M22.1 b23 ((2 : Int32)).toNatClampNeg) fun x24 =>
  ltt ((((1 : Int32)) <<< (x24 &&& 31))) fun x25 =>
  dr G 7 ((M22.2 a 1)) fun b26 =>
  bnd (FX7_makeLists G M22 b26 ((M22.2 a 2)) x25) fun y27 =>
  dr G 7 ((y27.2 a 1)) fun b28 =>
  bnd (FX7_moveList G y27 b28 ((y27.2 a 2)) ((0 : Int32)) x25) fun y29 =>
  bnd (if y29.2 = ((0 : Int32)) then (some ((0 : Int32), y29.1)) else
  (dr G 7 ((y29.1.2 a 1)) fun b36 =>
  bnd (FX7_moveList G y29.1 b36 ((y29.1.2 a 2)) ((1 : Int32)) x25) fun y37 =>
  bnd (if y37.2 = ((0 : Int32)) then (some ((0 : Int32))) else
  (some ((1 : Int32)))) fun (y38 : Int32) =>
  some (y38, y37.1))) fun (y30 : Int32 × DD) =>
  dr G 9 ((y30.2.2 a 2)) fun b31 =>
  bnd (FX9_noteEntries G y30.2 b31) fun y32 =>
  bnd (if y30.1 = ((0 : Int32)) then (none) else
  (some (y32))) fun (y33 : DD) =>
  some y33
set_option maxHeartbeats 4000000 in
set_option maxRecDepth 100000 in
theorem kX1_beginSlice (l : Launch) (D : va_G) (ct : CT) (ad : Nat → Nat) (Z : Nat → Nat) (G : GG) (M : DD) (sz : Nat) (a : Nat)  (y : DD) (hc : a < G.1) (hk : G.2.1 a = 1) (hF : FX1_beginSlice G M a  = some y) : Met l yX1_beginSlice wuX1_beginSlice ({ frames := 4, cells := 0, slots := 0, locals := 105 }) (va_Pc [.ref (ad a)] (kB D ct ad Z G M sz)) (va_Qv (fun (_ : Unit) => True) (fun _ t => kE D ct ad G (wA ad G sz) y t) (wA ad G sz)) 0 0 (wA ad G sz) := by
  refine Met.ofW (cc := cX1_beginSlice) (maxL := 5) (ret := none) (by decide) rfl ?_
  intro p e s m args below meth c s₁ B hml hv
  obtain ⟨rfl, hsz, hP, hK, hD0, hZ, hN⟩ := hv
  have hx := B.exec
  have hb := B.bytes
  have hr := B.returns
  have hts := atoms_spec (ws := wuX1_beginSlice) B.pre
  have hown : s.vm.findClass RX1 = some m.cls := findClass_of_methodNamed B.named
  have hlocks := B.notSynchronized
  subst hsz
  have hD := wD_self (sz := s.heap.size) hD0
  have hA9 : ∀ q, s.heap.size ≤ q → wA ad G s.heap.size q := fun q h => Or.inr h
  generalize hAe : wA ad G s.heap.size = A at hD hA9 hZ ⊢
  have hS : va_S A s.heap s.heap [] := va_S.rf
  have hl := lv_entry ([.ref (ad a)]) (n := 5) (Nat.le_of_ble_eq_true rfl)
  rw [lg_entry_eq]
  generalize (lg_sl ([.ref (ad a)]) ++ List.replicate (5 - (lg_sl ([.ref (ad a)])).length) Slot.unset).toArray = ls at hl ⊢
  have hl : lv_has ls 5 [(0, .ref (ad a))] := hl
  unfold FX1_beginSlice at hF
  refine lv_aload_n hx hb dX1_beginSlice_0 rfl (lv_at hl 0 rfl) ?_
  refine va_get (D := D) (ci := 1) (v := va_re ad (M.2 a 10)) (C := RX1) (T := TX1) (N := 22) hx hb hts (mus hf_X1) hown hK hP a (wld_o ct ad G M hc hk (by decide)) rfl 10 (by decide) (hts (.fieldLink RX1 68 "VideoSuite$Decoder" "head" "LVideoSuite$Header;") (mu mw_652)) (fun _ h9 => h9) rfl dX1_beginSlice_1 ?_
  refine lv_astoreq_n (lv' := [(1, va_re ad (M.2 a 10)), (0, .ref (ad a))]) hx hb dX1_beginSlice_4 rfl hl (by decide) rfl (fun ls hl => ?_)
  refine lv_aload_n hx hb dX1_beginSlice_5 rfl (lv_at hl 1 rfl) ?_
  refine lv_aload_n hx hb dX1_beginSlice_6 rfl (lv_at hl 1 rfl) ?_
  refine va_get (D := D) (ci := 1) (v := va_re ad (M.2 a 11)) (C := RX1) (T := TX1) (N := 22) hx hb hts (mus hf_X1) hown hK hP a (wld_o ct ad G M hc hk (by decide)) rfl 11 (by decide) (hts (.fieldLink RX1 72 "VideoSuite$Decoder" "latest" "LVideoSuite$Header;") (mu mw_653)) (fun _ h9 => h9) rfl dX1_beginSlice_7 ?_
  refine va_put (D := D) (ci := 1) (v := va_re ad ((M.2 a 11))) (ty := (.object "VideoSuite$Header")) (C := RX1) (T := TX1) (N := 22) hx hb hts (mus hf_X1) tyX1 tyX1_ok nmX1 hown hK hP hD hS a (wld_o ct ad G M hc hk (by decide)) rfl 10 (by decide) (hts (.fieldLink RX1 68 "VideoSuite$Decoder" "head" "LVideoSuite$Header;") (mu mw_652)) (fun _ h9 => h9) rfl (by decide +kernel) (nar_q ad (Or.inl ⟨_, rfl⟩) ((M.2 a 11))).1 (nar_q ad (Or.inl ⟨_, rfl⟩) ((M.2 a 11))).2 (Nat.le_of_ble_eq_true rfl) dX1_beginSlice_10 (fun H locs hP hD hS => ?_)
  obtain ⟨M1, eM1, hF⟩ := ltt_some hF
  rw [set_oP ct ad G M hc hk (by decide) (by rfl), ← eM1] at hP hD
  refine lv_aload_n hx hb dX1_beginSlice_13 rfl (lv_at hl 1 rfl) ?_
  refine lv_aloadq_n hx hb dX1_beginSlice_14 rfl (lv_at hl 0 rfl) ?_
  refine va_put (D := D) (ci := 1) (v := va_re ad ((M.2 a 10))) (ty := (.object "VideoSuite$Header")) (C := RX1) (T := TX1) (N := 22) hx hb hts (mus hf_X1) tyX1 tyX1_ok nmX1 hown hK hP hD hS a (wld_o ct ad G M1 hc hk (by decide)) rfl 11 (by decide) (hts (.fieldLink RX1 72 "VideoSuite$Decoder" "latest" "LVideoSuite$Header;") (mu mw_653)) (fun _ h9 => h9) rfl (by decide +kernel) (nar_q ad (Or.inl ⟨_, rfl⟩) ((M.2 a 10))).1 (nar_q ad (Or.inl ⟨_, rfl⟩) ((M.2 a 10))).2 (Nat.le_of_ble_eq_true rfl) dX1_beginSlice_15 (fun H locs hP hD hS => ?_)
  obtain ⟨M2, eM2, hF⟩ := ltt_some hF
  rw [set_oP ct ad G M1 hc hk (by decide) (by rfl), ← eM2] at hP hD
  refine lv_aload_n hx hb dX1_beginSlice_18 rfl (lv_at hl 1 rfl) ?_
  refine lv_dup hx hb dX1_beginSlice_19 rfl ?_
  refine va_get (D := D) (ci := 1) (v := .int (M2.1 a 15)) (C := RX1) (T := TX1) (N := 22) hx hb hts (mus hf_X1) hown hK hP a (wld_o ct ad G M2 hc hk (by decide)) rfl 15 (by decide) (hts (.fieldLink RX1 106 "VideoSuite$Decoder" "slices" "I") (mu mw_658)) (fun _ h9 => h9) rfl dX1_beginSlice_20 ?_
  obtain ⟨x3, ex3, hF⟩ := ltt_some hF
  refine lv_topi (fun zx3 ezx3 => ?_)
  obtain rfl : x3 = zx3 := ex3.trans ezx3.symm
  refine lv_iconst (v := (1 : Int32)) hx hb dX1_beginSlice_23 (by decide) ?_
  refine lv_iadd hx hb dX1_beginSlice_24 ?_
  obtain ⟨x4, ex4, hF⟩ := ltt_some hF
  refine lv_topi (fun zx4 ezx4 => ?_)
  obtain rfl : x4 = zx4 := ex4.trans ezx4.symm
  refine va_put (D := D) (ci := 1) (v := .int x4) (ty := .int) (C := RX1) (T := TX1) (N := 22) hx hb hts (mus hf_X1) tyX1 tyX1_ok nmX1 hown hK hP hD hS a (wld_o ct ad G M2 hc hk (by decide)) rfl 15 (by decide) (hts (.fieldLink RX1 106 "VideoSuite$Decoder" "slices" "I") (mu mw_658)) (fun _ h9 => h9) rfl (by decide +kernel) rfl rfl (Nat.le_of_ble_eq_true rfl) dX1_beginSlice_25 (fun H locs hP hD hS => ?_)
  obtain ⟨M5, eM5, hF⟩ := ltt_some hF
  rw [set_oI ct ad G M2 hc hk (by decide) (by rfl), ← eM5] at hP hD
  refine lv_aload_n hx hb dX1_beginSlice_28 rfl (lv_at hl 1 rfl) ?_
  refine va_get (D := D) (ci := 1) (v := va_re ad (M5.2 a 11)) (C := RX1) (T := TX1) (N := 22) hx hb hts (mus hf_X1) hown hK hP a (wld_o ct ad G M5 hc hk (by decide)) rfl 11 (by decide) (hts (.fieldLink RX1 72 "VideoSuite$Decoder" "latest" "LVideoSuite$Header;") (mu mw_653)) (fun _ h9 => h9) rfl dX1_beginSlice_29 ?_
  obtain ⟨b6, ho6, hc6, hk6, hF⟩ := dr_some hF
  refine W_st (st' := [.ref (ad b6)]) (by rw [va_some ho6]) ?_
  refine va_get (D := D) (ci := 3) (v := va_re ad (M5.2 b6 0)) (C := RX3) (T := TX3) (N := 4) hx hb hts (mus hf_X3) hown hK hP b6 (wld_o ct ad G M5 hc6 hk6 (by decide)) rfl 0 (by decide) (hts (.fieldLink RX1 212 "VideoSuite$Header" "v" "[I") (mu mw_618)) (fun _ h9 => h9) rfl dX1_beginSlice_32 ?_
  refine lv_astoreq_n (lv' := [(2, va_re ad (M5.2 b6 0)), (1, va_re ad (M.2 a 10)), (0, .ref (ad a))]) hx hb dX1_beginSlice_35 rfl hl (by decide) (by generalize ((M.2 a 10)) = o9; cases o9 <;> rfl) (fun ls hl => ?_)
  refine lv_aloadq_n hx hb dX1_beginSlice_36 rfl (lv_at hl 0 rfl) ?_
  refine lv_bipush (v := (16 : Int32)) hx hb dX1_beginSlice_37 (by decide) ?_
  refine lv_iconst (v := (0 : Int32)) hx hb dX1_beginSlice_39 (by decide) ?_
  obtain ⟨b7, ho7, hc7, hk7, hF⟩ := dr_some hF
  refine W_st (st' := [.int (0 : Int32), .int (16 : Int32), .ref (ad b7)]) (by rw [va_some ho7]) ?_
  obtain ⟨hvc, hF⟩ := chk_some hF
  refine va_iast hx hb hK hP hD hS b7 1 (wld_i ct ad G M5 hc7 hk7) rfl hvc dX1_beginSlice_40 (fun H locs hP hD hS => ?_)
  obtain ⟨M8, eM8, hF⟩ := ltt_some hF
  rw [set_i ct ad G M5 hc7 hk7, ← eM8] at hP hD
  refine lv_aloadq_n hx hb dX1_beginSlice_41 rfl (lv_at hl 0 rfl) ?_
  refine lv_bipush (v := (17 : Int32)) hx hb dX1_beginSlice_42 (by decide) ?_
  refine lv_aload_n hx hb dX1_beginSlice_44 rfl (lv_at hl 2 rfl) ?_
  refine va_get (D := D) (ci := 1) (v := va_re ad (M8.2 a 2)) (C := RX1) (T := TX1) (N := 22) hx hb hts (mus hf_X1) hown hK hP a (wld_o ct ad G M8 hc hk (by decide)) rfl 2 (by decide) (hts (.fieldLink RX1 28 "VideoSuite$Decoder" "work" "LVideoSuite$Work;") (mu mw_644)) (fun _ h9 => h9) rfl dX1_beginSlice_45 ?_
  obtain ⟨b9, ho9, hc9, hk9, hF⟩ := dr_some hF
  refine W_st (st' := [.ref (ad b9), .int (17 : Int32), va_re ad (M5.2 b6 0)]) (by rw [va_some ho9]) ?_
  refine va_get (D := D) (ci := 9) (v := va_re ad (M8.2 b9 0)) (C := RX9) (T := TX9) (N := 20) hx hb hts (mus hf_X9) hown hK hP b9 (wld_o ct ad G M8 hc9 hk9 (by decide)) rfl 0 (by decide) (hts (.fieldLink RX1 84 "VideoSuite$Work" "pic" "LVideoSuite$Picture;") (mu mw_420)) (fun _ h9 => h9) rfl dX1_beginSlice_48 ?_
  obtain ⟨b10, ho10, hc10, hk10, hF⟩ := dr_some hF
  refine W_st (st' := [.ref (ad b10), .int (17 : Int32), va_re ad (M5.2 b6 0)]) (by rw [va_some ho10]) ?_
  refine va_get (D := D) (ci := 4) (v := .int (M8.1 b10 9)) (C := RX4) (T := TX4) (N := 18) hx hb hts (mus hf_X4) hown hK hP b10 (wld_o ct ad G M8 hc10 hk10 (by decide)) rfl 9 (by decide) (hts (.fieldLink RX1 285 "VideoSuite$Picture" "order" "I") (mu mw_1457)) (fun _ h9 => h9) rfl dX1_beginSlice_51 ?_
  obtain ⟨x11, ex11, hF⟩ := ltt_some hF
  refine lv_topi (fun zx11 ezx11 => ?_)
  obtain rfl : x11 = zx11 := ex11.trans ezx11.symm
  refine W_st (st' := [.int x11, .int (17 : Int32), .ref (ad b7)]) (by rw [va_some ho7]) ?_
  obtain ⟨hvc, hF⟩ := chk_some hF
  refine va_iast hx hb hK hP hD hS b7 1 (wld_i ct ad G M8 hc7 hk7) rfl hvc dX1_beginSlice_54 (fun H locs hP hD hS => ?_)
  obtain ⟨M12, eM12, hF⟩ := ltt_some hF
  rw [set_i ct ad G M8 hc7 hk7, ← eM12] at hP hD
  refine lv_aload_n hx hb dX1_beginSlice_55 rfl (lv_at hl 2 rfl) ?_
  refine va_get (D := D) (ci := 1) (v := va_re ad (M12.2 a 2)) (C := RX1) (T := TX1) (N := 22) hx hb hts (mus hf_X1) hown hK hP a (wld_o ct ad G M12 hc hk (by decide)) rfl 2 (by decide) (hts (.fieldLink RX1 28 "VideoSuite$Decoder" "work" "LVideoSuite$Work;") (mu mw_644)) (fun _ h9 => h9) rfl dX1_beginSlice_56 ?_
  refine lv_aload_n hx hb dX1_beginSlice_59 rfl (lv_at hl 2 rfl) ?_
  refine va_get (D := D) (ci := 1) (v := va_re ad (M12.2 a 11)) (C := RX1) (T := TX1) (N := 22) hx hb hts (mus hf_X1) hown hK hP a (wld_o ct ad G M12 hc hk (by decide)) rfl 11 (by decide) (hts (.fieldLink RX1 72 "VideoSuite$Decoder" "latest" "LVideoSuite$Header;") (mu mw_653)) (fun _ h9 => h9) rfl dX1_beginSlice_60 ?_
  obtain ⟨b13, ho13, hc13, hk13, hF⟩ := dr_some hF
  refine W_st (st' := [va_re ad (M12.2 a 11), .ref (ad b13)]) (by rw [va_some ho13]) ?_
  refine va_put (D := D) (ci := 9) (v := va_re ad ((M12.2 a 11))) (ty := (.object "VideoSuite$Header")) (C := RX9) (T := TX9) (N := 20) hx hb hts (mus hf_X9) tyX9 tyX9_ok nmX9 hown hK hP hD hS b13 (wld_o ct ad G M12 hc13 hk13 (by decide)) rfl 1 (by decide) (hts (.fieldLink RX1 307 "VideoSuite$Work" "head" "LVideoSuite$Header;") (mu mw_429)) (fun _ h9 => h9) rfl (by decide +kernel) (nar_q ad (Or.inl ⟨_, rfl⟩) ((M12.2 a 11))).1 (nar_q ad (Or.inl ⟨_, rfl⟩) ((M12.2 a 11))).2 (Nat.le_of_ble_eq_true rfl) dX1_beginSlice_63 (fun H locs hP hD hS => ?_)
  obtain ⟨M14, eM14, hF⟩ := ltt_some hF
  rw [set_oP ct ad G M12 hc13 hk13 (by decide) (by rfl), ← eM14] at hP hD
  refine lv_aload_n hx hb dX1_beginSlice_66 rfl (lv_at hl 2 rfl) ?_
  refine va_get (D := D) (ci := 1) (v := va_re ad (M14.2 a 2)) (C := RX1) (T := TX1) (N := 22) hx hb hts (mus hf_X1) hown hK hP a (wld_o ct ad G M14 hc hk (by decide)) rfl 2 (by decide) (hts (.fieldLink RX1 28 "VideoSuite$Decoder" "work" "LVideoSuite$Work;") (mu mw_644)) (fun _ h9 => h9) rfl dX1_beginSlice_67 ?_
  refine lv_aload_n hx hb dX1_beginSlice_70 rfl (lv_at hl 2 rfl) ?_
  refine va_get (D := D) (ci := 1) (v := va_re ad (M14.2 a 6)) (C := RX1) (T := TX1) (N := 22) hx hb hts (mus hf_X1) hown hK hP a (wld_o ct ad G M14 hc hk (by decide)) rfl 6 (by decide) (hts (.fieldLink RX1 51 "VideoSuite$Decoder" "parameters" "[[I") (mu mw_648)) (fun _ h9 => h9) rfl dX1_beginSlice_71 ?_
  refine lv_aloadq_n hx hb dX1_beginSlice_74 rfl (lv_at hl 0 rfl) ?_
  refine lv_iconst (v := (2 : Int32)) hx hb dX1_beginSlice_75 (by decide) ?_
  refine W_st (st' := [.int (2 : Int32), .ref (ad b7), va_re ad (M14.2 a 6), va_re ad (M14.2 a 2)]) (by rw [va_some ho7]) ?_
  obtain ⟨hvc, hF⟩ := chk_some hF
  refine va_iald hx hb hK hP b7 1 (wld_i ct ad G M14 hc7 hk7) rfl hvc dX1_beginSlice_76 ?_
  obtain ⟨x15, ex15, hF⟩ := ltt_some hF
  refine lv_topi (fun zx15 ezx15 => ?_)
  obtain rfl : x15 = zx15 := ex15.trans ezx15.symm
  obtain ⟨b16, ho16, hc16, hk16, hF⟩ := dr_some hF
  refine W_st (st' := [.int x15, .ref (ad b16), va_re ad (M14.2 a 2)]) (by rw [va_some ho16]) ?_
  obtain ⟨hvc, hF⟩ := chk_some hF
  refine ld_g hx hb hK hP hc16 hk16 hvc dX1_beginSlice_77 ?_
  obtain ⟨b17, ho17, hc17, hk17, hF⟩ := dr_some hF
  refine W_st (st' := [va_re ad (M14.2 b16 x15.toNatClampNeg), .ref (ad b17)]) (by rw [va_some ho17]) ?_
  refine va_put (D := D) (ci := 9) (v := va_re ad ((M14.2 b16 x15.toNatClampNeg))) (ty := (.array .int)) (C := RX9) (T := TX9) (N := 20) hx hb hts (mus hf_X9) tyX9 tyX9_ok nmX9 hown hK hP hD hS b17 (wld_o ct ad G M14 hc17 hk17 (by decide)) rfl 2 (by decide) (hts (.fieldLink RX1 308 "VideoSuite$Work" "par" "[I") (mu mw_434)) (fun _ h9 => h9) rfl (by decide +kernel) (nar_q ad (Or.inr ⟨_, rfl⟩) ((M14.2 b16 x15.toNatClampNeg))).1 (nar_q ad (Or.inr ⟨_, rfl⟩) ((M14.2 b16 x15.toNatClampNeg))).2 (Nat.le_of_ble_eq_true rfl) dX1_beginSlice_78 (fun H locs hP hD hS => ?_)
  obtain ⟨M18, eM18, hF⟩ := ltt_some hF
  rw [set_oP ct ad G M14 hc17 hk17 (by decide) (by rfl), ← eM18] at hP hD
  refine lv_aload_n hx hb dX1_beginSlice_81 rfl (lv_at hl 2 rfl) ?_
  refine va_get (D := D) (ci := 1) (v := va_re ad (M18.2 a 2)) (C := RX1) (T := TX1) (N := 22) hx hb hts (mus hf_X1) hown hK hP a (wld_o ct ad G M18 hc hk (by decide)) rfl 2 (by decide) (hts (.fieldLink RX1 28 "VideoSuite$Decoder" "work" "LVideoSuite$Work;") (mu mw_644)) (fun _ h9 => h9) rfl dX1_beginSlice_82 ?_
  refine lv_dup hx hb dX1_beginSlice_85 (va_re_cat _ _) ?_
  obtain ⟨b19, ho19, hc19, hk19, hF⟩ := dr_some hF
  refine W_st (st' := [.ref (ad b19), .ref (ad b19)]) (by rw [va_some ho19]) ?_
  refine va_get (D := D) (ci := 9) (v := .int (M18.1 b19 11)) (C := RX9) (T := TX9) (N := 20) hx hb hts (mus hf_X9) hown hK hP b19 (wld_o ct ad G M18 hc19 hk19 (by decide)) rfl 11 (by decide) (hts (.fieldLink RX1 311 "VideoSuite$Work" "sliceNumber" "I") (mu mw_461)) (fun _ h9 => h9) rfl dX1_beginSlice_86 ?_
  obtain ⟨x20, ex20, hF⟩ := ltt_some hF
  refine lv_topi (fun zx20 ezx20 => ?_)
  obtain rfl : x20 = zx20 := ex20.trans ezx20.symm
  refine lv_iconst (v := (1 : Int32)) hx hb dX1_beginSlice_89 (by decide) ?_
  refine lv_iadd hx hb dX1_beginSlice_90 ?_
  obtain ⟨x21, ex21, hF⟩ := ltt_some hF
  refine lv_topi (fun zx21 ezx21 => ?_)
  obtain rfl : x21 = zx21 := ex21.trans ezx21.symm
  refine va_put (D := D) (ci := 9) (v := .int x21) (ty := .int) (C := RX9) (T := TX9) (N := 20) hx hb hts (mus hf_X9) tyX9 tyX9_ok nmX9 hown hK hP hD hS b19 (wld_o ct ad G M18 hc19 hk19 (by decide)) rfl 11 (by decide) (hts (.fieldLink RX1 311 "VideoSuite$Work" "sliceNumber" "I") (mu mw_461)) (fun _ h9 => h9) rfl (by decide +kernel) rfl rfl (Nat.le_of_ble_eq_true rfl) dX1_beginSlice_91 (fun H locs hP hD hS => ?_)
  obtain ⟨M22, eM22, hF⟩ := ltt_some hF
  rw [set_oI ct ad G M18 hc19 hk19 (by decide) (by rfl), ← eM22] at hP hD
  refine lv_iconst (v := (1 : Int32)) hx hb dX1_beginSlice_94 (by decide) ?_
  refine lv_aload_n hx hb dX1_beginSlice_95 rfl (lv_at hl 2 rfl) ?_
  refine va_get (D := D) (ci := 1) (v := va_re ad (M22.2 a 7)) (C := RX1) (T := TX1) (N := 22) hx hb hts (mus hf_X1) hown hK hP a (wld_o ct ad G M22 hc hk (by decide)) rfl 7 (by decide) (hts (.fieldLink RX1 54 "VideoSuite$Decoder" "active" "[I") (mu mw_649)) (fun _ h9 => h9) rfl dX1_beginSlice_96 ?_
  refine lv_iconst (v := (2 : Int32)) hx hb dX1_beginSlice_99 (by decide) ?_
  obtain ⟨b23, ho23, hc23, hk23, hF⟩ := dr_some hF
  refine W_st (st' := [.int (2 : Int32), .ref (ad b23), .int (1 : Int32)]) (by rw [va_some ho23]) ?_
  obtain ⟨hvc, hF⟩ := chk_some hF
  refine va_iald hx hb hK hP b23 1 (wld_i ct ad G M22 hc23 hk23) rfl hvc dX1_beginSlice_100 ?_
  obtain ⟨x24, ex24, hF⟩ := ltt_some hF
  refine lv_topi (fun zx24 ezx24 => ?_)
  obtain rfl : x24 = zx24 := ex24.trans ezx24.symm
  refine lv_ishl hx hb dX1_beginSlice_101 ?_
  obtain ⟨x25, ex25, hF⟩ := ltt_some hF
  refine lv_topi (fun zx25 ezx25 => ?_)
  obtain rfl : x25 = zx25 := ex25.trans ezx25.symm
  refine lv_istore_n (lv' := [(3, .int x25), (2, va_re ad (M5.2 b6 0)), (1, va_re ad (M.2 a 10)), (0, .ref (ad a))]) hx hb dX1_beginSlice_102 rfl hl (by decide) (by generalize ((M5.2 b6 0)) = o9; cases o9 <;> rfl) (fun ls hl => ?_)
  refine lv_aload_n hx hb dX1_beginSlice_103 rfl (lv_at hl 3 rfl) ?_
  refine va_get (D := D) (ci := 1) (v := va_re ad (M22.2 a 1)) (C := RX1) (T := TX1) (N := 22) hx hb hts (mus hf_X1) hown hK hP a (wld_o ct ad G M22 hc hk (by decide)) rfl 1 (by decide) (hts (.fieldLink RX1 21 "VideoSuite$Decoder" "store" "LVideoSuite$Store;") (mu mw_642)) (fun _ h9 => h9) rfl dX1_beginSlice_104 ?_
  refine lv_aload_n hx hb dX1_beginSlice_107 rfl (lv_at hl 3 rfl) ?_
  refine va_get (D := D) (ci := 1) (v := va_re ad (M22.2 a 2)) (C := RX1) (T := TX1) (N := 22) hx hb hts (mus hf_X1) hown hK hP a (wld_o ct ad G M22 hc hk (by decide)) rfl 2 (by decide) (hts (.fieldLink RX1 28 "VideoSuite$Decoder" "work" "LVideoSuite$Work;") (mu mw_644)) (fun _ h9 => h9) rfl dX1_beginSlice_108 ?_
  refine lv_iload_n hx hb dX1_beginSlice_111 rfl (lv_at hl 0 rfl) ?_
  obtain ⟨b26, ho26, hc26, hk26, hF⟩ := dr_some hF
  refine W_st (st' := [.int x25, va_re ad (M22.2 a 2), .ref (ad b26)]) (by rw [va_some ho26]) ?_
  obtain ⟨y27, hy27, hF⟩ := bnd_some hF
  have hf9 := wA_in hD hA9 hS
  refine va_callv (va_runV (As := [va_re ad (M22.2 a 2), .int x25]) (rest := []) ⟨hx, hb, hml, hown, hts⟩ (kX7_makeLists l D ct ad Z G M22 H.size b26 ((M22.2 a 2)) x25 y27 hc26 hk26 hy27) (cwV 2 hts gX1_beginSlice_X7_makeLists rfl rfl rfl (by decide +kernel) ⟨Nat.le_of_ble_eq_true rfl, Nat.le_of_ble_eq_true rfl⟩) ⟨fun a U g mk q => by obtain ⟨q0, q1, qP, qK, qD, qZ, qN⟩ := q; exact ⟨q0, q1, qP, va_K.moved (u := U) (U := U.calling g mk a) (Vm.Alike.refl U.vm) qK, qD, sF.moved (u := U) (U := U.calling g mk a) (Vm.Alike.refl U.vm) qZ, nF.same rfl qN⟩, va_recv hK hP (ci := 7) (q0 := b26) rfl (wld_o ct ad G M22 hc26 hk26 (by decide)), fun U hU hW => ⟨rfl, by rw [hU], by rw [hU]; exact hP, va_K.moved hW.alike hK, hD.weaken (fun _ _ _ _ => trivial), by rw [hU]; exact ((hZ.kept hS.2.1).narrow hf9).moved hW.alike, hN.warm hW⟩⟩ rfl rfl hl.1 rfl (lv_room (Nat.le_of_ble_eq_true rfl)) dX1_beginSlice_112 ⟨(Nat.zero_le _), (Nat.zero_le _)⟩) hS (fun q _ h => hf9 q h) hf9 (fun u t H locs ht hvm hw hB hz1 hk1 hS => ?_)
  obtain ⟨hP, hK9, hD9⟩ := hB
  rw [ht] at hP
  have hD := hD9.weaken (fun _ q _ h => hf9 q.1 h)
  refine lv_aload_n hx hb dX1_beginSlice_115 rfl (lv_at hl 3 rfl) ?_
  refine va_get (D := D) (ci := 1) (v := va_re ad (y27.2 a 1)) (C := RX1) (T := TX1) (N := 22) hx hb hts (mus hf_X1) hown hK hP a (wld_o ct ad G y27 hc hk (by decide)) rfl 1 (by decide) (hts (.fieldLink RX1 21 "VideoSuite$Decoder" "store" "LVideoSuite$Store;") (mu mw_642)) (fun _ h9 => h9) rfl dX1_beginSlice_116 ?_
  refine lv_aload_n hx hb dX1_beginSlice_119 rfl (lv_at hl 3 rfl) ?_
  refine va_get (D := D) (ci := 1) (v := va_re ad (y27.2 a 2)) (C := RX1) (T := TX1) (N := 22) hx hb hts (mus hf_X1) hown hK hP a (wld_o ct ad G y27 hc hk (by decide)) rfl 2 (by decide) (hts (.fieldLink RX1 28 "VideoSuite$Decoder" "work" "LVideoSuite$Work;") (mu mw_644)) (fun _ h9 => h9) rfl dX1_beginSlice_120 ?_
  refine lv_iconst (v := (0 : Int32)) hx hb dX1_beginSlice_123 (by decide) ?_
  refine lv_iload_n hx hb dX1_beginSlice_124 rfl (lv_at hl 0 rfl) ?_
  obtain ⟨b28, ho28, hc28, hk28, hF⟩ := dr_some hF
  refine W_st (st' := [.int x25, .int (0 : Int32), va_re ad (y27.2 a 2), .ref (ad b28)]) (by rw [va_some ho28]) ?_
  obtain ⟨y29, hy29, hF⟩ := bnd_some hF
  have hf9 := wA_in hD hA9 hS
  refine va_calli (va_runV (As := [va_re ad (y27.2 a 2), .int (0 : Int32), .int x25]) (rest := []) ⟨hx, hb, hml, hown, hts⟩ (kX7_moveList l D ct ad Z G y27 H.size b28 ((y27.2 a 2)) ((0 : Int32)) x25 y29 hc28 hk28 hy29) (cwV 3 hts gX1_beginSlice_X7_moveList rfl rfl rfl (by decide +kernel) ⟨Nat.le_of_ble_eq_true rfl, Nat.le_of_ble_eq_true rfl⟩) ⟨fun a U g mk q => by obtain ⟨q0, q1, qP, qK, qD, qZ, qN⟩ := q; exact ⟨q0, q1, qP, va_K.moved (u := U) (U := U.calling g mk a) (Vm.Alike.refl U.vm) qK, qD, sF.moved (u := U) (U := U.calling g mk a) (Vm.Alike.refl U.vm) qZ, nF.same rfl qN⟩, va_recv hK hP (ci := 7) (q0 := b28) rfl (wld_o ct ad G y27 hc28 hk28 (by decide)), fun U hU hW => ⟨rfl, by rw [hU], by rw [hU]; exact hP, va_K.moved hW.alike hK, hD.weaken (fun _ _ _ _ => trivial), by rw [hU]; exact ((hZ.kept hS.2.1).narrow hf9).moved hW.alike, hN.warm hW⟩⟩ rfl rfl hl.1 rfl (lv_room (Nat.le_of_ble_eq_true rfl)) dX1_beginSlice_125 ⟨(Nat.zero_le _), (Nat.zero_le _)⟩) hS (fun q _ h => hf9 q h) hf9 (fun r u t H locs ht hvm hw hB hz1 hk1 hS => ?_)
  obtain ⟨hP, hK9, hD9⟩ := hB
  rw [ht] at hP
  try dsimp only at hw
  subst hw
  have hD := hD9.weaken (fun _ q _ h => hf9 q.1 h)
  obtain ⟨y30, hy30, hF⟩ := bnd_some hF
  have J30 : ∀ (H : Heap) (locs : List Loc) (ls : Array Slot), va_P D classes (wld ct ad G y30.2) H → va_D A (wld ct ad G y30.2) → va_S A s.heap H locs → lv_has ls 5 [(3, .int x25), (2, va_re ad (M5.2 b6 0)), (1, va_re ad (M.2 a 10)), (0, .ref (ad a))] → W p l e (headSpec wuX1_beginSlice ({ frames := 4, cells := 0, slots := 0, locals := 105 })).room s m ([.ref (ad a)] : List Value).toArray below meth c H locs 0 0 (MQ below (va_Qv (fun (_ : Unit) => True) (fun _ t => kE D ct ad G A y t) A) ([.ref (ad a)] : List Value).toArray s 0 0 A) (F0 m 152 ls [.int y30.1]) := by
    intro H locs ls hP hD hS hl
    refine lv_istore (lv' := [(4, .int y30.1), (3, .int x25), (2, va_re ad (M5.2 b6 0)), (1, va_re ad (M.2 a 10)), (0, .ref (ad a))]) hx hb dX1_beginSlice_152 hl (by decide) rfl (fun ls hl => ?_)
    refine lv_aload_n hx hb dX1_beginSlice_154 rfl (lv_at hl 4 rfl) ?_
    refine va_get (D := D) (ci := 1) (v := va_re ad (y30.2.2 a 2)) (C := RX1) (T := TX1) (N := 22) hx hb hts (mus hf_X1) hown hK hP a (wld_o ct ad G y30.2 hc hk (by decide)) rfl 2 (by decide) (hts (.fieldLink RX1 28 "VideoSuite$Decoder" "work" "LVideoSuite$Work;") (mu mw_644)) (fun _ h9 => h9) rfl dX1_beginSlice_155 ?_
    obtain ⟨b31, ho31, hc31, hk31, hF⟩ := dr_some hF
    refine W_st (st' := [.ref (ad b31)]) (by rw [va_some ho31]) ?_
    obtain ⟨y32, hy32, hF⟩ := bnd_some hF
    have hf9 := wA_in hD hA9 hS
    refine va_callv (va_runV (As := []) (rest := []) ⟨hx, hb, hml, hown, hts⟩ (kX9_noteEntries l D ct ad Z G y30.2 H.size b31 y32 hc31 hk31 hy32) (cwV 0 hts gX1_beginSlice_X9_noteEntries rfl rfl rfl (by decide +kernel) ⟨Nat.le_of_ble_eq_true rfl, Nat.le_of_ble_eq_true rfl⟩) ⟨fun a U g mk q => by obtain ⟨q0, q1, qP, qK, qD, qZ, qN⟩ := q; exact ⟨q0, q1, qP, va_K.moved (u := U) (U := U.calling g mk a) (Vm.Alike.refl U.vm) qK, qD, sF.moved (u := U) (U := U.calling g mk a) (Vm.Alike.refl U.vm) qZ, nF.same rfl qN⟩, va_recv hK hP (ci := 9) (q0 := b31) rfl (wld_o ct ad G y30.2 hc31 hk31 (by decide)), fun U hU hW => ⟨rfl, by rw [hU], by rw [hU]; exact hP, va_K.moved hW.alike hK, hD.weaken (fun _ _ _ _ => trivial), by rw [hU]; exact ((hZ.kept hS.2.1).narrow hf9).moved hW.alike, hN.warm hW⟩⟩ rfl rfl hl.1 rfl (lv_room (Nat.le_of_ble_eq_true rfl)) dX1_beginSlice_158 ⟨(Nat.zero_le _), (Nat.zero_le _)⟩) hS (fun q _ h => hf9 q h) hf9 (fun u t H locs ht hvm hw hB hz1 hk1 hS => ?_)
    obtain ⟨hP, hK9, hD9⟩ := hB
    rw [ht] at hP
    have hD := hD9.weaken (fun _ q _ h => hf9 q.1 h)
    refine lv_iload hx hb dX1_beginSlice_161 (lv_at hl 0 rfl) ?_
    obtain ⟨y33, hy33, hF⟩ := bnd_some hF
    have J33 : ∀ (H : Heap) (locs : List Loc) (ls : Array Slot), va_P D classes (wld ct ad G y33) H → va_D A (wld ct ad G y33) → va_S A s.heap H locs → lv_has ls 5 [(4, .int y30.1), (3, .int x25), (2, va_re ad (M5.2 b6 0)), (1, va_re ad (M.2 a 10)), (0, .ref (ad a))] → W p l e (headSpec wuX1_beginSlice ({ frames := 4, cells := 0, slots := 0, locals := 105 })).room s m ([.ref (ad a)] : List Value).toArray below meth c H locs 0 0 (MQ below (va_Qv (fun (_ : Unit) => True) (fun _ t => kE D ct ad G A y t) A) ([.ref (ad a)] : List Value).toArray s 0 0 A) (F0 m 174 ls []) := by
      intro H locs ls hP hD hS hl
      obtain rfl := Option.some.inj hF
      exact W.vret hx hb hr (fun t ht hW => ⟨⟨(), rfl, trivial, ⟨by rw [ht]; exact hP, va_K.moved hW.alike hK, hD⟩⟩, hS.F ht⟩) hS.2.2 dX1_beginSlice_174
    clear hF
    have hF := hy33
    clear hy33
    refine lv_if_ne (tgt := 174) hx hb dX1_beginSlice_163 (by decide) (fun c34 => ?_) (fun c34 => ?_)
    · rw [if_neg c34] at hF
      obtain rfl := Option.some.inj hF
      exact J33 _ _ _ hP hD hS (lv_sub hl [0, 1, 2, 3, 4] rfl)
    · rw [if_pos c34] at hF
      refine lv_aload_n hx hb dX1_beginSlice_166 rfl (lv_at hl 4 rfl) ?_
      refine va_get (D := D) (ci := 1) (v := va_re ad (y32.2 a 0)) (C := RX1) (T := TX1) (N := 22) hx hb hts (mus hf_X1) hown hK hP a (wld_o ct ad G y32 hc hk (by decide)) rfl 0 (by decide) (hts (.fieldLink RX1 12 "VideoSuite$Decoder" "reader" "LVideoSuite$Reader;") (mu mw_640)) (fun _ h9 => h9) rfl dX1_beginSlice_167 ?_
      refine lv_iconst (v := (4 : Int32)) hx hb dX1_beginSlice_170 (by decide) ?_
      cases hF
  clear hF
  have hF := hy30
  clear hy30
  refine lv_if_eq (tgt := 151) hx hb dX1_beginSlice_128 (by decide) (fun c35 => ?_) (fun c35 => ?_)
  · rw [if_pos c35] at hF
    refine lv_iconst (v := (0 : Int32)) hx hb dX1_beginSlice_151 (by decide) ?_
    obtain rfl := Option.some.inj hF
    exact J30 _ _ _ hP hD hS (lv_sub hl [0, 1, 2, 3] rfl)
  · rw [if_neg c35] at hF
    refine lv_aload_n hx hb dX1_beginSlice_131 rfl (lv_at hl 3 rfl) ?_
    refine va_get (D := D) (ci := 1) (v := va_re ad (y29.1.2 a 1)) (C := RX1) (T := TX1) (N := 22) hx hb hts (mus hf_X1) hown hK hP a (wld_o ct ad G y29.1 hc hk (by decide)) rfl 1 (by decide) (hts (.fieldLink RX1 21 "VideoSuite$Decoder" "store" "LVideoSuite$Store;") (mu mw_642)) (fun _ h9 => h9) rfl dX1_beginSlice_132 ?_
    refine lv_aload_n hx hb dX1_beginSlice_135 rfl (lv_at hl 3 rfl) ?_
    refine va_get (D := D) (ci := 1) (v := va_re ad (y29.1.2 a 2)) (C := RX1) (T := TX1) (N := 22) hx hb hts (mus hf_X1) hown hK hP a (wld_o ct ad G y29.1 hc hk (by decide)) rfl 2 (by decide) (hts (.fieldLink RX1 28 "VideoSuite$Decoder" "work" "LVideoSuite$Work;") (mu mw_644)) (fun _ h9 => h9) rfl dX1_beginSlice_136 ?_
    refine lv_iconst (v := (1 : Int32)) hx hb dX1_beginSlice_139 (by decide) ?_
    refine lv_iload_n hx hb dX1_beginSlice_140 rfl (lv_at hl 0 rfl) ?_
    obtain ⟨b36, ho36, hc36, hk36, hF⟩ := dr_some hF
    refine W_st (st' := [.int x25, .int (1 : Int32), va_re ad (y29.1.2 a 2), .ref (ad b36)]) (by rw [va_some ho36]) ?_
    obtain ⟨y37, hy37, hF⟩ := bnd_some hF
    have hf9 := wA_in hD hA9 hS
    refine va_calli (va_runV (As := [va_re ad (y29.1.2 a 2), .int (1 : Int32), .int x25]) (rest := []) ⟨hx, hb, hml, hown, hts⟩ (kX7_moveList l D ct ad Z G y29.1 H.size b36 ((y29.1.2 a 2)) ((1 : Int32)) x25 y37 hc36 hk36 hy37) (cwV 3 hts gX1_beginSlice_X7_moveList rfl rfl rfl (by decide +kernel) ⟨Nat.le_of_ble_eq_true rfl, Nat.le_of_ble_eq_true rfl⟩) ⟨fun a U g mk q => by obtain ⟨q0, q1, qP, qK, qD, qZ, qN⟩ := q; exact ⟨q0, q1, qP, va_K.moved (u := U) (U := U.calling g mk a) (Vm.Alike.refl U.vm) qK, qD, sF.moved (u := U) (U := U.calling g mk a) (Vm.Alike.refl U.vm) qZ, nF.same rfl qN⟩, va_recv hK hP (ci := 7) (q0 := b36) rfl (wld_o ct ad G y29.1 hc36 hk36 (by decide)), fun U hU hW => ⟨rfl, by rw [hU], by rw [hU]; exact hP, va_K.moved hW.alike hK, hD.weaken (fun _ _ _ _ => trivial), by rw [hU]; exact ((hZ.kept hS.2.1).narrow hf9).moved hW.alike, hN.warm hW⟩⟩ rfl rfl hl.1 rfl (lv_room (Nat.le_of_ble_eq_true rfl)) dX1_beginSlice_141 ⟨(Nat.zero_le _), (Nat.zero_le _)⟩) hS (fun q _ h => hf9 q h) hf9 (fun r u t H locs ht hvm hw hB hz1 hk1 hS => ?_)
    obtain ⟨hP, hK9, hD9⟩ := hB
    rw [ht] at hP
    try dsimp only at hw
    subst hw
    have hD := hD9.weaken (fun _ q _ h => hf9 q.1 h)
    obtain ⟨y38, hy38, hF⟩ := bnd_some hF
    have J38 : ∀ (H : Heap) (locs : List Loc) (ls : Array Slot), va_P D classes (wld ct ad G y37.1) H → va_D A (wld ct ad G y37.1) → va_S A s.heap H locs → lv_has ls 5 [(3, .int x25), (2, va_re ad (M5.2 b6 0)), (1, va_re ad (M.2 a 10)), (0, .ref (ad a))] → W p l e (headSpec wuX1_beginSlice ({ frames := 4, cells := 0, slots := 0, locals := 105 })).room s m ([.ref (ad a)] : List Value).toArray below meth c H locs 0 0 (MQ below (va_Qv (fun (_ : Unit) => True) (fun _ t => kE D ct ad G A y t) A) ([.ref (ad a)] : List Value).toArray s 0 0 A) (F0 m 152 ls [.int y38]) := by
      intro H locs ls hP hD hS hl
      obtain rfl := Option.some.inj hF
      exact J30 _ _ _ hP hD hS (lv_sub hl [0, 1, 2, 3] rfl)
    clear hF
    have hF := hy38
    clear hy38
    refine lv_if_eq (tgt := 151) hx hb dX1_beginSlice_144 (by decide) (fun c39 => ?_) (fun c39 => ?_)
    · rw [if_pos c39] at hF
      refine lv_iconst (v := (0 : Int32)) hx hb dX1_beginSlice_151 (by decide) ?_
      obtain rfl := Option.some.inj hF
      exact J38 _ _ _ hP hD hS (lv_sub hl [0, 1, 2, 3] rfl)
    · rw [if_neg c39] at hF
      refine lv_iconst (v := (1 : Int32)) hx hb dX1_beginSlice_147 (by decide) ?_
      refine lv_goto (tgt := 152) hx hb dX1_beginSlice_148 (by decide) ?_
      obtain rfl := Option.some.inj hF
      exact J38 _ _ _ hP hD hS (lv_sub hl [0, 1, 2, 3] rfl)
set_option maxRecDepth 20000 in
theorem gX1_init_X5_init : GoodIn wuX1_init wuX5_init := gu_P mw_277
set_option maxRecDepth 20000 in
set_option maxRecDepth 20000 in
theorem gX1_init_X7_init_n20 : GoodIn wuX1_init wuX7_init := gu_P mw_349
set_option maxRecDepth 20000 in
set_option maxRecDepth 20000 in
theorem gX1_init_X9_init_n27 : GoodIn wuX1_init wuX9_init := gu_P mw_416
set_option maxRecDepth 20000 in
set_option maxRecDepth 20000 in
theorem gX1_init_X6_init_n34 : GoodIn wuX1_init wuX6_init := gu_P mw_531
set_option maxRecDepth 20000 in
set_option maxRecDepth 20000 in
theorem gX1_init_X2_init_n41 : GoodIn wuX1_init wuX2_init := gu_P mw_583
set_option maxRecDepth 20000 in
set_option maxRecDepth 20000 in
theorem gX1_init_X3_init_n67 : GoodIn wuX1_init wuX3_init := gu_P mw_613
theorem dX1_init_0 : decode cX1_init 0 = .ok (.aload_n 0, 1) := by decide +kernel
theorem dX1_init_1 : decode cX1_init 1 = .ok (.invokespecial 3, 3) := by decide +kernel
theorem dX1_init_4 : decode cX1_init 4 = .ok (.aload_n 0, 1) := by decide +kernel
theorem dX1_init_5 : decode cX1_init 5 = .ok (.new 9, 3) := by decide +kernel
theorem dX1_init_8 : decode cX1_init 8 = .ok (.dup, 1) := by decide +kernel
theorem dX1_init_9 : decode cX1_init 9 = .ok (.invokespecial 11, 3) := by decide +kernel
theorem dX1_init_12 : decode cX1_init 12 = .ok (.putfield 12, 3) := by decide +kernel
theorem dX1_init_15 : decode cX1_init 15 = .ok (.aload_n 0, 1) := by decide +kernel
theorem dX1_init_16 : decode cX1_init 16 = .ok (.new 18, 3) := by decide +kernel
theorem dX1_init_19 : decode cX1_init 19 = .ok (.dup, 1) := by decide +kernel
theorem dX1_init_20 : decode cX1_init 20 = .ok (.invokespecial 20, 3) := by decide +kernel
theorem dX1_init_23 : decode cX1_init 23 = .ok (.putfield 21, 3) := by decide +kernel
theorem dX1_init_26 : decode cX1_init 26 = .ok (.aload_n 0, 1) := by decide +kernel
theorem dX1_init_27 : decode cX1_init 27 = .ok (.new 25, 3) := by decide +kernel
theorem dX1_init_30 : decode cX1_init 30 = .ok (.dup, 1) := by decide +kernel
theorem dX1_init_31 : decode cX1_init 31 = .ok (.invokespecial 27, 3) := by decide +kernel
theorem dX1_init_34 : decode cX1_init 34 = .ok (.putfield 28, 3) := by decide +kernel
theorem dX1_init_37 : decode cX1_init 37 = .ok (.aload_n 0, 1) := by decide +kernel
theorem dX1_init_38 : decode cX1_init 38 = .ok (.new 32, 3) := by decide +kernel
theorem dX1_init_41 : decode cX1_init 41 = .ok (.dup, 1) := by decide +kernel
theorem dX1_init_42 : decode cX1_init 42 = .ok (.invokespecial 34, 3) := by decide +kernel
theorem dX1_init_45 : decode cX1_init 45 = .ok (.putfield 35, 3) := by decide +kernel
theorem dX1_init_48 : decode cX1_init 48 = .ok (.aload_n 0, 1) := by decide +kernel
theorem dX1_init_49 : decode cX1_init 49 = .ok (.new 39, 3) := by decide +kernel
theorem dX1_init_52 : decode cX1_init 52 = .ok (.dup, 1) := by decide +kernel
theorem dX1_init_53 : decode cX1_init 53 = .ok (.invokespecial 41, 3) := by decide +kernel
theorem dX1_init_56 : decode cX1_init 56 = .ok (.putfield 42, 3) := by decide +kernel
theorem dX1_init_59 : decode cX1_init 59 = .ok (.aload_n 0, 1) := by decide +kernel
theorem dX1_init_60 : decode cX1_init 60 = .ok (.iconst 4, 1) := by decide +kernel
theorem dX1_init_61 : decode cX1_init 61 = .ok (.bipush 24, 2) := by decide +kernel
theorem dX1_init_63 : decode cX1_init 63 = .ok (.multianewarray 46 2, 4) := by decide +kernel
theorem dX1_init_67 : decode cX1_init 67 = .ok (.putfield 48, 3) := by decide +kernel
theorem dX1_init_70 : decode cX1_init 70 = .ok (.aload_n 0, 1) := by decide +kernel
theorem dX1_init_71 : decode cX1_init 71 = .ok (.iconst 4, 1) := by decide +kernel
theorem dX1_init_72 : decode cX1_init 72 = .ok (.bipush 12, 2) := by decide +kernel
theorem dX1_init_74 : decode cX1_init 74 = .ok (.multianewarray 46 2, 4) := by decide +kernel
theorem dX1_init_78 : decode cX1_init 78 = .ok (.putfield 51, 3) := by decide +kernel
theorem dX1_init_81 : decode cX1_init 81 = .ok (.aload_n 0, 1) := by decide +kernel
theorem dX1_init_82 : decode cX1_init 82 = .ok (.bipush 24, 2) := by decide +kernel
theorem dX1_init_84 : decode cX1_init 84 = .ok (.newarray .int, 2) := by decide +kernel
theorem dX1_init_86 : decode cX1_init 86 = .ok (.putfield 54, 3) := by decide +kernel
theorem dX1_init_89 : decode cX1_init 89 = .ok (.aload_n 0, 1) := by decide +kernel
theorem dX1_init_90 : decode cX1_init 90 = .ok (.iconst (-1), 1) := by decide +kernel
theorem dX1_init_91 : decode cX1_init 91 = .ok (.putfield 58, 3) := by decide +kernel
theorem dX1_init_94 : decode cX1_init 94 = .ok (.aload_n 0, 1) := by decide +kernel
theorem dX1_init_95 : decode cX1_init 95 = .ok (.bipush 24, 2) := by decide +kernel
theorem dX1_init_97 : decode cX1_init 97 = .ok (.newarray .int, 2) := by decide +kernel
theorem dX1_init_99 : decode cX1_init 99 = .ok (.putfield 62, 3) := by decide +kernel
theorem dX1_init_102 : decode cX1_init 102 = .ok (.aload_n 0, 1) := by decide +kernel
theorem dX1_init_103 : decode cX1_init 103 = .ok (.new 65, 3) := by decide +kernel
theorem dX1_init_106 : decode cX1_init 106 = .ok (.dup, 1) := by decide +kernel
theorem dX1_init_107 : decode cX1_init 107 = .ok (.invokespecial 67, 3) := by decide +kernel
theorem dX1_init_110 : decode cX1_init 110 = .ok (.putfield 68, 3) := by decide +kernel
theorem dX1_init_113 : decode cX1_init 113 = .ok (.aload_n 0, 1) := by decide +kernel
theorem dX1_init_114 : decode cX1_init 114 = .ok (.new 65, 3) := by decide +kernel
theorem dX1_init_117 : decode cX1_init 117 = .ok (.dup, 1) := by decide +kernel
theorem dX1_init_118 : decode cX1_init 118 = .ok (.invokespecial 67, 3) := by decide +kernel
theorem dX1_init_121 : decode cX1_init 121 = .ok (.putfield 72, 3) := by decide +kernel
theorem dX1_init_124 : decode cX1_init 124 = .ok (.aload_n 0, 1) := by decide +kernel
theorem dX1_init_125 : decode cX1_init 125 = .ok (.new 65, 3) := by decide +kernel
theorem dX1_init_128 : decode cX1_init 128 = .ok (.dup, 1) := by decide +kernel
theorem dX1_init_129 : decode cX1_init 129 = .ok (.invokespecial 67, 3) := by decide +kernel
theorem dX1_init_132 : decode cX1_init 132 = .ok (.putfield 75, 3) := by decide +kernel
theorem dX1_init_135 : decode cX1_init 135 = .ok (.aload_n 0, 1) := by decide +kernel
theorem dX1_init_136 : decode cX1_init 136 = .ok (.sipush 600, 3) := by decide +kernel
theorem dX1_init_139 : decode cX1_init 139 = .ok (.newarray .int, 2) := by decide +kernel
theorem dX1_init_141 : decode cX1_init 141 = .ok (.putfield 78, 3) := by decide +kernel
theorem dX1_init_144 : decode cX1_init 144 = .ok (.return_, 1) := by decide +kernel
noncomputable def FX1_init (G : GG) (M : DD) (a : Nat)  : Option (NN × DD) :=
  chkP (Clo (xt G []) M) <|
  ltt ((xt G []).1) fun c2 =>
  app [(5, 0)] <|
  ltt ([] ++ [(5, 0)]) fun L4 =>
  ltt (rO M c2) fun M5 =>
  bnd (FX5_init (xt G L4) M5 c2) fun y8 =>
  app y8.1 <|
  ltt (L4 ++ y8.1) fun L10 =>
  ltt (uP y8.2 a 0 (some c2)) fun M13 =>
  chkP (Clo (xt G L10) M13) <|
  ltt ((xt G L10).1) fun c15 =>
  app [(7, 0)] <|
  ltt (L10 ++ [(7, 0)]) fun L17 =>
  ltt (rO M13 c15) fun M18 =>
  bnd (FX7_init (xt G L17) M18 c15) fun y21 =>
  app y21.1 <|
  ltt (L17 ++ y21.1) fun L23 =>
  ltt (uP y21.2 a 1 (some c15)) fun M26 =>
  chkP (Clo (xt G L23) M26) <|
  ltt ((xt G L23).1) fun c28 =>
  app [(9, 0)] <|
  ltt (L23 ++ [(9, 0)]) fun L30 =>
  ltt (rO M26 c28) fun M31 =>
  bnd (FX9_init (xt G L30) M31 c28) fun y34 =>
  app y34.1 <|
  ltt (L30 ++ y34.1) fun L36 =>
  ltt (uP y34.2 a 2 (some c28)) fun M39 =>
  chkP (Clo (xt G L36) M39) <|
  ltt ((xt G L36).1) fun c41 =>
  app [(6, 0)] <|
  ltt (L36 ++ [(6, 0)]) fun L43 =>
  ltt (rO M39 c41) fun M44 =>
  bnd (FX6_init (xt G L43) M44 c41) fun y47 =>
  app y47.1 <|
  ltt (L43 ++ y47.1) fun L49 =>
  ltt (uP y47.2 a 3 (some c41)) fun M52 =>
  chkP (Clo (xt G L49) M52) <|
  ltt ((xt G L49).1) fun c54 =>
  app [(2, 0)] <|
  ltt (L49 ++ [(2, 0)]) fun L56 =>
  ltt (rO M52 c54) fun M57 =>
  bnd (FX2_init (xt G L56) M57 c54) fun y60 =>
  app y60.1 <|
  ltt (L56 ++ y60.1) fun L62 =>
  ltt (uP y60.2 a 4 (some c54)) fun M65 =>
  chkP (Clo (xt G L62) M65) <|
  ltt ((xt G L62).1) fun c67 =>
  app (mrel 4 24) <|
  ltt (L62 ++ mrel 4 24) fun L69 =>
  ltt (mM M65 c67 4) fun M70 =>
  ltt (uP M70 a 5 (some c67)) fun M73 =>
  chkP (Clo (xt G L69) M73) <|
  ltt ((xt G L69).1) fun c75 =>
  app (mrel 4 12) <|
  ltt (L69 ++ mrel 4 12) fun L77 =>
  ltt (mM M73 c75 4) fun M78 =>
  ltt (uP M78 a 6 (some c75)) fun M81 =>
  chkP (Clo (xt G L77) M81) <|
  chk (¬ ((24 : Int32)) < 0 ∧ ((24 : Int32)).toNatClampNeg * 4 ≤ 536870912) <|
  ltt ((xt G L77).1) fun c83 =>
  app [(13, ((24 : Int32)).toNatClampNeg)] <|
  ltt (L77 ++ [(13, ((24 : Int32)).toNatClampNeg)]) fun L85 =>
  ltt (rO M81 c83) fun M86 =>
  ltt (uP M86 a 7 (some c83)) fun M89 =>
  ltt (uI M89 a 8 ((-1 : Int32))) fun M90 =>
  chkP (Clo (xt G L85) M90) <|
  chk (¬ ((24 : Int32)) < 0 ∧ ((24 : Int32)).toNatClampNeg * 4 ≤ 536870912) <|
  ltt ((xt G L85).1) fun c92 =>
  app [(13, ((24 : Int32)).toNatClampNeg)] <|
  ltt (L85 ++ [(13, ((24 : Int32)).toNatClampNeg)]) fun L94 =>
  ltt (rO M90 c92) fun M95 =>
  ltt (uP M95 a 9 (some c92)) fun M98 =>
  chkP (Clo (xt G L94) M98) <|
  ltt ((xt G L94).1) fun c100 =>
  app [(3, 0)] <|
  ltt (L94 ++ [(3, 0)]) fun L102 =>
  ltt (rO M98 c100) fun M103 =>
  bnd (FX3_init (xt G L102) M103 c100) fun y106 =>
  app y106.1 <|
  ltt (L102 ++ y106.1) fun L108 =>
  ltt (uP y106.2 a 10 (some c100)) fun M111 =>
  chkP (Clo (xt G L108) M111) <|
  ltt ((xt G L108).1) fun c113 =>
  app [(3, 0)] <|
  ltt (L108 ++ [(3, 0)]) fun L115 =>
  ltt (rO M111 c113) fun M116 =>
  bnd (FX3_init (xt G L115) M116 c113) fun y119 =>
  app y119.1 <|
  ltt (L115 ++ y119.1) fun L121 =>
  ltt (uP y119.2 a 11 (some c113)) fun M124 =>
  chkP (Clo (xt G L121) M124) <|
  ltt ((xt G L121).1) fun c126 =>
  app [(3, 0)] <|
  ltt (L121 ++ [(3, 0)]) fun L128 =>
  ltt (rO M124 c126) fun M129 =>
  bnd (FX3_init (xt G L128) M129 c126) fun y132 =>
  app y132.1 <|
  ltt (L128 ++ y132.1) fun L134 =>
  ltt (uP y132.2 a 12 (some c126)) fun M137 =>
  chkP (Clo (xt G L134) M137) <|
  chk (¬ ((600 : Int32)) < 0 ∧ ((600 : Int32)).toNatClampNeg * 4 ≤ 536870912) <|
  ltt ((xt G L134).1) fun c139 =>
  app [(13, ((600 : Int32)).toNatClampNeg)] <|
  ltt (L134 ++ [(13, ((600 : Int32)).toNatClampNeg)]) fun L141 =>
  ltt (rO M137 c139) fun M142 =>
  ltt (uP M142 a 13 (some c139)) fun M145 =>
  some ([], M145)
set_option maxHeartbeats 4000000 in
set_option maxRecDepth 100000 in
theorem kX1_init (l : Launch) (D : va_G) (ct : CT) (ad : Nat → Nat) (Z : Nat → Nat) (G : GG) (M : DD) (sz : Nat) (a : Nat)  (y : NN × DD) (hc : a < G.1) (hk : G.2.1 a = 1) (hF : FX1_init G M a  = some y) : Met l yX1_init wuX1_init ({ frames := 2, cells := y.1.length, slots := wt y.1, locals := 52 }) (va_Pc [.ref (ad a)] (kB D ct ad Z G M sz)) (va_Qv (fun (u : Nat → Nat) => agr G.1 ad u) (fun u t => kE D ct u (xt G y.1) (wA ad G sz) y.2 t) (wA ad G sz)) y.1.length (wt y.1) (wA ad G sz) := by
  refine Met.ofW (cc := cX1_init) (maxL := 1) (ret := none) (by decide) rfl ?_
  intro p e s m args below meth c s₁ B hml hv
  obtain ⟨rfl, hsz, hP, hK, hD0, hZ, hN⟩ := hv
  have hx := B.exec
  have hb := B.bytes
  have hr := B.returns
  have hts := atoms_spec (ws := wuX1_init) B.pre
  have hown : s.vm.findClass RX1 = some m.cls := findClass_of_methodNamed B.named
  have hlocks := B.notSynchronized
  have hin : meth.name = "<init>" := (name_of_methodNamed B.named B.method).1
  subst hsz
  have hD := wD_self (sz := s.heap.size) hD0
  have hA9 : ∀ q, s.heap.size ≤ q → wA ad G s.heap.size q := fun q h => Or.inr h
  generalize hAe : wA ad G s.heap.size = A at hD hA9 hZ ⊢
  have hS : va_S A s.heap s.heap [] := va_S.rf
  have hl := lv_entry ([.ref (ad a)]) (n := 1) (Nat.le_of_ble_eq_true rfl)
  rw [lg_entry_eq]
  generalize (lg_sl ([.ref (ad a)]) ++ List.replicate (1 - (lg_sl ([.ref (ad a)])).length) Slot.unset).toArray = ls at hl ⊢
  have hl : lv_has ls 1 [(0, .ref (ad a))] := hl
  unfold FX1_init at hF
  rw [← wld_0 ct ad G M] at hP hD
  have hk := xt_k0 hc hk
  have hc := xt_l0 hc
  have hag := agr_rf G.1 ad
  obtain ⟨w0, hw0⟩ : ∃ z, z = y := ⟨_, rfl⟩
  rw [← hw0] at hF
  have hT : y.1 = [] ++ w0.1 := by rw [hw0]; rfl
  have h2 : y.2 = w0.2 := by rw [hw0]
  have hbl : y.1.length ≤ y.1.length ∧ wt y.1 ≤ wt y.1 := ⟨Nat.le_refl _, Nat.le_refl _⟩
  refine lv_aload_n hx hb dX1_init_0 rfl (lv_at hl 0 rfl) ?_
  refine W.objInit hx hb hown (hts (.methodLink RX1 3 objectInit) (mu mw_272)) (hts (.instanceMethod objectInit) (mu mw_202)) (hts (.code objectInit ⟨#[0xb1]⟩ 1 none) (mu mw_203)) rfl (by rw [hml]; exact hl.1) rfl dX1_init_1 (Nat.le_of_ble_eq_true rfl) (Nat.le_of_ble_eq_true rfl) ?_
  refine W.eq (g2 := F0 m 4 ls []) rfl ?_
  refine lv_aload_n hx hb dX1_init_4 rfl (lv_at hl 0 rfl) ?_
  obtain ⟨hC1, hF⟩ := chkP_some hF
  obtain ⟨c2, ec2, hF⟩ := ltt_some hF
  obtain ⟨w3, hF, ew3⟩ := app_some hF
  obtain ⟨L4, eL4, hF⟩ := ltt_some hF
  have hT4 : y.1 = ([] ++ [(5, 0)]) ++ w3.1 := by rw [hT, ew3]; simp only [List.append_assoc]
  obtain ⟨M5, eM5, hF⟩ := ltt_some hF
  refine new_o (T := TX5) (κ := 5) hx hb hts (mus hf_X5) tyX5 tyX5_ok hown (hts (.classLink RX1 9 RX5) (mu mw_273)) (hts (.instantiable RX5 17) (mu mw_274)) (hts (.initialized RX5) (mu mw_169)) hK hP hD hS hA9 rfl (by decide) rfl dfX5 hC1 (room_1s hT4 hbl) dX1_init_5 (fun ad6 H hn7 hP hD hS => ?_)
  rw [← ec2, ← eL4, ← eM5] at hP hD
  refine W_cs (k := L4.length) (n := wt L4) (by rw [eL4]) (by rw [eL4]) ?_
  refine W_st (st' := [.ref (ad6 c2), .ref (ad a)]) (by rw [ec2]) ?_
  have hT : y.1 = L4 ++ w3.1 := by rw [hT4, eL4]
  have h2 : y.2 = w3.2 := by rw [h2, ew3]
  have hl := lv_sub (l' := [(0, .ref (ad a))]) hl [0] rfl
  have e9 : ([(0, .ref (ad a))] : List (Nat × Value)) = [(0, .ref (ad6 a))] := (by first | rfl | simp only [hn7 a hc])
  rw [e9] at hl
  clear e9
  refine W_st (st' := [.ref (ad6 c2), .ref (ad6 a)]) (by first | rfl | simp only [hn7 a hc]) ?_
  have hk : (xt G L4).2.1 a = 1 := by rw [eL4]; exact xt_k _ hc hk
  have hc : a < (xt G L4).1 := by rw [eL4]; exact xt_l _ hc
  have hag := agr_t (xt_ge _ _) hag hn7
  have hc2 : c2 < (xt G L4).1 := by rw [ec2, eL4]; exact cnt_new _ _ _
  have hk2 : (xt G L4).2.1 c2 = 5 := by rw [ec2, eL4]; exact (kind_new _ _ _ _).1
  refine lv_dup hx hb dX1_init_8 rfl ?_
  obtain ⟨y8, hy8, hF⟩ := bnd_some hF
  obtain ⟨w9, hF, ew9⟩ := app_some hF
  obtain ⟨L10, eL10, hF⟩ := ltt_some hF
  have hT10 : y.1 = (L4 ++ y8.1) ++ w9.1 := by rw [hT, ew9]; simp only [List.append_assoc]
  have hf9 := wA_in hD hA9 hS
  refine va_callv (va_runI (As := []) (rest := [.ref (ad6 c2), .ref (ad6 a)]) ⟨hx, hb, hml, hown, hts⟩ (kX5_init l D ct ad6 Z (xt G L4) M5 _ c2 y8 hc2 hk2 hy8) (cwI 0 hts gX1_init_X5_init rfl rfl rfl (hts (.initialized RX5) (mu mw_169)) (hts (.methodLink RX1 11 yX5_init) (mu mw_275)) (hts (.instanceMethod yX5_init) (mu mw_276)) rfl (by decide +kernel) ⟨Nat.le_of_ble_eq_true rfl, Nat.le_of_ble_eq_true rfl⟩) ⟨fun a U g mk q => by obtain ⟨q0, q1, qP, qK, qD, qZ, qN⟩ := q; exact ⟨q0, q1, qP, va_K.moved (u := U) (U := U.calling g mk a) (Vm.Alike.refl U.vm) qK, qD, sF.moved (u := U) (U := U.calling g mk a) (Vm.Alike.refl U.vm) qZ, nF.same rfl qN⟩, fun U hU hW => ⟨rfl, by rw [hU], by rw [hU]; exact hP, va_K.moved hW.alike hK, hD.weaken (fun _ _ _ _ => trivial), by rw [hU]; exact ((hZ.kept hS.2.1).narrow hf9).moved hW.alike, hN.warm hW⟩⟩ rfl rfl hl.1 rfl (lv_room (Nat.le_of_ble_eq_true rfl)) dX1_init_9 (room_s hT10 hbl)) hS (fun q _ h => hf9 q h) hf9 (fun ad11 t H locs ht hvm hw hB hz1 hk1 hS => ?_)
  have hn12 := hw
  obtain ⟨hP, hK9, hD9⟩ := hB
  rw [ht] at hP
  have hD := hD9.weaken (fun _ q _ h => hf9 q.1 h)
  rw [xt_xt, ← eL10] at hP hD
  refine W_cs (k := L10.length) (n := wt L10) (by rw [eL10]; exact (len_s L4 y8.1).symm) (by rw [eL10]; exact (wt_app L4 y8.1).symm) ?_
  have hT : y.1 = L10 ++ w9.1 := by rw [hT10, eL10]
  have h2 : y.2 = w9.2 := by rw [h2, ew9]
  have hl := lv_sub (l' := [(0, .ref (ad6 a))]) hl [0] rfl
  have e9 : ([(0, .ref (ad6 a))] : List (Nat × Value)) = [(0, .ref (ad11 a))] := (by first | rfl | simp only [hn12 a hc])
  rw [e9] at hl
  clear e9
  refine W_st (st' := [.ref (ad11 c2), .ref (ad11 a)]) (by first | rfl | simp only [hn12 c2 hc2, hn12 a hc]) ?_
  have hk : (xt G L10).2.1 a = 1 := by rw [eL10]; exact xt_k _ hc hk
  have hc : a < (xt G L10).1 := by rw [eL10]; exact xt_l _ hc
  have hk2 : (xt G L10).2.1 c2 = 5 := by rw [eL10]; exact xt_k _ hc2 hk2
  have hc2 : c2 < (xt G L10).1 := by rw [eL10]; exact xt_l _ hc2
  have hag := agr_t (xt_ge _ _) hag hn12
  refine va_putF (D := D) (ci := 1) (v := va_re ad11 (some c2)) (ty := (.object "VideoSuite$Reader")) (C := RX1) (T := TX1) (N := 22) hx hb hts (mus hf_X1) tyX1 tyX1_ok nmX1 hown hK hP hD hS a (wld_o ct ad11 (xt G L10) y8.2 hc hk (by decide)) rfl 0 (by decide) (hts (.fieldLink RX1 12 "VideoSuite$Decoder" "reader" "LVideoSuite$Reader;") (mu mw_640)) (fun _ h9 => h9) rfl hin rfl (by decide +kernel) (nar_q ad11 (Or.inl ⟨_, rfl⟩) (some c2)).1 (nar_q ad11 (Or.inl ⟨_, rfl⟩) (some c2)).2 (Nat.le_of_ble_eq_true rfl) dX1_init_12 (fun H locs hP hD hS => ?_)
  obtain ⟨M13, eM13, hF⟩ := ltt_some hF
  rw [set_oP ct ad11 (xt G L10) y8.2 hc hk (by decide) (by rfl), ← eM13] at hP hD
  refine lv_aload_n hx hb dX1_init_15 rfl (lv_at hl 0 rfl) ?_
  obtain ⟨hC14, hF⟩ := chkP_some hF
  obtain ⟨c15, ec15, hF⟩ := ltt_some hF
  obtain ⟨w16, hF, ew16⟩ := app_some hF
  obtain ⟨L17, eL17, hF⟩ := ltt_some hF
  have hT17 : y.1 = (L10 ++ [(7, 0)]) ++ w16.1 := by rw [hT, ew16]; simp only [List.append_assoc]
  obtain ⟨M18, eM18, hF⟩ := ltt_some hF
  refine new_o (T := TX7) (κ := 7) hx hb hts (mus hf_X7) tyX7 tyX7_ok hown (hts (.classLink RX1 18 RX7) (mu mw_345)) (hts (.instantiable RX7 17) (mu mw_346)) (hts (.initialized RX7) (mu mw_170)) hK hP hD hS hA9 rfl (by decide) rfl dfX7 hC14 (room_1s hT17 hbl) dX1_init_16 (fun ad19 H hn20 hP hD hS => ?_)
  rw [← ec15, ← eL17, ← eM18] at hP hD
  refine W_cs (k := L17.length) (n := wt L17) (by rw [eL17]) (by rw [eL17]) ?_
  refine W_st (st' := [.ref (ad19 c15), .ref (ad11 a)]) (by rw [ec15]) ?_
  have hT : y.1 = L17 ++ w16.1 := by rw [hT17, eL17]
  have h2 : y.2 = w16.2 := by rw [h2, ew16]
  have hl := lv_sub (l' := [(0, .ref (ad11 a))]) hl [0] rfl
  have e9 : ([(0, .ref (ad11 a))] : List (Nat × Value)) = [(0, .ref (ad19 a))] := (by first | rfl | simp only [hn20 a hc])
  rw [e9] at hl
  clear e9
  refine W_st (st' := [.ref (ad19 c15), .ref (ad19 a)]) (by first | rfl | simp only [hn20 a hc]) ?_
  have hk : (xt G L17).2.1 a = 1 := by rw [eL17]; exact xt_k _ hc hk
  have hc : a < (xt G L17).1 := by rw [eL17]; exact xt_l _ hc
  have hk2 : (xt G L17).2.1 c2 = 5 := by rw [eL17]; exact xt_k _ hc2 hk2
  have hc2 : c2 < (xt G L17).1 := by rw [eL17]; exact xt_l _ hc2
  have hag := agr_t (xt_ge _ _) hag hn20
  have hc15 : c15 < (xt G L17).1 := by rw [ec15, eL17]; exact cnt_new _ _ _
  have hk15 : (xt G L17).2.1 c15 = 7 := by rw [ec15, eL17]; exact (kind_new _ _ _ _).1
  refine lv_dup hx hb dX1_init_19 rfl ?_
  obtain ⟨y21, hy21, hF⟩ := bnd_some hF
  obtain ⟨w22, hF, ew22⟩ := app_some hF
  obtain ⟨L23, eL23, hF⟩ := ltt_some hF
  have hT23 : y.1 = (L17 ++ y21.1) ++ w22.1 := by rw [hT, ew22]; simp only [List.append_assoc]
  have hf9 := wA_in hD hA9 hS
  refine va_callv (va_runIN (As := []) (rest := [.ref (ad19 c15), .ref (ad19 a)]) ⟨hx, hb, hml, hown, hts⟩ (kX7_init l D ct ad19 Z (xt G L17) M18 _ c15 y21 hc15 hk15 hy21) ⟨va_cnB 0 hts gX1_init_X7_init_n20 rfl rfl rfl (hN.1 (RX1, 20, yX7_init, RX11) (List.mem_of_getElem? (i := 11) rfl)) (hts (.initialized RX7) (mu mw_170)) (by decide +kernel) ⟨Nat.le_of_ble_eq_true rfl, Nat.le_of_ble_eq_true rfl⟩, rfl, (hts (.instanceMethod yX7_init) (mu mw_348))⟩ ⟨fun a U g mk q => by obtain ⟨q0, q1, qP, qK, qD, qZ, qN⟩ := q; exact ⟨q0, q1, qP, va_K.moved (u := U) (U := U.calling g mk a) (Vm.Alike.refl U.vm) qK, qD, sF.moved (u := U) (U := U.calling g mk a) (Vm.Alike.refl U.vm) qZ, nF.same rfl qN⟩, fun U hU hW => ⟨rfl, by rw [hU], by rw [hU]; exact hP, va_K.moved hW.alike hK, hD.weaken (fun _ _ _ _ => trivial), by rw [hU]; exact ((hZ.kept hS.2.1).narrow hf9).moved hW.alike, hN.warm hW⟩⟩ rfl rfl hl.1 rfl (lv_room (Nat.le_of_ble_eq_true rfl)) dX1_init_20 (room_s hT23 hbl)) hS (fun q _ h => hf9 q h) hf9 (fun ad24 t H locs ht hvm hw hB hz1 hk1 hS => ?_)
  have hn25 := hw
  obtain ⟨hP, hK9, hD9⟩ := hB
  rw [ht] at hP
  have hD := hD9.weaken (fun _ q _ h => hf9 q.1 h)
  rw [xt_xt, ← eL23] at hP hD
  refine W_cs (k := L23.length) (n := wt L23) (by rw [eL23]; exact (len_s L17 y21.1).symm) (by rw [eL23]; exact (wt_app L17 y21.1).symm) ?_
  have hT : y.1 = L23 ++ w22.1 := by rw [hT23, eL23]
  have h2 : y.2 = w22.2 := by rw [h2, ew22]
  have hl := lv_sub (l' := [(0, .ref (ad19 a))]) hl [0] rfl
  have e9 : ([(0, .ref (ad19 a))] : List (Nat × Value)) = [(0, .ref (ad24 a))] := (by first | rfl | simp only [hn25 a hc])
  rw [e9] at hl
  clear e9
  refine W_st (st' := [.ref (ad24 c15), .ref (ad24 a)]) (by first | rfl | simp only [hn25 c15 hc15, hn25 a hc]) ?_
  have hk : (xt G L23).2.1 a = 1 := by rw [eL23]; exact xt_k _ hc hk
  have hc : a < (xt G L23).1 := by rw [eL23]; exact xt_l _ hc
  have hk2 : (xt G L23).2.1 c2 = 5 := by rw [eL23]; exact xt_k _ hc2 hk2
  have hc2 : c2 < (xt G L23).1 := by rw [eL23]; exact xt_l _ hc2
  have hk15 : (xt G L23).2.1 c15 = 7 := by rw [eL23]; exact xt_k _ hc15 hk15
  have hc15 : c15 < (xt G L23).1 := by rw [eL23]; exact xt_l _ hc15
  have hag := agr_t (xt_ge _ _) hag hn25
  refine va_putF (D := D) (ci := 1) (v := va_re ad24 (some c15)) (ty := (.object "VideoSuite$Store")) (C := RX1) (T := TX1) (N := 22) hx hb hts (mus hf_X1) tyX1 tyX1_ok nmX1 hown hK hP hD hS a (wld_o ct ad24 (xt G L23) y21.2 hc hk (by decide)) rfl 1 (by decide) (hts (.fieldLink RX1 21 "VideoSuite$Decoder" "store" "LVideoSuite$Store;") (mu mw_642)) (fun _ h9 => h9) rfl hin rfl (by decide +kernel) (nar_q ad24 (Or.inl ⟨_, rfl⟩) (some c15)).1 (nar_q ad24 (Or.inl ⟨_, rfl⟩) (some c15)).2 (Nat.le_of_ble_eq_true rfl) dX1_init_23 (fun H locs hP hD hS => ?_)
  obtain ⟨M26, eM26, hF⟩ := ltt_some hF
  rw [set_oP ct ad24 (xt G L23) y21.2 hc hk (by decide) (by rfl), ← eM26] at hP hD
  refine lv_aload_n hx hb dX1_init_26 rfl (lv_at hl 0 rfl) ?_
  obtain ⟨hC27, hF⟩ := chkP_some hF
  obtain ⟨c28, ec28, hF⟩ := ltt_some hF
  obtain ⟨w29, hF, ew29⟩ := app_some hF
  obtain ⟨L30, eL30, hF⟩ := ltt_some hF
  have hT30 : y.1 = (L23 ++ [(9, 0)]) ++ w29.1 := by rw [hT, ew29]; simp only [List.append_assoc]
  obtain ⟨M31, eM31, hF⟩ := ltt_some hF
  refine new_o (T := TX9) (κ := 9) hx hb hts (mus hf_X9) tyX9 tyX9_ok hown (hts (.classLink RX1 25 RX9) (mu mw_412)) (hts (.instantiable RX9 20) (mu mw_413)) (hts (.initialized RX9) (mu mw_171)) hK hP hD hS hA9 rfl (by decide) rfl dfX9 hC27 (room_1s hT30 hbl) dX1_init_27 (fun ad32 H hn33 hP hD hS => ?_)
  rw [← ec28, ← eL30, ← eM31] at hP hD
  refine W_cs (k := L30.length) (n := wt L30) (by rw [eL30]) (by rw [eL30]) ?_
  refine W_st (st' := [.ref (ad32 c28), .ref (ad24 a)]) (by rw [ec28]) ?_
  have hT : y.1 = L30 ++ w29.1 := by rw [hT30, eL30]
  have h2 : y.2 = w29.2 := by rw [h2, ew29]
  have hl := lv_sub (l' := [(0, .ref (ad24 a))]) hl [0] rfl
  have e9 : ([(0, .ref (ad24 a))] : List (Nat × Value)) = [(0, .ref (ad32 a))] := (by first | rfl | simp only [hn33 a hc])
  rw [e9] at hl
  clear e9
  refine W_st (st' := [.ref (ad32 c28), .ref (ad32 a)]) (by first | rfl | simp only [hn33 a hc]) ?_
  have hk : (xt G L30).2.1 a = 1 := by rw [eL30]; exact xt_k _ hc hk
  have hc : a < (xt G L30).1 := by rw [eL30]; exact xt_l _ hc
  have hk2 : (xt G L30).2.1 c2 = 5 := by rw [eL30]; exact xt_k _ hc2 hk2
  have hc2 : c2 < (xt G L30).1 := by rw [eL30]; exact xt_l _ hc2
  have hk15 : (xt G L30).2.1 c15 = 7 := by rw [eL30]; exact xt_k _ hc15 hk15
  have hc15 : c15 < (xt G L30).1 := by rw [eL30]; exact xt_l _ hc15
  have hag := agr_t (xt_ge _ _) hag hn33
  have hc28 : c28 < (xt G L30).1 := by rw [ec28, eL30]; exact cnt_new _ _ _
  have hk28 : (xt G L30).2.1 c28 = 9 := by rw [ec28, eL30]; exact (kind_new _ _ _ _).1
  refine lv_dup hx hb dX1_init_30 rfl ?_
  obtain ⟨y34, hy34, hF⟩ := bnd_some hF
  obtain ⟨w35, hF, ew35⟩ := app_some hF
  obtain ⟨L36, eL36, hF⟩ := ltt_some hF
  have hT36 : y.1 = (L30 ++ y34.1) ++ w35.1 := by rw [hT, ew35]; simp only [List.append_assoc]
  have hf9 := wA_in hD hA9 hS
  refine va_callv (va_runIN (As := []) (rest := [.ref (ad32 c28), .ref (ad32 a)]) ⟨hx, hb, hml, hown, hts⟩ (kX9_init l D ct ad32 Z (xt G L30) M31 _ c28 y34 hc28 hk28 hy34) ⟨va_cnB 0 hts gX1_init_X9_init_n27 rfl rfl rfl (hN.1 (RX1, 27, yX9_init, RX11) (List.mem_of_getElem? (i := 12) rfl)) (hts (.initialized RX9) (mu mw_171)) (by decide +kernel) ⟨Nat.le_of_ble_eq_true rfl, Nat.le_of_ble_eq_true rfl⟩, rfl, (hts (.instanceMethod yX9_init) (mu mw_415))⟩ ⟨fun a U g mk q => by obtain ⟨q0, q1, qP, qK, qD, qZ, qN⟩ := q; exact ⟨q0, q1, qP, va_K.moved (u := U) (U := U.calling g mk a) (Vm.Alike.refl U.vm) qK, qD, sF.moved (u := U) (U := U.calling g mk a) (Vm.Alike.refl U.vm) qZ, nF.same rfl qN⟩, fun U hU hW => ⟨rfl, by rw [hU], by rw [hU]; exact hP, va_K.moved hW.alike hK, hD.weaken (fun _ _ _ _ => trivial), by rw [hU]; exact ((hZ.kept hS.2.1).narrow hf9).moved hW.alike, hN.warm hW⟩⟩ rfl rfl hl.1 rfl (lv_room (Nat.le_of_ble_eq_true rfl)) dX1_init_31 (room_s hT36 hbl)) hS (fun q _ h => hf9 q h) hf9 (fun ad37 t H locs ht hvm hw hB hz1 hk1 hS => ?_)
  have hn38 := hw
  obtain ⟨hP, hK9, hD9⟩ := hB
  rw [ht] at hP
  have hD := hD9.weaken (fun _ q _ h => hf9 q.1 h)
  rw [xt_xt, ← eL36] at hP hD
  refine W_cs (k := L36.length) (n := wt L36) (by rw [eL36]; exact (len_s L30 y34.1).symm) (by rw [eL36]; exact (wt_app L30 y34.1).symm) ?_
  have hT : y.1 = L36 ++ w35.1 := by rw [hT36, eL36]
  have h2 : y.2 = w35.2 := by rw [h2, ew35]
  have hl := lv_sub (l' := [(0, .ref (ad32 a))]) hl [0] rfl
  have e9 : ([(0, .ref (ad32 a))] : List (Nat × Value)) = [(0, .ref (ad37 a))] := (by first | rfl | simp only [hn38 a hc])
  rw [e9] at hl
  clear e9
  refine W_st (st' := [.ref (ad37 c28), .ref (ad37 a)]) (by first | rfl | simp only [hn38 c28 hc28, hn38 a hc]) ?_
  have hk : (xt G L36).2.1 a = 1 := by rw [eL36]; exact xt_k _ hc hk
  have hc : a < (xt G L36).1 := by rw [eL36]; exact xt_l _ hc
  have hk2 : (xt G L36).2.1 c2 = 5 := by rw [eL36]; exact xt_k _ hc2 hk2
  have hc2 : c2 < (xt G L36).1 := by rw [eL36]; exact xt_l _ hc2
  have hk15 : (xt G L36).2.1 c15 = 7 := by rw [eL36]; exact xt_k _ hc15 hk15
  have hc15 : c15 < (xt G L36).1 := by rw [eL36]; exact xt_l _ hc15
  have hk28 : (xt G L36).2.1 c28 = 9 := by rw [eL36]; exact xt_k _ hc28 hk28
  have hc28 : c28 < (xt G L36).1 := by rw [eL36]; exact xt_l _ hc28
  have hag := agr_t (xt_ge _ _) hag hn38
  refine va_putF (D := D) (ci := 1) (v := va_re ad37 (some c28)) (ty := (.object "VideoSuite$Work")) (C := RX1) (T := TX1) (N := 22) hx hb hts (mus hf_X1) tyX1 tyX1_ok nmX1 hown hK hP hD hS a (wld_o ct ad37 (xt G L36) y34.2 hc hk (by decide)) rfl 2 (by decide) (hts (.fieldLink RX1 28 "VideoSuite$Decoder" "work" "LVideoSuite$Work;") (mu mw_644)) (fun _ h9 => h9) rfl hin rfl (by decide +kernel) (nar_q ad37 (Or.inl ⟨_, rfl⟩) (some c28)).1 (nar_q ad37 (Or.inl ⟨_, rfl⟩) (some c28)).2 (Nat.le_of_ble_eq_true rfl) dX1_init_34 (fun H locs hP hD hS => ?_)
  obtain ⟨M39, eM39, hF⟩ := ltt_some hF
  rw [set_oP ct ad37 (xt G L36) y34.2 hc hk (by decide) (by rfl), ← eM39] at hP hD
  refine lv_aload_n hx hb dX1_init_37 rfl (lv_at hl 0 rfl) ?_
  obtain ⟨hC40, hF⟩ := chkP_some hF
  obtain ⟨c41, ec41, hF⟩ := ltt_some hF
  obtain ⟨w42, hF, ew42⟩ := app_some hF
  obtain ⟨L43, eL43, hF⟩ := ltt_some hF
  have hT43 : y.1 = (L36 ++ [(6, 0)]) ++ w42.1 := by rw [hT, ew42]; simp only [List.append_assoc]
  obtain ⟨M44, eM44, hF⟩ := ltt_some hF
  refine new_o (T := TX6) (κ := 6) hx hb hts (mus hf_X6) tyX6 tyX6_ok hown (hts (.classLink RX1 32 RX6) (mu mw_527)) (hts (.instantiable RX6 14) (mu mw_528)) (hts (.initialized RX6) (mu mw_172)) hK hP hD hS hA9 rfl (by decide) rfl dfX6 hC40 (room_1s hT43 hbl) dX1_init_38 (fun ad45 H hn46 hP hD hS => ?_)
  rw [← ec41, ← eL43, ← eM44] at hP hD
  refine W_cs (k := L43.length) (n := wt L43) (by rw [eL43]) (by rw [eL43]) ?_
  refine W_st (st' := [.ref (ad45 c41), .ref (ad37 a)]) (by rw [ec41]) ?_
  have hT : y.1 = L43 ++ w42.1 := by rw [hT43, eL43]
  have h2 : y.2 = w42.2 := by rw [h2, ew42]
  have hl := lv_sub (l' := [(0, .ref (ad37 a))]) hl [0] rfl
  have e9 : ([(0, .ref (ad37 a))] : List (Nat × Value)) = [(0, .ref (ad45 a))] := (by first | rfl | simp only [hn46 a hc])
  rw [e9] at hl
  clear e9
  refine W_st (st' := [.ref (ad45 c41), .ref (ad45 a)]) (by first | rfl | simp only [hn46 a hc]) ?_
  have hk : (xt G L43).2.1 a = 1 := by rw [eL43]; exact xt_k _ hc hk
  have hc : a < (xt G L43).1 := by rw [eL43]; exact xt_l _ hc
  have hk2 : (xt G L43).2.1 c2 = 5 := by rw [eL43]; exact xt_k _ hc2 hk2
  have hc2 : c2 < (xt G L43).1 := by rw [eL43]; exact xt_l _ hc2
  have hk15 : (xt G L43).2.1 c15 = 7 := by rw [eL43]; exact xt_k _ hc15 hk15
  have hc15 : c15 < (xt G L43).1 := by rw [eL43]; exact xt_l _ hc15
  have hk28 : (xt G L43).2.1 c28 = 9 := by rw [eL43]; exact xt_k _ hc28 hk28
  have hc28 : c28 < (xt G L43).1 := by rw [eL43]; exact xt_l _ hc28
  have hag := agr_t (xt_ge _ _) hag hn46
  have hc41 : c41 < (xt G L43).1 := by rw [ec41, eL43]; exact cnt_new _ _ _
  have hk41 : (xt G L43).2.1 c41 = 6 := by rw [ec41, eL43]; exact (kind_new _ _ _ _).1
  refine lv_dup hx hb dX1_init_41 rfl ?_
  obtain ⟨y47, hy47, hF⟩ := bnd_some hF
  obtain ⟨w48, hF, ew48⟩ := app_some hF
  obtain ⟨L49, eL49, hF⟩ := ltt_some hF
  have hT49 : y.1 = (L43 ++ y47.1) ++ w48.1 := by rw [hT, ew48]; simp only [List.append_assoc]
  have hf9 := wA_in hD hA9 hS
  refine va_callv (va_runIN (As := []) (rest := [.ref (ad45 c41), .ref (ad45 a)]) ⟨hx, hb, hml, hown, hts⟩ (kX6_init l D ct ad45 Z (xt G L43) M44 _ c41 y47 hc41 hk41 hy47) ⟨va_cnB 0 hts gX1_init_X6_init_n34 rfl rfl rfl (hN.1 (RX1, 34, yX6_init, RX11) (List.mem_of_getElem? (i := 13) rfl)) (hts (.initialized RX6) (mu mw_172)) (by decide +kernel) ⟨Nat.le_of_ble_eq_true rfl, Nat.le_of_ble_eq_true rfl⟩, rfl, (hts (.instanceMethod yX6_init) (mu mw_530))⟩ ⟨fun a U g mk q => by obtain ⟨q0, q1, qP, qK, qD, qZ, qN⟩ := q; exact ⟨q0, q1, qP, va_K.moved (u := U) (U := U.calling g mk a) (Vm.Alike.refl U.vm) qK, qD, sF.moved (u := U) (U := U.calling g mk a) (Vm.Alike.refl U.vm) qZ, nF.same rfl qN⟩, fun U hU hW => ⟨rfl, by rw [hU], by rw [hU]; exact hP, va_K.moved hW.alike hK, hD.weaken (fun _ _ _ _ => trivial), by rw [hU]; exact ((hZ.kept hS.2.1).narrow hf9).moved hW.alike, hN.warm hW⟩⟩ rfl rfl hl.1 rfl (lv_room (Nat.le_of_ble_eq_true rfl)) dX1_init_42 (room_s hT49 hbl)) hS (fun q _ h => hf9 q h) hf9 (fun ad50 t H locs ht hvm hw hB hz1 hk1 hS => ?_)
  have hn51 := hw
  obtain ⟨hP, hK9, hD9⟩ := hB
  rw [ht] at hP
  have hD := hD9.weaken (fun _ q _ h => hf9 q.1 h)
  rw [xt_xt, ← eL49] at hP hD
  refine W_cs (k := L49.length) (n := wt L49) (by rw [eL49]; exact (len_s L43 y47.1).symm) (by rw [eL49]; exact (wt_app L43 y47.1).symm) ?_
  have hT : y.1 = L49 ++ w48.1 := by rw [hT49, eL49]
  have h2 : y.2 = w48.2 := by rw [h2, ew48]
  have hl := lv_sub (l' := [(0, .ref (ad45 a))]) hl [0] rfl
  have e9 : ([(0, .ref (ad45 a))] : List (Nat × Value)) = [(0, .ref (ad50 a))] := (by first | rfl | simp only [hn51 a hc])
  rw [e9] at hl
  clear e9
  refine W_st (st' := [.ref (ad50 c41), .ref (ad50 a)]) (by first | rfl | simp only [hn51 c41 hc41, hn51 a hc]) ?_
  have hk : (xt G L49).2.1 a = 1 := by rw [eL49]; exact xt_k _ hc hk
  have hc : a < (xt G L49).1 := by rw [eL49]; exact xt_l _ hc
  have hk2 : (xt G L49).2.1 c2 = 5 := by rw [eL49]; exact xt_k _ hc2 hk2
  have hc2 : c2 < (xt G L49).1 := by rw [eL49]; exact xt_l _ hc2
  have hk15 : (xt G L49).2.1 c15 = 7 := by rw [eL49]; exact xt_k _ hc15 hk15
  have hc15 : c15 < (xt G L49).1 := by rw [eL49]; exact xt_l _ hc15
  have hk28 : (xt G L49).2.1 c28 = 9 := by rw [eL49]; exact xt_k _ hc28 hk28
  have hc28 : c28 < (xt G L49).1 := by rw [eL49]; exact xt_l _ hc28
  have hk41 : (xt G L49).2.1 c41 = 6 := by rw [eL49]; exact xt_k _ hc41 hk41
  have hc41 : c41 < (xt G L49).1 := by rw [eL49]; exact xt_l _ hc41
  have hag := agr_t (xt_ge _ _) hag hn51
  refine va_putF (D := D) (ci := 1) (v := va_re ad50 (some c41)) (ty := (.object "VideoSuite$Samples")) (C := RX1) (T := TX1) (N := 22) hx hb hts (mus hf_X1) tyX1 tyX1_ok nmX1 hown hK hP hD hS a (wld_o ct ad50 (xt G L49) y47.2 hc hk (by decide)) rfl 3 (by decide) (hts (.fieldLink RX1 35 "VideoSuite$Decoder" "samples" "LVideoSuite$Samples;") (mu mw_645)) (fun _ h9 => h9) rfl hin rfl (by decide +kernel) (nar_q ad50 (Or.inl ⟨_, rfl⟩) (some c41)).1 (nar_q ad50 (Or.inl ⟨_, rfl⟩) (some c41)).2 (Nat.le_of_ble_eq_true rfl) dX1_init_45 (fun H locs hP hD hS => ?_)
  obtain ⟨M52, eM52, hF⟩ := ltt_some hF
  rw [set_oP ct ad50 (xt G L49) y47.2 hc hk (by decide) (by rfl), ← eM52] at hP hD
  refine lv_aload_n hx hb dX1_init_48 rfl (lv_at hl 0 rfl) ?_
  obtain ⟨hC53, hF⟩ := chkP_some hF
  obtain ⟨c54, ec54, hF⟩ := ltt_some hF
  obtain ⟨w55, hF, ew55⟩ := app_some hF
  obtain ⟨L56, eL56, hF⟩ := ltt_some hF
  have hT56 : y.1 = (L49 ++ [(2, 0)]) ++ w55.1 := by rw [hT, ew55]; simp only [List.append_assoc]
  obtain ⟨M57, eM57, hF⟩ := ltt_some hF
  refine new_o (T := TX2) (κ := 2) hx hb hts (mus hf_X2) tyX2 tyX2_ok hown (hts (.classLink RX1 39 RX2) (mu mw_579)) (hts (.instantiable RX2 7) (mu mw_580)) (hts (.initialized RX2) (mu mw_173)) hK hP hD hS hA9 rfl (by decide) rfl dfX2 hC53 (room_1s hT56 hbl) dX1_init_49 (fun ad58 H hn59 hP hD hS => ?_)
  rw [← ec54, ← eL56, ← eM57] at hP hD
  refine W_cs (k := L56.length) (n := wt L56) (by rw [eL56]) (by rw [eL56]) ?_
  refine W_st (st' := [.ref (ad58 c54), .ref (ad50 a)]) (by rw [ec54]) ?_
  have hT : y.1 = L56 ++ w55.1 := by rw [hT56, eL56]
  have h2 : y.2 = w55.2 := by rw [h2, ew55]
  have hl := lv_sub (l' := [(0, .ref (ad50 a))]) hl [0] rfl
  have e9 : ([(0, .ref (ad50 a))] : List (Nat × Value)) = [(0, .ref (ad58 a))] := (by first | rfl | simp only [hn59 a hc])
  rw [e9] at hl
  clear e9
  refine W_st (st' := [.ref (ad58 c54), .ref (ad58 a)]) (by first | rfl | simp only [hn59 a hc]) ?_
  have hk : (xt G L56).2.1 a = 1 := by rw [eL56]; exact xt_k _ hc hk
  have hc : a < (xt G L56).1 := by rw [eL56]; exact xt_l _ hc
  have hk2 : (xt G L56).2.1 c2 = 5 := by rw [eL56]; exact xt_k _ hc2 hk2
  have hc2 : c2 < (xt G L56).1 := by rw [eL56]; exact xt_l _ hc2
  have hk15 : (xt G L56).2.1 c15 = 7 := by rw [eL56]; exact xt_k _ hc15 hk15
  have hc15 : c15 < (xt G L56).1 := by rw [eL56]; exact xt_l _ hc15
  have hk28 : (xt G L56).2.1 c28 = 9 := by rw [eL56]; exact xt_k _ hc28 hk28
  have hc28 : c28 < (xt G L56).1 := by rw [eL56]; exact xt_l _ hc28
  have hk41 : (xt G L56).2.1 c41 = 6 := by rw [eL56]; exact xt_k _ hc41 hk41
  have hc41 : c41 < (xt G L56).1 := by rw [eL56]; exact xt_l _ hc41
  have hag := agr_t (xt_ge _ _) hag hn59
  have hc54 : c54 < (xt G L56).1 := by rw [ec54, eL56]; exact cnt_new _ _ _
  have hk54 : (xt G L56).2.1 c54 = 2 := by rw [ec54, eL56]; exact (kind_new _ _ _ _).1
  refine lv_dup hx hb dX1_init_52 rfl ?_
  obtain ⟨y60, hy60, hF⟩ := bnd_some hF
  obtain ⟨w61, hF, ew61⟩ := app_some hF
  obtain ⟨L62, eL62, hF⟩ := ltt_some hF
  have hT62 : y.1 = (L56 ++ y60.1) ++ w61.1 := by rw [hT, ew61]; simp only [List.append_assoc]
  have hf9 := wA_in hD hA9 hS
  refine va_callv (va_runIN (As := []) (rest := [.ref (ad58 c54), .ref (ad58 a)]) ⟨hx, hb, hml, hown, hts⟩ (kX2_init l D ct ad58 Z (xt G L56) M57 _ c54 y60 hc54 hk54 hy60) ⟨va_cnB 0 hts gX1_init_X2_init_n41 rfl rfl rfl (hN.1 (RX1, 41, yX2_init, RX11) (List.mem_of_getElem? (i := 14) rfl)) (hts (.initialized RX2) (mu mw_173)) (by decide +kernel) ⟨Nat.le_of_ble_eq_true rfl, Nat.le_of_ble_eq_true rfl⟩, rfl, (hts (.instanceMethod yX2_init) (mu mw_582))⟩ ⟨fun a U g mk q => by obtain ⟨q0, q1, qP, qK, qD, qZ, qN⟩ := q; exact ⟨q0, q1, qP, va_K.moved (u := U) (U := U.calling g mk a) (Vm.Alike.refl U.vm) qK, qD, sF.moved (u := U) (U := U.calling g mk a) (Vm.Alike.refl U.vm) qZ, nF.same rfl qN⟩, fun U hU hW => ⟨rfl, by rw [hU], by rw [hU]; exact hP, va_K.moved hW.alike hK, hD.weaken (fun _ _ _ _ => trivial), by rw [hU]; exact ((hZ.kept hS.2.1).narrow hf9).moved hW.alike, hN.warm hW⟩⟩ rfl rfl hl.1 rfl (lv_room (Nat.le_of_ble_eq_true rfl)) dX1_init_53 (room_s hT62 hbl)) hS (fun q _ h => hf9 q h) hf9 (fun ad63 t H locs ht hvm hw hB hz1 hk1 hS => ?_)
  have hn64 := hw
  obtain ⟨hP, hK9, hD9⟩ := hB
  rw [ht] at hP
  have hD := hD9.weaken (fun _ q _ h => hf9 q.1 h)
  rw [xt_xt, ← eL62] at hP hD
  refine W_cs (k := L62.length) (n := wt L62) (by rw [eL62]; exact (len_s L56 y60.1).symm) (by rw [eL62]; exact (wt_app L56 y60.1).symm) ?_
  have hT : y.1 = L62 ++ w61.1 := by rw [hT62, eL62]
  have h2 : y.2 = w61.2 := by rw [h2, ew61]
  have hl := lv_sub (l' := [(0, .ref (ad58 a))]) hl [0] rfl
  have e9 : ([(0, .ref (ad58 a))] : List (Nat × Value)) = [(0, .ref (ad63 a))] := (by first | rfl | simp only [hn64 a hc])
  rw [e9] at hl
  clear e9
  refine W_st (st' := [.ref (ad63 c54), .ref (ad63 a)]) (by first | rfl | simp only [hn64 c54 hc54, hn64 a hc]) ?_
  have hk : (xt G L62).2.1 a = 1 := by rw [eL62]; exact xt_k _ hc hk
  have hc : a < (xt G L62).1 := by rw [eL62]; exact xt_l _ hc
  have hk2 : (xt G L62).2.1 c2 = 5 := by rw [eL62]; exact xt_k _ hc2 hk2
  have hc2 : c2 < (xt G L62).1 := by rw [eL62]; exact xt_l _ hc2
  have hk15 : (xt G L62).2.1 c15 = 7 := by rw [eL62]; exact xt_k _ hc15 hk15
  have hc15 : c15 < (xt G L62).1 := by rw [eL62]; exact xt_l _ hc15
  have hk28 : (xt G L62).2.1 c28 = 9 := by rw [eL62]; exact xt_k _ hc28 hk28
  have hc28 : c28 < (xt G L62).1 := by rw [eL62]; exact xt_l _ hc28
  have hk41 : (xt G L62).2.1 c41 = 6 := by rw [eL62]; exact xt_k _ hc41 hk41
  have hc41 : c41 < (xt G L62).1 := by rw [eL62]; exact xt_l _ hc41
  have hk54 : (xt G L62).2.1 c54 = 2 := by rw [eL62]; exact xt_k _ hc54 hk54
  have hc54 : c54 < (xt G L62).1 := by rw [eL62]; exact xt_l _ hc54
  have hag := agr_t (xt_ge _ _) hag hn64
  refine va_putF (D := D) (ci := 1) (v := va_re ad63 (some c54)) (ty := (.object "VideoSuite$Edges")) (C := RX1) (T := TX1) (N := 22) hx hb hts (mus hf_X1) tyX1 tyX1_ok nmX1 hown hK hP hD hS a (wld_o ct ad63 (xt G L62) y60.2 hc hk (by decide)) rfl 4 (by decide) (hts (.fieldLink RX1 42 "VideoSuite$Decoder" "edges" "LVideoSuite$Edges;") (mu mw_646)) (fun _ h9 => h9) rfl hin rfl (by decide +kernel) (nar_q ad63 (Or.inl ⟨_, rfl⟩) (some c54)).1 (nar_q ad63 (Or.inl ⟨_, rfl⟩) (some c54)).2 (Nat.le_of_ble_eq_true rfl) dX1_init_56 (fun H locs hP hD hS => ?_)
  obtain ⟨M65, eM65, hF⟩ := ltt_some hF
  rw [set_oP ct ad63 (xt G L62) y60.2 hc hk (by decide) (by rfl), ← eM65] at hP hD
  refine lv_aload_n hx hb dX1_init_59 rfl (lv_at hl 0 rfl) ?_
  refine lv_iconst (v := (4 : Int32)) hx hb dX1_init_60 (by decide) ?_
  refine lv_bipush (v := (24 : Int32)) hx hb dX1_init_61 (by decide) ?_
  obtain ⟨hC66, hF⟩ := chkP_some hF
  obtain ⟨c67, ec67, hF⟩ := ltt_some hF
  obtain ⟨w68, hF, ew68⟩ := app_some hF
  obtain ⟨L69, eL69, hF⟩ := ltt_some hF
  have hT69 : y.1 = (L62 ++ mrel 4 24) ++ w68.1 := by rw [hT, ew68]; simp only [List.append_assoc]
  obtain ⟨M70, eM70, hF⟩ := ltt_some hF
  refine new_g (n := (4 : Int32)) (k := (24 : Int32)) (n0 := 4) (k0 := 24) hx hb hown (hts (.classLink RX1 46 "[[I") (mu mw_608)) (va_AOA.use hN.2.2.1) (hts (.arrayClass .int) (mu mw_266)) hK hP hD hS hA9 (by decide) (by decide) rfl rfl (by decide) (by decide) hC66 (room_s hT69 hbl) dX1_init_63 (fun ad71 H hn72 hP hD hS => ?_)
  rw [← eL69, ← ec67] at hP hD
  rw [← eM70] at hP hD
  refine W_cs (k := L69.length) (n := wt L69) (by rw [eL69]) (by rw [eL69]) ?_
  refine W_st (st' := [.ref (ad71 c67), .ref (ad63 a)]) (by rw [ec67]) ?_
  have hT : y.1 = L69 ++ w68.1 := by rw [hT69, eL69]
  have h2 : y.2 = w68.2 := by rw [h2, ew68]
  have hl := lv_sub (l' := [(0, .ref (ad63 a))]) hl [0] rfl
  have e9 : ([(0, .ref (ad63 a))] : List (Nat × Value)) = [(0, .ref (ad71 a))] := (by first | rfl | simp only [hn72 a hc])
  rw [e9] at hl
  clear e9
  refine W_st (st' := [.ref (ad71 c67), .ref (ad71 a)]) (by first | rfl | simp only [hn72 a hc]) ?_
  have hk : (xt G L69).2.1 a = 1 := by rw [eL69]; exact xt_k _ hc hk
  have hc : a < (xt G L69).1 := by rw [eL69]; exact xt_l _ hc
  have hk2 : (xt G L69).2.1 c2 = 5 := by rw [eL69]; exact xt_k _ hc2 hk2
  have hc2 : c2 < (xt G L69).1 := by rw [eL69]; exact xt_l _ hc2
  have hk15 : (xt G L69).2.1 c15 = 7 := by rw [eL69]; exact xt_k _ hc15 hk15
  have hc15 : c15 < (xt G L69).1 := by rw [eL69]; exact xt_l _ hc15
  have hk28 : (xt G L69).2.1 c28 = 9 := by rw [eL69]; exact xt_k _ hc28 hk28
  have hc28 : c28 < (xt G L69).1 := by rw [eL69]; exact xt_l _ hc28
  have hk41 : (xt G L69).2.1 c41 = 6 := by rw [eL69]; exact xt_k _ hc41 hk41
  have hc41 : c41 < (xt G L69).1 := by rw [eL69]; exact xt_l _ hc41
  have hk54 : (xt G L69).2.1 c54 = 2 := by rw [eL69]; exact xt_k _ hc54 hk54
  have hc54 : c54 < (xt G L69).1 := by rw [eL69]; exact xt_l _ hc54
  have hag := agr_t (xt_ge _ _) hag hn72
  have hc67 : c67 < (xt G L69).1 := by rw [ec67, eL69]; exact cnt_g _ _ _ _
  have hk67 : (xt G L69).2.1 c67 = 15 := by rw [ec67, eL69]; exact kind_g _ _ _ _
  refine va_putF (D := D) (ci := 1) (v := va_re ad71 (some c67)) (ty := (.array (.array .int))) (C := RX1) (T := TX1) (N := 22) hx hb hts (mus hf_X1) tyX1 tyX1_ok nmX1 hown hK hP hD hS a (wld_o ct ad71 (xt G L69) M70 hc hk (by decide)) rfl 5 (by decide) (hts (.fieldLink RX1 48 "VideoSuite$Decoder" "sequences" "[[I") (mu mw_647)) (fun _ h9 => h9) rfl hin rfl (by decide +kernel) (nar_q ad71 (Or.inr ⟨_, rfl⟩) (some c67)).1 (nar_q ad71 (Or.inr ⟨_, rfl⟩) (some c67)).2 (Nat.le_of_ble_eq_true rfl) dX1_init_67 (fun H locs hP hD hS => ?_)
  obtain ⟨M73, eM73, hF⟩ := ltt_some hF
  rw [set_oP ct ad71 (xt G L69) M70 hc hk (by decide) (by rfl), ← eM73] at hP hD
  refine lv_aload_n hx hb dX1_init_70 rfl (lv_at hl 0 rfl) ?_
  refine lv_iconst (v := (4 : Int32)) hx hb dX1_init_71 (by decide) ?_
  refine lv_bipush (v := (12 : Int32)) hx hb dX1_init_72 (by decide) ?_
  obtain ⟨hC74, hF⟩ := chkP_some hF
  obtain ⟨c75, ec75, hF⟩ := ltt_some hF
  obtain ⟨w76, hF, ew76⟩ := app_some hF
  obtain ⟨L77, eL77, hF⟩ := ltt_some hF
  have hT77 : y.1 = (L69 ++ mrel 4 12) ++ w76.1 := by rw [hT, ew76]; simp only [List.append_assoc]
  obtain ⟨M78, eM78, hF⟩ := ltt_some hF
  refine new_g (n := (4 : Int32)) (k := (12 : Int32)) (n0 := 4) (k0 := 12) hx hb hown (hts (.classLink RX1 46 "[[I") (mu mw_608)) (va_AOA.use hN.2.2.1) (hts (.arrayClass .int) (mu mw_266)) hK hP hD hS hA9 (by decide) (by decide) rfl rfl (by decide) (by decide) hC74 (room_s hT77 hbl) dX1_init_74 (fun ad79 H hn80 hP hD hS => ?_)
  rw [← eL77, ← ec75] at hP hD
  rw [← eM78] at hP hD
  refine W_cs (k := L77.length) (n := wt L77) (by rw [eL77]) (by rw [eL77]) ?_
  refine W_st (st' := [.ref (ad79 c75), .ref (ad71 a)]) (by rw [ec75]) ?_
  have hT : y.1 = L77 ++ w76.1 := by rw [hT77, eL77]
  have h2 : y.2 = w76.2 := by rw [h2, ew76]
  have hl := lv_sub (l' := [(0, .ref (ad71 a))]) hl [0] rfl
  have e9 : ([(0, .ref (ad71 a))] : List (Nat × Value)) = [(0, .ref (ad79 a))] := (by first | rfl | simp only [hn80 a hc])
  rw [e9] at hl
  clear e9
  refine W_st (st' := [.ref (ad79 c75), .ref (ad79 a)]) (by first | rfl | simp only [hn80 a hc]) ?_
  have hk : (xt G L77).2.1 a = 1 := by rw [eL77]; exact xt_k _ hc hk
  have hc : a < (xt G L77).1 := by rw [eL77]; exact xt_l _ hc
  have hk2 : (xt G L77).2.1 c2 = 5 := by rw [eL77]; exact xt_k _ hc2 hk2
  have hc2 : c2 < (xt G L77).1 := by rw [eL77]; exact xt_l _ hc2
  have hk15 : (xt G L77).2.1 c15 = 7 := by rw [eL77]; exact xt_k _ hc15 hk15
  have hc15 : c15 < (xt G L77).1 := by rw [eL77]; exact xt_l _ hc15
  have hk28 : (xt G L77).2.1 c28 = 9 := by rw [eL77]; exact xt_k _ hc28 hk28
  have hc28 : c28 < (xt G L77).1 := by rw [eL77]; exact xt_l _ hc28
  have hk41 : (xt G L77).2.1 c41 = 6 := by rw [eL77]; exact xt_k _ hc41 hk41
  have hc41 : c41 < (xt G L77).1 := by rw [eL77]; exact xt_l _ hc41
  have hk54 : (xt G L77).2.1 c54 = 2 := by rw [eL77]; exact xt_k _ hc54 hk54
  have hc54 : c54 < (xt G L77).1 := by rw [eL77]; exact xt_l _ hc54
  have hk67 : (xt G L77).2.1 c67 = 15 := by rw [eL77]; exact xt_k _ hc67 hk67
  have hc67 : c67 < (xt G L77).1 := by rw [eL77]; exact xt_l _ hc67
  have hag := agr_t (xt_ge _ _) hag hn80
  have hc75 : c75 < (xt G L77).1 := by rw [ec75, eL77]; exact cnt_g _ _ _ _
  have hk75 : (xt G L77).2.1 c75 = 15 := by rw [ec75, eL77]; exact kind_g _ _ _ _
  refine va_putF (D := D) (ci := 1) (v := va_re ad79 (some c75)) (ty := (.array (.array .int))) (C := RX1) (T := TX1) (N := 22) hx hb hts (mus hf_X1) tyX1 tyX1_ok nmX1 hown hK hP hD hS a (wld_o ct ad79 (xt G L77) M78 hc hk (by decide)) rfl 6 (by decide) (hts (.fieldLink RX1 51 "VideoSuite$Decoder" "parameters" "[[I") (mu mw_648)) (fun _ h9 => h9) rfl hin rfl (by decide +kernel) (nar_q ad79 (Or.inr ⟨_, rfl⟩) (some c75)).1 (nar_q ad79 (Or.inr ⟨_, rfl⟩) (some c75)).2 (Nat.le_of_ble_eq_true rfl) dX1_init_78 (fun H locs hP hD hS => ?_)
  obtain ⟨M81, eM81, hF⟩ := ltt_some hF
  rw [set_oP ct ad79 (xt G L77) M78 hc hk (by decide) (by rfl), ← eM81] at hP hD
  refine lv_aload_n hx hb dX1_init_81 rfl (lv_at hl 0 rfl) ?_
  refine lv_bipush (v := (24 : Int32)) hx hb dX1_init_82 (by decide) ?_
  obtain ⟨hC82, hF⟩ := chkP_some hF
  obtain ⟨hz9, hF⟩ := chk_some hF
  obtain ⟨c83, ec83, hF⟩ := ltt_some hF
  obtain ⟨w84, hF, ew84⟩ := app_some hF
  obtain ⟨L85, eL85, hF⟩ := ltt_some hF
  have hT85 : y.1 = (L77 ++ [(13, ((24 : Int32)).toNatClampNeg)]) ++ w84.1 := by rw [hT, ew84]; simp only [List.append_assoc]
  obtain ⟨M86, eM86, hF⟩ := ltt_some hF
  refine new_i hx hb (hts (.arrayClass .int) (mu mw_266)) hK hP hD hS hA9 hz9.1 hz9.2 hC82 (room_1s hT85 hbl) dX1_init_84 (fun ad87 H hn88 hP hD hS => ?_)
  rw [← ec83, ← eL85, ← eM86] at hP hD
  refine W_cs (k := L85.length) (n := wt L85) (by rw [eL85]) (by rw [eL85]) ?_
  refine W_st (st' := [.ref (ad87 c83), .ref (ad79 a)]) (by rw [ec83]) ?_
  have hT : y.1 = L85 ++ w84.1 := by rw [hT85, eL85]
  have h2 : y.2 = w84.2 := by rw [h2, ew84]
  have hl := lv_sub (l' := [(0, .ref (ad79 a))]) hl [0] rfl
  have e9 : ([(0, .ref (ad79 a))] : List (Nat × Value)) = [(0, .ref (ad87 a))] := (by first | rfl | simp only [hn88 a hc])
  rw [e9] at hl
  clear e9
  refine W_st (st' := [.ref (ad87 c83), .ref (ad87 a)]) (by first | rfl | simp only [hn88 a hc]) ?_
  have hk : (xt G L85).2.1 a = 1 := by rw [eL85]; exact xt_k _ hc hk
  have hc : a < (xt G L85).1 := by rw [eL85]; exact xt_l _ hc
  have hk2 : (xt G L85).2.1 c2 = 5 := by rw [eL85]; exact xt_k _ hc2 hk2
  have hc2 : c2 < (xt G L85).1 := by rw [eL85]; exact xt_l _ hc2
  have hk15 : (xt G L85).2.1 c15 = 7 := by rw [eL85]; exact xt_k _ hc15 hk15
  have hc15 : c15 < (xt G L85).1 := by rw [eL85]; exact xt_l _ hc15
  have hk28 : (xt G L85).2.1 c28 = 9 := by rw [eL85]; exact xt_k _ hc28 hk28
  have hc28 : c28 < (xt G L85).1 := by rw [eL85]; exact xt_l _ hc28
  have hk41 : (xt G L85).2.1 c41 = 6 := by rw [eL85]; exact xt_k _ hc41 hk41
  have hc41 : c41 < (xt G L85).1 := by rw [eL85]; exact xt_l _ hc41
  have hk54 : (xt G L85).2.1 c54 = 2 := by rw [eL85]; exact xt_k _ hc54 hk54
  have hc54 : c54 < (xt G L85).1 := by rw [eL85]; exact xt_l _ hc54
  have hk67 : (xt G L85).2.1 c67 = 15 := by rw [eL85]; exact xt_k _ hc67 hk67
  have hc67 : c67 < (xt G L85).1 := by rw [eL85]; exact xt_l _ hc67
  have hk75 : (xt G L85).2.1 c75 = 15 := by rw [eL85]; exact xt_k _ hc75 hk75
  have hc75 : c75 < (xt G L85).1 := by rw [eL85]; exact xt_l _ hc75
  have hag := agr_t (xt_ge _ _) hag hn88
  have hc83 : c83 < (xt G L85).1 := by rw [ec83, eL85]; exact cnt_new _ _ _
  have hk83 : (xt G L85).2.1 c83 = 13 := by rw [ec83, eL85]; exact (kind_new _ _ _ _).1
  refine va_putF (D := D) (ci := 1) (v := va_re ad87 (some c83)) (ty := (.array .int)) (C := RX1) (T := TX1) (N := 22) hx hb hts (mus hf_X1) tyX1 tyX1_ok nmX1 hown hK hP hD hS a (wld_o ct ad87 (xt G L85) M86 hc hk (by decide)) rfl 7 (by decide) (hts (.fieldLink RX1 54 "VideoSuite$Decoder" "active" "[I") (mu mw_649)) (fun _ h9 => h9) rfl hin rfl (by decide +kernel) (nar_q ad87 (Or.inr ⟨_, rfl⟩) (some c83)).1 (nar_q ad87 (Or.inr ⟨_, rfl⟩) (some c83)).2 (Nat.le_of_ble_eq_true rfl) dX1_init_86 (fun H locs hP hD hS => ?_)
  obtain ⟨M89, eM89, hF⟩ := ltt_some hF
  rw [set_oP ct ad87 (xt G L85) M86 hc hk (by decide) (by rfl), ← eM89] at hP hD
  refine lv_aload_n hx hb dX1_init_89 rfl (lv_at hl 0 rfl) ?_
  refine lv_iconst (v := (-1 : Int32)) hx hb dX1_init_90 (by decide) ?_
  refine va_put (D := D) (ci := 1) (v := .int (-1 : Int32)) (ty := .int) (C := RX1) (T := TX1) (N := 22) hx hb hts (mus hf_X1) tyX1 tyX1_ok nmX1 hown hK hP hD hS a (wld_o ct ad87 (xt G L85) M89 hc hk (by decide)) rfl 8 (by decide) (hts (.fieldLink RX1 58 "VideoSuite$Decoder" "activeId" "I") (mu mw_650)) (fun _ h9 => h9) rfl (by decide +kernel) rfl rfl (Nat.le_of_ble_eq_true rfl) dX1_init_91 (fun H locs hP hD hS => ?_)
  obtain ⟨M90, eM90, hF⟩ := ltt_some hF
  rw [set_oI ct ad87 (xt G L85) M89 hc hk (by decide) (by rfl), ← eM90] at hP hD
  refine lv_aload_n hx hb dX1_init_94 rfl (lv_at hl 0 rfl) ?_
  refine lv_bipush (v := (24 : Int32)) hx hb dX1_init_95 (by decide) ?_
  obtain ⟨hC91, hF⟩ := chkP_some hF
  obtain ⟨hz9, hF⟩ := chk_some hF
  obtain ⟨c92, ec92, hF⟩ := ltt_some hF
  obtain ⟨w93, hF, ew93⟩ := app_some hF
  obtain ⟨L94, eL94, hF⟩ := ltt_some hF
  have hT94 : y.1 = (L85 ++ [(13, ((24 : Int32)).toNatClampNeg)]) ++ w93.1 := by rw [hT, ew93]; simp only [List.append_assoc]
  obtain ⟨M95, eM95, hF⟩ := ltt_some hF
  refine new_i hx hb (hts (.arrayClass .int) (mu mw_266)) hK hP hD hS hA9 hz9.1 hz9.2 hC91 (room_1s hT94 hbl) dX1_init_97 (fun ad96 H hn97 hP hD hS => ?_)
  rw [← ec92, ← eL94, ← eM95] at hP hD
  refine W_cs (k := L94.length) (n := wt L94) (by rw [eL94]) (by rw [eL94]) ?_
  refine W_st (st' := [.ref (ad96 c92), .ref (ad87 a)]) (by rw [ec92]) ?_
  have hT : y.1 = L94 ++ w93.1 := by rw [hT94, eL94]
  have h2 : y.2 = w93.2 := by rw [h2, ew93]
  have hl := lv_sub (l' := [(0, .ref (ad87 a))]) hl [0] rfl
  have e9 : ([(0, .ref (ad87 a))] : List (Nat × Value)) = [(0, .ref (ad96 a))] := (by first | rfl | simp only [hn97 a hc])
  rw [e9] at hl
  clear e9
  refine W_st (st' := [.ref (ad96 c92), .ref (ad96 a)]) (by first | rfl | simp only [hn97 a hc]) ?_
  have hk : (xt G L94).2.1 a = 1 := by rw [eL94]; exact xt_k _ hc hk
  have hc : a < (xt G L94).1 := by rw [eL94]; exact xt_l _ hc
  have hk2 : (xt G L94).2.1 c2 = 5 := by rw [eL94]; exact xt_k _ hc2 hk2
  have hc2 : c2 < (xt G L94).1 := by rw [eL94]; exact xt_l _ hc2
  have hk15 : (xt G L94).2.1 c15 = 7 := by rw [eL94]; exact xt_k _ hc15 hk15
  have hc15 : c15 < (xt G L94).1 := by rw [eL94]; exact xt_l _ hc15
  have hk28 : (xt G L94).2.1 c28 = 9 := by rw [eL94]; exact xt_k _ hc28 hk28
  have hc28 : c28 < (xt G L94).1 := by rw [eL94]; exact xt_l _ hc28
  have hk41 : (xt G L94).2.1 c41 = 6 := by rw [eL94]; exact xt_k _ hc41 hk41
  have hc41 : c41 < (xt G L94).1 := by rw [eL94]; exact xt_l _ hc41
  have hk54 : (xt G L94).2.1 c54 = 2 := by rw [eL94]; exact xt_k _ hc54 hk54
  have hc54 : c54 < (xt G L94).1 := by rw [eL94]; exact xt_l _ hc54
  have hk67 : (xt G L94).2.1 c67 = 15 := by rw [eL94]; exact xt_k _ hc67 hk67
  have hc67 : c67 < (xt G L94).1 := by rw [eL94]; exact xt_l _ hc67
  have hk75 : (xt G L94).2.1 c75 = 15 := by rw [eL94]; exact xt_k _ hc75 hk75
  have hc75 : c75 < (xt G L94).1 := by rw [eL94]; exact xt_l _ hc75
  have hk83 : (xt G L94).2.1 c83 = 13 := by rw [eL94]; exact xt_k _ hc83 hk83
  have hc83 : c83 < (xt G L94).1 := by rw [eL94]; exact xt_l _ hc83
  have hag := agr_t (xt_ge _ _) hag hn97
  have hc92 : c92 < (xt G L94).1 := by rw [ec92, eL94]; exact cnt_new _ _ _
  have hk92 : (xt G L94).2.1 c92 = 13 := by rw [ec92, eL94]; exact (kind_new _ _ _ _).1
  refine va_putF (D := D) (ci := 1) (v := va_re ad96 (some c92)) (ty := (.array .int)) (C := RX1) (T := TX1) (N := 22) hx hb hts (mus hf_X1) tyX1 tyX1_ok nmX1 hown hK hP hD hS a (wld_o ct ad96 (xt G L94) M95 hc hk (by decide)) rfl 9 (by decide) (hts (.fieldLink RX1 62 "VideoSuite$Decoder" "draft" "[I") (mu mw_651)) (fun _ h9 => h9) rfl hin rfl (by decide +kernel) (nar_q ad96 (Or.inr ⟨_, rfl⟩) (some c92)).1 (nar_q ad96 (Or.inr ⟨_, rfl⟩) (some c92)).2 (Nat.le_of_ble_eq_true rfl) dX1_init_99 (fun H locs hP hD hS => ?_)
  obtain ⟨M98, eM98, hF⟩ := ltt_some hF
  rw [set_oP ct ad96 (xt G L94) M95 hc hk (by decide) (by rfl), ← eM98] at hP hD
  refine lv_aload_n hx hb dX1_init_102 rfl (lv_at hl 0 rfl) ?_
  obtain ⟨hC99, hF⟩ := chkP_some hF
  obtain ⟨c100, ec100, hF⟩ := ltt_some hF
  obtain ⟨w101, hF, ew101⟩ := app_some hF
  obtain ⟨L102, eL102, hF⟩ := ltt_some hF
  have hT102 : y.1 = (L94 ++ [(3, 0)]) ++ w101.1 := by rw [hT, ew101]; simp only [List.append_assoc]
  obtain ⟨M103, eM103, hF⟩ := ltt_some hF
  refine new_o (T := TX3) (κ := 3) hx hb hts (mus hf_X3) tyX3 tyX3_ok hown (hts (.classLink RX1 65 RX3) (mu mw_609)) (hts (.instantiable RX3 4) (mu mw_610)) (hts (.initialized RX3) (mu mw_174)) hK hP hD hS hA9 rfl (by decide) rfl dfX3 hC99 (room_1s hT102 hbl) dX1_init_103 (fun ad104 H hn105 hP hD hS => ?_)
  rw [← ec100, ← eL102, ← eM103] at hP hD
  refine W_cs (k := L102.length) (n := wt L102) (by rw [eL102]) (by rw [eL102]) ?_
  refine W_st (st' := [.ref (ad104 c100), .ref (ad96 a)]) (by rw [ec100]) ?_
  have hT : y.1 = L102 ++ w101.1 := by rw [hT102, eL102]
  have h2 : y.2 = w101.2 := by rw [h2, ew101]
  have hl := lv_sub (l' := [(0, .ref (ad96 a))]) hl [0] rfl
  have e9 : ([(0, .ref (ad96 a))] : List (Nat × Value)) = [(0, .ref (ad104 a))] := (by first | rfl | simp only [hn105 a hc])
  rw [e9] at hl
  clear e9
  refine W_st (st' := [.ref (ad104 c100), .ref (ad104 a)]) (by first | rfl | simp only [hn105 a hc]) ?_
  have hk : (xt G L102).2.1 a = 1 := by rw [eL102]; exact xt_k _ hc hk
  have hc : a < (xt G L102).1 := by rw [eL102]; exact xt_l _ hc
  have hk2 : (xt G L102).2.1 c2 = 5 := by rw [eL102]; exact xt_k _ hc2 hk2
  have hc2 : c2 < (xt G L102).1 := by rw [eL102]; exact xt_l _ hc2
  have hk15 : (xt G L102).2.1 c15 = 7 := by rw [eL102]; exact xt_k _ hc15 hk15
  have hc15 : c15 < (xt G L102).1 := by rw [eL102]; exact xt_l _ hc15
  have hk28 : (xt G L102).2.1 c28 = 9 := by rw [eL102]; exact xt_k _ hc28 hk28
  have hc28 : c28 < (xt G L102).1 := by rw [eL102]; exact xt_l _ hc28
  have hk41 : (xt G L102).2.1 c41 = 6 := by rw [eL102]; exact xt_k _ hc41 hk41
  have hc41 : c41 < (xt G L102).1 := by rw [eL102]; exact xt_l _ hc41
  have hk54 : (xt G L102).2.1 c54 = 2 := by rw [eL102]; exact xt_k _ hc54 hk54
  have hc54 : c54 < (xt G L102).1 := by rw [eL102]; exact xt_l _ hc54
  have hk67 : (xt G L102).2.1 c67 = 15 := by rw [eL102]; exact xt_k _ hc67 hk67
  have hc67 : c67 < (xt G L102).1 := by rw [eL102]; exact xt_l _ hc67
  have hk75 : (xt G L102).2.1 c75 = 15 := by rw [eL102]; exact xt_k _ hc75 hk75
  have hc75 : c75 < (xt G L102).1 := by rw [eL102]; exact xt_l _ hc75
  have hk83 : (xt G L102).2.1 c83 = 13 := by rw [eL102]; exact xt_k _ hc83 hk83
  have hc83 : c83 < (xt G L102).1 := by rw [eL102]; exact xt_l _ hc83
  have hk92 : (xt G L102).2.1 c92 = 13 := by rw [eL102]; exact xt_k _ hc92 hk92
  have hc92 : c92 < (xt G L102).1 := by rw [eL102]; exact xt_l _ hc92
  have hag := agr_t (xt_ge _ _) hag hn105
  have hc100 : c100 < (xt G L102).1 := by rw [ec100, eL102]; exact cnt_new _ _ _
  have hk100 : (xt G L102).2.1 c100 = 3 := by rw [ec100, eL102]; exact (kind_new _ _ _ _).1
  refine lv_dup hx hb dX1_init_106 rfl ?_
  obtain ⟨y106, hy106, hF⟩ := bnd_some hF
  obtain ⟨w107, hF, ew107⟩ := app_some hF
  obtain ⟨L108, eL108, hF⟩ := ltt_some hF
  have hT108 : y.1 = (L102 ++ y106.1) ++ w107.1 := by rw [hT, ew107]; simp only [List.append_assoc]
  have hf9 := wA_in hD hA9 hS
  refine va_callv (va_runIN (As := []) (rest := [.ref (ad104 c100), .ref (ad104 a)]) ⟨hx, hb, hml, hown, hts⟩ (kX3_init l D ct ad104 Z (xt G L102) M103 _ c100 y106 hc100 hk100 hy106) ⟨va_cnB 0 hts gX1_init_X3_init_n67 rfl rfl rfl (hN.1 (RX1, 67, yX3_init, RX11) (List.mem_of_getElem? (i := 15) rfl)) (hts (.initialized RX3) (mu mw_174)) (by decide +kernel) ⟨Nat.le_of_ble_eq_true rfl, Nat.le_of_ble_eq_true rfl⟩, rfl, (hts (.instanceMethod yX3_init) (mu mw_612))⟩ ⟨fun a U g mk q => by obtain ⟨q0, q1, qP, qK, qD, qZ, qN⟩ := q; exact ⟨q0, q1, qP, va_K.moved (u := U) (U := U.calling g mk a) (Vm.Alike.refl U.vm) qK, qD, sF.moved (u := U) (U := U.calling g mk a) (Vm.Alike.refl U.vm) qZ, nF.same rfl qN⟩, fun U hU hW => ⟨rfl, by rw [hU], by rw [hU]; exact hP, va_K.moved hW.alike hK, hD.weaken (fun _ _ _ _ => trivial), by rw [hU]; exact ((hZ.kept hS.2.1).narrow hf9).moved hW.alike, hN.warm hW⟩⟩ rfl rfl hl.1 rfl (lv_room (Nat.le_of_ble_eq_true rfl)) dX1_init_107 (room_s hT108 hbl)) hS (fun q _ h => hf9 q h) hf9 (fun ad109 t H locs ht hvm hw hB hz1 hk1 hS => ?_)
  have hn110 := hw
  obtain ⟨hP, hK9, hD9⟩ := hB
  rw [ht] at hP
  have hD := hD9.weaken (fun _ q _ h => hf9 q.1 h)
  rw [xt_xt, ← eL108] at hP hD
  refine W_cs (k := L108.length) (n := wt L108) (by rw [eL108]; exact (len_s L102 y106.1).symm) (by rw [eL108]; exact (wt_app L102 y106.1).symm) ?_
  have hT : y.1 = L108 ++ w107.1 := by rw [hT108, eL108]
  have h2 : y.2 = w107.2 := by rw [h2, ew107]
  have hl := lv_sub (l' := [(0, .ref (ad104 a))]) hl [0] rfl
  have e9 : ([(0, .ref (ad104 a))] : List (Nat × Value)) = [(0, .ref (ad109 a))] := (by first | rfl | simp only [hn110 a hc])
  rw [e9] at hl
  clear e9
  refine W_st (st' := [.ref (ad109 c100), .ref (ad109 a)]) (by first | rfl | simp only [hn110 c100 hc100, hn110 a hc]) ?_
  have hk : (xt G L108).2.1 a = 1 := by rw [eL108]; exact xt_k _ hc hk
  have hc : a < (xt G L108).1 := by rw [eL108]; exact xt_l _ hc
  have hk2 : (xt G L108).2.1 c2 = 5 := by rw [eL108]; exact xt_k _ hc2 hk2
  have hc2 : c2 < (xt G L108).1 := by rw [eL108]; exact xt_l _ hc2
  have hk15 : (xt G L108).2.1 c15 = 7 := by rw [eL108]; exact xt_k _ hc15 hk15
  have hc15 : c15 < (xt G L108).1 := by rw [eL108]; exact xt_l _ hc15
  have hk28 : (xt G L108).2.1 c28 = 9 := by rw [eL108]; exact xt_k _ hc28 hk28
  have hc28 : c28 < (xt G L108).1 := by rw [eL108]; exact xt_l _ hc28
  have hk41 : (xt G L108).2.1 c41 = 6 := by rw [eL108]; exact xt_k _ hc41 hk41
  have hc41 : c41 < (xt G L108).1 := by rw [eL108]; exact xt_l _ hc41
  have hk54 : (xt G L108).2.1 c54 = 2 := by rw [eL108]; exact xt_k _ hc54 hk54
  have hc54 : c54 < (xt G L108).1 := by rw [eL108]; exact xt_l _ hc54
  have hk67 : (xt G L108).2.1 c67 = 15 := by rw [eL108]; exact xt_k _ hc67 hk67
  have hc67 : c67 < (xt G L108).1 := by rw [eL108]; exact xt_l _ hc67
  have hk75 : (xt G L108).2.1 c75 = 15 := by rw [eL108]; exact xt_k _ hc75 hk75
  have hc75 : c75 < (xt G L108).1 := by rw [eL108]; exact xt_l _ hc75
  have hk83 : (xt G L108).2.1 c83 = 13 := by rw [eL108]; exact xt_k _ hc83 hk83
  have hc83 : c83 < (xt G L108).1 := by rw [eL108]; exact xt_l _ hc83
  have hk92 : (xt G L108).2.1 c92 = 13 := by rw [eL108]; exact xt_k _ hc92 hk92
  have hc92 : c92 < (xt G L108).1 := by rw [eL108]; exact xt_l _ hc92
  have hk100 : (xt G L108).2.1 c100 = 3 := by rw [eL108]; exact xt_k _ hc100 hk100
  have hc100 : c100 < (xt G L108).1 := by rw [eL108]; exact xt_l _ hc100
  have hag := agr_t (xt_ge _ _) hag hn110
  refine va_put (D := D) (ci := 1) (v := va_re ad109 (some c100)) (ty := (.object "VideoSuite$Header")) (C := RX1) (T := TX1) (N := 22) hx hb hts (mus hf_X1) tyX1 tyX1_ok nmX1 hown hK hP hD hS a (wld_o ct ad109 (xt G L108) y106.2 hc hk (by decide)) rfl 10 (by decide) (hts (.fieldLink RX1 68 "VideoSuite$Decoder" "head" "LVideoSuite$Header;") (mu mw_652)) (fun _ h9 => h9) rfl (by decide +kernel) (nar_q ad109 (Or.inl ⟨_, rfl⟩) (some c100)).1 (nar_q ad109 (Or.inl ⟨_, rfl⟩) (some c100)).2 (Nat.le_of_ble_eq_true rfl) dX1_init_110 (fun H locs hP hD hS => ?_)
  obtain ⟨M111, eM111, hF⟩ := ltt_some hF
  rw [set_oP ct ad109 (xt G L108) y106.2 hc hk (by decide) (by rfl), ← eM111] at hP hD
  refine lv_aload_n hx hb dX1_init_113 rfl (lv_at hl 0 rfl) ?_
  obtain ⟨hC112, hF⟩ := chkP_some hF
  obtain ⟨c113, ec113, hF⟩ := ltt_some hF
  obtain ⟨w114, hF, ew114⟩ := app_some hF
  obtain ⟨L115, eL115, hF⟩ := ltt_some hF
  have hT115 : y.1 = (L108 ++ [(3, 0)]) ++ w114.1 := by rw [hT, ew114]; simp only [List.append_assoc]
  obtain ⟨M116, eM116, hF⟩ := ltt_some hF
  refine new_o (T := TX3) (κ := 3) hx hb hts (mus hf_X3) tyX3 tyX3_ok hown (hts (.classLink RX1 65 RX3) (mu mw_609)) (hts (.instantiable RX3 4) (mu mw_610)) (hts (.initialized RX3) (mu mw_174)) hK hP hD hS hA9 rfl (by decide) rfl dfX3 hC112 (room_1s hT115 hbl) dX1_init_114 (fun ad117 H hn118 hP hD hS => ?_)
  rw [← ec113, ← eL115, ← eM116] at hP hD
  refine W_cs (k := L115.length) (n := wt L115) (by rw [eL115]) (by rw [eL115]) ?_
  refine W_st (st' := [.ref (ad117 c113), .ref (ad109 a)]) (by rw [ec113]) ?_
  have hT : y.1 = L115 ++ w114.1 := by rw [hT115, eL115]
  have h2 : y.2 = w114.2 := by rw [h2, ew114]
  have hl := lv_sub (l' := [(0, .ref (ad109 a))]) hl [0] rfl
  have e9 : ([(0, .ref (ad109 a))] : List (Nat × Value)) = [(0, .ref (ad117 a))] := (by first | rfl | simp only [hn118 a hc])
  rw [e9] at hl
  clear e9
  refine W_st (st' := [.ref (ad117 c113), .ref (ad117 a)]) (by first | rfl | simp only [hn118 a hc]) ?_
  have hk : (xt G L115).2.1 a = 1 := by rw [eL115]; exact xt_k _ hc hk
  have hc : a < (xt G L115).1 := by rw [eL115]; exact xt_l _ hc
  have hk2 : (xt G L115).2.1 c2 = 5 := by rw [eL115]; exact xt_k _ hc2 hk2
  have hc2 : c2 < (xt G L115).1 := by rw [eL115]; exact xt_l _ hc2
  have hk15 : (xt G L115).2.1 c15 = 7 := by rw [eL115]; exact xt_k _ hc15 hk15
  have hc15 : c15 < (xt G L115).1 := by rw [eL115]; exact xt_l _ hc15
  have hk28 : (xt G L115).2.1 c28 = 9 := by rw [eL115]; exact xt_k _ hc28 hk28
  have hc28 : c28 < (xt G L115).1 := by rw [eL115]; exact xt_l _ hc28
  have hk41 : (xt G L115).2.1 c41 = 6 := by rw [eL115]; exact xt_k _ hc41 hk41
  have hc41 : c41 < (xt G L115).1 := by rw [eL115]; exact xt_l _ hc41
  have hk54 : (xt G L115).2.1 c54 = 2 := by rw [eL115]; exact xt_k _ hc54 hk54
  have hc54 : c54 < (xt G L115).1 := by rw [eL115]; exact xt_l _ hc54
  have hk67 : (xt G L115).2.1 c67 = 15 := by rw [eL115]; exact xt_k _ hc67 hk67
  have hc67 : c67 < (xt G L115).1 := by rw [eL115]; exact xt_l _ hc67
  have hk75 : (xt G L115).2.1 c75 = 15 := by rw [eL115]; exact xt_k _ hc75 hk75
  have hc75 : c75 < (xt G L115).1 := by rw [eL115]; exact xt_l _ hc75
  have hk83 : (xt G L115).2.1 c83 = 13 := by rw [eL115]; exact xt_k _ hc83 hk83
  have hc83 : c83 < (xt G L115).1 := by rw [eL115]; exact xt_l _ hc83
  have hk92 : (xt G L115).2.1 c92 = 13 := by rw [eL115]; exact xt_k _ hc92 hk92
  have hc92 : c92 < (xt G L115).1 := by rw [eL115]; exact xt_l _ hc92
  have hk100 : (xt G L115).2.1 c100 = 3 := by rw [eL115]; exact xt_k _ hc100 hk100
  have hc100 : c100 < (xt G L115).1 := by rw [eL115]; exact xt_l _ hc100
  have hag := agr_t (xt_ge _ _) hag hn118
  have hc113 : c113 < (xt G L115).1 := by rw [ec113, eL115]; exact cnt_new _ _ _
  have hk113 : (xt G L115).2.1 c113 = 3 := by rw [ec113, eL115]; exact (kind_new _ _ _ _).1
  refine lv_dup hx hb dX1_init_117 rfl ?_
  obtain ⟨y119, hy119, hF⟩ := bnd_some hF
  obtain ⟨w120, hF, ew120⟩ := app_some hF
  obtain ⟨L121, eL121, hF⟩ := ltt_some hF
  have hT121 : y.1 = (L115 ++ y119.1) ++ w120.1 := by rw [hT, ew120]; simp only [List.append_assoc]
  have hf9 := wA_in hD hA9 hS
  refine va_callv (va_runIN (As := []) (rest := [.ref (ad117 c113), .ref (ad117 a)]) ⟨hx, hb, hml, hown, hts⟩ (kX3_init l D ct ad117 Z (xt G L115) M116 _ c113 y119 hc113 hk113 hy119) ⟨va_cnB 0 hts gX1_init_X3_init_n67 rfl rfl rfl (hN.1 (RX1, 67, yX3_init, RX11) (List.mem_of_getElem? (i := 15) rfl)) (hts (.initialized RX3) (mu mw_174)) (by decide +kernel) ⟨Nat.le_of_ble_eq_true rfl, Nat.le_of_ble_eq_true rfl⟩, rfl, (hts (.instanceMethod yX3_init) (mu mw_612))⟩ ⟨fun a U g mk q => by obtain ⟨q0, q1, qP, qK, qD, qZ, qN⟩ := q; exact ⟨q0, q1, qP, va_K.moved (u := U) (U := U.calling g mk a) (Vm.Alike.refl U.vm) qK, qD, sF.moved (u := U) (U := U.calling g mk a) (Vm.Alike.refl U.vm) qZ, nF.same rfl qN⟩, fun U hU hW => ⟨rfl, by rw [hU], by rw [hU]; exact hP, va_K.moved hW.alike hK, hD.weaken (fun _ _ _ _ => trivial), by rw [hU]; exact ((hZ.kept hS.2.1).narrow hf9).moved hW.alike, hN.warm hW⟩⟩ rfl rfl hl.1 rfl (lv_room (Nat.le_of_ble_eq_true rfl)) dX1_init_118 (room_s hT121 hbl)) hS (fun q _ h => hf9 q h) hf9 (fun ad122 t H locs ht hvm hw hB hz1 hk1 hS => ?_)
  have hn123 := hw
  obtain ⟨hP, hK9, hD9⟩ := hB
  rw [ht] at hP
  have hD := hD9.weaken (fun _ q _ h => hf9 q.1 h)
  rw [xt_xt, ← eL121] at hP hD
  refine W_cs (k := L121.length) (n := wt L121) (by rw [eL121]; exact (len_s L115 y119.1).symm) (by rw [eL121]; exact (wt_app L115 y119.1).symm) ?_
  have hT : y.1 = L121 ++ w120.1 := by rw [hT121, eL121]
  have h2 : y.2 = w120.2 := by rw [h2, ew120]
  have hl := lv_sub (l' := [(0, .ref (ad117 a))]) hl [0] rfl
  have e9 : ([(0, .ref (ad117 a))] : List (Nat × Value)) = [(0, .ref (ad122 a))] := (by first | rfl | simp only [hn123 a hc])
  rw [e9] at hl
  clear e9
  refine W_st (st' := [.ref (ad122 c113), .ref (ad122 a)]) (by first | rfl | simp only [hn123 c113 hc113, hn123 a hc]) ?_
  have hk : (xt G L121).2.1 a = 1 := by rw [eL121]; exact xt_k _ hc hk
  have hc : a < (xt G L121).1 := by rw [eL121]; exact xt_l _ hc
  have hk2 : (xt G L121).2.1 c2 = 5 := by rw [eL121]; exact xt_k _ hc2 hk2
  have hc2 : c2 < (xt G L121).1 := by rw [eL121]; exact xt_l _ hc2
  have hk15 : (xt G L121).2.1 c15 = 7 := by rw [eL121]; exact xt_k _ hc15 hk15
  have hc15 : c15 < (xt G L121).1 := by rw [eL121]; exact xt_l _ hc15
  have hk28 : (xt G L121).2.1 c28 = 9 := by rw [eL121]; exact xt_k _ hc28 hk28
  have hc28 : c28 < (xt G L121).1 := by rw [eL121]; exact xt_l _ hc28
  have hk41 : (xt G L121).2.1 c41 = 6 := by rw [eL121]; exact xt_k _ hc41 hk41
  have hc41 : c41 < (xt G L121).1 := by rw [eL121]; exact xt_l _ hc41
  have hk54 : (xt G L121).2.1 c54 = 2 := by rw [eL121]; exact xt_k _ hc54 hk54
  have hc54 : c54 < (xt G L121).1 := by rw [eL121]; exact xt_l _ hc54
  have hk67 : (xt G L121).2.1 c67 = 15 := by rw [eL121]; exact xt_k _ hc67 hk67
  have hc67 : c67 < (xt G L121).1 := by rw [eL121]; exact xt_l _ hc67
  have hk75 : (xt G L121).2.1 c75 = 15 := by rw [eL121]; exact xt_k _ hc75 hk75
  have hc75 : c75 < (xt G L121).1 := by rw [eL121]; exact xt_l _ hc75
  have hk83 : (xt G L121).2.1 c83 = 13 := by rw [eL121]; exact xt_k _ hc83 hk83
  have hc83 : c83 < (xt G L121).1 := by rw [eL121]; exact xt_l _ hc83
  have hk92 : (xt G L121).2.1 c92 = 13 := by rw [eL121]; exact xt_k _ hc92 hk92
  have hc92 : c92 < (xt G L121).1 := by rw [eL121]; exact xt_l _ hc92
  have hk100 : (xt G L121).2.1 c100 = 3 := by rw [eL121]; exact xt_k _ hc100 hk100
  have hc100 : c100 < (xt G L121).1 := by rw [eL121]; exact xt_l _ hc100
  have hk113 : (xt G L121).2.1 c113 = 3 := by rw [eL121]; exact xt_k _ hc113 hk113
  have hc113 : c113 < (xt G L121).1 := by rw [eL121]; exact xt_l _ hc113
  have hag := agr_t (xt_ge _ _) hag hn123
  refine va_put (D := D) (ci := 1) (v := va_re ad122 (some c113)) (ty := (.object "VideoSuite$Header")) (C := RX1) (T := TX1) (N := 22) hx hb hts (mus hf_X1) tyX1 tyX1_ok nmX1 hown hK hP hD hS a (wld_o ct ad122 (xt G L121) y119.2 hc hk (by decide)) rfl 11 (by decide) (hts (.fieldLink RX1 72 "VideoSuite$Decoder" "latest" "LVideoSuite$Header;") (mu mw_653)) (fun _ h9 => h9) rfl (by decide +kernel) (nar_q ad122 (Or.inl ⟨_, rfl⟩) (some c113)).1 (nar_q ad122 (Or.inl ⟨_, rfl⟩) (some c113)).2 (Nat.le_of_ble_eq_true rfl) dX1_init_121 (fun H locs hP hD hS => ?_)
  obtain ⟨M124, eM124, hF⟩ := ltt_some hF
  rw [set_oP ct ad122 (xt G L121) y119.2 hc hk (by decide) (by rfl), ← eM124] at hP hD
  refine lv_aload_n hx hb dX1_init_124 rfl (lv_at hl 0 rfl) ?_
  obtain ⟨hC125, hF⟩ := chkP_some hF
  obtain ⟨c126, ec126, hF⟩ := ltt_some hF
  obtain ⟨w127, hF, ew127⟩ := app_some hF
  obtain ⟨L128, eL128, hF⟩ := ltt_some hF
  have hT128 : y.1 = (L121 ++ [(3, 0)]) ++ w127.1 := by rw [hT, ew127]; simp only [List.append_assoc]
  obtain ⟨M129, eM129, hF⟩ := ltt_some hF
  refine new_o (T := TX3) (κ := 3) hx hb hts (mus hf_X3) tyX3 tyX3_ok hown (hts (.classLink RX1 65 RX3) (mu mw_609)) (hts (.instantiable RX3 4) (mu mw_610)) (hts (.initialized RX3) (mu mw_174)) hK hP hD hS hA9 rfl (by decide) rfl dfX3 hC125 (room_1s hT128 hbl) dX1_init_125 (fun ad130 H hn131 hP hD hS => ?_)
  rw [← ec126, ← eL128, ← eM129] at hP hD
  refine W_cs (k := L128.length) (n := wt L128) (by rw [eL128]) (by rw [eL128]) ?_
  refine W_st (st' := [.ref (ad130 c126), .ref (ad122 a)]) (by rw [ec126]) ?_
  have hT : y.1 = L128 ++ w127.1 := by rw [hT128, eL128]
  have h2 : y.2 = w127.2 := by rw [h2, ew127]
  have hl := lv_sub (l' := [(0, .ref (ad122 a))]) hl [0] rfl
  have e9 : ([(0, .ref (ad122 a))] : List (Nat × Value)) = [(0, .ref (ad130 a))] := (by first | rfl | simp only [hn131 a hc])
  rw [e9] at hl
  clear e9
  refine W_st (st' := [.ref (ad130 c126), .ref (ad130 a)]) (by first | rfl | simp only [hn131 a hc]) ?_
  have hk : (xt G L128).2.1 a = 1 := by rw [eL128]; exact xt_k _ hc hk
  have hc : a < (xt G L128).1 := by rw [eL128]; exact xt_l _ hc
  have hk2 : (xt G L128).2.1 c2 = 5 := by rw [eL128]; exact xt_k _ hc2 hk2
  have hc2 : c2 < (xt G L128).1 := by rw [eL128]; exact xt_l _ hc2
  have hk15 : (xt G L128).2.1 c15 = 7 := by rw [eL128]; exact xt_k _ hc15 hk15
  have hc15 : c15 < (xt G L128).1 := by rw [eL128]; exact xt_l _ hc15
  have hk28 : (xt G L128).2.1 c28 = 9 := by rw [eL128]; exact xt_k _ hc28 hk28
  have hc28 : c28 < (xt G L128).1 := by rw [eL128]; exact xt_l _ hc28
  have hk41 : (xt G L128).2.1 c41 = 6 := by rw [eL128]; exact xt_k _ hc41 hk41
  have hc41 : c41 < (xt G L128).1 := by rw [eL128]; exact xt_l _ hc41
  have hk54 : (xt G L128).2.1 c54 = 2 := by rw [eL128]; exact xt_k _ hc54 hk54
  have hc54 : c54 < (xt G L128).1 := by rw [eL128]; exact xt_l _ hc54
  have hk67 : (xt G L128).2.1 c67 = 15 := by rw [eL128]; exact xt_k _ hc67 hk67
  have hc67 : c67 < (xt G L128).1 := by rw [eL128]; exact xt_l _ hc67
  have hk75 : (xt G L128).2.1 c75 = 15 := by rw [eL128]; exact xt_k _ hc75 hk75
  have hc75 : c75 < (xt G L128).1 := by rw [eL128]; exact xt_l _ hc75
  have hk83 : (xt G L128).2.1 c83 = 13 := by rw [eL128]; exact xt_k _ hc83 hk83
  have hc83 : c83 < (xt G L128).1 := by rw [eL128]; exact xt_l _ hc83
  have hk92 : (xt G L128).2.1 c92 = 13 := by rw [eL128]; exact xt_k _ hc92 hk92
  have hc92 : c92 < (xt G L128).1 := by rw [eL128]; exact xt_l _ hc92
  have hk100 : (xt G L128).2.1 c100 = 3 := by rw [eL128]; exact xt_k _ hc100 hk100
  have hc100 : c100 < (xt G L128).1 := by rw [eL128]; exact xt_l _ hc100
  have hk113 : (xt G L128).2.1 c113 = 3 := by rw [eL128]; exact xt_k _ hc113 hk113
  have hc113 : c113 < (xt G L128).1 := by rw [eL128]; exact xt_l _ hc113
  have hag := agr_t (xt_ge _ _) hag hn131
  have hc126 : c126 < (xt G L128).1 := by rw [ec126, eL128]; exact cnt_new _ _ _
  have hk126 : (xt G L128).2.1 c126 = 3 := by rw [ec126, eL128]; exact (kind_new _ _ _ _).1
  refine lv_dup hx hb dX1_init_128 rfl ?_
  obtain ⟨y132, hy132, hF⟩ := bnd_some hF
  obtain ⟨w133, hF, ew133⟩ := app_some hF
  obtain ⟨L134, eL134, hF⟩ := ltt_some hF
  have hT134 : y.1 = (L128 ++ y132.1) ++ w133.1 := by rw [hT, ew133]; simp only [List.append_assoc]
  have hf9 := wA_in hD hA9 hS
  refine va_callv (va_runIN (As := []) (rest := [.ref (ad130 c126), .ref (ad130 a)]) ⟨hx, hb, hml, hown, hts⟩ (kX3_init l D ct ad130 Z (xt G L128) M129 _ c126 y132 hc126 hk126 hy132) ⟨va_cnB 0 hts gX1_init_X3_init_n67 rfl rfl rfl (hN.1 (RX1, 67, yX3_init, RX11) (List.mem_of_getElem? (i := 15) rfl)) (hts (.initialized RX3) (mu mw_174)) (by decide +kernel) ⟨Nat.le_of_ble_eq_true rfl, Nat.le_of_ble_eq_true rfl⟩, rfl, (hts (.instanceMethod yX3_init) (mu mw_612))⟩ ⟨fun a U g mk q => by obtain ⟨q0, q1, qP, qK, qD, qZ, qN⟩ := q; exact ⟨q0, q1, qP, va_K.moved (u := U) (U := U.calling g mk a) (Vm.Alike.refl U.vm) qK, qD, sF.moved (u := U) (U := U.calling g mk a) (Vm.Alike.refl U.vm) qZ, nF.same rfl qN⟩, fun U hU hW => ⟨rfl, by rw [hU], by rw [hU]; exact hP, va_K.moved hW.alike hK, hD.weaken (fun _ _ _ _ => trivial), by rw [hU]; exact ((hZ.kept hS.2.1).narrow hf9).moved hW.alike, hN.warm hW⟩⟩ rfl rfl hl.1 rfl (lv_room (Nat.le_of_ble_eq_true rfl)) dX1_init_129 (room_s hT134 hbl)) hS (fun q _ h => hf9 q h) hf9 (fun ad135 t H locs ht hvm hw hB hz1 hk1 hS => ?_)
  have hn136 := hw
  obtain ⟨hP, hK9, hD9⟩ := hB
  rw [ht] at hP
  have hD := hD9.weaken (fun _ q _ h => hf9 q.1 h)
  rw [xt_xt, ← eL134] at hP hD
  refine W_cs (k := L134.length) (n := wt L134) (by rw [eL134]; exact (len_s L128 y132.1).symm) (by rw [eL134]; exact (wt_app L128 y132.1).symm) ?_
  have hT : y.1 = L134 ++ w133.1 := by rw [hT134, eL134]
  have h2 : y.2 = w133.2 := by rw [h2, ew133]
  have hl := lv_sub (l' := [(0, .ref (ad130 a))]) hl [0] rfl
  have e9 : ([(0, .ref (ad130 a))] : List (Nat × Value)) = [(0, .ref (ad135 a))] := (by first | rfl | simp only [hn136 a hc])
  rw [e9] at hl
  clear e9
  refine W_st (st' := [.ref (ad135 c126), .ref (ad135 a)]) (by first | rfl | simp only [hn136 c126 hc126, hn136 a hc]) ?_
  have hk : (xt G L134).2.1 a = 1 := by rw [eL134]; exact xt_k _ hc hk
  have hc : a < (xt G L134).1 := by rw [eL134]; exact xt_l _ hc
  have hk2 : (xt G L134).2.1 c2 = 5 := by rw [eL134]; exact xt_k _ hc2 hk2
  have hc2 : c2 < (xt G L134).1 := by rw [eL134]; exact xt_l _ hc2
  have hk15 : (xt G L134).2.1 c15 = 7 := by rw [eL134]; exact xt_k _ hc15 hk15
  have hc15 : c15 < (xt G L134).1 := by rw [eL134]; exact xt_l _ hc15
  have hk28 : (xt G L134).2.1 c28 = 9 := by rw [eL134]; exact xt_k _ hc28 hk28
  have hc28 : c28 < (xt G L134).1 := by rw [eL134]; exact xt_l _ hc28
  have hk41 : (xt G L134).2.1 c41 = 6 := by rw [eL134]; exact xt_k _ hc41 hk41
  have hc41 : c41 < (xt G L134).1 := by rw [eL134]; exact xt_l _ hc41
  have hk54 : (xt G L134).2.1 c54 = 2 := by rw [eL134]; exact xt_k _ hc54 hk54
  have hc54 : c54 < (xt G L134).1 := by rw [eL134]; exact xt_l _ hc54
  have hk67 : (xt G L134).2.1 c67 = 15 := by rw [eL134]; exact xt_k _ hc67 hk67
  have hc67 : c67 < (xt G L134).1 := by rw [eL134]; exact xt_l _ hc67
  have hk75 : (xt G L134).2.1 c75 = 15 := by rw [eL134]; exact xt_k _ hc75 hk75
  have hc75 : c75 < (xt G L134).1 := by rw [eL134]; exact xt_l _ hc75
  have hk83 : (xt G L134).2.1 c83 = 13 := by rw [eL134]; exact xt_k _ hc83 hk83
  have hc83 : c83 < (xt G L134).1 := by rw [eL134]; exact xt_l _ hc83
  have hk92 : (xt G L134).2.1 c92 = 13 := by rw [eL134]; exact xt_k _ hc92 hk92
  have hc92 : c92 < (xt G L134).1 := by rw [eL134]; exact xt_l _ hc92
  have hk100 : (xt G L134).2.1 c100 = 3 := by rw [eL134]; exact xt_k _ hc100 hk100
  have hc100 : c100 < (xt G L134).1 := by rw [eL134]; exact xt_l _ hc100
  have hk113 : (xt G L134).2.1 c113 = 3 := by rw [eL134]; exact xt_k _ hc113 hk113
  have hc113 : c113 < (xt G L134).1 := by rw [eL134]; exact xt_l _ hc113
  have hk126 : (xt G L134).2.1 c126 = 3 := by rw [eL134]; exact xt_k _ hc126 hk126
  have hc126 : c126 < (xt G L134).1 := by rw [eL134]; exact xt_l _ hc126
  have hag := agr_t (xt_ge _ _) hag hn136
  refine va_putF (D := D) (ci := 1) (v := va_re ad135 (some c126)) (ty := (.object "VideoSuite$Header")) (C := RX1) (T := TX1) (N := 22) hx hb hts (mus hf_X1) tyX1 tyX1_ok nmX1 hown hK hP hD hS a (wld_o ct ad135 (xt G L134) y132.2 hc hk (by decide)) rfl 12 (by decide) (hts (.fieldLink RX1 75 "VideoSuite$Decoder" "first" "LVideoSuite$Header;") (mu mw_654)) (fun _ h9 => h9) rfl hin rfl (by decide +kernel) (nar_q ad135 (Or.inl ⟨_, rfl⟩) (some c126)).1 (nar_q ad135 (Or.inl ⟨_, rfl⟩) (some c126)).2 (Nat.le_of_ble_eq_true rfl) dX1_init_132 (fun H locs hP hD hS => ?_)
  obtain ⟨M137, eM137, hF⟩ := ltt_some hF
  rw [set_oP ct ad135 (xt G L134) y132.2 hc hk (by decide) (by rfl), ← eM137] at hP hD
  refine lv_aload_n hx hb dX1_init_135 rfl (lv_at hl 0 rfl) ?_
  refine lv_sipush (v := (600 : Int32)) hx hb dX1_init_136 (by decide) ?_
  obtain ⟨hC138, hF⟩ := chkP_some hF
  obtain ⟨hz9, hF⟩ := chk_some hF
  obtain ⟨c139, ec139, hF⟩ := ltt_some hF
  obtain ⟨w140, hF, ew140⟩ := app_some hF
  obtain ⟨L141, eL141, hF⟩ := ltt_some hF
  have hT141 : y.1 = (L134 ++ [(13, ((600 : Int32)).toNatClampNeg)]) ++ w140.1 := by rw [hT, ew140]; simp only [List.append_assoc]
  obtain ⟨M142, eM142, hF⟩ := ltt_some hF
  refine new_i hx hb (hts (.arrayClass .int) (mu mw_266)) hK hP hD hS hA9 hz9.1 hz9.2 hC138 (room_1s hT141 hbl) dX1_init_139 (fun ad143 H hn144 hP hD hS => ?_)
  rw [← ec139, ← eL141, ← eM142] at hP hD
  refine W_cs (k := L141.length) (n := wt L141) (by rw [eL141]) (by rw [eL141]) ?_
  refine W_st (st' := [.ref (ad143 c139), .ref (ad135 a)]) (by rw [ec139]) ?_
  have hT : y.1 = L141 ++ w140.1 := by rw [hT141, eL141]
  have h2 : y.2 = w140.2 := by rw [h2, ew140]
  have hl := lv_sub (l' := []) hl [] rfl
  refine W_st (st' := [.ref (ad143 c139), .ref (ad143 a)]) (by first | rfl | simp only [hn144 a hc]) ?_
  have hk : (xt G L141).2.1 a = 1 := by rw [eL141]; exact xt_k _ hc hk
  have hc : a < (xt G L141).1 := by rw [eL141]; exact xt_l _ hc
  have hk2 : (xt G L141).2.1 c2 = 5 := by rw [eL141]; exact xt_k _ hc2 hk2
  have hc2 : c2 < (xt G L141).1 := by rw [eL141]; exact xt_l _ hc2
  have hk15 : (xt G L141).2.1 c15 = 7 := by rw [eL141]; exact xt_k _ hc15 hk15
  have hc15 : c15 < (xt G L141).1 := by rw [eL141]; exact xt_l _ hc15
  have hk28 : (xt G L141).2.1 c28 = 9 := by rw [eL141]; exact xt_k _ hc28 hk28
  have hc28 : c28 < (xt G L141).1 := by rw [eL141]; exact xt_l _ hc28
  have hk41 : (xt G L141).2.1 c41 = 6 := by rw [eL141]; exact xt_k _ hc41 hk41
  have hc41 : c41 < (xt G L141).1 := by rw [eL141]; exact xt_l _ hc41
  have hk54 : (xt G L141).2.1 c54 = 2 := by rw [eL141]; exact xt_k _ hc54 hk54
  have hc54 : c54 < (xt G L141).1 := by rw [eL141]; exact xt_l _ hc54
  have hk67 : (xt G L141).2.1 c67 = 15 := by rw [eL141]; exact xt_k _ hc67 hk67
  have hc67 : c67 < (xt G L141).1 := by rw [eL141]; exact xt_l _ hc67
  have hk75 : (xt G L141).2.1 c75 = 15 := by rw [eL141]; exact xt_k _ hc75 hk75
  have hc75 : c75 < (xt G L141).1 := by rw [eL141]; exact xt_l _ hc75
  have hk83 : (xt G L141).2.1 c83 = 13 := by rw [eL141]; exact xt_k _ hc83 hk83
  have hc83 : c83 < (xt G L141).1 := by rw [eL141]; exact xt_l _ hc83
  have hk92 : (xt G L141).2.1 c92 = 13 := by rw [eL141]; exact xt_k _ hc92 hk92
  have hc92 : c92 < (xt G L141).1 := by rw [eL141]; exact xt_l _ hc92
  have hk100 : (xt G L141).2.1 c100 = 3 := by rw [eL141]; exact xt_k _ hc100 hk100
  have hc100 : c100 < (xt G L141).1 := by rw [eL141]; exact xt_l _ hc100
  have hk113 : (xt G L141).2.1 c113 = 3 := by rw [eL141]; exact xt_k _ hc113 hk113
  have hc113 : c113 < (xt G L141).1 := by rw [eL141]; exact xt_l _ hc113
  have hk126 : (xt G L141).2.1 c126 = 3 := by rw [eL141]; exact xt_k _ hc126 hk126
  have hc126 : c126 < (xt G L141).1 := by rw [eL141]; exact xt_l _ hc126
  have hag := agr_t (xt_ge _ _) hag hn144
  have hc139 : c139 < (xt G L141).1 := by rw [ec139, eL141]; exact cnt_new _ _ _
  have hk139 : (xt G L141).2.1 c139 = 13 := by rw [ec139, eL141]; exact (kind_new _ _ _ _).1
  refine va_putF (D := D) (ci := 1) (v := va_re ad143 (some c139)) (ty := (.array .int)) (C := RX1) (T := TX1) (N := 22) hx hb hts (mus hf_X1) tyX1 tyX1_ok nmX1 hown hK hP hD hS a (wld_o ct ad143 (xt G L141) M142 hc hk (by decide)) rfl 13 (by decide) (hts (.fieldLink RX1 78 "VideoSuite$Decoder" "faults" "[I") (mu mw_655)) (fun _ h9 => h9) rfl hin rfl (by decide +kernel) (nar_q ad143 (Or.inr ⟨_, rfl⟩) (some c139)).1 (nar_q ad143 (Or.inr ⟨_, rfl⟩) (some c139)).2 (Nat.le_of_ble_eq_true rfl) dX1_init_141 (fun H locs hP hD hS => ?_)
  obtain ⟨M145, eM145, hF⟩ := ltt_some hF
  rw [set_oP ct ad143 (xt G L141) M142 hc hk (by decide) (by rfl), ← eM145] at hP hD
  obtain rfl := Option.some.inj hF
  have e1 : y.1 = L141 := by rw [hT]; exact List.append_nil _
  have e2 : y.2 = M145 := h2
  refine W.widen (k := y.1.length) (n := wt y.1) (Nat.le_of_eq (by rw [e1])) (Nat.le_of_eq (by rw [e1])) ?_
  exact W.vret hx hb hr (fun t ht hW => ⟨⟨ad143, rfl, hag, (by unfold kE; rw [e1, e2]; exact ⟨by rw [ht]; exact hP, va_K.moved hW.alike hK, hD⟩)⟩, hS.F ht⟩) hS.2.2 dX1_init_144
