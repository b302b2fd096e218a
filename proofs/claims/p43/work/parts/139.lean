theorem ggX0_flag_X10_code : GoodIn wsX0_flag wsX10_code := goodIn_r _ [6, 7, 8, 9, 10, 11, 12, 13, 14, 15, 5, 16, 17, 18, 19, 20, 21, 22, 23, 24, 25, 26, 27, 28, 29, 30, 31, 32, 33, 34, 35, 36, 37, 38, 39, 40, 41, 42, 43, 44, 45, 67, 68, 69, 70, 71, 72, 73, 74, 75, 76, 77, 78, 79, 80, 81, 82, 83, 84, 85, 86] (by decide +kernel) (by decide +kernel)
set_option maxRecDepth 20000 in
theorem gX0_flag_X10_code : GoodIn wsX0_flag (wsV RX0 150 RX10 yX10_code wsX10_code) := goodIn_app (goodIn_of _ (by decide +kernel)) ggX0_flag_X10_code
theorem dX0_flag_0 : decode cX0_flag 0 = .ok (.aload_n 0, 1) := by decide +kernel
theorem dX0_flag_1 : decode cX0_flag 1 = .ok (.getfield 29, 3) := by decide +kernel
theorem dX0_flag_4 : decode cX0_flag 4 = .ok (.iconst 0, 1) := by decide +kernel
theorem dX0_flag_5 : decode cX0_flag 5 = .ok (.iload_n 1, 1) := by decide +kernel
theorem dX0_flag_6 : decode cX0_flag 6 = .ok (.i2l, 1) := by decide +kernel
theorem dX0_flag_7 : decode cX0_flag 7 = .ok (.iconst 1, 1) := by decide +kernel
theorem dX0_flag_8 : decode cX0_flag 8 = .ok (.invokevirtual 150, 3) := by decide +kernel
theorem dX0_flag_11 : decode cX0_flag 11 = .ok (.return_, 1) := by decide +kernel
noncomputable def FX0_flag (G : GG) (M : DD) (a : Nat) (p0 : Int32) : Option (NN × DD) :=
  ltt (p0.toInt64) fun x1 =>
  dr (xt G []) 10 ((M.2 a 2)) fun b2 =>
  bnd (FX10_code (xt G []) M b2 ((0 : Int32)) x1 ((1 : Int32))) fun y3 =>
  app y3.1 <|
  ltt ([] ++ y3.1) fun L5 =>
  some ([], y3.2)
set_option maxHeartbeats 4000000 in
set_option maxRecDepth 100000 in
theorem kX0_flag (l : Launch) (D : va_G) (ct : CT) (ad : Nat → Nat) (Z : Nat → Nat) (G : GG) (M : DD) (sz : Nat) (a : Nat) (p0 : Int32) (y : NN × DD) (hc : a < G.1) (hk : G.2.1 a = 0) (hF : FX0_flag G M a p0 = some y) : Met l yX0_flag wsX0_flag ({ frames := 5, cells := y.1.length, slots := wt y.1, locals := 175 }) (va_Pc [.ref (ad a), .int p0] (kB D ct ad Z G M sz)) (va_Qv (fun (u : Nat → Nat) => agr G.1 ad u) (fun u t => kE D ct u (xt G y.1) (wA ad G sz) y.2 t) (wA ad G sz)) y.1.length (wt y.1) (wA ad G sz) := by
  refine Met.ofW (cc := cX0_flag) (maxL := 2) (ret := none) (by decide) rfl ?_
  intro p e s m args below meth c s₁ B hml hv
  obtain ⟨rfl, hsz, hP, hK, hD0, hZ, hN⟩ := hv
  have hx := B.exec
  have hb := B.bytes
  have hr := B.returns
  have hts := atoms_spec (ws := wsX0_flag) B.pre
  have hown : s.vm.findClass RX0 = some m.cls := findClass_of_methodNamed B.named
  have hlocks := B.notSynchronized
  subst hsz
  have hD := wD_self (sz := s.heap.size) hD0
  have hA9 : ∀ q, s.heap.size ≤ q → wA ad G s.heap.size q := fun q h => Or.inr h
  generalize hAe : wA ad G s.heap.size = A at hD hA9 hZ ⊢
  have hS : va_S A s.heap s.heap [] := va_S.rf
  have hl := lv_entry ([.ref (ad a), .int p0]) (n := 2) (Nat.le_of_ble_eq_true rfl)
  rw [lg_entry_eq]
  generalize (lg_sl ([.ref (ad a), .int p0]) ++ List.replicate (2 - (lg_sl ([.ref (ad a), .int p0])).length) Slot.unset).toArray = ls at hl ⊢
  have hl : lv_has ls 2 [(0, .ref (ad a)), (1, .int p0)] := hl
  unfold FX0_flag at hF
  rw [← wld_0 ct ad G M] at hP hD
  have hk := xt_k0 hc hk
  have hc := xt_l0 hc
  have hag := agr_rf G.1 ad
  obtain ⟨w0, hw0⟩ : ∃ z, z = y := ⟨_, rfl⟩
  rw [← hw0] at hF
  have hT : y.1 = [] ++ w0.1 := by rw [hw0]; rfl
  have h2 : y.2 = w0.2 := by rw [hw0]
  have hbl : y.1.length ≤ y.1.length ∧ wt y.1 ≤ wt y.1 := ⟨Nat.le_refl _, Nat.le_refl _⟩
  refine lv_aload_n hx hb dX0_flag_0 rfl (lv_at hl 0 rfl) ?_
  refine va_get (D := D) (ci := 0) (v := va_re ad (M.2 a 2)) (C := RX0) (T := TX0) (N := 21) hx hb hts (by decide +kernel) hown hK hP a (wld_o ct ad (xt G []) M hc hk (by decide)) rfl 2 (by decide) (hts (.fieldLink RX0 29 "VideoSuite$Coder" "writer" "LVideoSuite$Writer;") (by decide +kernel)) (fun _ h9 => h9) rfl dX0_flag_1 ?_
  refine lv_iconst (v := (0 : Int32)) hx hb dX0_flag_4 (by decide) ?_
  refine lv_iload_n hx hb dX0_flag_5 rfl (lv_at hl 1 rfl) ?_
  refine lv_i2l (v := p0.toInt64) hx hb dX0_flag_6 rfl ?_
  obtain ⟨x1, ex1, hF⟩ := ltt_some hF
  refine lv_topl (fun zx1 ezx1 => ?_)
  obtain rfl : x1 = zx1 := ex1.trans ezx1.symm
  refine lv_iconst (v := (1 : Int32)) hx hb dX0_flag_7 (by decide) ?_
  obtain ⟨b2, ho2, hc2, hk2, hF⟩ := dr_some hF
  refine W_st (st' := [.int (1 : Int32), .long x1, .int (0 : Int32), .ref (ad b2)]) (by rw [va_some ho2]) ?_
  obtain ⟨y3, hy3, hF⟩ := bnd_some hF
  obtain ⟨w4, hF, ew4⟩ := app_some hF
  obtain ⟨L5, eL5, hF⟩ := ltt_some hF
  have hT5 : y.1 = ([] ++ y3.1) ++ w4.1 := by rw [hT, ew4]; simp only [List.append_assoc]
  have hf9 := wA_in hD hA9 hS
  refine va_callv (va_runV (As := [.int (0 : Int32), .long x1, .int (1 : Int32)]) (rest := []) ⟨hx, hb, hml, hown, hts⟩ (kX10_code l D ct ad Z (xt G []) M _ b2 ((0 : Int32)) x1 ((1 : Int32)) y3 hc2 hk2 hy3) (cwV 3 hts gX0_flag_X10_code rfl rfl rfl (by decide +kernel) ⟨Nat.le_of_ble_eq_true rfl, Nat.le_of_ble_eq_true rfl⟩) ⟨fun a U g mk q => by obtain ⟨q0, q1, qP, qK, qD, qZ, qN⟩ := q; exact ⟨q0, q1, qP, va_K.moved (u := U) (U := U.calling g mk a) (Vm.Alike.refl U.vm) qK, qD, sF.moved (u := U) (U := U.calling g mk a) (Vm.Alike.refl U.vm) qZ, nF.same rfl qN⟩, va_recv hK hP (ci := 10) (q0 := b2) rfl (wld_o ct ad (xt G []) M hc2 hk2 (by decide)), fun U hU hW => ⟨rfl, by rw [hU], by rw [hU]; exact hP, va_K.moved hW.alike hK, hD.weaken (fun _ _ _ _ => trivial), by rw [hU]; exact ((hZ.kept hS.2.1).narrow hf9).moved hW.alike, hN.warm hW⟩⟩ rfl rfl hl.1 rfl (lv_room (Nat.le_of_ble_eq_true rfl)) dX0_flag_8 (room_s hT5 hbl)) hS (fun q _ h => hf9 q h) hf9 (fun ad6 t H locs ht hvm hw hB hz1 hk1 hS => ?_)
  have hn7 := hw
  obtain ⟨hP, hK9, hD9⟩ := hB
  rw [ht] at hP
  have hD := hD9.weaken (fun _ q _ h => hf9 q.1 h)
  rw [xt_xt, ← eL5] at hP hD
  refine W_cs (k := L5.length) (n := wt L5) (by rw [eL5]; exact (len_s [] y3.1).symm) (by rw [eL5]; exact (wt_app [] y3.1).symm) ?_
  have hT : y.1 = L5 ++ w4.1 := by rw [hT5, eL5]
  have h2 : y.2 = w4.2 := by rw [h2, ew4]
  have hl := lv_sub (l' := []) hl [] rfl
  have hk : (xt G L5).2.1 a = 0 := by rw [eL5]; exact xt_k _ hc hk
  have hc : a < (xt G L5).1 := by rw [eL5]; exact xt_l _ hc
  have hk2 : (xt G L5).2.1 b2 = 10 := by rw [eL5]; exact xt_k _ hc2 hk2
  have hc2 : b2 < (xt G L5).1 := by rw [eL5]; exact xt_l _ hc2
  have hag := agr_t (xt_ge _ _) hag hn7
  obtain rfl := Option.some.inj hF
  have e1 : y.1 = L5 := by rw [hT]; exact List.append_nil _
  have e2 : y.2 = y3.2 := h2
  refine W.widen (k := y.1.length) (n := wt y.1) (Nat.le_of_eq (by rw [e1])) (Nat.le_of_eq (by rw [e1])) ?_
  exact W.vret hx hb hr (fun t ht hW => ⟨⟨ad6, rfl, hag, (by unfold kE; rw [e1, e2]; exact ⟨by rw [ht]; exact hP, va_K.moved hW.alike hK, hD⟩)⟩, hS.F ht⟩) hS.2.2 dX0_flag_11
theorem ggX0_maySkip_X9_guessSkipped : GoodIn wsX0_maySkip wsX9_guessSkipped := goodIn_r _ [14, 15, 16, 17, 18, 19, 13, 20, 21, 22, 23, 24, 25, 26, 27, 28, 29, 30, 31, 32, 33, 34, 35, 36, 37, 38, 39, 40, 41, 42, 43, 44, 45, 46, 47, 48, 49, 50, 51, 52, 74, 75, 76, 77, 78, 79, 80, 81, 82, 83, 84, 85, 86, 87, 88, 89, 90, 91, 92, 93, 98, 99, 100, 101, 102, 103, 104, 105, 106, 107, 108, 109, 110, 111, 112, 113, 114, 115] (by decide +kernel) (by decide +kernel)
set_option maxRecDepth 20000 in
theorem gX0_maySkip_X9_guessSkipped : GoodIn wsX0_maySkip (wsV RX0 557 RX9 yX9_guessSkipped wsX9_guessSkipped) := goodIn_app (goodIn_of _ (by decide +kernel)) ggX0_maySkip_X9_guessSkipped
theorem dX0_maySkip_0 : decode cX0_maySkip 0 = .ok (.bipush 8, 2) := by decide +kernel
theorem dX0_maySkip_2 : decode cX0_maySkip 2 = .ok (.iload_n 1, 1) := by decide +kernel
theorem dX0_maySkip_3 : decode cX0_maySkip 3 = .ok (.imul, 1) := by decide +kernel
theorem dX0_maySkip_4 : decode cX0_maySkip 4 = .ok (.istore_n 2, 1) := by decide +kernel
theorem dX0_maySkip_5 : decode cX0_maySkip 5 = .ok (.aload_n 0, 1) := by decide +kernel
theorem dX0_maySkip_6 : decode cX0_maySkip 6 = .ok (.getfield 36, 3) := by decide +kernel
theorem dX0_maySkip_9 : decode cX0_maySkip 9 = .ok (.getfield 216, 3) := by decide +kernel
theorem dX0_maySkip_12 : decode cX0_maySkip 12 = .ok (.iload_n 2, 1) := by decide +kernel
theorem dX0_maySkip_13 : decode cX0_maySkip 13 = .ok (.iconst 0, 1) := by decide +kernel
theorem dX0_maySkip_14 : decode cX0_maySkip 14 = .ok (.iadd, 1) := by decide +kernel
theorem dX0_maySkip_15 : decode cX0_maySkip 15 = .ok (.iaload, 1) := by decide +kernel
theorem dX0_maySkip_16 : decode cX0_maySkip 16 = .ok (.iconst 3, 1) := by decide +kernel
theorem dX0_maySkip_17 : decode cX0_maySkip 17 = .ok (.if_icmp .ne 43, 3) := by decide +kernel
theorem dX0_maySkip_20 : decode cX0_maySkip 20 = .ok (.aload_n 0, 1) := by decide +kernel
theorem dX0_maySkip_21 : decode cX0_maySkip 21 = .ok (.getfield 36, 3) := by decide +kernel
theorem dX0_maySkip_24 : decode cX0_maySkip 24 = .ok (.getfield 216, 3) := by decide +kernel
theorem dX0_maySkip_27 : decode cX0_maySkip 27 = .ok (.iload_n 2, 1) := by decide +kernel
theorem dX0_maySkip_28 : decode cX0_maySkip 28 = .ok (.iconst 1, 1) := by decide +kernel
theorem dX0_maySkip_29 : decode cX0_maySkip 29 = .ok (.iadd, 1) := by decide +kernel
theorem dX0_maySkip_30 : decode cX0_maySkip 30 = .ok (.iaload, 1) := by decide +kernel
theorem dX0_maySkip_31 : decode cX0_maySkip 31 = .ok (.ifCond .ne 29, 3) := by decide +kernel
theorem dX0_maySkip_34 : decode cX0_maySkip 34 = .ok (.aload_n 0, 1) := by decide +kernel
theorem dX0_maySkip_35 : decode cX0_maySkip 35 = .ok (.getfield 36, 3) := by decide +kernel
theorem dX0_maySkip_38 : decode cX0_maySkip 38 = .ok (.getfield 216, 3) := by decide +kernel
theorem dX0_maySkip_41 : decode cX0_maySkip 41 = .ok (.iload_n 2, 1) := by decide +kernel
theorem dX0_maySkip_42 : decode cX0_maySkip 42 = .ok (.iconst 3, 1) := by decide +kernel
theorem dX0_maySkip_43 : decode cX0_maySkip 43 = .ok (.iadd, 1) := by decide +kernel
theorem dX0_maySkip_44 : decode cX0_maySkip 44 = .ok (.iaload, 1) := by decide +kernel
theorem dX0_maySkip_45 : decode cX0_maySkip 45 = .ok (.aload_n 0, 1) := by decide +kernel
theorem dX0_maySkip_46 : decode cX0_maySkip 46 = .ok (.getfield 36, 3) := by decide +kernel
theorem dX0_maySkip_49 : decode cX0_maySkip 49 = .ok (.getfield 216, 3) := by decide +kernel
theorem dX0_maySkip_52 : decode cX0_maySkip 52 = .ok (.iload_n 2, 1) := by decide +kernel
theorem dX0_maySkip_53 : decode cX0_maySkip 53 = .ok (.iconst 4, 1) := by decide +kernel
theorem dX0_maySkip_54 : decode cX0_maySkip 54 = .ok (.iadd, 1) := by decide +kernel
theorem dX0_maySkip_55 : decode cX0_maySkip 55 = .ok (.iaload, 1) := by decide +kernel
theorem dX0_maySkip_56 : decode cX0_maySkip 56 = .ok (.iadd, 1) := by decide +kernel
theorem dX0_maySkip_57 : decode cX0_maySkip 57 = .ok (.ifCond .le 5, 3) := by decide +kernel
theorem dX0_maySkip_60 : decode cX0_maySkip 60 = .ok (.iconst 0, 1) := by decide +kernel
theorem dX0_maySkip_61 : decode cX0_maySkip 61 = .ok (.ireturn, 1) := by decide +kernel
theorem dX0_maySkip_62 : decode cX0_maySkip 62 = .ok (.aload_n 0, 1) := by decide +kernel
theorem dX0_maySkip_63 : decode cX0_maySkip 63 = .ok (.getfield 36, 3) := by decide +kernel
theorem dX0_maySkip_66 : decode cX0_maySkip 66 = .ok (.getfield 81, 3) := by decide +kernel
theorem dX0_maySkip_69 : decode cX0_maySkip 69 = .ok (.getfield 252, 3) := by decide +kernel
theorem dX0_maySkip_72 : decode cX0_maySkip 72 = .ok (.iconst 1, 1) := by decide +kernel
theorem dX0_maySkip_73 : decode cX0_maySkip 73 = .ok (.iaload, 1) := by decide +kernel
theorem dX0_maySkip_74 : decode cX0_maySkip 74 = .ok (.iconst 1, 1) := by decide +kernel
theorem dX0_maySkip_75 : decode cX0_maySkip 75 = .ok (.if_icmp .ne 5, 3) := by decide +kernel
theorem dX0_maySkip_78 : decode cX0_maySkip 78 = .ok (.iconst 1, 1) := by decide +kernel
theorem dX0_maySkip_79 : decode cX0_maySkip 79 = .ok (.ireturn, 1) := by decide +kernel
theorem dX0_maySkip_80 : decode cX0_maySkip 80 = .ok (.aload_n 0, 1) := by decide +kernel
theorem dX0_maySkip_81 : decode cX0_maySkip 81 = .ok (.getfield 36, 3) := by decide +kernel
theorem dX0_maySkip_84 : decode cX0_maySkip 84 = .ok (.iload_n 1, 1) := by decide +kernel
theorem dX0_maySkip_85 : decode cX0_maySkip 85 = .ok (.invokevirtual 557, 3) := by decide +kernel
theorem dX0_maySkip_88 : decode cX0_maySkip 88 = .ok (.bipush 16, 2) := by decide +kernel
theorem dX0_maySkip_90 : decode cX0_maySkip 90 = .ok (.iload_n 1, 1) := by decide +kernel
theorem dX0_maySkip_91 : decode cX0_maySkip 91 = .ok (.imul, 1) := by decide +kernel
theorem dX0_maySkip_92 : decode cX0_maySkip 92 = .ok (.istore_n 3, 1) := by decide +kernel
theorem dX0_maySkip_93 : decode cX0_maySkip 93 = .ok (.aload_n 0, 1) := by decide +kernel
theorem dX0_maySkip_94 : decode cX0_maySkip 94 = .ok (.getfield 36, 3) := by decide +kernel
theorem dX0_maySkip_97 : decode cX0_maySkip 97 = .ok (.getfield 266, 3) := by decide +kernel
theorem dX0_maySkip_100 : decode cX0_maySkip 100 = .ok (.getfield 409, 3) := by decide +kernel
theorem dX0_maySkip_103 : decode cX0_maySkip 103 = .ok (.iload_n 3, 1) := by decide +kernel
theorem dX0_maySkip_104 : decode cX0_maySkip 104 = .ok (.iaload, 1) := by decide +kernel
theorem dX0_maySkip_105 : decode cX0_maySkip 105 = .ok (.ifCond .ne 57, 3) := by decide +kernel
theorem dX0_maySkip_108 : decode cX0_maySkip 108 = .ok (.aload_n 0, 1) := by decide +kernel
theorem dX0_maySkip_109 : decode cX0_maySkip 109 = .ok (.getfield 36, 3) := by decide +kernel
theorem dX0_maySkip_112 : decode cX0_maySkip 112 = .ok (.getfield 266, 3) := by decide +kernel
theorem dX0_maySkip_115 : decode cX0_maySkip 115 = .ok (.getfield 560, 3) := by decide +kernel
theorem dX0_maySkip_118 : decode cX0_maySkip 118 = .ok (.iconst 2, 1) := by decide +kernel
theorem dX0_maySkip_119 : decode cX0_maySkip 119 = .ok (.iload_n 3, 1) := by decide +kernel
theorem dX0_maySkip_120 : decode cX0_maySkip 120 = .ok (.imul, 1) := by decide +kernel
theorem dX0_maySkip_121 : decode cX0_maySkip 121 = .ok (.iaload, 1) := by decide +kernel
theorem dX0_maySkip_122 : decode cX0_maySkip 122 = .ok (.aload_n 0, 1) := by decide +kernel
theorem dX0_maySkip_123 : decode cX0_maySkip 123 = .ok (.getfield 36, 3) := by decide +kernel
theorem dX0_maySkip_126 : decode cX0_maySkip 126 = .ok (.getfield 419, 3) := by decide +kernel
theorem dX0_maySkip_129 : decode cX0_maySkip 129 = .ok (.if_icmp .ne 33, 3) := by decide +kernel
theorem dX0_maySkip_132 : decode cX0_maySkip 132 = .ok (.aload_n 0, 1) := by decide +kernel
theorem dX0_maySkip_133 : decode cX0_maySkip 133 = .ok (.getfield 36, 3) := by decide +kernel
theorem dX0_maySkip_136 : decode cX0_maySkip 136 = .ok (.getfield 266, 3) := by decide +kernel
theorem dX0_maySkip_139 : decode cX0_maySkip 139 = .ok (.getfield 560, 3) := by decide +kernel
theorem dX0_maySkip_142 : decode cX0_maySkip 142 = .ok (.iconst 2, 1) := by decide +kernel
theorem dX0_maySkip_143 : decode cX0_maySkip 143 = .ok (.iload_n 3, 1) := by decide +kernel
theorem dX0_maySkip_144 : decode cX0_maySkip 144 = .ok (.imul, 1) := by decide +kernel
theorem dX0_maySkip_145 : decode cX0_maySkip 145 = .ok (.iconst 1, 1) := by decide +kernel
theorem dX0_maySkip_146 : decode cX0_maySkip 146 = .ok (.iadd, 1) := by decide +kernel
theorem dX0_maySkip_147 : decode cX0_maySkip 147 = .ok (.iaload, 1) := by decide +kernel
theorem dX0_maySkip_148 : decode cX0_maySkip 148 = .ok (.aload_n 0, 1) := by decide +kernel
theorem dX0_maySkip_149 : decode cX0_maySkip 149 = .ok (.getfield 36, 3) := by decide +kernel
theorem dX0_maySkip_152 : decode cX0_maySkip 152 = .ok (.getfield 422, 3) := by decide +kernel
theorem dX0_maySkip_155 : decode cX0_maySkip 155 = .ok (.if_icmp .ne 7, 3) := by decide +kernel
theorem dX0_maySkip_158 : decode cX0_maySkip 158 = .ok (.iconst 1, 1) := by decide +kernel
theorem dX0_maySkip_159 : decode cX0_maySkip 159 = .ok (.goto 4, 3) := by decide +kernel
theorem dX0_maySkip_162 : decode cX0_maySkip 162 = .ok (.iconst 0, 1) := by decide +kernel
theorem dX0_maySkip_163 : decode cX0_maySkip 163 = .ok (.ireturn, 1) := by decide +kernel
def FX0_maySkip (G : GG) (M : DD) (a : Nat) (p0 : Int32) : Option (DD × Int32) :=
  ltt ((((8 : Int32)) * p0)) fun x1 =>
  dr G 9 ((M.2 a 3)) fun b2 =>
  ltt ((x1 + ((0 : Int32)))) fun x3 =>
  dr G 13 ((M.2 b2 6)) fun b4 =>
  chk (¬ (x3 < 0 ∨ G.2.2 b4 ≤ x3.toNatClampNeg)) <|
  ltt (M.1 b4 x3.toNatClampNeg) fun x5 =>
  if x5 = ((3 : Int32)) then (ltt ((x1 + ((1 : Int32)))) fun x7 =>
  chk (¬ (x7 < 0 ∨ G.2.2 b4 ≤ x7.toNatClampNeg)) <|
  ltt (M.1 b4 x7.toNatClampNeg) fun x8 =>
  if x8 = ((0 : Int32)) then (ltt ((x1 + ((3 : Int32)))) fun x10 =>
  chk (¬ (x10 < 0 ∨ G.2.2 b4 ≤ x10.toNatClampNeg)) <|
  ltt (M.1 b4 x10.toNatClampNeg) fun x11 =>
  ltt ((x1 + ((4 : Int32)))) fun x12 =>
  chk (¬ (x12 < 0 ∨ G.2.2 b4 ≤ x12.toNatClampNeg)) <|
  ltt (M.1 b4 x12.toNatClampNeg) fun x13 =>
  ltt ((x11 + x13)) fun x14 =>
  if x14 ≤ ((0 : Int32)) then (dr G 3 ((M.2 b2 1)) fun b16 =>
  dr G 13 ((M.2 b16 0)) fun b17 =>
  chk (¬ (((1 : Int32)) < 0 ∨ G.2.2 b17 ≤ ((1 : Int32)).toNatClampNeg)) <|
  ltt (M.1 b17 ((1 : Int32)).toNatClampNeg) fun x18 =>
  if x18 = ((1 : Int32)) then (chk (((1 : Int32)) = 0 ∨ ((1 : Int32)) = 1) <|
  some (M, (1 : Int32))) else
  (bnd (FX9_guessSkipped G M b2 p0) fun y20 =>
  ltt ((((16 : Int32)) * p0)) fun x21 =>
  dr G 9 ((y20.2 a 3)) fun b22 =>
  dr G 4 ((y20.2 b22 0)) fun b23 =>
  dr G 13 ((y20.2 b23 5)) fun b24 =>
  chk (¬ (x21 < 0 ∨ G.2.2 b24 ≤ x21.toNatClampNeg)) <|
  ltt (y20.1 b24 x21.toNatClampNeg) fun x25 =>
  bnd (if x25 = ((0 : Int32)) then (ltt ((((2 : Int32)) * x21)) fun x28 =>
  dr G 13 ((y20.2 b23 7)) fun b29 =>
  chk (¬ (x28 < 0 ∨ G.2.2 b29 ≤ x28.toNatClampNeg)) <|
  ltt (y20.1 b29 x28.toNatClampNeg) fun x30 =>
  ltt (y20.1 b22 18) fun x31 =>
  bnd (if x30 = x31 then (ltt ((((2 : Int32)) * x21)) fun x34 =>
  ltt ((x34 + ((1 : Int32)))) fun x35 =>
  chk (¬ (x35 < 0 ∨ G.2.2 b29 ≤ x35.toNatClampNeg)) <|
  ltt (y20.1 b29 x35.toNatClampNeg) fun x36 =>
  ltt (y20.1 b22 19) fun x37 =>
  bnd (if x36 = x37 then (some ((1 : Int32))) else
  (some ((0 : Int32)))) fun (y38 : Int32) =>
  some (y38)) else
  (some ((0 : Int32)))) fun (y32 : Int32) =>
  some (y32)) else
  (some ((0 : Int32)))) fun (y26 : Int32) =>
  chk (y26 = 0 ∨ y26 = 1) <|
  some (y20, y26))) else
  (chk (((0 : Int32)) = 0 ∨ ((0 : Int32)) = 1) <|
  some (M, (0 : Int32)))) else
  (chk (((0 : Int32)) = 0 ∨ ((0 : Int32)) = 1) <|
  some (M, (0 : Int32)))) else
  (chk (((0 : Int32)) = 0 ∨ ((0 : Int32)) = 1) <|
  some (M, (0 : Int32)))
set_option maxHeartbeats 4000000 in
set_option maxRecDepth 100000 in
theorem kX0_maySkip (l : Launch) (D : va_G) (ct : CT) (ad : Nat → Nat) (Z : Nat → Nat) (G : GG) (M : DD) (sz : Nat) (a : Nat) (p0 : Int32) (y : DD × Int32) (hc : a < G.1) (hk : G.2.1 a = 0) (hF : FX0_maySkip G M a p0 = some y) : Met l yX0_maySkip wsX0_maySkip ({ frames := 3, cells := 0, slots := 0, locals := 92 }) (va_Pc [.ref (ad a), .int p0] (kB D ct ad Z G M sz)) (va_Qi (fun (q : Int32) (_ : Unit) => q = y.2) (fun _ t => kE D ct ad G (wA ad G sz) y.1 t) (wA ad G sz)) 0 0 (wA ad G sz) := by
  refine Met.ofW (cc := cX0_maySkip) (maxL := 4) (ret := (some .boolean)) (by decide) rfl ?_
  intro p e s m args below meth c s₁ B hml hv
  obtain ⟨rfl, hsz, hP, hK, hD0, hZ, hN⟩ := hv
  have hx := B.exec
  have hb := B.bytes
  have hr := B.returns
  have hts := atoms_spec (ws := wsX0_maySkip) B.pre
  have hown : s.vm.findClass RX0 = some m.cls := findClass_of_methodNamed B.named
  have hlocks := B.notSynchronized
  subst hsz
  have hD := wD_self (sz := s.heap.size) hD0
  have hA9 : ∀ q, s.heap.size ≤ q → wA ad G s.heap.size q := fun q h => Or.inr h
  generalize hAe : wA ad G s.heap.size = A at hD hA9 hZ ⊢
  have hS : va_S A s.heap s.heap [] := va_S.rf
  have hl := lv_entry ([.ref (ad a), .int p0]) (n := 4) (Nat.le_of_ble_eq_true rfl)
  rw [lg_entry_eq]
  generalize (lg_sl ([.ref (ad a), .int p0]) ++ List.replicate (4 - (lg_sl ([.ref (ad a), .int p0])).length) Slot.unset).toArray = ls at hl ⊢
  have hl : lv_has ls 4 [(0, .ref (ad a)), (1, .int p0)] := hl
  unfold FX0_maySkip at hF
  refine lv_bipush (v := (8 : Int32)) hx hb dX0_maySkip_0 (by decide) ?_
  refine lv_iload_n hx hb dX0_maySkip_2 rfl (lv_at hl 1 rfl) ?_
  refine lv_imul hx hb dX0_maySkip_3 ?_
  obtain ⟨x1, ex1, hF⟩ := ltt_some hF
  refine lv_topi (fun zx1 ezx1 => ?_)
  obtain rfl : x1 = zx1 := ex1.trans ezx1.symm
  refine lv_istore_n (lv' := [(2, .int x1), (0, .ref (ad a)), (1, .int p0)]) hx hb dX0_maySkip_4 rfl hl (by decide) rfl (fun ls hl => ?_)
  refine lv_aload_n hx hb dX0_maySkip_5 rfl (lv_at hl 1 rfl) ?_
  refine va_get (D := D) (ci := 0) (v := va_re ad (M.2 a 3)) (C := RX0) (T := TX0) (N := 21) hx hb hts (by decide +kernel) hown hK hP a (wld_o ct ad G M hc hk (by decide)) rfl 3 (by decide) (hts (.fieldLink RX0 36 "VideoSuite$Coder" "work" "LVideoSuite$Work;") (by decide +kernel)) (fun _ h9 => h9) rfl dX0_maySkip_6 ?_
  obtain ⟨b2, ho2, hc2, hk2, hF⟩ := dr_some hF
  refine W_st (st' := [.ref (ad b2)]) (by rw [va_some ho2]) ?_
  refine va_get (D := D) (ci := 9) (v := va_re ad (M.2 b2 6)) (C := RX9) (T := TX9) (N := 20) hx hb hts (by decide +kernel) hown hK hP b2 (wld_o ct ad G M hc2 hk2 (by decide)) rfl 6 (by decide) (hts (.fieldLink RX0 216 "VideoSuite$Work" "info" "[I") (by decide +kernel)) (fun _ h9 => h9) rfl dX0_maySkip_9 ?_
  refine lv_iload_n hx hb dX0_maySkip_12 rfl (lv_at hl 0 rfl) ?_
  refine lv_iconst (v := (0 : Int32)) hx hb dX0_maySkip_13 (by decide) ?_
  refine lv_iadd hx hb dX0_maySkip_14 ?_
  obtain ⟨x3, ex3, hF⟩ := ltt_some hF
  refine lv_topi (fun zx3 ezx3 => ?_)
  obtain rfl : x3 = zx3 := ex3.trans ezx3.symm
  obtain ⟨b4, ho4, hc4, hk4, hF⟩ := dr_some hF
  refine W_st (st' := [.int x3, .ref (ad b4)]) (by rw [va_some ho4]) ?_
  obtain ⟨hvc, hF⟩ := chk_some hF
  refine va_iald hx hb hK hP b4 1 (wld_i ct ad G M hc4 hk4) rfl hvc dX0_maySkip_15 ?_
  obtain ⟨x5, ex5, hF⟩ := ltt_some hF
  refine lv_topi (fun zx5 ezx5 => ?_)
  obtain rfl : x5 = zx5 := ex5.trans ezx5.symm
  refine lv_iconst (v := (3 : Int32)) hx hb dX0_maySkip_16 (by decide) ?_
  refine lv_icmp_ne (tgt := 60) hx hb dX0_maySkip_17 (by decide) (fun c6 => ?_) (fun c6 => ?_)
  · rw [if_neg c6] at hF
    refine lv_iconst (v := (0 : Int32)) hx hb dX0_maySkip_60 (by decide) ?_
    obtain ⟨hz9, hF⟩ := chk_some hF
    obtain rfl := Option.some.inj hF
    exact W.zret (v := (0 : Int32)) (ty := .boolean) hx hb hr (nar_z hz9).1 (fun t ht hW => ⟨⟨_, (), rfl, rfl, ⟨by rw [ht]; exact hP, va_K.moved hW.alike hK, hD⟩⟩, hS.F ht⟩) hS.2.2 dX0_maySkip_61
  · rw [if_pos c6] at hF
    refine lv_aload_n hx hb dX0_maySkip_20 rfl (lv_at hl 1 rfl) ?_
    refine va_get (D := D) (ci := 0) (v := va_re ad (M.2 a 3)) (C := RX0) (T := TX0) (N := 21) hx hb hts (by decide +kernel) hown hK hP a (wld_o ct ad G M hc hk (by decide)) rfl 3 (by decide) (hts (.fieldLink RX0 36 "VideoSuite$Coder" "work" "LVideoSuite$Work;") (by decide +kernel)) (fun _ h9 => h9) rfl dX0_maySkip_21 ?_
    refine W_st (st' := [.ref (ad b2)]) (by rw [va_some ho2]) ?_
    refine va_get (D := D) (ci := 9) (v := va_re ad (M.2 b2 6)) (C := RX9) (T := TX9) (N := 20) hx hb hts (by decide +kernel) hown hK hP b2 (wld_o ct ad G M hc2 hk2 (by decide)) rfl 6 (by decide) (hts (.fieldLink RX0 216 "VideoSuite$Work" "info" "[I") (by decide +kernel)) (fun _ h9 => h9) rfl dX0_maySkip_24 ?_
    refine lv_iload_n hx hb dX0_maySkip_27 rfl (lv_at hl 0 rfl) ?_
    refine lv_iconst (v := (1 : Int32)) hx hb dX0_maySkip_28 (by decide) ?_
    refine lv_iadd hx hb dX0_maySkip_29 ?_
    obtain ⟨x7, ex7, hF⟩ := ltt_some hF
    refine lv_topi (fun zx7 ezx7 => ?_)
    obtain rfl : x7 = zx7 := ex7.trans ezx7.symm
    refine W_st (st' := [.int x7, .ref (ad b4)]) (by rw [va_some ho4]) ?_
    obtain ⟨hvc, hF⟩ := chk_some hF
    refine va_iald hx hb hK hP b4 1 (wld_i ct ad G M hc4 hk4) rfl hvc dX0_maySkip_30 ?_
    obtain ⟨x8, ex8, hF⟩ := ltt_some hF
    refine lv_topi (fun zx8 ezx8 => ?_)
    obtain rfl : x8 = zx8 := ex8.trans ezx8.symm
    refine lv_if_ne (tgt := 60) hx hb dX0_maySkip_31 (by decide) (fun c9 => ?_) (fun c9 => ?_)
    · rw [if_neg c9] at hF
      refine lv_iconst (v := (0 : Int32)) hx hb dX0_maySkip_60 (by decide) ?_
      obtain ⟨hz9, hF⟩ := chk_some hF
      obtain rfl := Option.some.inj hF
      exact W.zret (v := (0 : Int32)) (ty := .boolean) hx hb hr (nar_z hz9).1 (fun t ht hW => ⟨⟨_, (), rfl, rfl, ⟨by rw [ht]; exact hP, va_K.moved hW.alike hK, hD⟩⟩, hS.F ht⟩) hS.2.2 dX0_maySkip_61
    · rw [if_pos c9] at hF
      refine lv_aload_n hx hb dX0_maySkip_34 rfl (lv_at hl 1 rfl) ?_
      refine va_get (D := D) (ci := 0) (v := va_re ad (M.2 a 3)) (C := RX0) (T := TX0) (N := 21) hx hb hts (by decide +kernel) hown hK hP a (wld_o ct ad G M hc hk (by decide)) rfl 3 (by decide) (hts (.fieldLink RX0 36 "VideoSuite$Coder" "work" "LVideoSuite$Work;") (by decide +kernel)) (fun _ h9 => h9) rfl dX0_maySkip_35 ?_
      refine W_st (st' := [.ref (ad b2)]) (by rw [va_some ho2]) ?_
      refine va_get (D := D) (ci := 9) (v := va_re ad (M.2 b2 6)) (C := RX9) (T := TX9) (N := 20) hx hb hts (by decide +kernel) hown hK hP b2 (wld_o ct ad G M hc2 hk2 (by decide)) rfl 6 (by decide) (hts (.fieldLink RX0 216 "VideoSuite$Work" "info" "[I") (by decide +kernel)) (fun _ h9 => h9) rfl dX0_maySkip_38 ?_
      refine lv_iload_n hx hb dX0_maySkip_41 rfl (lv_at hl 0 rfl) ?_
      refine lv_iconst (v := (3 : Int32)) hx hb dX0_maySkip_42 (by decide) ?_
      refine lv_iadd hx hb dX0_maySkip_43 ?_
      obtain ⟨x10, ex10, hF⟩ := ltt_some hF
      refine lv_topi (fun zx10 ezx10 => ?_)
      obtain rfl : x10 = zx10 := ex10.trans ezx10.symm
      refine W_st (st' := [.int x10, .ref (ad b4)]) (by rw [va_some ho4]) ?_
      obtain ⟨hvc, hF⟩ := chk_some hF
      refine va_iald hx hb hK hP b4 1 (wld_i ct ad G M hc4 hk4) rfl hvc dX0_maySkip_44 ?_
      obtain ⟨x11, ex11, hF⟩ := ltt_some hF
      refine lv_topi (fun zx11 ezx11 => ?_)
      obtain rfl : x11 = zx11 := ex11.trans ezx11.symm
      refine lv_aload_n hx hb dX0_maySkip_45 rfl (lv_at hl 1 rfl) ?_
      refine va_get (D := D) (ci := 0) (v := va_re ad (M.2 a 3)) (C := RX0) (T := TX0) (N := 21) hx hb hts (by decide +kernel) hown hK hP a (wld_o ct ad G M hc hk (by decide)) rfl 3 (by decide) (hts (.fieldLink RX0 36 "VideoSuite$Coder" "work" "LVideoSuite$Work;") (by decide +kernel)) (fun _ h9 => h9) rfl dX0_maySkip_46 ?_
      refine W_st (st' := [.ref (ad b2), .int x11]) (by rw [va_some ho2]) ?_
      refine va_get (D := D) (ci := 9) (v := va_re ad (M.2 b2 6)) (C := RX9) (T := TX9) (N := 20) hx hb hts (by decide +kernel) hown hK hP b2 (wld_o ct ad G M hc2 hk2 (by decide)) rfl 6 (by decide) (hts (.fieldLink RX0 216 "VideoSuite$Work" "info" "[I") (by decide +kernel)) (fun _ h9 => h9) rfl dX0_maySkip_49 ?_
      refine lv_iload_n hx hb dX0_maySkip_52 rfl (lv_at hl 0 rfl) ?_
      refine lv_iconst (v := (4 : Int32)) hx hb dX0_maySkip_53 (by decide) ?_
      refine lv_iadd hx hb dX0_maySkip_54 ?_
      obtain ⟨x12, ex12, hF⟩ := ltt_some hF
      refine lv_topi (fun zx12 ezx12 => ?_)
      obtain rfl : x12 = zx12 := ex12.trans ezx12.symm
      refine W_st (st' := [.int x12, .ref (ad b4), .int x11]) (by rw [va_some ho4]) ?_
      obtain ⟨hvc, hF⟩ := chk_some hF
      refine va_iald hx hb hK hP b4 1 (wld_i ct ad G M hc4 hk4) rfl hvc dX0_maySkip_55 ?_
      obtain ⟨x13, ex13, hF⟩ := ltt_some hF
      refine lv_topi (fun zx13 ezx13 => ?_)
      obtain rfl : x13 = zx13 := ex13.trans ezx13.symm
      refine lv_iadd hx hb dX0_maySkip_56 ?_
      obtain ⟨x14, ex14, hF⟩ := ltt_some hF
      refine lv_topi (fun zx14 ezx14 => ?_)
      obtain rfl : x14 = zx14 := ex14.trans ezx14.symm
      refine lv_if_le (tgt := 62) hx hb dX0_maySkip_57 (by decide) (fun c15 => ?_) (fun c15 => ?_)
      · rw [if_pos c15] at hF
        refine lv_aload_n hx hb dX0_maySkip_62 rfl (lv_at hl 1 rfl) ?_
        refine va_get (D := D) (ci := 0) (v := va_re ad (M.2 a 3)) (C := RX0) (T := TX0) (N := 21) hx hb hts (by decide +kernel) hown hK hP a (wld_o ct ad G M hc hk (by decide)) rfl 3 (by decide) (hts (.fieldLink RX0 36 "VideoSuite$Coder" "work" "LVideoSuite$Work;") (by decide +kernel)) (fun _ h9 => h9) rfl dX0_maySkip_63 ?_
        refine W_st (st' := [.ref (ad b2)]) (by rw [va_some ho2]) ?_
        refine va_get (D := D) (ci := 9) (v := va_re ad (M.2 b2 1)) (C := RX9) (T := TX9) (N := 20) hx hb hts (by decide +kernel) hown hK hP b2 (wld_o ct ad G M hc2 hk2 (by decide)) rfl 1 (by decide) (hts (.fieldLink RX0 81 "VideoSuite$Work" "head" "LVideoSuite$Header;") (by decide +kernel)) (fun _ h9 => h9) rfl dX0_maySkip_66 ?_
        obtain ⟨b16, ho16, hc16, hk16, hF⟩ := dr_some hF
        refine W_st (st' := [.ref (ad b16)]) (by rw [va_some ho16]) ?_
        refine va_get (D := D) (ci := 3) (v := va_re ad (M.2 b16 0)) (C := RX3) (T := TX3) (N := 4) hx hb hts (by decide +kernel) hown hK hP b16 (wld_o ct ad G M hc16 hk16 (by decide)) rfl 0 (by decide) (hts (.fieldLink RX0 252 "VideoSuite$Header" "v" "[I") (by decide +kernel)) (fun _ h9 => h9) rfl dX0_maySkip_69 ?_
        refine lv_iconst (v := (1 : Int32)) hx hb dX0_maySkip_72 (by decide) ?_
        obtain ⟨b17, ho17, hc17, hk17, hF⟩ := dr_some hF
        refine W_st (st' := [.int (1 : Int32), .ref (ad b17)]) (by rw [va_some ho17]) ?_
        obtain ⟨hvc, hF⟩ := chk_some hF
        refine va_iald hx hb hK hP b17 1 (wld_i ct ad G M hc17 hk17) rfl hvc dX0_maySkip_73 ?_
        obtain ⟨x18, ex18, hF⟩ := ltt_some hF
        refine lv_topi (fun zx18 ezx18 => ?_)
        obtain rfl : x18 = zx18 := ex18.trans ezx18.symm
        refine lv_iconst (v := (1 : Int32)) hx hb dX0_maySkip_74 (by decide) ?_
        refine lv_icmp_ne (tgt := 80) hx hb dX0_maySkip_75 (by decide) (fun c19 => ?_) (fun c19 => ?_)
        · rw [if_neg c19] at hF
          refine lv_aload_n hx hb dX0_maySkip_80 rfl (lv_at hl 1 rfl) ?_
          refine va_get (D := D) (ci := 0) (v := va_re ad (M.2 a 3)) (C := RX0) (T := TX0) (N := 21) hx hb hts (by decide +kernel) hown hK hP a (wld_o ct ad G M hc hk (by decide)) rfl 3 (by decide) (hts (.fieldLink RX0 36 "VideoSuite$Coder" "work" "LVideoSuite$Work;") (by decide +kernel)) (fun _ h9 => h9) rfl dX0_maySkip_81 ?_
          refine lv_iload_n hx hb dX0_maySkip_84 rfl (lv_at hl 2 rfl) ?_
          refine W_st (st' := [.int p0, .ref (ad b2)]) (by rw [va_some ho2]) ?_
          obtain ⟨y20, hy20, hF⟩ := bnd_some hF
          have hf9 := wA_in hD hA9 hS
          refine va_callv (va_runV (As := [.int p0]) (rest := []) ⟨hx, hb, hml, hown, hts⟩ (kX9_guessSkipped l D ct ad Z G M s.heap.size b2 p0 y20 hc2 hk2 hy20) (cwV 1 hts gX0_maySkip_X9_guessSkipped rfl rfl rfl (by decide +kernel) ⟨Nat.le_of_ble_eq_true rfl, Nat.le_of_ble_eq_true rfl⟩) ⟨fun a U g mk q => by obtain ⟨q0, q1, qP, qK, qD, qZ, qN⟩ := q; exact ⟨q0, q1, qP, va_K.moved (u := U) (U := U.calling g mk a) (Vm.Alike.refl U.vm) qK, qD, sF.moved (u := U) (U := U.calling g mk a) (Vm.Alike.refl U.vm) qZ, nF.same rfl qN⟩, va_recv hK hP (ci := 9) (q0 := b2) rfl (wld_o ct ad G M hc2 hk2 (by decide)), fun U hU hW => ⟨rfl, by rw [hU], by rw [hU]; exact hP, va_K.moved hW.alike hK, hD.weaken (fun _ _ _ _ => trivial), by rw [hU]; exact ((hZ.kept hS.2.1).narrow hf9).moved hW.alike, hN.warm hW⟩⟩ rfl rfl hl.1 rfl (lv_room (Nat.le_of_ble_eq_true rfl)) dX0_maySkip_85 ⟨(Nat.zero_le _), (Nat.zero_le _)⟩) hS (fun q _ h => hf9 q h) hf9 (fun u t H locs ht hvm hw hB hz1 hk1 hS => ?_)
          obtain ⟨hP, hK9, hD9⟩ := hB
          rw [ht] at hP
          have hD := hD9.weaken (fun _ q _ h => hf9 q.1 h)
          refine lv_bipush (v := (16 : Int32)) hx hb dX0_maySkip_88 (by decide) ?_
          refine lv_iload_n hx hb dX0_maySkip_90 rfl (lv_at hl 2 rfl) ?_
          refine lv_imul hx hb dX0_maySkip_91 ?_
          obtain ⟨x21, ex21, hF⟩ := ltt_some hF
          refine lv_topi (fun zx21 ezx21 => ?_)
          obtain rfl : x21 = zx21 := ex21.trans ezx21.symm
          refine lv_istore_n (lv' := [(3, .int x21), (2, .int x1), (0, .ref (ad a)), (1, .int p0)]) hx hb dX0_maySkip_92 rfl hl (by decide) rfl (fun ls hl => ?_)
          refine lv_aload_n hx hb dX0_maySkip_93 rfl (lv_at hl 2 rfl) ?_
          refine va_get (D := D) (ci := 0) (v := va_re ad (y20.2 a 3)) (C := RX0) (T := TX0) (N := 21) hx hb hts (by decide +kernel) hown hK hP a (wld_o ct ad G y20 hc hk (by decide)) rfl 3 (by decide) (hts (.fieldLink RX0 36 "VideoSuite$Coder" "work" "LVideoSuite$Work;") (by decide +kernel)) (fun _ h9 => h9) rfl dX0_maySkip_94 ?_
          obtain ⟨b22, ho22, hc22, hk22, hF⟩ := dr_some hF
          refine W_st (st' := [.ref (ad b22)]) (by rw [va_some ho22]) ?_
          refine va_get (D := D) (ci := 9) (v := va_re ad (y20.2 b22 0)) (C := RX9) (T := TX9) (N := 20) hx hb hts (by decide +kernel) hown hK hP b22 (wld_o ct ad G y20 hc22 hk22 (by decide)) rfl 0 (by decide) (hts (.fieldLink RX0 266 "VideoSuite$Work" "pic" "LVideoSuite$Picture;") (by decide +kernel)) (fun _ h9 => h9) rfl dX0_maySkip_97 ?_
          obtain ⟨b23, ho23, hc23, hk23, hF⟩ := dr_some hF
          refine W_st (st' := [.ref (ad b23)]) (by rw [va_some ho23]) ?_
          refine va_get (D := D) (ci := 4) (v := va_re ad (y20.2 b23 5)) (C := RX4) (T := TX4) (N := 18) hx hb hts (by decide +kernel) hown hK hP b23 (wld_o ct ad G y20 hc23 hk23 (by decide)) rfl 5 (by decide) (hts (.fieldLink RX0 409 "VideoSuite$Picture" "reference" "[I") (by decide +kernel)) (fun _ h9 => h9) rfl dX0_maySkip_100 ?_
          refine lv_iload_n hx hb dX0_maySkip_103 rfl (lv_at hl 0 rfl) ?_
          obtain ⟨b24, ho24, hc24, hk24, hF⟩ := dr_some hF
          refine W_st (st' := [.int x21, .ref (ad b24)]) (by rw [va_some ho24]) ?_
          obtain ⟨hvc, hF⟩ := chk_some hF
          refine va_iald hx hb hK hP b24 1 (wld_i ct ad G y20 hc24 hk24) rfl hvc dX0_maySkip_104 ?_
          obtain ⟨x25, ex25, hF⟩ := ltt_some hF
          refine lv_topi (fun zx25 ezx25 => ?_)
          obtain rfl : x25 = zx25 := ex25.trans ezx25.symm
          obtain ⟨y26, hy26, hF⟩ := bnd_some hF
          have J26 : ∀ (H : Heap) (locs : List Loc) (ls : Array Slot), va_P D classes (wld ct ad G y20) H → va_D A (wld ct ad G y20) → va_S A s.heap H locs → lv_has ls 4 [(3, .int x21), (2, .int x1), (0, .ref (ad a)), (1, .int p0)] → W p l e (headSpec wsX0_maySkip ({ frames := 3, cells := 0, slots := 0, locals := 92 })).room s m ([.ref (ad a), .int p0] : List Value).toArray below meth c H locs 0 0 (MQ below (va_Qi (fun (q : Int32) (_ : Unit) => q = y.2) (fun _ t => kE D ct ad G A y.1 t) A) ([.ref (ad a), .int p0] : List Value).toArray s 0 0 A) (F0 m 163 ls [.int y26]) := by
            intro H locs ls hP hD hS hl
            obtain ⟨hz9, hF⟩ := chk_some hF
            obtain rfl := Option.some.inj hF
            exact W.zret (v := y26) (ty := .boolean) hx hb hr (nar_z hz9).1 (fun t ht hW => ⟨⟨_, (), rfl, rfl, ⟨by rw [ht]; exact hP, va_K.moved hW.alike hK, hD⟩⟩, hS.F ht⟩) hS.2.2 dX0_maySkip_163
          clear hF
          have hF := hy26
          clear hy26
          refine lv_if_ne (tgt := 162) hx hb dX0_maySkip_105 (by decide) (fun c27 => ?_) (fun c27 => ?_)
          · rw [if_neg c27] at hF
            refine lv_iconst (v := (0 : Int32)) hx hb dX0_maySkip_162 (by decide) ?_
            obtain rfl := Option.some.inj hF
            exact J26 _ _ _ hP hD hS (lv_sub hl [0, 1, 2, 3] rfl)
          · rw [if_pos c27] at hF
            refine lv_aload_n hx hb dX0_maySkip_108 rfl (lv_at hl 2 rfl) ?_
            refine va_get (D := D) (ci := 0) (v := va_re ad (y20.2 a 3)) (C := RX0) (T := TX0) (N := 21) hx hb hts (by decide +kernel) hown hK hP a (wld_o ct ad G y20 hc hk (by decide)) rfl 3 (by decide) (hts (.fieldLink RX0 36 "VideoSuite$Coder" "work" "LVideoSuite$Work;") (by decide +kernel)) (fun _ h9 => h9) rfl dX0_maySkip_109 ?_
            refine W_st (st' := [.ref (ad b22)]) (by rw [va_some ho22]) ?_
            refine va_get (D := D) (ci := 9) (v := va_re ad (y20.2 b22 0)) (C := RX9) (T := TX9) (N := 20) hx hb hts (by decide +kernel) hown hK hP b22 (wld_o ct ad G y20 hc22 hk22 (by decide)) rfl 0 (by decide) (hts (.fieldLink RX0 266 "VideoSuite$Work" "pic" "LVideoSuite$Picture;") (by decide +kernel)) (fun _ h9 => h9) rfl dX0_maySkip_112 ?_
            refine W_st (st' := [.ref (ad b23)]) (by rw [va_some ho23]) ?_
            refine va_get (D := D) (ci := 4) (v := va_re ad (y20.2 b23 7)) (C := RX4) (T := TX4) (N := 18) hx hb hts (by decide +kernel) hown hK hP b23 (wld_o ct ad G y20 hc23 hk23 (by decide)) rfl 7 (by decide) (hts (.fieldLink RX0 560 "VideoSuite$Picture" "move" "[I") (by decide +kernel)) (fun _ h9 => h9) rfl dX0_maySkip_115 ?_
            refine lv_iconst (v := (2 : Int32)) hx hb dX0_maySkip_118 (by decide) ?_
            refine lv_iload_n hx hb dX0_maySkip_119 rfl (lv_at hl 0 rfl) ?_
            refine lv_imul hx hb dX0_maySkip_120 ?_
            obtain ⟨x28, ex28, hF⟩ := ltt_some hF
            refine lv_topi (fun zx28 ezx28 => ?_)
            obtain rfl : x28 = zx28 := ex28.trans ezx28.symm
            obtain ⟨b29, ho29, hc29, hk29, hF⟩ := dr_some hF
            refine W_st (st' := [.int x28, .ref (ad b29)]) (by rw [va_some ho29]) ?_
            obtain ⟨hvc, hF⟩ := chk_some hF
            refine va_iald hx hb hK hP b29 1 (wld_i ct ad G y20 hc29 hk29) rfl hvc dX0_maySkip_121 ?_
            obtain ⟨x30, ex30, hF⟩ := ltt_some hF
            refine lv_topi (fun zx30 ezx30 => ?_)
            obtain rfl : x30 = zx30 := ex30.trans ezx30.symm
            refine lv_aload_n hx hb dX0_maySkip_122 rfl (lv_at hl 2 rfl) ?_
            refine va_get (D := D) (ci := 0) (v := va_re ad (y20.2 a 3)) (C := RX0) (T := TX0) (N := 21) hx hb hts (by decide +kernel) hown hK hP a (wld_o ct ad G y20 hc hk (by decide)) rfl 3 (by decide) (hts (.fieldLink RX0 36 "VideoSuite$Coder" "work" "LVideoSuite$Work;") (by decide +kernel)) (fun _ h9 => h9) rfl dX0_maySkip_123 ?_
            refine W_st (st' := [.ref (ad b22), .int x30]) (by rw [va_some ho22]) ?_
            refine va_get (D := D) (ci := 9) (v := .int (y20.1 b22 18)) (C := RX9) (T := TX9) (N := 20) hx hb hts (by decide +kernel) hown hK hP b22 (wld_o ct ad G y20 hc22 hk22 (by decide)) rfl 18 (by decide) (hts (.fieldLink RX0 419 "VideoSuite$Work" "guessX" "I") (by decide +kernel)) (fun _ h9 => h9) rfl dX0_maySkip_126 ?_
            obtain ⟨x31, ex31, hF⟩ := ltt_some hF
            refine lv_topi (fun zx31 ezx31 => ?_)
            obtain rfl : x31 = zx31 := ex31.trans ezx31.symm
            obtain ⟨y32, hy32, hF⟩ := bnd_some hF
            have J32 : ∀ (H : Heap) (locs : List Loc) (ls : Array Slot), va_P D classes (wld ct ad G y20) H → va_D A (wld ct ad G y20) → va_S A s.heap H locs → lv_has ls 4 [(3, .int x21), (2, .int x1), (0, .ref (ad a)), (1, .int p0)] → W p l e (headSpec wsX0_maySkip ({ frames := 3, cells := 0, slots := 0, locals := 92 })).room s m ([.ref (ad a), .int p0] : List Value).toArray below meth c H locs 0 0 (MQ below (va_Qi (fun (q : Int32) (_ : Unit) => q = y.2) (fun _ t => kE D ct ad G A y.1 t) A) ([.ref (ad a), .int p0] : List Value).toArray s 0 0 A) (F0 m 163 ls [.int y32]) := by
              intro H locs ls hP hD hS hl
              obtain rfl := Option.some.inj hF
              exact J26 _ _ _ hP hD hS (lv_sub hl [0, 1, 2, 3] rfl)
            clear hF
            have hF := hy32
            clear hy32
            refine lv_icmp_ne (tgt := 162) hx hb dX0_maySkip_129 (by decide) (fun c33 => ?_) (fun c33 => ?_)
            · rw [if_neg c33] at hF
              refine lv_iconst (v := (0 : Int32)) hx hb dX0_maySkip_162 (by decide) ?_
              obtain rfl := Option.some.inj hF
              exact J32 _ _ _ hP hD hS (lv_sub hl [0, 1, 2, 3] rfl)
            · rw [if_pos c33] at hF
              refine lv_aload_n hx hb dX0_maySkip_132 rfl (lv_at hl 2 rfl) ?_
              refine va_get (D := D) (ci := 0) (v := va_re ad (y20.2 a 3)) (C := RX0) (T := TX0) (N := 21) hx hb hts (by decide +kernel) hown hK hP a (wld_o ct ad G y20 hc hk (by decide)) rfl 3 (by decide) (hts (.fieldLink RX0 36 "VideoSuite$Coder" "work" "LVideoSuite$Work;") (by decide +kernel)) (fun _ h9 => h9) rfl dX0_maySkip_133 ?_
              refine W_st (st' := [.ref (ad b22)]) (by rw [va_some ho22]) ?_
              refine va_get (D := D) (ci := 9) (v := va_re ad (y20.2 b22 0)) (C := RX9) (T := TX9) (N := 20) hx hb hts (by decide +kernel) hown hK hP b22 (wld_o ct ad G y20 hc22 hk22 (by decide)) rfl 0 (by decide) (hts (.fieldLink RX0 266 "VideoSuite$Work" "pic" "LVideoSuite$Picture;") (by decide +kernel)) (fun _ h9 => h9) rfl dX0_maySkip_136 ?_
              refine W_st (st' := [.ref (ad b23)]) (by rw [va_some ho23]) ?_
              refine va_get (D := D) (ci := 4) (v := va_re ad (y20.2 b23 7)) (C := RX4) (T := TX4) (N := 18) hx hb hts (by decide +kernel) hown hK hP b23 (wld_o ct ad G y20 hc23 hk23 (by decide)) rfl 7 (by decide) (hts (.fieldLink RX0 560 "VideoSuite$Picture" "move" "[I") (by decide +kernel)) (fun _ h9 => h9) rfl dX0_maySkip_139 ?_
              refine lv_iconst (v := (2 : Int32)) hx hb dX0_maySkip_142 (by decide) ?_
              refine lv_iload_n hx hb dX0_maySkip_143 rfl (lv_at hl 0 rfl) ?_
              refine lv_imul hx hb dX0_maySkip_144 ?_
              obtain ⟨x34, ex34, hF⟩ := ltt_some hF
              refine lv_topi (fun zx34 ezx34 => ?_)
              obtain rfl : x34 = zx34 := ex34.trans ezx34.symm
              refine lv_iconst (v := (1 : Int32)) hx hb dX0_maySkip_145 (by decide) ?_
              refine lv_iadd hx hb dX0_maySkip_146 ?_
              obtain ⟨x35, ex35, hF⟩ := ltt_some hF
              refine lv_topi (fun zx35 ezx35 => ?_)
              obtain rfl : x35 = zx35 := ex35.trans ezx35.symm
              refine W_st (st' := [.int x35, .ref (ad b29)]) (by rw [va_some ho29]) ?_
              obtain ⟨hvc, hF⟩ := chk_some hF
              refine va_iald hx hb hK hP b29 1 (wld_i ct ad G y20 hc29 hk29) rfl hvc dX0_maySkip_147 ?_
              obtain ⟨x36, ex36, hF⟩ := ltt_some hF
              refine lv_topi (fun zx36 ezx36 => ?_)
              obtain rfl : x36 = zx36 := ex36.trans ezx36.symm
              refine lv_aload_n hx hb dX0_maySkip_148 rfl (lv_at hl 2 rfl) ?_
              refine va_get (D := D) (ci := 0) (v := va_re ad (y20.2 a 3)) (C := RX0) (T := TX0) (N := 21) hx hb hts (by decide +kernel) hown hK hP a (wld_o ct ad G y20 hc hk (by decide)) rfl 3 (by decide) (hts (.fieldLink RX0 36 "VideoSuite$Coder" "work" "LVideoSuite$Work;") (by decide +kernel)) (fun _ h9 => h9) rfl dX0_maySkip_149 ?_
              refine W_st (st' := [.ref (ad b22), .int x36]) (by rw [va_some ho22]) ?_
              refine va_get (D := D) (ci := 9) (v := .int (y20.1 b22 19)) (C := RX9) (T := TX9) (N := 20) hx hb hts (by decide +kernel) hown hK hP b22 (wld_o ct ad G y20 hc22 hk22 (by decide)) rfl 19 (by decide) (hts (.fieldLink RX0 422 "VideoSuite$Work" "guessY" "I") (by decide +kernel)) (fun _ h9 => h9) rfl dX0_maySkip_152 ?_
              obtain ⟨x37, ex37, hF⟩ := ltt_some hF
              refine lv_topi (fun zx37 ezx37 => ?_)
              obtain rfl : x37 = zx37 := ex37.trans ezx37.symm
              obtain ⟨y38, hy38, hF⟩ := bnd_some hF
              have J38 : ∀ (H : Heap) (locs : List Loc) (ls : Array Slot), va_P D classes (wld ct ad G y20) H → va_D A (wld ct ad G y20) → va_S A s.heap H locs → lv_has ls 4 [(3, .int x21), (2, .int x1), (0, .ref (ad a)), (1, .int p0)] → W p l e (headSpec wsX0_maySkip ({ frames := 3, cells := 0, slots := 0, locals := 92 })).room s m ([.ref (ad a), .int p0] : List Value).toArray below meth c H locs 0 0 (MQ below (va_Qi (fun (q : Int32) (_ : Unit) => q = y.2) (fun _ t => kE D ct ad G A y.1 t) A) ([.ref (ad a), .int p0] : List Value).toArray s 0 0 A) (F0 m 163 ls [.int y38]) := by
                intro H locs ls hP hD hS hl
                obtain rfl := Option.some.inj hF
                exact J32 _ _ _ hP hD hS (lv_sub hl [0, 1, 2, 3] rfl)
              clear hF
              have hF := hy38
              clear hy38
              refine lv_icmp_ne (tgt := 162) hx hb dX0_maySkip_155 (by decide) (fun c39 => ?_) (fun c39 => ?_)
              · rw [if_neg c39] at hF
                refine lv_iconst (v := (0 : Int32)) hx hb dX0_maySkip_162 (by decide) ?_
                obtain rfl := Option.some.inj hF
                exact J38 _ _ _ hP hD hS (lv_sub hl [0, 1, 2, 3] rfl)
              · rw [if_pos c39] at hF
                refine lv_iconst (v := (1 : Int32)) hx hb dX0_maySkip_158 (by decide) ?_
                refine lv_goto (tgt := 163) hx hb dX0_maySkip_159 (by decide) ?_
                obtain rfl := Option.some.inj hF
                exact J38 _ _ _ hP hD hS (lv_sub hl [0, 1, 2, 3] rfl)
        · rw [if_pos c19] at hF
          refine lv_iconst (v := (1 : Int32)) hx hb dX0_maySkip_78 (by decide) ?_
          obtain ⟨hz9, hF⟩ := chk_some hF
          obtain rfl := Option.some.inj hF
          exact W.zret (v := (1 : Int32)) (ty := .boolean) hx hb hr (nar_z hz9).1 (fun t ht hW => ⟨⟨_, (), rfl, rfl, ⟨by rw [ht]; exact hP, va_K.moved hW.alike hK, hD⟩⟩, hS.F ht⟩) hS.2.2 dX0_maySkip_79
      · rw [if_neg c15] at hF
        refine lv_iconst (v := (0 : Int32)) hx hb dX0_maySkip_60 (by decide) ?_
        obtain ⟨hz9, hF⟩ := chk_some hF
        obtain rfl := Option.some.inj hF
        exact W.zret (v := (0 : Int32)) (ty := .boolean) hx hb hr (nar_z hz9).1 (fun t ht hW => ⟨⟨_, (), rfl, rfl, ⟨by rw [ht]; exact hP, va_K.moved hW.alike hK, hD⟩⟩, hS.F ht⟩) hS.2.2 dX0_maySkip_61
theorem ggX0_noteBest_X0_bitsOf : GoodIn wsX0_noteBest wsX0_bitsOf := goodIn_r _ [6, 7, 8, 9, 10, 11, 12, 13, 14, 15, 16, 17, 18, 19, 20, 21, 22, 23, 24, 25, 26, 27, 28, 29, 30, 31, 32, 33, 34, 35, 36, 37, 38, 39, 40, 41, 42, 43, 44, 45, 46, 47, 48, 49, 50, 51, 52, 53, 54, 55, 56, 57, 58, 59, 60, 61, 62, 63, 64, 65, 66, 67] (by decide +kernel) (by decide +kernel)
set_option maxRecDepth 20000 in
theorem gX0_noteBest_X0_bitsOf : GoodIn wsX0_noteBest (wsV RX0 478 RX0 yX0_bitsOf wsX0_bitsOf) := goodIn_app (goodIn_of _ (by decide +kernel)) ggX0_noteBest_X0_bitsOf
theorem dX0_noteBest_0 : decode cX0_noteBest 0 = .ok (.iconst 5, 1) := by decide +kernel
theorem dX0_noteBest_1 : decode cX0_noteBest 1 = .ok (.iload_n 1, 1) := by decide +kernel
theorem dX0_noteBest_2 : decode cX0_noteBest 2 = .ok (.imul, 1) := by decide +kernel
theorem dX0_noteBest_3 : decode cX0_noteBest 3 = .ok (.istore 6, 2) := by decide +kernel
theorem dX0_noteBest_5 : decode cX0_noteBest 5 = .ok (.iload_n 2, 1) := by decide +kernel
theorem dX0_noteBest_6 : decode cX0_noteBest 6 = .ok (.aload_n 0, 1) := by decide +kernel
theorem dX0_noteBest_7 : decode cX0_noteBest 7 = .ok (.getfield 75, 3) := by decide +kernel
theorem dX0_noteBest_10 : decode cX0_noteBest 10 = .ok (.iload 6, 2) := by decide +kernel
theorem dX0_noteBest_12 : decode cX0_noteBest 12 = .ok (.iaload, 1) := by decide +kernel
theorem dX0_noteBest_13 : decode cX0_noteBest 13 = .ok (.if_icmp .ge 62, 3) := by decide +kernel
theorem dX0_noteBest_16 : decode cX0_noteBest 16 = .ok (.aload_n 0, 1) := by decide +kernel
theorem dX0_noteBest_17 : decode cX0_noteBest 17 = .ok (.getfield 75, 3) := by decide +kernel
theorem dX0_noteBest_20 : decode cX0_noteBest 20 = .ok (.iload 6, 2) := by decide +kernel
theorem dX0_noteBest_22 : decode cX0_noteBest 22 = .ok (.iload_n 2, 1) := by decide +kernel
theorem dX0_noteBest_23 : decode cX0_noteBest 23 = .ok (.iastore, 1) := by decide +kernel
theorem dX0_noteBest_24 : decode cX0_noteBest 24 = .ok (.aload_n 0, 1) := by decide +kernel
theorem dX0_noteBest_25 : decode cX0_noteBest 25 = .ok (.getfield 75, 3) := by decide +kernel
theorem dX0_noteBest_28 : decode cX0_noteBest 28 = .ok (.iload 6, 2) := by decide +kernel
theorem dX0_noteBest_30 : decode cX0_noteBest 30 = .ok (.iconst 1, 1) := by decide +kernel
theorem dX0_noteBest_31 : decode cX0_noteBest 31 = .ok (.iadd, 1) := by decide +kernel
theorem dX0_noteBest_32 : decode cX0_noteBest 32 = .ok (.iload_n 3, 1) := by decide +kernel
theorem dX0_noteBest_33 : decode cX0_noteBest 33 = .ok (.iastore, 1) := by decide +kernel
theorem dX0_noteBest_34 : decode cX0_noteBest 34 = .ok (.aload_n 0, 1) := by decide +kernel
theorem dX0_noteBest_35 : decode cX0_noteBest 35 = .ok (.getfield 75, 3) := by decide +kernel
theorem dX0_noteBest_38 : decode cX0_noteBest 38 = .ok (.iload 6, 2) := by decide +kernel
theorem dX0_noteBest_40 : decode cX0_noteBest 40 = .ok (.iconst 2, 1) := by decide +kernel
theorem dX0_noteBest_41 : decode cX0_noteBest 41 = .ok (.iadd, 1) := by decide +kernel
theorem dX0_noteBest_42 : decode cX0_noteBest 42 = .ok (.iload 4, 2) := by decide +kernel
theorem dX0_noteBest_44 : decode cX0_noteBest 44 = .ok (.iastore, 1) := by decide +kernel
theorem dX0_noteBest_45 : decode cX0_noteBest 45 = .ok (.aload_n 0, 1) := by decide +kernel
theorem dX0_noteBest_46 : decode cX0_noteBest 46 = .ok (.getfield 75, 3) := by decide +kernel
theorem dX0_noteBest_49 : decode cX0_noteBest 49 = .ok (.iload 6, 2) := by decide +kernel
theorem dX0_noteBest_51 : decode cX0_noteBest 51 = .ok (.iconst 3, 1) := by decide +kernel
theorem dX0_noteBest_52 : decode cX0_noteBest 52 = .ok (.iadd, 1) := by decide +kernel
theorem dX0_noteBest_53 : decode cX0_noteBest 53 = .ok (.iload 5, 2) := by decide +kernel
theorem dX0_noteBest_55 : decode cX0_noteBest 55 = .ok (.iastore, 1) := by decide +kernel
theorem dX0_noteBest_56 : decode cX0_noteBest 56 = .ok (.aload_n 0, 1) := by decide +kernel
theorem dX0_noteBest_57 : decode cX0_noteBest 57 = .ok (.getfield 75, 3) := by decide +kernel
theorem dX0_noteBest_60 : decode cX0_noteBest 60 = .ok (.iload 6, 2) := by decide +kernel
theorem dX0_noteBest_62 : decode cX0_noteBest 62 = .ok (.iconst 4, 1) := by decide +kernel
theorem dX0_noteBest_63 : decode cX0_noteBest 63 = .ok (.iadd, 1) := by decide +kernel
theorem dX0_noteBest_64 : decode cX0_noteBest 64 = .ok (.aload_n 0, 1) := by decide +kernel
theorem dX0_noteBest_65 : decode cX0_noteBest 65 = .ok (.iload_n 1, 1) := by decide +kernel
theorem dX0_noteBest_66 : decode cX0_noteBest 66 = .ok (.iload_n 3, 1) := by decide +kernel
theorem dX0_noteBest_67 : decode cX0_noteBest 67 = .ok (.iload 4, 2) := by decide +kernel
theorem dX0_noteBest_69 : decode cX0_noteBest 69 = .ok (.iload 5, 2) := by decide +kernel
theorem dX0_noteBest_71 : decode cX0_noteBest 71 = .ok (.invokevirtual 478, 3) := by decide +kernel
theorem dX0_noteBest_74 : decode cX0_noteBest 74 = .ok (.iastore, 1) := by decide +kernel
theorem dX0_noteBest_75 : decode cX0_noteBest 75 = .ok (.return_, 1) := by decide +kernel
def FX0_noteBest (G : GG) (M : DD) (a : Nat) (p0 : Int32) (p1 : Int32) (p2 : Int32) (p3 : Int32) (p4 : Int32) : Option (DD) :=
  ltt ((((5 : Int32)) * p0)) fun x1 =>
  dr G 13 ((M.2 a 20)) fun b2 =>
  chk (¬ (x1 < 0 ∨ G.2.2 b2 ≤ x1.toNatClampNeg)) <|
  ltt (M.1 b2 x1.toNatClampNeg) fun x3 =>
  bnd (if x3 ≤ p1 then (some (M)) else
  (chk (¬ (x1 < 0 ∨ G.2.2 b2 ≤ x1.toNatClampNeg)) <|
  ltt (uI M b2 x1.toNatClampNeg p1) fun M6 =>
  ltt ((x1 + ((1 : Int32)))) fun x7 =>
  dr G 13 ((M6.2 a 20)) fun b8 =>
  chk (¬ (x7 < 0 ∨ G.2.2 b8 ≤ x7.toNatClampNeg)) <|
  ltt (uI M6 b8 x7.toNatClampNeg p2) fun M9 =>
  ltt ((x1 + ((2 : Int32)))) fun x10 =>
  dr G 13 ((M9.2 a 20)) fun b11 =>
  chk (¬ (x10 < 0 ∨ G.2.2 b11 ≤ x10.toNatClampNeg)) <|
  ltt (uI M9 b11 x10.toNatClampNeg p3) fun M12 =>
  ltt ((x1 + ((3 : Int32)))) fun x13 =>
  dr G 13 ((M12.2 a 20)) fun b14 =>
  chk (¬ (x13 < 0 ∨ G.2.2 b14 ≤ x13.toNatClampNeg)) <|
  ltt (uI M12 b14 x13.toNatClampNeg p4) fun M15 =>
  ltt ((x1 + ((4 : Int32)))) fun x16 =>
  bnd (FX0_bitsOf G M15 a p0 p2 p3 p4) fun y17 =>
  dr G 13 ((M15.2 a 20)) fun b18 =>
  chk (¬ (x16 < 0 ∨ G.2.2 b18 ≤ x16.toNatClampNeg)) <|
  ltt (uI y17.1 b18 x16.toNatClampNeg y17.2) fun M19 =>
  some (M19))) fun (y4 : DD) =>
  some y4
set_option maxHeartbeats 4000000 in
set_option maxRecDepth 100000 in
theorem kX0_noteBest (l : Launch) (D : va_G) (ct : CT) (ad : Nat → Nat) (Z : Nat → Nat) (G : GG) (M : DD) (sz : Nat) (a : Nat) (p0 : Int32) (p1 : Int32) (p2 : Int32) (p3 : Int32) (p4 : Int32) (y : DD) (hc : a < G.1) (hk : G.2.1 a = 0) (hF : FX0_noteBest G M a p0 p1 p2 p3 p4 = some y) : Met l yX0_noteBest wsX0_noteBest ({ frames := 3, cells := 0, slots := 0, locals := 67 }) (va_Pc [.ref (ad a), .int p0, .int p1, .int p2, .int p3, .int p4] (kB D ct ad Z G M sz)) (va_Qv (fun (_ : Unit) => True) (fun _ t => kE D ct ad G (wA ad G sz) y t) (wA ad G sz)) 0 0 (wA ad G sz) := by
  refine Met.ofW (cc := cX0_noteBest) (maxL := 7) (ret := none) (by decide) rfl ?_
  intro p e s m args below meth c s₁ B hml hv
  obtain ⟨rfl, hsz, hP, hK, hD0, hZ, hN⟩ := hv
  have hx := B.exec
  have hb := B.bytes
  have hr := B.returns
  have hts := atoms_spec (ws := wsX0_noteBest) B.pre
  have hown : s.vm.findClass RX0 = some m.cls := findClass_of_methodNamed B.named
  have hlocks := B.notSynchronized
  subst hsz
  have hD := wD_self (sz := s.heap.size) hD0
  have hA9 : ∀ q, s.heap.size ≤ q → wA ad G s.heap.size q := fun q h => Or.inr h
  generalize hAe : wA ad G s.heap.size = A at hD hA9 hZ ⊢
  have hS : va_S A s.heap s.heap [] := va_S.rf
  have hl := lv_entry ([.ref (ad a), .int p0, .int p1, .int p2, .int p3, .int p4]) (n := 7) (Nat.le_of_ble_eq_true rfl)
  rw [lg_entry_eq]
  generalize (lg_sl ([.ref (ad a), .int p0, .int p1, .int p2, .int p3, .int p4]) ++ List.replicate (7 - (lg_sl ([.ref (ad a), .int p0, .int p1, .int p2, .int p3, .int p4])).length) Slot.unset).toArray = ls at hl ⊢
  have hl : lv_has ls 7 [(0, .ref (ad a)), (1, .int p0), (2, .int p1), (3, .int p2), (4, .int p3), (5, .int p4)] := hl
  unfold FX0_noteBest at hF
  refine lv_iconst (v := (5 : Int32)) hx hb dX0_noteBest_0 (by decide) ?_
  refine lv_iload_n hx hb dX0_noteBest_1 rfl (lv_at hl 1 rfl) ?_
  refine lv_imul hx hb dX0_noteBest_2 ?_
  obtain ⟨x1, ex1, hF⟩ := ltt_some hF
  refine lv_topi (fun zx1 ezx1 => ?_)
  obtain rfl : x1 = zx1 := ex1.trans ezx1.symm
  refine lv_istore (lv' := [(6, .int x1), (0, .ref (ad a)), (1, .int p0), (2, .int p1), (3, .int p2), (4, .int p3), (5, .int p4)]) hx hb dX0_noteBest_3 hl (by decide) rfl (fun ls hl => ?_)
  refine lv_iload_n hx hb dX0_noteBest_5 rfl (lv_at hl 3 rfl) ?_
  refine lv_aload_n hx hb dX0_noteBest_6 rfl (lv_at hl 1 rfl) ?_
  refine va_get (D := D) (ci := 0) (v := va_re ad (M.2 a 20)) (C := RX0) (T := TX0) (N := 21) hx hb hts (by decide +kernel) hown hK hP a (wld_o ct ad G M hc hk (by decide)) rfl 20 (by decide) (hts (.fieldLink RX0 75 "VideoSuite$Coder" "choice" "[I") (by decide +kernel)) (fun _ h9 => h9) rfl dX0_noteBest_7 ?_
  refine lv_iload hx hb dX0_noteBest_10 (lv_at hl 0 rfl) ?_
  obtain ⟨b2, ho2, hc2, hk2, hF⟩ := dr_some hF
  refine W_st (st' := [.int x1, .ref (ad b2), .int p1]) (by rw [va_some ho2]) ?_
  obtain ⟨hvc, hF⟩ := chk_some hF
  refine va_iald hx hb hK hP b2 1 (wld_i ct ad G M hc2 hk2) rfl hvc dX0_noteBest_12 ?_
  obtain ⟨x3, ex3, hF⟩ := ltt_some hF
  refine lv_topi (fun zx3 ezx3 => ?_)
  obtain rfl : x3 = zx3 := ex3.trans ezx3.symm
  obtain ⟨y4, hy4, hF⟩ := bnd_some hF
  have J4 : ∀ (H : Heap) (locs : List Loc) (ls : Array Slot), va_P D classes (wld ct ad G y4) H → va_D A (wld ct ad G y4) → va_S A s.heap H locs → lv_has ls 7 [(6, .int x1), (0, .ref (ad a)), (1, .int p0), (2, .int p1), (3, .int p2), (4, .int p3), (5, .int p4)] → W p l e (headSpec wsX0_noteBest ({ frames := 3, cells := 0, slots := 0, locals := 67 })).room s m ([.ref (ad a), .int p0, .int p1, .int p2, .int p3, .int p4] : List Value).toArray below meth c H locs 0 0 (MQ below (va_Qv (fun (_ : Unit) => True) (fun _ t => kE D ct ad G A y t) A) ([.ref (ad a), .int p0, .int p1, .int p2, .int p3, .int p4] : List Value).toArray s 0 0 A) (F0 m 75 ls []) := by
    intro H locs ls hP hD hS hl
    obtain rfl := Option.some.inj hF
    exact W.vret hx hb hr (fun t ht hW => ⟨⟨(), rfl, trivial, ⟨by rw [ht]; exact hP, va_K.moved hW.alike hK, hD⟩⟩, hS.F ht⟩) hS.2.2 dX0_noteBest_75
  clear hF
  have hF := hy4
  clear hy4
  refine lv_icmp_ge (tgt := 75) hx hb dX0_noteBest_13 (by decide) (fun c5 => ?_) (fun c5 => ?_)
  · rw [if_pos c5] at hF
    obtain rfl := Option.some.inj hF
    exact J4 _ _ _ hP hD hS (lv_sub hl [0, 1, 2, 3, 4, 5, 6] rfl)
  · rw [if_neg c5] at hF
    refine lv_aload_n hx hb dX0_noteBest_16 rfl (lv_at hl 1 rfl) ?_
    refine va_get (D := D) (ci := 0) (v := va_re ad (M.2 a 20)) (C := RX0) (T := TX0) (N := 21) hx hb hts (by decide +kernel) hown hK hP a (wld_o ct ad G M hc hk (by decide)) rfl 20 (by decide) (hts (.fieldLink RX0 75 "VideoSuite$Coder" "choice" "[I") (by decide +kernel)) (fun _ h9 => h9) rfl dX0_noteBest_17 ?_
    refine lv_iload hx hb dX0_noteBest_20 (lv_at hl 0 rfl) ?_
    refine lv_iload_n hx hb dX0_noteBest_22 rfl (lv_at hl 3 rfl) ?_
    refine W_st (st' := [.int p1, .int x1, .ref (ad b2)]) (by rw [va_some ho2]) ?_
    obtain ⟨hvc, hF⟩ := chk_some hF
    refine va_iast hx hb hK hP hD hS b2 1 (wld_i ct ad G M hc2 hk2) rfl hvc dX0_noteBest_23 (fun H locs hP hD hS => ?_)
    obtain ⟨M6, eM6, hF⟩ := ltt_some hF
    rw [set_i ct ad G M hc2 hk2, ← eM6] at hP hD
    refine lv_aload_n hx hb dX0_noteBest_24 rfl (lv_at hl 1 rfl) ?_
    refine va_get (D := D) (ci := 0) (v := va_re ad (M6.2 a 20)) (C := RX0) (T := TX0) (N := 21) hx hb hts (by decide +kernel) hown hK hP a (wld_o ct ad G M6 hc hk (by decide)) rfl 20 (by decide) (hts (.fieldLink RX0 75 "VideoSuite$Coder" "choice" "[I") (by decide +kernel)) (fun _ h9 => h9) rfl dX0_noteBest_25 ?_
    refine lv_iload hx hb dX0_noteBest_28 (lv_at hl 0 rfl) ?_
    refine lv_iconst (v := (1 : Int32)) hx hb dX0_noteBest_30 (by decide) ?_
    refine lv_iadd hx hb dX0_noteBest_31 ?_
    obtain ⟨x7, ex7, hF⟩ := ltt_some hF
    refine lv_topi (fun zx7 ezx7 => ?_)
    obtain rfl : x7 = zx7 := ex7.trans ezx7.symm
    refine lv_iload_n hx hb dX0_noteBest_32 rfl (lv_at hl 4 rfl) ?_
    obtain ⟨b8, ho8, hc8, hk8, hF⟩ := dr_some hF
    refine W_st (st' := [.int p2, .int x7, .ref (ad b8)]) (by rw [va_some ho8]) ?_
    obtain ⟨hvc, hF⟩ := chk_some hF
    refine va_iast hx hb hK hP hD hS b8 1 (wld_i ct ad G M6 hc8 hk8) rfl hvc dX0_noteBest_33 (fun H locs hP hD hS => ?_)
    obtain ⟨M9, eM9, hF⟩ := ltt_some hF
    rw [set_i ct ad G M6 hc8 hk8, ← eM9] at hP hD
    refine lv_aload_n hx hb dX0_noteBest_34 rfl (lv_at hl 1 rfl) ?_
    refine va_get (D := D) (ci := 0) (v := va_re ad (M9.2 a 20)) (C := RX0) (T := TX0) (N := 21) hx hb hts (by decide +kernel) hown hK hP a (wld_o ct ad G M9 hc hk (by decide)) rfl 20 (by decide) (hts (.fieldLink RX0 75 "VideoSuite$Coder" "choice" "[I") (by decide +kernel)) (fun _ h9 => h9) rfl dX0_noteBest_35 ?_
    refine lv_iload hx hb dX0_noteBest_38 (lv_at hl 0 rfl) ?_
    refine lv_iconst (v := (2 : Int32)) hx hb dX0_noteBest_40 (by decide) ?_
    refine lv_iadd hx hb dX0_noteBest_41 ?_
    obtain ⟨x10, ex10, hF⟩ := ltt_some hF
    refine lv_topi (fun zx10 ezx10 => ?_)
    obtain rfl : x10 = zx10 := ex10.trans ezx10.symm
    refine lv_iload hx hb dX0_noteBest_42 (lv_at hl 5 rfl) ?_
    obtain ⟨b11, ho11, hc11, hk11, hF⟩ := dr_some hF
    refine W_st (st' := [.int p3, .int x10, .ref (ad b11)]) (by rw [va_some ho11]) ?_
    obtain ⟨hvc, hF⟩ := chk_some hF
    refine va_iast hx hb hK hP hD hS b11 1 (wld_i ct ad G M9 hc11 hk11) rfl hvc dX0_noteBest_44 (fun H locs hP hD hS => ?_)
    obtain ⟨M12, eM12, hF⟩ := ltt_some hF
    rw [set_i ct ad G M9 hc11 hk11, ← eM12] at hP hD
    refine lv_aload_n hx hb dX0_noteBest_45 rfl (lv_at hl 1 rfl) ?_
    refine va_get (D := D) (ci := 0) (v := va_re ad (M12.2 a 20)) (C := RX0) (T := TX0) (N := 21) hx hb hts (by decide +kernel) hown hK hP a (wld_o ct ad G M12 hc hk (by decide)) rfl 20 (by decide) (hts (.fieldLink RX0 75 "VideoSuite$Coder" "choice" "[I") (by decide +kernel)) (fun _ h9 => h9) rfl dX0_noteBest_46 ?_
    refine lv_iload hx hb dX0_noteBest_49 (lv_at hl 0 rfl) ?_
    refine lv_iconst (v := (3 : Int32)) hx hb dX0_noteBest_51 (by decide) ?_
    refine lv_iadd hx hb dX0_noteBest_52 ?_
    obtain ⟨x13, ex13, hF⟩ := ltt_some hF
    refine lv_topi (fun zx13 ezx13 => ?_)
    obtain rfl : x13 = zx13 := ex13.trans ezx13.symm
    refine lv_iload hx hb dX0_noteBest_53 (lv_at hl 6 rfl) ?_
    obtain ⟨b14, ho14, hc14, hk14, hF⟩ := dr_some hF
    refine W_st (st' := [.int p4, .int x13, .ref (ad b14)]) (by rw [va_some ho14]) ?_
    obtain ⟨hvc, hF⟩ := chk_some hF
    refine va_iast hx hb hK hP hD hS b14 1 (wld_i ct ad G M12 hc14 hk14) rfl hvc dX0_noteBest_55 (fun H locs hP hD hS => ?_)
    obtain ⟨M15, eM15, hF⟩ := ltt_some hF
    rw [set_i ct ad G M12 hc14 hk14, ← eM15] at hP hD
    refine lv_aload_n hx hb dX0_noteBest_56 rfl (lv_at hl 1 rfl) ?_
    refine va_get (D := D) (ci := 0) (v := va_re ad (M15.2 a 20)) (C := RX0) (T := TX0) (N := 21) hx hb hts (by decide +kernel) hown hK hP a (wld_o ct ad G M15 hc hk (by decide)) rfl 20 (by decide) (hts (.fieldLink RX0 75 "VideoSuite$Coder" "choice" "[I") (by decide +kernel)) (fun _ h9 => h9) rfl dX0_noteBest_57 ?_
    refine lv_iload hx hb dX0_noteBest_60 (lv_at hl 0 rfl) ?_
    refine lv_iconst (v := (4 : Int32)) hx hb dX0_noteBest_62 (by decide) ?_
    refine lv_iadd hx hb dX0_noteBest_63 ?_
    obtain ⟨x16, ex16, hF⟩ := ltt_some hF
    refine lv_topi (fun zx16 ezx16 => ?_)
    obtain rfl : x16 = zx16 := ex16.trans ezx16.symm
    refine lv_aload_n hx hb dX0_noteBest_64 rfl (lv_at hl 1 rfl) ?_
    refine lv_iload_n hx hb dX0_noteBest_65 rfl (lv_at hl 2 rfl) ?_
    refine lv_iload_n hx hb dX0_noteBest_66 rfl (lv_at hl 4 rfl) ?_
    refine lv_iload hx hb dX0_noteBest_67 (lv_at hl 5 rfl) ?_
    refine lv_iload hx hb dX0_noteBest_69 (lv_at hl 6 rfl) ?_
    obtain ⟨y17, hy17, hF⟩ := bnd_some hF
    have hf9 := wA_in hD hA9 hS
    refine va_calli (va_runV (As := [.int p0, .int p2, .int p3, .int p4]) (rest := [.int x16, va_re ad (M15.2 a 20)]) ⟨hx, hb, hml, hown, hts⟩ (kX0_bitsOf l D ct ad Z G M15 H.size a p0 p2 p3 p4 y17 hc hk hy17) (cwV 4 hts gX0_noteBest_X0_bitsOf rfl rfl rfl (by decide +kernel) ⟨Nat.le_of_ble_eq_true rfl, Nat.le_of_ble_eq_true rfl⟩) ⟨fun a U g mk q => by obtain ⟨q0, q1, qP, qK, qD, qZ, qN⟩ := q; exact ⟨q0, q1, qP, va_K.moved (u := U) (U := U.calling g mk a) (Vm.Alike.refl U.vm) qK, qD, sF.moved (u := U) (U := U.calling g mk a) (Vm.Alike.refl U.vm) qZ, nF.same rfl qN⟩, va_recv hK hP (ci := 0) (q0 := a) rfl (wld_o ct ad G M15 hc hk (by decide)), fun U hU hW => ⟨rfl, by rw [hU], by rw [hU]; exact hP, va_K.moved hW.alike hK, hD.weaken (fun _ _ _ _ => trivial), by rw [hU]; exact ((hZ.kept hS.2.1).narrow hf9).moved hW.alike, hN.warm hW⟩⟩ rfl rfl hl.1 rfl (lv_room (by simp only [List.map, va_re_cat]; exact Nat.le_of_ble_eq_true rfl)) dX0_noteBest_71 ⟨(Nat.zero_le _), (Nat.zero_le _)⟩) hS (fun q _ h => hf9 q h) hf9 (fun r u t H locs ht hvm hw hB hz1 hk1 hS => ?_)
    obtain ⟨hP, hK9, hD9⟩ := hB
    rw [ht] at hP
    try dsimp only at hw
    subst hw
    have hD := hD9.weaken (fun _ q _ h => hf9 q.1 h)
    obtain ⟨b18, ho18, hc18, hk18, hF⟩ := dr_some hF
    refine W_st (st' := [.int y17.2, .int x16, .ref (ad b18)]) (by rw [va_some ho18]) ?_
    obtain ⟨hvc, hF⟩ := chk_some hF
    refine va_iast hx hb hK hP hD hS b18 1 (wld_i ct ad G y17.1 hc18 hk18) rfl hvc dX0_noteBest_74 (fun H locs hP hD hS => ?_)
    obtain ⟨M19, eM19, hF⟩ := ltt_some hF
    rw [set_i ct ad G y17.1 hc18 hk18, ← eM19] at hP hD
    obtain rfl := Option.some.inj hF
    exact J4 _ _ _ hP hD hS (lv_sub hl [0, 1, 2, 3, 4, 5, 6] rfl)
theorem ggX0_searchList_X9_guess : GoodIn wsX0_searchList wsX9_guess := goodIn_r _ [13, 14, 15, 12, 16, 17, 18, 19, 20, 21, 22, 23, 24, 25, 26, 27, 28, 29, 30, 31, 32, 33, 34, 35, 36, 37, 38, 39, 40, 41, 42, 43, 181, 182, 183, 184, 185, 186, 187, 188, 189, 190, 191, 192, 193, 194, 195, 196, 197, 198, 199, 200, 205, 206, 207, 208, 209, 210, 211, 212, 213, 214, 215, 216, 217, 218, 219, 220, 221, 222] (by decide +kernel) (by decide +kernel)
set_option maxRecDepth 20000 in
theorem gX0_searchList_X9_guess : GoodIn wsX0_searchList (wsV RX0 415 RX9 yX9_guess wsX9_guess) := goodIn_app (goodIn_of _ (by decide +kernel)) ggX0_searchList_X9_guess
set_option maxRecDepth 20000 in
theorem ggX0_searchList_X0_noteBest : GoodIn wsX0_searchList wsX0_noteBest := goodIn_r _ [159, 1, 141, 142, 143, 47, 144, 3, 4, 5, 6, 7, 145, 146, 147, 148, 149, 150, 151, 152, 153, 154, 155, 160, 161, 162, 163, 164, 165, 166, 167, 168, 169, 170, 171, 172, 173, 174, 175, 176, 177, 178, 179, 180, 181, 182, 183, 184, 185, 186, 187, 188, 189, 190, 191, 192, 193, 194, 195, 196, 197, 198, 199, 200, 201, 202, 203, 204] (by decide +kernel) (by decide +kernel)
set_option maxRecDepth 20000 in
theorem gX0_searchList_X0_noteBest : GoodIn wsX0_searchList (wsV RX0 475 RX0 yX0_noteBest wsX0_noteBest) := goodIn_app (goodIn_of _ (by decide +kernel)) ggX0_searchList_X0_noteBest
theorem ggX0_searchList_X0_costOf : GoodIn wsX0_searchList wsX0_costOf := goodIn_r _ [48, 2, 49, 50, 3, 51, 52, 53, 54, 55, 56, 57, 58, 59, 60, 61, 62, 63, 15, 12, 16, 64, 18, 19, 65, 66, 67, 68, 69, 70, 71, 72, 73, 74, 75, 76, 77, 78, 79, 80, 81, 82, 83, 84, 85, 86, 87, 88, 89, 90, 91, 92, 93, 94, 95, 96, 97, 98, 99, 100, 101, 102, 103, 104, 105, 106, 107, 108, 109, 110, 111, 112, 113, 114, 115, 116, 117, 118, 119, 120, 121, 122, 123, 124, 125, 126, 127, 128, 129, 130, 131, 132, 133, 134, 135, 136, 137, 138, 139, 47, 140, 4, 5, 141, 142, 143, 144, 6, 7, 145, 146, 147, 148, 149, 150, 151, 152, 153, 154, 155, 160, 161, 162, 163, 164, 165, 166, 167, 168, 169, 170, 171, 172, 173, 174, 175, 176, 177, 178, 179, 180, 223, 224, 225, 226, 227, 228, 229, 230, 231, 232, 233, 234, 235, 236, 181, 182, 183, 184, 185, 186, 187, 188, 189, 190, 191, 192, 193, 194, 195, 196, 197, 198, 199, 200, 205, 206, 207, 208, 209, 210, 211, 212, 213, 214, 215, 216, 217, 218, 219, 220, 221, 222, 201, 202, 203, 204] (by decide +kernel) (by decide +kernel)
set_option maxRecDepth 20000 in
theorem gX0_searchList_X0_costOf : GoodIn wsX0_searchList (wsV RX0 471 RX0 yX0_costOf wsX0_costOf) := goodIn_app (goodIn_of _ (by decide +kernel)) ggX0_searchList_X0_costOf
set_option maxRecDepth 20000 in
theorem dX0_searchList_0 : decode cX0_searchList 0 = .ok (.aload_n 0, 1) := by decide +kernel
theorem dX0_searchList_1 : decode cX0_searchList 1 = .ok (.getfield 75, 3) := by decide +kernel
theorem dX0_searchList_4 : decode cX0_searchList 4 = .ok (.iconst 5, 1) := by decide +kernel
theorem dX0_searchList_5 : decode cX0_searchList 5 = .ok (.iload_n 2, 1) := by decide +kernel
theorem dX0_searchList_6 : decode cX0_searchList 6 = .ok (.imul, 1) := by decide +kernel
theorem dX0_searchList_7 : decode cX0_searchList 7 = .ok (.ldc_w 435, 3) := by decide +kernel
theorem dX0_searchList_10 : decode cX0_searchList 10 = .ok (.iastore, 1) := by decide +kernel
theorem dX0_searchList_11 : decode cX0_searchList 11 = .ok (.iconst 0, 1) := by decide +kernel
theorem dX0_searchList_12 : decode cX0_searchList 12 = .ok (.istore_n 3, 1) := by decide +kernel
theorem dX0_searchList_13 : decode cX0_searchList 13 = .ok (.iload_n 3, 1) := by decide +kernel
theorem dX0_searchList_14 : decode cX0_searchList 14 = .ok (.aload_n 0, 1) := by decide +kernel
theorem dX0_searchList_15 : decode cX0_searchList 15 = .ok (.getfield 36, 3) := by decide +kernel
theorem dX0_searchList_18 : decode cX0_searchList 18 = .ok (.getfield 81, 3) := by decide +kernel
theorem dX0_searchList_21 : decode cX0_searchList 21 = .ok (.getfield 252, 3) := by decide +kernel
theorem dX0_searchList_24 : decode cX0_searchList 24 = .ok (.bipush 9, 2) := by decide +kernel
theorem dX0_searchList_26 : decode cX0_searchList 26 = .ok (.iload_n 2, 1) := by decide +kernel
theorem dX0_searchList_27 : decode cX0_searchList 27 = .ok (.iadd, 1) := by decide +kernel
theorem dX0_searchList_28 : decode cX0_searchList 28 = .ok (.iaload, 1) := by decide +kernel
theorem dX0_searchList_29 : decode cX0_searchList 29 = .ok (.if_icmp .ge 296, 3) := by decide +kernel
theorem dX0_searchList_32 : decode cX0_searchList 32 = .ok (.aload_n 0, 1) := by decide +kernel
theorem dX0_searchList_33 : decode cX0_searchList 33 = .ok (.getfield 36, 3) := by decide +kernel
theorem dX0_searchList_36 : decode cX0_searchList 36 = .ok (.iload_n 1, 1) := by decide +kernel
theorem dX0_searchList_37 : decode cX0_searchList 37 = .ok (.iload_n 2, 1) := by decide +kernel
theorem dX0_searchList_38 : decode cX0_searchList 38 = .ok (.iload_n 3, 1) := by decide +kernel
theorem dX0_searchList_39 : decode cX0_searchList 39 = .ok (.iconst 0, 1) := by decide +kernel
theorem dX0_searchList_40 : decode cX0_searchList 40 = .ok (.bipush 16, 2) := by decide +kernel
theorem dX0_searchList_42 : decode cX0_searchList 42 = .ok (.iconst 0, 1) := by decide +kernel
theorem dX0_searchList_43 : decode cX0_searchList 43 = .ok (.invokevirtual 415, 3) := by decide +kernel
theorem dX0_searchList_46 : decode cX0_searchList 46 = .ok (.aload_n 0, 1) := by decide +kernel
theorem dX0_searchList_47 : decode cX0_searchList 47 = .ok (.getfield 36, 3) := by decide +kernel
theorem dX0_searchList_50 : decode cX0_searchList 50 = .ok (.getfield 419, 3) := by decide +kernel
theorem dX0_searchList_53 : decode cX0_searchList 53 = .ok (.iconst 2, 1) := by decide +kernel
theorem dX0_searchList_54 : decode cX0_searchList 54 = .ok (.iadd, 1) := by decide +kernel
theorem dX0_searchList_55 : decode cX0_searchList 55 = .ok (.iconst 2, 1) := by decide +kernel
theorem dX0_searchList_56 : decode cX0_searchList 56 = .ok (.ishr, 1) := by decide +kernel
theorem dX0_searchList_57 : decode cX0_searchList 57 = .ok (.istore 4, 2) := by decide +kernel
theorem dX0_searchList_59 : decode cX0_searchList 59 = .ok (.aload_n 0, 1) := by decide +kernel
theorem dX0_searchList_60 : decode cX0_searchList 60 = .ok (.getfield 36, 3) := by decide +kernel
theorem dX0_searchList_63 : decode cX0_searchList 63 = .ok (.getfield 422, 3) := by decide +kernel
theorem dX0_searchList_66 : decode cX0_searchList 66 = .ok (.iconst 2, 1) := by decide +kernel
theorem dX0_searchList_67 : decode cX0_searchList 67 = .ok (.iadd, 1) := by decide +kernel
theorem dX0_searchList_68 : decode cX0_searchList 68 = .ok (.iconst 2, 1) := by decide +kernel
theorem dX0_searchList_69 : decode cX0_searchList 69 = .ok (.ishr, 1) := by decide +kernel
theorem dX0_searchList_70 : decode cX0_searchList 70 = .ok (.istore 5, 2) := by decide +kernel
theorem dX0_searchList_72 : decode cX0_searchList 72 = .ok (.aload_n 0, 1) := by decide +kernel
theorem dX0_searchList_73 : decode cX0_searchList 73 = .ok (.getfield 23, 3) := by decide +kernel
theorem dX0_searchList_76 : decode cX0_searchList 76 = .ok (.bipush 10, 2) := by decide +kernel
theorem dX0_searchList_78 : decode cX0_searchList 78 = .ok (.iaload, 1) := by decide +kernel
theorem dX0_searchList_79 : decode cX0_searchList 79 = .ok (.istore 6, 2) := by decide +kernel
theorem dX0_searchList_81 : decode cX0_searchList 81 = .ok (.ldc_w 435, 3) := by decide +kernel
theorem dX0_searchList_84 : decode cX0_searchList 84 = .ok (.istore 7, 2) := by decide +kernel
theorem dX0_searchList_86 : decode cX0_searchList 86 = .ok (.iconst 0, 1) := by decide +kernel
theorem dX0_searchList_87 : decode cX0_searchList 87 = .ok (.istore 8, 2) := by decide +kernel
theorem dX0_searchList_89 : decode cX0_searchList 89 = .ok (.iconst 0, 1) := by decide +kernel
theorem dX0_searchList_90 : decode cX0_searchList 90 = .ok (.istore 9, 2) := by decide +kernel
theorem dX0_searchList_92 : decode cX0_searchList 92 = .ok (.iconst 0, 1) := by decide +kernel
theorem dX0_searchList_93 : decode cX0_searchList 93 = .ok (.istore 10, 2) := by decide +kernel
theorem dX0_searchList_95 : decode cX0_searchList 95 = .ok (.iload 10, 2) := by decide +kernel
theorem dX0_searchList_97 : decode cX0_searchList 97 = .ok (.iconst 2, 1) := by decide +kernel
theorem dX0_searchList_98 : decode cX0_searchList 98 = .ok (.iload 6, 2) := by decide +kernel
theorem dX0_searchList_100 : decode cX0_searchList 100 = .ok (.imul, 1) := by decide +kernel
theorem dX0_searchList_101 : decode cX0_searchList 101 = .ok (.iconst 1, 1) := by decide +kernel
theorem dX0_searchList_102 : decode cX0_searchList 102 = .ok (.iadd, 1) := by decide +kernel
theorem dX0_searchList_103 : decode cX0_searchList 103 = .ok (.iconst 2, 1) := by decide +kernel
theorem dX0_searchList_104 : decode cX0_searchList 104 = .ok (.iload 6, 2) := by decide +kernel
theorem dX0_searchList_106 : decode cX0_searchList 106 = .ok (.imul, 1) := by decide +kernel
theorem dX0_searchList_107 : decode cX0_searchList 107 = .ok (.iconst 1, 1) := by decide +kernel
theorem dX0_searchList_108 : decode cX0_searchList 108 = .ok (.iadd, 1) := by decide +kernel
theorem dX0_searchList_109 : decode cX0_searchList 109 = .ok (.imul, 1) := by decide +kernel
theorem dX0_searchList_110 : decode cX0_searchList 110 = .ok (.if_icmp .ge 79, 3) := by decide +kernel
theorem dX0_searchList_113 : decode cX0_searchList 113 = .ok (.iconst 4, 1) := by decide +kernel
theorem dX0_searchList_114 : decode cX0_searchList 114 = .ok (.iload 4, 2) := by decide +kernel
theorem dX0_searchList_116 : decode cX0_searchList 116 = .ok (.iload 10, 2) := by decide +kernel
theorem dX0_searchList_118 : decode cX0_searchList 118 = .ok (.iconst 2, 1) := by decide +kernel
theorem dX0_searchList_119 : decode cX0_searchList 119 = .ok (.iload 6, 2) := by decide +kernel
theorem dX0_searchList_121 : decode cX0_searchList 121 = .ok (.imul, 1) := by decide +kernel
theorem dX0_searchList_122 : decode cX0_searchList 122 = .ok (.iconst 1, 1) := by decide +kernel
theorem dX0_searchList_123 : decode cX0_searchList 123 = .ok (.iadd, 1) := by decide +kernel
theorem dX0_searchList_124 : decode cX0_searchList 124 = .ok (.irem, 1) := by decide +kernel
theorem dX0_searchList_125 : decode cX0_searchList 125 = .ok (.iadd, 1) := by decide +kernel
theorem dX0_searchList_126 : decode cX0_searchList 126 = .ok (.iload 6, 2) := by decide +kernel
theorem dX0_searchList_128 : decode cX0_searchList 128 = .ok (.isub, 1) := by decide +kernel
theorem dX0_searchList_129 : decode cX0_searchList 129 = .ok (.imul, 1) := by decide +kernel
theorem dX0_searchList_130 : decode cX0_searchList 130 = .ok (.istore 11, 2) := by decide +kernel
theorem dX0_searchList_132 : decode cX0_searchList 132 = .ok (.iconst 4, 1) := by decide +kernel
theorem dX0_searchList_133 : decode cX0_searchList 133 = .ok (.iload 5, 2) := by decide +kernel
theorem dX0_searchList_135 : decode cX0_searchList 135 = .ok (.iload 10, 2) := by decide +kernel
theorem dX0_searchList_137 : decode cX0_searchList 137 = .ok (.iconst 2, 1) := by decide +kernel
theorem dX0_searchList_138 : decode cX0_searchList 138 = .ok (.iload 6, 2) := by decide +kernel
theorem dX0_searchList_140 : decode cX0_searchList 140 = .ok (.imul, 1) := by decide +kernel
theorem dX0_searchList_141 : decode cX0_searchList 141 = .ok (.iconst 1, 1) := by decide +kernel
theorem dX0_searchList_142 : decode cX0_searchList 142 = .ok (.iadd, 1) := by decide +kernel
theorem dX0_searchList_143 : decode cX0_searchList 143 = .ok (.idiv, 1) := by decide +kernel
theorem dX0_searchList_144 : decode cX0_searchList 144 = .ok (.iadd, 1) := by decide +kernel
theorem dX0_searchList_145 : decode cX0_searchList 145 = .ok (.iload 6, 2) := by decide +kernel
theorem dX0_searchList_147 : decode cX0_searchList 147 = .ok (.isub, 1) := by decide +kernel
theorem dX0_searchList_148 : decode cX0_searchList 148 = .ok (.imul, 1) := by decide +kernel
theorem dX0_searchList_149 : decode cX0_searchList 149 = .ok (.istore 12, 2) := by decide +kernel
theorem dX0_searchList_151 : decode cX0_searchList 151 = .ok (.aload_n 0, 1) := by decide +kernel
theorem dX0_searchList_152 : decode cX0_searchList 152 = .ok (.iload_n 1, 1) := by decide +kernel
theorem dX0_searchList_153 : decode cX0_searchList 153 = .ok (.iload_n 2, 1) := by decide +kernel
theorem dX0_searchList_154 : decode cX0_searchList 154 = .ok (.iload_n 3, 1) := by decide +kernel
theorem dX0_searchList_155 : decode cX0_searchList 155 = .ok (.iload 11, 2) := by decide +kernel
theorem dX0_searchList_157 : decode cX0_searchList 157 = .ok (.iload 12, 2) := by decide +kernel
theorem dX0_searchList_159 : decode cX0_searchList 159 = .ok (.invokevirtual 471, 3) := by decide +kernel
theorem dX0_searchList_162 : decode cX0_searchList 162 = .ok (.istore 13, 2) := by decide +kernel
theorem dX0_searchList_164 : decode cX0_searchList 164 = .ok (.iload 13, 2) := by decide +kernel
theorem dX0_searchList_166 : decode cX0_searchList 166 = .ok (.iload 7, 2) := by decide +kernel
theorem dX0_searchList_168 : decode cX0_searchList 168 = .ok (.if_icmp .ge 15, 3) := by decide +kernel
theorem dX0_searchList_171 : decode cX0_searchList 171 = .ok (.iload 13, 2) := by decide +kernel
theorem dX0_searchList_173 : decode cX0_searchList 173 = .ok (.istore 7, 2) := by decide +kernel
theorem dX0_searchList_175 : decode cX0_searchList 175 = .ok (.iload 11, 2) := by decide +kernel
theorem dX0_searchList_177 : decode cX0_searchList 177 = .ok (.istore 8, 2) := by decide +kernel
theorem dX0_searchList_179 : decode cX0_searchList 179 = .ok (.iload 12, 2) := by decide +kernel
theorem dX0_searchList_181 : decode cX0_searchList 181 = .ok (.istore 9, 2) := by decide +kernel
theorem dX0_searchList_183 : decode cX0_searchList 183 = .ok (.iinc 10 1, 3) := by decide +kernel
theorem dX0_searchList_186 : decode cX0_searchList 186 = .ok (.goto (-91), 3) := by decide +kernel
theorem dX0_searchList_189 : decode cX0_searchList 189 = .ok (.iconst 2, 1) := by decide +kernel
theorem dX0_searchList_190 : decode cX0_searchList 190 = .ok (.istore 10, 2) := by decide +kernel
theorem dX0_searchList_192 : decode cX0_searchList 192 = .ok (.iload 10, 2) := by decide +kernel
theorem dX0_searchList_194 : decode cX0_searchList 194 = .ok (.ifCond .le 113, 3) := by decide +kernel
theorem dX0_searchList_197 : decode cX0_searchList 197 = .ok (.iload 7, 2) := by decide +kernel
theorem dX0_searchList_199 : decode cX0_searchList 199 = .ok (.ldc_w 435, 3) := by decide +kernel
theorem dX0_searchList_202 : decode cX0_searchList 202 = .ok (.if_icmp .ge 105, 3) := by decide +kernel
theorem dX0_searchList_205 : decode cX0_searchList 205 = .ok (.iload 8, 2) := by decide +kernel
theorem dX0_searchList_207 : decode cX0_searchList 207 = .ok (.istore 11, 2) := by decide +kernel
theorem dX0_searchList_209 : decode cX0_searchList 209 = .ok (.iload 9, 2) := by decide +kernel
theorem dX0_searchList_211 : decode cX0_searchList 211 = .ok (.istore 12, 2) := by decide +kernel
theorem dX0_searchList_213 : decode cX0_searchList 213 = .ok (.iconst 0, 1) := by decide +kernel
theorem dX0_searchList_214 : decode cX0_searchList 214 = .ok (.istore 13, 2) := by decide +kernel
theorem dX0_searchList_216 : decode cX0_searchList 216 = .ok (.iload 13, 2) := by decide +kernel
theorem dX0_searchList_218 : decode cX0_searchList 218 = .ok (.bipush 9, 2) := by decide +kernel
theorem dX0_searchList_220 : decode cX0_searchList 220 = .ok (.if_icmp .ge 81, 3) := by decide +kernel
theorem dX0_searchList_223 : decode cX0_searchList 223 = .ok (.iload 11, 2) := by decide +kernel
theorem dX0_searchList_225 : decode cX0_searchList 225 = .ok (.iload 10, 2) := by decide +kernel
theorem dX0_searchList_227 : decode cX0_searchList 227 = .ok (.iload 13, 2) := by decide +kernel
theorem dX0_searchList_229 : decode cX0_searchList 229 = .ok (.iconst 3, 1) := by decide +kernel
theorem dX0_searchList_230 : decode cX0_searchList 230 = .ok (.irem, 1) := by decide +kernel
theorem dX0_searchList_231 : decode cX0_searchList 231 = .ok (.iconst 1, 1) := by decide +kernel
theorem dX0_searchList_232 : decode cX0_searchList 232 = .ok (.isub, 1) := by decide +kernel
theorem dX0_searchList_233 : decode cX0_searchList 233 = .ok (.imul, 1) := by decide +kernel
theorem dX0_searchList_234 : decode cX0_searchList 234 = .ok (.iadd, 1) := by decide +kernel
theorem dX0_searchList_235 : decode cX0_searchList 235 = .ok (.istore 14, 2) := by decide +kernel
theorem dX0_searchList_237 : decode cX0_searchList 237 = .ok (.iload 12, 2) := by decide +kernel
theorem dX0_searchList_239 : decode cX0_searchList 239 = .ok (.iload 10, 2) := by decide +kernel
theorem dX0_searchList_241 : decode cX0_searchList 241 = .ok (.iload 13, 2) := by decide +kernel
theorem dX0_searchList_243 : decode cX0_searchList 243 = .ok (.iconst 3, 1) := by decide +kernel
theorem dX0_searchList_244 : decode cX0_searchList 244 = .ok (.idiv, 1) := by decide +kernel
theorem dX0_searchList_245 : decode cX0_searchList 245 = .ok (.iconst 1, 1) := by decide +kernel
theorem dX0_searchList_246 : decode cX0_searchList 246 = .ok (.isub, 1) := by decide +kernel
theorem dX0_searchList_247 : decode cX0_searchList 247 = .ok (.imul, 1) := by decide +kernel
theorem dX0_searchList_248 : decode cX0_searchList 248 = .ok (.iadd, 1) := by decide +kernel
theorem dX0_searchList_249 : decode cX0_searchList 249 = .ok (.istore 15, 2) := by decide +kernel
theorem dX0_searchList_251 : decode cX0_searchList 251 = .ok (.iload 13, 2) := by decide +kernel
theorem dX0_searchList_253 : decode cX0_searchList 253 = .ok (.iconst 4, 1) := by decide +kernel
theorem dX0_searchList_254 : decode cX0_searchList 254 = .ok (.if_icmp .ne 9, 3) := by decide +kernel
theorem dX0_searchList_257 : decode cX0_searchList 257 = .ok (.ldc_w 435, 3) := by decide +kernel
theorem dX0_searchList_260 : decode cX0_searchList 260 = .ok (.goto 14, 3) := by decide +kernel
theorem dX0_searchList_263 : decode cX0_searchList 263 = .ok (.aload_n 0, 1) := by decide +kernel
theorem dX0_searchList_264 : decode cX0_searchList 264 = .ok (.iload_n 1, 1) := by decide +kernel
theorem dX0_searchList_265 : decode cX0_searchList 265 = .ok (.iload_n 2, 1) := by decide +kernel
theorem dX0_searchList_266 : decode cX0_searchList 266 = .ok (.iload_n 3, 1) := by decide +kernel
theorem dX0_searchList_267 : decode cX0_searchList 267 = .ok (.iload 14, 2) := by decide +kernel
theorem dX0_searchList_269 : decode cX0_searchList 269 = .ok (.iload 15, 2) := by decide +kernel
theorem dX0_searchList_271 : decode cX0_searchList 271 = .ok (.invokevirtual 471, 3) := by decide +kernel
theorem dX0_searchList_274 : decode cX0_searchList 274 = .ok (.istore 16, 2) := by decide +kernel
theorem dX0_searchList_276 : decode cX0_searchList 276 = .ok (.iload 16, 2) := by decide +kernel
theorem dX0_searchList_278 : decode cX0_searchList 278 = .ok (.iload 7, 2) := by decide +kernel
theorem dX0_searchList_280 : decode cX0_searchList 280 = .ok (.if_icmp .ge 15, 3) := by decide +kernel
theorem dX0_searchList_283 : decode cX0_searchList 283 = .ok (.iload 16, 2) := by decide +kernel
theorem dX0_searchList_285 : decode cX0_searchList 285 = .ok (.istore 7, 2) := by decide +kernel
theorem dX0_searchList_287 : decode cX0_searchList 287 = .ok (.iload 14, 2) := by decide +kernel
theorem dX0_searchList_289 : decode cX0_searchList 289 = .ok (.istore 8, 2) := by decide +kernel
theorem dX0_searchList_291 : decode cX0_searchList 291 = .ok (.iload 15, 2) := by decide +kernel
theorem dX0_searchList_293 : decode cX0_searchList 293 = .ok (.istore 9, 2) := by decide +kernel
theorem dX0_searchList_295 : decode cX0_searchList 295 = .ok (.iinc 13 1, 3) := by decide +kernel
theorem dX0_searchList_298 : decode cX0_searchList 298 = .ok (.goto (-82), 3) := by decide +kernel
theorem dX0_searchList_301 : decode cX0_searchList 301 = .ok (.iinc 10 (-1), 3) := by decide +kernel
theorem dX0_searchList_304 : decode cX0_searchList 304 = .ok (.goto (-112), 3) := by decide +kernel
theorem dX0_searchList_307 : decode cX0_searchList 307 = .ok (.aload_n 0, 1) := by decide +kernel
theorem dX0_searchList_308 : decode cX0_searchList 308 = .ok (.iload_n 2, 1) := by decide +kernel
theorem dX0_searchList_309 : decode cX0_searchList 309 = .ok (.iload 7, 2) := by decide +kernel
theorem dX0_searchList_311 : decode cX0_searchList 311 = .ok (.iload_n 3, 1) := by decide +kernel
theorem dX0_searchList_312 : decode cX0_searchList 312 = .ok (.iload 8, 2) := by decide +kernel
theorem dX0_searchList_314 : decode cX0_searchList 314 = .ok (.iload 9, 2) := by decide +kernel
theorem dX0_searchList_316 : decode cX0_searchList 316 = .ok (.invokevirtual 475, 3) := by decide +kernel
theorem dX0_searchList_319 : decode cX0_searchList 319 = .ok (.iinc 3 1, 3) := by decide +kernel
theorem dX0_searchList_322 : decode cX0_searchList 322 = .ok (.goto (-309), 3) := by decide +kernel
theorem dX0_searchList_325 : decode cX0_searchList 325 = .ok (.return_, 1) := by decide +kernel
def FX0_searchList (G : GG) (M : DD) (a : Nat) (p0 : Int32) (p1 : Int32) : Option (DD) :=
  ltt ((((5 : Int32)) * p1)) fun x1 =>
  dr G 13 ((M.2 a 20)) fun b2 =>
  chk (¬ (x1 < 0 ∨ G.2.2 b2 ≤ x1.toNatClampNeg)) <|
  ltt (uI M b2 x1.toNatClampNeg ((2147483647 : Int32))) fun M3 =>
  bnd (itr (fun (s5 : Int32 × DD) => ((dr G 9 ((s5.2.2 a 3)) fun b8 =>
  dr G 3 ((s5.2.2 b8 1)) fun b9 =>
  ltt ((((9 : Int32)) + p1)) fun x10 =>
  dr G 13 ((s5.2.2 b9 0)) fun b11 =>
  chk (¬ (x10 < 0 ∨ G.2.2 b11 ≤ x10.toNatClampNeg)) <|
  ltt (s5.2.1 b11 x10.toNatClampNeg) fun x12 =>
  if x12 ≤ s5.1 then (some (.inr (s5.1, s5.2))) else
  (bnd (FX9_guess G s5.2 b8 p0 p1 s5.1 ((0 : Int32)) ((16 : Int32)) ((0 : Int32))) fun y14 =>
  dr G 9 ((y14.2 a 3)) fun b15 =>
  ltt (y14.1 b15 18) fun x16 =>
  ltt ((x16 + ((2 : Int32)))) fun x17 =>
  ltt ((x17 >>> (((2 : Int32)) &&& 31))) fun x18 =>
  ltt (y14.1 b15 19) fun x19 =>
  ltt ((x19 + ((2 : Int32)))) fun x20 =>
  ltt ((x20 >>> (((2 : Int32)) &&& 31))) fun x21 =>
  dr G 13 ((y14.2 a 1)) fun b22 =>
  chk (¬ (((10 : Int32)) < 0 ∨ G.2.2 b22 ≤ ((10 : Int32)).toNatClampNeg)) <|
  ltt (y14.1 b22 ((10 : Int32)).toNatClampNeg) fun x23 =>
  bnd (itr (fun (s25 : Int32 × Int32 × Int32 × Int32 × DD) => ((ltt ((((2 : Int32)) * x23)) fun x56 =>
  ltt ((x56 + ((1 : Int32)))) fun x57 =>
  ltt ((((2 : Int32)) * x23)) fun x58 =>
  ltt ((x58 + ((1 : Int32)))) fun x59 =>
  ltt ((x57 * x59)) fun x60 =>
  if x60 ≤ s25.2.2.2.1 then (some (.inr (s25.1, s25.2.1, s25.2.2.1, s25.2.2.2.1, s25.2.2.2.2))) else
  (ltt ((((2 : Int32)) * x23)) fun x62 =>
  ltt ((x62 + ((1 : Int32)))) fun x63 =>
  chk (¬ x63 = 0) <|
  ltt (s25.2.2.2.1 - s25.2.2.2.1 / x63 * x63) fun x64 =>
  ltt ((x18 + x64)) fun x65 =>
  ltt ((x65 - x23)) fun x66 =>
  ltt ((((4 : Int32)) * x66)) fun x67 =>
  ltt ((((2 : Int32)) * x23)) fun x68 =>
  ltt ((x68 + ((1 : Int32)))) fun x69 =>
  chk (¬ x69 = 0) <|
  ltt (s25.2.2.2.1 / x69) fun x70 =>
  ltt ((x21 + x70)) fun x71 =>
  ltt ((x71 - x23)) fun x72 =>
  ltt ((((4 : Int32)) * x72)) fun x73 =>
  bnd (FX0_costOf G s25.2.2.2.2 a p0 p1 s5.1 x67 x73) fun y74 =>
  bnd (if s25.1 ≤ y74.2 then (some (s25.1, s25.2.1, s25.2.2.1)) else
  (some (y74.2, x67, x73))) fun (y75 : Int32 × Int32 × Int32) =>
  ltt (s25.2.2.2.1 + (1 : Int32)) fun x76 =>
  some (.inl (y75.1, y75.2.1, y75.2.2, x76, y74.1)))) : Option ((Int32 × Int32 × Int32 × Int32 × DD) ⊕ (Int32 × Int32 × Int32 × Int32 × DD)))) 1000000 ((2147483647 : Int32), (0 : Int32), (0 : Int32), (0 : Int32), y14)) fun (y24 : Int32 × Int32 × Int32 × Int32 × DD) =>
  bnd (itr (fun (s28 : Int32 × Int32 × Int32 × Int32 × DD) => ((if s28.2.2.2.1 ≤ ((0 : Int32)) then (some (.inr (s28.1, s28.2.1, s28.2.2.1, s28.2.2.2.1, s28.2.2.2.2))) else
  (if ((2147483647 : Int32)) ≤ s28.1 then (some (.inr (s28.1, s28.2.1, s28.2.2.1, s28.2.2.2.1, s28.2.2.2.2))) else
  (bnd (itr (fun (s36 : Int32 × Int32 × Int32 × Int32 × DD) => ((if ((9 : Int32)) ≤ s36.2.2.2.1 then (some (.inr (s36.1, s36.2.1, s36.2.2.1, s36.2.2.2.1, s36.2.2.2.2))) else
  (ltt (s36.2.2.2.1 - s36.2.2.2.1 / ((3 : Int32)) * ((3 : Int32))) fun x41 =>
  ltt ((x41 - ((1 : Int32)))) fun x42 =>
  ltt ((s28.2.2.2.1 * x42)) fun x43 =>
  ltt ((s28.2.1 + x43)) fun x44 =>
  ltt (s36.2.2.2.1 / ((3 : Int32))) fun x45 =>
  ltt ((x45 - ((1 : Int32)))) fun x46 =>
  ltt ((s28.2.2.2.1 * x46)) fun x47 =>
  ltt ((s28.2.2.1 + x47)) fun x48 =>
  bnd (if s36.2.2.2.1 = ((4 : Int32)) then (some ((2147483647 : Int32), s36.2.2.2.2)) else
  (bnd (FX0_costOf G s36.2.2.2.2 a p0 p1 s5.1 x44 x48) fun y54 =>
  some (y54.2, y54.1))) fun (y49 : Int32 × DD) =>
  bnd (if s36.1 ≤ y49.1 then (some (s36.1, s36.2.1, s36.2.2.1)) else
  (some (y49.1, x44, x48))) fun (y50 : Int32 × Int32 × Int32) =>
  ltt (s36.2.2.2.1 + (1 : Int32)) fun x51 =>
  some (.inl (y50.1, y50.2.1, y50.2.2, x51, y49.2)))) : Option ((Int32 × Int32 × Int32 × Int32 × DD) ⊕ (Int32 × Int32 × Int32 × Int32 × DD)))) 1000000 (s28.1, s28.2.1, s28.2.2.1, (0 : Int32), s28.2.2.2.2)) fun (y35 : Int32 × Int32 × Int32 × Int32 × DD) =>
  ltt (s28.2.2.2.1 + (-1 : Int32)) fun x38 =>
  some (.inl (y35.1, y35.2.1, y35.2.2.1, x38, y35.2.2.2.2))))) : Option ((Int32 × Int32 × Int32 × Int32 × DD) ⊕ (Int32 × Int32 × Int32 × Int32 × DD)))) 1000000 (y24.1, y24.2.1, y24.2.2.1, (2 : Int32), y24.2.2.2.2)) fun (y27 : Int32 × Int32 × Int32 × Int32 × DD) =>
  bnd (FX0_noteBest G y27.2.2.2.2 a p1 y27.1 s5.1 y27.2.1 y27.2.2.1) fun y30 =>
  ltt (s5.1 + (1 : Int32)) fun x31 =>
  some (.inl (x31, y30)))) : Option ((Int32 × DD) ⊕ (Int32 × DD)))) 1000000 ((0 : Int32), M3)) fun (y4 : Int32 × DD) =>
  some y4.2
set_option maxHeartbeats 4000000 in
set_option maxRecDepth 100000 in
theorem kX0_searchList (l : Launch) (D : va_G) (ct : CT) (ad : Nat → Nat) (Z : Nat → Nat) (G : GG) (M : DD) (sz : Nat) (a : Nat) (p0 : Int32) (p1 : Int32) (y : DD) (hc : a < G.1) (hk : G.2.1 a = 0) (hF : FX0_searchList G M a p0 p1 = some y) : Met l yX0_searchList wsX0_searchList ({ frames := 5, cells := 0, slots := 0, locals := 139 }) (va_Pc [.ref (ad a), .int p0, .int p1] (kB D ct ad Z G M sz)) (va_Qv (fun (_ : Unit) => True) (fun _ t => kE D ct ad G (wA ad G sz) y t) (wA ad G sz)) 0 0 (wA ad G sz) := by
  refine Met.ofW (cc := cX0_searchList) (maxL := 17) (ret := none) (by decide) rfl ?_
  intro p e s m args below meth c s₁ B hml hv
  obtain ⟨rfl, hsz, hP, hK, hD0, hZ, hN⟩ := hv
  have hx := B.exec
  have hb := B.bytes
  have hr := B.returns
  have hts := atoms_spec (ws := wsX0_searchList) B.pre
  have hown : s.vm.findClass RX0 = some m.cls := findClass_of_methodNamed B.named
  have hlocks := B.notSynchronized
  subst hsz
  have hD := wD_self (sz := s.heap.size) hD0
  have hA9 : ∀ q, s.heap.size ≤ q → wA ad G s.heap.size q := fun q h => Or.inr h
  generalize hAe : wA ad G s.heap.size = A at hD hA9 hZ ⊢
  have hS : va_S A s.heap s.heap [] := va_S.rf
  have hl := lv_entry ([.ref (ad a), .int p0, .int p1]) (n := 17) (Nat.le_of_ble_eq_true rfl)
  rw [lg_entry_eq]
  generalize (lg_sl ([.ref (ad a), .int p0, .int p1]) ++ List.replicate (17 - (lg_sl ([.ref (ad a), .int p0, .int p1])).length) Slot.unset).toArray = ls at hl ⊢
  have hl : lv_has ls 17 [(0, .ref (ad a)), (1, .int p0), (2, .int p1)] := hl
  unfold FX0_searchList at hF
  refine lv_aload_n hx hb dX0_searchList_0 rfl (lv_at hl 0 rfl) ?_
  refine va_get (D := D) (ci := 0) (v := va_re ad (M.2 a 20)) (C := RX0) (T := TX0) (N := 21) hx hb hts (by decide +kernel) hown hK hP a (wld_o ct ad G M hc hk (by decide)) rfl 20 (by decide) (hts (.fieldLink RX0 75 "VideoSuite$Coder" "choice" "[I") (by decide +kernel)) (fun _ h9 => h9) rfl dX0_searchList_1 ?_
  refine lv_iconst (v := (5 : Int32)) hx hb dX0_searchList_4 (by decide) ?_
  refine lv_iload_n hx hb dX0_searchList_5 rfl (lv_at hl 2 rfl) ?_
  refine lv_imul hx hb dX0_searchList_6 ?_
  obtain ⟨x1, ex1, hF⟩ := ltt_some hF
  refine lv_topi (fun zx1 ezx1 => ?_)
  obtain rfl : x1 = zx1 := ex1.trans ezx1.symm
  refine lv_ldcw (v := (2147483647 : Int32)) hx hb hown (hts (.constant RX0 435 (2147483647 : Int32)) (by decide +kernel)) dX0_searchList_7 ?_
  obtain ⟨b2, ho2, hc2, hk2, hF⟩ := dr_some hF
  refine W_st (st' := [.int (2147483647 : Int32), .int x1, .ref (ad b2)]) (by rw [va_some ho2]) ?_
  obtain ⟨hvc, hF⟩ := chk_some hF
  refine va_iast hx hb hK hP hD hS b2 1 (wld_i ct ad G M hc2 hk2) rfl hvc dX0_searchList_10 (fun H locs hP hD hS => ?_)
  obtain ⟨M3, eM3, hF⟩ := ltt_some hF
  rw [set_i ct ad G M hc2 hk2, ← eM3] at hP hD
  refine lv_iconst (v := (0 : Int32)) hx hb dX0_searchList_11 (by decide) ?_
  refine lv_istore_n (lv' := [(3, .int (0 : Int32)), (0, .ref (ad a)), (1, .int p0), (2, .int p1)]) hx hb dX0_searchList_12 rfl hl (by decide) rfl (fun ls hl => ?_)
  obtain ⟨y4, hy4, hF⟩ := bnd_some hF
  have K4 : ∀ (H : Heap) (locs : List Loc) (ls : Array Slot), va_P D classes (wld ct ad G y4.2) H → va_D A (wld ct ad G y4.2) → va_S A s.heap H locs → lv_has ls 17 [(3, .int y4.1), (0, .ref (ad a)), (1, .int p0), (2, .int p1)] → W p l e (headSpec wsX0_searchList ({ frames := 5, cells := 0, slots := 0, locals := 139 })).room s m ([.ref (ad a), .int p0, .int p1] : List Value).toArray below meth c H locs 0 0 (MQ below (va_Qv (fun (_ : Unit) => True) (fun _ t => kE D ct ad G A y t) A) ([.ref (ad a), .int p0, .int p1] : List Value).toArray s 0 0 A) (F0 m 325 ls []) := by
    intro H locs ls hP hD hS hl
    obtain rfl := Option.some.inj hF
    exact W.vret hx hb hr (fun t ht hW => ⟨⟨(), rfl, trivial, ⟨by rw [ht]; exact hP, va_K.moved hW.alike hK, hD⟩⟩, hS.F ht⟩) hS.2.2 dX0_searchList_325
  clear hF
  refine itr_rule (fun (s5 : Int32 × DD) => ∀ (H : Heap) (locs : List Loc) (ls : Array Slot), va_P D classes (wld ct ad G s5.2) H → va_D A (wld ct ad G s5.2) → va_S A s.heap H locs → lv_has ls 17 [(3, .int s5.1), (0, .ref (ad a)), (1, .int p0), (2, .int p1)] → W p l e (headSpec wsX0_searchList ({ frames := 5, cells := 0, slots := 0, locals := 139 })).room s m ([.ref (ad a), .int p0, .int p1] : List Value).toArray below meth c H locs 0 0 (MQ below (va_Qv (fun (_ : Unit) => True) (fun _ t => kE D ct ad G A y t) A) ([.ref (ad a), .int p0, .int p1] : List Value).toArray s 0 0 A) (F0 m 13 ls [])) ?_ _ _ hy4 _ _ _ hP hD hS (lv_sub hl [0, 1, 2, 3] rfl)
  rintro s5 ⟨z7, hF, hwz7⟩ H locs ls hP hD hS hl
  try dsimp only at hF
  refine lv_iload_n hx hb dX0_searchList_13 rfl (lv_at hl 0 rfl) ?_
  refine lv_aload_n hx hb dX0_searchList_14 rfl (lv_at hl 1 rfl) ?_
  refine va_get (D := D) (ci := 0) (v := va_re ad (s5.2.2 a 3)) (C := RX0) (T := TX0) (N := 21) hx hb hts (by decide +kernel) hown hK hP a (wld_o ct ad G s5.2 hc hk (by decide)) rfl 3 (by decide) (hts (.fieldLink RX0 36 "VideoSuite$Coder" "work" "LVideoSuite$Work;") (by decide +kernel)) (fun _ h9 => h9) rfl dX0_searchList_15 ?_
  obtain ⟨b8, ho8, hc8, hk8, hF⟩ := dr_some hF
  refine W_st (st' := [.ref (ad b8), .int s5.1]) (by rw [va_some ho8]) ?_
  refine va_get (D := D) (ci := 9) (v := va_re ad (s5.2.2 b8 1)) (C := RX9) (T := TX9) (N := 20) hx hb hts (by decide +kernel) hown hK hP b8 (wld_o ct ad G s5.2 hc8 hk8 (by decide)) rfl 1 (by decide) (hts (.fieldLink RX0 81 "VideoSuite$Work" "head" "LVideoSuite$Header;") (by decide +kernel)) (fun _ h9 => h9) rfl dX0_searchList_18 ?_
  obtain ⟨b9, ho9, hc9, hk9, hF⟩ := dr_some hF
  refine W_st (st' := [.ref (ad b9), .int s5.1]) (by rw [va_some ho9]) ?_
  refine va_get (D := D) (ci := 3) (v := va_re ad (s5.2.2 b9 0)) (C := RX3) (T := TX3) (N := 4) hx hb hts (by decide +kernel) hown hK hP b9 (wld_o ct ad G s5.2 hc9 hk9 (by decide)) rfl 0 (by decide) (hts (.fieldLink RX0 252 "VideoSuite$Header" "v" "[I") (by decide +kernel)) (fun _ h9 => h9) rfl dX0_searchList_21 ?_
  refine lv_bipush (v := (9 : Int32)) hx hb dX0_searchList_24 (by decide) ?_
  refine lv_iload_n hx hb dX0_searchList_26 rfl (lv_at hl 3 rfl) ?_
  refine lv_iadd hx hb dX0_searchList_27 ?_
  obtain ⟨x10, ex10, hF⟩ := ltt_some hF
  refine lv_topi (fun zx10 ezx10 => ?_)
  obtain rfl : x10 = zx10 := ex10.trans ezx10.symm
  obtain ⟨b11, ho11, hc11, hk11, hF⟩ := dr_some hF
  refine W_st (st' := [.int x10, .ref (ad b11), .int s5.1]) (by rw [va_some ho11]) ?_
  obtain ⟨hvc, hF⟩ := chk_some hF
  refine va_iald hx hb hK hP b11 1 (wld_i ct ad G s5.2 hc11 hk11) rfl hvc dX0_searchList_28 ?_
  obtain ⟨x12, ex12, hF⟩ := ltt_some hF
  refine lv_topi (fun zx12 ezx12 => ?_)
  obtain rfl : x12 = zx12 := ex12.trans ezx12.symm
  refine lv_icmp_ge (tgt := 325) hx hb dX0_searchList_29 (by decide) (fun c13 => ?_) (fun c13 => ?_)
  · rw [if_pos c13] at hF
    obtain rfl := Option.some.inj hF
    subst hwz7
    exact K4 _ _ _ hP hD hS (lv_sub hl [0, 1, 2, 3] rfl)
  · rw [if_neg c13] at hF
    refine lv_aload_n hx hb dX0_searchList_32 rfl (lv_at hl 1 rfl) ?_
    refine va_get (D := D) (ci := 0) (v := va_re ad (s5.2.2 a 3)) (C := RX0) (T := TX0) (N := 21) hx hb hts (by decide +kernel) hown hK hP a (wld_o ct ad G s5.2 hc hk (by decide)) rfl 3 (by decide) (hts (.fieldLink RX0 36 "VideoSuite$Coder" "work" "LVideoSuite$Work;") (by decide +kernel)) (fun _ h9 => h9) rfl dX0_searchList_33 ?_
    refine lv_iload_n hx hb dX0_searchList_36 rfl (lv_at hl 2 rfl) ?_
    refine lv_iload_n hx hb dX0_searchList_37 rfl (lv_at hl 3 rfl) ?_
    refine lv_iload_n hx hb dX0_searchList_38 rfl (lv_at hl 0 rfl) ?_
    refine lv_iconst (v := (0 : Int32)) hx hb dX0_searchList_39 (by decide) ?_
    refine lv_bipush (v := (16 : Int32)) hx hb dX0_searchList_40 (by decide) ?_
    refine lv_iconst (v := (0 : Int32)) hx hb dX0_searchList_42 (by decide) ?_
    refine W_st (st' := [.int (0 : Int32), .int (16 : Int32), .int (0 : Int32), .int s5.1, .int p1, .int p0, .ref (ad b8)]) (by rw [va_some ho8]) ?_
    obtain ⟨y14, hy14, hF⟩ := bnd_some hF
    have hf9 := wA_in hD hA9 hS
    refine va_callv (va_runV (As := [.int p0, .int p1, .int s5.1, .int (0 : Int32), .int (16 : Int32), .int (0 : Int32)]) (rest := []) ⟨hx, hb, hml, hown, hts⟩ (kX9_guess l D ct ad Z G s5.2 H.size b8 p0 p1 s5.1 ((0 : Int32)) ((16 : Int32)) ((0 : Int32)) y14 hc8 hk8 hy14) (cwV 6 hts gX0_searchList_X9_guess rfl rfl rfl (by decide +kernel) ⟨Nat.le_of_ble_eq_true rfl, Nat.le_of_ble_eq_true rfl⟩) ⟨fun a U g mk q => by obtain ⟨q0, q1, qP, qK, qD, qZ, qN⟩ := q; exact ⟨q0, q1, qP, va_K.moved (u := U) (U := U.calling g mk a) (Vm.Alike.refl U.vm) qK, qD, sF.moved (u := U) (U := U.calling g mk a) (Vm.Alike.refl U.vm) qZ, nF.same rfl qN⟩, va_recv hK hP (ci := 9) (q0 := b8) rfl (wld_o ct ad G s5.2 hc8 hk8 (by decide)), fun U hU hW => ⟨rfl, by rw [hU], by rw [hU]; exact hP, va_K.moved hW.alike hK, hD.weaken (fun _ _ _ _ => trivial), by rw [hU]; exact ((hZ.kept hS.2.1).narrow hf9).moved hW.alike, hN.warm hW⟩⟩ rfl rfl hl.1 rfl (lv_room (Nat.le_of_ble_eq_true rfl)) dX0_searchList_43 ⟨(Nat.zero_le _), (Nat.zero_le _)⟩) hS (fun q _ h => hf9 q h) hf9 (fun u t H locs ht hvm hw hB hz1 hk1 hS => ?_)
    obtain ⟨hP, hK9, hD9⟩ := hB
    rw [ht] at hP
    have hD := hD9.weaken (fun _ q _ h => hf9 q.1 h)
    refine lv_aload_n hx hb dX0_searchList_46 rfl (lv_at hl 1 rfl) ?_
    refine va_get (D := D) (ci := 0) (v := va_re ad (y14.2 a 3)) (C := RX0) (T := TX0) (N := 21) hx hb hts (by decide +kernel) hown hK hP a (wld_o ct ad G y14 hc hk (by decide)) rfl 3 (by decide) (hts (.fieldLink RX0 36 "VideoSuite$Coder" "work" "LVideoSuite$Work;") (by decide +kernel)) (fun _ h9 => h9) rfl dX0_searchList_47 ?_
    obtain ⟨b15, ho15, hc15, hk15, hF⟩ := dr_some hF
    refine W_st (st' := [.ref (ad b15)]) (by rw [va_some ho15]) ?_
    refine va_get (D := D) (ci := 9) (v := .int (y14.1 b15 18)) (C := RX9) (T := TX9) (N := 20) hx hb hts (by decide +kernel) hown hK hP b15 (wld_o ct ad G y14 hc15 hk15 (by decide)) rfl 18 (by decide) (hts (.fieldLink RX0 419 "VideoSuite$Work" "guessX" "I") (by decide +kernel)) (fun _ h9 => h9) rfl dX0_searchList_50 ?_
    obtain ⟨x16, ex16, hF⟩ := ltt_some hF
    refine lv_topi (fun zx16 ezx16 => ?_)
    obtain rfl : x16 = zx16 := ex16.trans ezx16.symm
    refine lv_iconst (v := (2 : Int32)) hx hb dX0_searchList_53 (by decide) ?_
    refine lv_iadd hx hb dX0_searchList_54 ?_
    obtain ⟨x17, ex17, hF⟩ := ltt_some hF
    refine lv_topi (fun zx17 ezx17 => ?_)
    obtain rfl : x17 = zx17 := ex17.trans ezx17.symm
    refine lv_iconst (v := (2 : Int32)) hx hb dX0_searchList_55 (by decide) ?_
    refine lv_ishr hx hb dX0_searchList_56 ?_
    obtain ⟨x18, ex18, hF⟩ := ltt_some hF
    refine lv_topi (fun zx18 ezx18 => ?_)
    obtain rfl : x18 = zx18 := ex18.trans ezx18.symm
    refine lv_istore (lv' := [(4, .int x18), (3, .int s5.1), (0, .ref (ad a)), (1, .int p0), (2, .int p1)]) hx hb dX0_searchList_57 hl (by decide) rfl (fun ls hl => ?_)
    refine lv_aload_n hx hb dX0_searchList_59 rfl (lv_at hl 2 rfl) ?_
    refine va_get (D := D) (ci := 0) (v := va_re ad (y14.2 a 3)) (C := RX0) (T := TX0) (N := 21) hx hb hts (by decide +kernel) hown hK hP a (wld_o ct ad G y14 hc hk (by decide)) rfl 3 (by decide) (hts (.fieldLink RX0 36 "VideoSuite$Coder" "work" "LVideoSuite$Work;") (by decide +kernel)) (fun _ h9 => h9) rfl dX0_searchList_60 ?_
    refine W_st (st' := [.ref (ad b15)]) (by rw [va_some ho15]) ?_
    refine va_get (D := D) (ci := 9) (v := .int (y14.1 b15 19)) (C := RX9) (T := TX9) (N := 20) hx hb hts (by decide +kernel) hown hK hP b15 (wld_o ct ad G y14 hc15 hk15 (by decide)) rfl 19 (by decide) (hts (.fieldLink RX0 422 "VideoSuite$Work" "guessY" "I") (by decide +kernel)) (fun _ h9 => h9) rfl dX0_searchList_63 ?_
    obtain ⟨x19, ex19, hF⟩ := ltt_some hF
    refine lv_topi (fun zx19 ezx19 => ?_)
    obtain rfl : x19 = zx19 := ex19.trans ezx19.symm
    refine lv_iconst (v := (2 : Int32)) hx hb dX0_searchList_66 (by decide) ?_
    refine lv_iadd hx hb dX0_searchList_67 ?_
    obtain ⟨x20, ex20, hF⟩ := ltt_some hF
    refine lv_topi (fun zx20 ezx20 => ?_)
    obtain rfl : x20 = zx20 := ex20.trans ezx20.symm
    refine lv_iconst (v := (2 : Int32)) hx hb dX0_searchList_68 (by decide) ?_
    refine lv_ishr hx hb dX0_searchList_69 ?_
    obtain ⟨x21, ex21, hF⟩ := ltt_some hF
    refine lv_topi (fun zx21 ezx21 => ?_)
    obtain rfl : x21 = zx21 := ex21.trans ezx21.symm
    refine lv_istore (lv' := [(5, .int x21), (4, .int x18), (3, .int s5.1), (0, .ref (ad a)), (1, .int p0), (2, .int p1)]) hx hb dX0_searchList_70 hl (by decide) rfl (fun ls hl => ?_)
    refine lv_aload_n hx hb dX0_searchList_72 rfl (lv_at hl 3 rfl) ?_
    refine va_get (D := D) (ci := 0) (v := va_re ad (y14.2 a 1)) (C := RX0) (T := TX0) (N := 21) hx hb hts (by decide +kernel) hown hK hP a (wld_o ct ad G y14 hc hk (by decide)) rfl 1 (by decide) (hts (.fieldLink RX0 23 "VideoSuite$Coder" "now" "[I") (by decide +kernel)) (fun _ h9 => h9) rfl dX0_searchList_73 ?_
    refine lv_bipush (v := (10 : Int32)) hx hb dX0_searchList_76 (by decide) ?_
    obtain ⟨b22, ho22, hc22, hk22, hF⟩ := dr_some hF
    refine W_st (st' := [.int (10 : Int32), .ref (ad b22)]) (by rw [va_some ho22]) ?_
    obtain ⟨hvc, hF⟩ := chk_some hF
    refine va_iald hx hb hK hP b22 1 (wld_i ct ad G y14 hc22 hk22) rfl hvc dX0_searchList_78 ?_
    obtain ⟨x23, ex23, hF⟩ := ltt_some hF
    refine lv_topi (fun zx23 ezx23 => ?_)
    obtain rfl : x23 = zx23 := ex23.trans ezx23.symm
    refine lv_istore (lv' := [(6, .int x23), (5, .int x21), (4, .int x18), (3, .int s5.1), (0, .ref (ad a)), (1, .int p0), (2, .int p1)]) hx hb dX0_searchList_79 hl (by decide) rfl (fun ls hl => ?_)
    refine lv_ldcw (v := (2147483647 : Int32)) hx hb hown (hts (.constant RX0 435 (2147483647 : Int32)) (by decide +kernel)) dX0_searchList_81 ?_
    refine lv_istore (lv' := [(7, .int (2147483647 : Int32)), (6, .int x23), (5, .int x21), (4, .int x18), (3, .int s5.1), (0, .ref (ad a)), (1, .int p0), (2, .int p1)]) hx hb dX0_searchList_84 hl (by decide) rfl (fun ls hl => ?_)
    refine lv_iconst (v := (0 : Int32)) hx hb dX0_searchList_86 (by decide) ?_
    refine lv_istore (lv' := [(8, .int (0 : Int32)), (7, .int (2147483647 : Int32)), (6, .int x23), (5, .int x21), (4, .int x18), (3, .int s5.1), (0, .ref (ad a)), (1, .int p0), (2, .int p1)]) hx hb dX0_searchList_87 hl (by decide) rfl (fun ls hl => ?_)
    refine lv_iconst (v := (0 : Int32)) hx hb dX0_searchList_89 (by decide) ?_
    refine lv_istore (lv' := [(9, .int (0 : Int32)), (8, .int (0 : Int32)), (7, .int (2147483647 : Int32)), (6, .int x23), (5, .int x21), (4, .int x18), (3, .int s5.1), (0, .ref (ad a)), (1, .int p0), (2, .int p1)]) hx hb dX0_searchList_90 hl (by decide) rfl (fun ls hl => ?_)
    refine lv_iconst (v := (0 : Int32)) hx hb dX0_searchList_92 (by decide) ?_
    refine lv_istore (lv' := [(10, .int (0 : Int32)), (9, .int (0 : Int32)), (8, .int (0 : Int32)), (7, .int (2147483647 : Int32)), (6, .int x23), (5, .int x21), (4, .int x18), (3, .int s5.1), (0, .ref (ad a)), (1, .int p0), (2, .int p1)]) hx hb dX0_searchList_93 hl (by decide) rfl (fun ls hl => ?_)
    obtain ⟨y24, hy24, hF⟩ := bnd_some hF
    have K24 : ∀ (H : Heap) (locs : List Loc) (ls : Array Slot), va_P D classes (wld ct ad G y24.2.2.2.2) H → va_D A (wld ct ad G y24.2.2.2.2) → va_S A s.heap H locs → lv_has ls 17 [(10, .int y24.2.2.2.1), (9, .int y24.2.2.1), (8, .int y24.2.1), (7, .int y24.1), (6, .int x23), (5, .int x21), (4, .int x18), (3, .int s5.1), (0, .ref (ad a)), (1, .int p0), (2, .int p1)] → W p l e (headSpec wsX0_searchList ({ frames := 5, cells := 0, slots := 0, locals := 139 })).room s m ([.ref (ad a), .int p0, .int p1] : List Value).toArray below meth c H locs 0 0 (MQ below (va_Qv (fun (_ : Unit) => True) (fun _ t => kE D ct ad G A y t) A) ([.ref (ad a), .int p0, .int p1] : List Value).toArray s 0 0 A) (F0 m 189 ls []) := by
      intro H locs ls hP hD hS hl
      refine lv_iconst (v := (2 : Int32)) hx hb dX0_searchList_189 (by decide) ?_
      refine lv_istore (lv' := [(10, .int (2 : Int32)), (9, .int y24.2.2.1), (8, .int y24.2.1), (7, .int y24.1), (6, .int x23), (5, .int x21), (4, .int x18), (3, .int s5.1), (0, .ref (ad a)), (1, .int p0), (2, .int p1)]) hx hb dX0_searchList_190 hl (by decide) rfl (fun ls hl => ?_)
      obtain ⟨y27, hy27, hF⟩ := bnd_some hF
      have K27 : ∀ (H : Heap) (locs : List Loc) (ls : Array Slot), va_P D classes (wld ct ad G y27.2.2.2.2) H → va_D A (wld ct ad G y27.2.2.2.2) → va_S A s.heap H locs → lv_has ls 17 [(10, .int y27.2.2.2.1), (9, .int y27.2.2.1), (8, .int y27.2.1), (7, .int y27.1), (6, .int x23), (5, .int x21), (4, .int x18), (3, .int s5.1), (0, .ref (ad a)), (1, .int p0), (2, .int p1)] → W p l e (headSpec wsX0_searchList ({ frames := 5, cells := 0, slots := 0, locals := 139 })).room s m ([.ref (ad a), .int p0, .int p1] : List Value).toArray below meth c H locs 0 0 (MQ below (va_Qv (fun (_ : Unit) => True) (fun _ t => kE D ct ad G A y t) A) ([.ref (ad a), .int p0, .int p1] : List Value).toArray s 0 0 A) (F0 m 307 ls []) := by
        intro H locs ls hP hD hS hl
        refine lv_aload_n hx hb dX0_searchList_307 rfl (lv_at hl 8 rfl) ?_
        refine lv_iload_n hx hb dX0_searchList_308 rfl (lv_at hl 10 rfl) ?_
        refine lv_iload hx hb dX0_searchList_309 (lv_at hl 3 rfl) ?_
        refine lv_iload_n hx hb dX0_searchList_311 rfl (lv_at hl 7 rfl) ?_
        refine lv_iload hx hb dX0_searchList_312 (lv_at hl 2 rfl) ?_
        refine lv_iload hx hb dX0_searchList_314 (lv_at hl 1 rfl) ?_
        obtain ⟨y30, hy30, hF⟩ := bnd_some hF
        have hf9 := wA_in hD hA9 hS
        refine va_callv (va_runV (As := [.int p1, .int y27.1, .int s5.1, .int y27.2.1, .int y27.2.2.1]) (rest := []) ⟨hx, hb, hml, hown, hts⟩ (kX0_noteBest l D ct ad Z G y27.2.2.2.2 H.size a p1 y27.1 s5.1 y27.2.1 y27.2.2.1 y30 hc hk hy30) (cwV 5 hts gX0_searchList_X0_noteBest rfl rfl rfl (by decide +kernel) ⟨Nat.le_of_ble_eq_true rfl, Nat.le_of_ble_eq_true rfl⟩) ⟨fun a U g mk q => by obtain ⟨q0, q1, qP, qK, qD, qZ, qN⟩ := q; exact ⟨q0, q1, qP, va_K.moved (u := U) (U := U.calling g mk a) (Vm.Alike.refl U.vm) qK, qD, sF.moved (u := U) (U := U.calling g mk a) (Vm.Alike.refl U.vm) qZ, nF.same rfl qN⟩, va_recv hK hP (ci := 0) (q0 := a) rfl (wld_o ct ad G y27.2.2.2.2 hc hk (by decide)), fun U hU hW => ⟨rfl, by rw [hU], by rw [hU]; exact hP, va_K.moved hW.alike hK, hD.weaken (fun _ _ _ _ => trivial), by rw [hU]; exact ((hZ.kept hS.2.1).narrow hf9).moved hW.alike, hN.warm hW⟩⟩ rfl rfl hl.1 rfl (lv_room (Nat.le_of_ble_eq_true rfl)) dX0_searchList_316 ⟨(Nat.zero_le _), (Nat.zero_le _)⟩) hS (fun q _ h => hf9 q h) hf9 (fun u t H locs ht hvm hw hB hz1 hk1 hS => ?_)
        obtain ⟨hP, hK9, hD9⟩ := hB
        rw [ht] at hP
        have hD := hD9.weaken (fun _ q _ h => hf9 q.1 h)
        obtain ⟨x31, ex31, hF⟩ := ltt_some hF
        refine lv_iinc (v := x31) (lv' := [(3, .int x31), (10, .int y27.2.2.2.1), (9, .int y27.2.2.1), (8, .int y27.2.1), (7, .int y27.1), (6, .int x23), (5, .int x21), (4, .int x18), (0, .ref (ad a)), (1, .int p0), (2, .int p1)]) hx hb dX0_searchList_319 hl (k := 7) rfl (by rw [ex31]; rfl) (by decide) rfl (fun ls hl => ?_)
        refine lv_goto (tgt := 13) hx hb dX0_searchList_322 (by decide) ?_
        obtain rfl := Option.some.inj hF
        exact hwz7 _ _ _ hP hD hS (lv_sub hl [0, 8, 9, 10] rfl)
      clear hF
      refine itr_rule (fun (s28 : Int32 × Int32 × Int32 × Int32 × DD) => ∀ (H : Heap) (locs : List Loc) (ls : Array Slot), va_P D classes (wld ct ad G s28.2.2.2.2) H → va_D A (wld ct ad G s28.2.2.2.2) → va_S A s.heap H locs → lv_has ls 17 [(10, .int s28.2.2.2.1), (9, .int s28.2.2.1), (8, .int s28.2.1), (7, .int s28.1), (6, .int x23), (5, .int x21), (4, .int x18), (3, .int s5.1), (0, .ref (ad a)), (1, .int p0), (2, .int p1)] → W p l e (headSpec wsX0_searchList ({ frames := 5, cells := 0, slots := 0, locals := 139 })).room s m ([.ref (ad a), .int p0, .int p1] : List Value).toArray below meth c H locs 0 0 (MQ below (va_Qv (fun (_ : Unit) => True) (fun _ t => kE D ct ad G A y t) A) ([.ref (ad a), .int p0, .int p1] : List Value).toArray s 0 0 A) (F0 m 192 ls [])) ?_ _ _ hy27 _ _ _ hP hD hS (lv_sub hl [0, 1, 2, 3, 4, 5, 6, 7, 8, 9, 10] rfl)
      rintro s28 ⟨z32, hF, hwz32⟩ H locs ls hP hD hS hl
      try dsimp only at hF
      refine lv_iload hx hb dX0_searchList_192 (lv_at hl 0 rfl) ?_
      refine lv_if_le (tgt := 307) hx hb dX0_searchList_194 (by decide) (fun c33 => ?_) (fun c33 => ?_)
      · rw [if_pos c33] at hF
        obtain rfl := Option.some.inj hF
        subst hwz32
        exact K27 _ _ _ hP hD hS (lv_sub hl [0, 1, 2, 3, 4, 5, 6, 7, 8, 9, 10] rfl)
      · rw [if_neg c33] at hF
        refine lv_iload hx hb dX0_searchList_197 (lv_at hl 3 rfl) ?_
        refine lv_ldcw (v := (2147483647 : Int32)) hx hb hown (hts (.constant RX0 435 (2147483647 : Int32)) (by decide +kernel)) dX0_searchList_199 ?_
        refine lv_icmp_ge (tgt := 307) hx hb dX0_searchList_202 (by decide) (fun c34 => ?_) (fun c34 => ?_)
        · rw [if_pos c34] at hF
          obtain rfl := Option.some.inj hF
          subst hwz32
          exact K27 _ _ _ hP hD hS (lv_sub hl [0, 1, 2, 3, 4, 5, 6, 7, 8, 9, 10] rfl)
        · rw [if_neg c34] at hF
          refine lv_iload hx hb dX0_searchList_205 (lv_at hl 2 rfl) ?_
          refine lv_istore (lv' := [(11, .int s28.2.1), (10, .int s28.2.2.2.1), (9, .int s28.2.2.1), (8, .int s28.2.1), (7, .int s28.1), (6, .int x23), (5, .int x21), (4, .int x18), (3, .int s5.1), (0, .ref (ad a)), (1, .int p0), (2, .int p1)]) hx hb dX0_searchList_207 hl (by decide) rfl (fun ls hl => ?_)
          refine lv_iload hx hb dX0_searchList_209 (lv_at hl 2 rfl) ?_
          refine lv_istore (lv' := [(12, .int s28.2.2.1), (11, .int s28.2.1), (10, .int s28.2.2.2.1), (9, .int s28.2.2.1), (8, .int s28.2.1), (7, .int s28.1), (6, .int x23), (5, .int x21), (4, .int x18), (3, .int s5.1), (0, .ref (ad a)), (1, .int p0), (2, .int p1)]) hx hb dX0_searchList_211 hl (by decide) rfl (fun ls hl => ?_)
          refine lv_iconst (v := (0 : Int32)) hx hb dX0_searchList_213 (by decide) ?_
          refine lv_istore (lv' := [(13, .int (0 : Int32)), (12, .int s28.2.2.1), (11, .int s28.2.1), (10, .int s28.2.2.2.1), (9, .int s28.2.2.1), (8, .int s28.2.1), (7, .int s28.1), (6, .int x23), (5, .int x21), (4, .int x18), (3, .int s5.1), (0, .ref (ad a)), (1, .int p0), (2, .int p1)]) hx hb dX0_searchList_214 hl (by decide) rfl (fun ls hl => ?_)
          obtain ⟨y35, hy35, hF⟩ := bnd_some hF
          have K35 : ∀ (H : Heap) (locs : List Loc) (ls : Array Slot), va_P D classes (wld ct ad G y35.2.2.2.2) H → va_D A (wld ct ad G y35.2.2.2.2) → va_S A s.heap H locs → lv_has ls 17 [(13, .int y35.2.2.2.1), (12, .int s28.2.2.1), (11, .int s28.2.1), (10, .int s28.2.2.2.1), (9, .int y35.2.2.1), (8, .int y35.2.1), (7, .int y35.1), (6, .int x23), (5, .int x21), (4, .int x18), (3, .int s5.1), (0, .ref (ad a)), (1, .int p0), (2, .int p1)] → W p l e (headSpec wsX0_searchList ({ frames := 5, cells := 0, slots := 0, locals := 139 })).room s m ([.ref (ad a), .int p0, .int p1] : List Value).toArray below meth c H locs 0 0 (MQ below (va_Qv (fun (_ : Unit) => True) (fun _ t => kE D ct ad G A y t) A) ([.ref (ad a), .int p0, .int p1] : List Value).toArray s 0 0 A) (F0 m 301 ls []) := by
            intro H locs ls hP hD hS hl
            obtain ⟨x38, ex38, hF⟩ := ltt_some hF
            refine lv_iinc (v := x38) (lv' := [(10, .int x38), (13, .int y35.2.2.2.1), (12, .int s28.2.2.1), (11, .int s28.2.1), (9, .int y35.2.2.1), (8, .int y35.2.1), (7, .int y35.1), (6, .int x23), (5, .int x21), (4, .int x18), (3, .int s5.1), (0, .ref (ad a)), (1, .int p0), (2, .int p1)]) hx hb dX0_searchList_301 hl (k := 3) rfl (by rw [ex38]; rfl) (by decide) rfl (fun ls hl => ?_)
            refine lv_goto (tgt := 192) hx hb dX0_searchList_304 (by decide) ?_
            obtain rfl := Option.some.inj hF
            exact hwz32 _ _ _ hP hD hS (lv_sub hl [0, 4, 5, 6, 7, 8, 9, 10, 11, 12, 13] rfl)
          clear hF
          refine itr_rule (fun (s36 : Int32 × Int32 × Int32 × Int32 × DD) => ∀ (H : Heap) (locs : List Loc) (ls : Array Slot), va_P D classes (wld ct ad G s36.2.2.2.2) H → va_D A (wld ct ad G s36.2.2.2.2) → va_S A s.heap H locs → lv_has ls 17 [(13, .int s36.2.2.2.1), (12, .int s28.2.2.1), (11, .int s28.2.1), (10, .int s28.2.2.2.1), (9, .int s36.2.2.1), (8, .int s36.2.1), (7, .int s36.1), (6, .int x23), (5, .int x21), (4, .int x18), (3, .int s5.1), (0, .ref (ad a)), (1, .int p0), (2, .int p1)] → W p l e (headSpec wsX0_searchList ({ frames := 5, cells := 0, slots := 0, locals := 139 })).room s m ([.ref (ad a), .int p0, .int p1] : List Value).toArray below meth c H locs 0 0 (MQ below (va_Qv (fun (_ : Unit) => True) (fun _ t => kE D ct ad G A y t) A) ([.ref (ad a), .int p0, .int p1] : List Value).toArray s 0 0 A) (F0 m 216 ls [])) ?_ _ _ hy35 _ _ _ hP hD hS (lv_sub hl [0, 1, 2, 3, 4, 5, 6, 7, 8, 9, 10, 11, 12, 13] rfl)
          rintro s36 ⟨z39, hF, hwz39⟩ H locs ls hP hD hS hl
          try dsimp only at hF
          refine lv_iload hx hb dX0_searchList_216 (lv_at hl 0 rfl) ?_
          refine lv_bipush (v := (9 : Int32)) hx hb dX0_searchList_218 (by decide) ?_
          refine lv_icmp_ge (tgt := 301) hx hb dX0_searchList_220 (by decide) (fun c40 => ?_) (fun c40 => ?_)
          · rw [if_pos c40] at hF
            obtain rfl := Option.some.inj hF
            subst hwz39
            exact K35 _ _ _ hP hD hS (lv_sub hl [0, 1, 2, 3, 4, 5, 6, 7, 8, 9, 10, 11, 12, 13] rfl)
          · rw [if_neg c40] at hF
            refine lv_iload hx hb dX0_searchList_223 (lv_at hl 2 rfl) ?_
            refine lv_iload hx hb dX0_searchList_225 (lv_at hl 3 rfl) ?_
            refine lv_iload hx hb dX0_searchList_227 (lv_at hl 0 rfl) ?_
            refine lv_iconst (v := (3 : Int32)) hx hb dX0_searchList_229 (by decide) ?_
            refine lv_irem hx hb dX0_searchList_230 (by decide) ?_
            obtain ⟨x41, ex41, hF⟩ := ltt_some hF
            refine lv_topi (fun zx41 ezx41 => ?_)
            obtain rfl : x41 = zx41 := ex41.trans ezx41.symm
            refine lv_iconst (v := (1 : Int32)) hx hb dX0_searchList_231 (by decide) ?_
            refine lv_isub hx hb dX0_searchList_232 ?_
            obtain ⟨x42, ex42, hF⟩ := ltt_some hF
            refine lv_topi (fun zx42 ezx42 => ?_)
            obtain rfl : x42 = zx42 := ex42.trans ezx42.symm
            refine lv_imul hx hb dX0_searchList_233 ?_
            obtain ⟨x43, ex43, hF⟩ := ltt_some hF
            refine lv_topi (fun zx43 ezx43 => ?_)
            obtain rfl : x43 = zx43 := ex43.trans ezx43.symm
            refine lv_iadd hx hb dX0_searchList_234 ?_
            obtain ⟨x44, ex44, hF⟩ := ltt_some hF
            refine lv_topi (fun zx44 ezx44 => ?_)
            obtain rfl : x44 = zx44 := ex44.trans ezx44.symm
            refine lv_istore (lv' := [(14, .int x44), (13, .int s36.2.2.2.1), (12, .int s28.2.2.1), (11, .int s28.2.1), (10, .int s28.2.2.2.1), (9, .int s36.2.2.1), (8, .int s36.2.1), (7, .int s36.1), (6, .int x23), (5, .int x21), (4, .int x18), (3, .int s5.1), (0, .ref (ad a)), (1, .int p0), (2, .int p1)]) hx hb dX0_searchList_235 hl (by decide) rfl (fun ls hl => ?_)
            refine lv_iload hx hb dX0_searchList_237 (lv_at hl 2 rfl) ?_
            refine lv_iload hx hb dX0_searchList_239 (lv_at hl 4 rfl) ?_
            refine lv_iload hx hb dX0_searchList_241 (lv_at hl 1 rfl) ?_
            refine lv_iconst (v := (3 : Int32)) hx hb dX0_searchList_243 (by decide) ?_
            refine lv_idiv hx hb dX0_searchList_244 (by decide) ?_
            obtain ⟨x45, ex45, hF⟩ := ltt_some hF
            refine lv_topi (fun zx45 ezx45 => ?_)
            obtain rfl : x45 = zx45 := ex45.trans ezx45.symm
            refine lv_iconst (v := (1 : Int32)) hx hb dX0_searchList_245 (by decide) ?_
            refine lv_isub hx hb dX0_searchList_246 ?_
            obtain ⟨x46, ex46, hF⟩ := ltt_some hF
            refine lv_topi (fun zx46 ezx46 => ?_)
            obtain rfl : x46 = zx46 := ex46.trans ezx46.symm
            refine lv_imul hx hb dX0_searchList_247 ?_
            obtain ⟨x47, ex47, hF⟩ := ltt_some hF
            refine lv_topi (fun zx47 ezx47 => ?_)
            obtain rfl : x47 = zx47 := ex47.trans ezx47.symm
            refine lv_iadd hx hb dX0_searchList_248 ?_
            obtain ⟨x48, ex48, hF⟩ := ltt_some hF
            refine lv_topi (fun zx48 ezx48 => ?_)
            obtain rfl : x48 = zx48 := ex48.trans ezx48.symm
            refine lv_istore (lv' := [(15, .int x48), (14, .int x44), (13, .int s36.2.2.2.1), (12, .int s28.2.2.1), (11, .int s28.2.1), (10, .int s28.2.2.2.1), (9, .int s36.2.2.1), (8, .int s36.2.1), (7, .int s36.1), (6, .int x23), (5, .int x21), (4, .int x18), (3, .int s5.1), (0, .ref (ad a)), (1, .int p0), (2, .int p1)]) hx hb dX0_searchList_249 hl (by decide) rfl (fun ls hl => ?_)
            refine lv_iload hx hb dX0_searchList_251 (lv_at hl 2 rfl) ?_
            refine lv_iconst (v := (4 : Int32)) hx hb dX0_searchList_253 (by decide) ?_
            obtain ⟨y49, hy49, hF⟩ := bnd_some hF
            have J49 : ∀ (H : Heap) (locs : List Loc) (ls : Array Slot), va_P D classes (wld ct ad G y49.2) H → va_D A (wld ct ad G y49.2) → va_S A s.heap H locs → lv_has ls 17 [(15, .int x48), (14, .int x44), (13, .int s36.2.2.2.1), (12, .int s28.2.2.1), (11, .int s28.2.1), (10, .int s28.2.2.2.1), (9, .int s36.2.2.1), (8, .int s36.2.1), (7, .int s36.1), (6, .int x23), (5, .int x21), (4, .int x18), (3, .int s5.1), (0, .ref (ad a)), (1, .int p0), (2, .int p1)] → W p l e (headSpec wsX0_searchList ({ frames := 5, cells := 0, slots := 0, locals := 139 })).room s m ([.ref (ad a), .int p0, .int p1] : List Value).toArray below meth c H locs 0 0 (MQ below (va_Qv (fun (_ : Unit) => True) (fun _ t => kE D ct ad G A y t) A) ([.ref (ad a), .int p0, .int p1] : List Value).toArray s 0 0 A) (F0 m 274 ls [.int y49.1]) := by
              intro H locs ls hP hD hS hl
              refine lv_istore (lv' := [(16, .int y49.1), (15, .int x48), (14, .int x44), (13, .int s36.2.2.2.1), (12, .int s28.2.2.1), (11, .int s28.2.1), (10, .int s28.2.2.2.1), (9, .int s36.2.2.1), (8, .int s36.2.1), (7, .int s36.1), (6, .int x23), (5, .int x21), (4, .int x18), (3, .int s5.1), (0, .ref (ad a)), (1, .int p0), (2, .int p1)]) hx hb dX0_searchList_274 hl (by decide) rfl (fun ls hl => ?_)
              refine lv_iload hx hb dX0_searchList_276 (lv_at hl 0 rfl) ?_
              refine lv_iload hx hb dX0_searchList_278 (lv_at hl 9 rfl) ?_
              obtain ⟨y50, hy50, hF⟩ := bnd_some hF
              have J50 : ∀ (H : Heap) (locs : List Loc) (ls : Array Slot), va_P D classes (wld ct ad G y49.2) H → va_D A (wld ct ad G y49.2) → va_S A s.heap H locs → lv_has ls 17 [(16, .int y49.1), (15, .int x48), (14, .int x44), (13, .int s36.2.2.2.1), (12, .int s28.2.2.1), (11, .int s28.2.1), (10, .int s28.2.2.2.1), (9, .int y50.2.2), (8, .int y50.2.1), (7, .int y50.1), (6, .int x23), (5, .int x21), (4, .int x18), (3, .int s5.1), (0, .ref (ad a)), (1, .int p0), (2, .int p1)] → W p l e (headSpec wsX0_searchList ({ frames := 5, cells := 0, slots := 0, locals := 139 })).room s m ([.ref (ad a), .int p0, .int p1] : List Value).toArray below meth c H locs 0 0 (MQ below (va_Qv (fun (_ : Unit) => True) (fun _ t => kE D ct ad G A y t) A) ([.ref (ad a), .int p0, .int p1] : List Value).toArray s 0 0 A) (F0 m 295 ls []) := by
                intro H locs ls hP hD hS hl
                obtain ⟨x51, ex51, hF⟩ := ltt_some hF
                refine lv_iinc (v := x51) (lv' := [(13, .int x51), (16, .int y49.1), (15, .int x48), (14, .int x44), (12, .int s28.2.2.1), (11, .int s28.2.1), (10, .int s28.2.2.2.1), (9, .int y50.2.2), (8, .int y50.2.1), (7, .int y50.1), (6, .int x23), (5, .int x21), (4, .int x18), (3, .int s5.1), (0, .ref (ad a)), (1, .int p0), (2, .int p1)]) hx hb dX0_searchList_295 hl (k := 3) rfl (by rw [ex51]; rfl) (by decide) rfl (fun ls hl => ?_)
                refine lv_goto (tgt := 216) hx hb dX0_searchList_298 (by decide) ?_
                obtain rfl := Option.some.inj hF
                exact hwz39 _ _ _ hP hD hS (lv_sub hl [0, 4, 5, 6, 7, 8, 9, 10, 11, 12, 13, 14, 15, 16] rfl)
              clear hF
              have hF := hy50
              clear hy50
              refine lv_icmp_ge (tgt := 295) hx hb dX0_searchList_280 (by decide) (fun c52 => ?_) (fun c52 => ?_)
              · rw [if_pos c52] at hF
                obtain rfl := Option.some.inj hF
                exact J50 _ _ _ hP hD hS (lv_sub hl [0, 1, 2, 3, 4, 5, 6, 7, 8, 9, 10, 11, 12, 13, 14, 15, 16] rfl)
              · rw [if_neg c52] at hF
                refine lv_iload hx hb dX0_searchList_283 (lv_at hl 0 rfl) ?_
                refine lv_istore (lv' := [(7, .int y49.1), (16, .int y49.1), (15, .int x48), (14, .int x44), (13, .int s36.2.2.2.1), (12, .int s28.2.2.1), (11, .int s28.2.1), (10, .int s28.2.2.2.1), (9, .int s36.2.2.1), (8, .int s36.2.1), (6, .int x23), (5, .int x21), (4, .int x18), (3, .int s5.1), (0, .ref (ad a)), (1, .int p0), (2, .int p1)]) hx hb dX0_searchList_285 hl (by decide) rfl (fun ls hl => ?_)
                refine lv_iload hx hb dX0_searchList_287 (lv_at hl 3 rfl) ?_
                refine lv_istore (lv' := [(8, .int x44), (7, .int y49.1), (16, .int y49.1), (15, .int x48), (14, .int x44), (13, .int s36.2.2.2.1), (12, .int s28.2.2.1), (11, .int s28.2.1), (10, .int s28.2.2.2.1), (9, .int s36.2.2.1), (6, .int x23), (5, .int x21), (4, .int x18), (3, .int s5.1), (0, .ref (ad a)), (1, .int p0), (2, .int p1)]) hx hb dX0_searchList_289 hl (by decide) rfl (fun ls hl => ?_)
                refine lv_iload hx hb dX0_searchList_291 (lv_at hl 3 rfl) ?_
                refine lv_istore (lv' := [(9, .int x48), (8, .int x44), (7, .int y49.1), (16, .int y49.1), (15, .int x48), (14, .int x44), (13, .int s36.2.2.2.1), (12, .int s28.2.2.1), (11, .int s28.2.1), (10, .int s28.2.2.2.1), (6, .int x23), (5, .int x21), (4, .int x18), (3, .int s5.1), (0, .ref (ad a)), (1, .int p0), (2, .int p1)]) hx hb dX0_searchList_293 hl (by decide) rfl (fun ls hl => ?_)
                obtain rfl := Option.some.inj hF
                exact J50 _ _ _ hP hD hS (lv_sub hl [3, 4, 5, 6, 7, 8, 9, 0, 1, 2, 10, 11, 12, 13, 14, 15, 16] rfl)
            clear hF
            have hF := hy49
            clear hy49
            refine lv_icmp_ne (tgt := 263) hx hb dX0_searchList_254 (by decide) (fun c53 => ?_) (fun c53 => ?_)
            · rw [if_neg c53] at hF
              refine lv_aload_n hx hb dX0_searchList_263 rfl (lv_at hl 13 rfl) ?_
              refine lv_iload_n hx hb dX0_searchList_264 rfl (lv_at hl 14 rfl) ?_
              refine lv_iload_n hx hb dX0_searchList_265 rfl (lv_at hl 15 rfl) ?_
              refine lv_iload_n hx hb dX0_searchList_266 rfl (lv_at hl 12 rfl) ?_
              refine lv_iload hx hb dX0_searchList_267 (lv_at hl 1 rfl) ?_
              refine lv_iload hx hb dX0_searchList_269 (lv_at hl 0 rfl) ?_
              obtain ⟨y54, hy54, hF⟩ := bnd_some hF
              have hf9 := wA_in hD hA9 hS
              refine va_calli (va_runV (As := [.int p0, .int p1, .int s5.1, .int x44, .int x48]) (rest := []) ⟨hx, hb, hml, hown, hts⟩ (kX0_costOf l D ct ad Z G s36.2.2.2.2 H.size a p0 p1 s5.1 x44 x48 y54 hc hk hy54) (cwV 5 hts gX0_searchList_X0_costOf rfl rfl rfl (by decide +kernel) ⟨Nat.le_of_ble_eq_true rfl, Nat.le_of_ble_eq_true rfl⟩) ⟨fun a U g mk q => by obtain ⟨q0, q1, qP, qK, qD, qZ, qN⟩ := q; exact ⟨q0, q1, qP, va_K.moved (u := U) (U := U.calling g mk a) (Vm.Alike.refl U.vm) qK, qD, sF.moved (u := U) (U := U.calling g mk a) (Vm.Alike.refl U.vm) qZ, nF.same rfl qN⟩, va_recv hK hP (ci := 0) (q0 := a) rfl (wld_o ct ad G s36.2.2.2.2 hc hk (by decide)), fun U hU hW => ⟨rfl, by rw [hU], by rw [hU]; exact hP, va_K.moved hW.alike hK, hD.weaken (fun _ _ _ _ => trivial), by rw [hU]; exact ((hZ.kept hS.2.1).narrow hf9).moved hW.alike, hN.warm hW⟩⟩ rfl rfl hl.1 rfl (lv_room (Nat.le_of_ble_eq_true rfl)) dX0_searchList_271 ⟨(Nat.zero_le _), (Nat.zero_le _)⟩) hS (fun q _ h => hf9 q h) hf9 (fun r u t H locs ht hvm hw hB hz1 hk1 hS => ?_)
              obtain ⟨hP, hK9, hD9⟩ := hB
              rw [ht] at hP
              try dsimp only at hw
              subst hw
              have hD := hD9.weaken (fun _ q _ h => hf9 q.1 h)
              obtain rfl := Option.some.inj hF
              exact J49 _ _ _ hP hD hS (lv_sub hl [0, 1, 2, 3, 4, 5, 6, 7, 8, 9, 10, 11, 12, 13, 14, 15] rfl)
            · rw [if_pos c53] at hF
              refine lv_ldcw (v := (2147483647 : Int32)) hx hb hown (hts (.constant RX0 435 (2147483647 : Int32)) (by decide +kernel)) dX0_searchList_257 ?_
              refine lv_goto (tgt := 274) hx hb dX0_searchList_260 (by decide) ?_
              obtain rfl := Option.some.inj hF
              exact J49 _ _ _ hP hD hS (lv_sub hl [0, 1, 2, 3, 4, 5, 6, 7, 8, 9, 10, 11, 12, 13, 14, 15] rfl)
    clear hF
    refine itr_rule (fun (s25 : Int32 × Int32 × Int32 × Int32 × DD) => ∀ (H : Heap) (locs : List Loc) (ls : Array Slot), va_P D classes (wld ct ad G s25.2.2.2.2) H → va_D A (wld ct ad G s25.2.2.2.2) → va_S A s.heap H locs → lv_has ls 17 [(10, .int s25.2.2.2.1), (9, .int s25.2.2.1), (8, .int s25.2.1), (7, .int s25.1), (6, .int x23), (5, .int x21), (4, .int x18), (3, .int s5.1), (0, .ref (ad a)), (1, .int p0), (2, .int p1)] → W p l e (headSpec wsX0_searchList ({ frames := 5, cells := 0, slots := 0, locals := 139 })).room s m ([.ref (ad a), .int p0, .int p1] : List Value).toArray below meth c H locs 0 0 (MQ below (va_Qv (fun (_ : Unit) => True) (fun _ t => kE D ct ad G A y t) A) ([.ref (ad a), .int p0, .int p1] : List Value).toArray s 0 0 A) (F0 m 95 ls [])) ?_ _ _ hy24 _ _ _ hP hD hS (lv_sub hl [0, 1, 2, 3, 4, 5, 6, 7, 8, 9, 10] rfl)
    rintro s25 ⟨z55, hF, hwz55⟩ H locs ls hP hD hS hl
    try dsimp only at hF
    refine lv_iload hx hb dX0_searchList_95 (lv_at hl 0 rfl) ?_
    refine lv_iconst (v := (2 : Int32)) hx hb dX0_searchList_97 (by decide) ?_
    refine lv_iload hx hb dX0_searchList_98 (lv_at hl 4 rfl) ?_
    refine lv_imul hx hb dX0_searchList_100 ?_
    obtain ⟨x56, ex56, hF⟩ := ltt_some hF
    refine lv_topi (fun zx56 ezx56 => ?_)
    obtain rfl : x56 = zx56 := ex56.trans ezx56.symm
    refine lv_iconst (v := (1 : Int32)) hx hb dX0_searchList_101 (by decide) ?_
    refine lv_iadd hx hb dX0_searchList_102 ?_
    obtain ⟨x57, ex57, hF⟩ := ltt_some hF
    refine lv_topi (fun zx57 ezx57 => ?_)
    obtain rfl : x57 = zx57 := ex57.trans ezx57.symm
    refine lv_iconst (v := (2 : Int32)) hx hb dX0_searchList_103 (by decide) ?_
    refine lv_iload hx hb dX0_searchList_104 (lv_at hl 4 rfl) ?_
    refine lv_imul hx hb dX0_searchList_106 ?_
    obtain ⟨x58, ex58, hF⟩ := ltt_some hF
    refine lv_topi (fun zx58 ezx58 => ?_)
    obtain rfl : x58 = zx58 := ex58.trans ezx58.symm
    refine lv_iconst (v := (1 : Int32)) hx hb dX0_searchList_107 (by decide) ?_
    refine lv_iadd hx hb dX0_searchList_108 ?_
    obtain ⟨x59, ex59, hF⟩ := ltt_some hF
    refine lv_topi (fun zx59 ezx59 => ?_)
    obtain rfl : x59 = zx59 := ex59.trans ezx59.symm
    refine lv_imul hx hb dX0_searchList_109 ?_
    obtain ⟨x60, ex60, hF⟩ := ltt_some hF
    refine lv_topi (fun zx60 ezx60 => ?_)
    obtain rfl : x60 = zx60 := ex60.trans ezx60.symm
    refine lv_icmp_ge (tgt := 189) hx hb dX0_searchList_110 (by decide) (fun c61 => ?_) (fun c61 => ?_)
    · rw [if_pos c61] at hF
      obtain rfl := Option.some.inj hF
      subst hwz55
      exact K24 _ _ _ hP hD hS (lv_sub hl [0, 1, 2, 3, 4, 5, 6, 7, 8, 9, 10] rfl)
    · rw [if_neg c61] at hF
      refine lv_iconst (v := (4 : Int32)) hx hb dX0_searchList_113 (by decide) ?_
      refine lv_iload hx hb dX0_searchList_114 (lv_at hl 6 rfl) ?_
      refine lv_iload hx hb dX0_searchList_116 (lv_at hl 0 rfl) ?_
      refine lv_iconst (v := (2 : Int32)) hx hb dX0_searchList_118 (by decide) ?_
      refine lv_iload hx hb dX0_searchList_119 (lv_at hl 4 rfl) ?_
      refine lv_imul hx hb dX0_searchList_121 ?_
      obtain ⟨x62, ex62, hF⟩ := ltt_some hF
      refine lv_topi (fun zx62 ezx62 => ?_)
      obtain rfl : x62 = zx62 := ex62.trans ezx62.symm
      refine lv_iconst (v := (1 : Int32)) hx hb dX0_searchList_122 (by decide) ?_
      refine lv_iadd hx hb dX0_searchList_123 ?_
      obtain ⟨x63, ex63, hF⟩ := ltt_some hF
      refine lv_topi (fun zx63 ezx63 => ?_)
      obtain rfl : x63 = zx63 := ex63.trans ezx63.symm
      obtain ⟨hne, hF⟩ := chk_some hF
      refine lv_irem hx hb dX0_searchList_124 hne ?_
      obtain ⟨x64, ex64, hF⟩ := ltt_some hF
      refine lv_topi (fun zx64 ezx64 => ?_)
      obtain rfl : x64 = zx64 := ex64.trans ezx64.symm
      refine lv_iadd hx hb dX0_searchList_125 ?_
      obtain ⟨x65, ex65, hF⟩ := ltt_some hF
      refine lv_topi (fun zx65 ezx65 => ?_)
      obtain rfl : x65 = zx65 := ex65.trans ezx65.symm
      refine lv_iload hx hb dX0_searchList_126 (lv_at hl 4 rfl) ?_
      refine lv_isub hx hb dX0_searchList_128 ?_
      obtain ⟨x66, ex66, hF⟩ := ltt_some hF
      refine lv_topi (fun zx66 ezx66 => ?_)
      obtain rfl : x66 = zx66 := ex66.trans ezx66.symm
      refine lv_imul hx hb dX0_searchList_129 ?_
      obtain ⟨x67, ex67, hF⟩ := ltt_some hF
      refine lv_topi (fun zx67 ezx67 => ?_)
      obtain rfl : x67 = zx67 := ex67.trans ezx67.symm
      refine lv_istore (lv' := [(11, .int x67), (10, .int s25.2.2.2.1), (9, .int s25.2.2.1), (8, .int s25.2.1), (7, .int s25.1), (6, .int x23), (5, .int x21), (4, .int x18), (3, .int s5.1), (0, .ref (ad a)), (1, .int p0), (2, .int p1)]) hx hb dX0_searchList_130 hl (by decide) rfl (fun ls hl => ?_)
      refine lv_iconst (v := (4 : Int32)) hx hb dX0_searchList_132 (by decide) ?_
      refine lv_iload hx hb dX0_searchList_133 (lv_at hl 6 rfl) ?_
      refine lv_iload hx hb dX0_searchList_135 (lv_at hl 1 rfl) ?_
      refine lv_iconst (v := (2 : Int32)) hx hb dX0_searchList_137 (by decide) ?_
      refine lv_iload hx hb dX0_searchList_138 (lv_at hl 5 rfl) ?_
      refine lv_imul hx hb dX0_searchList_140 ?_
      obtain ⟨x68, ex68, hF⟩ := ltt_some hF
      refine lv_topi (fun zx68 ezx68 => ?_)
      obtain rfl : x68 = zx68 := ex68.trans ezx68.symm
      refine lv_iconst (v := (1 : Int32)) hx hb dX0_searchList_141 (by decide) ?_
      refine lv_iadd hx hb dX0_searchList_142 ?_
      obtain ⟨x69, ex69, hF⟩ := ltt_some hF
      refine lv_topi (fun zx69 ezx69 => ?_)
      obtain rfl : x69 = zx69 := ex69.trans ezx69.symm
      obtain ⟨hne, hF⟩ := chk_some hF
      refine lv_idiv hx hb dX0_searchList_143 hne ?_
      obtain ⟨x70, ex70, hF⟩ := ltt_some hF
      refine lv_topi (fun zx70 ezx70 => ?_)
      obtain rfl : x70 = zx70 := ex70.trans ezx70.symm
      refine lv_iadd hx hb dX0_searchList_144 ?_
      obtain ⟨x71, ex71, hF⟩ := ltt_some hF
      refine lv_topi (fun zx71 ezx71 => ?_)
      obtain rfl : x71 = zx71 := ex71.trans ezx71.symm
      refine lv_iload hx hb dX0_searchList_145 (lv_at hl 5 rfl) ?_
      refine lv_isub hx hb dX0_searchList_147 ?_
      obtain ⟨x72, ex72, hF⟩ := ltt_some hF
      refine lv_topi (fun zx72 ezx72 => ?_)
      obtain rfl : x72 = zx72 := ex72.trans ezx72.symm
      refine lv_imul hx hb dX0_searchList_148 ?_
      obtain ⟨x73, ex73, hF⟩ := ltt_some hF
      refine lv_topi (fun zx73 ezx73 => ?_)
      obtain rfl : x73 = zx73 := ex73.trans ezx73.symm
      refine lv_istore (lv' := [(12, .int x73), (11, .int x67), (10, .int s25.2.2.2.1), (9, .int s25.2.2.1), (8, .int s25.2.1), (7, .int s25.1), (6, .int x23), (5, .int x21), (4, .int x18), (3, .int s5.1), (0, .ref (ad a)), (1, .int p0), (2, .int p1)]) hx hb dX0_searchList_149 hl (by decide) rfl (fun ls hl => ?_)
      refine lv_aload_n hx hb dX0_searchList_151 rfl (lv_at hl 10 rfl) ?_
      refine lv_iload_n hx hb dX0_searchList_152 rfl (lv_at hl 11 rfl) ?_
      refine lv_iload_n hx hb dX0_searchList_153 rfl (lv_at hl 12 rfl) ?_
      refine lv_iload_n hx hb dX0_searchList_154 rfl (lv_at hl 9 rfl) ?_
      refine lv_iload hx hb dX0_searchList_155 (lv_at hl 1 rfl) ?_
      refine lv_iload hx hb dX0_searchList_157 (lv_at hl 0 rfl) ?_
      obtain ⟨y74, hy74, hF⟩ := bnd_some hF
      have hf9 := wA_in hD hA9 hS
      refine va_calli (va_runV (As := [.int p0, .int p1, .int s5.1, .int x67, .int x73]) (rest := []) ⟨hx, hb, hml, hown, hts⟩ (kX0_costOf l D ct ad Z G s25.2.2.2.2 H.size a p0 p1 s5.1 x67 x73 y74 hc hk hy74) (cwV 5 hts gX0_searchList_X0_costOf rfl rfl rfl (by decide +kernel) ⟨Nat.le_of_ble_eq_true rfl, Nat.le_of_ble_eq_true rfl⟩) ⟨fun a U g mk q => by obtain ⟨q0, q1, qP, qK, qD, qZ, qN⟩ := q; exact ⟨q0, q1, qP, va_K.moved (u := U) (U := U.calling g mk a) (Vm.Alike.refl U.vm) qK, qD, sF.moved (u := U) (U := U.calling g mk a) (Vm.Alike.refl U.vm) qZ, nF.same rfl qN⟩, va_recv hK hP (ci := 0) (q0 := a) rfl (wld_o ct ad G s25.2.2.2.2 hc hk (by decide)), fun U hU hW => ⟨rfl, by rw [hU], by rw [hU]; exact hP, va_K.moved hW.alike hK, hD.weaken (fun _ _ _ _ => trivial), by rw [hU]; exact ((hZ.kept hS.2.1).narrow hf9).moved hW.alike, hN.warm hW⟩⟩ rfl rfl hl.1 rfl (lv_room (Nat.le_of_ble_eq_true rfl)) dX0_searchList_159 ⟨(Nat.zero_le _), (Nat.zero_le _)⟩) hS (fun q _ h => hf9 q h) hf9 (fun r u t H locs ht hvm hw hB hz1 hk1 hS => ?_)
      obtain ⟨hP, hK9, hD9⟩ := hB
      rw [ht] at hP
      try dsimp only at hw
      subst hw
      have hD := hD9.weaken (fun _ q _ h => hf9 q.1 h)
      refine lv_istore (lv' := [(13, .int y74.2), (12, .int x73), (11, .int x67), (10, .int s25.2.2.2.1), (9, .int s25.2.2.1), (8, .int s25.2.1), (7, .int s25.1), (6, .int x23), (5, .int x21), (4, .int x18), (3, .int s5.1), (0, .ref (ad a)), (1, .int p0), (2, .int p1)]) hx hb dX0_searchList_162 hl (by decide) rfl (fun ls hl => ?_)
      refine lv_iload hx hb dX0_searchList_164 (lv_at hl 0 rfl) ?_
      refine lv_iload hx hb dX0_searchList_166 (lv_at hl 6 rfl) ?_
      obtain ⟨y75, hy75, hF⟩ := bnd_some hF
      have J75 : ∀ (H : Heap) (locs : List Loc) (ls : Array Slot), va_P D classes (wld ct ad G y74.1) H → va_D A (wld ct ad G y74.1) → va_S A s.heap H locs → lv_has ls 17 [(13, .int y74.2), (12, .int x73), (11, .int x67), (10, .int s25.2.2.2.1), (9, .int y75.2.2), (8, .int y75.2.1), (7, .int y75.1), (6, .int x23), (5, .int x21), (4, .int x18), (3, .int s5.1), (0, .ref (ad a)), (1, .int p0), (2, .int p1)] → W p l e (headSpec wsX0_searchList ({ frames := 5, cells := 0, slots := 0, locals := 139 })).room s m ([.ref (ad a), .int p0, .int p1] : List Value).toArray below meth c H locs 0 0 (MQ below (va_Qv (fun (_ : Unit) => True) (fun _ t => kE D ct ad G A y t) A) ([.ref (ad a), .int p0, .int p1] : List Value).toArray s 0 0 A) (F0 m 183 ls []) := by
        intro H locs ls hP hD hS hl
        obtain ⟨x76, ex76, hF⟩ := ltt_some hF
        refine lv_iinc (v := x76) (lv' := [(10, .int x76), (13, .int y74.2), (12, .int x73), (11, .int x67), (9, .int y75.2.2), (8, .int y75.2.1), (7, .int y75.1), (6, .int x23), (5, .int x21), (4, .int x18), (3, .int s5.1), (0, .ref (ad a)), (1, .int p0), (2, .int p1)]) hx hb dX0_searchList_183 hl (k := 3) rfl (by rw [ex76]; rfl) (by decide) rfl (fun ls hl => ?_)
        refine lv_goto (tgt := 95) hx hb dX0_searchList_186 (by decide) ?_
        obtain rfl := Option.some.inj hF
        exact hwz55 _ _ _ hP hD hS (lv_sub hl [0, 4, 5, 6, 7, 8, 9, 10, 11, 12, 13] rfl)
      clear hF
      have hF := hy75
      clear hy75
      refine lv_icmp_ge (tgt := 183) hx hb dX0_searchList_168 (by decide) (fun c77 => ?_) (fun c77 => ?_)
      · rw [if_pos c77] at hF
        obtain rfl := Option.some.inj hF
        exact J75 _ _ _ hP hD hS (lv_sub hl [0, 1, 2, 3, 4, 5, 6, 7, 8, 9, 10, 11, 12, 13] rfl)
      · rw [if_neg c77] at hF
        refine lv_iload hx hb dX0_searchList_171 (lv_at hl 0 rfl) ?_
        refine lv_istore (lv' := [(7, .int y74.2), (13, .int y74.2), (12, .int x73), (11, .int x67), (10, .int s25.2.2.2.1), (9, .int s25.2.2.1), (8, .int s25.2.1), (6, .int x23), (5, .int x21), (4, .int x18), (3, .int s5.1), (0, .ref (ad a)), (1, .int p0), (2, .int p1)]) hx hb dX0_searchList_173 hl (by decide) rfl (fun ls hl => ?_)
        refine lv_iload hx hb dX0_searchList_175 (lv_at hl 3 rfl) ?_
        refine lv_istore (lv' := [(8, .int x67), (7, .int y74.2), (13, .int y74.2), (12, .int x73), (11, .int x67), (10, .int s25.2.2.2.1), (9, .int s25.2.2.1), (6, .int x23), (5, .int x21), (4, .int x18), (3, .int s5.1), (0, .ref (ad a)), (1, .int p0), (2, .int p1)]) hx hb dX0_searchList_177 hl (by decide) rfl (fun ls hl => ?_)
        refine lv_iload hx hb dX0_searchList_179 (lv_at hl 3 rfl) ?_
        refine lv_istore (lv' := [(9, .int x73), (8, .int x67), (7, .int y74.2), (13, .int y74.2), (12, .int x73), (11, .int x67), (10, .int s25.2.2.2.1), (6, .int x23), (5, .int x21), (4, .int x18), (3, .int s5.1), (0, .ref (ad a)), (1, .int p0), (2, .int p1)]) hx hb dX0_searchList_181 hl (by decide) rfl (fun ls hl => ?_)
        obtain rfl := Option.some.inj hF
        exact J75 _ _ _ hP hD hS (lv_sub hl [3, 4, 5, 6, 0, 1, 2, 7, 8, 9, 10, 11, 12, 13] rfl)
theorem ggX0_writeLevels_X9_tokenTable : GoodIn wsX0_writeLevels wsX9_tokenTable := goodIn_r _ [9, 10, 11, 8, 12, 13, 14, 15, 16, 17, 18, 19, 20, 21, 22, 23, 24, 25, 26, 27, 28, 132, 133, 134, 135, 136, 137, 138, 139, 140, 141, 142, 143, 144, 145, 146, 147, 148, 149, 150, 151, 152, 153, 154, 155, 156, 157, 158, 159, 160, 161, 162, 163, 164, 165, 166, 167, 168, 169] (by decide +kernel) (by decide +kernel)
set_option maxRecDepth 20000 in
theorem gX0_writeLevels_X9_tokenTable : GoodIn wsX0_writeLevels (wsV RX0 586 RX9 yX9_tokenTable wsX9_tokenTable) := goodIn_app (goodIn_of _ (by decide +kernel)) ggX0_writeLevels_X9_tokenTable
set_option maxRecDepth 20000 in
theorem ggX0_writeLevels_X9_levelAt : GoodIn wsX0_writeLevels wsX9_levelAt := goodIn_r _ [31] (by decide +kernel) (by decide +kernel)
set_option maxRecDepth 20000 in
theorem gX0_writeLevels_X9_levelAt : GoodIn wsX0_writeLevels (va_wsS RX0 589 yX9_levelAt wsX9_levelAt) := goodIn_app (goodIn_of _ (by decide +kernel)) ggX0_writeLevels_X9_levelAt
set_option maxRecDepth 20000 in
theorem ggX0_writeLevels_X10_levels : GoodIn wsX0_writeLevels wsX10_levels := goodIn_r _ [36, 37, 38, 39, 40, 41, 42, 43, 44, 45, 46, 47, 48, 49, 50, 35, 51, 52, 53, 54, 55, 56, 57, 58, 59, 60, 61, 62, 63, 64, 65, 66, 67, 68, 69, 70, 71, 72, 73, 74, 75, 76, 77, 78, 79, 80, 81, 82, 83, 84, 85, 86, 87, 88, 89, 90, 91, 92, 93, 94, 95, 96, 97, 98, 99, 100, 101, 102, 103, 104, 105, 106, 107, 108, 109, 110, 170, 171, 172, 173, 174, 175, 176, 177, 178, 179, 180, 181, 182, 183, 184, 185, 186, 187, 188, 189] (by decide +kernel) (by decide +kernel)
set_option maxRecDepth 20000 in
theorem gX0_writeLevels_X10_levels : GoodIn wsX0_writeLevels (wsV RX0 592 RX10 yX10_levels wsX10_levels) := goodIn_app (goodIn_of _ (by decide +kernel)) ggX0_writeLevels_X10_levels
theorem dX0_writeLevels_0 : decode cX0_writeLevels 0 = .ok (.bipush 8, 2) := by decide +kernel
theorem dX0_writeLevels_2 : decode cX0_writeLevels 2 = .ok (.iload_n 1, 1) := by decide +kernel
theorem dX0_writeLevels_3 : decode cX0_writeLevels 3 = .ok (.imul, 1) := by decide +kernel
theorem dX0_writeLevels_4 : decode cX0_writeLevels 4 = .ok (.istore_n 2, 1) := by decide +kernel
theorem dX0_writeLevels_5 : decode cX0_writeLevels 5 = .ok (.aload_n 0, 1) := by decide +kernel
theorem dX0_writeLevels_6 : decode cX0_writeLevels 6 = .ok (.getfield 36, 3) := by decide +kernel
theorem dX0_writeLevels_9 : decode cX0_writeLevels 9 = .ok (.getfield 583, 3) := by decide +kernel
theorem dX0_writeLevels_12 : decode cX0_writeLevels 12 = .ok (.astore_n 3, 1) := by decide +kernel
theorem dX0_writeLevels_13 : decode cX0_writeLevels 13 = .ok (.aload_n 0, 1) := by decide +kernel
theorem dX0_writeLevels_14 : decode cX0_writeLevels 14 = .ok (.getfield 36, 3) := by decide +kernel
theorem dX0_writeLevels_17 : decode cX0_writeLevels 17 = .ok (.getfield 216, 3) := by decide +kernel
theorem dX0_writeLevels_20 : decode cX0_writeLevels 20 = .ok (.iload_n 2, 1) := by decide +kernel
theorem dX0_writeLevels_21 : decode cX0_writeLevels 21 = .ok (.iconst 0, 1) := by decide +kernel
theorem dX0_writeLevels_22 : decode cX0_writeLevels 22 = .ok (.iadd, 1) := by decide +kernel
theorem dX0_writeLevels_23 : decode cX0_writeLevels 23 = .ok (.iaload, 1) := by decide +kernel
theorem dX0_writeLevels_24 : decode cX0_writeLevels 24 = .ok (.iconst 1, 1) := by decide +kernel
theorem dX0_writeLevels_25 : decode cX0_writeLevels 25 = .ok (.if_icmp .ne 7, 3) := by decide +kernel
theorem dX0_writeLevels_28 : decode cX0_writeLevels 28 = .ok (.iconst 1, 1) := by decide +kernel
theorem dX0_writeLevels_29 : decode cX0_writeLevels 29 = .ok (.goto 4, 3) := by decide +kernel
theorem dX0_writeLevels_32 : decode cX0_writeLevels 32 = .ok (.iconst 0, 1) := by decide +kernel
theorem dX0_writeLevels_33 : decode cX0_writeLevels 33 = .ok (.istore 4, 2) := by decide +kernel
theorem dX0_writeLevels_35 : decode cX0_writeLevels 35 = .ok (.iload 4, 2) := by decide +kernel
theorem dX0_writeLevels_37 : decode cX0_writeLevels 37 = .ok (.ifCond .eq 28, 3) := by decide +kernel
theorem dX0_writeLevels_40 : decode cX0_writeLevels 40 = .ok (.aload_n 0, 1) := by decide +kernel
theorem dX0_writeLevels_41 : decode cX0_writeLevels 41 = .ok (.getfield 29, 3) := by decide +kernel
theorem dX0_writeLevels_44 : decode cX0_writeLevels 44 = .ok (.aload_n 0, 1) := by decide +kernel
theorem dX0_writeLevels_45 : decode cX0_writeLevels 45 = .ok (.getfield 36, 3) := by decide +kernel
theorem dX0_writeLevels_48 : decode cX0_writeLevels 48 = .ok (.iload_n 1, 1) := by decide +kernel
theorem dX0_writeLevels_49 : decode cX0_writeLevels 49 = .ok (.iconst 0, 1) := by decide +kernel
theorem dX0_writeLevels_50 : decode cX0_writeLevels 50 = .ok (.invokevirtual 586, 3) := by decide +kernel
theorem dX0_writeLevels_53 : decode cX0_writeLevels 53 = .ok (.bipush 16, 2) := by decide +kernel
theorem dX0_writeLevels_55 : decode cX0_writeLevels 55 = .ok (.aload_n 3, 1) := by decide +kernel
theorem dX0_writeLevels_56 : decode cX0_writeLevels 56 = .ok (.iload_n 1, 1) := by decide +kernel
theorem dX0_writeLevels_57 : decode cX0_writeLevels 57 = .ok (.bipush 16, 2) := by decide +kernel
theorem dX0_writeLevels_59 : decode cX0_writeLevels 59 = .ok (.invokestatic 589, 3) := by decide +kernel
theorem dX0_writeLevels_62 : decode cX0_writeLevels 62 = .ok (.invokevirtual 592, 3) := by decide +kernel
theorem dX0_writeLevels_65 : decode cX0_writeLevels 65 = .ok (.iconst 0, 1) := by decide +kernel
theorem dX0_writeLevels_66 : decode cX0_writeLevels 66 = .ok (.istore 5, 2) := by decide +kernel
theorem dX0_writeLevels_68 : decode cX0_writeLevels 68 = .ok (.iload 5, 2) := by decide +kernel
theorem dX0_writeLevels_70 : decode cX0_writeLevels 70 = .ok (.bipush 16, 2) := by decide +kernel
theorem dX0_writeLevels_72 : decode cX0_writeLevels 72 = .ok (.if_icmp .ge 67, 3) := by decide +kernel
theorem dX0_writeLevels_75 : decode cX0_writeLevels 75 = .ok (.aload_n 0, 1) := by decide +kernel
theorem dX0_writeLevels_76 : decode cX0_writeLevels 76 = .ok (.getfield 36, 3) := by decide +kernel
theorem dX0_writeLevels_79 : decode cX0_writeLevels 79 = .ok (.getfield 216, 3) := by decide +kernel
theorem dX0_writeLevels_82 : decode cX0_writeLevels 82 = .ok (.iload_n 2, 1) := by decide +kernel
theorem dX0_writeLevels_83 : decode cX0_writeLevels 83 = .ok (.iconst 3, 1) := by decide +kernel
theorem dX0_writeLevels_84 : decode cX0_writeLevels 84 = .ok (.iadd, 1) := by decide +kernel
theorem dX0_writeLevels_85 : decode cX0_writeLevels 85 = .ok (.iaload, 1) := by decide +kernel
theorem dX0_writeLevels_86 : decode cX0_writeLevels 86 = .ok (.iload 5, 2) := by decide +kernel
theorem dX0_writeLevels_88 : decode cX0_writeLevels 88 = .ok (.iconst 4, 1) := by decide +kernel
theorem dX0_writeLevels_89 : decode cX0_writeLevels 89 = .ok (.idiv, 1) := by decide +kernel
theorem dX0_writeLevels_90 : decode cX0_writeLevels 90 = .ok (.ishr, 1) := by decide +kernel
theorem dX0_writeLevels_91 : decode cX0_writeLevels 91 = .ok (.iconst 1, 1) := by decide +kernel
theorem dX0_writeLevels_92 : decode cX0_writeLevels 92 = .ok (.iand, 1) := by decide +kernel
theorem dX0_writeLevels_93 : decode cX0_writeLevels 93 = .ok (.iconst 1, 1) := by decide +kernel
theorem dX0_writeLevels_94 : decode cX0_writeLevels 94 = .ok (.if_icmp .ne 39, 3) := by decide +kernel
theorem dX0_writeLevels_97 : decode cX0_writeLevels 97 = .ok (.aload_n 0, 1) := by decide +kernel
theorem dX0_writeLevels_98 : decode cX0_writeLevels 98 = .ok (.getfield 29, 3) := by decide +kernel
theorem dX0_writeLevels_101 : decode cX0_writeLevels 101 = .ok (.aload_n 0, 1) := by decide +kernel
theorem dX0_writeLevels_102 : decode cX0_writeLevels 102 = .ok (.getfield 36, 3) := by decide +kernel
theorem dX0_writeLevels_105 : decode cX0_writeLevels 105 = .ok (.iload_n 1, 1) := by decide +kernel
theorem dX0_writeLevels_106 : decode cX0_writeLevels 106 = .ok (.iload 5, 2) := by decide +kernel
theorem dX0_writeLevels_108 : decode cX0_writeLevels 108 = .ok (.invokevirtual 586, 3) := by decide +kernel
theorem dX0_writeLevels_111 : decode cX0_writeLevels 111 = .ok (.iload 4, 2) := by decide +kernel
theorem dX0_writeLevels_113 : decode cX0_writeLevels 113 = .ok (.ifCond .eq 8, 3) := by decide +kernel
theorem dX0_writeLevels_116 : decode cX0_writeLevels 116 = .ok (.bipush 15, 2) := by decide +kernel
theorem dX0_writeLevels_118 : decode cX0_writeLevels 118 = .ok (.goto 5, 3) := by decide +kernel
theorem dX0_writeLevels_121 : decode cX0_writeLevels 121 = .ok (.bipush 16, 2) := by decide +kernel
theorem dX0_writeLevels_123 : decode cX0_writeLevels 123 = .ok (.aload_n 3, 1) := by decide +kernel
theorem dX0_writeLevels_124 : decode cX0_writeLevels 124 = .ok (.iload_n 1, 1) := by decide +kernel
theorem dX0_writeLevels_125 : decode cX0_writeLevels 125 = .ok (.iload 5, 2) := by decide +kernel
theorem dX0_writeLevels_127 : decode cX0_writeLevels 127 = .ok (.invokestatic 589, 3) := by decide +kernel
theorem dX0_writeLevels_130 : decode cX0_writeLevels 130 = .ok (.invokevirtual 592, 3) := by decide +kernel
theorem dX0_writeLevels_133 : decode cX0_writeLevels 133 = .ok (.iinc 5 1, 3) := by decide +kernel
theorem dX0_writeLevels_136 : decode cX0_writeLevels 136 = .ok (.goto (-68), 3) := by decide +kernel
theorem dX0_writeLevels_139 : decode cX0_writeLevels 139 = .ok (.iconst 1, 1) := by decide +kernel
theorem dX0_writeLevels_140 : decode cX0_writeLevels 140 = .ok (.istore 5, 2) := by decide +kernel
theorem dX0_writeLevels_142 : decode cX0_writeLevels 142 = .ok (.iload 5, 2) := by decide +kernel
theorem dX0_writeLevels_144 : decode cX0_writeLevels 144 = .ok (.iconst 3, 1) := by decide +kernel
theorem dX0_writeLevels_145 : decode cX0_writeLevels 145 = .ok (.if_icmp .ge 42, 3) := by decide +kernel
theorem dX0_writeLevels_148 : decode cX0_writeLevels 148 = .ok (.aload_n 0, 1) := by decide +kernel
theorem dX0_writeLevels_149 : decode cX0_writeLevels 149 = .ok (.getfield 36, 3) := by decide +kernel
theorem dX0_writeLevels_152 : decode cX0_writeLevels 152 = .ok (.getfield 216, 3) := by decide +kernel
theorem dX0_writeLevels_155 : decode cX0_writeLevels 155 = .ok (.iload_n 2, 1) := by decide +kernel
theorem dX0_writeLevels_156 : decode cX0_writeLevels 156 = .ok (.iconst 4, 1) := by decide +kernel
theorem dX0_writeLevels_157 : decode cX0_writeLevels 157 = .ok (.iadd, 1) := by decide +kernel
theorem dX0_writeLevels_158 : decode cX0_writeLevels 158 = .ok (.iaload, 1) := by decide +kernel
theorem dX0_writeLevels_159 : decode cX0_writeLevels 159 = .ok (.ifCond .le 28, 3) := by decide +kernel
theorem dX0_writeLevels_162 : decode cX0_writeLevels 162 = .ok (.aload_n 0, 1) := by decide +kernel
theorem dX0_writeLevels_163 : decode cX0_writeLevels 163 = .ok (.getfield 29, 3) := by decide +kernel
theorem dX0_writeLevels_166 : decode cX0_writeLevels 166 = .ok (.iconst 4, 1) := by decide +kernel
theorem dX0_writeLevels_167 : decode cX0_writeLevels 167 = .ok (.iconst 4, 1) := by decide +kernel
theorem dX0_writeLevels_168 : decode cX0_writeLevels 168 = .ok (.aload_n 3, 1) := by decide +kernel
theorem dX0_writeLevels_169 : decode cX0_writeLevels 169 = .ok (.iload_n 1, 1) := by decide +kernel
theorem dX0_writeLevels_170 : decode cX0_writeLevels 170 = .ok (.bipush 16, 2) := by decide +kernel
theorem dX0_writeLevels_172 : decode cX0_writeLevels 172 = .ok (.iload 5, 2) := by decide +kernel
theorem dX0_writeLevels_174 : decode cX0_writeLevels 174 = .ok (.iadd, 1) := by decide +kernel
theorem dX0_writeLevels_175 : decode cX0_writeLevels 175 = .ok (.invokestatic 589, 3) := by decide +kernel
theorem dX0_writeLevels_178 : decode cX0_writeLevels 178 = .ok (.invokevirtual 592, 3) := by decide +kernel
theorem dX0_writeLevels_181 : decode cX0_writeLevels 181 = .ok (.iinc 5 1, 3) := by decide +kernel
theorem dX0_writeLevels_184 : decode cX0_writeLevels 184 = .ok (.goto (-42), 3) := by decide +kernel
theorem dX0_writeLevels_187 : decode cX0_writeLevels 187 = .ok (.bipush 16, 2) := by decide +kernel
theorem dX0_writeLevels_189 : decode cX0_writeLevels 189 = .ok (.istore 5, 2) := by decide +kernel
theorem dX0_writeLevels_191 : decode cX0_writeLevels 191 = .ok (.iload 5, 2) := by decide +kernel
theorem dX0_writeLevels_193 : decode cX0_writeLevels 193 = .ok (.bipush 24, 2) := by decide +kernel
theorem dX0_writeLevels_195 : decode cX0_writeLevels 195 = .ok (.if_icmp .ge 52, 3) := by decide +kernel
theorem dX0_writeLevels_198 : decode cX0_writeLevels 198 = .ok (.aload_n 0, 1) := by decide +kernel
theorem dX0_writeLevels_199 : decode cX0_writeLevels 199 = .ok (.getfield 36, 3) := by decide +kernel
theorem dX0_writeLevels_202 : decode cX0_writeLevels 202 = .ok (.getfield 216, 3) := by decide +kernel
theorem dX0_writeLevels_205 : decode cX0_writeLevels 205 = .ok (.iload_n 2, 1) := by decide +kernel
theorem dX0_writeLevels_206 : decode cX0_writeLevels 206 = .ok (.iconst 4, 1) := by decide +kernel
theorem dX0_writeLevels_207 : decode cX0_writeLevels 207 = .ok (.iadd, 1) := by decide +kernel
theorem dX0_writeLevels_208 : decode cX0_writeLevels 208 = .ok (.iaload, 1) := by decide +kernel
theorem dX0_writeLevels_209 : decode cX0_writeLevels 209 = .ok (.iconst 2, 1) := by decide +kernel
theorem dX0_writeLevels_210 : decode cX0_writeLevels 210 = .ok (.if_icmp .ne 37, 3) := by decide +kernel
theorem dX0_writeLevels_213 : decode cX0_writeLevels 213 = .ok (.aload_n 0, 1) := by decide +kernel
theorem dX0_writeLevels_214 : decode cX0_writeLevels 214 = .ok (.getfield 29, 3) := by decide +kernel
theorem dX0_writeLevels_217 : decode cX0_writeLevels 217 = .ok (.aload_n 0, 1) := by decide +kernel
theorem dX0_writeLevels_218 : decode cX0_writeLevels 218 = .ok (.getfield 36, 3) := by decide +kernel
theorem dX0_writeLevels_221 : decode cX0_writeLevels 221 = .ok (.iload_n 1, 1) := by decide +kernel
theorem dX0_writeLevels_222 : decode cX0_writeLevels 222 = .ok (.iload 5, 2) := by decide +kernel
theorem dX0_writeLevels_224 : decode cX0_writeLevels 224 = .ok (.invokevirtual 586, 3) := by decide +kernel
theorem dX0_writeLevels_227 : decode cX0_writeLevels 227 = .ok (.bipush 15, 2) := by decide +kernel
theorem dX0_writeLevels_229 : decode cX0_writeLevels 229 = .ok (.aload_n 3, 1) := by decide +kernel
theorem dX0_writeLevels_230 : decode cX0_writeLevels 230 = .ok (.iload_n 1, 1) := by decide +kernel
theorem dX0_writeLevels_231 : decode cX0_writeLevels 231 = .ok (.iconst 3, 1) := by decide +kernel
theorem dX0_writeLevels_232 : decode cX0_writeLevels 232 = .ok (.iload 5, 2) := by decide +kernel
theorem dX0_writeLevels_234 : decode cX0_writeLevels 234 = .ok (.iadd, 1) := by decide +kernel
theorem dX0_writeLevels_235 : decode cX0_writeLevels 235 = .ok (.invokestatic 589, 3) := by decide +kernel
theorem dX0_writeLevels_238 : decode cX0_writeLevels 238 = .ok (.invokevirtual 592, 3) := by decide +kernel
theorem dX0_writeLevels_241 : decode cX0_writeLevels 241 = .ok (.iinc 5 1, 3) := by decide +kernel
theorem dX0_writeLevels_244 : decode cX0_writeLevels 244 = .ok (.goto (-53), 3) := by decide +kernel
theorem dX0_writeLevels_247 : decode cX0_writeLevels 247 = .ok (.return_, 1) := by decide +kernel
noncomputable def FX0_writeLevels (G : GG) (M : DD) (a : Nat) (p0 : Int32) : Option (NN × DD) :=
  ltt ((((8 : Int32)) * p0)) fun x1 =>
  dr (xt G []) 9 ((M.2 a 3)) fun b2 =>
  ltt ((x1 + ((0 : Int32)))) fun x3 =>
  dr (xt G []) 13 ((M.2 b2 6)) fun b4 =>
  chk (¬ (x3 < 0 ∨ (xt G []).2.2 b4 ≤ x3.toNatClampNeg)) <|
  ltt (M.1 b4 x3.toNatClampNeg) fun x5 =>
  bnd (if x5 = ((1 : Int32)) then (some ((1 : Int32))) else
  (some ((0 : Int32)))) fun (y6 : Int32) =>
  bnd (if y6 = ((0 : Int32)) then (some ([], M)) else
  (bnd (FX9_tokenTable (xt G []) M b2 p0 ((0 : Int32))) fun y102 =>
  bnd (FX9_levelAt (xt G []) y102.1 p0 ((16 : Int32))) fun y103 =>
  dr (xt G []) 10 ((M.2 a 2)) fun b104 =>
  chk (okd (xt G []) ((M.2 b2 9)) = true) <|
  bnd (FX10_levels (xt G []) y103.1 b104 y102.2 ((16 : Int32)) ((M.2 b2 9)) y103.2) fun y105 =>
  app y105.1 <|
  ltt ([] ++ y105.1) fun L108 =>
  some ([], y105.2))) fun (y7 : NN × DD) =>
  app y7.1 <|
  ltt ([] ++ y7.1) fun L9 =>
  bnd (itrA (fun (s12 : NN × Int32 × DD) => ((if ((16 : Int32)) ≤ s12.2.1 then (some ([], .inr ((s12.2.1, s12.2.2)))) else
  (dr (xt G s12.1) 9 ((s12.2.2.2 a 3)) fun b75 =>
  ltt ((x1 + ((3 : Int32)))) fun x76 =>
  dr (xt G s12.1) 13 ((s12.2.2.2 b75 6)) fun b77 =>
  chk (¬ (x76 < 0 ∨ (xt G s12.1).2.2 b77 ≤ x76.toNatClampNeg)) <|
  ltt (s12.2.2.1 b77 x76.toNatClampNeg) fun x78 =>
  ltt (s12.2.1 / ((4 : Int32))) fun x79 =>
  ltt ((x78 >>> (x79 &&& 31))) fun x80 =>
  ltt ((x80 &&& ((1 : Int32)))) fun x81 =>
  bnd (if x81 = ((1 : Int32)) then (bnd (FX9_tokenTable (xt G s12.1) s12.2.2 b75 p0 s12.2.1) fun y89 =>
  bnd (if y6 = ((0 : Int32)) then (some ((16 : Int32))) else
  (some ((15 : Int32)))) fun (y90 : Int32) =>
  bnd (FX9_levelAt (xt G s12.1) y89.1 p0 s12.2.1) fun y91 =>
  dr (xt G s12.1) 10 ((s12.2.2.2 a 2)) fun b92 =>
  chk (okd (xt G s12.1) ((M.2 b2 9)) = true) <|
  bnd (FX10_levels (xt G s12.1) y91.1 b92 y89.2 y90 ((M.2 b2 9)) y91.2) fun y93 =>
  app y93.1 <|
  ltt (s12.1 ++ y93.1) fun L96 =>
  some ([], y93.2)) else
  (some ([], s12.2.2))) fun (y82 : NN × DD) =>
  app y82.1 <|
  ltt (s12.1 ++ y82.1) fun L84 =>
  ltt (s12.2.1 + (1 : Int32)) fun x86 =>
  some ([], .inl (L84, (x86, y82.2))))) : Option (NN × ((NN × Int32 × DD) ⊕ (Int32 × DD))))) 1000000 (L9, ((0 : Int32), y7.2))) fun (y11 : NN × Int32 × DD) =>
  app y11.1 <|
  ltt (L9 ++ y11.1) fun L14 =>
  bnd (itrA (fun (s17 : NN × Int32 × DD) => ((if ((3 : Int32)) ≤ s17.2.1 then (some ([], .inr ((s17.2.1, s17.2.2)))) else
  (dr (xt G s17.1) 9 ((s17.2.2.2 a 3)) fun b54 =>
  ltt ((x1 + ((4 : Int32)))) fun x55 =>
  dr (xt G s17.1) 13 ((s17.2.2.2 b54 6)) fun b56 =>
  chk (¬ (x55 < 0 ∨ (xt G s17.1).2.2 b56 ≤ x55.toNatClampNeg)) <|
  ltt (s17.2.2.1 b56 x55.toNatClampNeg) fun x57 =>
  if x57 ≤ ((0 : Int32)) then (some ([], .inr ((s17.2.1, s17.2.2)))) else
  (ltt ((((16 : Int32)) + s17.2.1)) fun x59 =>
  bnd (FX9_levelAt (xt G s17.1) s17.2.2 p0 x59) fun y60 =>
  dr (xt G s17.1) 10 ((s17.2.2.2 a 2)) fun b61 =>
  chk (okd (xt G s17.1) ((M.2 b2 9)) = true) <|
  bnd (FX10_levels (xt G s17.1) y60.1 b61 ((4 : Int32)) ((4 : Int32)) ((M.2 b2 9)) y60.2) fun y62 =>
  app y62.1 <|
  ltt (s17.1 ++ y62.1) fun L65 =>
  ltt (s17.2.1 + (1 : Int32)) fun x68 =>
  some ([], .inl (L65, (x68, y62.2)))))) : Option (NN × ((NN × Int32 × DD) ⊕ (Int32 × DD))))) 1000000 (L14, ((1 : Int32), y11.2.2))) fun (y16 : NN × Int32 × DD) =>
  app y16.1 <|
  ltt (L14 ++ y16.1) fun L19 =>
  bnd (itrA (fun (s22 : NN × Int32 × DD) => ((if ((24 : Int32)) ≤ s22.2.1 then (some ([], .inr ((s22.2.1, s22.2.2)))) else
  (dr (xt G s22.1) 9 ((s22.2.2.2 a 3)) fun b32 =>
  ltt ((x1 + ((4 : Int32)))) fun x33 =>
  dr (xt G s22.1) 13 ((s22.2.2.2 b32 6)) fun b34 =>
  chk (¬ (x33 < 0 ∨ (xt G s22.1).2.2 b34 ≤ x33.toNatClampNeg)) <|
  ltt (s22.2.2.1 b34 x33.toNatClampNeg) fun x35 =>
  if x35 = ((2 : Int32)) then (bnd (FX9_tokenTable (xt G s22.1) s22.2.2 b32 p0 s22.2.1) fun y37 =>
  ltt ((((3 : Int32)) + s22.2.1)) fun x38 =>
  bnd (FX9_levelAt (xt G s22.1) y37.1 p0 x38) fun y39 =>
  dr (xt G s22.1) 10 ((s22.2.2.2 a 2)) fun b40 =>
  chk (okd (xt G s22.1) ((M.2 b2 9)) = true) <|
  bnd (FX10_levels (xt G s22.1) y39.1 b40 y37.2 ((15 : Int32)) ((M.2 b2 9)) y39.2) fun y41 =>
  app y41.1 <|
  ltt (s22.1 ++ y41.1) fun L44 =>
  ltt (s22.2.1 + (1 : Int32)) fun x47 =>
  some ([], .inl (L44, (x47, y41.2)))) else
  (some ([], .inr ((s22.2.1, s22.2.2)))))) : Option (NN × ((NN × Int32 × DD) ⊕ (Int32 × DD))))) 1000000 (L19, ((16 : Int32), y16.2.2))) fun (y21 : NN × Int32 × DD) =>
  app y21.1 <|
  ltt (L19 ++ y21.1) fun L24 =>
  some ([], y21.2.2)
set_option maxHeartbeats 4000000 in
set_option maxRecDepth 100000 in
theorem kX0_writeLevels (l : Launch) (D : va_G) (ct : CT) (ad : Nat → Nat) (Z : Nat → Nat) (G : GG) (M : DD) (sz : Nat) (a : Nat) (p0 : Int32) (y : NN × DD) (hc : a < G.1) (hk : G.2.1 a = 0) (hF : FX0_writeLevels G M a p0 = some y) : Met l yX0_writeLevels wsX0_writeLevels ({ frames := 6, cells := y.1.length, slots := wt y.1, locals := 206 }) (va_Pc [.ref (ad a), .int p0] (kB D ct ad Z G M sz)) (va_Qv (fun (u : Nat → Nat) => agr G.1 ad u) (fun u t => kE D ct u (xt G y.1) (wA ad G sz) y.2 t) (wA ad G sz)) y.1.length (wt y.1) (wA ad G sz) := by
  refine Met.ofW (cc := cX0_writeLevels) (maxL := 6) (ret := none) (by decide) rfl ?_
  intro p e s m args below meth c s₁ B hml hv
  obtain ⟨rfl, hsz, hP, hK, hD0, hZ, hN⟩ := hv
  have hx := B.exec
  have hb := B.bytes
  have hr := B.returns
  have hts := atoms_spec (ws := wsX0_writeLevels) B.pre
  have hown : s.vm.findClass RX0 = some m.cls := findClass_of_methodNamed B.named
  have hlocks := B.notSynchronized
  subst hsz
  have hD := wD_self (sz := s.heap.size) hD0
  have hA9 : ∀ q, s.heap.size ≤ q → wA ad G s.heap.size q := fun q h => Or.inr h
  generalize hAe : wA ad G s.heap.size = A at hD hA9 hZ ⊢
  have hS : va_S A s.heap s.heap [] := va_S.rf
  have hl := lv_entry ([.ref (ad a), .int p0]) (n := 6) (Nat.le_of_ble_eq_true rfl)
  rw [lg_entry_eq]
  generalize (lg_sl ([.ref (ad a), .int p0]) ++ List.replicate (6 - (lg_sl ([.ref (ad a), .int p0])).length) Slot.unset).toArray = ls at hl ⊢
  have hl : lv_has ls 6 [(0, .ref (ad a)), (1, .int p0)] := hl
  unfold FX0_writeLevels at hF
  rw [← wld_0 ct ad G M] at hP hD
  have hk := xt_k0 hc hk
  have hc := xt_l0 hc
  have hag := agr_rf G.1 ad
  obtain ⟨w0, hw0⟩ : ∃ z, z = y := ⟨_, rfl⟩
  rw [← hw0] at hF
  have hT : y.1 = [] ++ w0.1 := by rw [hw0]; rfl
  have h2 : y.2 = w0.2 := by rw [hw0]
  have hbl : y.1.length ≤ y.1.length ∧ wt y.1 ≤ wt y.1 := ⟨Nat.le_refl _, Nat.le_refl _⟩
  refine lv_bipush (v := (8 : Int32)) hx hb dX0_writeLevels_0 (by decide) ?_
  refine lv_iload_n hx hb dX0_writeLevels_2 rfl (lv_at hl 1 rfl) ?_
  refine lv_imul hx hb dX0_writeLevels_3 ?_
  obtain ⟨x1, ex1, hF⟩ := ltt_some hF
  refine lv_topi (fun zx1 ezx1 => ?_)
  obtain rfl : x1 = zx1 := ex1.trans ezx1.symm
  refine lv_istore_n (lv' := [(2, .int x1), (0, .ref (ad a)), (1, .int p0)]) hx hb dX0_writeLevels_4 rfl hl (by decide) rfl (fun ls hl => ?_)
  refine lv_aload_n hx hb dX0_writeLevels_5 rfl (lv_at hl 1 rfl) ?_
  refine va_get (D := D) (ci := 0) (v := va_re ad (M.2 a 3)) (C := RX0) (T := TX0) (N := 21) hx hb hts (by decide +kernel) hown hK hP a (wld_o ct ad (xt G []) M hc hk (by decide)) rfl 3 (by decide) (hts (.fieldLink RX0 36 "VideoSuite$Coder" "work" "LVideoSuite$Work;") (by decide +kernel)) (fun _ h9 => h9) rfl dX0_writeLevels_6 ?_
  obtain ⟨b2, ho2, hc2, hk2, hF⟩ := dr_some hF
  refine W_st (st' := [.ref (ad b2)]) (by rw [va_some ho2]) ?_
  refine va_get (D := D) (ci := 9) (v := va_re ad (M.2 b2 9)) (C := RX9) (T := TX9) (N := 20) hx hb hts (by decide +kernel) hown hK hP b2 (wld_o ct ad (xt G []) M hc2 hk2 (by decide)) rfl 9 (by decide) (hts (.fieldLink RX0 583 "VideoSuite$Work" "level" "[I") (by decide +kernel)) (fun _ h9 => h9) rfl dX0_writeLevels_9 ?_
  refine lv_astoreq_n (lv' := [(3, va_re ad (M.2 b2 9)), (2, .int x1), (0, .ref (ad a)), (1, .int p0)]) hx hb dX0_writeLevels_12 rfl hl (by decide) rfl (fun ls hl => ?_)
  refine lv_aload_n hx hb dX0_writeLevels_13 rfl (lv_at hl 2 rfl) ?_
  refine va_get (D := D) (ci := 0) (v := va_re ad (M.2 a 3)) (C := RX0) (T := TX0) (N := 21) hx hb hts (by decide +kernel) hown hK hP a (wld_o ct ad (xt G []) M hc hk (by decide)) rfl 3 (by decide) (hts (.fieldLink RX0 36 "VideoSuite$Coder" "work" "LVideoSuite$Work;") (by decide +kernel)) (fun _ h9 => h9) rfl dX0_writeLevels_14 ?_
  refine W_st (st' := [.ref (ad b2)]) (by rw [va_some ho2]) ?_
  refine va_get (D := D) (ci := 9) (v := va_re ad (M.2 b2 6)) (C := RX9) (T := TX9) (N := 20) hx hb hts (by decide +kernel) hown hK hP b2 (wld_o ct ad (xt G []) M hc2 hk2 (by decide)) rfl 6 (by decide) (hts (.fieldLink RX0 216 "VideoSuite$Work" "info" "[I") (by decide +kernel)) (fun _ h9 => h9) rfl dX0_writeLevels_17 ?_
  refine lv_iload_n hx hb dX0_writeLevels_20 rfl (lv_at hl 1 rfl) ?_
  refine lv_iconst (v := (0 : Int32)) hx hb dX0_writeLevels_21 (by decide) ?_
  refine lv_iadd hx hb dX0_writeLevels_22 ?_
  obtain ⟨x3, ex3, hF⟩ := ltt_some hF
  refine lv_topi (fun zx3 ezx3 => ?_)
  obtain rfl : x3 = zx3 := ex3.trans ezx3.symm
  obtain ⟨b4, ho4, hc4, hk4, hF⟩ := dr_some hF
  refine W_st (st' := [.int x3, .ref (ad b4)]) (by rw [va_some ho4]) ?_
  obtain ⟨hvc, hF⟩ := chk_some hF
  refine va_iald hx hb hK hP b4 1 (wld_i ct ad (xt G []) M hc4 hk4) rfl hvc dX0_writeLevels_23 ?_
  obtain ⟨x5, ex5, hF⟩ := ltt_some hF
  refine lv_topi (fun zx5 ezx5 => ?_)
  obtain rfl : x5 = zx5 := ex5.trans ezx5.symm
  refine lv_iconst (v := (1 : Int32)) hx hb dX0_writeLevels_24 (by decide) ?_
  obtain ⟨y6, hy6, hF⟩ := bnd_some hF
  have J6 : ∀ (H : Heap) (locs : List Loc) (ls : Array Slot), va_P D classes (wld ct ad (xt G []) M) H → va_D A (wld ct ad (xt G []) M) → va_S A s.heap H locs → lv_has ls 6 [(3, va_re ad (M.2 b2 9)), (2, .int x1), (0, .ref (ad a)), (1, .int p0)] → W p l e (headSpec wsX0_writeLevels ({ frames := 6, cells := y.1.length, slots := wt y.1, locals := 206 })).room s m ([.ref (ad a), .int p0] : List Value).toArray below meth c H locs ([] : NN).length (wt []) (MQ below (va_Qv (fun (u : Nat → Nat) => agr G.1 ad u) (fun u t => kE D ct u (xt G y.1) A y.2 t) A) ([.ref (ad a), .int p0] : List Value).toArray s y.1.length (wt y.1) A) (F0 m 33 ls [.int y6]) := by
    intro H locs ls hP hD hS hl
    refine lv_istore (lv' := [(4, .int y6), (3, va_re ad (M.2 b2 9)), (2, .int x1), (0, .ref (ad a)), (1, .int p0)]) hx hb dX0_writeLevels_33 hl (by decide) (by generalize ((M.2 b2 9)) = o9; cases o9 <;> rfl) (fun ls hl => ?_)
    refine lv_iload hx hb dX0_writeLevels_35 (lv_at hl 0 rfl) ?_
    obtain ⟨y7, hy7, hF⟩ := bnd_some hF
    obtain ⟨w8, hF, ew8⟩ := app_some hF
    obtain ⟨L9, eL9, hF⟩ := ltt_some hF
    have hT9 : y.1 = ([] ++ y7.1) ++ w8.1 := by rw [hT, ew8]; simp only [List.append_assoc]
    have hbl9 : L9.length ≤ y.1.length ∧ wt L9 ≤ wt y.1 := by rw [eL9]; exact room_d hT9 hbl
    have J7 : ∀ (ad10 : Nat → Nat), agr G.1 ad ad10 → ∀ (H : Heap) (locs : List Loc) (ls : Array Slot), va_P D classes (wld ct ad10 (xt G L9) y7.2) H → va_D A (wld ct ad10 (xt G L9) y7.2) → va_S A s.heap H locs → lv_has ls 6 [(4, .int y6), (3, va_re ad10 (M.2 b2 9)), (2, .int x1), (0, .ref (ad10 a)), (1, .int p0)] → W p l e (headSpec wsX0_writeLevels ({ frames := 6, cells := y.1.length, slots := wt y.1, locals := 206 })).room s m ([.ref (ad a), .int p0] : List Value).toArray below meth c H locs (L9 : NN).length (wt L9) (MQ below (va_Qv (fun (u : Nat → Nat) => agr G.1 ad u) (fun u t => kE D ct u (xt G y.1) A y.2 t) A) ([.ref (ad a), .int p0] : List Value).toArray s y.1.length (wt y.1) A) (F0 m 65 ls []) := by
      intro ad10 hag H locs ls hP hD hS hl
      have hT : y.1 = L9 ++ w8.1 := by rw [hT9, eL9]
      have h2 : y.2 = w8.2 := by rw [h2, ew8]
      have hk : (xt G L9).2.1 a = 0 := by rw [eL9]; exact xt_k _ hc hk
      have hc : a < (xt G L9).1 := by rw [eL9]; exact xt_l _ hc
      have hk2 : (xt G L9).2.1 b2 = 9 := by rw [eL9]; exact xt_k _ hc2 hk2
      have hc2 : b2 < (xt G L9).1 := by rw [eL9]; exact xt_l _ hc2
      have hk4 : (xt G L9).2.1 b4 = 13 := by rw [eL9]; exact xt_k _ hc4 hk4
      have hc4 : b4 < (xt G L9).1 := by rw [eL9]; exact xt_l _ hc4
      refine lv_iconst (v := (0 : Int32)) hx hb dX0_writeLevels_65 (by decide) ?_
      refine lv_istore (lv' := [(5, .int (0 : Int32)), (4, .int y6), (3, va_re ad10 (M.2 b2 9)), (2, .int x1), (0, .ref (ad10 a)), (1, .int p0)]) hx hb dX0_writeLevels_66 hl (by decide) rfl (fun ls hl => ?_)
      obtain ⟨y11, hy11, hF⟩ := bnd_some hF
      obtain ⟨w13, hF, ew13⟩ := app_some hF
      obtain ⟨L14, eL14, hF⟩ := ltt_some hF
      have hT14 : y.1 = (L9 ++ y11.1) ++ w13.1 := by rw [hT, ew13]; simp only [List.append_assoc]
      have hbl14 : L14.length ≤ y.1.length ∧ wt L14 ≤ wt y.1 := by rw [eL14]; exact room_d hT14 hbl
      have K11 : ∀ (ad15 : Nat → Nat), agr G.1 ad ad15 → ∀ (H : Heap) (locs : List Loc) (ls : Array Slot), va_P D classes (wld ct ad15 (xt G L14) y11.2.2) H → va_D A (wld ct ad15 (xt G L14) y11.2.2) → va_S A s.heap H locs → lv_has ls 6 [(3, va_re ad15 (M.2 b2 9)), (2, .int x1), (0, .ref (ad15 a)), (1, .int p0)] → W p l e (headSpec wsX0_writeLevels ({ frames := 6, cells := y.1.length, slots := wt y.1, locals := 206 })).room s m ([.ref (ad a), .int p0] : List Value).toArray below meth c H locs (L14 : NN).length (wt L14) (MQ below (va_Qv (fun (u : Nat → Nat) => agr G.1 ad u) (fun u t => kE D ct u (xt G y.1) A y.2 t) A) ([.ref (ad a), .int p0] : List Value).toArray s y.1.length (wt y.1) A) (F0 m 139 ls []) := by
        intro ad15 hag H locs ls hP hD hS hl
        have hT : y.1 = L14 ++ w13.1 := by rw [hT14, eL14]
        have h2 : y.2 = w13.2 := by rw [h2, ew13]
        have hk : (xt G L14).2.1 a = 0 := by rw [eL14]; exact xt_k _ hc hk
        have hc : a < (xt G L14).1 := by rw [eL14]; exact xt_l _ hc
        have hk2 : (xt G L14).2.1 b2 = 9 := by rw [eL14]; exact xt_k _ hc2 hk2
        have hc2 : b2 < (xt G L14).1 := by rw [eL14]; exact xt_l _ hc2
        have hk4 : (xt G L14).2.1 b4 = 13 := by rw [eL14]; exact xt_k _ hc4 hk4
        have hc4 : b4 < (xt G L14).1 := by rw [eL14]; exact xt_l _ hc4
        refine lv_iconst (v := (1 : Int32)) hx hb dX0_writeLevels_139 (by decide) ?_
        refine lv_istore (lv' := [(5, .int (1 : Int32)), (3, va_re ad15 (M.2 b2 9)), (2, .int x1), (0, .ref (ad15 a)), (1, .int p0)]) hx hb dX0_writeLevels_140 hl (by decide) rfl (fun ls hl => ?_)
        obtain ⟨y16, hy16, hF⟩ := bnd_some hF
        obtain ⟨w18, hF, ew18⟩ := app_some hF
        obtain ⟨L19, eL19, hF⟩ := ltt_some hF
        have hT19 : y.1 = (L14 ++ y16.1) ++ w18.1 := by rw [hT, ew18]; simp only [List.append_assoc]
        have hbl19 : L19.length ≤ y.1.length ∧ wt L19 ≤ wt y.1 := by rw [eL19]; exact room_d hT19 hbl
        have K16 : ∀ (ad20 : Nat → Nat), agr G.1 ad ad20 → ∀ (H : Heap) (locs : List Loc) (ls : Array Slot), va_P D classes (wld ct ad20 (xt G L19) y16.2.2) H → va_D A (wld ct ad20 (xt G L19) y16.2.2) → va_S A s.heap H locs → lv_has ls 6 [(3, va_re ad20 (M.2 b2 9)), (2, .int x1), (0, .ref (ad20 a)), (1, .int p0)] → W p l e (headSpec wsX0_writeLevels ({ frames := 6, cells := y.1.length, slots := wt y.1, locals := 206 })).room s m ([.ref (ad a), .int p0] : List Value).toArray below meth c H locs (L19 : NN).length (wt L19) (MQ below (va_Qv (fun (u : Nat → Nat) => agr G.1 ad u) (fun u t => kE D ct u (xt G y.1) A y.2 t) A) ([.ref (ad a), .int p0] : List Value).toArray s y.1.length (wt y.1) A) (F0 m 187 ls []) := by
          intro ad20 hag H locs ls hP hD hS hl
          have hT : y.1 = L19 ++ w18.1 := by rw [hT19, eL19]
          have h2 : y.2 = w18.2 := by rw [h2, ew18]
          have hk : (xt G L19).2.1 a = 0 := by rw [eL19]; exact xt_k _ hc hk
          have hc : a < (xt G L19).1 := by rw [eL19]; exact xt_l _ hc
          have hk2 : (xt G L19).2.1 b2 = 9 := by rw [eL19]; exact xt_k _ hc2 hk2
          have hc2 : b2 < (xt G L19).1 := by rw [eL19]; exact xt_l _ hc2
          have hk4 : (xt G L19).2.1 b4 = 13 := by rw [eL19]; exact xt_k _ hc4 hk4
          have hc4 : b4 < (xt G L19).1 := by rw [eL19]; exact xt_l _ hc4
          refine lv_bipush (v := (16 : Int32)) hx hb dX0_writeLevels_187 (by decide) ?_
          refine lv_istore (lv' := [(5, .int (16 : Int32)), (3, va_re ad20 (M.2 b2 9)), (2, .int x1), (0, .ref (ad20 a)), (1, .int p0)]) hx hb dX0_writeLevels_189 hl (by decide) rfl (fun ls hl => ?_)
          obtain ⟨y21, hy21, hF⟩ := bnd_some hF
          obtain ⟨w23, hF, ew23⟩ := app_some hF
          obtain ⟨L24, eL24, hF⟩ := ltt_some hF
          have hT24 : y.1 = (L19 ++ y21.1) ++ w23.1 := by rw [hT, ew23]; simp only [List.append_assoc]
          have hbl24 : L24.length ≤ y.1.length ∧ wt L24 ≤ wt y.1 := by rw [eL24]; exact room_d hT24 hbl
          have K21 : ∀ (ad25 : Nat → Nat), agr G.1 ad ad25 → ∀ (H : Heap) (locs : List Loc) (ls : Array Slot), va_P D classes (wld ct ad25 (xt G L24) y21.2.2) H → va_D A (wld ct ad25 (xt G L24) y21.2.2) → va_S A s.heap H locs → lv_has ls 6 [] → W p l e (headSpec wsX0_writeLevels ({ frames := 6, cells := y.1.length, slots := wt y.1, locals := 206 })).room s m ([.ref (ad a), .int p0] : List Value).toArray below meth c H locs (L24 : NN).length (wt L24) (MQ below (va_Qv (fun (u : Nat → Nat) => agr G.1 ad u) (fun u t => kE D ct u (xt G y.1) A y.2 t) A) ([.ref (ad a), .int p0] : List Value).toArray s y.1.length (wt y.1) A) (F0 m 247 ls []) := by
            intro ad25 hag H locs ls hP hD hS hl
            have hT : y.1 = L24 ++ w23.1 := by rw [hT24, eL24]
            have h2 : y.2 = w23.2 := by rw [h2, ew23]
            have hk : (xt G L24).2.1 a = 0 := by rw [eL24]; exact xt_k _ hc hk
            have hc : a < (xt G L24).1 := by rw [eL24]; exact xt_l _ hc
            have hk2 : (xt G L24).2.1 b2 = 9 := by rw [eL24]; exact xt_k _ hc2 hk2
            have hc2 : b2 < (xt G L24).1 := by rw [eL24]; exact xt_l _ hc2
            have hk4 : (xt G L24).2.1 b4 = 13 := by rw [eL24]; exact xt_k _ hc4 hk4
            have hc4 : b4 < (xt G L24).1 := by rw [eL24]; exact xt_l _ hc4
            obtain rfl := Option.some.inj hF
            have e1 : y.1 = L24 := by rw [hT]; exact List.append_nil _
            have e2 : y.2 = y21.2.2 := h2
            refine W.widen (k := y.1.length) (n := wt y.1) (Nat.le_of_eq (by rw [e1])) (Nat.le_of_eq (by rw [e1])) ?_
            exact W.vret hx hb hr (fun t ht hW => ⟨⟨ad25, rfl, hag, (by unfold kE; rw [e1, e2]; exact ⟨by rw [ht]; exact hP, va_K.moved hW.alike hK, hD⟩)⟩, hS.F ht⟩) hS.2.2 dX0_writeLevels_247
          clear hF
          refine itrA_rule (fun (s22 : NN × Int32 × DD) (r27 : NN) => (∃ t, s22.1 = L19 ++ t) → L24 = s22.1 ++ r27 → ∀ (ad26 : Nat → Nat), agr G.1 ad ad26 → ∀ (H : Heap) (locs : List Loc) (ls : Array Slot), va_P D classes (wld ct ad26 (xt G s22.1) s22.2.2) H → va_D A (wld ct ad26 (xt G s22.1) s22.2.2) → va_S A s.heap H locs → lv_has ls 6 [(5, .int s22.2.1), (3, va_re ad26 (M.2 b2 9)), (2, .int x1), (0, .ref (ad26 a)), (1, .int p0)] → W p l e (headSpec wsX0_writeLevels ({ frames := 6, cells := y.1.length, slots := wt y.1, locals := 206 })).room s m ([.ref (ad a), .int p0] : List Value).toArray below meth c H locs (s22.1 : NN).length (wt s22.1) (MQ below (va_Qv (fun (u : Nat → Nat) => agr G.1 ad u) (fun u t => kE D ct u (xt G y.1) A y.2 t) A) ([.ref (ad a), .int p0] : List Value).toArray s y.1.length (wt y.1) A) (F0 m 191 ls [])) ?_ _ _ _ hy21 ⟨[], (List.append_nil _).symm⟩ eL24 _ hag _ _ _ hP hD hS (lv_sub hl [0, 1, 2, 3, 4] rfl)
          rintro s22 r27 ⟨z28, hF, ⟨t21, et21⟩, hwz28⟩ ⟨u21, eu21⟩ eq21 ad26 hag H locs ls hP hD hS hl
          try dsimp only at hF
          obtain ⟨L29, eL29⟩ : ∃ x, x = s22.1 ++ z28.1 := ⟨_, rfl⟩
          obtain ⟨w30, hw30⟩ : ∃ x, x = z28 := ⟨_, rfl⟩
          rw [← hw30] at hF
          have hbl : L29.length ≤ y.1.length ∧ wt L29 ≤ wt y.1 := room_d (show L24 = L29 ++ t21 by rw [eq21, et21, eL29]; simp only [List.append_assoc]) hbl24
          have hT : L29 = s22.1 ++ w30.1 := by rw [eL29, hw30]
          have h2 : z28.2 = w30.2 := by rw [hw30]
          have hk : (xt G s22.1).2.1 a = 0 := by rw [eu21]; exact xt_k _ hc hk
          have hc : a < (xt G s22.1).1 := by rw [eu21]; exact xt_l _ hc
          have hk2 : (xt G s22.1).2.1 b2 = 9 := by rw [eu21]; exact xt_k _ hc2 hk2
          have hc2 : b2 < (xt G s22.1).1 := by rw [eu21]; exact xt_l _ hc2
          have hk4 : (xt G s22.1).2.1 b4 = 13 := by rw [eu21]; exact xt_k _ hc4 hk4
          have hc4 : b4 < (xt G s22.1).1 := by rw [eu21]; exact xt_l _ hc4
          refine lv_iload hx hb dX0_writeLevels_191 (lv_at hl 0 rfl) ?_
          refine lv_bipush (v := (24 : Int32)) hx hb dX0_writeLevels_193 (by decide) ?_
          refine lv_icmp_ge (tgt := 247) hx hb dX0_writeLevels_195 (by decide) (fun c31 => ?_) (fun c31 => ?_)
          · rw [if_pos c31] at hF
            obtain rfl := Option.some.inj hF
            have e1 : L29 = s22.1 := by rw [hT]; exact List.append_nil _
            have e2 : z28.2 = .inr ((s22.2.1, s22.2.2)) := h2
            rw [e2] at hwz28
            obtain ⟨hw1, hw2⟩ := hwz28
            have e8 : L24 = s22.1 := by rw [eq21, hw2, ← eL29, e1]
            rw [e8] at K21
            try rw [← hw1] at K21
            exact K21 _ hag _ _ _ hP hD hS (lv_sub hl [] rfl)
          · rw [if_neg c31] at hF
            refine lv_aload_n hx hb dX0_writeLevels_198 rfl (lv_at hl 3 rfl) ?_
            refine va_get (D := D) (ci := 0) (v := va_re ad26 (s22.2.2.2 a 3)) (C := RX0) (T := TX0) (N := 21) hx hb hts (by decide +kernel) hown hK hP a (wld_o ct ad26 (xt G s22.1) s22.2.2 hc hk (by decide)) rfl 3 (by decide) (hts (.fieldLink RX0 36 "VideoSuite$Coder" "work" "LVideoSuite$Work;") (by decide +kernel)) (fun _ h9 => h9) rfl dX0_writeLevels_199 ?_
            obtain ⟨b32, ho32, hc32, hk32, hF⟩ := dr_some hF
            refine W_st (st' := [.ref (ad26 b32)]) (by rw [va_some ho32]) ?_
            refine va_get (D := D) (ci := 9) (v := va_re ad26 (s22.2.2.2 b32 6)) (C := RX9) (T := TX9) (N := 20) hx hb hts (by decide +kernel) hown hK hP b32 (wld_o ct ad26 (xt G s22.1) s22.2.2 hc32 hk32 (by decide)) rfl 6 (by decide) (hts (.fieldLink RX0 216 "VideoSuite$Work" "info" "[I") (by decide +kernel)) (fun _ h9 => h9) rfl dX0_writeLevels_202 ?_
            refine lv_iload_n hx hb dX0_writeLevels_205 rfl (lv_at hl 2 rfl) ?_
            refine lv_iconst (v := (4 : Int32)) hx hb dX0_writeLevels_206 (by decide) ?_
            refine lv_iadd hx hb dX0_writeLevels_207 ?_
            obtain ⟨x33, ex33, hF⟩ := ltt_some hF
            refine lv_topi (fun zx33 ezx33 => ?_)
            obtain rfl : x33 = zx33 := ex33.trans ezx33.symm
            obtain ⟨b34, ho34, hc34, hk34, hF⟩ := dr_some hF
            refine W_st (st' := [.int x33, .ref (ad26 b34)]) (by rw [va_some ho34]) ?_
            obtain ⟨hvc, hF⟩ := chk_some hF
            refine va_iald hx hb hK hP b34 1 (wld_i ct ad26 (xt G s22.1) s22.2.2 hc34 hk34) rfl hvc dX0_writeLevels_208 ?_
            obtain ⟨x35, ex35, hF⟩ := ltt_some hF
            refine lv_topi (fun zx35 ezx35 => ?_)
            obtain rfl : x35 = zx35 := ex35.trans ezx35.symm
            refine lv_iconst (v := (2 : Int32)) hx hb dX0_writeLevels_209 (by decide) ?_
            refine lv_icmp_ne (tgt := 247) hx hb dX0_writeLevels_210 (by decide) (fun c36 => ?_) (fun c36 => ?_)
            · rw [if_neg c36] at hF
              obtain rfl := Option.some.inj hF
              have e1 : L29 = s22.1 := by rw [hT]; exact List.append_nil _
              have e2 : z28.2 = .inr ((s22.2.1, s22.2.2)) := h2
              rw [e2] at hwz28
              obtain ⟨hw1, hw2⟩ := hwz28
              have e8 : L24 = s22.1 := by rw [eq21, hw2, ← eL29, e1]
              rw [e8] at K21
              try rw [← hw1] at K21
              exact K21 _ hag _ _ _ hP hD hS (lv_sub hl [] rfl)
            · rw [if_pos c36] at hF
              refine lv_aload_n hx hb dX0_writeLevels_213 rfl (lv_at hl 3 rfl) ?_
              refine va_get (D := D) (ci := 0) (v := va_re ad26 (s22.2.2.2 a 2)) (C := RX0) (T := TX0) (N := 21) hx hb hts (by decide +kernel) hown hK hP a (wld_o ct ad26 (xt G s22.1) s22.2.2 hc hk (by decide)) rfl 2 (by decide) (hts (.fieldLink RX0 29 "VideoSuite$Coder" "writer" "LVideoSuite$Writer;") (by decide +kernel)) (fun _ h9 => h9) rfl dX0_writeLevels_214 ?_
              refine lv_aload_n hx hb dX0_writeLevels_217 rfl (lv_at hl 3 rfl) ?_
              refine va_get (D := D) (ci := 0) (v := va_re ad26 (s22.2.2.2 a 3)) (C := RX0) (T := TX0) (N := 21) hx hb hts (by decide +kernel) hown hK hP a (wld_o ct ad26 (xt G s22.1) s22.2.2 hc hk (by decide)) rfl 3 (by decide) (hts (.fieldLink RX0 36 "VideoSuite$Coder" "work" "LVideoSuite$Work;") (by decide +kernel)) (fun _ h9 => h9) rfl dX0_writeLevels_218 ?_
              refine lv_iload_n hx hb dX0_writeLevels_221 rfl (lv_at hl 4 rfl) ?_
              refine lv_iload hx hb dX0_writeLevels_222 (lv_at hl 0 rfl) ?_
              refine W_st (st' := [.int s22.2.1, .int p0, .ref (ad26 b32), va_re ad26 (s22.2.2.2 a 2)]) (by rw [va_some ho32]) ?_
              obtain ⟨y37, hy37, hF⟩ := bnd_some hF
              have hf9 := wA_in hD hA9 hS
              refine va_calli (va_runV (As := [.int p0, .int s22.2.1]) (rest := [va_re ad26 (s22.2.2.2 a 2)]) ⟨hx, hb, hml, hown, hts⟩ (kX9_tokenTable l D ct ad26 Z (xt G s22.1) s22.2.2 H.size b32 p0 s22.2.1 y37 hc32 hk32 hy37) (cwV 2 hts gX0_writeLevels_X9_tokenTable rfl rfl rfl (by decide +kernel) ⟨Nat.le_of_ble_eq_true rfl, Nat.le_of_ble_eq_true rfl⟩) ⟨fun a U g mk q => by obtain ⟨q0, q1, qP, qK, qD, qZ, qN⟩ := q; exact ⟨q0, q1, qP, va_K.moved (u := U) (U := U.calling g mk a) (Vm.Alike.refl U.vm) qK, qD, sF.moved (u := U) (U := U.calling g mk a) (Vm.Alike.refl U.vm) qZ, nF.same rfl qN⟩, va_recv hK hP (ci := 9) (q0 := b32) rfl (wld_o ct ad26 (xt G s22.1) s22.2.2 hc32 hk32 (by decide)), fun U hU hW => ⟨rfl, by rw [hU], by rw [hU]; exact hP, va_K.moved hW.alike hK, hD.weaken (fun _ _ _ _ => trivial), by rw [hU]; exact ((hZ.kept hS.2.1).narrow hf9).moved hW.alike, hN.warm hW⟩⟩ rfl rfl hl.1 rfl (lv_room (by simp only [List.map, va_re_cat]; exact Nat.le_of_ble_eq_true rfl)) dX0_writeLevels_224 (room_d hT hbl)) hS (fun q _ h => hf9 q h) hf9 (fun r u t H locs ht hvm hw hB hz1 hk1 hS => ?_)
              obtain ⟨hP, hK9, hD9⟩ := hB
              rw [ht] at hP
              try dsimp only at hw
              subst hw
              refine W_cs (k := (s22.1 : NN).length) (n := wt s22.1) rfl rfl ?_
              have hD := hD9.weaken (fun _ q _ h => hf9 q.1 h)
              refine lv_bipush (v := (15 : Int32)) hx hb dX0_writeLevels_227 (by decide) ?_
              refine lv_aloadq_n hx hb dX0_writeLevels_229 rfl (lv_at hl 1 rfl) ?_
              refine lv_iload_n hx hb dX0_writeLevels_230 rfl (lv_at hl 4 rfl) ?_
              refine lv_iconst (v := (3 : Int32)) hx hb dX0_writeLevels_231 (by decide) ?_
              refine lv_iload hx hb dX0_writeLevels_232 (lv_at hl 0 rfl) ?_
              refine lv_iadd hx hb dX0_writeLevels_234 ?_
              obtain ⟨x38, ex38, hF⟩ := ltt_some hF
              refine lv_topi (fun zx38 ezx38 => ?_)
              obtain rfl : x38 = zx38 := ex38.trans ezx38.symm
              obtain ⟨y39, hy39, hF⟩ := bnd_some hF
              have hf9 := wA_in hD hA9 hS
              refine va_calli (va_runS (As := [.int p0, .int x38]) (rest := [va_re ad26 (M.2 b2 9), .int (15 : Int32), .int y37.2, va_re ad26 (s22.2.2.2 a 2)]) ⟨hx, hb, hml, hown, hts⟩ (kX9_levelAt l D ct ad26 Z (xt G s22.1) y37.1 H.size p0 x38 y39 hy39) (va_cwS 2 hts gX0_writeLevels_X9_levelAt rfl rfl rfl (by decide +kernel) ⟨Nat.le_of_ble_eq_true rfl, Nat.le_of_ble_eq_true rfl⟩) ⟨fun a U g mk q => by obtain ⟨q0, q1, qP, qK, qD, qZ, qN⟩ := q; exact ⟨q0, q1, qP, va_K.moved (u := U) (U := U.calling g mk a) (Vm.Alike.refl U.vm) qK, qD, sF.moved (u := U) (U := U.calling g mk a) (Vm.Alike.refl U.vm) qZ, nF.same rfl qN⟩, fun U hU hW => ⟨rfl, by rw [hU], by rw [hU]; exact hP, va_K.moved hW.alike hK, hD.weaken (fun _ _ _ _ => trivial), by rw [hU]; exact ((hZ.kept hS.2.1).narrow hf9).moved hW.alike, hN.warm hW⟩⟩ rfl rfl hl.1 rfl (lv_room (by simp only [List.map, va_re_cat]; exact Nat.le_of_ble_eq_true rfl)) dX0_writeLevels_235 (room_d hT hbl)) hS (fun q _ h => hf9 q h) hf9 (fun r u t H locs ht hvm hw hB hz1 hk1 hS => ?_)
              obtain ⟨hP, hK9, hD9⟩ := hB
              rw [ht] at hP
              try dsimp only at hw
              subst hw
              refine W_cs (k := (s22.1 : NN).length) (n := wt s22.1) rfl rfl ?_
              have hD := hD9.weaken (fun _ q _ h => hf9 q.1 h)
              obtain ⟨b40, ho40, hc40, hk40, hF⟩ := dr_some hF
              refine W_st (st' := [.int y39.2, va_re ad26 (M.2 b2 9), .int (15 : Int32), .int y37.2, .ref (ad26 b40)]) (by rw [va_some ho40]) ?_
              obtain ⟨hq42, hF⟩ := chk_some hF
              obtain ⟨y41, hy41, hF⟩ := bnd_some hF
              obtain ⟨w43, hF, ew43⟩ := app_some hF
              obtain ⟨L44, eL44, hF⟩ := ltt_some hF
              have hT44 : L29 = (s22.1 ++ y41.1) ++ w43.1 := by rw [hT, ew43]; simp only [List.append_assoc]
              have hf9 := wA_in hD hA9 hS
              refine va_callv (va_runV (As := [.int y37.2, .int (15 : Int32), va_re ad26 (M.2 b2 9), .int y39.2]) (rest := []) ⟨hx, hb, hml, hown, hts⟩ (kX10_levels l D ct ad26 Z (xt G s22.1) y39.1 _ b40 y37.2 ((15 : Int32)) ((M.2 b2 9)) y39.2 y41 hc40 hk40 hy41) (cwV 4 hts gX0_writeLevels_X10_levels rfl rfl rfl (by decide +kernel) ⟨Nat.le_of_ble_eq_true rfl, Nat.le_of_ble_eq_true rfl⟩) ⟨fun a U g mk q => by obtain ⟨q0, q1, qP, qK, qD, qZ, qN⟩ := q; exact ⟨q0, q1, qP, va_K.moved (u := U) (U := U.calling g mk a) (Vm.Alike.refl U.vm) qK, qD, sF.moved (u := U) (U := U.calling g mk a) (Vm.Alike.refl U.vm) qZ, nF.same rfl qN⟩, va_recv hK hP (ci := 10) (q0 := b40) rfl (wld_o ct ad26 (xt G s22.1) y39.1 hc40 hk40 (by decide)), fun U hU hW => ⟨rfl, by rw [hU], by rw [hU]; exact hP, va_K.moved hW.alike hK, hD.weaken (fun _ _ _ _ => trivial), by rw [hU]; exact ((hZ.kept hS.2.1).narrow hf9).moved hW.alike, hN.warm hW⟩⟩ rfl rfl hl.1 rfl (lv_room (Nat.le_of_ble_eq_true rfl)) dX0_writeLevels_238 (room_s hT44 hbl)) hS (fun q _ h => hf9 q h) hf9 (fun ad45 t H locs ht hvm hw hB hz1 hk1 hS => ?_)
              have hn46 := hw
              obtain ⟨hP, hK9, hD9⟩ := hB
              rw [ht] at hP
              have hD := hD9.weaken (fun _ q _ h => hf9 q.1 h)
              rw [xt_xt, ← eL44] at hP hD
              refine W_cs (k := L44.length) (n := wt L44) (by rw [eL44]; exact (len_s s22.1 y41.1).symm) (by rw [eL44]; exact (wt_app s22.1 y41.1).symm) ?_
              have hT : L29 = L44 ++ w43.1 := by rw [hT44, eL44]
              have h2 : z28.2 = w43.2 := by rw [h2, ew43]
              have hl := lv_sub (l' := [(5, .int s22.2.1), (3, va_re ad26 (M.2 b2 9)), (2, .int x1), (0, .ref (ad26 a)), (1, .int p0)]) hl [0, 1, 2, 3, 4] rfl
              have e9 : ([(5, .int s22.2.1), (3, va_re ad26 (M.2 b2 9)), (2, .int x1), (0, .ref (ad26 a)), (1, .int p0)] : List (Nat × Value)) = [(5, .int s22.2.1), (3, va_re ad45 (M.2 b2 9)), (2, .int x1), (0, .ref (ad45 a)), (1, .int p0)] := (by first | rfl | simp only [agr_re hn46 hq42, hn46 a hc])
              rw [e9] at hl
              clear e9
              have hk : (xt G L44).2.1 a = 0 := by rw [eL44]; exact xt_k _ hc hk
              have hc : a < (xt G L44).1 := by rw [eL44]; exact xt_l _ hc
              have hk2 : (xt G L44).2.1 b2 = 9 := by rw [eL44]; exact xt_k _ hc2 hk2
              have hc2 : b2 < (xt G L44).1 := by rw [eL44]; exact xt_l _ hc2
              have hk4 : (xt G L44).2.1 b4 = 13 := by rw [eL44]; exact xt_k _ hc4 hk4
              have hc4 : b4 < (xt G L44).1 := by rw [eL44]; exact xt_l _ hc4
              have hk32 : (xt G L44).2.1 b32 = 9 := by rw [eL44]; exact xt_k _ hc32 hk32
              have hc32 : b32 < (xt G L44).1 := by rw [eL44]; exact xt_l _ hc32
              have hk34 : (xt G L44).2.1 b34 = 13 := by rw [eL44]; exact xt_k _ hc34 hk34
              have hc34 : b34 < (xt G L44).1 := by rw [eL44]; exact xt_l _ hc34
              have hk40 : (xt G L44).2.1 b40 = 10 := by rw [eL44]; exact xt_k _ hc40 hk40
              have hc40 : b40 < (xt G L44).1 := by rw [eL44]; exact xt_l _ hc40
              have hag := agr_t (xt_ge _ _) hag hn46
              obtain ⟨x47, ex47, hF⟩ := ltt_some hF
              refine lv_iinc (v := x47) (lv' := [(5, .int x47), (3, va_re ad45 (M.2 b2 9)), (2, .int x1), (0, .ref (ad45 a)), (1, .int p0)]) hx hb dX0_writeLevels_241 hl (k := 0) rfl (by rw [ex47]; rfl) (by decide) rfl (fun ls hl => ?_)
              refine lv_goto (tgt := 191) hx hb dX0_writeLevels_244 (by decide) ?_
              obtain rfl := Option.some.inj hF
              have e1 : L29 = L44 := by rw [hT]; exact List.append_nil _
              have e2 : z28.2 = .inl (L44, (x47, y41.2)) := h2
              rw [e2] at hwz28
              obtain ⟨r2, er2, hwz28⟩ := hwz28
              exact hwz28 ⟨u21 ++ z28.1, by show L44 = _; rw [← e1, eL29, eu21]; simp only [List.append_assoc]⟩ (by show L24 = L44 ++ r2; rw [eq21, er2, ← e1, eL29]; simp only [List.append_assoc]) _ hag _ _ _ hP hD hS (lv_sub hl [0, 1, 2, 3, 4] rfl)
        clear hF
        refine itrA_rule (fun (s17 : NN × Int32 × DD) (r49 : NN) => (∃ t, s17.1 = L14 ++ t) → L19 = s17.1 ++ r49 → ∀ (ad48 : Nat → Nat), agr G.1 ad ad48 → ∀ (H : Heap) (locs : List Loc) (ls : Array Slot), va_P D classes (wld ct ad48 (xt G s17.1) s17.2.2) H → va_D A (wld ct ad48 (xt G s17.1) s17.2.2) → va_S A s.heap H locs → lv_has ls 6 [(5, .int s17.2.1), (3, va_re ad48 (M.2 b2 9)), (2, .int x1), (0, .ref (ad48 a)), (1, .int p0)] → W p l e (headSpec wsX0_writeLevels ({ frames := 6, cells := y.1.length, slots := wt y.1, locals := 206 })).room s m ([.ref (ad a), .int p0] : List Value).toArray below meth c H locs (s17.1 : NN).length (wt s17.1) (MQ below (va_Qv (fun (u : Nat → Nat) => agr G.1 ad u) (fun u t => kE D ct u (xt G y.1) A y.2 t) A) ([.ref (ad a), .int p0] : List Value).toArray s y.1.length (wt y.1) A) (F0 m 142 ls [])) ?_ _ _ _ hy16 ⟨[], (List.append_nil _).symm⟩ eL19 _ hag _ _ _ hP hD hS (lv_sub hl [0, 1, 2, 3, 4] rfl)
        rintro s17 r49 ⟨z50, hF, ⟨t16, et16⟩, hwz50⟩ ⟨u16, eu16⟩ eq16 ad48 hag H locs ls hP hD hS hl
        try dsimp only at hF
        obtain ⟨L51, eL51⟩ : ∃ x, x = s17.1 ++ z50.1 := ⟨_, rfl⟩
        obtain ⟨w52, hw52⟩ : ∃ x, x = z50 := ⟨_, rfl⟩
        rw [← hw52] at hF
        have hbl : L51.length ≤ y.1.length ∧ wt L51 ≤ wt y.1 := room_d (show L19 = L51 ++ t16 by rw [eq16, et16, eL51]; simp only [List.append_assoc]) hbl19
        have hT : L51 = s17.1 ++ w52.1 := by rw [eL51, hw52]
        have h2 : z50.2 = w52.2 := by rw [hw52]
        have hk : (xt G s17.1).2.1 a = 0 := by rw [eu16]; exact xt_k _ hc hk
        have hc : a < (xt G s17.1).1 := by rw [eu16]; exact xt_l _ hc
        have hk2 : (xt G s17.1).2.1 b2 = 9 := by rw [eu16]; exact xt_k _ hc2 hk2
        have hc2 : b2 < (xt G s17.1).1 := by rw [eu16]; exact xt_l _ hc2
        have hk4 : (xt G s17.1).2.1 b4 = 13 := by rw [eu16]; exact xt_k _ hc4 hk4
        have hc4 : b4 < (xt G s17.1).1 := by rw [eu16]; exact xt_l _ hc4
        refine lv_iload hx hb dX0_writeLevels_142 (lv_at hl 0 rfl) ?_
        refine lv_iconst (v := (3 : Int32)) hx hb dX0_writeLevels_144 (by decide) ?_
        refine lv_icmp_ge (tgt := 187) hx hb dX0_writeLevels_145 (by decide) (fun c53 => ?_) (fun c53 => ?_)
        · rw [if_pos c53] at hF
          obtain rfl := Option.some.inj hF
          have e1 : L51 = s17.1 := by rw [hT]; exact List.append_nil _
          have e2 : z50.2 = .inr ((s17.2.1, s17.2.2)) := h2
          rw [e2] at hwz50
          obtain ⟨hw1, hw2⟩ := hwz50
          have e8 : L19 = s17.1 := by rw [eq16, hw2, ← eL51, e1]
          rw [e8] at K16
          try rw [← hw1] at K16
          exact K16 _ hag _ _ _ hP hD hS (lv_sub hl [1, 2, 3, 4] rfl)
        · rw [if_neg c53] at hF
          refine lv_aload_n hx hb dX0_writeLevels_148 rfl (lv_at hl 3 rfl) ?_
          refine va_get (D := D) (ci := 0) (v := va_re ad48 (s17.2.2.2 a 3)) (C := RX0) (T := TX0) (N := 21) hx hb hts (by decide +kernel) hown hK hP a (wld_o ct ad48 (xt G s17.1) s17.2.2 hc hk (by decide)) rfl 3 (by decide) (hts (.fieldLink RX0 36 "VideoSuite$Coder" "work" "LVideoSuite$Work;") (by decide +kernel)) (fun _ h9 => h9) rfl dX0_writeLevels_149 ?_
          obtain ⟨b54, ho54, hc54, hk54, hF⟩ := dr_some hF
          refine W_st (st' := [.ref (ad48 b54)]) (by rw [va_some ho54]) ?_
          refine va_get (D := D) (ci := 9) (v := va_re ad48 (s17.2.2.2 b54 6)) (C := RX9) (T := TX9) (N := 20) hx hb hts (by decide +kernel) hown hK hP b54 (wld_o ct ad48 (xt G s17.1) s17.2.2 hc54 hk54 (by decide)) rfl 6 (by decide) (hts (.fieldLink RX0 216 "VideoSuite$Work" "info" "[I") (by decide +kernel)) (fun _ h9 => h9) rfl dX0_writeLevels_152 ?_
          refine lv_iload_n hx hb dX0_writeLevels_155 rfl (lv_at hl 2 rfl) ?_
          refine lv_iconst (v := (4 : Int32)) hx hb dX0_writeLevels_156 (by decide) ?_
          refine lv_iadd hx hb dX0_writeLevels_157 ?_
          obtain ⟨x55, ex55, hF⟩ := ltt_some hF
          refine lv_topi (fun zx55 ezx55 => ?_)
          obtain rfl : x55 = zx55 := ex55.trans ezx55.symm
          obtain ⟨b56, ho56, hc56, hk56, hF⟩ := dr_some hF
          refine W_st (st' := [.int x55, .ref (ad48 b56)]) (by rw [va_some ho56]) ?_
          obtain ⟨hvc, hF⟩ := chk_some hF
          refine va_iald hx hb hK hP b56 1 (wld_i ct ad48 (xt G s17.1) s17.2.2 hc56 hk56) rfl hvc dX0_writeLevels_158 ?_
          obtain ⟨x57, ex57, hF⟩ := ltt_some hF
          refine lv_topi (fun zx57 ezx57 => ?_)
          obtain rfl : x57 = zx57 := ex57.trans ezx57.symm
          refine lv_if_le (tgt := 187) hx hb dX0_writeLevels_159 (by decide) (fun c58 => ?_) (fun c58 => ?_)
          · rw [if_pos c58] at hF
            obtain rfl := Option.some.inj hF
            have e1 : L51 = s17.1 := by rw [hT]; exact List.append_nil _
            have e2 : z50.2 = .inr ((s17.2.1, s17.2.2)) := h2
            rw [e2] at hwz50
            obtain ⟨hw1, hw2⟩ := hwz50
            have e8 : L19 = s17.1 := by rw [eq16, hw2, ← eL51, e1]
            rw [e8] at K16
            try rw [← hw1] at K16
            exact K16 _ hag _ _ _ hP hD hS (lv_sub hl [1, 2, 3, 4] rfl)
          · rw [if_neg c58] at hF
            refine lv_aload_n hx hb dX0_writeLevels_162 rfl (lv_at hl 3 rfl) ?_
            refine va_get (D := D) (ci := 0) (v := va_re ad48 (s17.2.2.2 a 2)) (C := RX0) (T := TX0) (N := 21) hx hb hts (by decide +kernel) hown hK hP a (wld_o ct ad48 (xt G s17.1) s17.2.2 hc hk (by decide)) rfl 2 (by decide) (hts (.fieldLink RX0 29 "VideoSuite$Coder" "writer" "LVideoSuite$Writer;") (by decide +kernel)) (fun _ h9 => h9) rfl dX0_writeLevels_163 ?_
            refine lv_iconst (v := (4 : Int32)) hx hb dX0_writeLevels_166 (by decide) ?_
            refine lv_iconst (v := (4 : Int32)) hx hb dX0_writeLevels_167 (by decide) ?_
            refine lv_aloadq_n hx hb dX0_writeLevels_168 rfl (lv_at hl 1 rfl) ?_
            refine lv_iload_n hx hb dX0_writeLevels_169 rfl (lv_at hl 4 rfl) ?_
            refine lv_bipush (v := (16 : Int32)) hx hb dX0_writeLevels_170 (by decide) ?_
            refine lv_iload hx hb dX0_writeLevels_172 (lv_at hl 0 rfl) ?_
            refine lv_iadd hx hb dX0_writeLevels_174 ?_
            obtain ⟨x59, ex59, hF⟩ := ltt_some hF
            refine lv_topi (fun zx59 ezx59 => ?_)
            obtain rfl : x59 = zx59 := ex59.trans ezx59.symm
            obtain ⟨y60, hy60, hF⟩ := bnd_some hF
            have hf9 := wA_in hD hA9 hS
            refine va_calli (va_runS (As := [.int p0, .int x59]) (rest := [va_re ad48 (M.2 b2 9), .int (4 : Int32), .int (4 : Int32), va_re ad48 (s17.2.2.2 a 2)]) ⟨hx, hb, hml, hown, hts⟩ (kX9_levelAt l D ct ad48 Z (xt G s17.1) s17.2.2 H.size p0 x59 y60 hy60) (va_cwS 2 hts gX0_writeLevels_X9_levelAt rfl rfl rfl (by decide +kernel) ⟨Nat.le_of_ble_eq_true rfl, Nat.le_of_ble_eq_true rfl⟩) ⟨fun a U g mk q => by obtain ⟨q0, q1, qP, qK, qD, qZ, qN⟩ := q; exact ⟨q0, q1, qP, va_K.moved (u := U) (U := U.calling g mk a) (Vm.Alike.refl U.vm) qK, qD, sF.moved (u := U) (U := U.calling g mk a) (Vm.Alike.refl U.vm) qZ, nF.same rfl qN⟩, fun U hU hW => ⟨rfl, by rw [hU], by rw [hU]; exact hP, va_K.moved hW.alike hK, hD.weaken (fun _ _ _ _ => trivial), by rw [hU]; exact ((hZ.kept hS.2.1).narrow hf9).moved hW.alike, hN.warm hW⟩⟩ rfl rfl hl.1 rfl (lv_room (by simp only [List.map, va_re_cat]; exact Nat.le_of_ble_eq_true rfl)) dX0_writeLevels_175 (room_d hT hbl)) hS (fun q _ h => hf9 q h) hf9 (fun r u t H locs ht hvm hw hB hz1 hk1 hS => ?_)
            obtain ⟨hP, hK9, hD9⟩ := hB
            rw [ht] at hP
            try dsimp only at hw
            subst hw
            refine W_cs (k := (s17.1 : NN).length) (n := wt s17.1) rfl rfl ?_
            have hD := hD9.weaken (fun _ q _ h => hf9 q.1 h)
            obtain ⟨b61, ho61, hc61, hk61, hF⟩ := dr_some hF
            refine W_st (st' := [.int y60.2, va_re ad48 (M.2 b2 9), .int (4 : Int32), .int (4 : Int32), .ref (ad48 b61)]) (by rw [va_some ho61]) ?_
            obtain ⟨hq63, hF⟩ := chk_some hF
            obtain ⟨y62, hy62, hF⟩ := bnd_some hF
            obtain ⟨w64, hF, ew64⟩ := app_some hF
            obtain ⟨L65, eL65, hF⟩ := ltt_some hF
            have hT65 : L51 = (s17.1 ++ y62.1) ++ w64.1 := by rw [hT, ew64]; simp only [List.append_assoc]
            have hf9 := wA_in hD hA9 hS
            refine va_callv (va_runV (As := [.int (4 : Int32), .int (4 : Int32), va_re ad48 (M.2 b2 9), .int y60.2]) (rest := []) ⟨hx, hb, hml, hown, hts⟩ (kX10_levels l D ct ad48 Z (xt G s17.1) y60.1 _ b61 ((4 : Int32)) ((4 : Int32)) ((M.2 b2 9)) y60.2 y62 hc61 hk61 hy62) (cwV 4 hts gX0_writeLevels_X10_levels rfl rfl rfl (by decide +kernel) ⟨Nat.le_of_ble_eq_true rfl, Nat.le_of_ble_eq_true rfl⟩) ⟨fun a U g mk q => by obtain ⟨q0, q1, qP, qK, qD, qZ, qN⟩ := q; exact ⟨q0, q1, qP, va_K.moved (u := U) (U := U.calling g mk a) (Vm.Alike.refl U.vm) qK, qD, sF.moved (u := U) (U := U.calling g mk a) (Vm.Alike.refl U.vm) qZ, nF.same rfl qN⟩, va_recv hK hP (ci := 10) (q0 := b61) rfl (wld_o ct ad48 (xt G s17.1) y60.1 hc61 hk61 (by decide)), fun U hU hW => ⟨rfl, by rw [hU], by rw [hU]; exact hP, va_K.moved hW.alike hK, hD.weaken (fun _ _ _ _ => trivial), by rw [hU]; exact ((hZ.kept hS.2.1).narrow hf9).moved hW.alike, hN.warm hW⟩⟩ rfl rfl hl.1 rfl (lv_room (Nat.le_of_ble_eq_true rfl)) dX0_writeLevels_178 (room_s hT65 hbl)) hS (fun q _ h => hf9 q h) hf9 (fun ad66 t H locs ht hvm hw hB hz1 hk1 hS => ?_)
            have hn67 := hw
            obtain ⟨hP, hK9, hD9⟩ := hB
            rw [ht] at hP
            have hD := hD9.weaken (fun _ q _ h => hf9 q.1 h)
            rw [xt_xt, ← eL65] at hP hD
            refine W_cs (k := L65.length) (n := wt L65) (by rw [eL65]; exact (len_s s17.1 y62.1).symm) (by rw [eL65]; exact (wt_app s17.1 y62.1).symm) ?_
            have hT : L51 = L65 ++ w64.1 := by rw [hT65, eL65]
            have h2 : z50.2 = w64.2 := by rw [h2, ew64]
            have hl := lv_sub (l' := [(5, .int s17.2.1), (3, va_re ad48 (M.2 b2 9)), (2, .int x1), (0, .ref (ad48 a)), (1, .int p0)]) hl [0, 1, 2, 3, 4] rfl
            have e9 : ([(5, .int s17.2.1), (3, va_re ad48 (M.2 b2 9)), (2, .int x1), (0, .ref (ad48 a)), (1, .int p0)] : List (Nat × Value)) = [(5, .int s17.2.1), (3, va_re ad66 (M.2 b2 9)), (2, .int x1), (0, .ref (ad66 a)), (1, .int p0)] := (by first | rfl | simp only [agr_re hn67 hq63, hn67 a hc])
            rw [e9] at hl
            clear e9
            have hk : (xt G L65).2.1 a = 0 := by rw [eL65]; exact xt_k _ hc hk
            have hc : a < (xt G L65).1 := by rw [eL65]; exact xt_l _ hc
            have hk2 : (xt G L65).2.1 b2 = 9 := by rw [eL65]; exact xt_k _ hc2 hk2
            have hc2 : b2 < (xt G L65).1 := by rw [eL65]; exact xt_l _ hc2
            have hk4 : (xt G L65).2.1 b4 = 13 := by rw [eL65]; exact xt_k _ hc4 hk4
            have hc4 : b4 < (xt G L65).1 := by rw [eL65]; exact xt_l _ hc4
            have hk54 : (xt G L65).2.1 b54 = 9 := by rw [eL65]; exact xt_k _ hc54 hk54
            have hc54 : b54 < (xt G L65).1 := by rw [eL65]; exact xt_l _ hc54
            have hk56 : (xt G L65).2.1 b56 = 13 := by rw [eL65]; exact xt_k _ hc56 hk56
            have hc56 : b56 < (xt G L65).1 := by rw [eL65]; exact xt_l _ hc56
            have hk61 : (xt G L65).2.1 b61 = 10 := by rw [eL65]; exact xt_k _ hc61 hk61
            have hc61 : b61 < (xt G L65).1 := by rw [eL65]; exact xt_l _ hc61
            have hag := agr_t (xt_ge _ _) hag hn67
            obtain ⟨x68, ex68, hF⟩ := ltt_some hF
            refine lv_iinc (v := x68) (lv' := [(5, .int x68), (3, va_re ad66 (M.2 b2 9)), (2, .int x1), (0, .ref (ad66 a)), (1, .int p0)]) hx hb dX0_writeLevels_181 hl (k := 0) rfl (by rw [ex68]; rfl) (by decide) rfl (fun ls hl => ?_)
            refine lv_goto (tgt := 142) hx hb dX0_writeLevels_184 (by decide) ?_
            obtain rfl := Option.some.inj hF
            have e1 : L51 = L65 := by rw [hT]; exact List.append_nil _
            have e2 : z50.2 = .inl (L65, (x68, y62.2)) := h2
            rw [e2] at hwz50
            obtain ⟨r2, er2, hwz50⟩ := hwz50
            exact hwz50 ⟨u16 ++ z50.1, by show L65 = _; rw [← e1, eL51, eu16]; simp only [List.append_assoc]⟩ (by show L19 = L65 ++ r2; rw [eq16, er2, ← e1, eL51]; simp only [List.append_assoc]) _ hag _ _ _ hP hD hS (lv_sub hl [0, 1, 2, 3, 4] rfl)
      clear hF
      refine itrA_rule (fun (s12 : NN × Int32 × DD) (r70 : NN) => (∃ t, s12.1 = L9 ++ t) → L14 = s12.1 ++ r70 → ∀ (ad69 : Nat → Nat), agr G.1 ad ad69 → ∀ (H : Heap) (locs : List Loc) (ls : Array Slot), va_P D classes (wld ct ad69 (xt G s12.1) s12.2.2) H → va_D A (wld ct ad69 (xt G s12.1) s12.2.2) → va_S A s.heap H locs → lv_has ls 6 [(5, .int s12.2.1), (4, .int y6), (3, va_re ad69 (M.2 b2 9)), (2, .int x1), (0, .ref (ad69 a)), (1, .int p0)] → W p l e (headSpec wsX0_writeLevels ({ frames := 6, cells := y.1.length, slots := wt y.1, locals := 206 })).room s m ([.ref (ad a), .int p0] : List Value).toArray below meth c H locs (s12.1 : NN).length (wt s12.1) (MQ below (va_Qv (fun (u : Nat → Nat) => agr G.1 ad u) (fun u t => kE D ct u (xt G y.1) A y.2 t) A) ([.ref (ad a), .int p0] : List Value).toArray s y.1.length (wt y.1) A) (F0 m 68 ls [])) ?_ _ _ _ hy11 ⟨[], (List.append_nil _).symm⟩ eL14 _ hag _ _ _ hP hD hS (lv_sub hl [0, 1, 2, 3, 4, 5] rfl)
      rintro s12 r70 ⟨z71, hF, ⟨t11, et11⟩, hwz71⟩ ⟨u11, eu11⟩ eq11 ad69 hag H locs ls hP hD hS hl
      try dsimp only at hF
      obtain ⟨L72, eL72⟩ : ∃ x, x = s12.1 ++ z71.1 := ⟨_, rfl⟩
      obtain ⟨w73, hw73⟩ : ∃ x, x = z71 := ⟨_, rfl⟩
      rw [← hw73] at hF
      have hbl : L72.length ≤ y.1.length ∧ wt L72 ≤ wt y.1 := room_d (show L14 = L72 ++ t11 by rw [eq11, et11, eL72]; simp only [List.append_assoc]) hbl14
      have hT : L72 = s12.1 ++ w73.1 := by rw [eL72, hw73]
      have h2 : z71.2 = w73.2 := by rw [hw73]
      have hk : (xt G s12.1).2.1 a = 0 := by rw [eu11]; exact xt_k _ hc hk
      have hc : a < (xt G s12.1).1 := by rw [eu11]; exact xt_l _ hc
      have hk2 : (xt G s12.1).2.1 b2 = 9 := by rw [eu11]; exact xt_k _ hc2 hk2
      have hc2 : b2 < (xt G s12.1).1 := by rw [eu11]; exact xt_l _ hc2
      have hk4 : (xt G s12.1).2.1 b4 = 13 := by rw [eu11]; exact xt_k _ hc4 hk4
      have hc4 : b4 < (xt G s12.1).1 := by rw [eu11]; exact xt_l _ hc4
      refine lv_iload hx hb dX0_writeLevels_68 (lv_at hl 0 rfl) ?_
      refine lv_bipush (v := (16 : Int32)) hx hb dX0_writeLevels_70 (by decide) ?_
      refine lv_icmp_ge (tgt := 139) hx hb dX0_writeLevels_72 (by decide) (fun c74 => ?_) (fun c74 => ?_)
      · rw [if_pos c74] at hF
        obtain rfl := Option.some.inj hF
        have e1 : L72 = s12.1 := by rw [hT]; exact List.append_nil _
        have e2 : z71.2 = .inr ((s12.2.1, s12.2.2)) := h2
        rw [e2] at hwz71
        obtain ⟨hw1, hw2⟩ := hwz71
        have e8 : L14 = s12.1 := by rw [eq11, hw2, ← eL72, e1]
        rw [e8] at K11
        try rw [← hw1] at K11
        exact K11 _ hag _ _ _ hP hD hS (lv_sub hl [2, 3, 4, 5] rfl)
      · rw [if_neg c74] at hF
        refine lv_aload_n hx hb dX0_writeLevels_75 rfl (lv_at hl 4 rfl) ?_
        refine va_get (D := D) (ci := 0) (v := va_re ad69 (s12.2.2.2 a 3)) (C := RX0) (T := TX0) (N := 21) hx hb hts (by decide +kernel) hown hK hP a (wld_o ct ad69 (xt G s12.1) s12.2.2 hc hk (by decide)) rfl 3 (by decide) (hts (.fieldLink RX0 36 "VideoSuite$Coder" "work" "LVideoSuite$Work;") (by decide +kernel)) (fun _ h9 => h9) rfl dX0_writeLevels_76 ?_
        obtain ⟨b75, ho75, hc75, hk75, hF⟩ := dr_some hF
        refine W_st (st' := [.ref (ad69 b75)]) (by rw [va_some ho75]) ?_
        refine va_get (D := D) (ci := 9) (v := va_re ad69 (s12.2.2.2 b75 6)) (C := RX9) (T := TX9) (N := 20) hx hb hts (by decide +kernel) hown hK hP b75 (wld_o ct ad69 (xt G s12.1) s12.2.2 hc75 hk75 (by decide)) rfl 6 (by decide) (hts (.fieldLink RX0 216 "VideoSuite$Work" "info" "[I") (by decide +kernel)) (fun _ h9 => h9) rfl dX0_writeLevels_79 ?_
        refine lv_iload_n hx hb dX0_writeLevels_82 rfl (lv_at hl 3 rfl) ?_
        refine lv_iconst (v := (3 : Int32)) hx hb dX0_writeLevels_83 (by decide) ?_
        refine lv_iadd hx hb dX0_writeLevels_84 ?_
        obtain ⟨x76, ex76, hF⟩ := ltt_some hF
        refine lv_topi (fun zx76 ezx76 => ?_)
        obtain rfl : x76 = zx76 := ex76.trans ezx76.symm
        obtain ⟨b77, ho77, hc77, hk77, hF⟩ := dr_some hF
        refine W_st (st' := [.int x76, .ref (ad69 b77)]) (by rw [va_some ho77]) ?_
        obtain ⟨hvc, hF⟩ := chk_some hF
        refine va_iald hx hb hK hP b77 1 (wld_i ct ad69 (xt G s12.1) s12.2.2 hc77 hk77) rfl hvc dX0_writeLevels_85 ?_
        obtain ⟨x78, ex78, hF⟩ := ltt_some hF
        refine lv_topi (fun zx78 ezx78 => ?_)
        obtain rfl : x78 = zx78 := ex78.trans ezx78.symm
        refine lv_iload hx hb dX0_writeLevels_86 (lv_at hl 0 rfl) ?_
        refine lv_iconst (v := (4 : Int32)) hx hb dX0_writeLevels_88 (by decide) ?_
        refine lv_idiv hx hb dX0_writeLevels_89 (by decide) ?_
        obtain ⟨x79, ex79, hF⟩ := ltt_some hF
        refine lv_topi (fun zx79 ezx79 => ?_)
        obtain rfl : x79 = zx79 := ex79.trans ezx79.symm
        refine lv_ishr hx hb dX0_writeLevels_90 ?_
        obtain ⟨x80, ex80, hF⟩ := ltt_some hF
        refine lv_topi (fun zx80 ezx80 => ?_)
        obtain rfl : x80 = zx80 := ex80.trans ezx80.symm
        refine lv_iconst (v := (1 : Int32)) hx hb dX0_writeLevels_91 (by decide) ?_
        refine lv_iand hx hb dX0_writeLevels_92 ?_
        obtain ⟨x81, ex81, hF⟩ := ltt_some hF
        refine lv_topi (fun zx81 ezx81 => ?_)
        obtain rfl : x81 = zx81 := ex81.trans ezx81.symm
        refine lv_iconst (v := (1 : Int32)) hx hb dX0_writeLevels_93 (by decide) ?_
        obtain ⟨y82, hy82, hF⟩ := bnd_some hF
        obtain ⟨w83, hF, ew83⟩ := app_some hF
        obtain ⟨L84, eL84, hF⟩ := ltt_some hF
        have hT84 : L72 = (s12.1 ++ y82.1) ++ w83.1 := by rw [hT, ew83]; simp only [List.append_assoc]
        have hbl84 : L84.length ≤ y.1.length ∧ wt L84 ≤ wt y.1 := by rw [eL84]; exact room_d hT84 hbl
        have J82 : ∀ (ad85 : Nat → Nat), agr G.1 ad ad85 → ∀ (H : Heap) (locs : List Loc) (ls : Array Slot), va_P D classes (wld ct ad85 (xt G L84) y82.2) H → va_D A (wld ct ad85 (xt G L84) y82.2) → va_S A s.heap H locs → lv_has ls 6 [(5, .int s12.2.1), (4, .int y6), (3, va_re ad85 (M.2 b2 9)), (2, .int x1), (0, .ref (ad85 a)), (1, .int p0)] → W p l e (headSpec wsX0_writeLevels ({ frames := 6, cells := y.1.length, slots := wt y.1, locals := 206 })).room s m ([.ref (ad a), .int p0] : List Value).toArray below meth c H locs (L84 : NN).length (wt L84) (MQ below (va_Qv (fun (u : Nat → Nat) => agr G.1 ad u) (fun u t => kE D ct u (xt G y.1) A y.2 t) A) ([.ref (ad a), .int p0] : List Value).toArray s y.1.length (wt y.1) A) (F0 m 133 ls []) := by
          intro ad85 hag H locs ls hP hD hS hl
          have hT : L72 = L84 ++ w83.1 := by rw [hT84, eL84]
          have h2 : z71.2 = w83.2 := by rw [h2, ew83]
          have hk : (xt G L84).2.1 a = 0 := by rw [eL84]; exact xt_k _ hc hk
          have hc : a < (xt G L84).1 := by rw [eL84]; exact xt_l _ hc
          have hk2 : (xt G L84).2.1 b2 = 9 := by rw [eL84]; exact xt_k _ hc2 hk2
          have hc2 : b2 < (xt G L84).1 := by rw [eL84]; exact xt_l _ hc2
          have hk4 : (xt G L84).2.1 b4 = 13 := by rw [eL84]; exact xt_k _ hc4 hk4
          have hc4 : b4 < (xt G L84).1 := by rw [eL84]; exact xt_l _ hc4
          have hk75 : (xt G L84).2.1 b75 = 9 := by rw [eL84]; exact xt_k _ hc75 hk75
          have hc75 : b75 < (xt G L84).1 := by rw [eL84]; exact xt_l _ hc75
          have hk77 : (xt G L84).2.1 b77 = 13 := by rw [eL84]; exact xt_k _ hc77 hk77
          have hc77 : b77 < (xt G L84).1 := by rw [eL84]; exact xt_l _ hc77
          obtain ⟨x86, ex86, hF⟩ := ltt_some hF
          refine lv_iinc (v := x86) (lv' := [(5, .int x86), (4, .int y6), (3, va_re ad85 (M.2 b2 9)), (2, .int x1), (0, .ref (ad85 a)), (1, .int p0)]) hx hb dX0_writeLevels_133 hl (k := 0) rfl (by rw [ex86]; rfl) (by decide) rfl (fun ls hl => ?_)
          refine lv_goto (tgt := 68) hx hb dX0_writeLevels_136 (by decide) ?_
          obtain rfl := Option.some.inj hF
          have e1 : L72 = L84 := by rw [hT]; exact List.append_nil _
          have e2 : z71.2 = .inl (L84, (x86, y82.2)) := h2
          rw [e2] at hwz71
          obtain ⟨r2, er2, hwz71⟩ := hwz71
          exact hwz71 ⟨u11 ++ z71.1, by show L84 = _; rw [← e1, eL72, eu11]; simp only [List.append_assoc]⟩ (by show L14 = L84 ++ r2; rw [eq11, er2, ← e1, eL72]; simp only [List.append_assoc]) _ hag _ _ _ hP hD hS (lv_sub hl [0, 1, 2, 3, 4, 5] rfl)
        clear hF
        obtain ⟨w87, hw87⟩ : ∃ z, z = y82 := ⟨_, rfl⟩
        have hF := hy82
        rw [← hw87] at hF
        clear hy82
        have hT : L84 = s12.1 ++ w87.1 := by rw [eL84, hw87]
        have h2 : y82.2 = w87.2 := by rw [hw87]
        have hbl := hbl84
        refine lv_icmp_ne (tgt := 133) hx hb dX0_writeLevels_94 (by decide) (fun c88 => ?_) (fun c88 => ?_)
        · rw [if_neg c88] at hF
          obtain rfl := Option.some.inj hF
          have e1 : L84 = s12.1 := by rw [hT]; exact List.append_nil _
          have e2 : y82.2 = s12.2.2 := h2
          rw [e1] at J82
          try rw [e2] at J82
          exact J82 _ hag _ _ _ hP hD hS (lv_sub hl [0, 1, 2, 3, 4, 5] rfl)
        · rw [if_pos c88] at hF
          refine lv_aload_n hx hb dX0_writeLevels_97 rfl (lv_at hl 4 rfl) ?_
          refine va_get (D := D) (ci := 0) (v := va_re ad69 (s12.2.2.2 a 2)) (C := RX0) (T := TX0) (N := 21) hx hb hts (by decide +kernel) hown hK hP a (wld_o ct ad69 (xt G s12.1) s12.2.2 hc hk (by decide)) rfl 2 (by decide) (hts (.fieldLink RX0 29 "VideoSuite$Coder" "writer" "LVideoSuite$Writer;") (by decide +kernel)) (fun _ h9 => h9) rfl dX0_writeLevels_98 ?_
          refine lv_aload_n hx hb dX0_writeLevels_101 rfl (lv_at hl 4 rfl) ?_
          refine va_get (D := D) (ci := 0) (v := va_re ad69 (s12.2.2.2 a 3)) (C := RX0) (T := TX0) (N := 21) hx hb hts (by decide +kernel) hown hK hP a (wld_o ct ad69 (xt G s12.1) s12.2.2 hc hk (by decide)) rfl 3 (by decide) (hts (.fieldLink RX0 36 "VideoSuite$Coder" "work" "LVideoSuite$Work;") (by decide +kernel)) (fun _ h9 => h9) rfl dX0_writeLevels_102 ?_
          refine lv_iload_n hx hb dX0_writeLevels_105 rfl (lv_at hl 5 rfl) ?_
          refine lv_iload hx hb dX0_writeLevels_106 (lv_at hl 0 rfl) ?_
          refine W_st (st' := [.int s12.2.1, .int p0, .ref (ad69 b75), va_re ad69 (s12.2.2.2 a 2)]) (by rw [va_some ho75]) ?_
          obtain ⟨y89, hy89, hF⟩ := bnd_some hF
          have hf9 := wA_in hD hA9 hS
          refine va_calli (va_runV (As := [.int p0, .int s12.2.1]) (rest := [va_re ad69 (s12.2.2.2 a 2)]) ⟨hx, hb, hml, hown, hts⟩ (kX9_tokenTable l D ct ad69 Z (xt G s12.1) s12.2.2 H.size b75 p0 s12.2.1 y89 hc75 hk75 hy89) (cwV 2 hts gX0_writeLevels_X9_tokenTable rfl rfl rfl (by decide +kernel) ⟨Nat.le_of_ble_eq_true rfl, Nat.le_of_ble_eq_true rfl⟩) ⟨fun a U g mk q => by obtain ⟨q0, q1, qP, qK, qD, qZ, qN⟩ := q; exact ⟨q0, q1, qP, va_K.moved (u := U) (U := U.calling g mk a) (Vm.Alike.refl U.vm) qK, qD, sF.moved (u := U) (U := U.calling g mk a) (Vm.Alike.refl U.vm) qZ, nF.same rfl qN⟩, va_recv hK hP (ci := 9) (q0 := b75) rfl (wld_o ct ad69 (xt G s12.1) s12.2.2 hc75 hk75 (by decide)), fun U hU hW => ⟨rfl, by rw [hU], by rw [hU]; exact hP, va_K.moved hW.alike hK, hD.weaken (fun _ _ _ _ => trivial), by rw [hU]; exact ((hZ.kept hS.2.1).narrow hf9).moved hW.alike, hN.warm hW⟩⟩ rfl rfl hl.1 rfl (lv_room (by simp only [List.map, va_re_cat]; exact Nat.le_of_ble_eq_true rfl)) dX0_writeLevels_108 (room_d hT hbl)) hS (fun q _ h => hf9 q h) hf9 (fun r u t H locs ht hvm hw hB hz1 hk1 hS => ?_)
          obtain ⟨hP, hK9, hD9⟩ := hB
          rw [ht] at hP
          try dsimp only at hw
          subst hw
          refine W_cs (k := (s12.1 : NN).length) (n := wt s12.1) rfl rfl ?_
          have hD := hD9.weaken (fun _ q _ h => hf9 q.1 h)
          refine lv_iload hx hb dX0_writeLevels_111 (lv_at hl 1 rfl) ?_
          obtain ⟨y90, hy90, hF⟩ := bnd_some hF
          have J90 : ∀ (H : Heap) (locs : List Loc) (ls : Array Slot), va_P D classes (wld ct ad69 (xt G s12.1) y89.1) H → va_D A (wld ct ad69 (xt G s12.1) y89.1) → va_S A s.heap H locs → lv_has ls 6 [(5, .int s12.2.1), (4, .int y6), (3, va_re ad69 (M.2 b2 9)), (2, .int x1), (0, .ref (ad69 a)), (1, .int p0)] → W p l e (headSpec wsX0_writeLevels ({ frames := 6, cells := y.1.length, slots := wt y.1, locals := 206 })).room s m ([.ref (ad a), .int p0] : List Value).toArray below meth c H locs (s12.1 : NN).length (wt s12.1) (MQ below (va_Qv (fun (u : Nat → Nat) => agr G.1 ad u) (fun u t => kE D ct u (xt G y.1) A y.2 t) A) ([.ref (ad a), .int p0] : List Value).toArray s y.1.length (wt y.1) A) (F0 m 123 ls [.int y90, .int y89.2, va_re ad69 (s12.2.2.2 a 2)]) := by
            intro H locs ls hP hD hS hl
            refine lv_aloadq_n hx hb dX0_writeLevels_123 rfl (lv_at hl 2 rfl) ?_
            refine lv_iload_n hx hb dX0_writeLevels_124 rfl (lv_at hl 5 rfl) ?_
            refine lv_iload hx hb dX0_writeLevels_125 (lv_at hl 0 rfl) ?_
            obtain ⟨y91, hy91, hF⟩ := bnd_some hF
            have hf9 := wA_in hD hA9 hS
            refine va_calli (va_runS (As := [.int p0, .int s12.2.1]) (rest := [va_re ad69 (M.2 b2 9), .int y90, .int y89.2, va_re ad69 (s12.2.2.2 a 2)]) ⟨hx, hb, hml, hown, hts⟩ (kX9_levelAt l D ct ad69 Z (xt G s12.1) y89.1 H.size p0 s12.2.1 y91 hy91) (va_cwS 2 hts gX0_writeLevels_X9_levelAt rfl rfl rfl (by decide +kernel) ⟨Nat.le_of_ble_eq_true rfl, Nat.le_of_ble_eq_true rfl⟩) ⟨fun a U g mk q => by obtain ⟨q0, q1, qP, qK, qD, qZ, qN⟩ := q; exact ⟨q0, q1, qP, va_K.moved (u := U) (U := U.calling g mk a) (Vm.Alike.refl U.vm) qK, qD, sF.moved (u := U) (U := U.calling g mk a) (Vm.Alike.refl U.vm) qZ, nF.same rfl qN⟩, fun U hU hW => ⟨rfl, by rw [hU], by rw [hU]; exact hP, va_K.moved hW.alike hK, hD.weaken (fun _ _ _ _ => trivial), by rw [hU]; exact ((hZ.kept hS.2.1).narrow hf9).moved hW.alike, hN.warm hW⟩⟩ rfl rfl hl.1 rfl (lv_room (by simp only [List.map, va_re_cat]; exact Nat.le_of_ble_eq_true rfl)) dX0_writeLevels_127 (room_d hT hbl)) hS (fun q _ h => hf9 q h) hf9 (fun r u t H locs ht hvm hw hB hz1 hk1 hS => ?_)
            obtain ⟨hP, hK9, hD9⟩ := hB
            rw [ht] at hP
            try dsimp only at hw
            subst hw
            refine W_cs (k := (s12.1 : NN).length) (n := wt s12.1) rfl rfl ?_
            have hD := hD9.weaken (fun _ q _ h => hf9 q.1 h)
            obtain ⟨b92, ho92, hc92, hk92, hF⟩ := dr_some hF
            refine W_st (st' := [.int y91.2, va_re ad69 (M.2 b2 9), .int y90, .int y89.2, .ref (ad69 b92)]) (by rw [va_some ho92]) ?_
            obtain ⟨hq94, hF⟩ := chk_some hF
            obtain ⟨y93, hy93, hF⟩ := bnd_some hF
            obtain ⟨w95, hF, ew95⟩ := app_some hF
            obtain ⟨L96, eL96, hF⟩ := ltt_some hF
            have hT96 : L84 = (s12.1 ++ y93.1) ++ w95.1 := by rw [hT, ew95]; simp only [List.append_assoc]
            have hf9 := wA_in hD hA9 hS
            refine va_callv (va_runV (As := [.int y89.2, .int y90, va_re ad69 (M.2 b2 9), .int y91.2]) (rest := []) ⟨hx, hb, hml, hown, hts⟩ (kX10_levels l D ct ad69 Z (xt G s12.1) y91.1 _ b92 y89.2 y90 ((M.2 b2 9)) y91.2 y93 hc92 hk92 hy93) (cwV 4 hts gX0_writeLevels_X10_levels rfl rfl rfl (by decide +kernel) ⟨Nat.le_of_ble_eq_true rfl, Nat.le_of_ble_eq_true rfl⟩) ⟨fun a U g mk q => by obtain ⟨q0, q1, qP, qK, qD, qZ, qN⟩ := q; exact ⟨q0, q1, qP, va_K.moved (u := U) (U := U.calling g mk a) (Vm.Alike.refl U.vm) qK, qD, sF.moved (u := U) (U := U.calling g mk a) (Vm.Alike.refl U.vm) qZ, nF.same rfl qN⟩, va_recv hK hP (ci := 10) (q0 := b92) rfl (wld_o ct ad69 (xt G s12.1) y91.1 hc92 hk92 (by decide)), fun U hU hW => ⟨rfl, by rw [hU], by rw [hU]; exact hP, va_K.moved hW.alike hK, hD.weaken (fun _ _ _ _ => trivial), by rw [hU]; exact ((hZ.kept hS.2.1).narrow hf9).moved hW.alike, hN.warm hW⟩⟩ rfl rfl hl.1 rfl (lv_room (Nat.le_of_ble_eq_true rfl)) dX0_writeLevels_130 (room_s hT96 hbl)) hS (fun q _ h => hf9 q h) hf9 (fun ad97 t H locs ht hvm hw hB hz1 hk1 hS => ?_)
            have hn98 := hw
            obtain ⟨hP, hK9, hD9⟩ := hB
            rw [ht] at hP
            have hD := hD9.weaken (fun _ q _ h => hf9 q.1 h)
            rw [xt_xt, ← eL96] at hP hD
            refine W_cs (k := L96.length) (n := wt L96) (by rw [eL96]; exact (len_s s12.1 y93.1).symm) (by rw [eL96]; exact (wt_app s12.1 y93.1).symm) ?_
            have hT : L84 = L96 ++ w95.1 := by rw [hT96, eL96]
            have h2 : y82.2 = w95.2 := by rw [h2, ew95]
            have hl := lv_sub (l' := [(5, .int s12.2.1), (4, .int y6), (3, va_re ad69 (M.2 b2 9)), (2, .int x1), (0, .ref (ad69 a)), (1, .int p0)]) hl [0, 1, 2, 3, 4, 5] rfl
            have e9 : ([(5, .int s12.2.1), (4, .int y6), (3, va_re ad69 (M.2 b2 9)), (2, .int x1), (0, .ref (ad69 a)), (1, .int p0)] : List (Nat × Value)) = [(5, .int s12.2.1), (4, .int y6), (3, va_re ad97 (M.2 b2 9)), (2, .int x1), (0, .ref (ad97 a)), (1, .int p0)] := (by first | rfl | simp only [agr_re hn98 hq94, hn98 a hc])
            rw [e9] at hl
            clear e9
            have hk : (xt G L96).2.1 a = 0 := by rw [eL96]; exact xt_k _ hc hk
            have hc : a < (xt G L96).1 := by rw [eL96]; exact xt_l _ hc
            have hk2 : (xt G L96).2.1 b2 = 9 := by rw [eL96]; exact xt_k _ hc2 hk2
            have hc2 : b2 < (xt G L96).1 := by rw [eL96]; exact xt_l _ hc2
            have hk4 : (xt G L96).2.1 b4 = 13 := by rw [eL96]; exact xt_k _ hc4 hk4
            have hc4 : b4 < (xt G L96).1 := by rw [eL96]; exact xt_l _ hc4
            have hk75 : (xt G L96).2.1 b75 = 9 := by rw [eL96]; exact xt_k _ hc75 hk75
            have hc75 : b75 < (xt G L96).1 := by rw [eL96]; exact xt_l _ hc75
            have hk77 : (xt G L96).2.1 b77 = 13 := by rw [eL96]; exact xt_k _ hc77 hk77
            have hc77 : b77 < (xt G L96).1 := by rw [eL96]; exact xt_l _ hc77
            have hk92 : (xt G L96).2.1 b92 = 10 := by rw [eL96]; exact xt_k _ hc92 hk92
            have hc92 : b92 < (xt G L96).1 := by rw [eL96]; exact xt_l _ hc92
            have hag := agr_t (xt_ge _ _) hag hn98
            obtain rfl := Option.some.inj hF
            have e1 : L84 = L96 := by rw [hT]; exact List.append_nil _
            have e2 : y82.2 = y93.2 := h2
            rw [e1] at J82
            try rw [e2] at J82
            exact J82 _ hag _ _ _ hP hD hS (lv_sub hl [0, 1, 2, 3, 4, 5] rfl)
          clear hF
          have hF := hy90
          clear hy90
          refine lv_if_eq (tgt := 121) hx hb dX0_writeLevels_113 (by decide) (fun c99 => ?_) (fun c99 => ?_)
          · rw [if_pos c99] at hF
            refine lv_bipush (v := (16 : Int32)) hx hb dX0_writeLevels_121 (by decide) ?_
            obtain rfl := Option.some.inj hF
            exact J90 _ _ _ hP hD hS (lv_sub hl [0, 1, 2, 3, 4, 5] rfl)
          · rw [if_neg c99] at hF
            refine lv_bipush (v := (15 : Int32)) hx hb dX0_writeLevels_116 (by decide) ?_
            refine lv_goto (tgt := 123) hx hb dX0_writeLevels_118 (by decide) ?_
            obtain rfl := Option.some.inj hF
            exact J90 _ _ _ hP hD hS (lv_sub hl [0, 1, 2, 3, 4, 5] rfl)
    clear hF
    obtain ⟨w100, hw100⟩ : ∃ z, z = y7 := ⟨_, rfl⟩
    have hF := hy7
    rw [← hw100] at hF
    clear hy7
    have hT : L9 = [] ++ w100.1 := by rw [eL9, hw100]
    have h2 : y7.2 = w100.2 := by rw [hw100]
    have hbl := hbl9
    refine lv_if_eq (tgt := 65) hx hb dX0_writeLevels_37 (by decide) (fun c101 => ?_) (fun c101 => ?_)
    · rw [if_pos c101] at hF
      obtain rfl := Option.some.inj hF
      have e1 : L9 = [] := by rw [hT]; exact List.append_nil _
      have e2 : y7.2 = M := h2
      rw [e1] at J7
      try rw [e2] at J7
      exact J7 _ hag _ _ _ hP hD hS (lv_sub hl [0, 1, 2, 3, 4] rfl)
    · rw [if_neg c101] at hF
      refine lv_aload_n hx hb dX0_writeLevels_40 rfl (lv_at hl 3 rfl) ?_
      refine va_get (D := D) (ci := 0) (v := va_re ad (M.2 a 2)) (C := RX0) (T := TX0) (N := 21) hx hb hts (by decide +kernel) hown hK hP a (wld_o ct ad (xt G []) M hc hk (by decide)) rfl 2 (by decide) (hts (.fieldLink RX0 29 "VideoSuite$Coder" "writer" "LVideoSuite$Writer;") (by decide +kernel)) (fun _ h9 => h9) rfl dX0_writeLevels_41 ?_
      refine lv_aload_n hx hb dX0_writeLevels_44 rfl (lv_at hl 3 rfl) ?_
      refine va_get (D := D) (ci := 0) (v := va_re ad (M.2 a 3)) (C := RX0) (T := TX0) (N := 21) hx hb hts (by decide +kernel) hown hK hP a (wld_o ct ad (xt G []) M hc hk (by decide)) rfl 3 (by decide) (hts (.fieldLink RX0 36 "VideoSuite$Coder" "work" "LVideoSuite$Work;") (by decide +kernel)) (fun _ h9 => h9) rfl dX0_writeLevels_45 ?_
      refine lv_iload_n hx hb dX0_writeLevels_48 rfl (lv_at hl 4 rfl) ?_
      refine lv_iconst (v := (0 : Int32)) hx hb dX0_writeLevels_49 (by decide) ?_
      refine W_st (st' := [.int (0 : Int32), .int p0, .ref (ad b2), va_re ad (M.2 a 2)]) (by rw [va_some ho2]) ?_
      obtain ⟨y102, hy102, hF⟩ := bnd_some hF
      have hf9 := wA_in hD hA9 hS
      refine va_calli (va_runV (As := [.int p0, .int (0 : Int32)]) (rest := [va_re ad (M.2 a 2)]) ⟨hx, hb, hml, hown, hts⟩ (kX9_tokenTable l D ct ad Z (xt G []) M H.size b2 p0 ((0 : Int32)) y102 hc2 hk2 hy102) (cwV 2 hts gX0_writeLevels_X9_tokenTable rfl rfl rfl (by decide +kernel) ⟨Nat.le_of_ble_eq_true rfl, Nat.le_of_ble_eq_true rfl⟩) ⟨fun a U g mk q => by obtain ⟨q0, q1, qP, qK, qD, qZ, qN⟩ := q; exact ⟨q0, q1, qP, va_K.moved (u := U) (U := U.calling g mk a) (Vm.Alike.refl U.vm) qK, qD, sF.moved (u := U) (U := U.calling g mk a) (Vm.Alike.refl U.vm) qZ, nF.same rfl qN⟩, va_recv hK hP (ci := 9) (q0 := b2) rfl (wld_o ct ad (xt G []) M hc2 hk2 (by decide)), fun U hU hW => ⟨rfl, by rw [hU], by rw [hU]; exact hP, va_K.moved hW.alike hK, hD.weaken (fun _ _ _ _ => trivial), by rw [hU]; exact ((hZ.kept hS.2.1).narrow hf9).moved hW.alike, hN.warm hW⟩⟩ rfl rfl hl.1 rfl (lv_room (by simp only [List.map, va_re_cat]; exact Nat.le_of_ble_eq_true rfl)) dX0_writeLevels_50 (room_d hT hbl)) hS (fun q _ h => hf9 q h) hf9 (fun r u t H locs ht hvm hw hB hz1 hk1 hS => ?_)
      obtain ⟨hP, hK9, hD9⟩ := hB
      rw [ht] at hP
      try dsimp only at hw
      subst hw
      refine W_cs (k := ([] : NN).length) (n := wt []) rfl rfl ?_
      have hD := hD9.weaken (fun _ q _ h => hf9 q.1 h)
      refine lv_bipush (v := (16 : Int32)) hx hb dX0_writeLevels_53 (by decide) ?_
      refine lv_aloadq_n hx hb dX0_writeLevels_55 rfl (lv_at hl 1 rfl) ?_
      refine lv_iload_n hx hb dX0_writeLevels_56 rfl (lv_at hl 4 rfl) ?_
      refine lv_bipush (v := (16 : Int32)) hx hb dX0_writeLevels_57 (by decide) ?_
      obtain ⟨y103, hy103, hF⟩ := bnd_some hF
      have hf9 := wA_in hD hA9 hS
      refine va_calli (va_runS (As := [.int p0, .int (16 : Int32)]) (rest := [va_re ad (M.2 b2 9), .int (16 : Int32), .int y102.2, va_re ad (M.2 a 2)]) ⟨hx, hb, hml, hown, hts⟩ (kX9_levelAt l D ct ad Z (xt G []) y102.1 H.size p0 ((16 : Int32)) y103 hy103) (va_cwS 2 hts gX0_writeLevels_X9_levelAt rfl rfl rfl (by decide +kernel) ⟨Nat.le_of_ble_eq_true rfl, Nat.le_of_ble_eq_true rfl⟩) ⟨fun a U g mk q => by obtain ⟨q0, q1, qP, qK, qD, qZ, qN⟩ := q; exact ⟨q0, q1, qP, va_K.moved (u := U) (U := U.calling g mk a) (Vm.Alike.refl U.vm) qK, qD, sF.moved (u := U) (U := U.calling g mk a) (Vm.Alike.refl U.vm) qZ, nF.same rfl qN⟩, fun U hU hW => ⟨rfl, by rw [hU], by rw [hU]; exact hP, va_K.moved hW.alike hK, hD.weaken (fun _ _ _ _ => trivial), by rw [hU]; exact ((hZ.kept hS.2.1).narrow hf9).moved hW.alike, hN.warm hW⟩⟩ rfl rfl hl.1 rfl (lv_room (by simp only [List.map, va_re_cat]; exact Nat.le_of_ble_eq_true rfl)) dX0_writeLevels_59 (room_d hT hbl)) hS (fun q _ h => hf9 q h) hf9 (fun r u t H locs ht hvm hw hB hz1 hk1 hS => ?_)
      obtain ⟨hP, hK9, hD9⟩ := hB
      rw [ht] at hP
      try dsimp only at hw
      subst hw
      refine W_cs (k := ([] : NN).length) (n := wt []) rfl rfl ?_
      have hD := hD9.weaken (fun _ q _ h => hf9 q.1 h)
      obtain ⟨b104, ho104, hc104, hk104, hF⟩ := dr_some hF
      refine W_st (st' := [.int y103.2, va_re ad (M.2 b2 9), .int (16 : Int32), .int y102.2, .ref (ad b104)]) (by rw [va_some ho104]) ?_
      obtain ⟨hq106, hF⟩ := chk_some hF
      obtain ⟨y105, hy105, hF⟩ := bnd_some hF
      obtain ⟨w107, hF, ew107⟩ := app_some hF
      obtain ⟨L108, eL108, hF⟩ := ltt_some hF
      have hT108 : L9 = ([] ++ y105.1) ++ w107.1 := by rw [hT, ew107]; simp only [List.append_assoc]
      have hf9 := wA_in hD hA9 hS
      refine va_callv (va_runV (As := [.int y102.2, .int (16 : Int32), va_re ad (M.2 b2 9), .int y103.2]) (rest := []) ⟨hx, hb, hml, hown, hts⟩ (kX10_levels l D ct ad Z (xt G []) y103.1 _ b104 y102.2 ((16 : Int32)) ((M.2 b2 9)) y103.2 y105 hc104 hk104 hy105) (cwV 4 hts gX0_writeLevels_X10_levels rfl rfl rfl (by decide +kernel) ⟨Nat.le_of_ble_eq_true rfl, Nat.le_of_ble_eq_true rfl⟩) ⟨fun a U g mk q => by obtain ⟨q0, q1, qP, qK, qD, qZ, qN⟩ := q; exact ⟨q0, q1, qP, va_K.moved (u := U) (U := U.calling g mk a) (Vm.Alike.refl U.vm) qK, qD, sF.moved (u := U) (U := U.calling g mk a) (Vm.Alike.refl U.vm) qZ, nF.same rfl qN⟩, va_recv hK hP (ci := 10) (q0 := b104) rfl (wld_o ct ad (xt G []) y103.1 hc104 hk104 (by decide)), fun U hU hW => ⟨rfl, by rw [hU], by rw [hU]; exact hP, va_K.moved hW.alike hK, hD.weaken (fun _ _ _ _ => trivial), by rw [hU]; exact ((hZ.kept hS.2.1).narrow hf9).moved hW.alike, hN.warm hW⟩⟩ rfl rfl hl.1 rfl (lv_room (Nat.le_of_ble_eq_true rfl)) dX0_writeLevels_62 (room_s hT108 hbl)) hS (fun q _ h => hf9 q h) hf9 (fun ad109 t H locs ht hvm hw hB hz1 hk1 hS => ?_)
      have hn110 := hw
      obtain ⟨hP, hK9, hD9⟩ := hB
      rw [ht] at hP
      have hD := hD9.weaken (fun _ q _ h => hf9 q.1 h)
      rw [xt_xt, ← eL108] at hP hD
      refine W_cs (k := L108.length) (n := wt L108) (by rw [eL108]; exact (len_s [] y105.1).symm) (by rw [eL108]; exact (wt_app [] y105.1).symm) ?_
      have hT : L9 = L108 ++ w107.1 := by rw [hT108, eL108]
      have h2 : y7.2 = w107.2 := by rw [h2, ew107]
      have hl := lv_sub (l' := [(4, .int y6), (3, va_re ad (M.2 b2 9)), (2, .int x1), (0, .ref (ad a)), (1, .int p0)]) hl [0, 1, 2, 3, 4] rfl
      have e9 : ([(4, .int y6), (3, va_re ad (M.2 b2 9)), (2, .int x1), (0, .ref (ad a)), (1, .int p0)] : List (Nat × Value)) = [(4, .int y6), (3, va_re ad109 (M.2 b2 9)), (2, .int x1), (0, .ref (ad109 a)), (1, .int p0)] := (by first | rfl | simp only [agr_re hn110 hq106, hn110 a hc])
      rw [e9] at hl
      clear e9
      have hk : (xt G L108).2.1 a = 0 := by rw [eL108]; exact xt_k _ hc hk
      have hc : a < (xt G L108).1 := by rw [eL108]; exact xt_l _ hc
      have hk2 : (xt G L108).2.1 b2 = 9 := by rw [eL108]; exact xt_k _ hc2 hk2
      have hc2 : b2 < (xt G L108).1 := by rw [eL108]; exact xt_l _ hc2
      have hk4 : (xt G L108).2.1 b4 = 13 := by rw [eL108]; exact xt_k _ hc4 hk4
      have hc4 : b4 < (xt G L108).1 := by rw [eL108]; exact xt_l _ hc4
      have hk104 : (xt G L108).2.1 b104 = 10 := by rw [eL108]; exact xt_k _ hc104 hk104
      have hc104 : b104 < (xt G L108).1 := by rw [eL108]; exact xt_l _ hc104
      have hag := agr_t (xt_ge _ _) hag hn110
      obtain rfl := Option.some.inj hF
      have e1 : L9 = L108 := by rw [hT]; exact List.append_nil _
      have e2 : y7.2 = y105.2 := h2
      rw [e1] at J7
      try rw [e2] at J7
      exact J7 _ hag _ _ _ hP hD hS (lv_sub hl [0, 1, 2, 3, 4] rfl)
  clear hF
  have hF := hy6
  clear hy6
  refine lv_icmp_ne (tgt := 32) hx hb dX0_writeLevels_25 (by decide) (fun c111 => ?_) (fun c111 => ?_)
  · rw [if_neg c111] at hF
    refine lv_iconst (v := (0 : Int32)) hx hb dX0_writeLevels_32 (by decide) ?_
    obtain rfl := Option.some.inj hF
    exact J6 _ _ _ hP hD hS (lv_sub hl [0, 1, 2, 3] rfl)
  · rw [if_pos c111] at hF
    refine lv_iconst (v := (1 : Int32)) hx hb dX0_writeLevels_28 (by decide) ?_
    refine lv_goto (tgt := 33) hx hb dX0_writeLevels_29 (by decide) ?_
    obtain rfl := Option.some.inj hF
    exact J6 _ _ _ hP hD hS (lv_sub hl [0, 1, 2, 3] rfl)
