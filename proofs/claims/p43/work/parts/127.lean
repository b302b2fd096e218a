set_option maxRecDepth 20000 in
theorem gX7_accept_X3_isOwn : GoodIn wuX7_accept (wsV RX7 78 RX3 yX3_isOwn wuX3_isOwn) := gu_V mw_1004 mw_1005 mw_1006 mw_174 mw_1007
set_option maxRecDepth 20000 in
set_option maxRecDepth 20000 in
theorem gX7_accept_X7_leastRefs : GoodIn wuX7_accept (va_wsS RX7 168 yX7_leastRefs wuX7_leastRefs) := gu_S mw_1008 mw_1009 mw_170 mw_1010
set_option maxRecDepth 20000 in
set_option maxRecDepth 20000 in
theorem gX7_accept_X7_mark : GoodIn wuX7_accept (wsV RX7 172 RX7 yX7_mark wuX7_mark) := gu_V mw_1011 mw_1013 mw_8 mw_170 mw_1014
set_option maxRecDepth 20000 in
set_option maxRecDepth 20000 in
theorem gX7_accept_X7_sweep : GoodIn wuX7_accept (wsV RX7 176 RX7 yX7_sweep wuX7_sweep) := gu_V mw_1053 mw_1055 mw_17 mw_170 mw_1056
theorem dX7_accept_0 : decode cX7_accept 0 = .ok (.aload_n 2, 1) := by decide +kernel
theorem dX7_accept_1 : decode cX7_accept 1 = .ok (.getfield 73, 3) := by decide +kernel
theorem dX7_accept_4 : decode cX7_accept 4 = .ok (.astore 4, 2) := by decide +kernel
theorem dX7_accept_6 : decode cX7_accept 6 = .ok (.aload_n 2, 1) := by decide +kernel
theorem dX7_accept_7 : decode cX7_accept 7 = .ok (.invokevirtual 78, 3) := by decide +kernel
theorem dX7_accept_10 : decode cX7_accept 10 = .ok (.istore 5, 2) := by decide +kernel
theorem dX7_accept_12 : decode cX7_accept 12 = .ok (.aload 4, 2) := by decide +kernel
theorem dX7_accept_14 : decode cX7_accept 14 = .ok (.bipush 11, 2) := by decide +kernel
theorem dX7_accept_16 : decode cX7_accept 16 = .ok (.iaload, 1) := by decide +kernel
theorem dX7_accept_17 : decode cX7_accept 17 = .ok (.ifCond .eq 7, 3) := by decide +kernel
theorem dX7_accept_20 : decode cX7_accept 20 = .ok (.iconst 1, 1) := by decide +kernel
theorem dX7_accept_21 : decode cX7_accept 21 = .ok (.goto 4, 3) := by decide +kernel
theorem dX7_accept_24 : decode cX7_accept 24 = .ok (.iconst 0, 1) := by decide +kernel
theorem dX7_accept_25 : decode cX7_accept 25 = .ok (.istore 6, 2) := by decide +kernel
theorem dX7_accept_27 : decode cX7_accept 27 = .ok (.iconst 0, 1) := by decide +kernel
theorem dX7_accept_28 : decode cX7_accept 28 = .ok (.istore 7, 2) := by decide +kernel
theorem dX7_accept_30 : decode cX7_accept 30 = .ok (.iload 6, 2) := by decide +kernel
theorem dX7_accept_32 : decode cX7_accept 32 = .ok (.ifCond .eq 63, 3) := by decide +kernel
theorem dX7_accept_35 : decode cX7_accept 35 = .ok (.aload_n 0, 1) := by decide +kernel
theorem dX7_accept_36 : decode cX7_accept 36 = .ok (.aload_n 1, 1) := by decide +kernel
theorem dX7_accept_37 : decode cX7_accept 37 = .ok (.aload_n 2, 1) := by decide +kernel
theorem dX7_accept_38 : decode cX7_accept 38 = .ok (.iconst 1, 1) := by decide +kernel
theorem dX7_accept_39 : decode cX7_accept 39 = .ok (.aload_n 3, 1) := by decide +kernel
theorem dX7_accept_40 : decode cX7_accept 40 = .ok (.iconst 2, 1) := by decide +kernel
theorem dX7_accept_41 : decode cX7_accept 41 = .ok (.iaload, 1) := by decide +kernel
theorem dX7_accept_42 : decode cX7_accept 42 = .ok (.ishl, 1) := by decide +kernel
theorem dX7_accept_43 : decode cX7_accept 43 = .ok (.aload_n 3, 1) := by decide +kernel
theorem dX7_accept_44 : decode cX7_accept 44 = .ok (.invokestatic 168, 3) := by decide +kernel
theorem dX7_accept_47 : decode cX7_accept 47 = .ok (.invokevirtual 172, 3) := by decide +kernel
theorem dX7_accept_50 : decode cX7_accept 50 = .ok (.istore 7, 2) := by decide +kernel
theorem dX7_accept_52 : decode cX7_accept 52 = .ok (.aload_n 0, 1) := by decide +kernel
theorem dX7_accept_53 : decode cX7_accept 53 = .ok (.invokevirtual 176, 3) := by decide +kernel
theorem dX7_accept_56 : decode cX7_accept 56 = .ok (.aload_n 0, 1) := by decide +kernel
theorem dX7_accept_57 : decode cX7_accept 57 = .ok (.aload_n 1, 1) := by decide +kernel
theorem dX7_accept_58 : decode cX7_accept 58 = .ok (.putfield 43, 3) := by decide +kernel
theorem dX7_accept_61 : decode cX7_accept 61 = .ok (.aload_n 0, 1) := by decide +kernel
theorem dX7_accept_62 : decode cX7_accept 62 = .ok (.iload 7, 2) := by decide +kernel
theorem dX7_accept_64 : decode cX7_accept 64 = .ok (.ifCond .eq 7, 3) := by decide +kernel
theorem dX7_accept_67 : decode cX7_accept 67 = .ok (.iconst 0, 1) := by decide +kernel
theorem dX7_accept_68 : decode cX7_accept 68 = .ok (.goto 7, 3) := by decide +kernel
theorem dX7_accept_71 : decode cX7_accept 71 = .ok (.aload_n 0, 1) := by decide +kernel
theorem dX7_accept_72 : decode cX7_accept 72 = .ok (.getfield 82, 3) := by decide +kernel
theorem dX7_accept_75 : decode cX7_accept 75 = .ok (.putfield 46, 3) := by decide +kernel
theorem dX7_accept_78 : decode cX7_accept 78 = .ok (.aload_n 0, 1) := by decide +kernel
theorem dX7_accept_79 : decode cX7_accept 79 = .ok (.iload 7, 2) := by decide +kernel
theorem dX7_accept_81 : decode cX7_accept 81 = .ok (.ifCond .eq 7, 3) := by decide +kernel
theorem dX7_accept_84 : decode cX7_accept 84 = .ok (.iconst 0, 1) := by decide +kernel
theorem dX7_accept_85 : decode cX7_accept 85 = .ok (.goto 7, 3) := by decide +kernel
theorem dX7_accept_88 : decode cX7_accept 88 = .ok (.aload 4, 2) := by decide +kernel
theorem dX7_accept_90 : decode cX7_accept 90 = .ok (.iconst 5, 1) := by decide +kernel
theorem dX7_accept_91 : decode cX7_accept 91 = .ok (.iaload, 1) := by decide +kernel
theorem dX7_accept_92 : decode cX7_accept 92 = .ok (.putfield 49, 3) := by decide +kernel
theorem dX7_accept_95 : decode cX7_accept 95 = .ok (.iload 7, 2) := by decide +kernel
theorem dX7_accept_97 : decode cX7_accept 97 = .ok (.ifCond .eq 13, 3) := by decide +kernel
theorem dX7_accept_100 : decode cX7_accept 100 = .ok (.aload_n 1, 1) := by decide +kernel
theorem dX7_accept_101 : decode cX7_accept 101 = .ok (.iconst 0, 1) := by decide +kernel
theorem dX7_accept_102 : decode cX7_accept 102 = .ok (.putfield 126, 3) := by decide +kernel
theorem dX7_accept_105 : decode cX7_accept 105 = .ok (.aload_n 1, 1) := by decide +kernel
theorem dX7_accept_106 : decode cX7_accept 106 = .ok (.iconst 0, 1) := by decide +kernel
theorem dX7_accept_107 : decode cX7_accept 107 = .ok (.putfield 92, 3) := by decide +kernel
theorem dX7_accept_110 : decode cX7_accept 110 = .ok (.aload_n 0, 1) := by decide +kernel
theorem dX7_accept_111 : decode cX7_accept 111 = .ok (.aload_n 1, 1) := by decide +kernel
theorem dX7_accept_112 : decode cX7_accept 112 = .ok (.getfield 92, 3) := by decide +kernel
theorem dX7_accept_115 : decode cX7_accept 115 = .ok (.putfield 55, 3) := by decide +kernel
theorem dX7_accept_118 : decode cX7_accept 118 = .ok (.aload_n 0, 1) := by decide +kernel
theorem dX7_accept_119 : decode cX7_accept 119 = .ok (.iload 7, 2) := by decide +kernel
theorem dX7_accept_121 : decode cX7_accept 121 = .ok (.ifCond .eq 7, 3) := by decide +kernel
theorem dX7_accept_124 : decode cX7_accept 124 = .ok (.iconst 0, 1) := by decide +kernel
theorem dX7_accept_125 : decode cX7_accept 125 = .ok (.goto 7, 3) := by decide +kernel
theorem dX7_accept_128 : decode cX7_accept 128 = .ok (.aload_n 0, 1) := by decide +kernel
theorem dX7_accept_129 : decode cX7_accept 129 = .ok (.getfield 85, 3) := by decide +kernel
theorem dX7_accept_132 : decode cX7_accept 132 = .ok (.putfield 52, 3) := by decide +kernel
theorem dX7_accept_135 : decode cX7_accept 135 = .ok (.iload 5, 2) := by decide +kernel
theorem dX7_accept_137 : decode cX7_accept 137 = .ok (.ifCond .ne 8, 3) := by decide +kernel
theorem dX7_accept_140 : decode cX7_accept 140 = .ok (.iload 6, 2) := by decide +kernel
theorem dX7_accept_142 : decode cX7_accept 142 = .ok (.ifCond .eq 11, 3) := by decide +kernel
theorem dX7_accept_145 : decode cX7_accept 145 = .ok (.aload_n 0, 1) := by decide +kernel
theorem dX7_accept_146 : decode cX7_accept 146 = .ok (.aload_n 1, 1) := by decide +kernel
theorem dX7_accept_147 : decode cX7_accept 147 = .ok (.getfield 92, 3) := by decide +kernel
theorem dX7_accept_150 : decode cX7_accept 150 = .ok (.putfield 36, 3) := by decide +kernel
theorem dX7_accept_153 : decode cX7_accept 153 = .ok (.aload_n 0, 1) := by decide +kernel
theorem dX7_accept_154 : decode cX7_accept 154 = .ok (.aload_n 1, 1) := by decide +kernel
theorem dX7_accept_155 : decode cX7_accept 155 = .ok (.putfield 39, 3) := by decide +kernel
theorem dX7_accept_158 : decode cX7_accept 158 = .ok (.iload 7, 2) := by decide +kernel
theorem dX7_accept_160 : decode cX7_accept 160 = .ok (.ireturn, 1) := by decide +kernel
def FX7_accept (G : GG) (M : DD) (a : Nat) (p0 : Option Nat) (p1 : Option Nat) (p2 : Option Nat) : Option (DD × Int32) :=
  dr G 3 p1 fun b2 =>
  bnd (FX3_isOwn G M b2) fun y3 =>
  dr G 13 ((M.2 b2 0)) fun b4 =>
  chk (¬ (((11 : Int32)) < 0 ∨ G.2.2 b4 ≤ ((11 : Int32)).toNatClampNeg)) <|
  ltt (y3.1.1 b4 ((11 : Int32)).toNatClampNeg) fun x5 =>
  bnd (if x5 = ((0 : Int32)) then (some ((0 : Int32))) else
  (some ((1 : Int32)))) fun (y6 : Int32) =>
  bnd (if y6 = ((0 : Int32)) then (some ((0 : Int32), y3.1)) else
  (dr G 13 p2 fun b30 =>
  chk (¬ (((2 : Int32)) < 0 ∨ G.2.2 b30 ≤ ((2 : Int32)).toNatClampNeg)) <|
  ltt (y3.1.1 b30 ((2 : Int32)).toNatClampNeg) fun x31 =>
  ltt ((((1 : Int32)) <<< (x31 &&& 31))) fun x32 =>
  bnd (FX7_leastRefs G y3.1 p2) fun y33 =>
  bnd (FX7_mark G y33.1 a p0 p1 x32 y33.2) fun y34 =>
  bnd (FX7_sweep G y34.1 a) fun y35 =>
  ltt (uP y35 a 7 p0) fun M36 =>
  bnd (if y34.2 = ((0 : Int32)) then (ltt (M36.1 a 12) fun x44 =>
  some (x44)) else
  (some ((0 : Int32)))) fun (y37 : Int32) =>
  ltt (uI M36 a 8 y37) fun M38 =>
  bnd (if y34.2 = ((0 : Int32)) then (chk (¬ (((5 : Int32)) < 0 ∨ G.2.2 b4 ≤ ((5 : Int32)).toNatClampNeg)) <|
  ltt (M38.1 b4 ((5 : Int32)).toNatClampNeg) fun x42 =>
  some (x42)) else
  (some ((0 : Int32)))) fun (y39 : Int32) =>
  ltt (uI M38 a 9 y39) fun M40 =>
  some (y34.2, M40))) fun (y7 : Int32 × DD) =>
  bnd (if y7.1 = ((0 : Int32)) then (some (y7.2)) else
  (dr G 4 p0 fun b26 =>
  ltt (uI y7.2 b26 9 ((0 : Int32))) fun M27 =>
  ltt (uI M27 b26 8 ((0 : Int32))) fun M28 =>
  some (M28))) fun (y8 : DD) =>
  dr G 4 p0 fun b9 =>
  ltt (y8.1 b9 8) fun x10 =>
  ltt (uI y8 a 11 x10) fun M11 =>
  bnd (if y7.1 = ((0 : Int32)) then (ltt (M11.1 a 13) fun x24 =>
  some (x24)) else
  (some ((0 : Int32)))) fun (y12 : Int32) =>
  ltt (uI M11 a 10 y12) fun M13 =>
  bnd (if y3.2 = ((0 : Int32)) then (bnd (if y6 = ((0 : Int32)) then (some (M13)) else
  (ltt (M13.1 b9 8) fun x21 =>
  ltt (uI M13 a 5 x21) fun M22 =>
  some (M22))) fun (y19 : DD) =>
  some (y19)) else
  (ltt (M13.1 b9 8) fun x17 =>
  ltt (uI M13 a 5 x17) fun M18 =>
  some (M18))) fun (y14 : DD) =>
  ltt (uP y14 a 6 p0) fun M15 =>
  chk (y7.1 = 0 ∨ y7.1 = 1) <|
  some (M15, y7.1)
set_option maxHeartbeats 4000000 in
set_option maxRecDepth 100000 in
theorem kX7_accept (l : Launch) (D : va_G) (ct : CT) (ad : Nat → Nat) (Z : Nat → Nat) (G : GG) (M : DD) (sz : Nat) (a : Nat) (p0 : Option Nat) (p1 : Option Nat) (p2 : Option Nat) (y : DD × Int32) (hc : a < G.1) (hk : G.2.1 a = 7) (hF : FX7_accept G M a p0 p1 p2 = some y) : Met l yX7_accept wuX7_accept ({ frames := 4, cells := 0, slots := 0, locals := 98 }) (va_Pc [.ref (ad a), va_re ad p0, va_re ad p1, va_re ad p2] (kB D ct ad Z G M sz)) (va_Qi (fun (q : Int32) (_ : Unit) => q = y.2) (fun _ t => kE D ct ad G (wA ad G sz) y.1 t) (wA ad G sz)) 0 0 (wA ad G sz) := by
  refine Met.ofW (cc := cX7_accept) (maxL := 8) (ret := (some .boolean)) (by decide) rfl ?_
  intro p e s m args below meth c s₁ B hml hv
  obtain ⟨rfl, hsz, hP, hK, hD0, hZ, hN⟩ := hv
  have hx := B.exec
  have hb := B.bytes
  have hr := B.returns
  have hts := atoms_spec (ws := wuX7_accept) B.pre
  have hown : s.vm.findClass RX7 = some m.cls := findClass_of_methodNamed B.named
  have hlocks := B.notSynchronized
  subst hsz
  have hD := wD_self (sz := s.heap.size) hD0
  have hA9 : ∀ q, s.heap.size ≤ q → wA ad G s.heap.size q := fun q h => Or.inr h
  generalize hAe : wA ad G s.heap.size = A at hD hA9 hZ ⊢
  have hS : va_S A s.heap s.heap [] := va_S.rf
  have hl := lv_entry ([.ref (ad a), va_re ad p0, va_re ad p1, va_re ad p2]) (n := 8) (by cases p0 <;> cases p1 <;> cases p2 <;> exact Nat.le_of_ble_eq_true rfl)
  rw [lg_entry_eq]
  generalize (lg_sl ([.ref (ad a), va_re ad p0, va_re ad p1, va_re ad p2]) ++ List.replicate (8 - (lg_sl ([.ref (ad a), va_re ad p0, va_re ad p1, va_re ad p2])).length) Slot.unset).toArray = ls at hl ⊢
  have hl : lv_has ls 8 [(0, .ref (ad a)), (1, va_re ad p0), (2, va_re ad p1), (3, va_re ad p2)] := by have e9 : lv_args 0 [.ref (ad a), va_re ad p0, va_re ad p1, va_re ad p2] = [(0, .ref (ad a)), (1, va_re ad p0), (2, va_re ad p1), (3, va_re ad p2)] := (by cases p0 <;> cases p1 <;> cases p2 <;> rfl); rw [e9] at hl; exact hl
  unfold FX7_accept at hF
  refine lv_aloadq_n hx hb dX7_accept_0 rfl (lv_at hl 2 rfl) ?_
  obtain ⟨b2, ho2, hc2, hk2, hF⟩ := dr_some hF
  refine W_st (st' := [.ref (ad b2)]) (by rw [va_some ho2]) ?_
  refine va_get (D := D) (ci := 3) (v := va_re ad (M.2 b2 0)) (C := RX3) (T := TX3) (N := 4) hx hb hts (mus hf_X3) hown hK hP b2 (wld_o ct ad G M hc2 hk2 (by decide)) rfl 0 (by decide) (hts (.fieldLink RX7 73 "VideoSuite$Header" "v" "[I") (mu mw_616)) (fun _ h9 => h9) rfl dX7_accept_1 ?_
  refine lv_astoreq (lv' := [(4, va_re ad (M.2 b2 0)), (0, .ref (ad a)), (1, va_re ad p0), (2, va_re ad p1), (3, va_re ad p2)]) hx hb dX7_accept_4 hl (by decide) (by generalize p2 = o9; cases o9 <;> rfl) (fun ls hl => ?_)
  refine lv_aloadq_n hx hb dX7_accept_6 rfl (lv_at hl 3 rfl) ?_
  refine W_st (st' := [.ref (ad b2)]) (by rw [va_some ho2]) ?_
  obtain ⟨y3, hy3, hF⟩ := bnd_some hF
  have hf9 := wA_in hD hA9 hS
  refine va_calli (va_runV (As := []) (rest := []) ⟨hx, hb, hml, hown, hts⟩ (kX3_isOwn l D ct ad Z G M s.heap.size b2 y3 hc2 hk2 hy3) (cwV 0 hts gX7_accept_X3_isOwn rfl rfl rfl (by decide +kernel) ⟨Nat.le_of_ble_eq_true rfl, Nat.le_of_ble_eq_true rfl⟩) ⟨fun a U g mk q => by obtain ⟨q0, q1, qP, qK, qD, qZ, qN⟩ := q; exact ⟨q0, q1, qP, va_K.moved (u := U) (U := U.calling g mk a) (Vm.Alike.refl U.vm) qK, qD, sF.moved (u := U) (U := U.calling g mk a) (Vm.Alike.refl U.vm) qZ, nF.same rfl qN⟩, va_recv hK hP (ci := 3) (q0 := b2) rfl (wld_o ct ad G M hc2 hk2 (by decide)), fun U hU hW => ⟨rfl, by rw [hU], by rw [hU]; exact hP, va_K.moved hW.alike hK, hD.weaken (fun _ _ _ _ => trivial), by rw [hU]; exact ((hZ.kept hS.2.1).narrow hf9).moved hW.alike, hN.warm hW⟩⟩ rfl rfl hl.1 rfl (lv_room (Nat.le_of_ble_eq_true rfl)) dX7_accept_7 ⟨(Nat.zero_le _), (Nat.zero_le _)⟩) hS (fun q _ h => hf9 q h) hf9 (fun r u t H locs ht hvm hw hB hz1 hk1 hS => ?_)
  obtain ⟨hP, hK9, hD9⟩ := hB
  rw [ht] at hP
  try dsimp only at hw
  subst hw
  have hD := hD9.weaken (fun _ q _ h => hf9 q.1 h)
  refine lv_istore (lv' := [(5, .int y3.2), (4, va_re ad (M.2 b2 0)), (0, .ref (ad a)), (1, va_re ad p0), (2, va_re ad p1), (3, va_re ad p2)]) hx hb dX7_accept_10 hl (by decide) (by generalize ((M.2 b2 0)) = o9; cases o9 <;> rfl) (fun ls hl => ?_)
  refine lv_aloadq hx hb dX7_accept_12 (lv_at hl 1 rfl) ?_
  refine lv_bipush (v := (11 : Int32)) hx hb dX7_accept_14 (by decide) ?_
  obtain ⟨b4, ho4, hc4, hk4, hF⟩ := dr_some hF
  refine W_st (st' := [.int (11 : Int32), .ref (ad b4)]) (by rw [va_some ho4]) ?_
  obtain ⟨hvc, hF⟩ := chk_some hF
  refine va_iald hx hb hK hP b4 1 (wld_i ct ad G y3.1 hc4 hk4) rfl hvc dX7_accept_16 ?_
  obtain ⟨x5, ex5, hF⟩ := ltt_some hF
  refine lv_topi (fun zx5 ezx5 => ?_)
  obtain rfl : x5 = zx5 := ex5.trans ezx5.symm
  obtain ⟨y6, hy6, hF⟩ := bnd_some hF
  have J6 : ∀ (H : Heap) (locs : List Loc) (ls : Array Slot), va_P D classes (wld ct ad G y3.1) H → va_D A (wld ct ad G y3.1) → va_S A s.heap H locs → lv_has ls 8 [(5, .int y3.2), (4, va_re ad (M.2 b2 0)), (0, .ref (ad a)), (1, va_re ad p0), (2, va_re ad p1), (3, va_re ad p2)] → W p l e (headSpec wuX7_accept ({ frames := 4, cells := 0, slots := 0, locals := 98 })).room s m ([.ref (ad a), va_re ad p0, va_re ad p1, va_re ad p2] : List Value).toArray below meth c H locs 0 0 (MQ below (va_Qi (fun (q : Int32) (_ : Unit) => q = y.2) (fun _ t => kE D ct ad G A y.1 t) A) ([.ref (ad a), va_re ad p0, va_re ad p1, va_re ad p2] : List Value).toArray s 0 0 A) (F0 m 25 ls [.int y6]) := by
    intro H locs ls hP hD hS hl
    refine lv_istore (lv' := [(6, .int y6), (5, .int y3.2), (4, va_re ad (M.2 b2 0)), (0, .ref (ad a)), (1, va_re ad p0), (2, va_re ad p1), (3, va_re ad p2)]) hx hb dX7_accept_25 hl (by decide) rfl (fun ls hl => ?_)
    refine lv_iconst (v := (0 : Int32)) hx hb dX7_accept_27 (by decide) ?_
    refine lv_istore (lv' := [(7, .int (0 : Int32)), (6, .int y6), (5, .int y3.2), (4, va_re ad (M.2 b2 0)), (0, .ref (ad a)), (1, va_re ad p0), (2, va_re ad p1), (3, va_re ad p2)]) hx hb dX7_accept_28 hl (by decide) rfl (fun ls hl => ?_)
    refine lv_iload hx hb dX7_accept_30 (lv_at hl 1 rfl) ?_
    obtain ⟨y7, hy7, hF⟩ := bnd_some hF
    have J7 : ∀ (H : Heap) (locs : List Loc) (ls : Array Slot), va_P D classes (wld ct ad G y7.2) H → va_D A (wld ct ad G y7.2) → va_S A s.heap H locs → lv_has ls 8 [(7, .int y7.1), (6, .int y6), (5, .int y3.2), (4, va_re ad (M.2 b2 0)), (0, .ref (ad a)), (1, va_re ad p0), (2, va_re ad p1), (3, va_re ad p2)] → W p l e (headSpec wuX7_accept ({ frames := 4, cells := 0, slots := 0, locals := 98 })).room s m ([.ref (ad a), va_re ad p0, va_re ad p1, va_re ad p2] : List Value).toArray below meth c H locs 0 0 (MQ below (va_Qi (fun (q : Int32) (_ : Unit) => q = y.2) (fun _ t => kE D ct ad G A y.1 t) A) ([.ref (ad a), va_re ad p0, va_re ad p1, va_re ad p2] : List Value).toArray s 0 0 A) (F0 m 95 ls []) := by
      intro H locs ls hP hD hS hl
      refine lv_iload hx hb dX7_accept_95 (lv_at hl 0 rfl) ?_
      obtain ⟨y8, hy8, hF⟩ := bnd_some hF
      have J8 : ∀ (H : Heap) (locs : List Loc) (ls : Array Slot), va_P D classes (wld ct ad G y8) H → va_D A (wld ct ad G y8) → va_S A s.heap H locs → lv_has ls 8 [(7, .int y7.1), (6, .int y6), (5, .int y3.2), (4, va_re ad (M.2 b2 0)), (0, .ref (ad a)), (1, va_re ad p0), (2, va_re ad p1), (3, va_re ad p2)] → W p l e (headSpec wuX7_accept ({ frames := 4, cells := 0, slots := 0, locals := 98 })).room s m ([.ref (ad a), va_re ad p0, va_re ad p1, va_re ad p2] : List Value).toArray below meth c H locs 0 0 (MQ below (va_Qi (fun (q : Int32) (_ : Unit) => q = y.2) (fun _ t => kE D ct ad G A y.1 t) A) ([.ref (ad a), va_re ad p0, va_re ad p1, va_re ad p2] : List Value).toArray s 0 0 A) (F0 m 110 ls []) := by
        intro H locs ls hP hD hS hl
        refine lv_aload_n hx hb dX7_accept_110 rfl (lv_at hl 4 rfl) ?_
        refine lv_aloadq_n hx hb dX7_accept_111 rfl (lv_at hl 5 rfl) ?_
        obtain ⟨b9, ho9, hc9, hk9, hF⟩ := dr_some hF
        refine W_st (st' := [.ref (ad b9), .ref (ad a)]) (by rw [va_some ho9]) ?_
        refine va_get (D := D) (ci := 4) (v := .int (y8.1 b9 8)) (C := RX4) (T := TX4) (N := 18) hx hb hts (mus hf_X4) hown hK hP b9 (wld_o ct ad G y8 hc9 hk9 (by decide)) rfl 8 (by decide) (hts (.fieldLink RX7 92 "VideoSuite$Picture" "frame" "I") (mu mw_1450)) (fun _ h9 => h9) rfl dX7_accept_112 ?_
        obtain ⟨x10, ex10, hF⟩ := ltt_some hF
        refine lv_topi (fun zx10 ezx10 => ?_)
        obtain rfl : x10 = zx10 := ex10.trans ezx10.symm
        refine va_put (D := D) (ci := 7) (v := .int x10) (ty := .int) (C := RX7) (T := TX7) (N := 17) hx hb hts (mus hf_X7) tyX7 tyX7_ok nmX7 hown hK hP hD hS a (wld_o ct ad G y8 hc hk (by decide)) rfl 11 (by decide) (hts (.fieldLink RX7 55 "VideoSuite$Store" "frameBefore" "I") (mu mw_370)) (fun _ h9 => h9) rfl (by decide +kernel) rfl rfl (Nat.le_of_ble_eq_true rfl) dX7_accept_115 (fun H locs hP hD hS => ?_)
        obtain ⟨M11, eM11, hF⟩ := ltt_some hF
        rw [set_oI ct ad G y8 hc hk (by decide) (by rfl), ← eM11] at hP hD
        refine lv_aload_n hx hb dX7_accept_118 rfl (lv_at hl 4 rfl) ?_
        refine lv_iload hx hb dX7_accept_119 (lv_at hl 0 rfl) ?_
        obtain ⟨y12, hy12, hF⟩ := bnd_some hF
        have J12 : ∀ (H : Heap) (locs : List Loc) (ls : Array Slot), va_P D classes (wld ct ad G M11) H → va_D A (wld ct ad G M11) → va_S A s.heap H locs → lv_has ls 8 [(7, .int y7.1), (6, .int y6), (5, .int y3.2), (4, va_re ad (M.2 b2 0)), (0, .ref (ad a)), (1, va_re ad p0), (2, va_re ad p1), (3, va_re ad p2)] → W p l e (headSpec wuX7_accept ({ frames := 4, cells := 0, slots := 0, locals := 98 })).room s m ([.ref (ad a), va_re ad p0, va_re ad p1, va_re ad p2] : List Value).toArray below meth c H locs 0 0 (MQ below (va_Qi (fun (q : Int32) (_ : Unit) => q = y.2) (fun _ t => kE D ct ad G A y.1 t) A) ([.ref (ad a), va_re ad p0, va_re ad p1, va_re ad p2] : List Value).toArray s 0 0 A) (F0 m 132 ls [.int y12, .ref (ad a)]) := by
          intro H locs ls hP hD hS hl
          refine va_put (D := D) (ci := 7) (v := .int y12) (ty := .int) (C := RX7) (T := TX7) (N := 17) hx hb hts (mus hf_X7) tyX7 tyX7_ok nmX7 hown hK hP hD hS a (wld_o ct ad G M11 hc hk (by decide)) rfl 10 (by decide) (hts (.fieldLink RX7 52 "VideoSuite$Store" "turnBefore" "I") (mu mw_369)) (fun _ h9 => h9) rfl (by decide +kernel) rfl rfl (Nat.le_of_ble_eq_true rfl) dX7_accept_132 (fun H locs hP hD hS => ?_)
          obtain ⟨M13, eM13, hF⟩ := ltt_some hF
          rw [set_oI ct ad G M11 hc hk (by decide) (by rfl), ← eM13] at hP hD
          refine lv_iload hx hb dX7_accept_135 (lv_at hl 2 rfl) ?_
          obtain ⟨y14, hy14, hF⟩ := bnd_some hF
          have J14 : ∀ (H : Heap) (locs : List Loc) (ls : Array Slot), va_P D classes (wld ct ad G y14) H → va_D A (wld ct ad G y14) → va_S A s.heap H locs → lv_has ls 8 [(7, .int y7.1), (6, .int y6), (5, .int y3.2), (4, va_re ad (M.2 b2 0)), (0, .ref (ad a)), (1, va_re ad p0), (2, va_re ad p1), (3, va_re ad p2)] → W p l e (headSpec wuX7_accept ({ frames := 4, cells := 0, slots := 0, locals := 98 })).room s m ([.ref (ad a), va_re ad p0, va_re ad p1, va_re ad p2] : List Value).toArray below meth c H locs 0 0 (MQ below (va_Qi (fun (q : Int32) (_ : Unit) => q = y.2) (fun _ t => kE D ct ad G A y.1 t) A) ([.ref (ad a), va_re ad p0, va_re ad p1, va_re ad p2] : List Value).toArray s 0 0 A) (F0 m 153 ls []) := by
            intro H locs ls hP hD hS hl
            refine lv_aload_n hx hb dX7_accept_153 rfl (lv_at hl 4 rfl) ?_
            refine lv_aloadq_n hx hb dX7_accept_154 rfl (lv_at hl 5 rfl) ?_
            refine va_put (D := D) (ci := 7) (v := va_re ad p0) (ty := (.object "VideoSuite$Picture")) (C := RX7) (T := TX7) (N := 17) hx hb hts (mus hf_X7) tyX7 tyX7_ok nmX7 hown hK hP hD hS a (wld_o ct ad G y14 hc hk (by decide)) rfl 6 (by decide) (hts (.fieldLink RX7 39 "VideoSuite$Store" "ended" "LVideoSuite$Picture;") (mu mw_364)) (fun _ h9 => h9) rfl (by decide +kernel) (nar_q ad (Or.inl ⟨_, rfl⟩) p0).1 (nar_q ad (Or.inl ⟨_, rfl⟩) p0).2 (Nat.le_of_ble_eq_true rfl) dX7_accept_155 (fun H locs hP hD hS => ?_)
            obtain ⟨M15, eM15, hF⟩ := ltt_some hF
            rw [set_oP ct ad G y14 hc hk (by decide) (by rfl), ← eM15] at hP hD
            refine lv_iload hx hb dX7_accept_158 (lv_at hl 0 rfl) ?_
            obtain ⟨hz9, hF⟩ := chk_some hF
            obtain rfl := Option.some.inj hF
            exact W.zret (v := y7.1) (ty := .boolean) hx hb hr (nar_z hz9).1 (fun t ht hW => ⟨⟨_, (), rfl, rfl, ⟨by rw [ht]; exact hP, va_K.moved hW.alike hK, hD⟩⟩, hS.F ht⟩) hS.2.2 dX7_accept_160
          clear hF
          have hF := hy14
          clear hy14
          refine lv_if_ne (tgt := 145) hx hb dX7_accept_137 (by decide) (fun c16 => ?_) (fun c16 => ?_)
          · rw [if_neg c16] at hF
            refine lv_aload_n hx hb dX7_accept_145 rfl (lv_at hl 4 rfl) ?_
            refine lv_aloadq_n hx hb dX7_accept_146 rfl (lv_at hl 5 rfl) ?_
            refine W_st (st' := [.ref (ad b9), .ref (ad a)]) (by rw [va_some ho9]) ?_
            refine va_get (D := D) (ci := 4) (v := .int (M13.1 b9 8)) (C := RX4) (T := TX4) (N := 18) hx hb hts (mus hf_X4) hown hK hP b9 (wld_o ct ad G M13 hc9 hk9 (by decide)) rfl 8 (by decide) (hts (.fieldLink RX7 92 "VideoSuite$Picture" "frame" "I") (mu mw_1450)) (fun _ h9 => h9) rfl dX7_accept_147 ?_
            obtain ⟨x17, ex17, hF⟩ := ltt_some hF
            refine lv_topi (fun zx17 ezx17 => ?_)
            obtain rfl : x17 = zx17 := ex17.trans ezx17.symm
            refine va_put (D := D) (ci := 7) (v := .int x17) (ty := .int) (C := RX7) (T := TX7) (N := 17) hx hb hts (mus hf_X7) tyX7 tyX7_ok nmX7 hown hK hP hD hS a (wld_o ct ad G M13 hc hk (by decide)) rfl 5 (by decide) (hts (.fieldLink RX7 36 "VideoSuite$Store" "last" "I") (mu mw_361)) (fun _ h9 => h9) rfl (by decide +kernel) rfl rfl (Nat.le_of_ble_eq_true rfl) dX7_accept_150 (fun H locs hP hD hS => ?_)
            obtain ⟨M18, eM18, hF⟩ := ltt_some hF
            rw [set_oI ct ad G M13 hc hk (by decide) (by rfl), ← eM18] at hP hD
            obtain rfl := Option.some.inj hF
            exact J14 _ _ _ hP hD hS (lv_sub hl [0, 1, 2, 3, 4, 5, 6, 7] rfl)
          · rw [if_pos c16] at hF
            refine lv_iload hx hb dX7_accept_140 (lv_at hl 1 rfl) ?_
            obtain ⟨y19, hy19, hF⟩ := bnd_some hF
            have J19 : ∀ (H : Heap) (locs : List Loc) (ls : Array Slot), va_P D classes (wld ct ad G y19) H → va_D A (wld ct ad G y19) → va_S A s.heap H locs → lv_has ls 8 [(7, .int y7.1), (6, .int y6), (5, .int y3.2), (4, va_re ad (M.2 b2 0)), (0, .ref (ad a)), (1, va_re ad p0), (2, va_re ad p1), (3, va_re ad p2)] → W p l e (headSpec wuX7_accept ({ frames := 4, cells := 0, slots := 0, locals := 98 })).room s m ([.ref (ad a), va_re ad p0, va_re ad p1, va_re ad p2] : List Value).toArray below meth c H locs 0 0 (MQ below (va_Qi (fun (q : Int32) (_ : Unit) => q = y.2) (fun _ t => kE D ct ad G A y.1 t) A) ([.ref (ad a), va_re ad p0, va_re ad p1, va_re ad p2] : List Value).toArray s 0 0 A) (F0 m 153 ls []) := by
              intro H locs ls hP hD hS hl
              obtain rfl := Option.some.inj hF
              exact J14 _ _ _ hP hD hS (lv_sub hl [0, 1, 2, 3, 4, 5, 6, 7] rfl)
            clear hF
            have hF := hy19
            clear hy19
            refine lv_if_eq (tgt := 153) hx hb dX7_accept_142 (by decide) (fun c20 => ?_) (fun c20 => ?_)
            · rw [if_pos c20] at hF
              obtain rfl := Option.some.inj hF
              exact J19 _ _ _ hP hD hS (lv_sub hl [0, 1, 2, 3, 4, 5, 6, 7] rfl)
            · rw [if_neg c20] at hF
              refine lv_aload_n hx hb dX7_accept_145 rfl (lv_at hl 4 rfl) ?_
              refine lv_aloadq_n hx hb dX7_accept_146 rfl (lv_at hl 5 rfl) ?_
              refine W_st (st' := [.ref (ad b9), .ref (ad a)]) (by rw [va_some ho9]) ?_
              refine va_get (D := D) (ci := 4) (v := .int (M13.1 b9 8)) (C := RX4) (T := TX4) (N := 18) hx hb hts (mus hf_X4) hown hK hP b9 (wld_o ct ad G M13 hc9 hk9 (by decide)) rfl 8 (by decide) (hts (.fieldLink RX7 92 "VideoSuite$Picture" "frame" "I") (mu mw_1450)) (fun _ h9 => h9) rfl dX7_accept_147 ?_
              obtain ⟨x21, ex21, hF⟩ := ltt_some hF
              refine lv_topi (fun zx21 ezx21 => ?_)
              obtain rfl : x21 = zx21 := ex21.trans ezx21.symm
              refine va_put (D := D) (ci := 7) (v := .int x21) (ty := .int) (C := RX7) (T := TX7) (N := 17) hx hb hts (mus hf_X7) tyX7 tyX7_ok nmX7 hown hK hP hD hS a (wld_o ct ad G M13 hc hk (by decide)) rfl 5 (by decide) (hts (.fieldLink RX7 36 "VideoSuite$Store" "last" "I") (mu mw_361)) (fun _ h9 => h9) rfl (by decide +kernel) rfl rfl (Nat.le_of_ble_eq_true rfl) dX7_accept_150 (fun H locs hP hD hS => ?_)
              obtain ⟨M22, eM22, hF⟩ := ltt_some hF
              rw [set_oI ct ad G M13 hc hk (by decide) (by rfl), ← eM22] at hP hD
              obtain rfl := Option.some.inj hF
              exact J19 _ _ _ hP hD hS (lv_sub hl [0, 1, 2, 3, 4, 5, 6, 7] rfl)
        clear hF
        have hF := hy12
        clear hy12
        refine lv_if_eq (tgt := 128) hx hb dX7_accept_121 (by decide) (fun c23 => ?_) (fun c23 => ?_)
        · rw [if_pos c23] at hF
          refine lv_aload_n hx hb dX7_accept_128 rfl (lv_at hl 4 rfl) ?_
          refine va_get (D := D) (ci := 7) (v := .int (M11.1 a 13)) (C := RX7) (T := TX7) (N := 17) hx hb hts (mus hf_X7) hown hK hP a (wld_o ct ad G M11 hc hk (by decide)) rfl 13 (by decide) (hts (.fieldLink RX7 85 "VideoSuite$Store" "turn" "I") (mu mw_372)) (fun _ h9 => h9) rfl dX7_accept_129 ?_
          obtain ⟨x24, ex24, hF⟩ := ltt_some hF
          refine lv_topi (fun zx24 ezx24 => ?_)
          obtain rfl : x24 = zx24 := ex24.trans ezx24.symm
          obtain rfl := Option.some.inj hF
          exact J12 _ _ _ hP hD hS (lv_sub hl [0, 1, 2, 3, 4, 5, 6, 7] rfl)
        · rw [if_neg c23] at hF
          refine lv_iconst (v := (0 : Int32)) hx hb dX7_accept_124 (by decide) ?_
          refine lv_goto (tgt := 132) hx hb dX7_accept_125 (by decide) ?_
          obtain rfl := Option.some.inj hF
          exact J12 _ _ _ hP hD hS (lv_sub hl [0, 1, 2, 3, 4, 5, 6, 7] rfl)
      clear hF
      have hF := hy8
      clear hy8
      refine lv_if_eq (tgt := 110) hx hb dX7_accept_97 (by decide) (fun c25 => ?_) (fun c25 => ?_)
      · rw [if_pos c25] at hF
        obtain rfl := Option.some.inj hF
        exact J8 _ _ _ hP hD hS (lv_sub hl [0, 1, 2, 3, 4, 5, 6, 7] rfl)
      · rw [if_neg c25] at hF
        refine lv_aloadq_n hx hb dX7_accept_100 rfl (lv_at hl 5 rfl) ?_
        refine lv_iconst (v := (0 : Int32)) hx hb dX7_accept_101 (by decide) ?_
        obtain ⟨b26, ho26, hc26, hk26, hF⟩ := dr_some hF
        refine W_st (st' := [.int (0 : Int32), .ref (ad b26)]) (by rw [va_some ho26]) ?_
        refine va_put (D := D) (ci := 4) (v := .int (0 : Int32)) (ty := .int) (C := RX4) (T := TX4) (N := 18) hx hb hts (mus hf_X4) tyX4 tyX4_ok nmX4 hown hK hP hD hS b26 (wld_o ct ad G y7.2 hc26 hk26 (by decide)) rfl 9 (by decide) (hts (.fieldLink RX7 126 "VideoSuite$Picture" "order" "I") (mu mw_1455)) (fun _ h9 => h9) rfl (by decide +kernel) rfl rfl (Nat.le_of_ble_eq_true rfl) dX7_accept_102 (fun H locs hP hD hS => ?_)
        obtain ⟨M27, eM27, hF⟩ := ltt_some hF
        rw [set_oI ct ad G y7.2 hc26 hk26 (by decide) (by rfl), ← eM27] at hP hD
        refine lv_aloadq_n hx hb dX7_accept_105 rfl (lv_at hl 5 rfl) ?_
        refine lv_iconst (v := (0 : Int32)) hx hb dX7_accept_106 (by decide) ?_
        refine W_st (st' := [.int (0 : Int32), .ref (ad b26)]) (by rw [va_some ho26]) ?_
        refine va_put (D := D) (ci := 4) (v := .int (0 : Int32)) (ty := .int) (C := RX4) (T := TX4) (N := 18) hx hb hts (mus hf_X4) tyX4 tyX4_ok nmX4 hown hK hP hD hS b26 (wld_o ct ad G M27 hc26 hk26 (by decide)) rfl 8 (by decide) (hts (.fieldLink RX7 92 "VideoSuite$Picture" "frame" "I") (mu mw_1450)) (fun _ h9 => h9) rfl (by decide +kernel) rfl rfl (Nat.le_of_ble_eq_true rfl) dX7_accept_107 (fun H locs hP hD hS => ?_)
        obtain ⟨M28, eM28, hF⟩ := ltt_some hF
        rw [set_oI ct ad G M27 hc26 hk26 (by decide) (by rfl), ← eM28] at hP hD
        obtain rfl := Option.some.inj hF
        exact J8 _ _ _ hP hD hS (lv_sub hl [0, 1, 2, 3, 4, 5, 6, 7] rfl)
    clear hF
    have hF := hy7
    clear hy7
    refine lv_if_eq (tgt := 95) hx hb dX7_accept_32 (by decide) (fun c29 => ?_) (fun c29 => ?_)
    · rw [if_pos c29] at hF
      obtain rfl := Option.some.inj hF
      exact J7 _ _ _ hP hD hS (lv_sub hl [0, 1, 2, 3, 4, 5, 6, 7] rfl)
    · rw [if_neg c29] at hF
      refine lv_aload_n hx hb dX7_accept_35 rfl (lv_at hl 4 rfl) ?_
      refine lv_aloadq_n hx hb dX7_accept_36 rfl (lv_at hl 5 rfl) ?_
      refine lv_aloadq_n hx hb dX7_accept_37 rfl (lv_at hl 6 rfl) ?_
      refine lv_iconst (v := (1 : Int32)) hx hb dX7_accept_38 (by decide) ?_
      refine lv_aloadq_n hx hb dX7_accept_39 rfl (lv_at hl 7 rfl) ?_
      refine lv_iconst (v := (2 : Int32)) hx hb dX7_accept_40 (by decide) ?_
      obtain ⟨b30, ho30, hc30, hk30, hF⟩ := dr_some hF
      refine W_st (st' := [.int (2 : Int32), .ref (ad b30), .int (1 : Int32), va_re ad p1, va_re ad p0, .ref (ad a)]) (by rw [va_some ho30]) ?_
      obtain ⟨hvc, hF⟩ := chk_some hF
      refine va_iald hx hb hK hP b30 1 (wld_i ct ad G y3.1 hc30 hk30) rfl hvc dX7_accept_41 ?_
      obtain ⟨x31, ex31, hF⟩ := ltt_some hF
      refine lv_topi (fun zx31 ezx31 => ?_)
      obtain rfl : x31 = zx31 := ex31.trans ezx31.symm
      refine lv_ishl hx hb dX7_accept_42 ?_
      obtain ⟨x32, ex32, hF⟩ := ltt_some hF
      refine lv_topi (fun zx32 ezx32 => ?_)
      obtain rfl : x32 = zx32 := ex32.trans ezx32.symm
      refine lv_aloadq_n hx hb dX7_accept_43 rfl (lv_at hl 7 rfl) ?_
      obtain ⟨y33, hy33, hF⟩ := bnd_some hF
      have hf9 := wA_in hD hA9 hS
      refine va_calli (va_runS (As := [va_re ad p2]) (rest := [.int x32, va_re ad p1, va_re ad p0, .ref (ad a)]) ⟨hx, hb, hml, hown, hts⟩ (kX7_leastRefs l D ct ad Z G y3.1 H.size p2 y33 hy33) (va_cwS 1 hts gX7_accept_X7_leastRefs rfl rfl rfl (by decide +kernel) ⟨Nat.le_of_ble_eq_true rfl, Nat.le_of_ble_eq_true rfl⟩) ⟨fun a U g mk q => by obtain ⟨q0, q1, qP, qK, qD, qZ, qN⟩ := q; exact ⟨q0, q1, qP, va_K.moved (u := U) (U := U.calling g mk a) (Vm.Alike.refl U.vm) qK, qD, sF.moved (u := U) (U := U.calling g mk a) (Vm.Alike.refl U.vm) qZ, nF.same rfl qN⟩, fun U hU hW => ⟨rfl, by rw [hU], by rw [hU]; exact hP, va_K.moved hW.alike hK, hD.weaken (fun _ _ _ _ => trivial), by rw [hU]; exact ((hZ.kept hS.2.1).narrow hf9).moved hW.alike, hN.warm hW⟩⟩ rfl rfl hl.1 rfl (lv_room (by simp only [List.map, va_re_cat]; exact Nat.le_of_ble_eq_true rfl)) dX7_accept_44 ⟨(Nat.zero_le _), (Nat.zero_le _)⟩) hS (fun q _ h => hf9 q h) hf9 (fun r u t H locs ht hvm hw hB hz1 hk1 hS => ?_)
      obtain ⟨hP, hK9, hD9⟩ := hB
      rw [ht] at hP
      try dsimp only at hw
      subst hw
      have hD := hD9.weaken (fun _ q _ h => hf9 q.1 h)
      obtain ⟨y34, hy34, hF⟩ := bnd_some hF
      have hf9 := wA_in hD hA9 hS
      refine va_calli (va_runV (As := [va_re ad p0, va_re ad p1, .int x32, .int y33.2]) (rest := []) ⟨hx, hb, hml, hown, hts⟩ (kX7_mark l D ct ad Z G y33.1 H.size a p0 p1 x32 y33.2 y34 hc hk hy34) (cwV 4 hts gX7_accept_X7_mark rfl rfl rfl (by decide +kernel) ⟨Nat.le_of_ble_eq_true rfl, Nat.le_of_ble_eq_true rfl⟩) ⟨fun a U g mk q => by obtain ⟨q0, q1, qP, qK, qD, qZ, qN⟩ := q; exact ⟨q0, q1, qP, va_K.moved (u := U) (U := U.calling g mk a) (Vm.Alike.refl U.vm) qK, qD, sF.moved (u := U) (U := U.calling g mk a) (Vm.Alike.refl U.vm) qZ, nF.same rfl qN⟩, va_recv hK hP (ci := 7) (q0 := a) rfl (wld_o ct ad G y33.1 hc hk (by decide)), fun U hU hW => ⟨rfl, by rw [hU], by rw [hU]; exact hP, va_K.moved hW.alike hK, hD.weaken (fun _ _ _ _ => trivial), by rw [hU]; exact ((hZ.kept hS.2.1).narrow hf9).moved hW.alike, hN.warm hW⟩⟩ rfl rfl hl.1 rfl (lv_room (Nat.le_of_ble_eq_true rfl)) dX7_accept_47 ⟨(Nat.zero_le _), (Nat.zero_le _)⟩) hS (fun q _ h => hf9 q h) hf9 (fun r u t H locs ht hvm hw hB hz1 hk1 hS => ?_)
      obtain ⟨hP, hK9, hD9⟩ := hB
      rw [ht] at hP
      try dsimp only at hw
      subst hw
      have hD := hD9.weaken (fun _ q _ h => hf9 q.1 h)
      refine lv_istore (lv' := [(7, .int y34.2), (6, .int y6), (5, .int y3.2), (4, va_re ad (M.2 b2 0)), (0, .ref (ad a)), (1, va_re ad p0), (2, va_re ad p1), (3, va_re ad p2)]) hx hb dX7_accept_50 hl (by decide) rfl (fun ls hl => ?_)
      refine lv_aload_n hx hb dX7_accept_52 rfl (lv_at hl 4 rfl) ?_
      obtain ⟨y35, hy35, hF⟩ := bnd_some hF
      have hf9 := wA_in hD hA9 hS
      refine va_callv (va_runV (As := []) (rest := []) ⟨hx, hb, hml, hown, hts⟩ (kX7_sweep l D ct ad Z G y34.1 H.size a y35 hc hk hy35) (cwV 0 hts gX7_accept_X7_sweep rfl rfl rfl (by decide +kernel) ⟨Nat.le_of_ble_eq_true rfl, Nat.le_of_ble_eq_true rfl⟩) ⟨fun a U g mk q => by obtain ⟨q0, q1, qP, qK, qD, qZ, qN⟩ := q; exact ⟨q0, q1, qP, va_K.moved (u := U) (U := U.calling g mk a) (Vm.Alike.refl U.vm) qK, qD, sF.moved (u := U) (U := U.calling g mk a) (Vm.Alike.refl U.vm) qZ, nF.same rfl qN⟩, va_recv hK hP (ci := 7) (q0 := a) rfl (wld_o ct ad G y34.1 hc hk (by decide)), fun U hU hW => ⟨rfl, by rw [hU], by rw [hU]; exact hP, va_K.moved hW.alike hK, hD.weaken (fun _ _ _ _ => trivial), by rw [hU]; exact ((hZ.kept hS.2.1).narrow hf9).moved hW.alike, hN.warm hW⟩⟩ rfl rfl hl.1 rfl (lv_room (Nat.le_of_ble_eq_true rfl)) dX7_accept_53 ⟨(Nat.zero_le _), (Nat.zero_le _)⟩) hS (fun q _ h => hf9 q h) hf9 (fun u t H locs ht hvm hw hB hz1 hk1 hS => ?_)
      obtain ⟨hP, hK9, hD9⟩ := hB
      rw [ht] at hP
      have hD := hD9.weaken (fun _ q _ h => hf9 q.1 h)
      refine lv_aload_n hx hb dX7_accept_56 rfl (lv_at hl 4 rfl) ?_
      refine lv_aloadq_n hx hb dX7_accept_57 rfl (lv_at hl 5 rfl) ?_
      refine va_put (D := D) (ci := 7) (v := va_re ad p0) (ty := (.object "VideoSuite$Picture")) (C := RX7) (T := TX7) (N := 17) hx hb hts (mus hf_X7) tyX7 tyX7_ok nmX7 hown hK hP hD hS a (wld_o ct ad G y35 hc hk (by decide)) rfl 7 (by decide) (hts (.fieldLink RX7 43 "VideoSuite$Store" "latestReference" "LVideoSuite$Picture;") (mu mw_366)) (fun _ h9 => h9) rfl (by decide +kernel) (nar_q ad (Or.inl ⟨_, rfl⟩) p0).1 (nar_q ad (Or.inl ⟨_, rfl⟩) p0).2 (Nat.le_of_ble_eq_true rfl) dX7_accept_58 (fun H locs hP hD hS => ?_)
      obtain ⟨M36, eM36, hF⟩ := ltt_some hF
      rw [set_oP ct ad G y35 hc hk (by decide) (by rfl), ← eM36] at hP hD
      refine lv_aload_n hx hb dX7_accept_61 rfl (lv_at hl 4 rfl) ?_
      refine lv_iload hx hb dX7_accept_62 (lv_at hl 0 rfl) ?_
      obtain ⟨y37, hy37, hF⟩ := bnd_some hF
      have J37 : ∀ (H : Heap) (locs : List Loc) (ls : Array Slot), va_P D classes (wld ct ad G M36) H → va_D A (wld ct ad G M36) → va_S A s.heap H locs → lv_has ls 8 [(7, .int y34.2), (6, .int y6), (5, .int y3.2), (4, va_re ad (M.2 b2 0)), (0, .ref (ad a)), (1, va_re ad p0), (2, va_re ad p1), (3, va_re ad p2)] → W p l e (headSpec wuX7_accept ({ frames := 4, cells := 0, slots := 0, locals := 98 })).room s m ([.ref (ad a), va_re ad p0, va_re ad p1, va_re ad p2] : List Value).toArray below meth c H locs 0 0 (MQ below (va_Qi (fun (q : Int32) (_ : Unit) => q = y.2) (fun _ t => kE D ct ad G A y.1 t) A) ([.ref (ad a), va_re ad p0, va_re ad p1, va_re ad p2] : List Value).toArray s 0 0 A) (F0 m 75 ls [.int y37, .ref (ad a)]) := by
        intro H locs ls hP hD hS hl
        refine va_put (D := D) (ci := 7) (v := .int y37) (ty := .int) (C := RX7) (T := TX7) (N := 17) hx hb hts (mus hf_X7) tyX7 tyX7_ok nmX7 hown hK hP hD hS a (wld_o ct ad G M36 hc hk (by decide)) rfl 8 (by decide) (hts (.fieldLink RX7 46 "VideoSuite$Store" "highBefore" "I") (mu mw_367)) (fun _ h9 => h9) rfl (by decide +kernel) rfl rfl (Nat.le_of_ble_eq_true rfl) dX7_accept_75 (fun H locs hP hD hS => ?_)
        obtain ⟨M38, eM38, hF⟩ := ltt_some hF
        rw [set_oI ct ad G M36 hc hk (by decide) (by rfl), ← eM38] at hP hD
        refine lv_aload_n hx hb dX7_accept_78 rfl (lv_at hl 4 rfl) ?_
        refine lv_iload hx hb dX7_accept_79 (lv_at hl 0 rfl) ?_
        obtain ⟨y39, hy39, hF⟩ := bnd_some hF
        have J39 : ∀ (H : Heap) (locs : List Loc) (ls : Array Slot), va_P D classes (wld ct ad G M38) H → va_D A (wld ct ad G M38) → va_S A s.heap H locs → lv_has ls 8 [(7, .int y34.2), (6, .int y6), (5, .int y3.2), (4, va_re ad (M.2 b2 0)), (0, .ref (ad a)), (1, va_re ad p0), (2, va_re ad p1), (3, va_re ad p2)] → W p l e (headSpec wuX7_accept ({ frames := 4, cells := 0, slots := 0, locals := 98 })).room s m ([.ref (ad a), va_re ad p0, va_re ad p1, va_re ad p2] : List Value).toArray below meth c H locs 0 0 (MQ below (va_Qi (fun (q : Int32) (_ : Unit) => q = y.2) (fun _ t => kE D ct ad G A y.1 t) A) ([.ref (ad a), va_re ad p0, va_re ad p1, va_re ad p2] : List Value).toArray s 0 0 A) (F0 m 92 ls [.int y39, .ref (ad a)]) := by
          intro H locs ls hP hD hS hl
          refine va_put (D := D) (ci := 7) (v := .int y39) (ty := .int) (C := RX7) (T := TX7) (N := 17) hx hb hts (mus hf_X7) tyX7 tyX7_ok nmX7 hown hK hP hD hS a (wld_o ct ad G M38 hc hk (by decide)) rfl 9 (by decide) (hts (.fieldLink RX7 49 "VideoSuite$Store" "lowBefore" "I") (mu mw_368)) (fun _ h9 => h9) rfl (by decide +kernel) rfl rfl (Nat.le_of_ble_eq_true rfl) dX7_accept_92 (fun H locs hP hD hS => ?_)
          obtain ⟨M40, eM40, hF⟩ := ltt_some hF
          rw [set_oI ct ad G M38 hc hk (by decide) (by rfl), ← eM40] at hP hD
          obtain rfl := Option.some.inj hF
          exact J7 _ _ _ hP hD hS (lv_sub hl [0, 1, 2, 3, 4, 5, 6, 7] rfl)
        clear hF
        have hF := hy39
        clear hy39
        refine lv_if_eq (tgt := 88) hx hb dX7_accept_81 (by decide) (fun c41 => ?_) (fun c41 => ?_)
        · rw [if_pos c41] at hF
          refine lv_aloadq hx hb dX7_accept_88 (lv_at hl 3 rfl) ?_
          refine lv_iconst (v := (5 : Int32)) hx hb dX7_accept_90 (by decide) ?_
          refine W_st (st' := [.int (5 : Int32), .ref (ad b4), .ref (ad a)]) (by rw [va_some ho4]) ?_
          obtain ⟨hvc, hF⟩ := chk_some hF
          refine va_iald hx hb hK hP b4 1 (wld_i ct ad G M38 hc4 hk4) rfl hvc dX7_accept_91 ?_
          obtain ⟨x42, ex42, hF⟩ := ltt_some hF
          refine lv_topi (fun zx42 ezx42 => ?_)
          obtain rfl : x42 = zx42 := ex42.trans ezx42.symm
          obtain rfl := Option.some.inj hF
          exact J39 _ _ _ hP hD hS (lv_sub hl [0, 1, 2, 3, 4, 5, 6, 7] rfl)
        · rw [if_neg c41] at hF
          refine lv_iconst (v := (0 : Int32)) hx hb dX7_accept_84 (by decide) ?_
          refine lv_goto (tgt := 92) hx hb dX7_accept_85 (by decide) ?_
          obtain rfl := Option.some.inj hF
          exact J39 _ _ _ hP hD hS (lv_sub hl [0, 1, 2, 3, 4, 5, 6, 7] rfl)
      clear hF
      have hF := hy37
      clear hy37
      refine lv_if_eq (tgt := 71) hx hb dX7_accept_64 (by decide) (fun c43 => ?_) (fun c43 => ?_)
      · rw [if_pos c43] at hF
        refine lv_aload_n hx hb dX7_accept_71 rfl (lv_at hl 4 rfl) ?_
        refine va_get (D := D) (ci := 7) (v := .int (M36.1 a 12)) (C := RX7) (T := TX7) (N := 17) hx hb hts (mus hf_X7) hown hK hP a (wld_o ct ad G M36 hc hk (by decide)) rfl 12 (by decide) (hts (.fieldLink RX7 82 "VideoSuite$Store" "high" "I") (mu mw_371)) (fun _ h9 => h9) rfl dX7_accept_72 ?_
        obtain ⟨x44, ex44, hF⟩ := ltt_some hF
        refine lv_topi (fun zx44 ezx44 => ?_)
        obtain rfl : x44 = zx44 := ex44.trans ezx44.symm
        obtain rfl := Option.some.inj hF
        exact J37 _ _ _ hP hD hS (lv_sub hl [0, 1, 2, 3, 4, 5, 6, 7] rfl)
      · rw [if_neg c43] at hF
        refine lv_iconst (v := (0 : Int32)) hx hb dX7_accept_67 (by decide) ?_
        refine lv_goto (tgt := 75) hx hb dX7_accept_68 (by decide) ?_
        obtain rfl := Option.some.inj hF
        exact J37 _ _ _ hP hD hS (lv_sub hl [0, 1, 2, 3, 4, 5, 6, 7] rfl)
  clear hF
  have hF := hy6
  clear hy6
  refine lv_if_eq (tgt := 24) hx hb dX7_accept_17 (by decide) (fun c45 => ?_) (fun c45 => ?_)
  · rw [if_pos c45] at hF
    refine lv_iconst (v := (0 : Int32)) hx hb dX7_accept_24 (by decide) ?_
    obtain rfl := Option.some.inj hF
    exact J6 _ _ _ hP hD hS (lv_sub hl [0, 1, 2, 3, 4, 5] rfl)
  · rw [if_neg c45] at hF
    refine lv_iconst (v := (1 : Int32)) hx hb dX7_accept_20 (by decide) ?_
    refine lv_goto (tgt := 25) hx hb dX7_accept_21 (by decide) ?_
    obtain rfl := Option.some.inj hF
    exact J6 _ _ _ hP hD hS (lv_sub hl [0, 1, 2, 3, 4, 5] rfl)
set_option maxRecDepth 20000 in
theorem gX7_acceptCoded_X7_leastRefs : GoodIn wuX7_acceptCoded (va_wsS RX7 168 yX7_leastRefs wuX7_leastRefs) := gu_S mw_1008 mw_1009 mw_170 mw_1010
set_option maxRecDepth 20000 in
set_option maxRecDepth 20000 in
theorem gX7_acceptCoded_X7_mark : GoodIn wuX7_acceptCoded (wsV RX7 172 RX7 yX7_mark wuX7_mark) := gu_V mw_1011 mw_1013 mw_8 mw_170 mw_1014
set_option maxRecDepth 20000 in
set_option maxRecDepth 20000 in
theorem gX7_acceptCoded_X7_sweep : GoodIn wuX7_acceptCoded (wsV RX7 176 RX7 yX7_sweep wuX7_sweep) := gu_V mw_1053 mw_1055 mw_17 mw_170 mw_1056
set_option maxRecDepth 20000 in
set_option maxRecDepth 20000 in
theorem gX7_acceptCoded_X7_keep : GoodIn wuX7_acceptCoded (wsV RX7 216 RX7 yX7_keep wuX7_keep) := gu_V mw_1098 mw_1100 mw_23 mw_170 mw_1101
theorem dX7_acceptCoded_0 : decode cX7_acceptCoded 0 = .ok (.aload_n 2, 1) := by decide +kernel
theorem dX7_acceptCoded_1 : decode cX7_acceptCoded 1 = .ok (.getfield 73, 3) := by decide +kernel
theorem dX7_acceptCoded_4 : decode cX7_acceptCoded 4 = .ok (.bipush 11, 2) := by decide +kernel
theorem dX7_acceptCoded_6 : decode cX7_acceptCoded 6 = .ok (.iaload, 1) := by decide +kernel
theorem dX7_acceptCoded_7 : decode cX7_acceptCoded 7 = .ok (.ifCond .eq 28, 3) := by decide +kernel
theorem dX7_acceptCoded_10 : decode cX7_acceptCoded 10 = .ok (.aload_n 0, 1) := by decide +kernel
theorem dX7_acceptCoded_11 : decode cX7_acceptCoded 11 = .ok (.aload_n 1, 1) := by decide +kernel
theorem dX7_acceptCoded_12 : decode cX7_acceptCoded 12 = .ok (.aload_n 2, 1) := by decide +kernel
theorem dX7_acceptCoded_13 : decode cX7_acceptCoded 13 = .ok (.iconst 1, 1) := by decide +kernel
theorem dX7_acceptCoded_14 : decode cX7_acceptCoded 14 = .ok (.aload_n 3, 1) := by decide +kernel
theorem dX7_acceptCoded_15 : decode cX7_acceptCoded 15 = .ok (.iconst 2, 1) := by decide +kernel
theorem dX7_acceptCoded_16 : decode cX7_acceptCoded 16 = .ok (.iaload, 1) := by decide +kernel
theorem dX7_acceptCoded_17 : decode cX7_acceptCoded 17 = .ok (.ishl, 1) := by decide +kernel
theorem dX7_acceptCoded_18 : decode cX7_acceptCoded 18 = .ok (.aload_n 3, 1) := by decide +kernel
theorem dX7_acceptCoded_19 : decode cX7_acceptCoded 19 = .ok (.invokestatic 168, 3) := by decide +kernel
theorem dX7_acceptCoded_22 : decode cX7_acceptCoded 22 = .ok (.invokevirtual 172, 3) := by decide +kernel
theorem dX7_acceptCoded_25 : decode cX7_acceptCoded 25 = .ok (.pop, 1) := by decide +kernel
theorem dX7_acceptCoded_26 : decode cX7_acceptCoded 26 = .ok (.aload_n 0, 1) := by decide +kernel
theorem dX7_acceptCoded_27 : decode cX7_acceptCoded 27 = .ok (.invokevirtual 176, 3) := by decide +kernel
theorem dX7_acceptCoded_30 : decode cX7_acceptCoded 30 = .ok (.aload_n 0, 1) := by decide +kernel
theorem dX7_acceptCoded_31 : decode cX7_acceptCoded 31 = .ok (.aload_n 1, 1) := by decide +kernel
theorem dX7_acceptCoded_32 : decode cX7_acceptCoded 32 = .ok (.invokevirtual 216, 3) := by decide +kernel
theorem dX7_acceptCoded_35 : decode cX7_acceptCoded 35 = .ok (.return_, 1) := by decide +kernel
def FX7_acceptCoded (G : GG) (M : DD) (a : Nat) (p0 : Option Nat) (p1 : Option Nat) (p2 : Option Nat) : Option (DD) :=
  dr G 3 p1 fun b2 =>
  dr G 13 ((M.2 b2 0)) fun b3 =>
  chk (¬ (((11 : Int32)) < 0 ∨ G.2.2 b3 ≤ ((11 : Int32)).toNatClampNeg)) <|
  ltt (M.1 b3 ((11 : Int32)).toNatClampNeg) fun x4 =>
  bnd (if x4 = ((0 : Int32)) then (some (M)) else
  (dr G 13 p2 fun b7 =>
  chk (¬ (((2 : Int32)) < 0 ∨ G.2.2 b7 ≤ ((2 : Int32)).toNatClampNeg)) <|
  ltt (M.1 b7 ((2 : Int32)).toNatClampNeg) fun x8 =>
  ltt ((((1 : Int32)) <<< (x8 &&& 31))) fun x9 =>
  bnd (FX7_leastRefs G M p2) fun y10 =>
  bnd (FX7_mark G y10.1 a p0 p1 x9 y10.2) fun y11 =>
  bnd (FX7_sweep G y11.1 a) fun y12 =>
  bnd (FX7_keep G y12 a p0) fun y13 =>
  some (y13))) fun (y5 : DD) =>
  some y5
set_option maxHeartbeats 4000000 in
set_option maxRecDepth 100000 in
theorem kX7_acceptCoded (l : Launch) (D : va_G) (ct : CT) (ad : Nat → Nat) (Z : Nat → Nat) (G : GG) (M : DD) (sz : Nat) (a : Nat) (p0 : Option Nat) (p1 : Option Nat) (p2 : Option Nat) (y : DD) (hc : a < G.1) (hk : G.2.1 a = 7) (hF : FX7_acceptCoded G M a p0 p1 p2 = some y) : Met l yX7_acceptCoded wuX7_acceptCoded ({ frames := 4, cells := 0, slots := 0, locals := 98 }) (va_Pc [.ref (ad a), va_re ad p0, va_re ad p1, va_re ad p2] (kB D ct ad Z G M sz)) (va_Qv (fun (_ : Unit) => True) (fun _ t => kE D ct ad G (wA ad G sz) y t) (wA ad G sz)) 0 0 (wA ad G sz) := by
  refine Met.ofW (cc := cX7_acceptCoded) (maxL := 4) (ret := none) (by decide) rfl ?_
  intro p e s m args below meth c s₁ B hml hv
  obtain ⟨rfl, hsz, hP, hK, hD0, hZ, hN⟩ := hv
  have hx := B.exec
  have hb := B.bytes
  have hr := B.returns
  have hts := atoms_spec (ws := wuX7_acceptCoded) B.pre
  have hown : s.vm.findClass RX7 = some m.cls := findClass_of_methodNamed B.named
  have hlocks := B.notSynchronized
  subst hsz
  have hD := wD_self (sz := s.heap.size) hD0
  have hA9 : ∀ q, s.heap.size ≤ q → wA ad G s.heap.size q := fun q h => Or.inr h
  generalize hAe : wA ad G s.heap.size = A at hD hA9 hZ ⊢
  have hS : va_S A s.heap s.heap [] := va_S.rf
  have hl := lv_entry ([.ref (ad a), va_re ad p0, va_re ad p1, va_re ad p2]) (n := 4) (by cases p0 <;> cases p1 <;> cases p2 <;> exact Nat.le_of_ble_eq_true rfl)
  rw [lg_entry_eq]
  generalize (lg_sl ([.ref (ad a), va_re ad p0, va_re ad p1, va_re ad p2]) ++ List.replicate (4 - (lg_sl ([.ref (ad a), va_re ad p0, va_re ad p1, va_re ad p2])).length) Slot.unset).toArray = ls at hl ⊢
  have hl : lv_has ls 4 [(0, .ref (ad a)), (1, va_re ad p0), (2, va_re ad p1), (3, va_re ad p2)] := by have e9 : lv_args 0 [.ref (ad a), va_re ad p0, va_re ad p1, va_re ad p2] = [(0, .ref (ad a)), (1, va_re ad p0), (2, va_re ad p1), (3, va_re ad p2)] := (by cases p0 <;> cases p1 <;> cases p2 <;> rfl); rw [e9] at hl; exact hl
  unfold FX7_acceptCoded at hF
  refine lv_aloadq_n hx hb dX7_acceptCoded_0 rfl (lv_at hl 2 rfl) ?_
  obtain ⟨b2, ho2, hc2, hk2, hF⟩ := dr_some hF
  refine W_st (st' := [.ref (ad b2)]) (by rw [va_some ho2]) ?_
  refine va_get (D := D) (ci := 3) (v := va_re ad (M.2 b2 0)) (C := RX3) (T := TX3) (N := 4) hx hb hts (mus hf_X3) hown hK hP b2 (wld_o ct ad G M hc2 hk2 (by decide)) rfl 0 (by decide) (hts (.fieldLink RX7 73 "VideoSuite$Header" "v" "[I") (mu mw_616)) (fun _ h9 => h9) rfl dX7_acceptCoded_1 ?_
  refine lv_bipush (v := (11 : Int32)) hx hb dX7_acceptCoded_4 (by decide) ?_
  obtain ⟨b3, ho3, hc3, hk3, hF⟩ := dr_some hF
  refine W_st (st' := [.int (11 : Int32), .ref (ad b3)]) (by rw [va_some ho3]) ?_
  obtain ⟨hvc, hF⟩ := chk_some hF
  refine va_iald hx hb hK hP b3 1 (wld_i ct ad G M hc3 hk3) rfl hvc dX7_acceptCoded_6 ?_
  obtain ⟨x4, ex4, hF⟩ := ltt_some hF
  refine lv_topi (fun zx4 ezx4 => ?_)
  obtain rfl : x4 = zx4 := ex4.trans ezx4.symm
  obtain ⟨y5, hy5, hF⟩ := bnd_some hF
  have J5 : ∀ (H : Heap) (locs : List Loc) (ls : Array Slot), va_P D classes (wld ct ad G y5) H → va_D A (wld ct ad G y5) → va_S A s.heap H locs → lv_has ls 4 [(0, .ref (ad a)), (1, va_re ad p0), (2, va_re ad p1), (3, va_re ad p2)] → W p l e (headSpec wuX7_acceptCoded ({ frames := 4, cells := 0, slots := 0, locals := 98 })).room s m ([.ref (ad a), va_re ad p0, va_re ad p1, va_re ad p2] : List Value).toArray below meth c H locs 0 0 (MQ below (va_Qv (fun (_ : Unit) => True) (fun _ t => kE D ct ad G A y t) A) ([.ref (ad a), va_re ad p0, va_re ad p1, va_re ad p2] : List Value).toArray s 0 0 A) (F0 m 35 ls []) := by
    intro H locs ls hP hD hS hl
    obtain rfl := Option.some.inj hF
    exact W.vret hx hb hr (fun t ht hW => ⟨⟨(), rfl, trivial, ⟨by rw [ht]; exact hP, va_K.moved hW.alike hK, hD⟩⟩, hS.F ht⟩) hS.2.2 dX7_acceptCoded_35
  clear hF
  have hF := hy5
  clear hy5
  refine lv_if_eq (tgt := 35) hx hb dX7_acceptCoded_7 (by decide) (fun c6 => ?_) (fun c6 => ?_)
  · rw [if_pos c6] at hF
    obtain rfl := Option.some.inj hF
    exact J5 _ _ _ hP hD hS (lv_sub hl [0, 1, 2, 3] rfl)
  · rw [if_neg c6] at hF
    refine lv_aload_n hx hb dX7_acceptCoded_10 rfl (lv_at hl 0 rfl) ?_
    refine lv_aloadq_n hx hb dX7_acceptCoded_11 rfl (lv_at hl 1 rfl) ?_
    refine lv_aloadq_n hx hb dX7_acceptCoded_12 rfl (lv_at hl 2 rfl) ?_
    refine lv_iconst (v := (1 : Int32)) hx hb dX7_acceptCoded_13 (by decide) ?_
    refine lv_aloadq_n hx hb dX7_acceptCoded_14 rfl (lv_at hl 3 rfl) ?_
    refine lv_iconst (v := (2 : Int32)) hx hb dX7_acceptCoded_15 (by decide) ?_
    obtain ⟨b7, ho7, hc7, hk7, hF⟩ := dr_some hF
    refine W_st (st' := [.int (2 : Int32), .ref (ad b7), .int (1 : Int32), va_re ad p1, va_re ad p0, .ref (ad a)]) (by rw [va_some ho7]) ?_
    obtain ⟨hvc, hF⟩ := chk_some hF
    refine va_iald hx hb hK hP b7 1 (wld_i ct ad G M hc7 hk7) rfl hvc dX7_acceptCoded_16 ?_
    obtain ⟨x8, ex8, hF⟩ := ltt_some hF
    refine lv_topi (fun zx8 ezx8 => ?_)
    obtain rfl : x8 = zx8 := ex8.trans ezx8.symm
    refine lv_ishl hx hb dX7_acceptCoded_17 ?_
    obtain ⟨x9, ex9, hF⟩ := ltt_some hF
    refine lv_topi (fun zx9 ezx9 => ?_)
    obtain rfl : x9 = zx9 := ex9.trans ezx9.symm
    refine lv_aloadq_n hx hb dX7_acceptCoded_18 rfl (lv_at hl 3 rfl) ?_
    obtain ⟨y10, hy10, hF⟩ := bnd_some hF
    have hf9 := wA_in hD hA9 hS
    refine va_calli (va_runS (As := [va_re ad p2]) (rest := [.int x9, va_re ad p1, va_re ad p0, .ref (ad a)]) ⟨hx, hb, hml, hown, hts⟩ (kX7_leastRefs l D ct ad Z G M s.heap.size p2 y10 hy10) (va_cwS 1 hts gX7_acceptCoded_X7_leastRefs rfl rfl rfl (by decide +kernel) ⟨Nat.le_of_ble_eq_true rfl, Nat.le_of_ble_eq_true rfl⟩) ⟨fun a U g mk q => by obtain ⟨q0, q1, qP, qK, qD, qZ, qN⟩ := q; exact ⟨q0, q1, qP, va_K.moved (u := U) (U := U.calling g mk a) (Vm.Alike.refl U.vm) qK, qD, sF.moved (u := U) (U := U.calling g mk a) (Vm.Alike.refl U.vm) qZ, nF.same rfl qN⟩, fun U hU hW => ⟨rfl, by rw [hU], by rw [hU]; exact hP, va_K.moved hW.alike hK, hD.weaken (fun _ _ _ _ => trivial), by rw [hU]; exact ((hZ.kept hS.2.1).narrow hf9).moved hW.alike, hN.warm hW⟩⟩ rfl rfl hl.1 rfl (lv_room (by simp only [List.map, va_re_cat]; exact Nat.le_of_ble_eq_true rfl)) dX7_acceptCoded_19 ⟨(Nat.zero_le _), (Nat.zero_le _)⟩) hS (fun q _ h => hf9 q h) hf9 (fun r u t H locs ht hvm hw hB hz1 hk1 hS => ?_)
    obtain ⟨hP, hK9, hD9⟩ := hB
    rw [ht] at hP
    try dsimp only at hw
    subst hw
    have hD := hD9.weaken (fun _ q _ h => hf9 q.1 h)
    obtain ⟨y11, hy11, hF⟩ := bnd_some hF
    have hf9 := wA_in hD hA9 hS
    refine va_calli (va_runV (As := [va_re ad p0, va_re ad p1, .int x9, .int y10.2]) (rest := []) ⟨hx, hb, hml, hown, hts⟩ (kX7_mark l D ct ad Z G y10.1 H.size a p0 p1 x9 y10.2 y11 hc hk hy11) (cwV 4 hts gX7_acceptCoded_X7_mark rfl rfl rfl (by decide +kernel) ⟨Nat.le_of_ble_eq_true rfl, Nat.le_of_ble_eq_true rfl⟩) ⟨fun a U g mk q => by obtain ⟨q0, q1, qP, qK, qD, qZ, qN⟩ := q; exact ⟨q0, q1, qP, va_K.moved (u := U) (U := U.calling g mk a) (Vm.Alike.refl U.vm) qK, qD, sF.moved (u := U) (U := U.calling g mk a) (Vm.Alike.refl U.vm) qZ, nF.same rfl qN⟩, va_recv hK hP (ci := 7) (q0 := a) rfl (wld_o ct ad G y10.1 hc hk (by decide)), fun U hU hW => ⟨rfl, by rw [hU], by rw [hU]; exact hP, va_K.moved hW.alike hK, hD.weaken (fun _ _ _ _ => trivial), by rw [hU]; exact ((hZ.kept hS.2.1).narrow hf9).moved hW.alike, hN.warm hW⟩⟩ rfl rfl hl.1 rfl (lv_room (Nat.le_of_ble_eq_true rfl)) dX7_acceptCoded_22 ⟨(Nat.zero_le _), (Nat.zero_le _)⟩) hS (fun q _ h => hf9 q h) hf9 (fun r u t H locs ht hvm hw hB hz1 hk1 hS => ?_)
    obtain ⟨hP, hK9, hD9⟩ := hB
    rw [ht] at hP
    try dsimp only at hw
    subst hw
    have hD := hD9.weaken (fun _ q _ h => hf9 q.1 h)
    refine lv_pop hx hb dX7_acceptCoded_25 rfl ?_
    refine lv_aload_n hx hb dX7_acceptCoded_26 rfl (lv_at hl 0 rfl) ?_
    obtain ⟨y12, hy12, hF⟩ := bnd_some hF
    have hf9 := wA_in hD hA9 hS
    refine va_callv (va_runV (As := []) (rest := []) ⟨hx, hb, hml, hown, hts⟩ (kX7_sweep l D ct ad Z G y11.1 H.size a y12 hc hk hy12) (cwV 0 hts gX7_acceptCoded_X7_sweep rfl rfl rfl (by decide +kernel) ⟨Nat.le_of_ble_eq_true rfl, Nat.le_of_ble_eq_true rfl⟩) ⟨fun a U g mk q => by obtain ⟨q0, q1, qP, qK, qD, qZ, qN⟩ := q; exact ⟨q0, q1, qP, va_K.moved (u := U) (U := U.calling g mk a) (Vm.Alike.refl U.vm) qK, qD, sF.moved (u := U) (U := U.calling g mk a) (Vm.Alike.refl U.vm) qZ, nF.same rfl qN⟩, va_recv hK hP (ci := 7) (q0 := a) rfl (wld_o ct ad G y11.1 hc hk (by decide)), fun U hU hW => ⟨rfl, by rw [hU], by rw [hU]; exact hP, va_K.moved hW.alike hK, hD.weaken (fun _ _ _ _ => trivial), by rw [hU]; exact ((hZ.kept hS.2.1).narrow hf9).moved hW.alike, hN.warm hW⟩⟩ rfl rfl hl.1 rfl (lv_room (Nat.le_of_ble_eq_true rfl)) dX7_acceptCoded_27 ⟨(Nat.zero_le _), (Nat.zero_le _)⟩) hS (fun q _ h => hf9 q h) hf9 (fun u t H locs ht hvm hw hB hz1 hk1 hS => ?_)
    obtain ⟨hP, hK9, hD9⟩ := hB
    rw [ht] at hP
    have hD := hD9.weaken (fun _ q _ h => hf9 q.1 h)
    refine lv_aload_n hx hb dX7_acceptCoded_30 rfl (lv_at hl 0 rfl) ?_
    refine lv_aloadq_n hx hb dX7_acceptCoded_31 rfl (lv_at hl 1 rfl) ?_
    obtain ⟨y13, hy13, hF⟩ := bnd_some hF
    have hf9 := wA_in hD hA9 hS
    refine va_callv (va_runV (As := [va_re ad p0]) (rest := []) ⟨hx, hb, hml, hown, hts⟩ (kX7_keep l D ct ad Z G y12 H.size a p0 y13 hc hk hy13) (cwV 1 hts gX7_acceptCoded_X7_keep rfl rfl rfl (by decide +kernel) ⟨Nat.le_of_ble_eq_true rfl, Nat.le_of_ble_eq_true rfl⟩) ⟨fun a U g mk q => by obtain ⟨q0, q1, qP, qK, qD, qZ, qN⟩ := q; exact ⟨q0, q1, qP, va_K.moved (u := U) (U := U.calling g mk a) (Vm.Alike.refl U.vm) qK, qD, sF.moved (u := U) (U := U.calling g mk a) (Vm.Alike.refl U.vm) qZ, nF.same rfl qN⟩, va_recv hK hP (ci := 7) (q0 := a) rfl (wld_o ct ad G y12 hc hk (by decide)), fun U hU hW => ⟨rfl, by rw [hU], by rw [hU]; exact hP, va_K.moved hW.alike hK, hD.weaken (fun _ _ _ _ => trivial), by rw [hU]; exact ((hZ.kept hS.2.1).narrow hf9).moved hW.alike, hN.warm hW⟩⟩ rfl rfl hl.1 rfl (lv_room (Nat.le_of_ble_eq_true rfl)) dX7_acceptCoded_32 ⟨(Nat.zero_le _), (Nat.zero_le _)⟩) hS (fun q _ h => hf9 q h) hf9 (fun u t H locs ht hvm hw hB hz1 hk1 hS => ?_)
    obtain ⟨hP, hK9, hD9⟩ := hB
    rw [ht] at hP
    have hD := hD9.weaken (fun _ q _ h => hf9 q.1 h)
    obtain rfl := Option.some.inj hF
    exact J5 _ _ _ hP hD hS (lv_sub hl [0, 1, 2, 3] rfl)
set_option maxRecDepth 20000 in
theorem gX7_makeRoom_X7_nextOut : GoodIn wuX7_makeRoom (wsV RX7 204 RX7 yX7_nextOut wuX7_nextOut) := gu_V mw_1066 mw_1068 mw_18 mw_170 mw_1069
set_option maxRecDepth 20000 in
set_option maxRecDepth 20000 in
theorem gX7_makeRoom_X7_sweep : GoodIn wuX7_makeRoom (wsV RX7 176 RX7 yX7_sweep wuX7_sweep) := gu_V mw_1053 mw_1055 mw_17 mw_170 mw_1056
set_option maxRecDepth 20000 in
theorem gX7_makeRoom_X7_release : GoodIn wuX7_makeRoom (va_wsS RX7 152 yX7_release wuX7_release) := gu_S mw_1019 mw_1020 mw_170 mw_1021
set_option maxRecDepth 20000 in
set_option maxRecDepth 20000 in
theorem gX7_makeRoom_X7_putOut : GoodIn wuX7_makeRoom (wsV RX7 207 RX7 yX7_putOut wuX7_putOut) := gu_V mw_1070 mw_1072 mw_19 mw_170 mw_1073
set_option maxRecDepth 20000 in
theorem dX7_makeRoom_0 : decode cX7_makeRoom 0 = .ok (.iconst 0, 1) := by decide +kernel
theorem dX7_makeRoom_1 : decode cX7_makeRoom 1 = .ok (.istore_n 1, 1) := by decide +kernel
theorem dX7_makeRoom_2 : decode cX7_makeRoom 2 = .ok (.iload_n 1, 1) := by decide +kernel
theorem dX7_makeRoom_3 : decode cX7_makeRoom 3 = .ok (.bipush 12, 2) := by decide +kernel
theorem dX7_makeRoom_5 : decode cX7_makeRoom 5 = .ok (.if_icmp .ge 48, 3) := by decide +kernel
theorem dX7_makeRoom_8 : decode cX7_makeRoom 8 = .ok (.aload_n 0, 1) := by decide +kernel
theorem dX7_makeRoom_9 : decode cX7_makeRoom 9 = .ok (.getfield 29, 3) := by decide +kernel
theorem dX7_makeRoom_12 : decode cX7_makeRoom 12 = .ok (.bipush 6, 2) := by decide +kernel
theorem dX7_makeRoom_14 : decode cX7_makeRoom 14 = .ok (.if_icmp .lt 39, 3) := by decide +kernel
theorem dX7_makeRoom_17 : decode cX7_makeRoom 17 = .ok (.aload_n 0, 1) := by decide +kernel
theorem dX7_makeRoom_18 : decode cX7_makeRoom 18 = .ok (.invokevirtual 204, 3) := by decide +kernel
theorem dX7_makeRoom_21 : decode cX7_makeRoom 21 = .ok (.astore_n 2, 1) := by decide +kernel
theorem dX7_makeRoom_22 : decode cX7_makeRoom 22 = .ok (.aload_n 2, 1) := by decide +kernel
theorem dX7_makeRoom_23 : decode cX7_makeRoom 23 = .ok (.ifnull 11, 3) := by decide +kernel
theorem dX7_makeRoom_26 : decode cX7_makeRoom 26 = .ok (.aload_n 0, 1) := by decide +kernel
theorem dX7_makeRoom_27 : decode cX7_makeRoom 27 = .ok (.aload_n 2, 1) := by decide +kernel
theorem dX7_makeRoom_28 : decode cX7_makeRoom 28 = .ok (.invokevirtual 207, 3) := by decide +kernel
theorem dX7_makeRoom_31 : decode cX7_makeRoom 31 = .ok (.goto 12, 3) := by decide +kernel
theorem dX7_makeRoom_34 : decode cX7_makeRoom 34 = .ok (.aload_n 0, 1) := by decide +kernel
theorem dX7_makeRoom_35 : decode cX7_makeRoom 35 = .ok (.getfield 17, 3) := by decide +kernel
theorem dX7_makeRoom_38 : decode cX7_makeRoom 38 = .ok (.iconst 0, 1) := by decide +kernel
theorem dX7_makeRoom_39 : decode cX7_makeRoom 39 = .ok (.aaload, 1) := by decide +kernel
theorem dX7_makeRoom_40 : decode cX7_makeRoom 40 = .ok (.invokestatic 152, 3) := by decide +kernel
theorem dX7_makeRoom_43 : decode cX7_makeRoom 43 = .ok (.aload_n 0, 1) := by decide +kernel
theorem dX7_makeRoom_44 : decode cX7_makeRoom 44 = .ok (.invokevirtual 176, 3) := by decide +kernel
theorem dX7_makeRoom_47 : decode cX7_makeRoom 47 = .ok (.iinc 1 1, 3) := by decide +kernel
theorem dX7_makeRoom_50 : decode cX7_makeRoom 50 = .ok (.goto (-48), 3) := by decide +kernel
theorem dX7_makeRoom_53 : decode cX7_makeRoom 53 = .ok (.return_, 1) := by decide +kernel
noncomputable def FX7_makeRoom (G : GG) (M : DD) (a : Nat)  : Option (NN × DD) :=
  bnd (itrA (fun (s2 : NN × Int32 × DD) => ((if ((12 : Int32)) ≤ s2.2.1 then (some ([], .inr ((s2.2.1, s2.2.2)))) else
  (ltt (s2.2.2.1 a 3) fun x12 =>
  if x12 < ((6 : Int32)) then (some ([], .inr ((s2.2.1, s2.2.2)))) else
  (bnd (FX7_nextOut (xt G s2.1) s2.2.2 a) fun y14 =>
  bnd (if y14.2 = none then (dr (xt G s2.1) 14 ((y14.1.2 a 2)) fun b23 =>
  chk (¬ (((0 : Int32)) < 0 ∨ (xt G s2.1).2.2 b23 ≤ ((0 : Int32)).toNatClampNeg)) <|
  bnd (FX7_release (xt G s2.1) y14.1 ((y14.1.2 b23 ((0 : Int32)).toNatClampNeg))) fun y24 =>
  some ([], y24)) else
  (bnd (FX7_putOut (xt G s2.1) y14.1 a y14.2) fun y25 =>
  app y25.1 <|
  ltt (s2.1 ++ y25.1) fun L27 =>
  some ([], y25.2))) fun (y15 : NN × DD) =>
  app y15.1 <|
  ltt (s2.1 ++ y15.1) fun L17 =>
  bnd (FX7_sweep (xt G L17) y15.2 a) fun y19 =>
  ltt (s2.2.1 + (1 : Int32)) fun x20 =>
  some ([], .inl (L17, (x20, y19)))))) : Option (NN × ((NN × Int32 × DD) ⊕ (Int32 × DD))))) 1000000 ([], ((0 : Int32), M))) fun (y1 : NN × Int32 × DD) =>
  app y1.1 <|
  ltt ([] ++ y1.1) fun L4 =>
  some ([], y1.2.2)
set_option maxHeartbeats 4000000 in
set_option maxRecDepth 100000 in
theorem kX7_makeRoom (l : Launch) (D : va_G) (ct : CT) (ad : Nat → Nat) (Z : Nat → Nat) (G : GG) (M : DD) (sz : Nat) (a : Nat)  (y : NN × DD) (hc : a < G.1) (hk : G.2.1 a = 7) (hF : FX7_makeRoom G M a  = some y) : Met l yX7_makeRoom wuX7_makeRoom ({ frames := 3, cells := y.1.length, slots := wt y.1, locals := 131 }) (va_Pc [.ref (ad a)] (kB D ct ad Z G M sz)) (va_Qv (fun (u : Nat → Nat) => agr G.1 ad u) (fun u t => kE D ct u (xt G y.1) (wA ad G sz) y.2 t) (wA ad G sz)) y.1.length (wt y.1) (wA ad G sz) := by
  refine Met.ofW (cc := cX7_makeRoom) (maxL := 3) (ret := none) (by decide) rfl ?_
  intro p e s m args below meth c s₁ B hml hv
  obtain ⟨rfl, hsz, hP, hK, hD0, hZ, hN⟩ := hv
  have hx := B.exec
  have hb := B.bytes
  have hr := B.returns
  have hts := atoms_spec (ws := wuX7_makeRoom) B.pre
  have hown : s.vm.findClass RX7 = some m.cls := findClass_of_methodNamed B.named
  have hlocks := B.notSynchronized
  subst hsz
  have hD := wD_self (sz := s.heap.size) hD0
  have hA9 : ∀ q, s.heap.size ≤ q → wA ad G s.heap.size q := fun q h => Or.inr h
  generalize hAe : wA ad G s.heap.size = A at hD hA9 hZ ⊢
  have hS : va_S A s.heap s.heap [] := va_S.rf
  have hl := lv_entry ([.ref (ad a)]) (n := 3) (Nat.le_of_ble_eq_true rfl)
  rw [lg_entry_eq]
  generalize (lg_sl ([.ref (ad a)]) ++ List.replicate (3 - (lg_sl ([.ref (ad a)])).length) Slot.unset).toArray = ls at hl ⊢
  have hl : lv_has ls 3 [(0, .ref (ad a))] := hl
  unfold FX7_makeRoom at hF
  rw [← wld_0 ct ad G M] at hP hD
  have hk := xt_k0 hc hk
  have hc := xt_l0 hc
  have hag := agr_rf G.1 ad
  obtain ⟨w0, hw0⟩ : ∃ z, z = y := ⟨_, rfl⟩
  rw [← hw0] at hF
  have hT : y.1 = [] ++ w0.1 := by rw [hw0]; rfl
  have h2 : y.2 = w0.2 := by rw [hw0]
  have hbl : y.1.length ≤ y.1.length ∧ wt y.1 ≤ wt y.1 := ⟨Nat.le_refl _, Nat.le_refl _⟩
  refine lv_iconst (v := (0 : Int32)) hx hb dX7_makeRoom_0 (by decide) ?_
  refine lv_istore_n (lv' := [(1, .int (0 : Int32)), (0, .ref (ad a))]) hx hb dX7_makeRoom_1 rfl hl (by decide) rfl (fun ls hl => ?_)
  obtain ⟨y1, hy1, hF⟩ := bnd_some hF
  obtain ⟨w3, hF, ew3⟩ := app_some hF
  obtain ⟨L4, eL4, hF⟩ := ltt_some hF
  have hT4 : y.1 = ([] ++ y1.1) ++ w3.1 := by rw [hT, ew3]; simp only [List.append_assoc]
  have hbl4 : L4.length ≤ y.1.length ∧ wt L4 ≤ wt y.1 := by rw [eL4]; exact room_d hT4 hbl
  have K1 : ∀ (ad5 : Nat → Nat), agr G.1 ad ad5 → ∀ (H : Heap) (locs : List Loc) (ls : Array Slot), va_P D classes (wld ct ad5 (xt G L4) y1.2.2) H → va_D A (wld ct ad5 (xt G L4) y1.2.2) → va_S A s.heap H locs → lv_has ls 3 [] → W p l e (headSpec wuX7_makeRoom ({ frames := 3, cells := y.1.length, slots := wt y.1, locals := 131 })).room s m ([.ref (ad a)] : List Value).toArray below meth c H locs (L4 : NN).length (wt L4) (MQ below (va_Qv (fun (u : Nat → Nat) => agr G.1 ad u) (fun u t => kE D ct u (xt G y.1) A y.2 t) A) ([.ref (ad a)] : List Value).toArray s y.1.length (wt y.1) A) (F0 m 53 ls []) := by
    intro ad5 hag H locs ls hP hD hS hl
    have hT : y.1 = L4 ++ w3.1 := by rw [hT4, eL4]
    have h2 : y.2 = w3.2 := by rw [h2, ew3]
    have hk : (xt G L4).2.1 a = 7 := by rw [eL4]; exact xt_k _ hc hk
    have hc : a < (xt G L4).1 := by rw [eL4]; exact xt_l _ hc
    obtain rfl := Option.some.inj hF
    have e1 : y.1 = L4 := by rw [hT]; exact List.append_nil _
    have e2 : y.2 = y1.2.2 := h2
    refine W.widen (k := y.1.length) (n := wt y.1) (Nat.le_of_eq (by rw [e1])) (Nat.le_of_eq (by rw [e1])) ?_
    exact W.vret hx hb hr (fun t ht hW => ⟨⟨ad5, rfl, hag, (by unfold kE; rw [e1, e2]; exact ⟨by rw [ht]; exact hP, va_K.moved hW.alike hK, hD⟩)⟩, hS.F ht⟩) hS.2.2 dX7_makeRoom_53
  clear hF
  refine itrA_rule (fun (s2 : NN × Int32 × DD) (r7 : NN) => (∃ t, s2.1 = [] ++ t) → L4 = s2.1 ++ r7 → ∀ (ad6 : Nat → Nat), agr G.1 ad ad6 → ∀ (H : Heap) (locs : List Loc) (ls : Array Slot), va_P D classes (wld ct ad6 (xt G s2.1) s2.2.2) H → va_D A (wld ct ad6 (xt G s2.1) s2.2.2) → va_S A s.heap H locs → lv_has ls 3 [(1, .int s2.2.1), (0, .ref (ad6 a))] → W p l e (headSpec wuX7_makeRoom ({ frames := 3, cells := y.1.length, slots := wt y.1, locals := 131 })).room s m ([.ref (ad a)] : List Value).toArray below meth c H locs (s2.1 : NN).length (wt s2.1) (MQ below (va_Qv (fun (u : Nat → Nat) => agr G.1 ad u) (fun u t => kE D ct u (xt G y.1) A y.2 t) A) ([.ref (ad a)] : List Value).toArray s y.1.length (wt y.1) A) (F0 m 2 ls [])) ?_ _ _ _ hy1 ⟨[], (List.append_nil _).symm⟩ eL4 _ hag _ _ _ hP hD hS (lv_sub hl [0, 1] rfl)
  rintro s2 r7 ⟨z8, hF, ⟨t1, et1⟩, hwz8⟩ ⟨u1, eu1⟩ eq1 ad6 hag H locs ls hP hD hS hl
  try dsimp only at hF
  obtain ⟨L9, eL9⟩ : ∃ x, x = s2.1 ++ z8.1 := ⟨_, rfl⟩
  obtain ⟨w10, hw10⟩ : ∃ x, x = z8 := ⟨_, rfl⟩
  rw [← hw10] at hF
  have hbl : L9.length ≤ y.1.length ∧ wt L9 ≤ wt y.1 := room_d (show L4 = L9 ++ t1 by rw [eq1, et1, eL9]; simp only [List.append_assoc]) hbl4
  have hT : L9 = s2.1 ++ w10.1 := by rw [eL9, hw10]
  have h2 : z8.2 = w10.2 := by rw [hw10]
  have hk : (xt G s2.1).2.1 a = 7 := by rw [eu1]; exact xt_k _ hc hk
  have hc : a < (xt G s2.1).1 := by rw [eu1]; exact xt_l _ hc
  refine lv_iload_n hx hb dX7_makeRoom_2 rfl (lv_at hl 0 rfl) ?_
  refine lv_bipush (v := (12 : Int32)) hx hb dX7_makeRoom_3 (by decide) ?_
  refine lv_icmp_ge (tgt := 53) hx hb dX7_makeRoom_5 (by decide) (fun c11 => ?_) (fun c11 => ?_)
  · rw [if_pos c11] at hF
    obtain rfl := Option.some.inj hF
    have e1 : L9 = s2.1 := by rw [hT]; exact List.append_nil _
    have e2 : z8.2 = .inr ((s2.2.1, s2.2.2)) := h2
    rw [e2] at hwz8
    obtain ⟨hw1, hw2⟩ := hwz8
    have e8 : L4 = s2.1 := by rw [eq1, hw2, ← eL9, e1]
    rw [e8] at K1
    try rw [← hw1] at K1
    exact K1 _ hag _ _ _ hP hD hS (lv_sub hl [] rfl)
  · rw [if_neg c11] at hF
    refine lv_aload_n hx hb dX7_makeRoom_8 rfl (lv_at hl 1 rfl) ?_
    refine va_get (D := D) (ci := 7) (v := .int (s2.2.2.1 a 3)) (C := RX7) (T := TX7) (N := 17) hx hb hts (mus hf_X7) hown hK hP a (wld_o ct ad6 (xt G s2.1) s2.2.2 hc hk (by decide)) rfl 3 (by decide) (hts (.fieldLink RX7 29 "VideoSuite$Store" "count" "I") (mu mw_358)) (fun _ h9 => h9) rfl dX7_makeRoom_9 ?_
    obtain ⟨x12, ex12, hF⟩ := ltt_some hF
    refine lv_topi (fun zx12 ezx12 => ?_)
    obtain rfl : x12 = zx12 := ex12.trans ezx12.symm
    refine lv_bipush (v := (6 : Int32)) hx hb dX7_makeRoom_12 (by decide) ?_
    refine lv_icmp_lt (tgt := 53) hx hb dX7_makeRoom_14 (by decide) (fun c13 => ?_) (fun c13 => ?_)
    · rw [if_pos c13] at hF
      obtain rfl := Option.some.inj hF
      have e1 : L9 = s2.1 := by rw [hT]; exact List.append_nil _
      have e2 : z8.2 = .inr ((s2.2.1, s2.2.2)) := h2
      rw [e2] at hwz8
      obtain ⟨hw1, hw2⟩ := hwz8
      have e8 : L4 = s2.1 := by rw [eq1, hw2, ← eL9, e1]
      rw [e8] at K1
      try rw [← hw1] at K1
      exact K1 _ hag _ _ _ hP hD hS (lv_sub hl [] rfl)
    · rw [if_neg c13] at hF
      refine lv_aload_n hx hb dX7_makeRoom_17 rfl (lv_at hl 1 rfl) ?_
      obtain ⟨y14, hy14, hF⟩ := bnd_some hF
      have hf9 := wA_in hD hA9 hS
      refine va_calle (va_runV (As := []) (rest := []) ⟨hx, hb, hml, hown, hts⟩ (kX7_nextOut l D ct ad6 Z (xt G s2.1) s2.2.2 H.size a y14 hc hk hy14) (cwV 0 hts gX7_makeRoom_X7_nextOut rfl rfl rfl (by decide +kernel) ⟨Nat.le_of_ble_eq_true rfl, Nat.le_of_ble_eq_true rfl⟩) ⟨fun a U g mk q => by obtain ⟨q0, q1, qP, qK, qD, qZ, qN⟩ := q; exact ⟨q0, q1, qP, va_K.moved (u := U) (U := U.calling g mk a) (Vm.Alike.refl U.vm) qK, qD, sF.moved (u := U) (U := U.calling g mk a) (Vm.Alike.refl U.vm) qZ, nF.same rfl qN⟩, va_recv hK hP (ci := 7) (q0 := a) rfl (wld_o ct ad6 (xt G s2.1) s2.2.2 hc hk (by decide)), fun U hU hW => ⟨rfl, by rw [hU], by rw [hU]; exact hP, va_K.moved hW.alike hK, hD.weaken (fun _ _ _ _ => trivial), by rw [hU]; exact ((hZ.kept hS.2.1).narrow hf9).moved hW.alike, hN.warm hW⟩⟩ rfl rfl hl.1 rfl (lv_room (Nat.le_of_ble_eq_true rfl)) dX7_makeRoom_18 (room_d hT hbl)) hS (fun q _ h => hf9 q h) hf9 (fun r u t H locs ht hvm hw hB hz1 hk1 hS => ?_)
      obtain ⟨hP, hK9, hD9⟩ := hB
      rw [ht] at hP
      try dsimp only at hw
      subst hw
      refine W_cs (k := (s2.1 : NN).length) (n := wt s2.1) rfl rfl ?_
      have hD := hD9.weaken (fun _ q _ h => hf9 q.1 h)
      refine lv_astoreq_n (lv' := [(2, va_re ad6 y14.2), (1, .int s2.2.1), (0, .ref (ad6 a))]) hx hb dX7_makeRoom_21 rfl hl (by decide) rfl (fun ls hl => ?_)
      refine lv_aloadq_n hx hb dX7_makeRoom_22 rfl (lv_at hl 0 rfl) ?_
      obtain ⟨y15, hy15, hF⟩ := bnd_some hF
      obtain ⟨w16, hF, ew16⟩ := app_some hF
      obtain ⟨L17, eL17, hF⟩ := ltt_some hF
      have hT17 : L9 = (s2.1 ++ y15.1) ++ w16.1 := by rw [hT, ew16]; simp only [List.append_assoc]
      have hbl17 : L17.length ≤ y.1.length ∧ wt L17 ≤ wt y.1 := by rw [eL17]; exact room_d hT17 hbl
      have J15 : ∀ (ad18 : Nat → Nat), agr G.1 ad ad18 → ∀ (H : Heap) (locs : List Loc) (ls : Array Slot), va_P D classes (wld ct ad18 (xt G L17) y15.2) H → va_D A (wld ct ad18 (xt G L17) y15.2) → va_S A s.heap H locs → lv_has ls 3 [(1, .int s2.2.1), (0, .ref (ad18 a))] → W p l e (headSpec wuX7_makeRoom ({ frames := 3, cells := y.1.length, slots := wt y.1, locals := 131 })).room s m ([.ref (ad a)] : List Value).toArray below meth c H locs (L17 : NN).length (wt L17) (MQ below (va_Qv (fun (u : Nat → Nat) => agr G.1 ad u) (fun u t => kE D ct u (xt G y.1) A y.2 t) A) ([.ref (ad a)] : List Value).toArray s y.1.length (wt y.1) A) (F0 m 43 ls []) := by
        intro ad18 hag H locs ls hP hD hS hl
        have hT : L9 = L17 ++ w16.1 := by rw [hT17, eL17]
        have h2 : z8.2 = w16.2 := by rw [h2, ew16]
        have hk : (xt G L17).2.1 a = 7 := by rw [eL17]; exact xt_k _ hc hk
        have hc : a < (xt G L17).1 := by rw [eL17]; exact xt_l _ hc
        refine lv_aload_n hx hb dX7_makeRoom_43 rfl (lv_at hl 1 rfl) ?_
        obtain ⟨y19, hy19, hF⟩ := bnd_some hF
        have hf9 := wA_in hD hA9 hS
        refine va_callv (va_runV (As := []) (rest := []) ⟨hx, hb, hml, hown, hts⟩ (kX7_sweep l D ct ad18 Z (xt G L17) y15.2 H.size a y19 hc hk hy19) (cwV 0 hts gX7_makeRoom_X7_sweep rfl rfl rfl (by decide +kernel) ⟨Nat.le_of_ble_eq_true rfl, Nat.le_of_ble_eq_true rfl⟩) ⟨fun a U g mk q => by obtain ⟨q0, q1, qP, qK, qD, qZ, qN⟩ := q; exact ⟨q0, q1, qP, va_K.moved (u := U) (U := U.calling g mk a) (Vm.Alike.refl U.vm) qK, qD, sF.moved (u := U) (U := U.calling g mk a) (Vm.Alike.refl U.vm) qZ, nF.same rfl qN⟩, va_recv hK hP (ci := 7) (q0 := a) rfl (wld_o ct ad18 (xt G L17) y15.2 hc hk (by decide)), fun U hU hW => ⟨rfl, by rw [hU], by rw [hU]; exact hP, va_K.moved hW.alike hK, hD.weaken (fun _ _ _ _ => trivial), by rw [hU]; exact ((hZ.kept hS.2.1).narrow hf9).moved hW.alike, hN.warm hW⟩⟩ rfl rfl hl.1 rfl (lv_room (Nat.le_of_ble_eq_true rfl)) dX7_makeRoom_44 (room_d hT hbl)) hS (fun q _ h => hf9 q h) hf9 (fun u t H locs ht hvm hw hB hz1 hk1 hS => ?_)
        obtain ⟨hP, hK9, hD9⟩ := hB
        rw [ht] at hP
        refine W_cs (k := (L17 : NN).length) (n := wt L17) rfl rfl ?_
        have hD := hD9.weaken (fun _ q _ h => hf9 q.1 h)
        obtain ⟨x20, ex20, hF⟩ := ltt_some hF
        refine lv_iinc (v := x20) (lv' := [(1, .int x20), (0, .ref (ad18 a))]) hx hb dX7_makeRoom_47 hl (k := 0) rfl (by rw [ex20]; rfl) (by decide) rfl (fun ls hl => ?_)
        refine lv_goto (tgt := 2) hx hb dX7_makeRoom_50 (by decide) ?_
        obtain rfl := Option.some.inj hF
        have e1 : L9 = L17 := by rw [hT]; exact List.append_nil _
        have e2 : z8.2 = .inl (L17, (x20, y19)) := h2
        rw [e2] at hwz8
        obtain ⟨r2, er2, hwz8⟩ := hwz8
        exact hwz8 ⟨u1 ++ z8.1, by show L17 = _; rw [← e1, eL9, eu1]; simp only [List.append_assoc]⟩ (by show L4 = L17 ++ r2; rw [eq1, er2, ← e1, eL9]; simp only [List.append_assoc]) _ hag _ _ _ hP hD hS (lv_sub hl [0, 1] rfl)
      clear hF
      obtain ⟨w21, hw21⟩ : ∃ z, z = y15 := ⟨_, rfl⟩
      have hF := hy15
      rw [← hw21] at hF
      clear hy15
      have hT : L17 = s2.1 ++ w21.1 := by rw [eL17, hw21]
      have h2 : y15.2 = w21.2 := by rw [hw21]
      have hbl := hbl17
      refine lv_ifnullq (tgt := 34) hx hb dX7_makeRoom_23 (by decide) (fun c22 => ?_) (fun c22 => ?_)
      · rw [if_pos c22] at hF
        refine lv_aload_n hx hb dX7_makeRoom_34 rfl (lv_at hl 2 rfl) ?_
        refine va_get (D := D) (ci := 7) (v := va_re ad6 (y14.1.2 a 2)) (C := RX7) (T := TX7) (N := 17) hx hb hts (mus hf_X7) hown hK hP a (wld_o ct ad6 (xt G s2.1) y14.1 hc hk (by decide)) rfl 2 (by decide) (hts (.fieldLink RX7 17 "VideoSuite$Store" "kept" "[LVideoSuite$Picture;") (mu mw_357)) (fun _ h9 => h9) rfl dX7_makeRoom_35 ?_
        refine lv_iconst (v := (0 : Int32)) hx hb dX7_makeRoom_38 (by decide) ?_
        obtain ⟨b23, ho23, hc23, hk23, hF⟩ := dr_some hF
        refine W_st (st' := [.int (0 : Int32), .ref (ad6 b23)]) (by rw [va_some ho23]) ?_
        obtain ⟨hvc, hF⟩ := chk_some hF
        refine ld_q hx hb hK hP hc23 hk23 hvc dX7_makeRoom_39 ?_
        obtain ⟨y24, hy24, hF⟩ := bnd_some hF
        have hf9 := wA_in hD hA9 hS
        refine va_callv (va_runS (As := [va_re ad6 (y14.1.2 b23 ((0 : Int32)).toNatClampNeg)]) (rest := []) ⟨hx, hb, hml, hown, hts⟩ (kX7_release l D ct ad6 Z (xt G s2.1) y14.1 H.size ((y14.1.2 b23 ((0 : Int32)).toNatClampNeg)) y24 hy24) (va_cwS 1 hts gX7_makeRoom_X7_release rfl rfl rfl (by decide +kernel) ⟨Nat.le_of_ble_eq_true rfl, Nat.le_of_ble_eq_true rfl⟩) ⟨fun a U g mk q => by obtain ⟨q0, q1, qP, qK, qD, qZ, qN⟩ := q; exact ⟨q0, q1, qP, va_K.moved (u := U) (U := U.calling g mk a) (Vm.Alike.refl U.vm) qK, qD, sF.moved (u := U) (U := U.calling g mk a) (Vm.Alike.refl U.vm) qZ, nF.same rfl qN⟩, fun U hU hW => ⟨rfl, by rw [hU], by rw [hU]; exact hP, va_K.moved hW.alike hK, hD.weaken (fun _ _ _ _ => trivial), by rw [hU]; exact ((hZ.kept hS.2.1).narrow hf9).moved hW.alike, hN.warm hW⟩⟩ rfl rfl hl.1 rfl (lv_room (Nat.le_of_ble_eq_true rfl)) dX7_makeRoom_40 (room_d hT hbl)) hS (fun q _ h => hf9 q h) hf9 (fun u t H locs ht hvm hw hB hz1 hk1 hS => ?_)
        obtain ⟨hP, hK9, hD9⟩ := hB
        rw [ht] at hP
        refine W_cs (k := (s2.1 : NN).length) (n := wt s2.1) rfl rfl ?_
        have hD := hD9.weaken (fun _ q _ h => hf9 q.1 h)
        obtain rfl := Option.some.inj hF
        have e1 : L17 = s2.1 := by rw [hT]; exact List.append_nil _
        have e2 : y15.2 = y24 := h2
        rw [e1] at J15
        try rw [e2] at J15
        exact J15 _ hag _ _ _ hP hD hS (lv_sub hl [1, 2] rfl)
      · rw [if_neg c22] at hF
        refine lv_aload_n hx hb dX7_makeRoom_26 rfl (lv_at hl 2 rfl) ?_
        refine lv_aloadq_n hx hb dX7_makeRoom_27 rfl (lv_at hl 0 rfl) ?_
        obtain ⟨y25, hy25, hF⟩ := bnd_some hF
        obtain ⟨w26, hF, ew26⟩ := app_some hF
        obtain ⟨L27, eL27, hF⟩ := ltt_some hF
        have hT27 : L17 = (s2.1 ++ y25.1) ++ w26.1 := by rw [hT, ew26]; simp only [List.append_assoc]
        have hf9 := wA_in hD hA9 hS
        refine va_callv (va_runV (As := [va_re ad6 y14.2]) (rest := []) ⟨hx, hb, hml, hown, hts⟩ (kX7_putOut l D ct ad6 Z (xt G s2.1) y14.1 _ a y14.2 y25 hc hk hy25) (cwV 1 hts gX7_makeRoom_X7_putOut rfl rfl rfl (by decide +kernel) ⟨Nat.le_of_ble_eq_true rfl, Nat.le_of_ble_eq_true rfl⟩) ⟨fun a U g mk q => by obtain ⟨q0, q1, qP, qK, qD, qZ, qN⟩ := q; exact ⟨q0, q1, qP, va_K.moved (u := U) (U := U.calling g mk a) (Vm.Alike.refl U.vm) qK, qD, sF.moved (u := U) (U := U.calling g mk a) (Vm.Alike.refl U.vm) qZ, nF.same rfl qN⟩, va_recv hK hP (ci := 7) (q0 := a) rfl (wld_o ct ad6 (xt G s2.1) y14.1 hc hk (by decide)), fun U hU hW => ⟨rfl, by rw [hU], by rw [hU]; exact hP, va_K.moved hW.alike hK, hD.weaken (fun _ _ _ _ => trivial), by rw [hU]; exact ((hZ.kept hS.2.1).narrow hf9).moved hW.alike, hN.warm hW⟩⟩ rfl rfl hl.1 rfl (lv_room (Nat.le_of_ble_eq_true rfl)) dX7_makeRoom_28 (room_s hT27 hbl)) hS (fun q _ h => hf9 q h) hf9 (fun ad28 t H locs ht hvm hw hB hz1 hk1 hS => ?_)
        have hn29 := hw
        obtain ⟨hP, hK9, hD9⟩ := hB
        rw [ht] at hP
        have hD := hD9.weaken (fun _ q _ h => hf9 q.1 h)
        rw [xt_xt, ← eL27] at hP hD
        refine W_cs (k := L27.length) (n := wt L27) (by rw [eL27]; exact (len_s s2.1 y25.1).symm) (by rw [eL27]; exact (wt_app s2.1 y25.1).symm) ?_
        have hT : L17 = L27 ++ w26.1 := by rw [hT27, eL27]
        have h2 : y15.2 = w26.2 := by rw [h2, ew26]
        have hl := lv_sub (l' := [(1, .int s2.2.1), (0, .ref (ad6 a))]) hl [1, 2] rfl
        have e9 : ([(1, .int s2.2.1), (0, .ref (ad6 a))] : List (Nat × Value)) = [(1, .int s2.2.1), (0, .ref (ad28 a))] := (by first | rfl | simp only [hn29 a hc])
        rw [e9] at hl
        clear e9
        have hk : (xt G L27).2.1 a = 7 := by rw [eL27]; exact xt_k _ hc hk
        have hc : a < (xt G L27).1 := by rw [eL27]; exact xt_l _ hc
        have hag := agr_t (xt_ge _ _) hag hn29
        refine lv_goto (tgt := 43) hx hb dX7_makeRoom_31 (by decide) ?_
        obtain rfl := Option.some.inj hF
        have e1 : L17 = L27 := by rw [hT]; exact List.append_nil _
        have e2 : y15.2 = y25.2 := h2
        rw [e1] at J15
        try rw [e2] at J15
        exact J15 _ hag _ _ _ hP hD hS (lv_sub hl [0, 1] rfl)
set_option maxRecDepth 20000 in
theorem gX7_putAway_X7_nextOut : GoodIn wuX7_putAway (wsV RX7 204 RX7 yX7_nextOut wuX7_nextOut) := gu_V mw_1066 mw_1068 mw_18 mw_170 mw_1069
set_option maxRecDepth 20000 in
set_option maxRecDepth 20000 in
theorem gX7_putAway_X7_makeRoom : GoodIn wuX7_putAway (wsV RX7 213 RX7 yX7_makeRoom wuX7_makeRoom) := gu_V mw_1094 mw_1096 mw_22 mw_170 mw_1097
set_option maxRecDepth 20000 in
set_option maxRecDepth 20000 in
theorem gX7_putAway_X7_keep : GoodIn wuX7_putAway (wsV RX7 216 RX7 yX7_keep wuX7_keep) := gu_V mw_1098 mw_1100 mw_23 mw_170 mw_1101
set_option maxRecDepth 20000 in
theorem gX7_putAway_X7_putOut : GoodIn wuX7_putAway (wsV RX7 207 RX7 yX7_putOut wuX7_putOut) := gu_V mw_1070 mw_1072 mw_19 mw_170 mw_1073
set_option maxRecDepth 20000 in
set_option maxRecDepth 20000 in
theorem gX7_putAway_X7_putOutAll : GoodIn wuX7_putAway (wsV RX7 210 RX7 yX7_putOutAll wuX7_putOutAll) := gu_V mw_1062 mw_1063 mw_1064 mw_170 mw_1065
set_option maxRecDepth 20000 in
theorem dX7_putAway_0 : decode cX7_putAway 0 = .ok (.iconst 0, 1) := by decide +kernel
theorem dX7_putAway_1 : decode cX7_putAway 1 = .ok (.istore 4, 2) := by decide +kernel
theorem dX7_putAway_3 : decode cX7_putAway 3 = .ok (.iload 4, 2) := by decide +kernel
theorem dX7_putAway_5 : decode cX7_putAway 5 = .ok (.aload_n 0, 1) := by decide +kernel
theorem dX7_putAway_6 : decode cX7_putAway 6 = .ok (.getfield 29, 3) := by decide +kernel
theorem dX7_putAway_9 : decode cX7_putAway 9 = .ok (.if_icmp .ge 24, 3) := by decide +kernel
theorem dX7_putAway_12 : decode cX7_putAway 12 = .ok (.iload_n 3, 1) := by decide +kernel
theorem dX7_putAway_13 : decode cX7_putAway 13 = .ok (.ifCond .eq 20, 3) := by decide +kernel
theorem dX7_putAway_16 : decode cX7_putAway 16 = .ok (.aload_n 0, 1) := by decide +kernel
theorem dX7_putAway_17 : decode cX7_putAway 17 = .ok (.getfield 17, 3) := by decide +kernel
theorem dX7_putAway_20 : decode cX7_putAway 20 = .ok (.iload 4, 2) := by decide +kernel
theorem dX7_putAway_22 : decode cX7_putAway 22 = .ok (.aaload, 1) := by decide +kernel
theorem dX7_putAway_23 : decode cX7_putAway 23 = .ok (.iconst 0, 1) := by decide +kernel
theorem dX7_putAway_24 : decode cX7_putAway 24 = .ok (.putfield 164, 3) := by decide +kernel
theorem dX7_putAway_27 : decode cX7_putAway 27 = .ok (.iinc 4 1, 3) := by decide +kernel
theorem dX7_putAway_30 : decode cX7_putAway 30 = .ok (.goto (-27), 3) := by decide +kernel
theorem dX7_putAway_33 : decode cX7_putAway 33 = .ok (.iload_n 2, 1) := by decide +kernel
theorem dX7_putAway_34 : decode cX7_putAway 34 = .ok (.ifCond .eq 7, 3) := by decide +kernel
theorem dX7_putAway_37 : decode cX7_putAway 37 = .ok (.aload_n 0, 1) := by decide +kernel
theorem dX7_putAway_38 : decode cX7_putAway 38 = .ok (.invokevirtual 210, 3) := by decide +kernel
theorem dX7_putAway_41 : decode cX7_putAway 41 = .ok (.aload_n 0, 1) := by decide +kernel
theorem dX7_putAway_42 : decode cX7_putAway 42 = .ok (.invokevirtual 204, 3) := by decide +kernel
theorem dX7_putAway_45 : decode cX7_putAway 45 = .ok (.astore 4, 2) := by decide +kernel
theorem dX7_putAway_47 : decode cX7_putAway 47 = .ok (.aload_n 1, 1) := by decide +kernel
theorem dX7_putAway_48 : decode cX7_putAway 48 = .ok (.getfield 123, 3) := by decide +kernel
theorem dX7_putAway_51 : decode cX7_putAway 51 = .ok (.ifCond .ne 26, 3) := by decide +kernel
theorem dX7_putAway_54 : decode cX7_putAway 54 = .ok (.aload 4, 2) := by decide +kernel
theorem dX7_putAway_56 : decode cX7_putAway 56 = .ok (.ifnull 15, 3) := by decide +kernel
theorem dX7_putAway_59 : decode cX7_putAway 59 = .ok (.aload 4, 2) := by decide +kernel
theorem dX7_putAway_61 : decode cX7_putAway 61 = .ok (.getfield 126, 3) := by decide +kernel
theorem dX7_putAway_64 : decode cX7_putAway 64 = .ok (.aload_n 1, 1) := by decide +kernel
theorem dX7_putAway_65 : decode cX7_putAway 65 = .ok (.getfield 126, 3) := by decide +kernel
theorem dX7_putAway_68 : decode cX7_putAway 68 = .ok (.if_icmp .lt 9, 3) := by decide +kernel
theorem dX7_putAway_71 : decode cX7_putAway 71 = .ok (.aload_n 0, 1) := by decide +kernel
theorem dX7_putAway_72 : decode cX7_putAway 72 = .ok (.aload_n 1, 1) := by decide +kernel
theorem dX7_putAway_73 : decode cX7_putAway 73 = .ok (.invokevirtual 207, 3) := by decide +kernel
theorem dX7_putAway_76 : decode cX7_putAway 76 = .ok (.return_, 1) := by decide +kernel
theorem dX7_putAway_77 : decode cX7_putAway 77 = .ok (.aload_n 0, 1) := by decide +kernel
theorem dX7_putAway_78 : decode cX7_putAway 78 = .ok (.invokevirtual 213, 3) := by decide +kernel
theorem dX7_putAway_81 : decode cX7_putAway 81 = .ok (.aload_n 1, 1) := by decide +kernel
theorem dX7_putAway_82 : decode cX7_putAway 82 = .ok (.iconst 1, 1) := by decide +kernel
theorem dX7_putAway_83 : decode cX7_putAway 83 = .ok (.putfield 164, 3) := by decide +kernel
theorem dX7_putAway_86 : decode cX7_putAway 86 = .ok (.aload_n 0, 1) := by decide +kernel
theorem dX7_putAway_87 : decode cX7_putAway 87 = .ok (.aload_n 1, 1) := by decide +kernel
theorem dX7_putAway_88 : decode cX7_putAway 88 = .ok (.invokevirtual 216, 3) := by decide +kernel
theorem dX7_putAway_91 : decode cX7_putAway 91 = .ok (.return_, 1) := by decide +kernel
noncomputable def FX7_putAway (G : GG) (M : DD) (a : Nat) (p0 : Option Nat) (p1 : Int32) (p2 : Int32) : Option (NN × DD) :=
  bnd (itr (fun (s2 : Int32 × DD) => ((ltt (s2.2.1 a 3) fun x52 =>
  if x52 ≤ s2.1 then (some (.inr (s2.1, s2.2))) else
  (if p2 = ((0 : Int32)) then (some (.inr (s2.1, s2.2))) else
  (dr (xt G []) 14 ((s2.2.2 a 2)) fun b55 =>
  chk (¬ (s2.1 < 0 ∨ (xt G []).2.2 b55 ≤ s2.1.toNatClampNeg)) <|
  dr (xt G []) 4 ((s2.2.2 b55 s2.1.toNatClampNeg)) fun b56 =>
  chk (((0 : Int32)) = 0 ∨ ((0 : Int32)) = 1) <|
  ltt (uI s2.2 b56 12 ((0 : Int32))) fun M57 =>
  ltt (s2.1 + (1 : Int32)) fun x58 =>
  some (.inl (x58, M57))))) : Option ((Int32 × DD) ⊕ (Int32 × DD)))) 1000000 ((0 : Int32), M)) fun (y1 : Int32 × DD) =>
  bnd (if p1 = ((0 : Int32)) then (some ([], y1.2)) else
  (chk (okd (xt G []) p0 = true) <|
  bnd (FX7_putOutAll (xt G []) y1.2 a) fun y45 =>
  app y45.1 <|
  ltt ([] ++ y45.1) fun L48 =>
  some ([], y45.2))) fun (y4 : NN × DD) =>
  app y4.1 <|
  ltt ([] ++ y4.1) fun L6 =>
  bnd (FX7_nextOut (xt G L6) y4.2 a) fun y8 =>
  dr (xt G L6) 4 p0 fun b9 =>
  ltt (y8.1.1 b9 10) fun x10 =>
  if x10 = ((0 : Int32)) then (if y8.2 = none then (bnd (FX7_putOut (xt G L6) y8.1 a p0) fun y21 =>
  app y21.1 <|
  ltt (L6 ++ y21.1) fun L23 =>
  some ([], y21.2)) else
  (dr (xt G L6) 4 y8.2 fun b26 =>
  ltt (y8.1.1 b26 9) fun x27 =>
  ltt (y8.1.1 b9 9) fun x28 =>
  if x27 < x28 then (chk (okd (xt G L6) p0 = true) <|
  bnd (FX7_makeRoom (xt G L6) y8.1 a) fun y30 =>
  app y30.1 <|
  ltt (L6 ++ y30.1) fun L33 =>
  chk (((1 : Int32)) = 0 ∨ ((1 : Int32)) = 1) <|
  ltt (uI y30.2 b9 12 ((1 : Int32))) fun M36 =>
  bnd (FX7_keep (xt G L33) M36 a p0) fun y37 =>
  some ([], y37)) else
  (bnd (FX7_putOut (xt G L6) y8.1 a p0) fun y38 =>
  app y38.1 <|
  ltt (L6 ++ y38.1) fun L40 =>
  some ([], y38.2)))) else
  (chk (okd (xt G L6) p0 = true) <|
  bnd (FX7_makeRoom (xt G L6) y8.1 a) fun y12 =>
  app y12.1 <|
  ltt (L6 ++ y12.1) fun L15 =>
  chk (((1 : Int32)) = 0 ∨ ((1 : Int32)) = 1) <|
  ltt (uI y12.2 b9 12 ((1 : Int32))) fun M18 =>
  bnd (FX7_keep (xt G L15) M18 a p0) fun y19 =>
  some ([], y19))
set_option maxHeartbeats 4000000 in
set_option maxRecDepth 100000 in
theorem kX7_putAway (l : Launch) (D : va_G) (ct : CT) (ad : Nat → Nat) (Z : Nat → Nat) (G : GG) (M : DD) (sz : Nat) (a : Nat) (p0 : Option Nat) (p1 : Int32) (p2 : Int32) (y : NN × DD) (hc : a < G.1) (hk : G.2.1 a = 7) (hF : FX7_putAway G M a p0 p1 p2 = some y) : Met l yX7_putAway wuX7_putAway ({ frames := 4, cells := y.1.length, slots := wt y.1, locals := 153 }) (va_Pc [.ref (ad a), va_re ad p0, .int p1, .int p2] (kB D ct ad Z G M sz)) (va_Qv (fun (u : Nat → Nat) => agr G.1 ad u) (fun u t => kE D ct u (xt G y.1) (wA ad G sz) y.2 t) (wA ad G sz)) y.1.length (wt y.1) (wA ad G sz) := by
  refine Met.ofW (cc := cX7_putAway) (maxL := 5) (ret := none) (by decide) rfl ?_
  intro p e s m args below meth c s₁ B hml hv
  obtain ⟨rfl, hsz, hP, hK, hD0, hZ, hN⟩ := hv
  have hx := B.exec
  have hb := B.bytes
  have hr := B.returns
  have hts := atoms_spec (ws := wuX7_putAway) B.pre
  have hown : s.vm.findClass RX7 = some m.cls := findClass_of_methodNamed B.named
  have hlocks := B.notSynchronized
  subst hsz
  have hD := wD_self (sz := s.heap.size) hD0
  have hA9 : ∀ q, s.heap.size ≤ q → wA ad G s.heap.size q := fun q h => Or.inr h
  generalize hAe : wA ad G s.heap.size = A at hD hA9 hZ ⊢
  have hS : va_S A s.heap s.heap [] := va_S.rf
  have hl := lv_entry ([.ref (ad a), va_re ad p0, .int p1, .int p2]) (n := 5) (by cases p0 <;> exact Nat.le_of_ble_eq_true rfl)
  rw [lg_entry_eq]
  generalize (lg_sl ([.ref (ad a), va_re ad p0, .int p1, .int p2]) ++ List.replicate (5 - (lg_sl ([.ref (ad a), va_re ad p0, .int p1, .int p2])).length) Slot.unset).toArray = ls at hl ⊢
  have hl : lv_has ls 5 [(0, .ref (ad a)), (1, va_re ad p0), (2, .int p1), (3, .int p2)] := by have e9 : lv_args 0 [.ref (ad a), va_re ad p0, .int p1, .int p2] = [(0, .ref (ad a)), (1, va_re ad p0), (2, .int p1), (3, .int p2)] := (by cases p0 <;> rfl); rw [e9] at hl; exact hl
  unfold FX7_putAway at hF
  rw [← wld_0 ct ad G M] at hP hD
  have hk := xt_k0 hc hk
  have hc := xt_l0 hc
  have hag := agr_rf G.1 ad
  obtain ⟨w0, hw0⟩ : ∃ z, z = y := ⟨_, rfl⟩
  rw [← hw0] at hF
  have hT : y.1 = [] ++ w0.1 := by rw [hw0]; rfl
  have h2 : y.2 = w0.2 := by rw [hw0]
  have hbl : y.1.length ≤ y.1.length ∧ wt y.1 ≤ wt y.1 := ⟨Nat.le_refl _, Nat.le_refl _⟩
  refine lv_iconst (v := (0 : Int32)) hx hb dX7_putAway_0 (by decide) ?_
  refine lv_istore (lv' := [(4, .int (0 : Int32)), (0, .ref (ad a)), (1, va_re ad p0), (2, .int p1), (3, .int p2)]) hx hb dX7_putAway_1 hl (by decide) rfl (fun ls hl => ?_)
  obtain ⟨y1, hy1, hF⟩ := bnd_some hF
  have K1 : ∀ (H : Heap) (locs : List Loc) (ls : Array Slot), va_P D classes (wld ct ad (xt G []) y1.2) H → va_D A (wld ct ad (xt G []) y1.2) → va_S A s.heap H locs → lv_has ls 5 [(4, .int y1.1), (0, .ref (ad a)), (1, va_re ad p0), (2, .int p1), (3, .int p2)] → W p l e (headSpec wuX7_putAway ({ frames := 4, cells := y.1.length, slots := wt y.1, locals := 153 })).room s m ([.ref (ad a), va_re ad p0, .int p1, .int p2] : List Value).toArray below meth c H locs ([] : NN).length (wt []) (MQ below (va_Qv (fun (u : Nat → Nat) => agr G.1 ad u) (fun u t => kE D ct u (xt G y.1) A y.2 t) A) ([.ref (ad a), va_re ad p0, .int p1, .int p2] : List Value).toArray s y.1.length (wt y.1) A) (F0 m 33 ls []) := by
    intro H locs ls hP hD hS hl
    refine lv_iload_n hx hb dX7_putAway_33 rfl (lv_at hl 3 rfl) ?_
    obtain ⟨y4, hy4, hF⟩ := bnd_some hF
    obtain ⟨w5, hF, ew5⟩ := app_some hF
    obtain ⟨L6, eL6, hF⟩ := ltt_some hF
    have hT6 : y.1 = ([] ++ y4.1) ++ w5.1 := by rw [hT, ew5]; simp only [List.append_assoc]
    have hbl6 : L6.length ≤ y.1.length ∧ wt L6 ≤ wt y.1 := by rw [eL6]; exact room_d hT6 hbl
    have J4 : ∀ (ad7 : Nat → Nat), agr G.1 ad ad7 → ∀ (H : Heap) (locs : List Loc) (ls : Array Slot), va_P D classes (wld ct ad7 (xt G L6) y4.2) H → va_D A (wld ct ad7 (xt G L6) y4.2) → va_S A s.heap H locs → lv_has ls 5 [(0, .ref (ad7 a)), (1, va_re ad7 p0)] → W p l e (headSpec wuX7_putAway ({ frames := 4, cells := y.1.length, slots := wt y.1, locals := 153 })).room s m ([.ref (ad a), va_re ad p0, .int p1, .int p2] : List Value).toArray below meth c H locs (L6 : NN).length (wt L6) (MQ below (va_Qv (fun (u : Nat → Nat) => agr G.1 ad u) (fun u t => kE D ct u (xt G y.1) A y.2 t) A) ([.ref (ad a), va_re ad p0, .int p1, .int p2] : List Value).toArray s y.1.length (wt y.1) A) (F0 m 41 ls []) := by
      intro ad7 hag H locs ls hP hD hS hl
      have hT : y.1 = L6 ++ w5.1 := by rw [hT6, eL6]
      have h2 : y.2 = w5.2 := by rw [h2, ew5]
      have hk : (xt G L6).2.1 a = 7 := by rw [eL6]; exact xt_k _ hc hk
      have hc : a < (xt G L6).1 := by rw [eL6]; exact xt_l _ hc
      refine lv_aload_n hx hb dX7_putAway_41 rfl (lv_at hl 0 rfl) ?_
      obtain ⟨y8, hy8, hF⟩ := bnd_some hF
      have hf9 := wA_in hD hA9 hS
      refine va_calle (va_runV (As := []) (rest := []) ⟨hx, hb, hml, hown, hts⟩ (kX7_nextOut l D ct ad7 Z (xt G L6) y4.2 H.size a y8 hc hk hy8) (cwV 0 hts gX7_putAway_X7_nextOut rfl rfl rfl (by decide +kernel) ⟨Nat.le_of_ble_eq_true rfl, Nat.le_of_ble_eq_true rfl⟩) ⟨fun a U g mk q => by obtain ⟨q0, q1, qP, qK, qD, qZ, qN⟩ := q; exact ⟨q0, q1, qP, va_K.moved (u := U) (U := U.calling g mk a) (Vm.Alike.refl U.vm) qK, qD, sF.moved (u := U) (U := U.calling g mk a) (Vm.Alike.refl U.vm) qZ, nF.same rfl qN⟩, va_recv hK hP (ci := 7) (q0 := a) rfl (wld_o ct ad7 (xt G L6) y4.2 hc hk (by decide)), fun U hU hW => ⟨rfl, by rw [hU], by rw [hU]; exact hP, va_K.moved hW.alike hK, hD.weaken (fun _ _ _ _ => trivial), by rw [hU]; exact ((hZ.kept hS.2.1).narrow hf9).moved hW.alike, hN.warm hW⟩⟩ rfl rfl hl.1 rfl (lv_room (Nat.le_of_ble_eq_true rfl)) dX7_putAway_42 (room_d hT hbl)) hS (fun q _ h => hf9 q h) hf9 (fun r u t H locs ht hvm hw hB hz1 hk1 hS => ?_)
      obtain ⟨hP, hK9, hD9⟩ := hB
      rw [ht] at hP
      try dsimp only at hw
      subst hw
      refine W_cs (k := (L6 : NN).length) (n := wt L6) rfl rfl ?_
      have hD := hD9.weaken (fun _ q _ h => hf9 q.1 h)
      refine lv_astoreq (lv' := [(4, va_re ad7 y8.2), (0, .ref (ad7 a)), (1, va_re ad7 p0)]) hx hb dX7_putAway_45 hl (by decide) rfl (fun ls hl => ?_)
      refine lv_aloadq_n hx hb dX7_putAway_47 rfl (lv_at hl 2 rfl) ?_
      obtain ⟨b9, ho9, hc9, hk9, hF⟩ := dr_some hF
      refine W_st (st' := [.ref (ad7 b9)]) (by rw [va_some ho9]) ?_
      refine va_get (D := D) (ci := 4) (v := .int (y8.1.1 b9 10)) (C := RX4) (T := TX4) (N := 18) hx hb hts (mus hf_X4) hown hK hP b9 (wld_o ct ad7 (xt G L6) y8.1 hc9 hk9 (by decide)) rfl 10 (by decide) (hts (.fieldLink RX7 123 "VideoSuite$Picture" "use" "I") (mu mw_1460)) (fun _ h9 => h9) rfl dX7_putAway_48 ?_
      obtain ⟨x10, ex10, hF⟩ := ltt_some hF
      refine lv_topi (fun zx10 ezx10 => ?_)
      obtain rfl : x10 = zx10 := ex10.trans ezx10.symm
      refine lv_if_ne (tgt := 77) hx hb dX7_putAway_51 (by decide) (fun c11 => ?_) (fun c11 => ?_)
      · rw [if_neg c11] at hF
        refine lv_aload_n hx hb dX7_putAway_77 rfl (lv_at hl 1 rfl) ?_
        obtain ⟨hq13, hF⟩ := chk_some hF
        obtain ⟨y12, hy12, hF⟩ := bnd_some hF
        obtain ⟨w14, hF, ew14⟩ := app_some hF
        obtain ⟨L15, eL15, hF⟩ := ltt_some hF
        have hT15 : y.1 = (L6 ++ y12.1) ++ w14.1 := by rw [hT, ew14]; simp only [List.append_assoc]
        have hf9 := wA_in hD hA9 hS
        refine va_callv (va_runV (As := []) (rest := []) ⟨hx, hb, hml, hown, hts⟩ (kX7_makeRoom l D ct ad7 Z (xt G L6) y8.1 _ a y12 hc hk hy12) (cwV 0 hts gX7_putAway_X7_makeRoom rfl rfl rfl (by decide +kernel) ⟨Nat.le_of_ble_eq_true rfl, Nat.le_of_ble_eq_true rfl⟩) ⟨fun a U g mk q => by obtain ⟨q0, q1, qP, qK, qD, qZ, qN⟩ := q; exact ⟨q0, q1, qP, va_K.moved (u := U) (U := U.calling g mk a) (Vm.Alike.refl U.vm) qK, qD, sF.moved (u := U) (U := U.calling g mk a) (Vm.Alike.refl U.vm) qZ, nF.same rfl qN⟩, va_recv hK hP (ci := 7) (q0 := a) rfl (wld_o ct ad7 (xt G L6) y8.1 hc hk (by decide)), fun U hU hW => ⟨rfl, by rw [hU], by rw [hU]; exact hP, va_K.moved hW.alike hK, hD.weaken (fun _ _ _ _ => trivial), by rw [hU]; exact ((hZ.kept hS.2.1).narrow hf9).moved hW.alike, hN.warm hW⟩⟩ rfl rfl hl.1 rfl (lv_room (Nat.le_of_ble_eq_true rfl)) dX7_putAway_78 (room_s hT15 hbl)) hS (fun q _ h => hf9 q h) hf9 (fun ad16 t H locs ht hvm hw hB hz1 hk1 hS => ?_)
        have hn17 := hw
        obtain ⟨hP, hK9, hD9⟩ := hB
        rw [ht] at hP
        have hD := hD9.weaken (fun _ q _ h => hf9 q.1 h)
        rw [xt_xt, ← eL15] at hP hD
        refine W_cs (k := L15.length) (n := wt L15) (by rw [eL15]; exact (len_s L6 y12.1).symm) (by rw [eL15]; exact (wt_app L6 y12.1).symm) ?_
        have hT : y.1 = L15 ++ w14.1 := by rw [hT15, eL15]
        have h2 : y.2 = w14.2 := by rw [h2, ew14]
        have hl := lv_sub (l' := [(0, .ref (ad7 a)), (1, va_re ad7 p0)]) hl [1, 2] rfl
        have e9 : ([(0, .ref (ad7 a)), (1, va_re ad7 p0)] : List (Nat × Value)) = [(0, .ref (ad16 a)), (1, va_re ad16 p0)] := (by first | rfl | simp only [hn17 a hc, agr_re hn17 hq13])
        rw [e9] at hl
        clear e9
        have hk : (xt G L15).2.1 a = 7 := by rw [eL15]; exact xt_k _ hc hk
        have hc : a < (xt G L15).1 := by rw [eL15]; exact xt_l _ hc
        have hk9 : (xt G L15).2.1 b9 = 4 := by rw [eL15]; exact xt_k _ hc9 hk9
        have hc9 : b9 < (xt G L15).1 := by rw [eL15]; exact xt_l _ hc9
        have hag := agr_t (xt_ge _ _) hag hn17
        refine lv_aloadq_n hx hb dX7_putAway_81 rfl (lv_at hl 1 rfl) ?_
        refine lv_iconst (v := (1 : Int32)) hx hb dX7_putAway_82 (by decide) ?_
        refine W_st (st' := [.int (1 : Int32), .ref (ad16 b9)]) (by rw [va_some ho9]) ?_
        obtain ⟨hz9, hF⟩ := chk_some hF
        refine va_put (D := D) (ci := 4) (v := .int (1 : Int32)) (ty := .boolean) (C := RX4) (T := TX4) (N := 18) hx hb hts (mus hf_X4) tyX4 tyX4_ok nmX4 hown hK hP hD hS b9 (wld_o ct ad16 (xt G L15) y12.2 hc9 hk9 (by decide)) rfl 12 (by decide) (hts (.fieldLink RX7 164 "VideoSuite$Picture" "isWaiting" "Z") (mu mw_1466)) (fun _ h9 => h9) rfl (by decide +kernel) (nar_z hz9).1 (nar_z hz9).2 (Nat.le_of_ble_eq_true rfl) dX7_putAway_83 (fun H locs hP hD hS => ?_)
        obtain ⟨M18, eM18, hF⟩ := ltt_some hF
        rw [set_oI ct ad16 (xt G L15) y12.2 hc9 hk9 (by decide) (by rfl), ← eM18] at hP hD
        refine lv_aload_n hx hb dX7_putAway_86 rfl (lv_at hl 0 rfl) ?_
        refine lv_aloadq_n hx hb dX7_putAway_87 rfl (lv_at hl 1 rfl) ?_
        obtain ⟨y19, hy19, hF⟩ := bnd_some hF
        have hf9 := wA_in hD hA9 hS
        refine va_callv (va_runV (As := [va_re ad16 p0]) (rest := []) ⟨hx, hb, hml, hown, hts⟩ (kX7_keep l D ct ad16 Z (xt G L15) M18 H.size a p0 y19 hc hk hy19) (cwV 1 hts gX7_putAway_X7_keep rfl rfl rfl (by decide +kernel) ⟨Nat.le_of_ble_eq_true rfl, Nat.le_of_ble_eq_true rfl⟩) ⟨fun a U g mk q => by obtain ⟨q0, q1, qP, qK, qD, qZ, qN⟩ := q; exact ⟨q0, q1, qP, va_K.moved (u := U) (U := U.calling g mk a) (Vm.Alike.refl U.vm) qK, qD, sF.moved (u := U) (U := U.calling g mk a) (Vm.Alike.refl U.vm) qZ, nF.same rfl qN⟩, va_recv hK hP (ci := 7) (q0 := a) rfl (wld_o ct ad16 (xt G L15) M18 hc hk (by decide)), fun U hU hW => ⟨rfl, by rw [hU], by rw [hU]; exact hP, va_K.moved hW.alike hK, hD.weaken (fun _ _ _ _ => trivial), by rw [hU]; exact ((hZ.kept hS.2.1).narrow hf9).moved hW.alike, hN.warm hW⟩⟩ rfl rfl hl.1 rfl (lv_room (Nat.le_of_ble_eq_true rfl)) dX7_putAway_88 (room_d hT hbl)) hS (fun q _ h => hf9 q h) hf9 (fun u t H locs ht hvm hw hB hz1 hk1 hS => ?_)
        obtain ⟨hP, hK9, hD9⟩ := hB
        rw [ht] at hP
        refine W_cs (k := (L15 : NN).length) (n := wt L15) rfl rfl ?_
        have hD := hD9.weaken (fun _ q _ h => hf9 q.1 h)
        obtain rfl := Option.some.inj hF
        have e1 : y.1 = L15 := by rw [hT]; exact List.append_nil _
        have e2 : y.2 = y19 := h2
        refine W.widen (k := y.1.length) (n := wt y.1) (Nat.le_of_eq (by rw [e1])) (Nat.le_of_eq (by rw [e1])) ?_
        exact W.vret hx hb hr (fun t ht hW => ⟨⟨ad16, rfl, hag, (by unfold kE; rw [e1, e2]; exact ⟨by rw [ht]; exact hP, va_K.moved hW.alike hK, hD⟩)⟩, hS.F ht⟩) hS.2.2 dX7_putAway_91
      · rw [if_pos c11] at hF
        refine lv_aloadq hx hb dX7_putAway_54 (lv_at hl 0 rfl) ?_
        refine lv_ifnullq (tgt := 71) hx hb dX7_putAway_56 (by decide) (fun c20 => ?_) (fun c20 => ?_)
        · rw [if_pos c20] at hF
          refine lv_aload_n hx hb dX7_putAway_71 rfl (lv_at hl 1 rfl) ?_
          refine lv_aloadq_n hx hb dX7_putAway_72 rfl (lv_at hl 2 rfl) ?_
          obtain ⟨y21, hy21, hF⟩ := bnd_some hF
          obtain ⟨w22, hF, ew22⟩ := app_some hF
          obtain ⟨L23, eL23, hF⟩ := ltt_some hF
          have hT23 : y.1 = (L6 ++ y21.1) ++ w22.1 := by rw [hT, ew22]; simp only [List.append_assoc]
          have hf9 := wA_in hD hA9 hS
          refine va_callv (va_runV (As := [va_re ad7 p0]) (rest := []) ⟨hx, hb, hml, hown, hts⟩ (kX7_putOut l D ct ad7 Z (xt G L6) y8.1 _ a p0 y21 hc hk hy21) (cwV 1 hts gX7_putAway_X7_putOut rfl rfl rfl (by decide +kernel) ⟨Nat.le_of_ble_eq_true rfl, Nat.le_of_ble_eq_true rfl⟩) ⟨fun a U g mk q => by obtain ⟨q0, q1, qP, qK, qD, qZ, qN⟩ := q; exact ⟨q0, q1, qP, va_K.moved (u := U) (U := U.calling g mk a) (Vm.Alike.refl U.vm) qK, qD, sF.moved (u := U) (U := U.calling g mk a) (Vm.Alike.refl U.vm) qZ, nF.same rfl qN⟩, va_recv hK hP (ci := 7) (q0 := a) rfl (wld_o ct ad7 (xt G L6) y8.1 hc hk (by decide)), fun U hU hW => ⟨rfl, by rw [hU], by rw [hU]; exact hP, va_K.moved hW.alike hK, hD.weaken (fun _ _ _ _ => trivial), by rw [hU]; exact ((hZ.kept hS.2.1).narrow hf9).moved hW.alike, hN.warm hW⟩⟩ rfl rfl hl.1 rfl (lv_room (Nat.le_of_ble_eq_true rfl)) dX7_putAway_73 (room_s hT23 hbl)) hS (fun q _ h => hf9 q h) hf9 (fun ad24 t H locs ht hvm hw hB hz1 hk1 hS => ?_)
          have hn25 := hw
          obtain ⟨hP, hK9, hD9⟩ := hB
          rw [ht] at hP
          have hD := hD9.weaken (fun _ q _ h => hf9 q.1 h)
          rw [xt_xt, ← eL23] at hP hD
          refine W_cs (k := L23.length) (n := wt L23) (by rw [eL23]; exact (len_s L6 y21.1).symm) (by rw [eL23]; exact (wt_app L6 y21.1).symm) ?_
          have hT : y.1 = L23 ++ w22.1 := by rw [hT23, eL23]
          have h2 : y.2 = w22.2 := by rw [h2, ew22]
          have hl := lv_sub (l' := []) hl [] rfl
          have hk : (xt G L23).2.1 a = 7 := by rw [eL23]; exact xt_k _ hc hk
          have hc : a < (xt G L23).1 := by rw [eL23]; exact xt_l _ hc
          have hk9 : (xt G L23).2.1 b9 = 4 := by rw [eL23]; exact xt_k _ hc9 hk9
          have hc9 : b9 < (xt G L23).1 := by rw [eL23]; exact xt_l _ hc9
          have hag := agr_t (xt_ge _ _) hag hn25
          obtain rfl := Option.some.inj hF
          have e1 : y.1 = L23 := by rw [hT]; exact List.append_nil _
          have e2 : y.2 = y21.2 := h2
          refine W.widen (k := y.1.length) (n := wt y.1) (Nat.le_of_eq (by rw [e1])) (Nat.le_of_eq (by rw [e1])) ?_
          exact W.vret hx hb hr (fun t ht hW => ⟨⟨ad24, rfl, hag, (by unfold kE; rw [e1, e2]; exact ⟨by rw [ht]; exact hP, va_K.moved hW.alike hK, hD⟩)⟩, hS.F ht⟩) hS.2.2 dX7_putAway_76
        · rw [if_neg c20] at hF
          refine lv_aloadq hx hb dX7_putAway_59 (lv_at hl 0 rfl) ?_
          obtain ⟨b26, ho26, hc26, hk26, hF⟩ := dr_some hF
          refine W_st (st' := [.ref (ad7 b26)]) (by rw [va_some ho26]) ?_
          refine va_get (D := D) (ci := 4) (v := .int (y8.1.1 b26 9)) (C := RX4) (T := TX4) (N := 18) hx hb hts (mus hf_X4) hown hK hP b26 (wld_o ct ad7 (xt G L6) y8.1 hc26 hk26 (by decide)) rfl 9 (by decide) (hts (.fieldLink RX7 126 "VideoSuite$Picture" "order" "I") (mu mw_1455)) (fun _ h9 => h9) rfl dX7_putAway_61 ?_
          obtain ⟨x27, ex27, hF⟩ := ltt_some hF
          refine lv_topi (fun zx27 ezx27 => ?_)
          obtain rfl : x27 = zx27 := ex27.trans ezx27.symm
          refine lv_aloadq_n hx hb dX7_putAway_64 rfl (lv_at hl 2 rfl) ?_
          refine W_st (st' := [.ref (ad7 b9), .int x27]) (by rw [va_some ho9]) ?_
          refine va_get (D := D) (ci := 4) (v := .int (y8.1.1 b9 9)) (C := RX4) (T := TX4) (N := 18) hx hb hts (mus hf_X4) hown hK hP b9 (wld_o ct ad7 (xt G L6) y8.1 hc9 hk9 (by decide)) rfl 9 (by decide) (hts (.fieldLink RX7 126 "VideoSuite$Picture" "order" "I") (mu mw_1455)) (fun _ h9 => h9) rfl dX7_putAway_65 ?_
          obtain ⟨x28, ex28, hF⟩ := ltt_some hF
          refine lv_topi (fun zx28 ezx28 => ?_)
          obtain rfl : x28 = zx28 := ex28.trans ezx28.symm
          refine lv_icmp_lt (tgt := 77) hx hb dX7_putAway_68 (by decide) (fun c29 => ?_) (fun c29 => ?_)
          · rw [if_pos c29] at hF
            refine lv_aload_n hx hb dX7_putAway_77 rfl (lv_at hl 1 rfl) ?_
            obtain ⟨hq31, hF⟩ := chk_some hF
            obtain ⟨y30, hy30, hF⟩ := bnd_some hF
            obtain ⟨w32, hF, ew32⟩ := app_some hF
            obtain ⟨L33, eL33, hF⟩ := ltt_some hF
            have hT33 : y.1 = (L6 ++ y30.1) ++ w32.1 := by rw [hT, ew32]; simp only [List.append_assoc]
            have hf9 := wA_in hD hA9 hS
            refine va_callv (va_runV (As := []) (rest := []) ⟨hx, hb, hml, hown, hts⟩ (kX7_makeRoom l D ct ad7 Z (xt G L6) y8.1 _ a y30 hc hk hy30) (cwV 0 hts gX7_putAway_X7_makeRoom rfl rfl rfl (by decide +kernel) ⟨Nat.le_of_ble_eq_true rfl, Nat.le_of_ble_eq_true rfl⟩) ⟨fun a U g mk q => by obtain ⟨q0, q1, qP, qK, qD, qZ, qN⟩ := q; exact ⟨q0, q1, qP, va_K.moved (u := U) (U := U.calling g mk a) (Vm.Alike.refl U.vm) qK, qD, sF.moved (u := U) (U := U.calling g mk a) (Vm.Alike.refl U.vm) qZ, nF.same rfl qN⟩, va_recv hK hP (ci := 7) (q0 := a) rfl (wld_o ct ad7 (xt G L6) y8.1 hc hk (by decide)), fun U hU hW => ⟨rfl, by rw [hU], by rw [hU]; exact hP, va_K.moved hW.alike hK, hD.weaken (fun _ _ _ _ => trivial), by rw [hU]; exact ((hZ.kept hS.2.1).narrow hf9).moved hW.alike, hN.warm hW⟩⟩ rfl rfl hl.1 rfl (lv_room (Nat.le_of_ble_eq_true rfl)) dX7_putAway_78 (room_s hT33 hbl)) hS (fun q _ h => hf9 q h) hf9 (fun ad34 t H locs ht hvm hw hB hz1 hk1 hS => ?_)
            have hn35 := hw
            obtain ⟨hP, hK9, hD9⟩ := hB
            rw [ht] at hP
            have hD := hD9.weaken (fun _ q _ h => hf9 q.1 h)
            rw [xt_xt, ← eL33] at hP hD
            refine W_cs (k := L33.length) (n := wt L33) (by rw [eL33]; exact (len_s L6 y30.1).symm) (by rw [eL33]; exact (wt_app L6 y30.1).symm) ?_
            have hT : y.1 = L33 ++ w32.1 := by rw [hT33, eL33]
            have h2 : y.2 = w32.2 := by rw [h2, ew32]
            have hl := lv_sub (l' := [(0, .ref (ad7 a)), (1, va_re ad7 p0)]) hl [1, 2] rfl
            have e9 : ([(0, .ref (ad7 a)), (1, va_re ad7 p0)] : List (Nat × Value)) = [(0, .ref (ad34 a)), (1, va_re ad34 p0)] := (by first | rfl | simp only [hn35 a hc, agr_re hn35 hq31])
            rw [e9] at hl
            clear e9
            have hk : (xt G L33).2.1 a = 7 := by rw [eL33]; exact xt_k _ hc hk
            have hc : a < (xt G L33).1 := by rw [eL33]; exact xt_l _ hc
            have hk9 : (xt G L33).2.1 b9 = 4 := by rw [eL33]; exact xt_k _ hc9 hk9
            have hc9 : b9 < (xt G L33).1 := by rw [eL33]; exact xt_l _ hc9
            have hk26 : (xt G L33).2.1 b26 = 4 := by rw [eL33]; exact xt_k _ hc26 hk26
            have hc26 : b26 < (xt G L33).1 := by rw [eL33]; exact xt_l _ hc26
            have hag := agr_t (xt_ge _ _) hag hn35
            refine lv_aloadq_n hx hb dX7_putAway_81 rfl (lv_at hl 1 rfl) ?_
            refine lv_iconst (v := (1 : Int32)) hx hb dX7_putAway_82 (by decide) ?_
            refine W_st (st' := [.int (1 : Int32), .ref (ad34 b9)]) (by rw [va_some ho9]) ?_
            obtain ⟨hz9, hF⟩ := chk_some hF
            refine va_put (D := D) (ci := 4) (v := .int (1 : Int32)) (ty := .boolean) (C := RX4) (T := TX4) (N := 18) hx hb hts (mus hf_X4) tyX4 tyX4_ok nmX4 hown hK hP hD hS b9 (wld_o ct ad34 (xt G L33) y30.2 hc9 hk9 (by decide)) rfl 12 (by decide) (hts (.fieldLink RX7 164 "VideoSuite$Picture" "isWaiting" "Z") (mu mw_1466)) (fun _ h9 => h9) rfl (by decide +kernel) (nar_z hz9).1 (nar_z hz9).2 (Nat.le_of_ble_eq_true rfl) dX7_putAway_83 (fun H locs hP hD hS => ?_)
            obtain ⟨M36, eM36, hF⟩ := ltt_some hF
            rw [set_oI ct ad34 (xt G L33) y30.2 hc9 hk9 (by decide) (by rfl), ← eM36] at hP hD
            refine lv_aload_n hx hb dX7_putAway_86 rfl (lv_at hl 0 rfl) ?_
            refine lv_aloadq_n hx hb dX7_putAway_87 rfl (lv_at hl 1 rfl) ?_
            obtain ⟨y37, hy37, hF⟩ := bnd_some hF
            have hf9 := wA_in hD hA9 hS
            refine va_callv (va_runV (As := [va_re ad34 p0]) (rest := []) ⟨hx, hb, hml, hown, hts⟩ (kX7_keep l D ct ad34 Z (xt G L33) M36 H.size a p0 y37 hc hk hy37) (cwV 1 hts gX7_putAway_X7_keep rfl rfl rfl (by decide +kernel) ⟨Nat.le_of_ble_eq_true rfl, Nat.le_of_ble_eq_true rfl⟩) ⟨fun a U g mk q => by obtain ⟨q0, q1, qP, qK, qD, qZ, qN⟩ := q; exact ⟨q0, q1, qP, va_K.moved (u := U) (U := U.calling g mk a) (Vm.Alike.refl U.vm) qK, qD, sF.moved (u := U) (U := U.calling g mk a) (Vm.Alike.refl U.vm) qZ, nF.same rfl qN⟩, va_recv hK hP (ci := 7) (q0 := a) rfl (wld_o ct ad34 (xt G L33) M36 hc hk (by decide)), fun U hU hW => ⟨rfl, by rw [hU], by rw [hU]; exact hP, va_K.moved hW.alike hK, hD.weaken (fun _ _ _ _ => trivial), by rw [hU]; exact ((hZ.kept hS.2.1).narrow hf9).moved hW.alike, hN.warm hW⟩⟩ rfl rfl hl.1 rfl (lv_room (Nat.le_of_ble_eq_true rfl)) dX7_putAway_88 (room_d hT hbl)) hS (fun q _ h => hf9 q h) hf9 (fun u t H locs ht hvm hw hB hz1 hk1 hS => ?_)
            obtain ⟨hP, hK9, hD9⟩ := hB
            rw [ht] at hP
            refine W_cs (k := (L33 : NN).length) (n := wt L33) rfl rfl ?_
            have hD := hD9.weaken (fun _ q _ h => hf9 q.1 h)
            obtain rfl := Option.some.inj hF
            have e1 : y.1 = L33 := by rw [hT]; exact List.append_nil _
            have e2 : y.2 = y37 := h2
            refine W.widen (k := y.1.length) (n := wt y.1) (Nat.le_of_eq (by rw [e1])) (Nat.le_of_eq (by rw [e1])) ?_
            exact W.vret hx hb hr (fun t ht hW => ⟨⟨ad34, rfl, hag, (by unfold kE; rw [e1, e2]; exact ⟨by rw [ht]; exact hP, va_K.moved hW.alike hK, hD⟩)⟩, hS.F ht⟩) hS.2.2 dX7_putAway_91
          · rw [if_neg c29] at hF
            refine lv_aload_n hx hb dX7_putAway_71 rfl (lv_at hl 1 rfl) ?_
            refine lv_aloadq_n hx hb dX7_putAway_72 rfl (lv_at hl 2 rfl) ?_
            obtain ⟨y38, hy38, hF⟩ := bnd_some hF
            obtain ⟨w39, hF, ew39⟩ := app_some hF
            obtain ⟨L40, eL40, hF⟩ := ltt_some hF
            have hT40 : y.1 = (L6 ++ y38.1) ++ w39.1 := by rw [hT, ew39]; simp only [List.append_assoc]
            have hf9 := wA_in hD hA9 hS
            refine va_callv (va_runV (As := [va_re ad7 p0]) (rest := []) ⟨hx, hb, hml, hown, hts⟩ (kX7_putOut l D ct ad7 Z (xt G L6) y8.1 _ a p0 y38 hc hk hy38) (cwV 1 hts gX7_putAway_X7_putOut rfl rfl rfl (by decide +kernel) ⟨Nat.le_of_ble_eq_true rfl, Nat.le_of_ble_eq_true rfl⟩) ⟨fun a U g mk q => by obtain ⟨q0, q1, qP, qK, qD, qZ, qN⟩ := q; exact ⟨q0, q1, qP, va_K.moved (u := U) (U := U.calling g mk a) (Vm.Alike.refl U.vm) qK, qD, sF.moved (u := U) (U := U.calling g mk a) (Vm.Alike.refl U.vm) qZ, nF.same rfl qN⟩, va_recv hK hP (ci := 7) (q0 := a) rfl (wld_o ct ad7 (xt G L6) y8.1 hc hk (by decide)), fun U hU hW => ⟨rfl, by rw [hU], by rw [hU]; exact hP, va_K.moved hW.alike hK, hD.weaken (fun _ _ _ _ => trivial), by rw [hU]; exact ((hZ.kept hS.2.1).narrow hf9).moved hW.alike, hN.warm hW⟩⟩ rfl rfl hl.1 rfl (lv_room (Nat.le_of_ble_eq_true rfl)) dX7_putAway_73 (room_s hT40 hbl)) hS (fun q _ h => hf9 q h) hf9 (fun ad41 t H locs ht hvm hw hB hz1 hk1 hS => ?_)
            have hn42 := hw
            obtain ⟨hP, hK9, hD9⟩ := hB
            rw [ht] at hP
            have hD := hD9.weaken (fun _ q _ h => hf9 q.1 h)
            rw [xt_xt, ← eL40] at hP hD
            refine W_cs (k := L40.length) (n := wt L40) (by rw [eL40]; exact (len_s L6 y38.1).symm) (by rw [eL40]; exact (wt_app L6 y38.1).symm) ?_
            have hT : y.1 = L40 ++ w39.1 := by rw [hT40, eL40]
            have h2 : y.2 = w39.2 := by rw [h2, ew39]
            have hl := lv_sub (l' := []) hl [] rfl
            have hk : (xt G L40).2.1 a = 7 := by rw [eL40]; exact xt_k _ hc hk
            have hc : a < (xt G L40).1 := by rw [eL40]; exact xt_l _ hc
            have hk9 : (xt G L40).2.1 b9 = 4 := by rw [eL40]; exact xt_k _ hc9 hk9
            have hc9 : b9 < (xt G L40).1 := by rw [eL40]; exact xt_l _ hc9
            have hk26 : (xt G L40).2.1 b26 = 4 := by rw [eL40]; exact xt_k _ hc26 hk26
            have hc26 : b26 < (xt G L40).1 := by rw [eL40]; exact xt_l _ hc26
            have hag := agr_t (xt_ge _ _) hag hn42
            obtain rfl := Option.some.inj hF
            have e1 : y.1 = L40 := by rw [hT]; exact List.append_nil _
            have e2 : y.2 = y38.2 := h2
            refine W.widen (k := y.1.length) (n := wt y.1) (Nat.le_of_eq (by rw [e1])) (Nat.le_of_eq (by rw [e1])) ?_
            exact W.vret hx hb hr (fun t ht hW => ⟨⟨ad41, rfl, hag, (by unfold kE; rw [e1, e2]; exact ⟨by rw [ht]; exact hP, va_K.moved hW.alike hK, hD⟩)⟩, hS.F ht⟩) hS.2.2 dX7_putAway_76
    clear hF
    obtain ⟨w43, hw43⟩ : ∃ z, z = y4 := ⟨_, rfl⟩
    have hF := hy4
    rw [← hw43] at hF
    clear hy4
    have hT : L6 = [] ++ w43.1 := by rw [eL6, hw43]
    have h2 : y4.2 = w43.2 := by rw [hw43]
    have hbl := hbl6
    refine lv_if_eq (tgt := 41) hx hb dX7_putAway_34 (by decide) (fun c44 => ?_) (fun c44 => ?_)
    · rw [if_pos c44] at hF
      obtain rfl := Option.some.inj hF
      have e1 : L6 = [] := by rw [hT]; exact List.append_nil _
      have e2 : y4.2 = y1.2 := h2
      rw [e1] at J4
      try rw [e2] at J4
      exact J4 _ hag _ _ _ hP hD hS (lv_sub hl [1, 2] rfl)
    · rw [if_neg c44] at hF
      refine lv_aload_n hx hb dX7_putAway_37 rfl (lv_at hl 1 rfl) ?_
      obtain ⟨hq46, hF⟩ := chk_some hF
      obtain ⟨y45, hy45, hF⟩ := bnd_some hF
      obtain ⟨w47, hF, ew47⟩ := app_some hF
      obtain ⟨L48, eL48, hF⟩ := ltt_some hF
      have hT48 : L6 = ([] ++ y45.1) ++ w47.1 := by rw [hT, ew47]; simp only [List.append_assoc]
      have hf9 := wA_in hD hA9 hS
      refine va_callv (va_runV (As := []) (rest := []) ⟨hx, hb, hml, hown, hts⟩ (kX7_putOutAll l D ct ad Z (xt G []) y1.2 _ a y45 hc hk hy45) (cwV 0 hts gX7_putAway_X7_putOutAll rfl rfl rfl (by decide +kernel) ⟨Nat.le_of_ble_eq_true rfl, Nat.le_of_ble_eq_true rfl⟩) ⟨fun a U g mk q => by obtain ⟨q0, q1, qP, qK, qD, qZ, qN⟩ := q; exact ⟨q0, q1, qP, va_K.moved (u := U) (U := U.calling g mk a) (Vm.Alike.refl U.vm) qK, qD, sF.moved (u := U) (U := U.calling g mk a) (Vm.Alike.refl U.vm) qZ, nF.same rfl qN⟩, va_recv hK hP (ci := 7) (q0 := a) rfl (wld_o ct ad (xt G []) y1.2 hc hk (by decide)), fun U hU hW => ⟨rfl, by rw [hU], by rw [hU]; exact hP, va_K.moved hW.alike hK, hD.weaken (fun _ _ _ _ => trivial), by rw [hU]; exact ((hZ.kept hS.2.1).narrow hf9).moved hW.alike, hN.warm hW⟩⟩ rfl rfl hl.1 rfl (lv_room (Nat.le_of_ble_eq_true rfl)) dX7_putAway_38 (room_s hT48 hbl)) hS (fun q _ h => hf9 q h) hf9 (fun ad49 t H locs ht hvm hw hB hz1 hk1 hS => ?_)
      have hn50 := hw
      obtain ⟨hP, hK9, hD9⟩ := hB
      rw [ht] at hP
      have hD := hD9.weaken (fun _ q _ h => hf9 q.1 h)
      rw [xt_xt, ← eL48] at hP hD
      refine W_cs (k := L48.length) (n := wt L48) (by rw [eL48]; exact (len_s [] y45.1).symm) (by rw [eL48]; exact (wt_app [] y45.1).symm) ?_
      have hT : L6 = L48 ++ w47.1 := by rw [hT48, eL48]
      have h2 : y4.2 = w47.2 := by rw [h2, ew47]
      have hl := lv_sub (l' := [(0, .ref (ad a)), (1, va_re ad p0)]) hl [1, 2] rfl
      have e9 : ([(0, .ref (ad a)), (1, va_re ad p0)] : List (Nat × Value)) = [(0, .ref (ad49 a)), (1, va_re ad49 p0)] := (by first | rfl | simp only [hn50 a hc, agr_re hn50 hq46])
      rw [e9] at hl
      clear e9
      have hk : (xt G L48).2.1 a = 7 := by rw [eL48]; exact xt_k _ hc hk
      have hc : a < (xt G L48).1 := by rw [eL48]; exact xt_l _ hc
      have hag := agr_t (xt_ge _ _) hag hn50
      obtain rfl := Option.some.inj hF
      have e1 : L6 = L48 := by rw [hT]; exact List.append_nil _
      have e2 : y4.2 = y45.2 := h2
      rw [e1] at J4
      try rw [e2] at J4
      exact J4 _ hag _ _ _ hP hD hS (lv_sub hl [0, 1] rfl)
  clear hF
  refine itr_rule (fun (s2 : Int32 × DD) => ∀ (H : Heap) (locs : List Loc) (ls : Array Slot), va_P D classes (wld ct ad (xt G []) s2.2) H → va_D A (wld ct ad (xt G []) s2.2) → va_S A s.heap H locs → lv_has ls 5 [(4, .int s2.1), (0, .ref (ad a)), (1, va_re ad p0), (2, .int p1), (3, .int p2)] → W p l e (headSpec wuX7_putAway ({ frames := 4, cells := y.1.length, slots := wt y.1, locals := 153 })).room s m ([.ref (ad a), va_re ad p0, .int p1, .int p2] : List Value).toArray below meth c H locs ([] : NN).length (wt []) (MQ below (va_Qv (fun (u : Nat → Nat) => agr G.1 ad u) (fun u t => kE D ct u (xt G y.1) A y.2 t) A) ([.ref (ad a), va_re ad p0, .int p1, .int p2] : List Value).toArray s y.1.length (wt y.1) A) (F0 m 3 ls [])) ?_ _ _ hy1 _ _ _ hP hD hS (lv_sub hl [0, 1, 2, 3, 4] rfl)
  rintro s2 ⟨z51, hF, hwz51⟩ H locs ls hP hD hS hl
  try dsimp only at hF
  refine lv_iload hx hb dX7_putAway_3 (lv_at hl 0 rfl) ?_
  refine lv_aload_n hx hb dX7_putAway_5 rfl (lv_at hl 1 rfl) ?_
  refine va_get (D := D) (ci := 7) (v := .int (s2.2.1 a 3)) (C := RX7) (T := TX7) (N := 17) hx hb hts (mus hf_X7) hown hK hP a (wld_o ct ad (xt G []) s2.2 hc hk (by decide)) rfl 3 (by decide) (hts (.fieldLink RX7 29 "VideoSuite$Store" "count" "I") (mu mw_358)) (fun _ h9 => h9) rfl dX7_putAway_6 ?_
  obtain ⟨x52, ex52, hF⟩ := ltt_some hF
  refine lv_topi (fun zx52 ezx52 => ?_)
  obtain rfl : x52 = zx52 := ex52.trans ezx52.symm
  refine lv_icmp_ge (tgt := 33) hx hb dX7_putAway_9 (by decide) (fun c53 => ?_) (fun c53 => ?_)
  · rw [if_pos c53] at hF
    obtain rfl := Option.some.inj hF
    subst hwz51
    exact K1 _ _ _ hP hD hS (lv_sub hl [0, 1, 2, 3, 4] rfl)
  · rw [if_neg c53] at hF
    refine lv_iload_n hx hb dX7_putAway_12 rfl (lv_at hl 4 rfl) ?_
    refine lv_if_eq (tgt := 33) hx hb dX7_putAway_13 (by decide) (fun c54 => ?_) (fun c54 => ?_)
    · rw [if_pos c54] at hF
      obtain rfl := Option.some.inj hF
      subst hwz51
      exact K1 _ _ _ hP hD hS (lv_sub hl [0, 1, 2, 3, 4] rfl)
    · rw [if_neg c54] at hF
      refine lv_aload_n hx hb dX7_putAway_16 rfl (lv_at hl 1 rfl) ?_
      refine va_get (D := D) (ci := 7) (v := va_re ad (s2.2.2 a 2)) (C := RX7) (T := TX7) (N := 17) hx hb hts (mus hf_X7) hown hK hP a (wld_o ct ad (xt G []) s2.2 hc hk (by decide)) rfl 2 (by decide) (hts (.fieldLink RX7 17 "VideoSuite$Store" "kept" "[LVideoSuite$Picture;") (mu mw_357)) (fun _ h9 => h9) rfl dX7_putAway_17 ?_
      refine lv_iload hx hb dX7_putAway_20 (lv_at hl 0 rfl) ?_
      obtain ⟨b55, ho55, hc55, hk55, hF⟩ := dr_some hF
      refine W_st (st' := [.int s2.1, .ref (ad b55)]) (by rw [va_some ho55]) ?_
      obtain ⟨hvc, hF⟩ := chk_some hF
      refine ld_q hx hb hK hP hc55 hk55 hvc dX7_putAway_22 ?_
      refine lv_iconst (v := (0 : Int32)) hx hb dX7_putAway_23 (by decide) ?_
      obtain ⟨b56, ho56, hc56, hk56, hF⟩ := dr_some hF
      refine W_st (st' := [.int (0 : Int32), .ref (ad b56)]) (by rw [va_some ho56]) ?_
      obtain ⟨hz9, hF⟩ := chk_some hF
      refine va_put (D := D) (ci := 4) (v := .int (0 : Int32)) (ty := .boolean) (C := RX4) (T := TX4) (N := 18) hx hb hts (mus hf_X4) tyX4 tyX4_ok nmX4 hown hK hP hD hS b56 (wld_o ct ad (xt G []) s2.2 hc56 hk56 (by decide)) rfl 12 (by decide) (hts (.fieldLink RX7 164 "VideoSuite$Picture" "isWaiting" "Z") (mu mw_1466)) (fun _ h9 => h9) rfl (by decide +kernel) (nar_z hz9).1 (nar_z hz9).2 (Nat.le_of_ble_eq_true rfl) dX7_putAway_24 (fun H locs hP hD hS => ?_)
      obtain ⟨M57, eM57, hF⟩ := ltt_some hF
      rw [set_oI ct ad (xt G []) s2.2 hc56 hk56 (by decide) (by rfl), ← eM57] at hP hD
      obtain ⟨x58, ex58, hF⟩ := ltt_some hF
      refine lv_iinc (v := x58) (lv' := [(4, .int x58), (0, .ref (ad a)), (1, va_re ad p0), (2, .int p1), (3, .int p2)]) hx hb dX7_putAway_27 hl (k := 0) rfl (by rw [ex58]; rfl) (by decide) rfl (fun ls hl => ?_)
      refine lv_goto (tgt := 3) hx hb dX7_putAway_30 (by decide) ?_
      obtain rfl := Option.some.inj hF
      exact hwz51 _ _ _ hP hD hS (lv_sub hl [0, 1, 2, 3, 4] rfl)
set_option maxRecDepth 20000 in
theorem gX9_clearBlock_J7_fill_fda19 : GoodIn wuX9_clearBlock (va_wsS RX9 67 yJ7_fill_fda19 wuJ7_fill_fda19) := gu_S mw_1555 mw_1556 mw_182 mw_1557
set_option maxRecDepth 20000 in
set_option maxRecDepth 20000 in
theorem gX9_clearBlock_X9_levelAt : GoodIn wuX9_clearBlock (va_wsS RX9 73 yX9_levelAt wuX9_levelAt) := gu_S mw_1788 mw_1789 mw_171 mw_1790
set_option maxRecDepth 20000 in
set_option maxRecDepth 20000 in
theorem gX9_clearBlock_X9_clearMoves : GoodIn wuX9_clearBlock (wsV RX9 77 RX9 yX9_clearMoves wuX9_clearMoves) := gu_V mw_1791 mw_1792 mw_1793 mw_171 mw_1794
theorem dX9_clearBlock_0 : decode cX9_clearBlock 0 = .ok (.aload_n 0, 1) := by decide +kernel
theorem dX9_clearBlock_1 : decode cX9_clearBlock 1 = .ok (.getfield 24, 3) := by decide +kernel
theorem dX9_clearBlock_4 : decode cX9_clearBlock 4 = .ok (.bipush 8, 2) := by decide +kernel
theorem dX9_clearBlock_6 : decode cX9_clearBlock 6 = .ok (.iload_n 1, 1) := by decide +kernel
theorem dX9_clearBlock_7 : decode cX9_clearBlock 7 = .ok (.imul, 1) := by decide +kernel
theorem dX9_clearBlock_8 : decode cX9_clearBlock 8 = .ok (.bipush 8, 2) := by decide +kernel
theorem dX9_clearBlock_10 : decode cX9_clearBlock 10 = .ok (.iload_n 1, 1) := by decide +kernel
theorem dX9_clearBlock_11 : decode cX9_clearBlock 11 = .ok (.imul, 1) := by decide +kernel
theorem dX9_clearBlock_12 : decode cX9_clearBlock 12 = .ok (.bipush 8, 2) := by decide +kernel
theorem dX9_clearBlock_14 : decode cX9_clearBlock 14 = .ok (.iadd, 1) := by decide +kernel
theorem dX9_clearBlock_15 : decode cX9_clearBlock 15 = .ok (.iconst 0, 1) := by decide +kernel
theorem dX9_clearBlock_16 : decode cX9_clearBlock 16 = .ok (.invokestatic 67, 3) := by decide +kernel
theorem dX9_clearBlock_19 : decode cX9_clearBlock 19 = .ok (.aload_n 0, 1) := by decide +kernel
theorem dX9_clearBlock_20 : decode cX9_clearBlock 20 = .ok (.getfield 24, 3) := by decide +kernel
theorem dX9_clearBlock_23 : decode cX9_clearBlock 23 = .ok (.bipush 8, 2) := by decide +kernel
theorem dX9_clearBlock_25 : decode cX9_clearBlock 25 = .ok (.iload_n 1, 1) := by decide +kernel
theorem dX9_clearBlock_26 : decode cX9_clearBlock 26 = .ok (.imul, 1) := by decide +kernel
theorem dX9_clearBlock_27 : decode cX9_clearBlock 27 = .ok (.iconst 0, 1) := by decide +kernel
theorem dX9_clearBlock_28 : decode cX9_clearBlock 28 = .ok (.iadd, 1) := by decide +kernel
theorem dX9_clearBlock_29 : decode cX9_clearBlock 29 = .ok (.iconst (-1), 1) := by decide +kernel
theorem dX9_clearBlock_30 : decode cX9_clearBlock 30 = .ok (.iastore, 1) := by decide +kernel
theorem dX9_clearBlock_31 : decode cX9_clearBlock 31 = .ok (.aload_n 0, 1) := by decide +kernel
theorem dX9_clearBlock_32 : decode cX9_clearBlock 32 = .ok (.getfield 24, 3) := by decide +kernel
theorem dX9_clearBlock_35 : decode cX9_clearBlock 35 = .ok (.bipush 8, 2) := by decide +kernel
theorem dX9_clearBlock_37 : decode cX9_clearBlock 37 = .ok (.iload_n 1, 1) := by decide +kernel
theorem dX9_clearBlock_38 : decode cX9_clearBlock 38 = .ok (.imul, 1) := by decide +kernel
theorem dX9_clearBlock_39 : decode cX9_clearBlock 39 = .ok (.iconst 1, 1) := by decide +kernel
theorem dX9_clearBlock_40 : decode cX9_clearBlock 40 = .ok (.iadd, 1) := by decide +kernel
theorem dX9_clearBlock_41 : decode cX9_clearBlock 41 = .ok (.iconst (-1), 1) := by decide +kernel
theorem dX9_clearBlock_42 : decode cX9_clearBlock 42 = .ok (.iastore, 1) := by decide +kernel
theorem dX9_clearBlock_43 : decode cX9_clearBlock 43 = .ok (.aload_n 0, 1) := by decide +kernel
theorem dX9_clearBlock_44 : decode cX9_clearBlock 44 = .ok (.getfield 24, 3) := by decide +kernel
theorem dX9_clearBlock_47 : decode cX9_clearBlock 47 = .ok (.bipush 8, 2) := by decide +kernel
theorem dX9_clearBlock_49 : decode cX9_clearBlock 49 = .ok (.iload_n 1, 1) := by decide +kernel
theorem dX9_clearBlock_50 : decode cX9_clearBlock 50 = .ok (.imul, 1) := by decide +kernel
theorem dX9_clearBlock_51 : decode cX9_clearBlock 51 = .ok (.bipush 6, 2) := by decide +kernel
theorem dX9_clearBlock_53 : decode cX9_clearBlock 53 = .ok (.iadd, 1) := by decide +kernel
theorem dX9_clearBlock_54 : decode cX9_clearBlock 54 = .ok (.iconst (-1), 1) := by decide +kernel
theorem dX9_clearBlock_55 : decode cX9_clearBlock 55 = .ok (.iastore, 1) := by decide +kernel
theorem dX9_clearBlock_56 : decode cX9_clearBlock 56 = .ok (.aload_n 0, 1) := by decide +kernel
theorem dX9_clearBlock_57 : decode cX9_clearBlock 57 = .ok (.getfield 27, 3) := by decide +kernel
theorem dX9_clearBlock_60 : decode cX9_clearBlock 60 = .ok (.bipush 16, 2) := by decide +kernel
theorem dX9_clearBlock_62 : decode cX9_clearBlock 62 = .ok (.iload_n 1, 1) := by decide +kernel
theorem dX9_clearBlock_63 : decode cX9_clearBlock 63 = .ok (.imul, 1) := by decide +kernel
theorem dX9_clearBlock_64 : decode cX9_clearBlock 64 = .ok (.bipush 16, 2) := by decide +kernel
theorem dX9_clearBlock_66 : decode cX9_clearBlock 66 = .ok (.iload_n 1, 1) := by decide +kernel
theorem dX9_clearBlock_67 : decode cX9_clearBlock 67 = .ok (.imul, 1) := by decide +kernel
theorem dX9_clearBlock_68 : decode cX9_clearBlock 68 = .ok (.bipush 16, 2) := by decide +kernel
theorem dX9_clearBlock_70 : decode cX9_clearBlock 70 = .ok (.iadd, 1) := by decide +kernel
theorem dX9_clearBlock_71 : decode cX9_clearBlock 71 = .ok (.iconst 2, 1) := by decide +kernel
theorem dX9_clearBlock_72 : decode cX9_clearBlock 72 = .ok (.invokestatic 67, 3) := by decide +kernel
theorem dX9_clearBlock_75 : decode cX9_clearBlock 75 = .ok (.aload_n 0, 1) := by decide +kernel
theorem dX9_clearBlock_76 : decode cX9_clearBlock 76 = .ok (.getfield 30, 3) := by decide +kernel
theorem dX9_clearBlock_79 : decode cX9_clearBlock 79 = .ok (.bipush 24, 2) := by decide +kernel
theorem dX9_clearBlock_81 : decode cX9_clearBlock 81 = .ok (.iload_n 1, 1) := by decide +kernel
theorem dX9_clearBlock_82 : decode cX9_clearBlock 82 = .ok (.imul, 1) := by decide +kernel
theorem dX9_clearBlock_83 : decode cX9_clearBlock 83 = .ok (.bipush 24, 2) := by decide +kernel
theorem dX9_clearBlock_85 : decode cX9_clearBlock 85 = .ok (.iload_n 1, 1) := by decide +kernel
theorem dX9_clearBlock_86 : decode cX9_clearBlock 86 = .ok (.imul, 1) := by decide +kernel
theorem dX9_clearBlock_87 : decode cX9_clearBlock 87 = .ok (.bipush 24, 2) := by decide +kernel
theorem dX9_clearBlock_89 : decode cX9_clearBlock 89 = .ok (.iadd, 1) := by decide +kernel
theorem dX9_clearBlock_90 : decode cX9_clearBlock 90 = .ok (.iconst 0, 1) := by decide +kernel
theorem dX9_clearBlock_91 : decode cX9_clearBlock 91 = .ok (.invokestatic 67, 3) := by decide +kernel
theorem dX9_clearBlock_94 : decode cX9_clearBlock 94 = .ok (.aload_n 0, 1) := by decide +kernel
theorem dX9_clearBlock_95 : decode cX9_clearBlock 95 = .ok (.getfield 33, 3) := by decide +kernel
theorem dX9_clearBlock_98 : decode cX9_clearBlock 98 = .ok (.iload_n 1, 1) := by decide +kernel
theorem dX9_clearBlock_99 : decode cX9_clearBlock 99 = .ok (.iconst 0, 1) := by decide +kernel
theorem dX9_clearBlock_100 : decode cX9_clearBlock 100 = .ok (.invokestatic 73, 3) := by decide +kernel
theorem dX9_clearBlock_103 : decode cX9_clearBlock 103 = .ok (.iload_n 1, 1) := by decide +kernel
theorem dX9_clearBlock_104 : decode cX9_clearBlock 104 = .ok (.iconst 1, 1) := by decide +kernel
theorem dX9_clearBlock_105 : decode cX9_clearBlock 105 = .ok (.iadd, 1) := by decide +kernel
theorem dX9_clearBlock_106 : decode cX9_clearBlock 106 = .ok (.iconst 0, 1) := by decide +kernel
theorem dX9_clearBlock_107 : decode cX9_clearBlock 107 = .ok (.invokestatic 73, 3) := by decide +kernel
theorem dX9_clearBlock_110 : decode cX9_clearBlock 110 = .ok (.iconst 0, 1) := by decide +kernel
theorem dX9_clearBlock_111 : decode cX9_clearBlock 111 = .ok (.invokestatic 67, 3) := by decide +kernel
theorem dX9_clearBlock_114 : decode cX9_clearBlock 114 = .ok (.aload_n 0, 1) := by decide +kernel
theorem dX9_clearBlock_115 : decode cX9_clearBlock 115 = .ok (.getfield 36, 3) := by decide +kernel
theorem dX9_clearBlock_118 : decode cX9_clearBlock 118 = .ok (.iconst 3, 1) := by decide +kernel
theorem dX9_clearBlock_119 : decode cX9_clearBlock 119 = .ok (.iload_n 1, 1) := by decide +kernel
theorem dX9_clearBlock_120 : decode cX9_clearBlock 120 = .ok (.imul, 1) := by decide +kernel
theorem dX9_clearBlock_121 : decode cX9_clearBlock 121 = .ok (.iconst 3, 1) := by decide +kernel
theorem dX9_clearBlock_122 : decode cX9_clearBlock 122 = .ok (.iload_n 1, 1) := by decide +kernel
theorem dX9_clearBlock_123 : decode cX9_clearBlock 123 = .ok (.imul, 1) := by decide +kernel
theorem dX9_clearBlock_124 : decode cX9_clearBlock 124 = .ok (.iconst 3, 1) := by decide +kernel
theorem dX9_clearBlock_125 : decode cX9_clearBlock 125 = .ok (.iadd, 1) := by decide +kernel
theorem dX9_clearBlock_126 : decode cX9_clearBlock 126 = .ok (.iconst 0, 1) := by decide +kernel
theorem dX9_clearBlock_127 : decode cX9_clearBlock 127 = .ok (.invokestatic 67, 3) := by decide +kernel
theorem dX9_clearBlock_130 : decode cX9_clearBlock 130 = .ok (.aload_n 0, 1) := by decide +kernel
theorem dX9_clearBlock_131 : decode cX9_clearBlock 131 = .ok (.iload_n 1, 1) := by decide +kernel
theorem dX9_clearBlock_132 : decode cX9_clearBlock 132 = .ok (.invokevirtual 77, 3) := by decide +kernel
theorem dX9_clearBlock_135 : decode cX9_clearBlock 135 = .ok (.return_, 1) := by decide +kernel
def FX9_clearBlock (G : GG) (M : DD) (a : Nat) (p0 : Int32) : Option (DD) :=
  ltt ((((8 : Int32)) * p0)) fun x1 =>
  ltt ((((8 : Int32)) * p0)) fun x2 =>
  ltt ((x2 + ((8 : Int32)))) fun x3 =>
  bnd (FJ7_fill_fda19 G M ((M.2 a 6)) x1 x3 ((0 : Int32))) fun y4 =>
  ltt ((((8 : Int32)) * p0)) fun x5 =>
  ltt ((x5 + ((0 : Int32)))) fun x6 =>
  dr G 13 ((y4.2 a 6)) fun b7 =>
  chk (¬ (x6 < 0 ∨ G.2.2 b7 ≤ x6.toNatClampNeg)) <|
  ltt (uI y4 b7 x6.toNatClampNeg ((-1 : Int32))) fun M8 =>
  ltt ((((8 : Int32)) * p0)) fun x9 =>
  ltt ((x9 + ((1 : Int32)))) fun x10 =>
  dr G 13 ((M8.2 a 6)) fun b11 =>
  chk (¬ (x10 < 0 ∨ G.2.2 b11 ≤ x10.toNatClampNeg)) <|
  ltt (uI M8 b11 x10.toNatClampNeg ((-1 : Int32))) fun M12 =>
  ltt ((((8 : Int32)) * p0)) fun x13 =>
  ltt ((x13 + ((6 : Int32)))) fun x14 =>
  dr G 13 ((M12.2 a 6)) fun b15 =>
  chk (¬ (x14 < 0 ∨ G.2.2 b15 ≤ x14.toNatClampNeg)) <|
  ltt (uI M12 b15 x14.toNatClampNeg ((-1 : Int32))) fun M16 =>
  ltt ((((16 : Int32)) * p0)) fun x17 =>
  ltt ((((16 : Int32)) * p0)) fun x18 =>
  ltt ((x18 + ((16 : Int32)))) fun x19 =>
  bnd (FJ7_fill_fda19 G M16 ((M16.2 a 7)) x17 x19 ((2 : Int32))) fun y20 =>
  ltt ((((24 : Int32)) * p0)) fun x21 =>
  ltt ((((24 : Int32)) * p0)) fun x22 =>
  ltt ((x22 + ((24 : Int32)))) fun x23 =>
  bnd (FJ7_fill_fda19 G y20 ((y20.2 a 8)) x21 x23 ((0 : Int32))) fun y24 =>
  bnd (FX9_levelAt G y24 p0 ((0 : Int32))) fun y25 =>
  ltt ((p0 + ((1 : Int32)))) fun x26 =>
  bnd (FX9_levelAt G y25.1 x26 ((0 : Int32))) fun y27 =>
  bnd (FJ7_fill_fda19 G y27.1 ((y24.2 a 9)) y25.2 y27.2 ((0 : Int32))) fun y28 =>
  ltt ((((3 : Int32)) * p0)) fun x29 =>
  ltt ((((3 : Int32)) * p0)) fun x30 =>
  ltt ((x30 + ((3 : Int32)))) fun x31 =>
  bnd (FJ7_fill_fda19 G y28 ((y28.2 a 10)) x29 x31 ((0 : Int32))) fun y32 =>
  bnd (FX9_clearMoves G y32 a p0) fun y33 =>
  some y33
set_option maxHeartbeats 4000000 in
set_option maxRecDepth 100000 in
theorem kX9_clearBlock (l : Launch) (D : va_G) (ct : CT) (ad : Nat → Nat) (Z : Nat → Nat) (G : GG) (M : DD) (sz : Nat) (a : Nat) (p0 : Int32) (y : DD) (hc : a < G.1) (hk : G.2.1 a = 9) (hF : FX9_clearBlock G M a p0 = some y) : Met l yX9_clearBlock wuX9_clearBlock ({ frames := 3, cells := 0, slots := 0, locals := 69 }) (va_Pc [.ref (ad a), .int p0] (kB D ct ad Z G M sz)) (va_Qv (fun (_ : Unit) => True) (fun _ t => kE D ct ad G (wA ad G sz) y t) (wA ad G sz)) 0 0 (wA ad G sz) := by
  refine Met.ofW (cc := cX9_clearBlock) (maxL := 2) (ret := none) (by decide) rfl ?_
  intro p e s m args below meth c s₁ B hml hv
  obtain ⟨rfl, hsz, hP, hK, hD0, hZ, hN⟩ := hv
  have hx := B.exec
  have hb := B.bytes
  have hr := B.returns
  have hts := atoms_spec (ws := wuX9_clearBlock) B.pre
  have hown : s.vm.findClass RX9 = some m.cls := findClass_of_methodNamed B.named
  have hlocks := B.notSynchronized
  subst hsz
  have hD := wD_self (sz := s.heap.size) hD0
  have hA9 : ∀ q, s.heap.size ≤ q → wA ad G s.heap.size q := fun q h => Or.inr h
  generalize hAe : wA ad G s.heap.size = A at hD hA9 hZ ⊢
  have hS : va_S A s.heap s.heap [] := va_S.rf
  have hl := lv_entry ([.ref (ad a), .int p0]) (n := 2) (Nat.le_of_ble_eq_true rfl)
  rw [lg_entry_eq]
  generalize (lg_sl ([.ref (ad a), .int p0]) ++ List.replicate (2 - (lg_sl ([.ref (ad a), .int p0])).length) Slot.unset).toArray = ls at hl ⊢
  have hl : lv_has ls 2 [(0, .ref (ad a)), (1, .int p0)] := hl
  unfold FX9_clearBlock at hF
  refine lv_aload_n hx hb dX9_clearBlock_0 rfl (lv_at hl 0 rfl) ?_
  refine va_get (D := D) (ci := 9) (v := va_re ad (M.2 a 6)) (C := RX9) (T := TX9) (N := 20) hx hb hts (mus hf_X9) hown hK hP a (wld_o ct ad G M hc hk (by decide)) rfl 6 (by decide) (hts (.fieldLink RX9 24 "VideoSuite$Work" "info" "[I") (mu mw_442)) (fun _ h9 => h9) rfl dX9_clearBlock_1 ?_
  refine lv_bipush (v := (8 : Int32)) hx hb dX9_clearBlock_4 (by decide) ?_
  refine lv_iload_n hx hb dX9_clearBlock_6 rfl (lv_at hl 1 rfl) ?_
  refine lv_imul hx hb dX9_clearBlock_7 ?_
  obtain ⟨x1, ex1, hF⟩ := ltt_some hF
  refine lv_topi (fun zx1 ezx1 => ?_)
  obtain rfl : x1 = zx1 := ex1.trans ezx1.symm
  refine lv_bipush (v := (8 : Int32)) hx hb dX9_clearBlock_8 (by decide) ?_
  refine lv_iload_n hx hb dX9_clearBlock_10 rfl (lv_at hl 1 rfl) ?_
  refine lv_imul hx hb dX9_clearBlock_11 ?_
  obtain ⟨x2, ex2, hF⟩ := ltt_some hF
  refine lv_topi (fun zx2 ezx2 => ?_)
  obtain rfl : x2 = zx2 := ex2.trans ezx2.symm
  refine lv_bipush (v := (8 : Int32)) hx hb dX9_clearBlock_12 (by decide) ?_
  refine lv_iadd hx hb dX9_clearBlock_14 ?_
  obtain ⟨x3, ex3, hF⟩ := ltt_some hF
  refine lv_topi (fun zx3 ezx3 => ?_)
  obtain rfl : x3 = zx3 := ex3.trans ezx3.symm
  refine lv_iconst (v := (0 : Int32)) hx hb dX9_clearBlock_15 (by decide) ?_
  obtain ⟨y4, hy4, hF⟩ := bnd_some hF
  have hf9 := wA_in hD hA9 hS
  refine va_callv (va_runS (As := [va_re ad (M.2 a 6), .int x1, .int x3, .int (0 : Int32)]) (rest := []) ⟨hx, hb, hml, hown, hts⟩ (kJ7_fill_fda19 l D ct ad Z G M s.heap.size ((M.2 a 6)) x1 x3 ((0 : Int32)) y4 hy4) (va_cwS 4 hts gX9_clearBlock_J7_fill_fda19 rfl rfl rfl (by decide +kernel) ⟨Nat.le_of_ble_eq_true rfl, Nat.le_of_ble_eq_true rfl⟩) ⟨fun a U g mk q => by obtain ⟨q0, q1, qP, qK, qD, qZ, qN⟩ := q; exact ⟨q0, q1, qP, va_K.moved (u := U) (U := U.calling g mk a) (Vm.Alike.refl U.vm) qK, qD, sF.moved (u := U) (U := U.calling g mk a) (Vm.Alike.refl U.vm) qZ, nF.same rfl qN⟩, fun U hU hW => ⟨rfl, by rw [hU], by rw [hU]; exact hP, va_K.moved hW.alike hK, hD.weaken (fun _ _ _ _ => trivial), by rw [hU]; exact ((hZ.kept hS.2.1).narrow hf9).moved hW.alike, hN.warm hW⟩⟩ rfl rfl hl.1 rfl (lv_room (Nat.le_of_ble_eq_true rfl)) dX9_clearBlock_16 ⟨(Nat.zero_le _), (Nat.zero_le _)⟩) hS (fun q _ h => hf9 q h) hf9 (fun u t H locs ht hvm hw hB hz1 hk1 hS => ?_)
  obtain ⟨hP, hK9, hD9⟩ := hB
  rw [ht] at hP
  have hD := hD9.weaken (fun _ q _ h => hf9 q.1 h)
  refine lv_aload_n hx hb dX9_clearBlock_19 rfl (lv_at hl 0 rfl) ?_
  refine va_get (D := D) (ci := 9) (v := va_re ad (y4.2 a 6)) (C := RX9) (T := TX9) (N := 20) hx hb hts (mus hf_X9) hown hK hP a (wld_o ct ad G y4 hc hk (by decide)) rfl 6 (by decide) (hts (.fieldLink RX9 24 "VideoSuite$Work" "info" "[I") (mu mw_442)) (fun _ h9 => h9) rfl dX9_clearBlock_20 ?_
  refine lv_bipush (v := (8 : Int32)) hx hb dX9_clearBlock_23 (by decide) ?_
  refine lv_iload_n hx hb dX9_clearBlock_25 rfl (lv_at hl 1 rfl) ?_
  refine lv_imul hx hb dX9_clearBlock_26 ?_
  obtain ⟨x5, ex5, hF⟩ := ltt_some hF
  refine lv_topi (fun zx5 ezx5 => ?_)
  obtain rfl : x5 = zx5 := ex5.trans ezx5.symm
  refine lv_iconst (v := (0 : Int32)) hx hb dX9_clearBlock_27 (by decide) ?_
  refine lv_iadd hx hb dX9_clearBlock_28 ?_
  obtain ⟨x6, ex6, hF⟩ := ltt_some hF
  refine lv_topi (fun zx6 ezx6 => ?_)
  obtain rfl : x6 = zx6 := ex6.trans ezx6.symm
  refine lv_iconst (v := (-1 : Int32)) hx hb dX9_clearBlock_29 (by decide) ?_
  obtain ⟨b7, ho7, hc7, hk7, hF⟩ := dr_some hF
  refine W_st (st' := [.int (-1 : Int32), .int x6, .ref (ad b7)]) (by rw [va_some ho7]) ?_
  obtain ⟨hvc, hF⟩ := chk_some hF
  refine va_iast hx hb hK hP hD hS b7 1 (wld_i ct ad G y4 hc7 hk7) rfl hvc dX9_clearBlock_30 (fun H locs hP hD hS => ?_)
  obtain ⟨M8, eM8, hF⟩ := ltt_some hF
  rw [set_i ct ad G y4 hc7 hk7, ← eM8] at hP hD
  refine lv_aload_n hx hb dX9_clearBlock_31 rfl (lv_at hl 0 rfl) ?_
  refine va_get (D := D) (ci := 9) (v := va_re ad (M8.2 a 6)) (C := RX9) (T := TX9) (N := 20) hx hb hts (mus hf_X9) hown hK hP a (wld_o ct ad G M8 hc hk (by decide)) rfl 6 (by decide) (hts (.fieldLink RX9 24 "VideoSuite$Work" "info" "[I") (mu mw_442)) (fun _ h9 => h9) rfl dX9_clearBlock_32 ?_
  refine lv_bipush (v := (8 : Int32)) hx hb dX9_clearBlock_35 (by decide) ?_
  refine lv_iload_n hx hb dX9_clearBlock_37 rfl (lv_at hl 1 rfl) ?_
  refine lv_imul hx hb dX9_clearBlock_38 ?_
  obtain ⟨x9, ex9, hF⟩ := ltt_some hF
  refine lv_topi (fun zx9 ezx9 => ?_)
  obtain rfl : x9 = zx9 := ex9.trans ezx9.symm
  refine lv_iconst (v := (1 : Int32)) hx hb dX9_clearBlock_39 (by decide) ?_
  refine lv_iadd hx hb dX9_clearBlock_40 ?_
  obtain ⟨x10, ex10, hF⟩ := ltt_some hF
  refine lv_topi (fun zx10 ezx10 => ?_)
  obtain rfl : x10 = zx10 := ex10.trans ezx10.symm
  refine lv_iconst (v := (-1 : Int32)) hx hb dX9_clearBlock_41 (by decide) ?_
  obtain ⟨b11, ho11, hc11, hk11, hF⟩ := dr_some hF
  refine W_st (st' := [.int (-1 : Int32), .int x10, .ref (ad b11)]) (by rw [va_some ho11]) ?_
  obtain ⟨hvc, hF⟩ := chk_some hF
  refine va_iast hx hb hK hP hD hS b11 1 (wld_i ct ad G M8 hc11 hk11) rfl hvc dX9_clearBlock_42 (fun H locs hP hD hS => ?_)
  obtain ⟨M12, eM12, hF⟩ := ltt_some hF
  rw [set_i ct ad G M8 hc11 hk11, ← eM12] at hP hD
  refine lv_aload_n hx hb dX9_clearBlock_43 rfl (lv_at hl 0 rfl) ?_
  refine va_get (D := D) (ci := 9) (v := va_re ad (M12.2 a 6)) (C := RX9) (T := TX9) (N := 20) hx hb hts (mus hf_X9) hown hK hP a (wld_o ct ad G M12 hc hk (by decide)) rfl 6 (by decide) (hts (.fieldLink RX9 24 "VideoSuite$Work" "info" "[I") (mu mw_442)) (fun _ h9 => h9) rfl dX9_clearBlock_44 ?_
  refine lv_bipush (v := (8 : Int32)) hx hb dX9_clearBlock_47 (by decide) ?_
  refine lv_iload_n hx hb dX9_clearBlock_49 rfl (lv_at hl 1 rfl) ?_
  refine lv_imul hx hb dX9_clearBlock_50 ?_
  obtain ⟨x13, ex13, hF⟩ := ltt_some hF
  refine lv_topi (fun zx13 ezx13 => ?_)
  obtain rfl : x13 = zx13 := ex13.trans ezx13.symm
  refine lv_bipush (v := (6 : Int32)) hx hb dX9_clearBlock_51 (by decide) ?_
  refine lv_iadd hx hb dX9_clearBlock_53 ?_
  obtain ⟨x14, ex14, hF⟩ := ltt_some hF
  refine lv_topi (fun zx14 ezx14 => ?_)
  obtain rfl : x14 = zx14 := ex14.trans ezx14.symm
  refine lv_iconst (v := (-1 : Int32)) hx hb dX9_clearBlock_54 (by decide) ?_
  obtain ⟨b15, ho15, hc15, hk15, hF⟩ := dr_some hF
  refine W_st (st' := [.int (-1 : Int32), .int x14, .ref (ad b15)]) (by rw [va_some ho15]) ?_
  obtain ⟨hvc, hF⟩ := chk_some hF
  refine va_iast hx hb hK hP hD hS b15 1 (wld_i ct ad G M12 hc15 hk15) rfl hvc dX9_clearBlock_55 (fun H locs hP hD hS => ?_)
  obtain ⟨M16, eM16, hF⟩ := ltt_some hF
  rw [set_i ct ad G M12 hc15 hk15, ← eM16] at hP hD
  refine lv_aload_n hx hb dX9_clearBlock_56 rfl (lv_at hl 0 rfl) ?_
  refine va_get (D := D) (ci := 9) (v := va_re ad (M16.2 a 7)) (C := RX9) (T := TX9) (N := 20) hx hb hts (mus hf_X9) hown hK hP a (wld_o ct ad G M16 hc hk (by decide)) rfl 7 (by decide) (hts (.fieldLink RX9 27 "VideoSuite$Work" "mode" "[I") (mu mw_446)) (fun _ h9 => h9) rfl dX9_clearBlock_57 ?_
  refine lv_bipush (v := (16 : Int32)) hx hb dX9_clearBlock_60 (by decide) ?_
  refine lv_iload_n hx hb dX9_clearBlock_62 rfl (lv_at hl 1 rfl) ?_
  refine lv_imul hx hb dX9_clearBlock_63 ?_
  obtain ⟨x17, ex17, hF⟩ := ltt_some hF
  refine lv_topi (fun zx17 ezx17 => ?_)
  obtain rfl : x17 = zx17 := ex17.trans ezx17.symm
  refine lv_bipush (v := (16 : Int32)) hx hb dX9_clearBlock_64 (by decide) ?_
  refine lv_iload_n hx hb dX9_clearBlock_66 rfl (lv_at hl 1 rfl) ?_
  refine lv_imul hx hb dX9_clearBlock_67 ?_
  obtain ⟨x18, ex18, hF⟩ := ltt_some hF
  refine lv_topi (fun zx18 ezx18 => ?_)
  obtain rfl : x18 = zx18 := ex18.trans ezx18.symm
  refine lv_bipush (v := (16 : Int32)) hx hb dX9_clearBlock_68 (by decide) ?_
  refine lv_iadd hx hb dX9_clearBlock_70 ?_
  obtain ⟨x19, ex19, hF⟩ := ltt_some hF
  refine lv_topi (fun zx19 ezx19 => ?_)
  obtain rfl : x19 = zx19 := ex19.trans ezx19.symm
  refine lv_iconst (v := (2 : Int32)) hx hb dX9_clearBlock_71 (by decide) ?_
  obtain ⟨y20, hy20, hF⟩ := bnd_some hF
  have hf9 := wA_in hD hA9 hS
  refine va_callv (va_runS (As := [va_re ad (M16.2 a 7), .int x17, .int x19, .int (2 : Int32)]) (rest := []) ⟨hx, hb, hml, hown, hts⟩ (kJ7_fill_fda19 l D ct ad Z G M16 H.size ((M16.2 a 7)) x17 x19 ((2 : Int32)) y20 hy20) (va_cwS 4 hts gX9_clearBlock_J7_fill_fda19 rfl rfl rfl (by decide +kernel) ⟨Nat.le_of_ble_eq_true rfl, Nat.le_of_ble_eq_true rfl⟩) ⟨fun a U g mk q => by obtain ⟨q0, q1, qP, qK, qD, qZ, qN⟩ := q; exact ⟨q0, q1, qP, va_K.moved (u := U) (U := U.calling g mk a) (Vm.Alike.refl U.vm) qK, qD, sF.moved (u := U) (U := U.calling g mk a) (Vm.Alike.refl U.vm) qZ, nF.same rfl qN⟩, fun U hU hW => ⟨rfl, by rw [hU], by rw [hU]; exact hP, va_K.moved hW.alike hK, hD.weaken (fun _ _ _ _ => trivial), by rw [hU]; exact ((hZ.kept hS.2.1).narrow hf9).moved hW.alike, hN.warm hW⟩⟩ rfl rfl hl.1 rfl (lv_room (Nat.le_of_ble_eq_true rfl)) dX9_clearBlock_72 ⟨(Nat.zero_le _), (Nat.zero_le _)⟩) hS (fun q _ h => hf9 q h) hf9 (fun u t H locs ht hvm hw hB hz1 hk1 hS => ?_)
  obtain ⟨hP, hK9, hD9⟩ := hB
  rw [ht] at hP
  have hD := hD9.weaken (fun _ q _ h => hf9 q.1 h)
  refine lv_aload_n hx hb dX9_clearBlock_75 rfl (lv_at hl 0 rfl) ?_
  refine va_get (D := D) (ci := 9) (v := va_re ad (y20.2 a 8)) (C := RX9) (T := TX9) (N := 20) hx hb hts (mus hf_X9) hown hK hP a (wld_o ct ad G y20 hc hk (by decide)) rfl 8 (by decide) (hts (.fieldLink RX9 30 "VideoSuite$Work" "total" "[I") (mu mw_449)) (fun _ h9 => h9) rfl dX9_clearBlock_76 ?_
  refine lv_bipush (v := (24 : Int32)) hx hb dX9_clearBlock_79 (by decide) ?_
  refine lv_iload_n hx hb dX9_clearBlock_81 rfl (lv_at hl 1 rfl) ?_
  refine lv_imul hx hb dX9_clearBlock_82 ?_
  obtain ⟨x21, ex21, hF⟩ := ltt_some hF
  refine lv_topi (fun zx21 ezx21 => ?_)
  obtain rfl : x21 = zx21 := ex21.trans ezx21.symm
  refine lv_bipush (v := (24 : Int32)) hx hb dX9_clearBlock_83 (by decide) ?_
  refine lv_iload_n hx hb dX9_clearBlock_85 rfl (lv_at hl 1 rfl) ?_
  refine lv_imul hx hb dX9_clearBlock_86 ?_
  obtain ⟨x22, ex22, hF⟩ := ltt_some hF
  refine lv_topi (fun zx22 ezx22 => ?_)
  obtain rfl : x22 = zx22 := ex22.trans ezx22.symm
  refine lv_bipush (v := (24 : Int32)) hx hb dX9_clearBlock_87 (by decide) ?_
  refine lv_iadd hx hb dX9_clearBlock_89 ?_
  obtain ⟨x23, ex23, hF⟩ := ltt_some hF
  refine lv_topi (fun zx23 ezx23 => ?_)
  obtain rfl : x23 = zx23 := ex23.trans ezx23.symm
  refine lv_iconst (v := (0 : Int32)) hx hb dX9_clearBlock_90 (by decide) ?_
  obtain ⟨y24, hy24, hF⟩ := bnd_some hF
  have hf9 := wA_in hD hA9 hS
  refine va_callv (va_runS (As := [va_re ad (y20.2 a 8), .int x21, .int x23, .int (0 : Int32)]) (rest := []) ⟨hx, hb, hml, hown, hts⟩ (kJ7_fill_fda19 l D ct ad Z G y20 H.size ((y20.2 a 8)) x21 x23 ((0 : Int32)) y24 hy24) (va_cwS 4 hts gX9_clearBlock_J7_fill_fda19 rfl rfl rfl (by decide +kernel) ⟨Nat.le_of_ble_eq_true rfl, Nat.le_of_ble_eq_true rfl⟩) ⟨fun a U g mk q => by obtain ⟨q0, q1, qP, qK, qD, qZ, qN⟩ := q; exact ⟨q0, q1, qP, va_K.moved (u := U) (U := U.calling g mk a) (Vm.Alike.refl U.vm) qK, qD, sF.moved (u := U) (U := U.calling g mk a) (Vm.Alike.refl U.vm) qZ, nF.same rfl qN⟩, fun U hU hW => ⟨rfl, by rw [hU], by rw [hU]; exact hP, va_K.moved hW.alike hK, hD.weaken (fun _ _ _ _ => trivial), by rw [hU]; exact ((hZ.kept hS.2.1).narrow hf9).moved hW.alike, hN.warm hW⟩⟩ rfl rfl hl.1 rfl (lv_room (Nat.le_of_ble_eq_true rfl)) dX9_clearBlock_91 ⟨(Nat.zero_le _), (Nat.zero_le _)⟩) hS (fun q _ h => hf9 q h) hf9 (fun u t H locs ht hvm hw hB hz1 hk1 hS => ?_)
  obtain ⟨hP, hK9, hD9⟩ := hB
  rw [ht] at hP
  have hD := hD9.weaken (fun _ q _ h => hf9 q.1 h)
  refine lv_aload_n hx hb dX9_clearBlock_94 rfl (lv_at hl 0 rfl) ?_
  refine va_get (D := D) (ci := 9) (v := va_re ad (y24.2 a 9)) (C := RX9) (T := TX9) (N := 20) hx hb hts (mus hf_X9) hown hK hP a (wld_o ct ad G y24 hc hk (by decide)) rfl 9 (by decide) (hts (.fieldLink RX9 33 "VideoSuite$Work" "level" "[I") (mu mw_454)) (fun _ h9 => h9) rfl dX9_clearBlock_95 ?_
  refine lv_iload_n hx hb dX9_clearBlock_98 rfl (lv_at hl 1 rfl) ?_
  refine lv_iconst (v := (0 : Int32)) hx hb dX9_clearBlock_99 (by decide) ?_
  obtain ⟨y25, hy25, hF⟩ := bnd_some hF
  have hf9 := wA_in hD hA9 hS
  refine va_calli (va_runS (As := [.int p0, .int (0 : Int32)]) (rest := [va_re ad (y24.2 a 9)]) ⟨hx, hb, hml, hown, hts⟩ (kX9_levelAt l D ct ad Z G y24 H.size p0 ((0 : Int32)) y25 hy25) (va_cwS 2 hts gX9_clearBlock_X9_levelAt rfl rfl rfl (by decide +kernel) ⟨Nat.le_of_ble_eq_true rfl, Nat.le_of_ble_eq_true rfl⟩) ⟨fun a U g mk q => by obtain ⟨q0, q1, qP, qK, qD, qZ, qN⟩ := q; exact ⟨q0, q1, qP, va_K.moved (u := U) (U := U.calling g mk a) (Vm.Alike.refl U.vm) qK, qD, sF.moved (u := U) (U := U.calling g mk a) (Vm.Alike.refl U.vm) qZ, nF.same rfl qN⟩, fun U hU hW => ⟨rfl, by rw [hU], by rw [hU]; exact hP, va_K.moved hW.alike hK, hD.weaken (fun _ _ _ _ => trivial), by rw [hU]; exact ((hZ.kept hS.2.1).narrow hf9).moved hW.alike, hN.warm hW⟩⟩ rfl rfl hl.1 rfl (lv_room (by simp only [List.map, va_re_cat]; exact Nat.le_of_ble_eq_true rfl)) dX9_clearBlock_100 ⟨(Nat.zero_le _), (Nat.zero_le _)⟩) hS (fun q _ h => hf9 q h) hf9 (fun r u t H locs ht hvm hw hB hz1 hk1 hS => ?_)
  obtain ⟨hP, hK9, hD9⟩ := hB
  rw [ht] at hP
  try dsimp only at hw
  subst hw
  have hD := hD9.weaken (fun _ q _ h => hf9 q.1 h)
  refine lv_iload_n hx hb dX9_clearBlock_103 rfl (lv_at hl 1 rfl) ?_
  refine lv_iconst (v := (1 : Int32)) hx hb dX9_clearBlock_104 (by decide) ?_
  refine lv_iadd hx hb dX9_clearBlock_105 ?_
  obtain ⟨x26, ex26, hF⟩ := ltt_some hF
  refine lv_topi (fun zx26 ezx26 => ?_)
  obtain rfl : x26 = zx26 := ex26.trans ezx26.symm
  refine lv_iconst (v := (0 : Int32)) hx hb dX9_clearBlock_106 (by decide) ?_
  obtain ⟨y27, hy27, hF⟩ := bnd_some hF
  have hf9 := wA_in hD hA9 hS
  refine va_calli (va_runS (As := [.int x26, .int (0 : Int32)]) (rest := [.int y25.2, va_re ad (y24.2 a 9)]) ⟨hx, hb, hml, hown, hts⟩ (kX9_levelAt l D ct ad Z G y25.1 H.size x26 ((0 : Int32)) y27 hy27) (va_cwS 2 hts gX9_clearBlock_X9_levelAt rfl rfl rfl (by decide +kernel) ⟨Nat.le_of_ble_eq_true rfl, Nat.le_of_ble_eq_true rfl⟩) ⟨fun a U g mk q => by obtain ⟨q0, q1, qP, qK, qD, qZ, qN⟩ := q; exact ⟨q0, q1, qP, va_K.moved (u := U) (U := U.calling g mk a) (Vm.Alike.refl U.vm) qK, qD, sF.moved (u := U) (U := U.calling g mk a) (Vm.Alike.refl U.vm) qZ, nF.same rfl qN⟩, fun U hU hW => ⟨rfl, by rw [hU], by rw [hU]; exact hP, va_K.moved hW.alike hK, hD.weaken (fun _ _ _ _ => trivial), by rw [hU]; exact ((hZ.kept hS.2.1).narrow hf9).moved hW.alike, hN.warm hW⟩⟩ rfl rfl hl.1 rfl (lv_room (by simp only [List.map, va_re_cat]; exact Nat.le_of_ble_eq_true rfl)) dX9_clearBlock_107 ⟨(Nat.zero_le _), (Nat.zero_le _)⟩) hS (fun q _ h => hf9 q h) hf9 (fun r u t H locs ht hvm hw hB hz1 hk1 hS => ?_)
  obtain ⟨hP, hK9, hD9⟩ := hB
  rw [ht] at hP
  try dsimp only at hw
  subst hw
  have hD := hD9.weaken (fun _ q _ h => hf9 q.1 h)
  refine lv_iconst (v := (0 : Int32)) hx hb dX9_clearBlock_110 (by decide) ?_
  obtain ⟨y28, hy28, hF⟩ := bnd_some hF
  have hf9 := wA_in hD hA9 hS
  refine va_callv (va_runS (As := [va_re ad (y24.2 a 9), .int y25.2, .int y27.2, .int (0 : Int32)]) (rest := []) ⟨hx, hb, hml, hown, hts⟩ (kJ7_fill_fda19 l D ct ad Z G y27.1 H.size ((y24.2 a 9)) y25.2 y27.2 ((0 : Int32)) y28 hy28) (va_cwS 4 hts gX9_clearBlock_J7_fill_fda19 rfl rfl rfl (by decide +kernel) ⟨Nat.le_of_ble_eq_true rfl, Nat.le_of_ble_eq_true rfl⟩) ⟨fun a U g mk q => by obtain ⟨q0, q1, qP, qK, qD, qZ, qN⟩ := q; exact ⟨q0, q1, qP, va_K.moved (u := U) (U := U.calling g mk a) (Vm.Alike.refl U.vm) qK, qD, sF.moved (u := U) (U := U.calling g mk a) (Vm.Alike.refl U.vm) qZ, nF.same rfl qN⟩, fun U hU hW => ⟨rfl, by rw [hU], by rw [hU]; exact hP, va_K.moved hW.alike hK, hD.weaken (fun _ _ _ _ => trivial), by rw [hU]; exact ((hZ.kept hS.2.1).narrow hf9).moved hW.alike, hN.warm hW⟩⟩ rfl rfl hl.1 rfl (lv_room (Nat.le_of_ble_eq_true rfl)) dX9_clearBlock_111 ⟨(Nat.zero_le _), (Nat.zero_le _)⟩) hS (fun q _ h => hf9 q h) hf9 (fun u t H locs ht hvm hw hB hz1 hk1 hS => ?_)
  obtain ⟨hP, hK9, hD9⟩ := hB
  rw [ht] at hP
  have hD := hD9.weaken (fun _ q _ h => hf9 q.1 h)
  refine lv_aload_n hx hb dX9_clearBlock_114 rfl (lv_at hl 0 rfl) ?_
  refine va_get (D := D) (ci := 9) (v := va_re ad (y28.2 a 10)) (C := RX9) (T := TX9) (N := 20) hx hb hts (mus hf_X9) hown hK hP a (wld_o ct ad G y28 hc hk (by decide)) rfl 10 (by decide) (hts (.fieldLink RX9 36 "VideoSuite$Work" "rule" "[I") (mu mw_458)) (fun _ h9 => h9) rfl dX9_clearBlock_115 ?_
  refine lv_iconst (v := (3 : Int32)) hx hb dX9_clearBlock_118 (by decide) ?_
  refine lv_iload_n hx hb dX9_clearBlock_119 rfl (lv_at hl 1 rfl) ?_
  refine lv_imul hx hb dX9_clearBlock_120 ?_
  obtain ⟨x29, ex29, hF⟩ := ltt_some hF
  refine lv_topi (fun zx29 ezx29 => ?_)
  obtain rfl : x29 = zx29 := ex29.trans ezx29.symm
  refine lv_iconst (v := (3 : Int32)) hx hb dX9_clearBlock_121 (by decide) ?_
  refine lv_iload_n hx hb dX9_clearBlock_122 rfl (lv_at hl 1 rfl) ?_
  refine lv_imul hx hb dX9_clearBlock_123 ?_
  obtain ⟨x30, ex30, hF⟩ := ltt_some hF
  refine lv_topi (fun zx30 ezx30 => ?_)
  obtain rfl : x30 = zx30 := ex30.trans ezx30.symm
  refine lv_iconst (v := (3 : Int32)) hx hb dX9_clearBlock_124 (by decide) ?_
  refine lv_iadd hx hb dX9_clearBlock_125 ?_
  obtain ⟨x31, ex31, hF⟩ := ltt_some hF
  refine lv_topi (fun zx31 ezx31 => ?_)
  obtain rfl : x31 = zx31 := ex31.trans ezx31.symm
  refine lv_iconst (v := (0 : Int32)) hx hb dX9_clearBlock_126 (by decide) ?_
  obtain ⟨y32, hy32, hF⟩ := bnd_some hF
  have hf9 := wA_in hD hA9 hS
  refine va_callv (va_runS (As := [va_re ad (y28.2 a 10), .int x29, .int x31, .int (0 : Int32)]) (rest := []) ⟨hx, hb, hml, hown, hts⟩ (kJ7_fill_fda19 l D ct ad Z G y28 H.size ((y28.2 a 10)) x29 x31 ((0 : Int32)) y32 hy32) (va_cwS 4 hts gX9_clearBlock_J7_fill_fda19 rfl rfl rfl (by decide +kernel) ⟨Nat.le_of_ble_eq_true rfl, Nat.le_of_ble_eq_true rfl⟩) ⟨fun a U g mk q => by obtain ⟨q0, q1, qP, qK, qD, qZ, qN⟩ := q; exact ⟨q0, q1, qP, va_K.moved (u := U) (U := U.calling g mk a) (Vm.Alike.refl U.vm) qK, qD, sF.moved (u := U) (U := U.calling g mk a) (Vm.Alike.refl U.vm) qZ, nF.same rfl qN⟩, fun U hU hW => ⟨rfl, by rw [hU], by rw [hU]; exact hP, va_K.moved hW.alike hK, hD.weaken (fun _ _ _ _ => trivial), by rw [hU]; exact ((hZ.kept hS.2.1).narrow hf9).moved hW.alike, hN.warm hW⟩⟩ rfl rfl hl.1 rfl (lv_room (Nat.le_of_ble_eq_true rfl)) dX9_clearBlock_127 ⟨(Nat.zero_le _), (Nat.zero_le _)⟩) hS (fun q _ h => hf9 q h) hf9 (fun u t H locs ht hvm hw hB hz1 hk1 hS => ?_)
  obtain ⟨hP, hK9, hD9⟩ := hB
  rw [ht] at hP
  have hD := hD9.weaken (fun _ q _ h => hf9 q.1 h)
  refine lv_aload_n hx hb dX9_clearBlock_130 rfl (lv_at hl 0 rfl) ?_
  refine lv_iload_n hx hb dX9_clearBlock_131 rfl (lv_at hl 1 rfl) ?_
  obtain ⟨y33, hy33, hF⟩ := bnd_some hF
  have hf9 := wA_in hD hA9 hS
  refine va_callv (va_runV (As := [.int p0]) (rest := []) ⟨hx, hb, hml, hown, hts⟩ (kX9_clearMoves l D ct ad Z G y32 H.size a p0 y33 hc hk hy33) (cwV 1 hts gX9_clearBlock_X9_clearMoves rfl rfl rfl (by decide +kernel) ⟨Nat.le_of_ble_eq_true rfl, Nat.le_of_ble_eq_true rfl⟩) ⟨fun a U g mk q => by obtain ⟨q0, q1, qP, qK, qD, qZ, qN⟩ := q; exact ⟨q0, q1, qP, va_K.moved (u := U) (U := U.calling g mk a) (Vm.Alike.refl U.vm) qK, qD, sF.moved (u := U) (U := U.calling g mk a) (Vm.Alike.refl U.vm) qZ, nF.same rfl qN⟩, va_recv hK hP (ci := 9) (q0 := a) rfl (wld_o ct ad G y32 hc hk (by decide)), fun U hU hW => ⟨rfl, by rw [hU], by rw [hU]; exact hP, va_K.moved hW.alike hK, hD.weaken (fun _ _ _ _ => trivial), by rw [hU]; exact ((hZ.kept hS.2.1).narrow hf9).moved hW.alike, hN.warm hW⟩⟩ rfl rfl hl.1 rfl (lv_room (Nat.le_of_ble_eq_true rfl)) dX9_clearBlock_132 ⟨(Nat.zero_le _), (Nat.zero_le _)⟩) hS (fun q _ h => hf9 q h) hf9 (fun u t H locs ht hvm hw hB hz1 hk1 hS => ?_)
  obtain ⟨hP, hK9, hD9⟩ := hB
  rw [ht] at hP
  have hD := hD9.weaken (fun _ q _ h => hf9 q.1 h)
  obtain rfl := Option.some.inj hF
  exact W.vret hx hb hr (fun t ht hW => ⟨⟨(), rfl, trivial, ⟨by rw [ht]; exact hP, va_K.moved hW.alike hK, hD⟩⟩, hS.F ht⟩) hS.2.2 dX9_clearBlock_135
set_option maxRecDepth 20000 in
theorem gX9_direct_X9_leastReference : GoodIn wuX9_direct (wsV RX9 203 RX9 yX9_leastReference wuX9_leastReference) := gu_V mw_1902 mw_1904 mw_58 mw_171 mw_1905
set_option maxRecDepth 20000 in
set_option maxRecDepth 20000 in
theorem gX9_direct_X9_setQuarter : GoodIn wuX9_direct (wsV RX9 210 RX9 yX9_setQuarter wuX9_setQuarter) := gu_V mw_1898 mw_1900 mw_57 mw_171 mw_1901
set_option maxRecDepth 20000 in
theorem gX9_direct_X9_isStill : GoodIn wuX9_direct (va_wsS RX9 206 yX9_isStill wuX9_isStill) := gu_S mw_1928 mw_1929 mw_171 mw_1930
set_option maxRecDepth 20000 in
set_option maxRecDepth 20000 in
theorem gX9_direct_X9_guess : GoodIn wuX9_direct (wsV RX9 182 RX9 yX9_guess wuX9_guess) := gu_V mw_1914 mw_1915 mw_1916 mw_171 mw_1917
set_option maxRecDepth 20000 in
set_option maxRecDepth 20000 in
theorem gX9_direct_X9_directByTime : GoodIn wuX9_direct (wsV RX9 199 RX9 yX9_directByTime wuX9_directByTime) := gu_V mw_1878 mw_1880 mw_55 mw_171 mw_1881
set_option maxRecDepth 20000 in
theorem dX9_direct_0 : decode cX9_direct 0 = .ok (.aload_n 0, 1) := by decide +kernel
theorem dX9_direct_1 : decode cX9_direct 1 = .ok (.getfield 11, 3) := by decide +kernel
theorem dX9_direct_4 : decode cX9_direct 4 = .ok (.bipush 9, 2) := by decide +kernel
theorem dX9_direct_6 : decode cX9_direct 6 = .ok (.aaload, 1) := by decide +kernel
theorem dX9_direct_7 : decode cX9_direct 7 = .ok (.astore_n 3, 1) := by decide +kernel
theorem dX9_direct_8 : decode cX9_direct 8 = .ok (.aload_n 3, 1) := by decide +kernel
theorem dX9_direct_9 : decode cX9_direct 9 = .ok (.ifnonnull 5, 3) := by decide +kernel
theorem dX9_direct_12 : decode cX9_direct 12 = .ok (.iconst 0, 1) := by decide +kernel
theorem dX9_direct_13 : decode cX9_direct 13 = .ok (.ireturn, 1) := by decide +kernel
theorem dX9_direct_14 : decode cX9_direct 14 = .ok (.aload_n 0, 1) := by decide +kernel
theorem dX9_direct_15 : decode cX9_direct 15 = .ok (.getfield 92, 3) := by decide +kernel
theorem dX9_direct_18 : decode cX9_direct 18 = .ok (.getfield 96, 3) := by decide +kernel
theorem dX9_direct_21 : decode cX9_direct 21 = .ok (.bipush 8, 2) := by decide +kernel
theorem dX9_direct_23 : decode cX9_direct 23 = .ok (.iaload, 1) := by decide +kernel
theorem dX9_direct_24 : decode cX9_direct 24 = .ok (.ifCond .ne 11, 3) := by decide +kernel
theorem dX9_direct_27 : decode cX9_direct 27 = .ok (.aload_n 0, 1) := by decide +kernel
theorem dX9_direct_28 : decode cX9_direct 28 = .ok (.iload_n 1, 1) := by decide +kernel
theorem dX9_direct_29 : decode cX9_direct 29 = .ok (.iload_n 2, 1) := by decide +kernel
theorem dX9_direct_30 : decode cX9_direct 30 = .ok (.aload_n 3, 1) := by decide +kernel
theorem dX9_direct_31 : decode cX9_direct 31 = .ok (.invokevirtual 199, 3) := by decide +kernel
theorem dX9_direct_34 : decode cX9_direct 34 = .ok (.ireturn, 1) := by decide +kernel
theorem dX9_direct_35 : decode cX9_direct 35 = .ok (.aload_n 0, 1) := by decide +kernel
theorem dX9_direct_36 : decode cX9_direct 36 = .ok (.iload_n 1, 1) := by decide +kernel
theorem dX9_direct_37 : decode cX9_direct 37 = .ok (.iconst 0, 1) := by decide +kernel
theorem dX9_direct_38 : decode cX9_direct 38 = .ok (.invokevirtual 203, 3) := by decide +kernel
theorem dX9_direct_41 : decode cX9_direct 41 = .ok (.istore 4, 2) := by decide +kernel
theorem dX9_direct_43 : decode cX9_direct 43 = .ok (.aload_n 0, 1) := by decide +kernel
theorem dX9_direct_44 : decode cX9_direct 44 = .ok (.iload_n 1, 1) := by decide +kernel
theorem dX9_direct_45 : decode cX9_direct 45 = .ok (.iconst 1, 1) := by decide +kernel
theorem dX9_direct_46 : decode cX9_direct 46 = .ok (.invokevirtual 203, 3) := by decide +kernel
theorem dX9_direct_49 : decode cX9_direct 49 = .ok (.istore 5, 2) := by decide +kernel
theorem dX9_direct_51 : decode cX9_direct 51 = .ok (.iload 4, 2) := by decide +kernel
theorem dX9_direct_53 : decode cX9_direct 53 = .ok (.ifCond .ge 12, 3) := by decide +kernel
theorem dX9_direct_56 : decode cX9_direct 56 = .ok (.iload 5, 2) := by decide +kernel
theorem dX9_direct_58 : decode cX9_direct 58 = .ok (.ifCond .ge 7, 3) := by decide +kernel
theorem dX9_direct_61 : decode cX9_direct 61 = .ok (.iconst 1, 1) := by decide +kernel
theorem dX9_direct_62 : decode cX9_direct 62 = .ok (.goto 4, 3) := by decide +kernel
theorem dX9_direct_65 : decode cX9_direct 65 = .ok (.iconst 0, 1) := by decide +kernel
theorem dX9_direct_66 : decode cX9_direct 66 = .ok (.istore 6, 2) := by decide +kernel
theorem dX9_direct_68 : decode cX9_direct 68 = .ok (.iconst 0, 1) := by decide +kernel
theorem dX9_direct_69 : decode cX9_direct 69 = .ok (.istore 7, 2) := by decide +kernel
theorem dX9_direct_71 : decode cX9_direct 71 = .ok (.iload 7, 2) := by decide +kernel
theorem dX9_direct_73 : decode cX9_direct 73 = .ok (.iconst 2, 1) := by decide +kernel
theorem dX9_direct_74 : decode cX9_direct 74 = .ok (.if_icmp .ge 177, 3) := by decide +kernel
theorem dX9_direct_77 : decode cX9_direct 77 = .ok (.iload 6, 2) := by decide +kernel
theorem dX9_direct_79 : decode cX9_direct 79 = .ok (.ifCond .eq 7, 3) := by decide +kernel
theorem dX9_direct_82 : decode cX9_direct 82 = .ok (.iconst 0, 1) := by decide +kernel
theorem dX9_direct_83 : decode cX9_direct 83 = .ok (.goto 15, 3) := by decide +kernel
theorem dX9_direct_86 : decode cX9_direct 86 = .ok (.iload 7, 2) := by decide +kernel
theorem dX9_direct_88 : decode cX9_direct 88 = .ok (.ifCond .ne 8, 3) := by decide +kernel
theorem dX9_direct_91 : decode cX9_direct 91 = .ok (.iload 4, 2) := by decide +kernel
theorem dX9_direct_93 : decode cX9_direct 93 = .ok (.goto 5, 3) := by decide +kernel
theorem dX9_direct_96 : decode cX9_direct 96 = .ok (.iload 5, 2) := by decide +kernel
theorem dX9_direct_98 : decode cX9_direct 98 = .ok (.istore 8, 2) := by decide +kernel
theorem dX9_direct_100 : decode cX9_direct 100 = .ok (.aload_n 0, 1) := by decide +kernel
theorem dX9_direct_101 : decode cX9_direct 101 = .ok (.iconst 0, 1) := by decide +kernel
theorem dX9_direct_102 : decode cX9_direct 102 = .ok (.putfield 173, 3) := by decide +kernel
theorem dX9_direct_105 : decode cX9_direct 105 = .ok (.aload_n 0, 1) := by decide +kernel
theorem dX9_direct_106 : decode cX9_direct 106 = .ok (.iconst 0, 1) := by decide +kernel
theorem dX9_direct_107 : decode cX9_direct 107 = .ok (.putfield 176, 3) := by decide +kernel
theorem dX9_direct_110 : decode cX9_direct 110 = .ok (.iload 8, 2) := by decide +kernel
theorem dX9_direct_112 : decode cX9_direct 112 = .ok (.ifCond .lt 21, 3) := by decide +kernel
theorem dX9_direct_115 : decode cX9_direct 115 = .ok (.aload_n 0, 1) := by decide +kernel
theorem dX9_direct_116 : decode cX9_direct 116 = .ok (.getfield 11, 3) := by decide +kernel
theorem dX9_direct_119 : decode cX9_direct 119 = .ok (.bipush 9, 2) := by decide +kernel
theorem dX9_direct_121 : decode cX9_direct 121 = .ok (.iload 7, 2) := by decide +kernel
theorem dX9_direct_123 : decode cX9_direct 123 = .ok (.imul, 1) := by decide +kernel
theorem dX9_direct_124 : decode cX9_direct 124 = .ok (.iload 8, 2) := by decide +kernel
theorem dX9_direct_126 : decode cX9_direct 126 = .ok (.iadd, 1) := by decide +kernel
theorem dX9_direct_127 : decode cX9_direct 127 = .ok (.aaload, 1) := by decide +kernel
theorem dX9_direct_128 : decode cX9_direct 128 = .ok (.ifnonnull 5, 3) := by decide +kernel
theorem dX9_direct_131 : decode cX9_direct 131 = .ok (.iconst 0, 1) := by decide +kernel
theorem dX9_direct_132 : decode cX9_direct 132 = .ok (.ireturn, 1) := by decide +kernel
theorem dX9_direct_133 : decode cX9_direct 133 = .ok (.iload 8, 2) := by decide +kernel
theorem dX9_direct_135 : decode cX9_direct 135 = .ok (.ifCond .lt 21, 3) := by decide +kernel
theorem dX9_direct_138 : decode cX9_direct 138 = .ok (.iload 6, 2) := by decide +kernel
theorem dX9_direct_140 : decode cX9_direct 140 = .ok (.ifCond .ne 16, 3) := by decide +kernel
theorem dX9_direct_143 : decode cX9_direct 143 = .ok (.aload_n 0, 1) := by decide +kernel
theorem dX9_direct_144 : decode cX9_direct 144 = .ok (.iload_n 1, 1) := by decide +kernel
theorem dX9_direct_145 : decode cX9_direct 145 = .ok (.iload 7, 2) := by decide +kernel
theorem dX9_direct_147 : decode cX9_direct 147 = .ok (.iload 8, 2) := by decide +kernel
theorem dX9_direct_149 : decode cX9_direct 149 = .ok (.iconst 0, 1) := by decide +kernel
theorem dX9_direct_150 : decode cX9_direct 150 = .ok (.bipush 16, 2) := by decide +kernel
theorem dX9_direct_152 : decode cX9_direct 152 = .ok (.iconst 0, 1) := by decide +kernel
theorem dX9_direct_153 : decode cX9_direct 153 = .ok (.invokevirtual 182, 3) := by decide +kernel
theorem dX9_direct_156 : decode cX9_direct 156 = .ok (.iconst 0, 1) := by decide +kernel
theorem dX9_direct_157 : decode cX9_direct 157 = .ok (.istore 9, 2) := by decide +kernel
theorem dX9_direct_159 : decode cX9_direct 159 = .ok (.iload 9, 2) := by decide +kernel
theorem dX9_direct_161 : decode cX9_direct 161 = .ok (.iconst 4, 1) := by decide +kernel
theorem dX9_direct_162 : decode cX9_direct 162 = .ok (.if_icmp .ge 83, 3) := by decide +kernel
theorem dX9_direct_165 : decode cX9_direct 165 = .ok (.iload 8, 2) := by decide +kernel
theorem dX9_direct_167 : decode cX9_direct 167 = .ok (.ifCond .ne 22, 3) := by decide +kernel
theorem dX9_direct_170 : decode cX9_direct 170 = .ok (.iload 6, 2) := by decide +kernel
theorem dX9_direct_172 : decode cX9_direct 172 = .ok (.ifCond .ne 17, 3) := by decide +kernel
theorem dX9_direct_175 : decode cX9_direct 175 = .ok (.aload_n 3, 1) := by decide +kernel
theorem dX9_direct_176 : decode cX9_direct 176 = .ok (.iload_n 1, 1) := by decide +kernel
theorem dX9_direct_177 : decode cX9_direct 177 = .ok (.iload 9, 2) := by decide +kernel
theorem dX9_direct_179 : decode cX9_direct 179 = .ok (.invokestatic 206, 3) := by decide +kernel
theorem dX9_direct_182 : decode cX9_direct 182 = .ok (.ifCond .eq 7, 3) := by decide +kernel
theorem dX9_direct_185 : decode cX9_direct 185 = .ok (.iconst 1, 1) := by decide +kernel
theorem dX9_direct_186 : decode cX9_direct 186 = .ok (.goto 4, 3) := by decide +kernel
theorem dX9_direct_189 : decode cX9_direct 189 = .ok (.iconst 0, 1) := by decide +kernel
theorem dX9_direct_190 : decode cX9_direct 190 = .ok (.istore 10, 2) := by decide +kernel
theorem dX9_direct_192 : decode cX9_direct 192 = .ok (.iload_n 2, 1) := by decide +kernel
theorem dX9_direct_193 : decode cX9_direct 193 = .ok (.iload 9, 2) := by decide +kernel
theorem dX9_direct_195 : decode cX9_direct 195 = .ok (.ishr, 1) := by decide +kernel
theorem dX9_direct_196 : decode cX9_direct 196 = .ok (.iconst 1, 1) := by decide +kernel
theorem dX9_direct_197 : decode cX9_direct 197 = .ok (.iand, 1) := by decide +kernel
theorem dX9_direct_198 : decode cX9_direct 198 = .ok (.iconst 1, 1) := by decide +kernel
theorem dX9_direct_199 : decode cX9_direct 199 = .ok (.if_icmp .ne 40, 3) := by decide +kernel
theorem dX9_direct_202 : decode cX9_direct 202 = .ok (.aload_n 0, 1) := by decide +kernel
theorem dX9_direct_203 : decode cX9_direct 203 = .ok (.iload_n 1, 1) := by decide +kernel
theorem dX9_direct_204 : decode cX9_direct 204 = .ok (.iload 7, 2) := by decide +kernel
theorem dX9_direct_206 : decode cX9_direct 206 = .ok (.iload 9, 2) := by decide +kernel
theorem dX9_direct_208 : decode cX9_direct 208 = .ok (.iload 8, 2) := by decide +kernel
theorem dX9_direct_210 : decode cX9_direct 210 = .ok (.iload 10, 2) := by decide +kernel
theorem dX9_direct_212 : decode cX9_direct 212 = .ok (.ifCond .eq 7, 3) := by decide +kernel
theorem dX9_direct_215 : decode cX9_direct 215 = .ok (.iconst 0, 1) := by decide +kernel
theorem dX9_direct_216 : decode cX9_direct 216 = .ok (.goto 7, 3) := by decide +kernel
theorem dX9_direct_219 : decode cX9_direct 219 = .ok (.aload_n 0, 1) := by decide +kernel
theorem dX9_direct_220 : decode cX9_direct 220 = .ok (.getfield 173, 3) := by decide +kernel
theorem dX9_direct_223 : decode cX9_direct 223 = .ok (.iload 10, 2) := by decide +kernel
theorem dX9_direct_225 : decode cX9_direct 225 = .ok (.ifCond .eq 7, 3) := by decide +kernel
theorem dX9_direct_228 : decode cX9_direct 228 = .ok (.iconst 0, 1) := by decide +kernel
theorem dX9_direct_229 : decode cX9_direct 229 = .ok (.goto 7, 3) := by decide +kernel
theorem dX9_direct_232 : decode cX9_direct 232 = .ok (.aload_n 0, 1) := by decide +kernel
theorem dX9_direct_233 : decode cX9_direct 233 = .ok (.getfield 176, 3) := by decide +kernel
theorem dX9_direct_236 : decode cX9_direct 236 = .ok (.invokevirtual 210, 3) := by decide +kernel
theorem dX9_direct_239 : decode cX9_direct 239 = .ok (.iinc 9 1, 3) := by decide +kernel
theorem dX9_direct_242 : decode cX9_direct 242 = .ok (.goto (-83), 3) := by decide +kernel
theorem dX9_direct_245 : decode cX9_direct 245 = .ok (.iinc 7 1, 3) := by decide +kernel
theorem dX9_direct_248 : decode cX9_direct 248 = .ok (.goto (-177), 3) := by decide +kernel
theorem dX9_direct_251 : decode cX9_direct 251 = .ok (.iconst 1, 1) := by decide +kernel
theorem dX9_direct_252 : decode cX9_direct 252 = .ok (.ireturn, 1) := by decide +kernel
def FX9_direct (G : GG) (M : DD) (a : Nat) (p0 : Int32) (p1 : Int32) : Option (DD × Int32) :=
  dr G 14 ((M.2 a 3)) fun b2 =>
  chk (¬ (((9 : Int32)) < 0 ∨ G.2.2 b2 ≤ ((9 : Int32)).toNatClampNeg)) <|
  if ((M.2 b2 ((9 : Int32)).toNatClampNeg)) = none then (chk (((0 : Int32)) = 0 ∨ ((0 : Int32)) = 1) <|
  some (M, (0 : Int32))) else
  (dr G 3 ((M.2 a 1)) fun b4 =>
  dr G 13 ((M.2 b4 0)) fun b5 =>
  chk (¬ (((8 : Int32)) < 0 ∨ G.2.2 b5 ≤ ((8 : Int32)).toNatClampNeg)) <|
  ltt (M.1 b5 ((8 : Int32)).toNatClampNeg) fun x6 =>
  if x6 = ((0 : Int32)) then (bnd (FX9_directByTime G M a p0 p1 ((M.2 b2 ((9 : Int32)).toNatClampNeg))) fun y90 =>
  chk (y90.2 = 0 ∨ y90.2 = 1) <|
  some (y90.1, y90.2)) else
  (bnd (FX9_leastReference G M a p0 ((0 : Int32))) fun y8 =>
  bnd (FX9_leastReference G y8.1 a p0 ((1 : Int32))) fun y9 =>
  bnd (if ((0 : Int32)) ≤ y8.2 then (some ((0 : Int32))) else
  (bnd (if ((0 : Int32)) ≤ y9.2 then (some ((0 : Int32))) else
  (some ((1 : Int32)))) fun (y88 : Int32) =>
  some (y88))) fun (y10 : Int32) =>
  bnd (itr (fun (s12 : Int32 × DD) => ((if ((2 : Int32)) ≤ s12.1 then (some (.inr (.inl (s12.1, s12.2)))) else
  (bnd (if y10 = ((0 : Int32)) then (bnd (if s12.1 = ((0 : Int32)) then (some (y8.2)) else
  (some (y9.2))) fun (y85 : Int32) =>
  some (y85)) else
  (some ((0 : Int32)))) fun (y16 : Int32) =>
  ltt (uI s12.2 a 18 ((0 : Int32))) fun M17 =>
  ltt (uI M17 a 19 ((0 : Int32))) fun M18 =>
  if y16 < ((0 : Int32)) then (bnd (if y16 < ((0 : Int32)) then (some (M18)) else
  (bnd (if y10 = ((0 : Int32)) then (bnd (FX9_guess G M18 a p0 s12.1 y16 ((0 : Int32)) ((16 : Int32)) ((0 : Int32))) fun y49 =>
  some (y49)) else
  (some (M18))) fun (y47 : DD) =>
  some (y47))) fun (y20 : DD) =>
  bnd (itr (fun (s22 : Int32 × DD) => ((if ((4 : Int32)) ≤ s22.1 then (some (.inr (s22.1, s22.2))) else
  (bnd (if y16 = ((0 : Int32)) then (bnd (if y10 = ((0 : Int32)) then (bnd (FX9_isStill G s22.2 ((M.2 b2 ((9 : Int32)).toNatClampNeg)) p0 s22.1) fun y43 =>
  bnd (if y43.2 = ((0 : Int32)) then (some ((0 : Int32))) else
  (some ((1 : Int32)))) fun (y44 : Int32) =>
  some (y44, y43.1)) else
  (some ((0 : Int32), s22.2))) fun (y41 : Int32 × DD) =>
  some (y41.1, y41.2)) else
  (some ((0 : Int32), s22.2))) fun (y27 : Int32 × DD) =>
  ltt ((p1 >>> (s22.1 &&& 31))) fun x28 =>
  ltt ((x28 &&& ((1 : Int32)))) fun x29 =>
  bnd (if x29 = ((1 : Int32)) then (bnd (if y27.1 = ((0 : Int32)) then (ltt (y27.2.1 a 18) fun x39 =>
  some (x39)) else
  (some ((0 : Int32)))) fun (y33 : Int32) =>
  bnd (if y27.1 = ((0 : Int32)) then (ltt (y27.2.1 a 19) fun x37 =>
  some (x37)) else
  (some ((0 : Int32)))) fun (y34 : Int32) =>
  bnd (FX9_setQuarter G y27.2 a p0 s12.1 s22.1 y16 y33 y34) fun y35 =>
  some (y35)) else
  (some (y27.2))) fun (y30 : DD) =>
  ltt (s22.1 + (1 : Int32)) fun x31 =>
  some (.inl (x31, y30)))) : Option ((Int32 × DD) ⊕ (Int32 × DD)))) 1000000 ((0 : Int32), y20)) fun (y21 : Int32 × DD) =>
  ltt (s12.1 + (1 : Int32)) fun x24 =>
  some (.inl (x24, y21.2))) else
  (ltt ((((9 : Int32)) * s12.1)) fun x50 =>
  ltt ((x50 + y16)) fun x51 =>
  dr G 14 ((M18.2 a 3)) fun b52 =>
  chk (¬ (x51 < 0 ∨ G.2.2 b52 ≤ x51.toNatClampNeg)) <|
  if ((M18.2 b52 x51.toNatClampNeg)) = none then (chk (((0 : Int32)) = 0 ∨ ((0 : Int32)) = 1) <|
  some (.inr (.inr (M18, (0 : Int32))))) else
  (bnd (if y16 < ((0 : Int32)) then (some (M18)) else
  (bnd (if y10 = ((0 : Int32)) then (bnd (FX9_guess G M18 a p0 s12.1 y16 ((0 : Int32)) ((16 : Int32)) ((0 : Int32))) fun y83 =>
  some (y83)) else
  (some (M18))) fun (y81 : DD) =>
  some (y81))) fun (y54 : DD) =>
  bnd (itr (fun (s56 : Int32 × DD) => ((if ((4 : Int32)) ≤ s56.1 then (some (.inr (s56.1, s56.2))) else
  (bnd (if y16 = ((0 : Int32)) then (bnd (if y10 = ((0 : Int32)) then (bnd (FX9_isStill G s56.2 ((M.2 b2 ((9 : Int32)).toNatClampNeg)) p0 s56.1) fun y77 =>
  bnd (if y77.2 = ((0 : Int32)) then (some ((0 : Int32))) else
  (some ((1 : Int32)))) fun (y78 : Int32) =>
  some (y78, y77.1)) else
  (some ((0 : Int32), s56.2))) fun (y75 : Int32 × DD) =>
  some (y75.1, y75.2)) else
  (some ((0 : Int32), s56.2))) fun (y61 : Int32 × DD) =>
  ltt ((p1 >>> (s56.1 &&& 31))) fun x62 =>
  ltt ((x62 &&& ((1 : Int32)))) fun x63 =>
  bnd (if x63 = ((1 : Int32)) then (bnd (if y61.1 = ((0 : Int32)) then (ltt (y61.2.1 a 18) fun x73 =>
  some (x73)) else
  (some ((0 : Int32)))) fun (y67 : Int32) =>
  bnd (if y61.1 = ((0 : Int32)) then (ltt (y61.2.1 a 19) fun x71 =>
  some (x71)) else
  (some ((0 : Int32)))) fun (y68 : Int32) =>
  bnd (FX9_setQuarter G y61.2 a p0 s12.1 s56.1 y16 y67 y68) fun y69 =>
  some (y69)) else
  (some (y61.2))) fun (y64 : DD) =>
  ltt (s56.1 + (1 : Int32)) fun x65 =>
  some (.inl (x65, y64)))) : Option ((Int32 × DD) ⊕ (Int32 × DD)))) 1000000 ((0 : Int32), y54)) fun (y55 : Int32 × DD) =>
  ltt (s12.1 + (1 : Int32)) fun x58 =>
  some (.inl (x58, y55.2)))))) : Option ((Int32 × DD) ⊕ ((Int32 × DD) ⊕ (DD × Int32))))) 1000000 ((0 : Int32), y9.1)) fun (y11 : (Int32 × DD) ⊕ (DD × Int32)) =>
  sel y11 (fun (z11k : Int32 × DD) =>
  chk (((1 : Int32)) = 0 ∨ ((1 : Int32)) = 1) <|
  some (z11k.2, (1 : Int32))) fun r9 => some r9))
set_option maxHeartbeats 4000000 in
set_option maxRecDepth 100000 in
theorem kX9_direct (l : Launch) (D : va_G) (ct : CT) (ad : Nat → Nat) (Z : Nat → Nat) (G : GG) (M : DD) (sz : Nat) (a : Nat) (p0 : Int32) (p1 : Int32) (y : DD × Int32) (hc : a < G.1) (hk : G.2.1 a = 9) (hF : FX9_direct G M a p0 p1 = some y) : Met l yX9_direct wuX9_direct ({ frames := 3, cells := 0, slots := 0, locals := 79 }) (va_Pc [.ref (ad a), .int p0, .int p1] (kB D ct ad Z G M sz)) (va_Qi (fun (q : Int32) (_ : Unit) => q = y.2) (fun _ t => kE D ct ad G (wA ad G sz) y.1 t) (wA ad G sz)) 0 0 (wA ad G sz) := by
  refine Met.ofW (cc := cX9_direct) (maxL := 11) (ret := (some .boolean)) (by decide) rfl ?_
  intro p e s m args below meth c s₁ B hml hv
  obtain ⟨rfl, hsz, hP, hK, hD0, hZ, hN⟩ := hv
  have hx := B.exec
  have hb := B.bytes
  have hr := B.returns
  have hts := atoms_spec (ws := wuX9_direct) B.pre
  have hown : s.vm.findClass RX9 = some m.cls := findClass_of_methodNamed B.named
  have hlocks := B.notSynchronized
  subst hsz
  have hD := wD_self (sz := s.heap.size) hD0
  have hA9 : ∀ q, s.heap.size ≤ q → wA ad G s.heap.size q := fun q h => Or.inr h
  generalize hAe : wA ad G s.heap.size = A at hD hA9 hZ ⊢
  have hS : va_S A s.heap s.heap [] := va_S.rf
  have hl := lv_entry ([.ref (ad a), .int p0, .int p1]) (n := 11) (Nat.le_of_ble_eq_true rfl)
  rw [lg_entry_eq]
  generalize (lg_sl ([.ref (ad a), .int p0, .int p1]) ++ List.replicate (11 - (lg_sl ([.ref (ad a), .int p0, .int p1])).length) Slot.unset).toArray = ls at hl ⊢
  have hl : lv_has ls 11 [(0, .ref (ad a)), (1, .int p0), (2, .int p1)] := hl
  unfold FX9_direct at hF
  refine lv_aload_n hx hb dX9_direct_0 rfl (lv_at hl 0 rfl) ?_
  refine va_get (D := D) (ci := 9) (v := va_re ad (M.2 a 3)) (C := RX9) (T := TX9) (N := 20) hx hb hts (mus hf_X9) hown hK hP a (wld_o ct ad G M hc hk (by decide)) rfl 3 (by decide) (hts (.fieldLink RX9 11 "VideoSuite$Work" "lists" "[LVideoSuite$Picture;") (mu mw_435)) (fun _ h9 => h9) rfl dX9_direct_1 ?_
  refine lv_bipush (v := (9 : Int32)) hx hb dX9_direct_4 (by decide) ?_
  obtain ⟨b2, ho2, hc2, hk2, hF⟩ := dr_some hF
  refine W_st (st' := [.int (9 : Int32), .ref (ad b2)]) (by rw [va_some ho2]) ?_
  obtain ⟨hvc, hF⟩ := chk_some hF
  refine ld_q hx hb hK hP hc2 hk2 hvc dX9_direct_6 ?_
  refine lv_astoreq_n (lv' := [(3, va_re ad (M.2 b2 ((9 : Int32)).toNatClampNeg)), (0, .ref (ad a)), (1, .int p0), (2, .int p1)]) hx hb dX9_direct_7 rfl hl (by decide) rfl (fun ls hl => ?_)
  refine lv_aloadq_n hx hb dX9_direct_8 rfl (lv_at hl 0 rfl) ?_
  refine lv_ifnonnullq (tgt := 14) hx hb dX9_direct_9 (by decide) (fun c3 => ?_) (fun c3 => ?_)
  · rw [if_neg c3] at hF
    refine lv_aload_n hx hb dX9_direct_14 rfl (lv_at hl 1 rfl) ?_
    refine va_get (D := D) (ci := 9) (v := va_re ad (M.2 a 1)) (C := RX9) (T := TX9) (N := 20) hx hb hts (mus hf_X9) hown hK hP a (wld_o ct ad G M hc hk (by decide)) rfl 1 (by decide) (hts (.fieldLink RX9 92 "VideoSuite$Work" "head" "LVideoSuite$Header;") (mu mw_427)) (fun _ h9 => h9) rfl dX9_direct_15 ?_
    obtain ⟨b4, ho4, hc4, hk4, hF⟩ := dr_some hF
    refine W_st (st' := [.ref (ad b4)]) (by rw [va_some ho4]) ?_
    refine va_get (D := D) (ci := 3) (v := va_re ad (M.2 b4 0)) (C := RX3) (T := TX3) (N := 4) hx hb hts (mus hf_X3) hown hK hP b4 (wld_o ct ad G M hc4 hk4 (by decide)) rfl 0 (by decide) (hts (.fieldLink RX9 96 "VideoSuite$Header" "v" "[I") (mu mw_617)) (fun _ h9 => h9) rfl dX9_direct_18 ?_
    refine lv_bipush (v := (8 : Int32)) hx hb dX9_direct_21 (by decide) ?_
    obtain ⟨b5, ho5, hc5, hk5, hF⟩ := dr_some hF
    refine W_st (st' := [.int (8 : Int32), .ref (ad b5)]) (by rw [va_some ho5]) ?_
    obtain ⟨hvc, hF⟩ := chk_some hF
    refine va_iald hx hb hK hP b5 1 (wld_i ct ad G M hc5 hk5) rfl hvc dX9_direct_23 ?_
    obtain ⟨x6, ex6, hF⟩ := ltt_some hF
    refine lv_topi (fun zx6 ezx6 => ?_)
    obtain rfl : x6 = zx6 := ex6.trans ezx6.symm
    refine lv_if_ne (tgt := 35) hx hb dX9_direct_24 (by decide) (fun c7 => ?_) (fun c7 => ?_)
    · rw [if_neg c7] at hF
      refine lv_aload_n hx hb dX9_direct_35 rfl (lv_at hl 1 rfl) ?_
      refine lv_iload_n hx hb dX9_direct_36 rfl (lv_at hl 2 rfl) ?_
      refine lv_iconst (v := (0 : Int32)) hx hb dX9_direct_37 (by decide) ?_
      obtain ⟨y8, hy8, hF⟩ := bnd_some hF
      have hf9 := wA_in hD hA9 hS
      refine va_calli (va_runV (As := [.int p0, .int (0 : Int32)]) (rest := []) ⟨hx, hb, hml, hown, hts⟩ (kX9_leastReference l D ct ad Z G M s.heap.size a p0 ((0 : Int32)) y8 hc hk hy8) (cwV 2 hts gX9_direct_X9_leastReference rfl rfl rfl (by decide +kernel) ⟨Nat.le_of_ble_eq_true rfl, Nat.le_of_ble_eq_true rfl⟩) ⟨fun a U g mk q => by obtain ⟨q0, q1, qP, qK, qD, qZ, qN⟩ := q; exact ⟨q0, q1, qP, va_K.moved (u := U) (U := U.calling g mk a) (Vm.Alike.refl U.vm) qK, qD, sF.moved (u := U) (U := U.calling g mk a) (Vm.Alike.refl U.vm) qZ, nF.same rfl qN⟩, va_recv hK hP (ci := 9) (q0 := a) rfl (wld_o ct ad G M hc hk (by decide)), fun U hU hW => ⟨rfl, by rw [hU], by rw [hU]; exact hP, va_K.moved hW.alike hK, hD.weaken (fun _ _ _ _ => trivial), by rw [hU]; exact ((hZ.kept hS.2.1).narrow hf9).moved hW.alike, hN.warm hW⟩⟩ rfl rfl hl.1 rfl (lv_room (Nat.le_of_ble_eq_true rfl)) dX9_direct_38 ⟨(Nat.zero_le _), (Nat.zero_le _)⟩) hS (fun q _ h => hf9 q h) hf9 (fun r u t H locs ht hvm hw hB hz1 hk1 hS => ?_)
      obtain ⟨hP, hK9, hD9⟩ := hB
      rw [ht] at hP
      try dsimp only at hw
      subst hw
      have hD := hD9.weaken (fun _ q _ h => hf9 q.1 h)
      refine lv_istore (lv' := [(4, .int y8.2), (3, va_re ad (M.2 b2 ((9 : Int32)).toNatClampNeg)), (0, .ref (ad a)), (1, .int p0), (2, .int p1)]) hx hb dX9_direct_41 hl (by decide) (by generalize ((M.2 b2 ((9 : Int32)).toNatClampNeg)) = o9; cases o9 <;> rfl) (fun ls hl => ?_)
      refine lv_aload_n hx hb dX9_direct_43 rfl (lv_at hl 2 rfl) ?_
      refine lv_iload_n hx hb dX9_direct_44 rfl (lv_at hl 3 rfl) ?_
      refine lv_iconst (v := (1 : Int32)) hx hb dX9_direct_45 (by decide) ?_
      obtain ⟨y9, hy9, hF⟩ := bnd_some hF
      have hf9 := wA_in hD hA9 hS
      refine va_calli (va_runV (As := [.int p0, .int (1 : Int32)]) (rest := []) ⟨hx, hb, hml, hown, hts⟩ (kX9_leastReference l D ct ad Z G y8.1 H.size a p0 ((1 : Int32)) y9 hc hk hy9) (cwV 2 hts gX9_direct_X9_leastReference rfl rfl rfl (by decide +kernel) ⟨Nat.le_of_ble_eq_true rfl, Nat.le_of_ble_eq_true rfl⟩) ⟨fun a U g mk q => by obtain ⟨q0, q1, qP, qK, qD, qZ, qN⟩ := q; exact ⟨q0, q1, qP, va_K.moved (u := U) (U := U.calling g mk a) (Vm.Alike.refl U.vm) qK, qD, sF.moved (u := U) (U := U.calling g mk a) (Vm.Alike.refl U.vm) qZ, nF.same rfl qN⟩, va_recv hK hP (ci := 9) (q0 := a) rfl (wld_o ct ad G y8.1 hc hk (by decide)), fun U hU hW => ⟨rfl, by rw [hU], by rw [hU]; exact hP, va_K.moved hW.alike hK, hD.weaken (fun _ _ _ _ => trivial), by rw [hU]; exact ((hZ.kept hS.2.1).narrow hf9).moved hW.alike, hN.warm hW⟩⟩ rfl rfl hl.1 rfl (lv_room (Nat.le_of_ble_eq_true rfl)) dX9_direct_46 ⟨(Nat.zero_le _), (Nat.zero_le _)⟩) hS (fun q _ h => hf9 q h) hf9 (fun r u t H locs ht hvm hw hB hz1 hk1 hS => ?_)
      obtain ⟨hP, hK9, hD9⟩ := hB
      rw [ht] at hP
      try dsimp only at hw
      subst hw
      have hD := hD9.weaken (fun _ q _ h => hf9 q.1 h)
      refine lv_istore (lv' := [(5, .int y9.2), (4, .int y8.2), (3, va_re ad (M.2 b2 ((9 : Int32)).toNatClampNeg)), (0, .ref (ad a)), (1, .int p0), (2, .int p1)]) hx hb dX9_direct_49 hl (by decide) rfl (fun ls hl => ?_)
      refine lv_iload hx hb dX9_direct_51 (lv_at hl 1 rfl) ?_
      obtain ⟨y10, hy10, hF⟩ := bnd_some hF
      have J10 : ∀ (H : Heap) (locs : List Loc) (ls : Array Slot), va_P D classes (wld ct ad G y9.1) H → va_D A (wld ct ad G y9.1) → va_S A s.heap H locs → lv_has ls 11 [(5, .int y9.2), (4, .int y8.2), (3, va_re ad (M.2 b2 ((9 : Int32)).toNatClampNeg)), (0, .ref (ad a)), (1, .int p0), (2, .int p1)] → W p l e (headSpec wuX9_direct ({ frames := 3, cells := 0, slots := 0, locals := 79 })).room s m ([.ref (ad a), .int p0, .int p1] : List Value).toArray below meth c H locs 0 0 (MQ below (va_Qi (fun (q : Int32) (_ : Unit) => q = y.2) (fun _ t => kE D ct ad G A y.1 t) A) ([.ref (ad a), .int p0, .int p1] : List Value).toArray s 0 0 A) (F0 m 66 ls [.int y10]) := by
        intro H locs ls hP hD hS hl
        refine lv_istore (lv' := [(6, .int y10), (5, .int y9.2), (4, .int y8.2), (3, va_re ad (M.2 b2 ((9 : Int32)).toNatClampNeg)), (0, .ref (ad a)), (1, .int p0), (2, .int p1)]) hx hb dX9_direct_66 hl (by decide) rfl (fun ls hl => ?_)
        refine lv_iconst (v := (0 : Int32)) hx hb dX9_direct_68 (by decide) ?_
        refine lv_istore (lv' := [(7, .int (0 : Int32)), (6, .int y10), (5, .int y9.2), (4, .int y8.2), (3, va_re ad (M.2 b2 ((9 : Int32)).toNatClampNeg)), (0, .ref (ad a)), (1, .int p0), (2, .int p1)]) hx hb dX9_direct_69 hl (by decide) rfl (fun ls hl => ?_)
        obtain ⟨y11, hy11, hF⟩ := bnd_some hF
        have K11 : ∀ z11k : Int32 × DD, y11 = .inl z11k → ∀ (H : Heap) (locs : List Loc) (ls : Array Slot), va_P D classes (wld ct ad G z11k.2) H → va_D A (wld ct ad G z11k.2) → va_S A s.heap H locs → lv_has ls 11 [(7, .int z11k.1), (6, .int y10), (5, .int y9.2), (4, .int y8.2), (3, va_re ad (M.2 b2 ((9 : Int32)).toNatClampNeg)), (0, .ref (ad a)), (1, .int p0), (2, .int p1)] → W p l e (headSpec wuX9_direct ({ frames := 3, cells := 0, slots := 0, locals := 79 })).room s m ([.ref (ad a), .int p0, .int p1] : List Value).toArray below meth c H locs 0 0 (MQ below (va_Qi (fun (q : Int32) (_ : Unit) => q = y.2) (fun _ t => kE D ct ad G A y.1 t) A) ([.ref (ad a), .int p0, .int p1] : List Value).toArray s 0 0 A) (F0 m 251 ls []) := by
          intro z11k hz11 H locs ls hP hD hS hl
          have hF := sel_inl (hz11 ▸ hF)
          refine lv_iconst (v := (1 : Int32)) hx hb dX9_direct_251 (by decide) ?_
          obtain ⟨hz9, hF⟩ := chk_some hF
          obtain rfl := Option.some.inj hF
          exact W.zret (v := (1 : Int32)) (ty := .boolean) hx hb hr (nar_z hz9).1 (fun t ht hW => ⟨⟨_, (), rfl, rfl, ⟨by rw [ht]; exact hP, va_K.moved hW.alike hK, hD⟩⟩, hS.F ht⟩) hS.2.2 dX9_direct_252
        have hR11 := hF
        clear hF
        refine itr_rule (fun (s12 : Int32 × DD) => ∀ (H : Heap) (locs : List Loc) (ls : Array Slot), va_P D classes (wld ct ad G s12.2) H → va_D A (wld ct ad G s12.2) → va_S A s.heap H locs → lv_has ls 11 [(7, .int s12.1), (6, .int y10), (5, .int y9.2), (4, .int y8.2), (3, va_re ad (M.2 b2 ((9 : Int32)).toNatClampNeg)), (0, .ref (ad a)), (1, .int p0), (2, .int p1)] → W p l e (headSpec wuX9_direct ({ frames := 3, cells := 0, slots := 0, locals := 79 })).room s m ([.ref (ad a), .int p0, .int p1] : List Value).toArray below meth c H locs 0 0 (MQ below (va_Qi (fun (q : Int32) (_ : Unit) => q = y.2) (fun _ t => kE D ct ad G A y.1 t) A) ([.ref (ad a), .int p0, .int p1] : List Value).toArray s 0 0 A) (F0 m 71 ls [])) ?_ _ _ hy11 _ _ _ hP hD hS (lv_sub hl [0, 1, 2, 3, 4, 5, 6, 7] rfl)
        rintro s12 ⟨z14, hF, hwz14⟩ H locs ls hP hD hS hl
        try dsimp only at hF
        refine lv_iload hx hb dX9_direct_71 (lv_at hl 0 rfl) ?_
        refine lv_iconst (v := (2 : Int32)) hx hb dX9_direct_73 (by decide) ?_
        refine lv_icmp_ge (tgt := 251) hx hb dX9_direct_74 (by decide) (fun c15 => ?_) (fun c15 => ?_)
        · rw [if_pos c15] at hF
          obtain rfl := Option.some.inj hF
          exact K11 _ hwz14.symm _ _ _ hP hD hS (lv_sub hl [0, 1, 2, 3, 4, 5, 6, 7] rfl)
        · rw [if_neg c15] at hF
          refine lv_iload hx hb dX9_direct_77 (lv_at hl 1 rfl) ?_
          obtain ⟨y16, hy16, hF⟩ := bnd_some hF
          have J16 : ∀ (H : Heap) (locs : List Loc) (ls : Array Slot), va_P D classes (wld ct ad G s12.2) H → va_D A (wld ct ad G s12.2) → va_S A s.heap H locs → lv_has ls 11 [(7, .int s12.1), (6, .int y10), (5, .int y9.2), (4, .int y8.2), (3, va_re ad (M.2 b2 ((9 : Int32)).toNatClampNeg)), (0, .ref (ad a)), (1, .int p0), (2, .int p1)] → W p l e (headSpec wuX9_direct ({ frames := 3, cells := 0, slots := 0, locals := 79 })).room s m ([.ref (ad a), .int p0, .int p1] : List Value).toArray below meth c H locs 0 0 (MQ below (va_Qi (fun (q : Int32) (_ : Unit) => q = y.2) (fun _ t => kE D ct ad G A y.1 t) A) ([.ref (ad a), .int p0, .int p1] : List Value).toArray s 0 0 A) (F0 m 98 ls [.int y16]) := by
            intro H locs ls hP hD hS hl
            refine lv_istore (lv' := [(8, .int y16), (7, .int s12.1), (6, .int y10), (5, .int y9.2), (4, .int y8.2), (3, va_re ad (M.2 b2 ((9 : Int32)).toNatClampNeg)), (0, .ref (ad a)), (1, .int p0), (2, .int p1)]) hx hb dX9_direct_98 hl (by decide) rfl (fun ls hl => ?_)
            refine lv_aload_n hx hb dX9_direct_100 rfl (lv_at hl 6 rfl) ?_
            refine lv_iconst (v := (0 : Int32)) hx hb dX9_direct_101 (by decide) ?_
            refine va_put (D := D) (ci := 9) (v := .int (0 : Int32)) (ty := .int) (C := RX9) (T := TX9) (N := 20) hx hb hts (mus hf_X9) tyX9 tyX9_ok nmX9 hown hK hP hD hS a (wld_o ct ad G s12.2 hc hk (by decide)) rfl 18 (by decide) (hts (.fieldLink RX9 173 "VideoSuite$Work" "guessX" "I") (mu mw_481)) (fun _ h9 => h9) rfl (by decide +kernel) rfl rfl (Nat.le_of_ble_eq_true rfl) dX9_direct_102 (fun H locs hP hD hS => ?_)
            obtain ⟨M17, eM17, hF⟩ := ltt_some hF
            rw [set_oI ct ad G s12.2 hc hk (by decide) (by rfl), ← eM17] at hP hD
            refine lv_aload_n hx hb dX9_direct_105 rfl (lv_at hl 6 rfl) ?_
            refine lv_iconst (v := (0 : Int32)) hx hb dX9_direct_106 (by decide) ?_
            refine va_put (D := D) (ci := 9) (v := .int (0 : Int32)) (ty := .int) (C := RX9) (T := TX9) (N := 20) hx hb hts (mus hf_X9) tyX9 tyX9_ok nmX9 hown hK hP hD hS a (wld_o ct ad G M17 hc hk (by decide)) rfl 19 (by decide) (hts (.fieldLink RX9 176 "VideoSuite$Work" "guessY" "I") (mu mw_484)) (fun _ h9 => h9) rfl (by decide +kernel) rfl rfl (Nat.le_of_ble_eq_true rfl) dX9_direct_107 (fun H locs hP hD hS => ?_)
            obtain ⟨M18, eM18, hF⟩ := ltt_some hF
            rw [set_oI ct ad G M17 hc hk (by decide) (by rfl), ← eM18] at hP hD
            refine lv_iload hx hb dX9_direct_110 (lv_at hl 0 rfl) ?_
            refine lv_if_lt (tgt := 133) hx hb dX9_direct_112 (by decide) (fun c19 => ?_) (fun c19 => ?_)
            · rw [if_pos c19] at hF
              refine lv_iload hx hb dX9_direct_133 (lv_at hl 0 rfl) ?_
              obtain ⟨y20, hy20, hF⟩ := bnd_some hF
              have J20 : ∀ (H : Heap) (locs : List Loc) (ls : Array Slot), va_P D classes (wld ct ad G y20) H → va_D A (wld ct ad G y20) → va_S A s.heap H locs → lv_has ls 11 [(8, .int y16), (7, .int s12.1), (6, .int y10), (5, .int y9.2), (4, .int y8.2), (3, va_re ad (M.2 b2 ((9 : Int32)).toNatClampNeg)), (0, .ref (ad a)), (1, .int p0), (2, .int p1)] → W p l e (headSpec wuX9_direct ({ frames := 3, cells := 0, slots := 0, locals := 79 })).room s m ([.ref (ad a), .int p0, .int p1] : List Value).toArray below meth c H locs 0 0 (MQ below (va_Qi (fun (q : Int32) (_ : Unit) => q = y.2) (fun _ t => kE D ct ad G A y.1 t) A) ([.ref (ad a), .int p0, .int p1] : List Value).toArray s 0 0 A) (F0 m 156 ls []) := by
                intro H locs ls hP hD hS hl
                refine lv_iconst (v := (0 : Int32)) hx hb dX9_direct_156 (by decide) ?_
                refine lv_istore (lv' := [(9, .int (0 : Int32)), (8, .int y16), (7, .int s12.1), (6, .int y10), (5, .int y9.2), (4, .int y8.2), (3, va_re ad (M.2 b2 ((9 : Int32)).toNatClampNeg)), (0, .ref (ad a)), (1, .int p0), (2, .int p1)]) hx hb dX9_direct_157 hl (by decide) rfl (fun ls hl => ?_)
                obtain ⟨y21, hy21, hF⟩ := bnd_some hF
                have K21 : ∀ (H : Heap) (locs : List Loc) (ls : Array Slot), va_P D classes (wld ct ad G y21.2) H → va_D A (wld ct ad G y21.2) → va_S A s.heap H locs → lv_has ls 11 [(9, .int y21.1), (8, .int y16), (7, .int s12.1), (6, .int y10), (5, .int y9.2), (4, .int y8.2), (3, va_re ad (M.2 b2 ((9 : Int32)).toNatClampNeg)), (0, .ref (ad a)), (1, .int p0), (2, .int p1)] → W p l e (headSpec wuX9_direct ({ frames := 3, cells := 0, slots := 0, locals := 79 })).room s m ([.ref (ad a), .int p0, .int p1] : List Value).toArray below meth c H locs 0 0 (MQ below (va_Qi (fun (q : Int32) (_ : Unit) => q = y.2) (fun _ t => kE D ct ad G A y.1 t) A) ([.ref (ad a), .int p0, .int p1] : List Value).toArray s 0 0 A) (F0 m 245 ls []) := by
                  intro H locs ls hP hD hS hl
                  obtain ⟨x24, ex24, hF⟩ := ltt_some hF
                  refine lv_iinc (v := x24) (lv' := [(7, .int x24), (9, .int y21.1), (8, .int y16), (6, .int y10), (5, .int y9.2), (4, .int y8.2), (3, va_re ad (M.2 b2 ((9 : Int32)).toNatClampNeg)), (0, .ref (ad a)), (1, .int p0), (2, .int p1)]) hx hb dX9_direct_245 hl (k := 2) rfl (by rw [ex24]; rfl) (by decide) rfl (fun ls hl => ?_)
                  refine lv_goto (tgt := 71) hx hb dX9_direct_248 (by decide) ?_
                  obtain rfl := Option.some.inj hF
                  exact hwz14 _ _ _ hP hD hS (lv_sub hl [0, 3, 4, 5, 6, 7, 8, 9] rfl)
                clear hF
                refine itr_rule (fun (s22 : Int32 × DD) => ∀ (H : Heap) (locs : List Loc) (ls : Array Slot), va_P D classes (wld ct ad G s22.2) H → va_D A (wld ct ad G s22.2) → va_S A s.heap H locs → lv_has ls 11 [(9, .int s22.1), (8, .int y16), (7, .int s12.1), (6, .int y10), (5, .int y9.2), (4, .int y8.2), (3, va_re ad (M.2 b2 ((9 : Int32)).toNatClampNeg)), (0, .ref (ad a)), (1, .int p0), (2, .int p1)] → W p l e (headSpec wuX9_direct ({ frames := 3, cells := 0, slots := 0, locals := 79 })).room s m ([.ref (ad a), .int p0, .int p1] : List Value).toArray below meth c H locs 0 0 (MQ below (va_Qi (fun (q : Int32) (_ : Unit) => q = y.2) (fun _ t => kE D ct ad G A y.1 t) A) ([.ref (ad a), .int p0, .int p1] : List Value).toArray s 0 0 A) (F0 m 159 ls [])) ?_ _ _ hy21 _ _ _ hP hD hS (lv_sub hl [0, 1, 2, 3, 4, 5, 6, 7, 8, 9] rfl)
                rintro s22 ⟨z25, hF, hwz25⟩ H locs ls hP hD hS hl
                try dsimp only at hF
                refine lv_iload hx hb dX9_direct_159 (lv_at hl 0 rfl) ?_
                refine lv_iconst (v := (4 : Int32)) hx hb dX9_direct_161 (by decide) ?_
                refine lv_icmp_ge (tgt := 245) hx hb dX9_direct_162 (by decide) (fun c26 => ?_) (fun c26 => ?_)
                · rw [if_pos c26] at hF
                  obtain rfl := Option.some.inj hF
                  subst hwz25
                  exact K21 _ _ _ hP hD hS (lv_sub hl [0, 1, 2, 3, 4, 5, 6, 7, 8, 9] rfl)
                · rw [if_neg c26] at hF
                  refine lv_iload hx hb dX9_direct_165 (lv_at hl 1 rfl) ?_
                  obtain ⟨y27, hy27, hF⟩ := bnd_some hF
                  have J27 : ∀ (H : Heap) (locs : List Loc) (ls : Array Slot), va_P D classes (wld ct ad G y27.2) H → va_D A (wld ct ad G y27.2) → va_S A s.heap H locs → lv_has ls 11 [(9, .int s22.1), (8, .int y16), (7, .int s12.1), (6, .int y10), (5, .int y9.2), (4, .int y8.2), (3, va_re ad (M.2 b2 ((9 : Int32)).toNatClampNeg)), (0, .ref (ad a)), (1, .int p0), (2, .int p1)] → W p l e (headSpec wuX9_direct ({ frames := 3, cells := 0, slots := 0, locals := 79 })).room s m ([.ref (ad a), .int p0, .int p1] : List Value).toArray below meth c H locs 0 0 (MQ below (va_Qi (fun (q : Int32) (_ : Unit) => q = y.2) (fun _ t => kE D ct ad G A y.1 t) A) ([.ref (ad a), .int p0, .int p1] : List Value).toArray s 0 0 A) (F0 m 190 ls [.int y27.1]) := by
                    intro H locs ls hP hD hS hl
                    refine lv_istore (lv' := [(10, .int y27.1), (9, .int s22.1), (8, .int y16), (7, .int s12.1), (6, .int y10), (5, .int y9.2), (4, .int y8.2), (3, va_re ad (M.2 b2 ((9 : Int32)).toNatClampNeg)), (0, .ref (ad a)), (1, .int p0), (2, .int p1)]) hx hb dX9_direct_190 hl (by decide) rfl (fun ls hl => ?_)
                    refine lv_iload_n hx hb dX9_direct_192 rfl (lv_at hl 10 rfl) ?_
                    refine lv_iload hx hb dX9_direct_193 (lv_at hl 1 rfl) ?_
                    refine lv_ishr hx hb dX9_direct_195 ?_
                    obtain ⟨x28, ex28, hF⟩ := ltt_some hF
                    refine lv_topi (fun zx28 ezx28 => ?_)
                    obtain rfl : x28 = zx28 := ex28.trans ezx28.symm
                    refine lv_iconst (v := (1 : Int32)) hx hb dX9_direct_196 (by decide) ?_
                    refine lv_iand hx hb dX9_direct_197 ?_
                    obtain ⟨x29, ex29, hF⟩ := ltt_some hF
                    refine lv_topi (fun zx29 ezx29 => ?_)
                    obtain rfl : x29 = zx29 := ex29.trans ezx29.symm
                    refine lv_iconst (v := (1 : Int32)) hx hb dX9_direct_198 (by decide) ?_
                    obtain ⟨y30, hy30, hF⟩ := bnd_some hF
                    have J30 : ∀ (H : Heap) (locs : List Loc) (ls : Array Slot), va_P D classes (wld ct ad G y30) H → va_D A (wld ct ad G y30) → va_S A s.heap H locs → lv_has ls 11 [(10, .int y27.1), (9, .int s22.1), (8, .int y16), (7, .int s12.1), (6, .int y10), (5, .int y9.2), (4, .int y8.2), (3, va_re ad (M.2 b2 ((9 : Int32)).toNatClampNeg)), (0, .ref (ad a)), (1, .int p0), (2, .int p1)] → W p l e (headSpec wuX9_direct ({ frames := 3, cells := 0, slots := 0, locals := 79 })).room s m ([.ref (ad a), .int p0, .int p1] : List Value).toArray below meth c H locs 0 0 (MQ below (va_Qi (fun (q : Int32) (_ : Unit) => q = y.2) (fun _ t => kE D ct ad G A y.1 t) A) ([.ref (ad a), .int p0, .int p1] : List Value).toArray s 0 0 A) (F0 m 239 ls []) := by
                      intro H locs ls hP hD hS hl
                      obtain ⟨x31, ex31, hF⟩ := ltt_some hF
                      refine lv_iinc (v := x31) (lv' := [(9, .int x31), (10, .int y27.1), (8, .int y16), (7, .int s12.1), (6, .int y10), (5, .int y9.2), (4, .int y8.2), (3, va_re ad (M.2 b2 ((9 : Int32)).toNatClampNeg)), (0, .ref (ad a)), (1, .int p0), (2, .int p1)]) hx hb dX9_direct_239 hl (k := 1) rfl (by rw [ex31]; rfl) (by decide) rfl (fun ls hl => ?_)
                      refine lv_goto (tgt := 159) hx hb dX9_direct_242 (by decide) ?_
                      obtain rfl := Option.some.inj hF
                      exact hwz25 _ _ _ hP hD hS (lv_sub hl [0, 2, 3, 4, 5, 6, 7, 8, 9, 10] rfl)
                    clear hF
                    have hF := hy30
                    clear hy30
                    refine lv_icmp_ne (tgt := 239) hx hb dX9_direct_199 (by decide) (fun c32 => ?_) (fun c32 => ?_)
                    · rw [if_neg c32] at hF
                      obtain rfl := Option.some.inj hF
                      exact J30 _ _ _ hP hD hS (lv_sub hl [0, 1, 2, 3, 4, 5, 6, 7, 8, 9, 10] rfl)
                    · rw [if_pos c32] at hF
                      refine lv_aload_n hx hb dX9_direct_202 rfl (lv_at hl 8 rfl) ?_
                      refine lv_iload_n hx hb dX9_direct_203 rfl (lv_at hl 9 rfl) ?_
                      refine lv_iload hx hb dX9_direct_204 (lv_at hl 3 rfl) ?_
                      refine lv_iload hx hb dX9_direct_206 (lv_at hl 1 rfl) ?_
                      refine lv_iload hx hb dX9_direct_208 (lv_at hl 2 rfl) ?_
                      refine lv_iload hx hb dX9_direct_210 (lv_at hl 0 rfl) ?_
                      obtain ⟨y33, hy33, hF⟩ := bnd_some hF
                      have J33 : ∀ (H : Heap) (locs : List Loc) (ls : Array Slot), va_P D classes (wld ct ad G y27.2) H → va_D A (wld ct ad G y27.2) → va_S A s.heap H locs → lv_has ls 11 [(10, .int y27.1), (9, .int s22.1), (8, .int y16), (7, .int s12.1), (6, .int y10), (5, .int y9.2), (4, .int y8.2), (3, va_re ad (M.2 b2 ((9 : Int32)).toNatClampNeg)), (0, .ref (ad a)), (1, .int p0), (2, .int p1)] → W p l e (headSpec wuX9_direct ({ frames := 3, cells := 0, slots := 0, locals := 79 })).room s m ([.ref (ad a), .int p0, .int p1] : List Value).toArray below meth c H locs 0 0 (MQ below (va_Qi (fun (q : Int32) (_ : Unit) => q = y.2) (fun _ t => kE D ct ad G A y.1 t) A) ([.ref (ad a), .int p0, .int p1] : List Value).toArray s 0 0 A) (F0 m 223 ls [.int y33, .int y16, .int s22.1, .int s12.1, .int p0, .ref (ad a)]) := by
                        intro H locs ls hP hD hS hl
                        refine lv_iload hx hb dX9_direct_223 (lv_at hl 0 rfl) ?_
                        obtain ⟨y34, hy34, hF⟩ := bnd_some hF
                        have J34 : ∀ (H : Heap) (locs : List Loc) (ls : Array Slot), va_P D classes (wld ct ad G y27.2) H → va_D A (wld ct ad G y27.2) → va_S A s.heap H locs → lv_has ls 11 [(10, .int y27.1), (9, .int s22.1), (8, .int y16), (7, .int s12.1), (6, .int y10), (5, .int y9.2), (4, .int y8.2), (3, va_re ad (M.2 b2 ((9 : Int32)).toNatClampNeg)), (0, .ref (ad a)), (1, .int p0), (2, .int p1)] → W p l e (headSpec wuX9_direct ({ frames := 3, cells := 0, slots := 0, locals := 79 })).room s m ([.ref (ad a), .int p0, .int p1] : List Value).toArray below meth c H locs 0 0 (MQ below (va_Qi (fun (q : Int32) (_ : Unit) => q = y.2) (fun _ t => kE D ct ad G A y.1 t) A) ([.ref (ad a), .int p0, .int p1] : List Value).toArray s 0 0 A) (F0 m 236 ls [.int y34, .int y33, .int y16, .int s22.1, .int s12.1, .int p0, .ref (ad a)]) := by
                          intro H locs ls hP hD hS hl
                          obtain ⟨y35, hy35, hF⟩ := bnd_some hF
                          have hf9 := wA_in hD hA9 hS
                          refine va_callv (va_runV (As := [.int p0, .int s12.1, .int s22.1, .int y16, .int y33, .int y34]) (rest := []) ⟨hx, hb, hml, hown, hts⟩ (kX9_setQuarter l D ct ad Z G y27.2 H.size a p0 s12.1 s22.1 y16 y33 y34 y35 hc hk hy35) (cwV 6 hts gX9_direct_X9_setQuarter rfl rfl rfl (by decide +kernel) ⟨Nat.le_of_ble_eq_true rfl, Nat.le_of_ble_eq_true rfl⟩) ⟨fun a U g mk q => by obtain ⟨q0, q1, qP, qK, qD, qZ, qN⟩ := q; exact ⟨q0, q1, qP, va_K.moved (u := U) (U := U.calling g mk a) (Vm.Alike.refl U.vm) qK, qD, sF.moved (u := U) (U := U.calling g mk a) (Vm.Alike.refl U.vm) qZ, nF.same rfl qN⟩, va_recv hK hP (ci := 9) (q0 := a) rfl (wld_o ct ad G y27.2 hc hk (by decide)), fun U hU hW => ⟨rfl, by rw [hU], by rw [hU]; exact hP, va_K.moved hW.alike hK, hD.weaken (fun _ _ _ _ => trivial), by rw [hU]; exact ((hZ.kept hS.2.1).narrow hf9).moved hW.alike, hN.warm hW⟩⟩ rfl rfl hl.1 rfl (lv_room (Nat.le_of_ble_eq_true rfl)) dX9_direct_236 ⟨(Nat.zero_le _), (Nat.zero_le _)⟩) hS (fun q _ h => hf9 q h) hf9 (fun u t H locs ht hvm hw hB hz1 hk1 hS => ?_)
                          obtain ⟨hP, hK9, hD9⟩ := hB
                          rw [ht] at hP
                          have hD := hD9.weaken (fun _ q _ h => hf9 q.1 h)
                          obtain rfl := Option.some.inj hF
                          exact J30 _ _ _ hP hD hS (lv_sub hl [0, 1, 2, 3, 4, 5, 6, 7, 8, 9, 10] rfl)
                        clear hF
                        have hF := hy34
                        clear hy34
                        refine lv_if_eq (tgt := 232) hx hb dX9_direct_225 (by decide) (fun c36 => ?_) (fun c36 => ?_)
                        · rw [if_pos c36] at hF
                          refine lv_aload_n hx hb dX9_direct_232 rfl (lv_at hl 8 rfl) ?_
                          refine va_get (D := D) (ci := 9) (v := .int (y27.2.1 a 19)) (C := RX9) (T := TX9) (N := 20) hx hb hts (mus hf_X9) hown hK hP a (wld_o ct ad G y27.2 hc hk (by decide)) rfl 19 (by decide) (hts (.fieldLink RX9 176 "VideoSuite$Work" "guessY" "I") (mu mw_484)) (fun _ h9 => h9) rfl dX9_direct_233 ?_
                          obtain ⟨x37, ex37, hF⟩ := ltt_some hF
                          refine lv_topi (fun zx37 ezx37 => ?_)
                          obtain rfl : x37 = zx37 := ex37.trans ezx37.symm
                          obtain rfl := Option.some.inj hF
                          exact J34 _ _ _ hP hD hS (lv_sub hl [0, 1, 2, 3, 4, 5, 6, 7, 8, 9, 10] rfl)
                        · rw [if_neg c36] at hF
                          refine lv_iconst (v := (0 : Int32)) hx hb dX9_direct_228 (by decide) ?_
                          refine lv_goto (tgt := 236) hx hb dX9_direct_229 (by decide) ?_
                          obtain rfl := Option.some.inj hF
                          exact J34 _ _ _ hP hD hS (lv_sub hl [0, 1, 2, 3, 4, 5, 6, 7, 8, 9, 10] rfl)
                      clear hF
                      have hF := hy33
                      clear hy33
                      refine lv_if_eq (tgt := 219) hx hb dX9_direct_212 (by decide) (fun c38 => ?_) (fun c38 => ?_)
                      · rw [if_pos c38] at hF
                        refine lv_aload_n hx hb dX9_direct_219 rfl (lv_at hl 8 rfl) ?_
                        refine va_get (D := D) (ci := 9) (v := .int (y27.2.1 a 18)) (C := RX9) (T := TX9) (N := 20) hx hb hts (mus hf_X9) hown hK hP a (wld_o ct ad G y27.2 hc hk (by decide)) rfl 18 (by decide) (hts (.fieldLink RX9 173 "VideoSuite$Work" "guessX" "I") (mu mw_481)) (fun _ h9 => h9) rfl dX9_direct_220 ?_
                        obtain ⟨x39, ex39, hF⟩ := ltt_some hF
                        refine lv_topi (fun zx39 ezx39 => ?_)
                        obtain rfl : x39 = zx39 := ex39.trans ezx39.symm
                        obtain rfl := Option.some.inj hF
                        exact J33 _ _ _ hP hD hS (lv_sub hl [0, 1, 2, 3, 4, 5, 6, 7, 8, 9, 10] rfl)
                      · rw [if_neg c38] at hF
                        refine lv_iconst (v := (0 : Int32)) hx hb dX9_direct_215 (by decide) ?_
                        refine lv_goto (tgt := 223) hx hb dX9_direct_216 (by decide) ?_
                        obtain rfl := Option.some.inj hF
                        exact J33 _ _ _ hP hD hS (lv_sub hl [0, 1, 2, 3, 4, 5, 6, 7, 8, 9, 10] rfl)
                  clear hF
                  have hF := hy27
                  clear hy27
                  refine lv_if_ne (tgt := 189) hx hb dX9_direct_167 (by decide) (fun c40 => ?_) (fun c40 => ?_)
                  · rw [if_neg c40] at hF
                    refine lv_iconst (v := (0 : Int32)) hx hb dX9_direct_189 (by decide) ?_
                    obtain rfl := Option.some.inj hF
                    exact J27 _ _ _ hP hD hS (lv_sub hl [0, 1, 2, 3, 4, 5, 6, 7, 8, 9] rfl)
                  · rw [if_pos c40] at hF
                    refine lv_iload hx hb dX9_direct_170 (lv_at hl 3 rfl) ?_
                    obtain ⟨y41, hy41, hF⟩ := bnd_some hF
                    have J41 : ∀ (H : Heap) (locs : List Loc) (ls : Array Slot), va_P D classes (wld ct ad G y41.2) H → va_D A (wld ct ad G y41.2) → va_S A s.heap H locs → lv_has ls 11 [(9, .int s22.1), (8, .int y16), (7, .int s12.1), (6, .int y10), (5, .int y9.2), (4, .int y8.2), (3, va_re ad (M.2 b2 ((9 : Int32)).toNatClampNeg)), (0, .ref (ad a)), (1, .int p0), (2, .int p1)] → W p l e (headSpec wuX9_direct ({ frames := 3, cells := 0, slots := 0, locals := 79 })).room s m ([.ref (ad a), .int p0, .int p1] : List Value).toArray below meth c H locs 0 0 (MQ below (va_Qi (fun (q : Int32) (_ : Unit) => q = y.2) (fun _ t => kE D ct ad G A y.1 t) A) ([.ref (ad a), .int p0, .int p1] : List Value).toArray s 0 0 A) (F0 m 190 ls [.int y41.1]) := by
                      intro H locs ls hP hD hS hl
                      obtain rfl := Option.some.inj hF
                      exact J27 _ _ _ hP hD hS (lv_sub hl [0, 1, 2, 3, 4, 5, 6, 7, 8, 9] rfl)
                    clear hF
                    have hF := hy41
                    clear hy41
                    refine lv_if_ne (tgt := 189) hx hb dX9_direct_172 (by decide) (fun c42 => ?_) (fun c42 => ?_)
                    · rw [if_neg c42] at hF
                      refine lv_iconst (v := (0 : Int32)) hx hb dX9_direct_189 (by decide) ?_
                      obtain rfl := Option.some.inj hF
                      exact J41 _ _ _ hP hD hS (lv_sub hl [0, 1, 2, 3, 4, 5, 6, 7, 8, 9] rfl)
                    · rw [if_pos c42] at hF
                      refine lv_aloadq_n hx hb dX9_direct_175 rfl (lv_at hl 6 rfl) ?_
                      refine lv_iload_n hx hb dX9_direct_176 rfl (lv_at hl 8 rfl) ?_
                      refine lv_iload hx hb dX9_direct_177 (lv_at hl 0 rfl) ?_
                      obtain ⟨y43, hy43, hF⟩ := bnd_some hF
                      have hf9 := wA_in hD hA9 hS
                      refine va_calli (va_runS (As := [va_re ad (M.2 b2 ((9 : Int32)).toNatClampNeg), .int p0, .int s22.1]) (rest := []) ⟨hx, hb, hml, hown, hts⟩ (kX9_isStill l D ct ad Z G s22.2 H.size ((M.2 b2 ((9 : Int32)).toNatClampNeg)) p0 s22.1 y43 hy43) (va_cwS 3 hts gX9_direct_X9_isStill rfl rfl rfl (by decide +kernel) ⟨Nat.le_of_ble_eq_true rfl, Nat.le_of_ble_eq_true rfl⟩) ⟨fun a U g mk q => by obtain ⟨q0, q1, qP, qK, qD, qZ, qN⟩ := q; exact ⟨q0, q1, qP, va_K.moved (u := U) (U := U.calling g mk a) (Vm.Alike.refl U.vm) qK, qD, sF.moved (u := U) (U := U.calling g mk a) (Vm.Alike.refl U.vm) qZ, nF.same rfl qN⟩, fun U hU hW => ⟨rfl, by rw [hU], by rw [hU]; exact hP, va_K.moved hW.alike hK, hD.weaken (fun _ _ _ _ => trivial), by rw [hU]; exact ((hZ.kept hS.2.1).narrow hf9).moved hW.alike, hN.warm hW⟩⟩ rfl rfl hl.1 rfl (lv_room (Nat.le_of_ble_eq_true rfl)) dX9_direct_179 ⟨(Nat.zero_le _), (Nat.zero_le _)⟩) hS (fun q _ h => hf9 q h) hf9 (fun r u t H locs ht hvm hw hB hz1 hk1 hS => ?_)
                      obtain ⟨hP, hK9, hD9⟩ := hB
                      rw [ht] at hP
                      try dsimp only at hw
                      subst hw
                      have hD := hD9.weaken (fun _ q _ h => hf9 q.1 h)
                      obtain ⟨y44, hy44, hF⟩ := bnd_some hF
                      have J44 : ∀ (H : Heap) (locs : List Loc) (ls : Array Slot), va_P D classes (wld ct ad G y43.1) H → va_D A (wld ct ad G y43.1) → va_S A s.heap H locs → lv_has ls 11 [(9, .int s22.1), (8, .int y16), (7, .int s12.1), (6, .int y10), (5, .int y9.2), (4, .int y8.2), (3, va_re ad (M.2 b2 ((9 : Int32)).toNatClampNeg)), (0, .ref (ad a)), (1, .int p0), (2, .int p1)] → W p l e (headSpec wuX9_direct ({ frames := 3, cells := 0, slots := 0, locals := 79 })).room s m ([.ref (ad a), .int p0, .int p1] : List Value).toArray below meth c H locs 0 0 (MQ below (va_Qi (fun (q : Int32) (_ : Unit) => q = y.2) (fun _ t => kE D ct ad G A y.1 t) A) ([.ref (ad a), .int p0, .int p1] : List Value).toArray s 0 0 A) (F0 m 190 ls [.int y44]) := by
                        intro H locs ls hP hD hS hl
                        obtain rfl := Option.some.inj hF
                        exact J41 _ _ _ hP hD hS (lv_sub hl [0, 1, 2, 3, 4, 5, 6, 7, 8, 9] rfl)
                      clear hF
                      have hF := hy44
                      clear hy44
                      refine lv_if_eq (tgt := 189) hx hb dX9_direct_182 (by decide) (fun c45 => ?_) (fun c45 => ?_)
                      · rw [if_pos c45] at hF
                        refine lv_iconst (v := (0 : Int32)) hx hb dX9_direct_189 (by decide) ?_
                        obtain rfl := Option.some.inj hF
                        exact J44 _ _ _ hP hD hS (lv_sub hl [0, 1, 2, 3, 4, 5, 6, 7, 8, 9] rfl)
                      · rw [if_neg c45] at hF
                        refine lv_iconst (v := (1 : Int32)) hx hb dX9_direct_185 (by decide) ?_
                        refine lv_goto (tgt := 190) hx hb dX9_direct_186 (by decide) ?_
                        obtain rfl := Option.some.inj hF
                        exact J44 _ _ _ hP hD hS (lv_sub hl [0, 1, 2, 3, 4, 5, 6, 7, 8, 9] rfl)
              clear hF
              have hF := hy20
              clear hy20
              refine lv_if_lt (tgt := 156) hx hb dX9_direct_135 (by decide) (fun c46 => ?_) (fun c46 => ?_)
              · rw [if_pos c46] at hF
                obtain rfl := Option.some.inj hF
                exact J20 _ _ _ hP hD hS (lv_sub hl [0, 1, 2, 3, 4, 5, 6, 7, 8] rfl)
              · rw [if_neg c46] at hF
                refine lv_iload hx hb dX9_direct_138 (lv_at hl 2 rfl) ?_
                obtain ⟨y47, hy47, hF⟩ := bnd_some hF
                have J47 : ∀ (H : Heap) (locs : List Loc) (ls : Array Slot), va_P D classes (wld ct ad G y47) H → va_D A (wld ct ad G y47) → va_S A s.heap H locs → lv_has ls 11 [(8, .int y16), (7, .int s12.1), (6, .int y10), (5, .int y9.2), (4, .int y8.2), (3, va_re ad (M.2 b2 ((9 : Int32)).toNatClampNeg)), (0, .ref (ad a)), (1, .int p0), (2, .int p1)] → W p l e (headSpec wuX9_direct ({ frames := 3, cells := 0, slots := 0, locals := 79 })).room s m ([.ref (ad a), .int p0, .int p1] : List Value).toArray below meth c H locs 0 0 (MQ below (va_Qi (fun (q : Int32) (_ : Unit) => q = y.2) (fun _ t => kE D ct ad G A y.1 t) A) ([.ref (ad a), .int p0, .int p1] : List Value).toArray s 0 0 A) (F0 m 156 ls []) := by
                  intro H locs ls hP hD hS hl
                  obtain rfl := Option.some.inj hF
                  exact J20 _ _ _ hP hD hS (lv_sub hl [0, 1, 2, 3, 4, 5, 6, 7, 8] rfl)
                clear hF
                have hF := hy47
                clear hy47
                refine lv_if_ne (tgt := 156) hx hb dX9_direct_140 (by decide) (fun c48 => ?_) (fun c48 => ?_)
                · rw [if_neg c48] at hF
                  obtain rfl := Option.some.inj hF
                  exact J47 _ _ _ hP hD hS (lv_sub hl [0, 1, 2, 3, 4, 5, 6, 7, 8] rfl)
                · rw [if_pos c48] at hF
                  refine lv_aload_n hx hb dX9_direct_143 rfl (lv_at hl 6 rfl) ?_
                  refine lv_iload_n hx hb dX9_direct_144 rfl (lv_at hl 7 rfl) ?_
                  refine lv_iload hx hb dX9_direct_145 (lv_at hl 1 rfl) ?_
                  refine lv_iload hx hb dX9_direct_147 (lv_at hl 0 rfl) ?_
                  refine lv_iconst (v := (0 : Int32)) hx hb dX9_direct_149 (by decide) ?_
                  refine lv_bipush (v := (16 : Int32)) hx hb dX9_direct_150 (by decide) ?_
                  refine lv_iconst (v := (0 : Int32)) hx hb dX9_direct_152 (by decide) ?_
                  obtain ⟨y49, hy49, hF⟩ := bnd_some hF
                  have hf9 := wA_in hD hA9 hS
                  refine va_callv (va_runV (As := [.int p0, .int s12.1, .int y16, .int (0 : Int32), .int (16 : Int32), .int (0 : Int32)]) (rest := []) ⟨hx, hb, hml, hown, hts⟩ (kX9_guess l D ct ad Z G M18 H.size a p0 s12.1 y16 ((0 : Int32)) ((16 : Int32)) ((0 : Int32)) y49 hc hk hy49) (cwV 6 hts gX9_direct_X9_guess rfl rfl rfl (by decide +kernel) ⟨Nat.le_of_ble_eq_true rfl, Nat.le_of_ble_eq_true rfl⟩) ⟨fun a U g mk q => by obtain ⟨q0, q1, qP, qK, qD, qZ, qN⟩ := q; exact ⟨q0, q1, qP, va_K.moved (u := U) (U := U.calling g mk a) (Vm.Alike.refl U.vm) qK, qD, sF.moved (u := U) (U := U.calling g mk a) (Vm.Alike.refl U.vm) qZ, nF.same rfl qN⟩, va_recv hK hP (ci := 9) (q0 := a) rfl (wld_o ct ad G M18 hc hk (by decide)), fun U hU hW => ⟨rfl, by rw [hU], by rw [hU]; exact hP, va_K.moved hW.alike hK, hD.weaken (fun _ _ _ _ => trivial), by rw [hU]; exact ((hZ.kept hS.2.1).narrow hf9).moved hW.alike, hN.warm hW⟩⟩ rfl rfl hl.1 rfl (lv_room (Nat.le_of_ble_eq_true rfl)) dX9_direct_153 ⟨(Nat.zero_le _), (Nat.zero_le _)⟩) hS (fun q _ h => hf9 q h) hf9 (fun u t H locs ht hvm hw hB hz1 hk1 hS => ?_)
                  obtain ⟨hP, hK9, hD9⟩ := hB
                  rw [ht] at hP
                  have hD := hD9.weaken (fun _ q _ h => hf9 q.1 h)
                  obtain rfl := Option.some.inj hF
                  exact J47 _ _ _ hP hD hS (lv_sub hl [0, 1, 2, 3, 4, 5, 6, 7, 8] rfl)
            · rw [if_neg c19] at hF
              refine lv_aload_n hx hb dX9_direct_115 rfl (lv_at hl 6 rfl) ?_
              refine va_get (D := D) (ci := 9) (v := va_re ad (M18.2 a 3)) (C := RX9) (T := TX9) (N := 20) hx hb hts (mus hf_X9) hown hK hP a (wld_o ct ad G M18 hc hk (by decide)) rfl 3 (by decide) (hts (.fieldLink RX9 11 "VideoSuite$Work" "lists" "[LVideoSuite$Picture;") (mu mw_435)) (fun _ h9 => h9) rfl dX9_direct_116 ?_
              refine lv_bipush (v := (9 : Int32)) hx hb dX9_direct_119 (by decide) ?_
              refine lv_iload hx hb dX9_direct_121 (lv_at hl 1 rfl) ?_
              refine lv_imul hx hb dX9_direct_123 ?_
              obtain ⟨x50, ex50, hF⟩ := ltt_some hF
              refine lv_topi (fun zx50 ezx50 => ?_)
              obtain rfl : x50 = zx50 := ex50.trans ezx50.symm
              refine lv_iload hx hb dX9_direct_124 (lv_at hl 0 rfl) ?_
              refine lv_iadd hx hb dX9_direct_126 ?_
              obtain ⟨x51, ex51, hF⟩ := ltt_some hF
              refine lv_topi (fun zx51 ezx51 => ?_)
              obtain rfl : x51 = zx51 := ex51.trans ezx51.symm
              obtain ⟨b52, ho52, hc52, hk52, hF⟩ := dr_some hF
              refine W_st (st' := [.int x51, .ref (ad b52)]) (by rw [va_some ho52]) ?_
              obtain ⟨hvc, hF⟩ := chk_some hF
              refine ld_q hx hb hK hP hc52 hk52 hvc dX9_direct_127 ?_
              refine lv_ifnonnullq (tgt := 133) hx hb dX9_direct_128 (by decide) (fun c53 => ?_) (fun c53 => ?_)
              · rw [if_neg c53] at hF
                refine lv_iload hx hb dX9_direct_133 (lv_at hl 0 rfl) ?_
                obtain ⟨y54, hy54, hF⟩ := bnd_some hF
                have J54 : ∀ (H : Heap) (locs : List Loc) (ls : Array Slot), va_P D classes (wld ct ad G y54) H → va_D A (wld ct ad G y54) → va_S A s.heap H locs → lv_has ls 11 [(8, .int y16), (7, .int s12.1), (6, .int y10), (5, .int y9.2), (4, .int y8.2), (3, va_re ad (M.2 b2 ((9 : Int32)).toNatClampNeg)), (0, .ref (ad a)), (1, .int p0), (2, .int p1)] → W p l e (headSpec wuX9_direct ({ frames := 3, cells := 0, slots := 0, locals := 79 })).room s m ([.ref (ad a), .int p0, .int p1] : List Value).toArray below meth c H locs 0 0 (MQ below (va_Qi (fun (q : Int32) (_ : Unit) => q = y.2) (fun _ t => kE D ct ad G A y.1 t) A) ([.ref (ad a), .int p0, .int p1] : List Value).toArray s 0 0 A) (F0 m 156 ls []) := by
                  intro H locs ls hP hD hS hl
                  refine lv_iconst (v := (0 : Int32)) hx hb dX9_direct_156 (by decide) ?_
                  refine lv_istore (lv' := [(9, .int (0 : Int32)), (8, .int y16), (7, .int s12.1), (6, .int y10), (5, .int y9.2), (4, .int y8.2), (3, va_re ad (M.2 b2 ((9 : Int32)).toNatClampNeg)), (0, .ref (ad a)), (1, .int p0), (2, .int p1)]) hx hb dX9_direct_157 hl (by decide) rfl (fun ls hl => ?_)
                  obtain ⟨y55, hy55, hF⟩ := bnd_some hF
                  have K55 : ∀ (H : Heap) (locs : List Loc) (ls : Array Slot), va_P D classes (wld ct ad G y55.2) H → va_D A (wld ct ad G y55.2) → va_S A s.heap H locs → lv_has ls 11 [(9, .int y55.1), (8, .int y16), (7, .int s12.1), (6, .int y10), (5, .int y9.2), (4, .int y8.2), (3, va_re ad (M.2 b2 ((9 : Int32)).toNatClampNeg)), (0, .ref (ad a)), (1, .int p0), (2, .int p1)] → W p l e (headSpec wuX9_direct ({ frames := 3, cells := 0, slots := 0, locals := 79 })).room s m ([.ref (ad a), .int p0, .int p1] : List Value).toArray below meth c H locs 0 0 (MQ below (va_Qi (fun (q : Int32) (_ : Unit) => q = y.2) (fun _ t => kE D ct ad G A y.1 t) A) ([.ref (ad a), .int p0, .int p1] : List Value).toArray s 0 0 A) (F0 m 245 ls []) := by
                    intro H locs ls hP hD hS hl
                    obtain ⟨x58, ex58, hF⟩ := ltt_some hF
                    refine lv_iinc (v := x58) (lv' := [(7, .int x58), (9, .int y55.1), (8, .int y16), (6, .int y10), (5, .int y9.2), (4, .int y8.2), (3, va_re ad (M.2 b2 ((9 : Int32)).toNatClampNeg)), (0, .ref (ad a)), (1, .int p0), (2, .int p1)]) hx hb dX9_direct_245 hl (k := 2) rfl (by rw [ex58]; rfl) (by decide) rfl (fun ls hl => ?_)
                    refine lv_goto (tgt := 71) hx hb dX9_direct_248 (by decide) ?_
                    obtain rfl := Option.some.inj hF
                    exact hwz14 _ _ _ hP hD hS (lv_sub hl [0, 3, 4, 5, 6, 7, 8, 9] rfl)
                  clear hF
                  refine itr_rule (fun (s56 : Int32 × DD) => ∀ (H : Heap) (locs : List Loc) (ls : Array Slot), va_P D classes (wld ct ad G s56.2) H → va_D A (wld ct ad G s56.2) → va_S A s.heap H locs → lv_has ls 11 [(9, .int s56.1), (8, .int y16), (7, .int s12.1), (6, .int y10), (5, .int y9.2), (4, .int y8.2), (3, va_re ad (M.2 b2 ((9 : Int32)).toNatClampNeg)), (0, .ref (ad a)), (1, .int p0), (2, .int p1)] → W p l e (headSpec wuX9_direct ({ frames := 3, cells := 0, slots := 0, locals := 79 })).room s m ([.ref (ad a), .int p0, .int p1] : List Value).toArray below meth c H locs 0 0 (MQ below (va_Qi (fun (q : Int32) (_ : Unit) => q = y.2) (fun _ t => kE D ct ad G A y.1 t) A) ([.ref (ad a), .int p0, .int p1] : List Value).toArray s 0 0 A) (F0 m 159 ls [])) ?_ _ _ hy55 _ _ _ hP hD hS (lv_sub hl [0, 1, 2, 3, 4, 5, 6, 7, 8, 9] rfl)
                  rintro s56 ⟨z59, hF, hwz59⟩ H locs ls hP hD hS hl
                  try dsimp only at hF
                  refine lv_iload hx hb dX9_direct_159 (lv_at hl 0 rfl) ?_
                  refine lv_iconst (v := (4 : Int32)) hx hb dX9_direct_161 (by decide) ?_
                  refine lv_icmp_ge (tgt := 245) hx hb dX9_direct_162 (by decide) (fun c60 => ?_) (fun c60 => ?_)
                  · rw [if_pos c60] at hF
                    obtain rfl := Option.some.inj hF
                    subst hwz59
                    exact K55 _ _ _ hP hD hS (lv_sub hl [0, 1, 2, 3, 4, 5, 6, 7, 8, 9] rfl)
                  · rw [if_neg c60] at hF
                    refine lv_iload hx hb dX9_direct_165 (lv_at hl 1 rfl) ?_
                    obtain ⟨y61, hy61, hF⟩ := bnd_some hF
                    have J61 : ∀ (H : Heap) (locs : List Loc) (ls : Array Slot), va_P D classes (wld ct ad G y61.2) H → va_D A (wld ct ad G y61.2) → va_S A s.heap H locs → lv_has ls 11 [(9, .int s56.1), (8, .int y16), (7, .int s12.1), (6, .int y10), (5, .int y9.2), (4, .int y8.2), (3, va_re ad (M.2 b2 ((9 : Int32)).toNatClampNeg)), (0, .ref (ad a)), (1, .int p0), (2, .int p1)] → W p l e (headSpec wuX9_direct ({ frames := 3, cells := 0, slots := 0, locals := 79 })).room s m ([.ref (ad a), .int p0, .int p1] : List Value).toArray below meth c H locs 0 0 (MQ below (va_Qi (fun (q : Int32) (_ : Unit) => q = y.2) (fun _ t => kE D ct ad G A y.1 t) A) ([.ref (ad a), .int p0, .int p1] : List Value).toArray s 0 0 A) (F0 m 190 ls [.int y61.1]) := by
                      intro H locs ls hP hD hS hl
                      refine lv_istore (lv' := [(10, .int y61.1), (9, .int s56.1), (8, .int y16), (7, .int s12.1), (6, .int y10), (5, .int y9.2), (4, .int y8.2), (3, va_re ad (M.2 b2 ((9 : Int32)).toNatClampNeg)), (0, .ref (ad a)), (1, .int p0), (2, .int p1)]) hx hb dX9_direct_190 hl (by decide) rfl (fun ls hl => ?_)
                      refine lv_iload_n hx hb dX9_direct_192 rfl (lv_at hl 10 rfl) ?_
                      refine lv_iload hx hb dX9_direct_193 (lv_at hl 1 rfl) ?_
                      refine lv_ishr hx hb dX9_direct_195 ?_
                      obtain ⟨x62, ex62, hF⟩ := ltt_some hF
                      refine lv_topi (fun zx62 ezx62 => ?_)
                      obtain rfl : x62 = zx62 := ex62.trans ezx62.symm
                      refine lv_iconst (v := (1 : Int32)) hx hb dX9_direct_196 (by decide) ?_
                      refine lv_iand hx hb dX9_direct_197 ?_
                      obtain ⟨x63, ex63, hF⟩ := ltt_some hF
                      refine lv_topi (fun zx63 ezx63 => ?_)
                      obtain rfl : x63 = zx63 := ex63.trans ezx63.symm
                      refine lv_iconst (v := (1 : Int32)) hx hb dX9_direct_198 (by decide) ?_
                      obtain ⟨y64, hy64, hF⟩ := bnd_some hF
                      have J64 : ∀ (H : Heap) (locs : List Loc) (ls : Array Slot), va_P D classes (wld ct ad G y64) H → va_D A (wld ct ad G y64) → va_S A s.heap H locs → lv_has ls 11 [(10, .int y61.1), (9, .int s56.1), (8, .int y16), (7, .int s12.1), (6, .int y10), (5, .int y9.2), (4, .int y8.2), (3, va_re ad (M.2 b2 ((9 : Int32)).toNatClampNeg)), (0, .ref (ad a)), (1, .int p0), (2, .int p1)] → W p l e (headSpec wuX9_direct ({ frames := 3, cells := 0, slots := 0, locals := 79 })).room s m ([.ref (ad a), .int p0, .int p1] : List Value).toArray below meth c H locs 0 0 (MQ below (va_Qi (fun (q : Int32) (_ : Unit) => q = y.2) (fun _ t => kE D ct ad G A y.1 t) A) ([.ref (ad a), .int p0, .int p1] : List Value).toArray s 0 0 A) (F0 m 239 ls []) := by
                        intro H locs ls hP hD hS hl
                        obtain ⟨x65, ex65, hF⟩ := ltt_some hF
                        refine lv_iinc (v := x65) (lv' := [(9, .int x65), (10, .int y61.1), (8, .int y16), (7, .int s12.1), (6, .int y10), (5, .int y9.2), (4, .int y8.2), (3, va_re ad (M.2 b2 ((9 : Int32)).toNatClampNeg)), (0, .ref (ad a)), (1, .int p0), (2, .int p1)]) hx hb dX9_direct_239 hl (k := 1) rfl (by rw [ex65]; rfl) (by decide) rfl (fun ls hl => ?_)
                        refine lv_goto (tgt := 159) hx hb dX9_direct_242 (by decide) ?_
                        obtain rfl := Option.some.inj hF
                        exact hwz59 _ _ _ hP hD hS (lv_sub hl [0, 2, 3, 4, 5, 6, 7, 8, 9, 10] rfl)
                      clear hF
                      have hF := hy64
                      clear hy64
                      refine lv_icmp_ne (tgt := 239) hx hb dX9_direct_199 (by decide) (fun c66 => ?_) (fun c66 => ?_)
                      · rw [if_neg c66] at hF
                        obtain rfl := Option.some.inj hF
                        exact J64 _ _ _ hP hD hS (lv_sub hl [0, 1, 2, 3, 4, 5, 6, 7, 8, 9, 10] rfl)
                      · rw [if_pos c66] at hF
                        refine lv_aload_n hx hb dX9_direct_202 rfl (lv_at hl 8 rfl) ?_
                        refine lv_iload_n hx hb dX9_direct_203 rfl (lv_at hl 9 rfl) ?_
                        refine lv_iload hx hb dX9_direct_204 (lv_at hl 3 rfl) ?_
                        refine lv_iload hx hb dX9_direct_206 (lv_at hl 1 rfl) ?_
                        refine lv_iload hx hb dX9_direct_208 (lv_at hl 2 rfl) ?_
                        refine lv_iload hx hb dX9_direct_210 (lv_at hl 0 rfl) ?_
                        obtain ⟨y67, hy67, hF⟩ := bnd_some hF
                        have J67 : ∀ (H : Heap) (locs : List Loc) (ls : Array Slot), va_P D classes (wld ct ad G y61.2) H → va_D A (wld ct ad G y61.2) → va_S A s.heap H locs → lv_has ls 11 [(10, .int y61.1), (9, .int s56.1), (8, .int y16), (7, .int s12.1), (6, .int y10), (5, .int y9.2), (4, .int y8.2), (3, va_re ad (M.2 b2 ((9 : Int32)).toNatClampNeg)), (0, .ref (ad a)), (1, .int p0), (2, .int p1)] → W p l e (headSpec wuX9_direct ({ frames := 3, cells := 0, slots := 0, locals := 79 })).room s m ([.ref (ad a), .int p0, .int p1] : List Value).toArray below meth c H locs 0 0 (MQ below (va_Qi (fun (q : Int32) (_ : Unit) => q = y.2) (fun _ t => kE D ct ad G A y.1 t) A) ([.ref (ad a), .int p0, .int p1] : List Value).toArray s 0 0 A) (F0 m 223 ls [.int y67, .int y16, .int s56.1, .int s12.1, .int p0, .ref (ad a)]) := by
                          intro H locs ls hP hD hS hl
                          refine lv_iload hx hb dX9_direct_223 (lv_at hl 0 rfl) ?_
                          obtain ⟨y68, hy68, hF⟩ := bnd_some hF
                          have J68 : ∀ (H : Heap) (locs : List Loc) (ls : Array Slot), va_P D classes (wld ct ad G y61.2) H → va_D A (wld ct ad G y61.2) → va_S A s.heap H locs → lv_has ls 11 [(10, .int y61.1), (9, .int s56.1), (8, .int y16), (7, .int s12.1), (6, .int y10), (5, .int y9.2), (4, .int y8.2), (3, va_re ad (M.2 b2 ((9 : Int32)).toNatClampNeg)), (0, .ref (ad a)), (1, .int p0), (2, .int p1)] → W p l e (headSpec wuX9_direct ({ frames := 3, cells := 0, slots := 0, locals := 79 })).room s m ([.ref (ad a), .int p0, .int p1] : List Value).toArray below meth c H locs 0 0 (MQ below (va_Qi (fun (q : Int32) (_ : Unit) => q = y.2) (fun _ t => kE D ct ad G A y.1 t) A) ([.ref (ad a), .int p0, .int p1] : List Value).toArray s 0 0 A) (F0 m 236 ls [.int y68, .int y67, .int y16, .int s56.1, .int s12.1, .int p0, .ref (ad a)]) := by
                            intro H locs ls hP hD hS hl
                            obtain ⟨y69, hy69, hF⟩ := bnd_some hF
                            have hf9 := wA_in hD hA9 hS
                            refine va_callv (va_runV (As := [.int p0, .int s12.1, .int s56.1, .int y16, .int y67, .int y68]) (rest := []) ⟨hx, hb, hml, hown, hts⟩ (kX9_setQuarter l D ct ad Z G y61.2 H.size a p0 s12.1 s56.1 y16 y67 y68 y69 hc hk hy69) (cwV 6 hts gX9_direct_X9_setQuarter rfl rfl rfl (by decide +kernel) ⟨Nat.le_of_ble_eq_true rfl, Nat.le_of_ble_eq_true rfl⟩) ⟨fun a U g mk q => by obtain ⟨q0, q1, qP, qK, qD, qZ, qN⟩ := q; exact ⟨q0, q1, qP, va_K.moved (u := U) (U := U.calling g mk a) (Vm.Alike.refl U.vm) qK, qD, sF.moved (u := U) (U := U.calling g mk a) (Vm.Alike.refl U.vm) qZ, nF.same rfl qN⟩, va_recv hK hP (ci := 9) (q0 := a) rfl (wld_o ct ad G y61.2 hc hk (by decide)), fun U hU hW => ⟨rfl, by rw [hU], by rw [hU]; exact hP, va_K.moved hW.alike hK, hD.weaken (fun _ _ _ _ => trivial), by rw [hU]; exact ((hZ.kept hS.2.1).narrow hf9).moved hW.alike, hN.warm hW⟩⟩ rfl rfl hl.1 rfl (lv_room (Nat.le_of_ble_eq_true rfl)) dX9_direct_236 ⟨(Nat.zero_le _), (Nat.zero_le _)⟩) hS (fun q _ h => hf9 q h) hf9 (fun u t H locs ht hvm hw hB hz1 hk1 hS => ?_)
                            obtain ⟨hP, hK9, hD9⟩ := hB
                            rw [ht] at hP
                            have hD := hD9.weaken (fun _ q _ h => hf9 q.1 h)
                            obtain rfl := Option.some.inj hF
                            exact J64 _ _ _ hP hD hS (lv_sub hl [0, 1, 2, 3, 4, 5, 6, 7, 8, 9, 10] rfl)
                          clear hF
                          have hF := hy68
                          clear hy68
                          refine lv_if_eq (tgt := 232) hx hb dX9_direct_225 (by decide) (fun c70 => ?_) (fun c70 => ?_)
                          · rw [if_pos c70] at hF
                            refine lv_aload_n hx hb dX9_direct_232 rfl (lv_at hl 8 rfl) ?_
                            refine va_get (D := D) (ci := 9) (v := .int (y61.2.1 a 19)) (C := RX9) (T := TX9) (N := 20) hx hb hts (mus hf_X9) hown hK hP a (wld_o ct ad G y61.2 hc hk (by decide)) rfl 19 (by decide) (hts (.fieldLink RX9 176 "VideoSuite$Work" "guessY" "I") (mu mw_484)) (fun _ h9 => h9) rfl dX9_direct_233 ?_
                            obtain ⟨x71, ex71, hF⟩ := ltt_some hF
                            refine lv_topi (fun zx71 ezx71 => ?_)
                            obtain rfl : x71 = zx71 := ex71.trans ezx71.symm
                            obtain rfl := Option.some.inj hF
                            exact J68 _ _ _ hP hD hS (lv_sub hl [0, 1, 2, 3, 4, 5, 6, 7, 8, 9, 10] rfl)
                          · rw [if_neg c70] at hF
                            refine lv_iconst (v := (0 : Int32)) hx hb dX9_direct_228 (by decide) ?_
                            refine lv_goto (tgt := 236) hx hb dX9_direct_229 (by decide) ?_
                            obtain rfl := Option.some.inj hF
                            exact J68 _ _ _ hP hD hS (lv_sub hl [0, 1, 2, 3, 4, 5, 6, 7, 8, 9, 10] rfl)
                        clear hF
                        have hF := hy67
                        clear hy67
                        refine lv_if_eq (tgt := 219) hx hb dX9_direct_212 (by decide) (fun c72 => ?_) (fun c72 => ?_)
                        · rw [if_pos c72] at hF
                          refine lv_aload_n hx hb dX9_direct_219 rfl (lv_at hl 8 rfl) ?_
                          refine va_get (D := D) (ci := 9) (v := .int (y61.2.1 a 18)) (C := RX9) (T := TX9) (N := 20) hx hb hts (mus hf_X9) hown hK hP a (wld_o ct ad G y61.2 hc hk (by decide)) rfl 18 (by decide) (hts (.fieldLink RX9 173 "VideoSuite$Work" "guessX" "I") (mu mw_481)) (fun _ h9 => h9) rfl dX9_direct_220 ?_
                          obtain ⟨x73, ex73, hF⟩ := ltt_some hF
                          refine lv_topi (fun zx73 ezx73 => ?_)
                          obtain rfl : x73 = zx73 := ex73.trans ezx73.symm
                          obtain rfl := Option.some.inj hF
                          exact J67 _ _ _ hP hD hS (lv_sub hl [0, 1, 2, 3, 4, 5, 6, 7, 8, 9, 10] rfl)
                        · rw [if_neg c72] at hF
                          refine lv_iconst (v := (0 : Int32)) hx hb dX9_direct_215 (by decide) ?_
                          refine lv_goto (tgt := 223) hx hb dX9_direct_216 (by decide) ?_
                          obtain rfl := Option.some.inj hF
                          exact J67 _ _ _ hP hD hS (lv_sub hl [0, 1, 2, 3, 4, 5, 6, 7, 8, 9, 10] rfl)
                    clear hF
                    have hF := hy61
                    clear hy61
                    refine lv_if_ne (tgt := 189) hx hb dX9_direct_167 (by decide) (fun c74 => ?_) (fun c74 => ?_)
                    · rw [if_neg c74] at hF
                      refine lv_iconst (v := (0 : Int32)) hx hb dX9_direct_189 (by decide) ?_
                      obtain rfl := Option.some.inj hF
                      exact J61 _ _ _ hP hD hS (lv_sub hl [0, 1, 2, 3, 4, 5, 6, 7, 8, 9] rfl)
                    · rw [if_pos c74] at hF
                      refine lv_iload hx hb dX9_direct_170 (lv_at hl 3 rfl) ?_
                      obtain ⟨y75, hy75, hF⟩ := bnd_some hF
                      have J75 : ∀ (H : Heap) (locs : List Loc) (ls : Array Slot), va_P D classes (wld ct ad G y75.2) H → va_D A (wld ct ad G y75.2) → va_S A s.heap H locs → lv_has ls 11 [(9, .int s56.1), (8, .int y16), (7, .int s12.1), (6, .int y10), (5, .int y9.2), (4, .int y8.2), (3, va_re ad (M.2 b2 ((9 : Int32)).toNatClampNeg)), (0, .ref (ad a)), (1, .int p0), (2, .int p1)] → W p l e (headSpec wuX9_direct ({ frames := 3, cells := 0, slots := 0, locals := 79 })).room s m ([.ref (ad a), .int p0, .int p1] : List Value).toArray below meth c H locs 0 0 (MQ below (va_Qi (fun (q : Int32) (_ : Unit) => q = y.2) (fun _ t => kE D ct ad G A y.1 t) A) ([.ref (ad a), .int p0, .int p1] : List Value).toArray s 0 0 A) (F0 m 190 ls [.int y75.1]) := by
                        intro H locs ls hP hD hS hl
                        obtain rfl := Option.some.inj hF
                        exact J61 _ _ _ hP hD hS (lv_sub hl [0, 1, 2, 3, 4, 5, 6, 7, 8, 9] rfl)
                      clear hF
                      have hF := hy75
                      clear hy75
                      refine lv_if_ne (tgt := 189) hx hb dX9_direct_172 (by decide) (fun c76 => ?_) (fun c76 => ?_)
                      · rw [if_neg c76] at hF
                        refine lv_iconst (v := (0 : Int32)) hx hb dX9_direct_189 (by decide) ?_
                        obtain rfl := Option.some.inj hF
                        exact J75 _ _ _ hP hD hS (lv_sub hl [0, 1, 2, 3, 4, 5, 6, 7, 8, 9] rfl)
                      · rw [if_pos c76] at hF
                        refine lv_aloadq_n hx hb dX9_direct_175 rfl (lv_at hl 6 rfl) ?_
                        refine lv_iload_n hx hb dX9_direct_176 rfl (lv_at hl 8 rfl) ?_
                        refine lv_iload hx hb dX9_direct_177 (lv_at hl 0 rfl) ?_
                        obtain ⟨y77, hy77, hF⟩ := bnd_some hF
                        have hf9 := wA_in hD hA9 hS
                        refine va_calli (va_runS (As := [va_re ad (M.2 b2 ((9 : Int32)).toNatClampNeg), .int p0, .int s56.1]) (rest := []) ⟨hx, hb, hml, hown, hts⟩ (kX9_isStill l D ct ad Z G s56.2 H.size ((M.2 b2 ((9 : Int32)).toNatClampNeg)) p0 s56.1 y77 hy77) (va_cwS 3 hts gX9_direct_X9_isStill rfl rfl rfl (by decide +kernel) ⟨Nat.le_of_ble_eq_true rfl, Nat.le_of_ble_eq_true rfl⟩) ⟨fun a U g mk q => by obtain ⟨q0, q1, qP, qK, qD, qZ, qN⟩ := q; exact ⟨q0, q1, qP, va_K.moved (u := U) (U := U.calling g mk a) (Vm.Alike.refl U.vm) qK, qD, sF.moved (u := U) (U := U.calling g mk a) (Vm.Alike.refl U.vm) qZ, nF.same rfl qN⟩, fun U hU hW => ⟨rfl, by rw [hU], by rw [hU]; exact hP, va_K.moved hW.alike hK, hD.weaken (fun _ _ _ _ => trivial), by rw [hU]; exact ((hZ.kept hS.2.1).narrow hf9).moved hW.alike, hN.warm hW⟩⟩ rfl rfl hl.1 rfl (lv_room (Nat.le_of_ble_eq_true rfl)) dX9_direct_179 ⟨(Nat.zero_le _), (Nat.zero_le _)⟩) hS (fun q _ h => hf9 q h) hf9 (fun r u t H locs ht hvm hw hB hz1 hk1 hS => ?_)
                        obtain ⟨hP, hK9, hD9⟩ := hB
                        rw [ht] at hP
                        try dsimp only at hw
                        subst hw
                        have hD := hD9.weaken (fun _ q _ h => hf9 q.1 h)
                        obtain ⟨y78, hy78, hF⟩ := bnd_some hF
                        have J78 : ∀ (H : Heap) (locs : List Loc) (ls : Array Slot), va_P D classes (wld ct ad G y77.1) H → va_D A (wld ct ad G y77.1) → va_S A s.heap H locs → lv_has ls 11 [(9, .int s56.1), (8, .int y16), (7, .int s12.1), (6, .int y10), (5, .int y9.2), (4, .int y8.2), (3, va_re ad (M.2 b2 ((9 : Int32)).toNatClampNeg)), (0, .ref (ad a)), (1, .int p0), (2, .int p1)] → W p l e (headSpec wuX9_direct ({ frames := 3, cells := 0, slots := 0, locals := 79 })).room s m ([.ref (ad a), .int p0, .int p1] : List Value).toArray below meth c H locs 0 0 (MQ below (va_Qi (fun (q : Int32) (_ : Unit) => q = y.2) (fun _ t => kE D ct ad G A y.1 t) A) ([.ref (ad a), .int p0, .int p1] : List Value).toArray s 0 0 A) (F0 m 190 ls [.int y78]) := by
                          intro H locs ls hP hD hS hl
                          obtain rfl := Option.some.inj hF
                          exact J75 _ _ _ hP hD hS (lv_sub hl [0, 1, 2, 3, 4, 5, 6, 7, 8, 9] rfl)
                        clear hF
                        have hF := hy78
                        clear hy78
                        refine lv_if_eq (tgt := 189) hx hb dX9_direct_182 (by decide) (fun c79 => ?_) (fun c79 => ?_)
                        · rw [if_pos c79] at hF
                          refine lv_iconst (v := (0 : Int32)) hx hb dX9_direct_189 (by decide) ?_
                          obtain rfl := Option.some.inj hF
                          exact J78 _ _ _ hP hD hS (lv_sub hl [0, 1, 2, 3, 4, 5, 6, 7, 8, 9] rfl)
                        · rw [if_neg c79] at hF
                          refine lv_iconst (v := (1 : Int32)) hx hb dX9_direct_185 (by decide) ?_
                          refine lv_goto (tgt := 190) hx hb dX9_direct_186 (by decide) ?_
                          obtain rfl := Option.some.inj hF
                          exact J78 _ _ _ hP hD hS (lv_sub hl [0, 1, 2, 3, 4, 5, 6, 7, 8, 9] rfl)
                clear hF
                have hF := hy54
                clear hy54
                refine lv_if_lt (tgt := 156) hx hb dX9_direct_135 (by decide) (fun c80 => ?_) (fun c80 => ?_)
                · rw [if_pos c80] at hF
                  obtain rfl := Option.some.inj hF
                  exact J54 _ _ _ hP hD hS (lv_sub hl [0, 1, 2, 3, 4, 5, 6, 7, 8] rfl)
                · rw [if_neg c80] at hF
                  refine lv_iload hx hb dX9_direct_138 (lv_at hl 2 rfl) ?_
                  obtain ⟨y81, hy81, hF⟩ := bnd_some hF
                  have J81 : ∀ (H : Heap) (locs : List Loc) (ls : Array Slot), va_P D classes (wld ct ad G y81) H → va_D A (wld ct ad G y81) → va_S A s.heap H locs → lv_has ls 11 [(8, .int y16), (7, .int s12.1), (6, .int y10), (5, .int y9.2), (4, .int y8.2), (3, va_re ad (M.2 b2 ((9 : Int32)).toNatClampNeg)), (0, .ref (ad a)), (1, .int p0), (2, .int p1)] → W p l e (headSpec wuX9_direct ({ frames := 3, cells := 0, slots := 0, locals := 79 })).room s m ([.ref (ad a), .int p0, .int p1] : List Value).toArray below meth c H locs 0 0 (MQ below (va_Qi (fun (q : Int32) (_ : Unit) => q = y.2) (fun _ t => kE D ct ad G A y.1 t) A) ([.ref (ad a), .int p0, .int p1] : List Value).toArray s 0 0 A) (F0 m 156 ls []) := by
                    intro H locs ls hP hD hS hl
                    obtain rfl := Option.some.inj hF
                    exact J54 _ _ _ hP hD hS (lv_sub hl [0, 1, 2, 3, 4, 5, 6, 7, 8] rfl)
                  clear hF
                  have hF := hy81
                  clear hy81
                  refine lv_if_ne (tgt := 156) hx hb dX9_direct_140 (by decide) (fun c82 => ?_) (fun c82 => ?_)
                  · rw [if_neg c82] at hF
                    obtain rfl := Option.some.inj hF
                    exact J81 _ _ _ hP hD hS (lv_sub hl [0, 1, 2, 3, 4, 5, 6, 7, 8] rfl)
                  · rw [if_pos c82] at hF
                    refine lv_aload_n hx hb dX9_direct_143 rfl (lv_at hl 6 rfl) ?_
                    refine lv_iload_n hx hb dX9_direct_144 rfl (lv_at hl 7 rfl) ?_
                    refine lv_iload hx hb dX9_direct_145 (lv_at hl 1 rfl) ?_
                    refine lv_iload hx hb dX9_direct_147 (lv_at hl 0 rfl) ?_
                    refine lv_iconst (v := (0 : Int32)) hx hb dX9_direct_149 (by decide) ?_
                    refine lv_bipush (v := (16 : Int32)) hx hb dX9_direct_150 (by decide) ?_
                    refine lv_iconst (v := (0 : Int32)) hx hb dX9_direct_152 (by decide) ?_
                    obtain ⟨y83, hy83, hF⟩ := bnd_some hF
                    have hf9 := wA_in hD hA9 hS
                    refine va_callv (va_runV (As := [.int p0, .int s12.1, .int y16, .int (0 : Int32), .int (16 : Int32), .int (0 : Int32)]) (rest := []) ⟨hx, hb, hml, hown, hts⟩ (kX9_guess l D ct ad Z G M18 H.size a p0 s12.1 y16 ((0 : Int32)) ((16 : Int32)) ((0 : Int32)) y83 hc hk hy83) (cwV 6 hts gX9_direct_X9_guess rfl rfl rfl (by decide +kernel) ⟨Nat.le_of_ble_eq_true rfl, Nat.le_of_ble_eq_true rfl⟩) ⟨fun a U g mk q => by obtain ⟨q0, q1, qP, qK, qD, qZ, qN⟩ := q; exact ⟨q0, q1, qP, va_K.moved (u := U) (U := U.calling g mk a) (Vm.Alike.refl U.vm) qK, qD, sF.moved (u := U) (U := U.calling g mk a) (Vm.Alike.refl U.vm) qZ, nF.same rfl qN⟩, va_recv hK hP (ci := 9) (q0 := a) rfl (wld_o ct ad G M18 hc hk (by decide)), fun U hU hW => ⟨rfl, by rw [hU], by rw [hU]; exact hP, va_K.moved hW.alike hK, hD.weaken (fun _ _ _ _ => trivial), by rw [hU]; exact ((hZ.kept hS.2.1).narrow hf9).moved hW.alike, hN.warm hW⟩⟩ rfl rfl hl.1 rfl (lv_room (Nat.le_of_ble_eq_true rfl)) dX9_direct_153 ⟨(Nat.zero_le _), (Nat.zero_le _)⟩) hS (fun q _ h => hf9 q h) hf9 (fun u t H locs ht hvm hw hB hz1 hk1 hS => ?_)
                    obtain ⟨hP, hK9, hD9⟩ := hB
                    rw [ht] at hP
                    have hD := hD9.weaken (fun _ q _ h => hf9 q.1 h)
                    obtain rfl := Option.some.inj hF
                    exact J81 _ _ _ hP hD hS (lv_sub hl [0, 1, 2, 3, 4, 5, 6, 7, 8] rfl)
              · rw [if_pos c53] at hF
                refine lv_iconst (v := (0 : Int32)) hx hb dX9_direct_131 (by decide) ?_
                obtain ⟨hz9, hF⟩ := chk_some hF
                obtain rfl := Option.some.inj hF
                have hF := sel_inr (hwz14 ▸ hR11)
                obtain rfl := Option.some.inj hF
                exact W.zret (v := (0 : Int32)) (ty := .boolean) hx hb hr (nar_z hz9).1 (fun t ht hW => ⟨⟨_, (), rfl, rfl, ⟨by rw [ht]; exact hP, va_K.moved hW.alike hK, hD⟩⟩, hS.F ht⟩) hS.2.2 dX9_direct_132
          clear hF
          have hF := hy16
          clear hy16
          refine lv_if_eq (tgt := 86) hx hb dX9_direct_79 (by decide) (fun c84 => ?_) (fun c84 => ?_)
          · rw [if_pos c84] at hF
            refine lv_iload hx hb dX9_direct_86 (lv_at hl 0 rfl) ?_
            obtain ⟨y85, hy85, hF⟩ := bnd_some hF
            have J85 : ∀ (H : Heap) (locs : List Loc) (ls : Array Slot), va_P D classes (wld ct ad G s12.2) H → va_D A (wld ct ad G s12.2) → va_S A s.heap H locs → lv_has ls 11 [(7, .int s12.1), (6, .int y10), (5, .int y9.2), (4, .int y8.2), (3, va_re ad (M.2 b2 ((9 : Int32)).toNatClampNeg)), (0, .ref (ad a)), (1, .int p0), (2, .int p1)] → W p l e (headSpec wuX9_direct ({ frames := 3, cells := 0, slots := 0, locals := 79 })).room s m ([.ref (ad a), .int p0, .int p1] : List Value).toArray below meth c H locs 0 0 (MQ below (va_Qi (fun (q : Int32) (_ : Unit) => q = y.2) (fun _ t => kE D ct ad G A y.1 t) A) ([.ref (ad a), .int p0, .int p1] : List Value).toArray s 0 0 A) (F0 m 98 ls [.int y85]) := by
              intro H locs ls hP hD hS hl
              obtain rfl := Option.some.inj hF
              exact J16 _ _ _ hP hD hS (lv_sub hl [0, 1, 2, 3, 4, 5, 6, 7] rfl)
            clear hF
            have hF := hy85
            clear hy85
            refine lv_if_ne (tgt := 96) hx hb dX9_direct_88 (by decide) (fun c86 => ?_) (fun c86 => ?_)
            · rw [if_neg c86] at hF
              refine lv_iload hx hb dX9_direct_96 (lv_at hl 2 rfl) ?_
              obtain rfl := Option.some.inj hF
              exact J85 _ _ _ hP hD hS (lv_sub hl [0, 1, 2, 3, 4, 5, 6, 7] rfl)
            · rw [if_pos c86] at hF
              refine lv_iload hx hb dX9_direct_91 (lv_at hl 3 rfl) ?_
              refine lv_goto (tgt := 98) hx hb dX9_direct_93 (by decide) ?_
              obtain rfl := Option.some.inj hF
              exact J85 _ _ _ hP hD hS (lv_sub hl [0, 1, 2, 3, 4, 5, 6, 7] rfl)
          · rw [if_neg c84] at hF
            refine lv_iconst (v := (0 : Int32)) hx hb dX9_direct_82 (by decide) ?_
            refine lv_goto (tgt := 98) hx hb dX9_direct_83 (by decide) ?_
            obtain rfl := Option.some.inj hF
            exact J16 _ _ _ hP hD hS (lv_sub hl [0, 1, 2, 3, 4, 5, 6, 7] rfl)
      clear hF
      have hF := hy10
      clear hy10
      refine lv_if_ge (tgt := 65) hx hb dX9_direct_53 (by decide) (fun c87 => ?_) (fun c87 => ?_)
      · rw [if_pos c87] at hF
        refine lv_iconst (v := (0 : Int32)) hx hb dX9_direct_65 (by decide) ?_
        obtain rfl := Option.some.inj hF
        exact J10 _ _ _ hP hD hS (lv_sub hl [0, 1, 2, 3, 4, 5] rfl)
      · rw [if_neg c87] at hF
        refine lv_iload hx hb dX9_direct_56 (lv_at hl 0 rfl) ?_
        obtain ⟨y88, hy88, hF⟩ := bnd_some hF
        have J88 : ∀ (H : Heap) (locs : List Loc) (ls : Array Slot), va_P D classes (wld ct ad G y9.1) H → va_D A (wld ct ad G y9.1) → va_S A s.heap H locs → lv_has ls 11 [(5, .int y9.2), (4, .int y8.2), (3, va_re ad (M.2 b2 ((9 : Int32)).toNatClampNeg)), (0, .ref (ad a)), (1, .int p0), (2, .int p1)] → W p l e (headSpec wuX9_direct ({ frames := 3, cells := 0, slots := 0, locals := 79 })).room s m ([.ref (ad a), .int p0, .int p1] : List Value).toArray below meth c H locs 0 0 (MQ below (va_Qi (fun (q : Int32) (_ : Unit) => q = y.2) (fun _ t => kE D ct ad G A y.1 t) A) ([.ref (ad a), .int p0, .int p1] : List Value).toArray s 0 0 A) (F0 m 66 ls [.int y88]) := by
          intro H locs ls hP hD hS hl
          obtain rfl := Option.some.inj hF
          exact J10 _ _ _ hP hD hS (lv_sub hl [0, 1, 2, 3, 4, 5] rfl)
        clear hF
        have hF := hy88
        clear hy88
        refine lv_if_ge (tgt := 65) hx hb dX9_direct_58 (by decide) (fun c89 => ?_) (fun c89 => ?_)
        · rw [if_pos c89] at hF
          refine lv_iconst (v := (0 : Int32)) hx hb dX9_direct_65 (by decide) ?_
          obtain rfl := Option.some.inj hF
          exact J88 _ _ _ hP hD hS (lv_sub hl [0, 1, 2, 3, 4, 5] rfl)
        · rw [if_neg c89] at hF
          refine lv_iconst (v := (1 : Int32)) hx hb dX9_direct_61 (by decide) ?_
          refine lv_goto (tgt := 66) hx hb dX9_direct_62 (by decide) ?_
          obtain rfl := Option.some.inj hF
          exact J88 _ _ _ hP hD hS (lv_sub hl [0, 1, 2, 3, 4, 5] rfl)
    · rw [if_pos c7] at hF
      refine lv_aload_n hx hb dX9_direct_27 rfl (lv_at hl 1 rfl) ?_
      refine lv_iload_n hx hb dX9_direct_28 rfl (lv_at hl 2 rfl) ?_
      refine lv_iload_n hx hb dX9_direct_29 rfl (lv_at hl 3 rfl) ?_
      refine lv_aloadq_n hx hb dX9_direct_30 rfl (lv_at hl 0 rfl) ?_
      obtain ⟨y90, hy90, hF⟩ := bnd_some hF
      have hf9 := wA_in hD hA9 hS
      refine va_calli (va_runV (As := [.int p0, .int p1, va_re ad (M.2 b2 ((9 : Int32)).toNatClampNeg)]) (rest := []) ⟨hx, hb, hml, hown, hts⟩ (kX9_directByTime l D ct ad Z G M s.heap.size a p0 p1 ((M.2 b2 ((9 : Int32)).toNatClampNeg)) y90 hc hk hy90) (cwV 3 hts gX9_direct_X9_directByTime rfl rfl rfl (by decide +kernel) ⟨Nat.le_of_ble_eq_true rfl, Nat.le_of_ble_eq_true rfl⟩) ⟨fun a U g mk q => by obtain ⟨q0, q1, qP, qK, qD, qZ, qN⟩ := q; exact ⟨q0, q1, qP, va_K.moved (u := U) (U := U.calling g mk a) (Vm.Alike.refl U.vm) qK, qD, sF.moved (u := U) (U := U.calling g mk a) (Vm.Alike.refl U.vm) qZ, nF.same rfl qN⟩, va_recv hK hP (ci := 9) (q0 := a) rfl (wld_o ct ad G M hc hk (by decide)), fun U hU hW => ⟨rfl, by rw [hU], by rw [hU]; exact hP, va_K.moved hW.alike hK, hD.weaken (fun _ _ _ _ => trivial), by rw [hU]; exact ((hZ.kept hS.2.1).narrow hf9).moved hW.alike, hN.warm hW⟩⟩ rfl rfl hl.1 rfl (lv_room (Nat.le_of_ble_eq_true rfl)) dX9_direct_31 ⟨(Nat.zero_le _), (Nat.zero_le _)⟩) hS (fun q _ h => hf9 q h) hf9 (fun r u t H locs ht hvm hw hB hz1 hk1 hS => ?_)
      obtain ⟨hP, hK9, hD9⟩ := hB
      rw [ht] at hP
      try dsimp only at hw
      subst hw
      have hD := hD9.weaken (fun _ q _ h => hf9 q.1 h)
      obtain ⟨hz9, hF⟩ := chk_some hF
      obtain rfl := Option.some.inj hF
      exact W.zret (v := y90.2) (ty := .boolean) hx hb hr (nar_z hz9).1 (fun t ht hW => ⟨⟨_, (), rfl, rfl, ⟨by rw [ht]; exact hP, va_K.moved hW.alike hK, hD⟩⟩, hS.F ht⟩) hS.2.2 dX9_direct_34
  · rw [if_pos c3] at hF
    refine lv_iconst (v := (0 : Int32)) hx hb dX9_direct_12 (by decide) ?_
    obtain ⟨hz9, hF⟩ := chk_some hF
    obtain rfl := Option.some.inj hF
    exact W.zret (v := (0 : Int32)) (ty := .boolean) hx hb hr (nar_z hz9).1 (fun t ht hW => ⟨⟨_, (), rfl, rfl, ⟨by rw [ht]; exact hP, va_K.moved hW.alike hK, hD⟩⟩, hS.F ht⟩) hS.2.2 dX9_direct_13
set_option maxRecDepth 20000 in
theorem gL_demux_X11_demux : GoodIn wuL_demux (wsV RL 49 RX11 yX11_demux wuX11_demux) := gu_V mw_2819 mw_2820 mw_2821 mw_166 mw_2822
theorem dL_demux_0 : decode cL_demux 0 = .ok (.aload_n 1, 1) := by decide +kernel
theorem dL_demux_1 : decode cL_demux 1 = .ok (.iconst 0, 1) := by decide +kernel
theorem dL_demux_2 : decode cL_demux 2 = .ok (.aload_n 0, 1) := by decide +kernel
theorem dL_demux_3 : decode cL_demux 3 = .ok (.invokevirtual 49, 3) := by decide +kernel
theorem dL_demux_6 : decode cL_demux 6 = .ok (.iastore, 1) := by decide +kernel
theorem dL_demux_7 : decode cL_demux 7 = .ok (.goto 6, 3) := by decide +kernel
theorem dL_demux_10 : decode cL_demux 10 = .ok (.astore_n 2, 1) := by decide +kernel
theorem dL_demux_11 : decode cL_demux 11 = .ok (.iconst 1, 1) := by decide +kernel
theorem dL_demux_12 : decode cL_demux 12 = .ok (.ireturn, 1) := by decide +kernel
theorem dL_demux_13 : decode cL_demux 13 = .ok (.iconst 0, 1) := by decide +kernel
theorem dL_demux_14 : decode cL_demux 14 = .ok (.ireturn, 1) := by decide +kernel
def FL_demux (G : GG) (M : DD) (p0 : Option Nat) (p1 : Option Nat) : Option (DD × Int32) :=
  dr G 11 p0 fun b2 =>
  bnd (FX11_demux G M b2) fun y3 =>
  dr G 13 p1 fun b4 =>
  chk (¬ (((0 : Int32)) < 0 ∨ G.2.2 b4 ≤ ((0 : Int32)).toNatClampNeg)) <|
  ltt (uI y3.1 b4 ((0 : Int32)).toNatClampNeg y3.2) fun M5 =>
  some (M5, (0 : Int32))
set_option maxHeartbeats 4000000 in
set_option maxRecDepth 100000 in
theorem kL_demux (l : Launch) (D : va_G) (ct : CT) (ad : Nat → Nat) (Z : Nat → Nat) (G : GG) (M : DD) (sz : Nat) (p0 : Option Nat) (p1 : Option Nat) (y : DD × Int32) (hF : FL_demux G M p0 p1 = some y) : Met l yL_demux wuL_demux ({ frames := 4, cells := 0, slots := 0, locals := 146 }) (va_Pc [va_re ad p0, va_re ad p1] (kB D ct ad Z G M sz)) (va_Qi (fun (q : Int32) (_ : Unit) => q = y.2) (fun _ t => kE D ct ad G (wA ad G sz) y.1 t) (wA ad G sz)) 0 0 (wA ad G sz) := by
  refine mt_ofWH (cc := cL_demux) (maxL := 3) (ret := (some .int)) (hh := [(0, 7, 10, 15)]) (by decide) rfl ?_
  intro p e s m args below meth c s₁ B hml hv
  obtain ⟨rfl, hsz, hP, hK, hD0, hZ, hN⟩ := hv
  have hx := B.exec
  have hb := B.bytes
  have hr := B.returns
  have hts := atoms_spec (ws := wuL_demux) B.pre
  have hown : s.vm.findClass RL = some m.cls := findClass_of_methodNamed B.named
  have hlocks := B.notSynchronized
  subst hsz
  have hD := wD_self (sz := s.heap.size) hD0
  have hA9 : ∀ q, s.heap.size ≤ q → wA ad G s.heap.size q := fun q h => Or.inr h
  generalize hAe : wA ad G s.heap.size = A at hD hA9 hZ ⊢
  have hS : va_S A s.heap s.heap [] := va_S.rf
  have hl := lv_entry ([va_re ad p0, va_re ad p1]) (n := 3) (by cases p0 <;> cases p1 <;> exact Nat.le_of_ble_eq_true rfl)
  rw [lg_entry_eq]
  generalize (lg_sl ([va_re ad p0, va_re ad p1]) ++ List.replicate (3 - (lg_sl ([va_re ad p0, va_re ad p1])).length) Slot.unset).toArray = ls at hl ⊢
  have hl : lv_has ls 3 [(0, va_re ad p0), (1, va_re ad p1)] := by have e9 : lv_args 0 [va_re ad p0, va_re ad p1] = [(0, va_re ad p0), (1, va_re ad p1)] := (by cases p0 <;> cases p1 <;> rfl); rw [e9] at hl; exact hl
  unfold FL_demux at hF
  refine lv_aloadq_n hx hb dL_demux_0 rfl (lv_at hl 1 rfl) ?_
  refine lv_iconst (v := (0 : Int32)) hx hb dL_demux_1 (by decide) ?_
  refine lv_aloadq_n hx hb dL_demux_2 rfl (lv_at hl 0 rfl) ?_
  obtain ⟨b2, ho2, hc2, hk2, hF⟩ := dr_some hF
  refine W_st (st' := [.ref (ad b2), .int (0 : Int32), va_re ad p1]) (by rw [va_some ho2]) ?_
  obtain ⟨y3, hy3, hF⟩ := bnd_some hF
  have hf9 := wA_in hD hA9 hS
  refine va_calli (va_runV (As := []) (rest := [.int (0 : Int32), va_re ad p1]) ⟨hx, hb, hml, hown, hts⟩ (kX11_demux l D ct ad Z G M s.heap.size b2 y3 hc2 hk2 hy3) (cwV 0 hts gL_demux_X11_demux rfl rfl rfl (by decide +kernel) ⟨Nat.le_of_ble_eq_true rfl, Nat.le_of_ble_eq_true rfl⟩) ⟨fun a U g mk q => by obtain ⟨q0, q1, qP, qK, qD, qZ, qN⟩ := q; exact ⟨q0, q1, qP, va_K.moved (u := U) (U := U.calling g mk a) (Vm.Alike.refl U.vm) qK, qD, sF.moved (u := U) (U := U.calling g mk a) (Vm.Alike.refl U.vm) qZ, nF.same rfl qN⟩, va_recv hK hP (ci := 11) (q0 := b2) rfl (wld_o ct ad G M hc2 hk2 (by decide)), fun U hU hW => ⟨rfl, by rw [hU], by rw [hU]; exact hP, va_K.moved hW.alike hK, hD.weaken (fun _ _ _ _ => trivial), by rw [hU]; exact ((hZ.kept hS.2.1).narrow hf9).moved hW.alike, hN.warm hW⟩⟩ rfl rfl hl.1 rfl (lv_room (by simp only [List.map, va_re_cat]; exact Nat.le_of_ble_eq_true rfl)) dL_demux_3 ⟨(Nat.zero_le _), (Nat.zero_le _)⟩) hS (fun q _ h => hf9 q h) hf9 (fun r u t H locs ht hvm hw hB hz1 hk1 hS => ?_)
  obtain ⟨hP, hK9, hD9⟩ := hB
  rw [ht] at hP
  try dsimp only at hw
  subst hw
  have hD := hD9.weaken (fun _ q _ h => hf9 q.1 h)
  obtain ⟨b4, ho4, hc4, hk4, hF⟩ := dr_some hF
  refine W_st (st' := [.int y3.2, .int (0 : Int32), .ref (ad b4)]) (by rw [va_some ho4]) ?_
  obtain ⟨hvc, hF⟩ := chk_some hF
  refine va_iast hx hb hK hP hD hS b4 1 (wld_i ct ad G y3.1 hc4 hk4) rfl hvc dL_demux_6 (fun H locs hP hD hS => ?_)
  obtain ⟨M5, eM5, hF⟩ := ltt_some hF
  rw [set_i ct ad G y3.1 hc4 hk4, ← eM5] at hP hD
  refine lv_goto (tgt := 13) hx hb dL_demux_7 (by decide) ?_
  refine lv_iconst (v := (0 : Int32)) hx hb dL_demux_13 (by decide) ?_
  obtain rfl := Option.some.inj hF
  exact W.iret (v := (0 : Int32)) hx hb hr (fun t ht hW => ⟨⟨_, (), rfl, rfl, ⟨by rw [ht]; exact hP, va_K.moved hW.alike hK, hD⟩⟩, hS.F ht⟩) hS.2.2 dL_demux_14
set_option maxRecDepth 20000 in
theorem gL_mux_X11_mux : GoodIn wuL_mux (wsV RL 46 RX11 yX11_mux wuX11_mux) := gu_V mw_2778 mw_2779 mw_2780 mw_166 mw_2781
theorem dL_mux_0 : decode cL_mux 0 = .ok (.aload_n 1, 1) := by decide +kernel
theorem dL_mux_1 : decode cL_mux 1 = .ok (.iconst 0, 1) := by decide +kernel
theorem dL_mux_2 : decode cL_mux 2 = .ok (.aload_n 0, 1) := by decide +kernel
theorem dL_mux_3 : decode cL_mux 3 = .ok (.invokevirtual 46, 3) := by decide +kernel
theorem dL_mux_6 : decode cL_mux 6 = .ok (.iastore, 1) := by decide +kernel
theorem dL_mux_7 : decode cL_mux 7 = .ok (.goto 6, 3) := by decide +kernel
theorem dL_mux_10 : decode cL_mux 10 = .ok (.astore_n 2, 1) := by decide +kernel
theorem dL_mux_11 : decode cL_mux 11 = .ok (.iconst 1, 1) := by decide +kernel
theorem dL_mux_12 : decode cL_mux 12 = .ok (.ireturn, 1) := by decide +kernel
theorem dL_mux_13 : decode cL_mux 13 = .ok (.iconst 0, 1) := by decide +kernel
theorem dL_mux_14 : decode cL_mux 14 = .ok (.ireturn, 1) := by decide +kernel
def FL_mux (G : GG) (M : DD) (p0 : Option Nat) (p1 : Option Nat) : Option (DD × Int32) :=
  dr G 11 p0 fun b2 =>
  bnd (FX11_mux G M b2) fun y3 =>
  dr G 13 p1 fun b4 =>
  chk (¬ (((0 : Int32)) < 0 ∨ G.2.2 b4 ≤ ((0 : Int32)).toNatClampNeg)) <|
  ltt (uI y3.1 b4 ((0 : Int32)).toNatClampNeg y3.2) fun M5 =>
  some (M5, (0 : Int32))
set_option maxHeartbeats 4000000 in
set_option maxRecDepth 100000 in
theorem kL_mux (l : Launch) (D : va_G) (ct : CT) (ad : Nat → Nat) (Z : Nat → Nat) (G : GG) (M : DD) (sz : Nat) (p0 : Option Nat) (p1 : Option Nat) (y : DD × Int32) (hF : FL_mux G M p0 p1 = some y) : Met l yL_mux wuL_mux ({ frames := 4, cells := 0, slots := 0, locals := 88 }) (va_Pc [va_re ad p0, va_re ad p1] (kB D ct ad Z G M sz)) (va_Qi (fun (q : Int32) (_ : Unit) => q = y.2) (fun _ t => kE D ct ad G (wA ad G sz) y.1 t) (wA ad G sz)) 0 0 (wA ad G sz) := by
  refine mt_ofWH (cc := cL_mux) (maxL := 3) (ret := (some .int)) (hh := [(0, 7, 10, 15)]) (by decide) rfl ?_
  intro p e s m args below meth c s₁ B hml hv
  obtain ⟨rfl, hsz, hP, hK, hD0, hZ, hN⟩ := hv
  have hx := B.exec
  have hb := B.bytes
  have hr := B.returns
  have hts := atoms_spec (ws := wuL_mux) B.pre
  have hown : s.vm.findClass RL = some m.cls := findClass_of_methodNamed B.named
  have hlocks := B.notSynchronized
  subst hsz
  have hD := wD_self (sz := s.heap.size) hD0
  have hA9 : ∀ q, s.heap.size ≤ q → wA ad G s.heap.size q := fun q h => Or.inr h
  generalize hAe : wA ad G s.heap.size = A at hD hA9 hZ ⊢
  have hS : va_S A s.heap s.heap [] := va_S.rf
  have hl := lv_entry ([va_re ad p0, va_re ad p1]) (n := 3) (by cases p0 <;> cases p1 <;> exact Nat.le_of_ble_eq_true rfl)
  rw [lg_entry_eq]
  generalize (lg_sl ([va_re ad p0, va_re ad p1]) ++ List.replicate (3 - (lg_sl ([va_re ad p0, va_re ad p1])).length) Slot.unset).toArray = ls at hl ⊢
  have hl : lv_has ls 3 [(0, va_re ad p0), (1, va_re ad p1)] := by have e9 : lv_args 0 [va_re ad p0, va_re ad p1] = [(0, va_re ad p0), (1, va_re ad p1)] := (by cases p0 <;> cases p1 <;> rfl); rw [e9] at hl; exact hl
  unfold FL_mux at hF
  refine lv_aloadq_n hx hb dL_mux_0 rfl (lv_at hl 1 rfl) ?_
  refine lv_iconst (v := (0 : Int32)) hx hb dL_mux_1 (by decide) ?_
  refine lv_aloadq_n hx hb dL_mux_2 rfl (lv_at hl 0 rfl) ?_
  obtain ⟨b2, ho2, hc2, hk2, hF⟩ := dr_some hF
  refine W_st (st' := [.ref (ad b2), .int (0 : Int32), va_re ad p1]) (by rw [va_some ho2]) ?_
  obtain ⟨y3, hy3, hF⟩ := bnd_some hF
  have hf9 := wA_in hD hA9 hS
  refine va_calli (va_runV (As := []) (rest := [.int (0 : Int32), va_re ad p1]) ⟨hx, hb, hml, hown, hts⟩ (kX11_mux l D ct ad Z G M s.heap.size b2 y3 hc2 hk2 hy3) (cwV 0 hts gL_mux_X11_mux rfl rfl rfl (by decide +kernel) ⟨Nat.le_of_ble_eq_true rfl, Nat.le_of_ble_eq_true rfl⟩) ⟨fun a U g mk q => by obtain ⟨q0, q1, qP, qK, qD, qZ, qN⟩ := q; exact ⟨q0, q1, qP, va_K.moved (u := U) (U := U.calling g mk a) (Vm.Alike.refl U.vm) qK, qD, sF.moved (u := U) (U := U.calling g mk a) (Vm.Alike.refl U.vm) qZ, nF.same rfl qN⟩, va_recv hK hP (ci := 11) (q0 := b2) rfl (wld_o ct ad G M hc2 hk2 (by decide)), fun U hU hW => ⟨rfl, by rw [hU], by rw [hU]; exact hP, va_K.moved hW.alike hK, hD.weaken (fun _ _ _ _ => trivial), by rw [hU]; exact ((hZ.kept hS.2.1).narrow hf9).moved hW.alike, hN.warm hW⟩⟩ rfl rfl hl.1 rfl (lv_room (by simp only [List.map, va_re_cat]; exact Nat.le_of_ble_eq_true rfl)) dL_mux_3 ⟨(Nat.zero_le _), (Nat.zero_le _)⟩) hS (fun q _ h => hf9 q h) hf9 (fun r u t H locs ht hvm hw hB hz1 hk1 hS => ?_)
  obtain ⟨hP, hK9, hD9⟩ := hB
  rw [ht] at hP
  try dsimp only at hw
  subst hw
  have hD := hD9.weaken (fun _ q _ h => hf9 q.1 h)
  obtain ⟨b4, ho4, hc4, hk4, hF⟩ := dr_some hF
  refine W_st (st' := [.int y3.2, .int (0 : Int32), .ref (ad b4)]) (by rw [va_some ho4]) ?_
  obtain ⟨hvc, hF⟩ := chk_some hF
  refine va_iast hx hb hK hP hD hS b4 1 (wld_i ct ad G y3.1 hc4 hk4) rfl hvc dL_mux_6 (fun H locs hP hD hS => ?_)
  obtain ⟨M5, eM5, hF⟩ := ltt_some hF
  rw [set_i ct ad G y3.1 hc4 hk4, ← eM5] at hP hD
  refine lv_goto (tgt := 13) hx hb dL_mux_7 (by decide) ?_
  refine lv_iconst (v := (0 : Int32)) hx hb dL_mux_13 (by decide) ?_
  obtain rfl := Option.some.inj hF
  exact W.iret (v := (0 : Int32)) hx hb hr (fun t ht hW => ⟨⟨_, (), rfl, rfl, ⟨by rw [ht]; exact hP, va_K.moved hW.alike hK, hD⟩⟩, hS.F ht⟩) hS.2.2 dL_mux_14
set_option maxRecDepth 20000 in
theorem gL_sum_X11_sum : GoodIn wuL_sum (wsV RL 23 RX11 yX11_sum wuX11_sum) := gu_V mw_2326 mw_2327 mw_2328 mw_166 mw_2329
theorem dL_sum_0 : decode cL_sum 0 = .ok (.aload_n 3, 1) := by decide +kernel
theorem dL_sum_1 : decode cL_sum 1 = .ok (.iconst 0, 1) := by decide +kernel
theorem dL_sum_2 : decode cL_sum 2 = .ok (.aload_n 0, 1) := by decide +kernel
theorem dL_sum_3 : decode cL_sum 3 = .ok (.iload_n 1, 1) := by decide +kernel
theorem dL_sum_4 : decode cL_sum 4 = .ok (.iload_n 2, 1) := by decide +kernel
theorem dL_sum_5 : decode cL_sum 5 = .ok (.invokevirtual 23, 3) := by decide +kernel
theorem dL_sum_8 : decode cL_sum 8 = .ok (.iastore, 1) := by decide +kernel
theorem dL_sum_9 : decode cL_sum 9 = .ok (.goto 7, 3) := by decide +kernel
theorem dL_sum_12 : decode cL_sum 12 = .ok (.astore 4, 2) := by decide +kernel
theorem dL_sum_14 : decode cL_sum 14 = .ok (.iconst 1, 1) := by decide +kernel
theorem dL_sum_15 : decode cL_sum 15 = .ok (.ireturn, 1) := by decide +kernel
theorem dL_sum_16 : decode cL_sum 16 = .ok (.iconst 0, 1) := by decide +kernel
theorem dL_sum_17 : decode cL_sum 17 = .ok (.ireturn, 1) := by decide +kernel
def FL_sum (G : GG) (M : DD) (p0 : Option Nat) (p1 : Int32) (p2 : Int32) (p3 : Option Nat) : Option (DD × Int32) :=
  dr G 11 p0 fun b2 =>
  bnd (FX11_sum G M b2 p1 p2) fun y3 =>
  dr G 13 p3 fun b4 =>
  chk (¬ (((0 : Int32)) < 0 ∨ G.2.2 b4 ≤ ((0 : Int32)).toNatClampNeg)) <|
  ltt (uI y3.1 b4 ((0 : Int32)).toNatClampNeg y3.2) fun M5 =>
  some (M5, (0 : Int32))
set_option maxHeartbeats 4000000 in
set_option maxRecDepth 100000 in
theorem kL_sum (l : Launch) (D : va_G) (ct : CT) (ad : Nat → Nat) (Z : Nat → Nat) (G : GG) (M : DD) (sz : Nat) (p0 : Option Nat) (p1 : Int32) (p2 : Int32) (p3 : Option Nat) (y : DD × Int32) (hF : FL_sum G M p0 p1 p2 p3 = some y) : Met l yL_sum wuL_sum ({ frames := 4, cells := 0, slots := 0, locals := 89 }) (va_Pc [va_re ad p0, .int p1, .int p2, va_re ad p3] (kB D ct ad Z G M sz)) (va_Qi (fun (q : Int32) (_ : Unit) => q = y.2) (fun _ t => kE D ct ad G (wA ad G sz) y.1 t) (wA ad G sz)) 0 0 (wA ad G sz) := by
  refine mt_ofWH (cc := cL_sum) (maxL := 5) (ret := (some .int)) (hh := [(0, 9, 12, 21)]) (by decide) rfl ?_
  intro p e s m args below meth c s₁ B hml hv
  obtain ⟨rfl, hsz, hP, hK, hD0, hZ, hN⟩ := hv
  have hx := B.exec
  have hb := B.bytes
  have hr := B.returns
  have hts := atoms_spec (ws := wuL_sum) B.pre
  have hown : s.vm.findClass RL = some m.cls := findClass_of_methodNamed B.named
  have hlocks := B.notSynchronized
  subst hsz
  have hD := wD_self (sz := s.heap.size) hD0
  have hA9 : ∀ q, s.heap.size ≤ q → wA ad G s.heap.size q := fun q h => Or.inr h
  generalize hAe : wA ad G s.heap.size = A at hD hA9 hZ ⊢
  have hS : va_S A s.heap s.heap [] := va_S.rf
  have hl := lv_entry ([va_re ad p0, .int p1, .int p2, va_re ad p3]) (n := 5) (by cases p0 <;> cases p3 <;> exact Nat.le_of_ble_eq_true rfl)
  rw [lg_entry_eq]
  generalize (lg_sl ([va_re ad p0, .int p1, .int p2, va_re ad p3]) ++ List.replicate (5 - (lg_sl ([va_re ad p0, .int p1, .int p2, va_re ad p3])).length) Slot.unset).toArray = ls at hl ⊢
  have hl : lv_has ls 5 [(0, va_re ad p0), (1, .int p1), (2, .int p2), (3, va_re ad p3)] := by have e9 : lv_args 0 [va_re ad p0, .int p1, .int p2, va_re ad p3] = [(0, va_re ad p0), (1, .int p1), (2, .int p2), (3, va_re ad p3)] := (by cases p0 <;> cases p3 <;> rfl); rw [e9] at hl; exact hl
  unfold FL_sum at hF
  refine lv_aloadq_n hx hb dL_sum_0 rfl (lv_at hl 3 rfl) ?_
  refine lv_iconst (v := (0 : Int32)) hx hb dL_sum_1 (by decide) ?_
  refine lv_aloadq_n hx hb dL_sum_2 rfl (lv_at hl 0 rfl) ?_
  refine lv_iload_n hx hb dL_sum_3 rfl (lv_at hl 1 rfl) ?_
  refine lv_iload_n hx hb dL_sum_4 rfl (lv_at hl 2 rfl) ?_
  obtain ⟨b2, ho2, hc2, hk2, hF⟩ := dr_some hF
  refine W_st (st' := [.int p2, .int p1, .ref (ad b2), .int (0 : Int32), va_re ad p3]) (by rw [va_some ho2]) ?_
  obtain ⟨y3, hy3, hF⟩ := bnd_some hF
  have hf9 := wA_in hD hA9 hS
  refine va_calli (va_runV (As := [.int p1, .int p2]) (rest := [.int (0 : Int32), va_re ad p3]) ⟨hx, hb, hml, hown, hts⟩ (kX11_sum l D ct ad Z G M s.heap.size b2 p1 p2 y3 hc2 hk2 hy3) (cwV 2 hts gL_sum_X11_sum rfl rfl rfl (by decide +kernel) ⟨Nat.le_of_ble_eq_true rfl, Nat.le_of_ble_eq_true rfl⟩) ⟨fun a U g mk q => by obtain ⟨q0, q1, qP, qK, qD, qZ, qN⟩ := q; exact ⟨q0, q1, qP, va_K.moved (u := U) (U := U.calling g mk a) (Vm.Alike.refl U.vm) qK, qD, sF.moved (u := U) (U := U.calling g mk a) (Vm.Alike.refl U.vm) qZ, nF.same rfl qN⟩, va_recv hK hP (ci := 11) (q0 := b2) rfl (wld_o ct ad G M hc2 hk2 (by decide)), fun U hU hW => ⟨rfl, by rw [hU], by rw [hU]; exact hP, va_K.moved hW.alike hK, hD.weaken (fun _ _ _ _ => trivial), by rw [hU]; exact ((hZ.kept hS.2.1).narrow hf9).moved hW.alike, hN.warm hW⟩⟩ rfl rfl hl.1 rfl (lv_room (by simp only [List.map, va_re_cat]; exact Nat.le_of_ble_eq_true rfl)) dL_sum_5 ⟨(Nat.zero_le _), (Nat.zero_le _)⟩) hS (fun q _ h => hf9 q h) hf9 (fun r u t H locs ht hvm hw hB hz1 hk1 hS => ?_)
  obtain ⟨hP, hK9, hD9⟩ := hB
  rw [ht] at hP
  try dsimp only at hw
  subst hw
  have hD := hD9.weaken (fun _ q _ h => hf9 q.1 h)
  obtain ⟨b4, ho4, hc4, hk4, hF⟩ := dr_some hF
  refine W_st (st' := [.int y3.2, .int (0 : Int32), .ref (ad b4)]) (by rw [va_some ho4]) ?_
  obtain ⟨hvc, hF⟩ := chk_some hF
  refine va_iast hx hb hK hP hD hS b4 1 (wld_i ct ad G y3.1 hc4 hk4) rfl hvc dL_sum_8 (fun H locs hP hD hS => ?_)
  obtain ⟨M5, eM5, hF⟩ := ltt_some hF
  rw [set_i ct ad G y3.1 hc4 hk4, ← eM5] at hP hD
  refine lv_goto (tgt := 16) hx hb dL_sum_9 (by decide) ?_
  refine lv_iconst (v := (0 : Int32)) hx hb dL_sum_16 (by decide) ?_
  obtain rfl := Option.some.inj hF
  exact W.iret (v := (0 : Int32)) hx hb hr (fun t ht hW => ⟨⟨_, (), rfl, rfl, ⟨by rw [ht]; exact hP, va_K.moved hW.alike hK, hD⟩⟩, hS.F ht⟩) hS.2.2 dL_sum_17
set_option maxRecDepth 20000 in
theorem gL_take_X11_take : GoodIn wuL_take (wsV RL 40 RX11 yX11_take wuX11_take) := gu_V mw_2737 mw_2738 mw_2739 mw_166 mw_2740
theorem dL_take_0 : decode cL_take 0 = .ok (.aload_n 1, 1) := by decide +kernel
theorem dL_take_1 : decode cL_take 1 = .ok (.iconst 0, 1) := by decide +kernel
theorem dL_take_2 : decode cL_take 2 = .ok (.aload_n 0, 1) := by decide +kernel
theorem dL_take_3 : decode cL_take 3 = .ok (.invokevirtual 40, 3) := by decide +kernel
theorem dL_take_6 : decode cL_take 6 = .ok (.iastore, 1) := by decide +kernel
theorem dL_take_7 : decode cL_take 7 = .ok (.goto 6, 3) := by decide +kernel
theorem dL_take_10 : decode cL_take 10 = .ok (.astore_n 2, 1) := by decide +kernel
theorem dL_take_11 : decode cL_take 11 = .ok (.iconst 1, 1) := by decide +kernel
theorem dL_take_12 : decode cL_take 12 = .ok (.ireturn, 1) := by decide +kernel
theorem dL_take_13 : decode cL_take 13 = .ok (.iconst 0, 1) := by decide +kernel
theorem dL_take_14 : decode cL_take 14 = .ok (.ireturn, 1) := by decide +kernel
def FL_take (G : GG) (M : DD) (p0 : Option Nat) (p1 : Option Nat) : Option (DD × Int32) :=
  dr G 11 p0 fun b2 =>
  bnd (FX11_take G M b2) fun y3 =>
  dr G 13 p1 fun b4 =>
  chk (¬ (((0 : Int32)) < 0 ∨ G.2.2 b4 ≤ ((0 : Int32)).toNatClampNeg)) <|
  ltt (uI y3.1 b4 ((0 : Int32)).toNatClampNeg y3.2) fun M5 =>
  some (M5, (0 : Int32))
set_option maxHeartbeats 4000000 in
set_option maxRecDepth 100000 in
theorem kL_take (l : Launch) (D : va_G) (ct : CT) (ad : Nat → Nat) (Z : Nat → Nat) (G : GG) (M : DD) (sz : Nat) (p0 : Option Nat) (p1 : Option Nat) (y : DD × Int32) (hF : FL_take G M p0 p1 = some y) : Met l yL_take wuL_take ({ frames := 4, cells := 0, slots := 0, locals := 145 }) (va_Pc [va_re ad p0, va_re ad p1] (kB D ct ad Z G M sz)) (va_Qi (fun (q : Int32) (_ : Unit) => q = y.2) (fun _ t => kE D ct ad G (wA ad G sz) y.1 t) (wA ad G sz)) 0 0 (wA ad G sz) := by
  refine mt_ofWH (cc := cL_take) (maxL := 3) (ret := (some .int)) (hh := [(0, 7, 10, 15)]) (by decide) rfl ?_
  intro p e s m args below meth c s₁ B hml hv
  obtain ⟨rfl, hsz, hP, hK, hD0, hZ, hN⟩ := hv
  have hx := B.exec
  have hb := B.bytes
  have hr := B.returns
  have hts := atoms_spec (ws := wuL_take) B.pre
  have hown : s.vm.findClass RL = some m.cls := findClass_of_methodNamed B.named
  have hlocks := B.notSynchronized
  subst hsz
  have hD := wD_self (sz := s.heap.size) hD0
  have hA9 : ∀ q, s.heap.size ≤ q → wA ad G s.heap.size q := fun q h => Or.inr h
  generalize hAe : wA ad G s.heap.size = A at hD hA9 hZ ⊢
  have hS : va_S A s.heap s.heap [] := va_S.rf
  have hl := lv_entry ([va_re ad p0, va_re ad p1]) (n := 3) (by cases p0 <;> cases p1 <;> exact Nat.le_of_ble_eq_true rfl)
  rw [lg_entry_eq]
  generalize (lg_sl ([va_re ad p0, va_re ad p1]) ++ List.replicate (3 - (lg_sl ([va_re ad p0, va_re ad p1])).length) Slot.unset).toArray = ls at hl ⊢
  have hl : lv_has ls 3 [(0, va_re ad p0), (1, va_re ad p1)] := by have e9 : lv_args 0 [va_re ad p0, va_re ad p1] = [(0, va_re ad p0), (1, va_re ad p1)] := (by cases p0 <;> cases p1 <;> rfl); rw [e9] at hl; exact hl
  unfold FL_take at hF
  refine lv_aloadq_n hx hb dL_take_0 rfl (lv_at hl 1 rfl) ?_
  refine lv_iconst (v := (0 : Int32)) hx hb dL_take_1 (by decide) ?_
  refine lv_aloadq_n hx hb dL_take_2 rfl (lv_at hl 0 rfl) ?_
  obtain ⟨b2, ho2, hc2, hk2, hF⟩ := dr_some hF
  refine W_st (st' := [.ref (ad b2), .int (0 : Int32), va_re ad p1]) (by rw [va_some ho2]) ?_
  obtain ⟨y3, hy3, hF⟩ := bnd_some hF
  have hf9 := wA_in hD hA9 hS
  refine va_calli (va_runV (As := []) (rest := [.int (0 : Int32), va_re ad p1]) ⟨hx, hb, hml, hown, hts⟩ (kX11_take l D ct ad Z G M s.heap.size b2 y3 hc2 hk2 hy3) (cwV 0 hts gL_take_X11_take rfl rfl rfl (by decide +kernel) ⟨Nat.le_of_ble_eq_true rfl, Nat.le_of_ble_eq_true rfl⟩) ⟨fun a U g mk q => by obtain ⟨q0, q1, qP, qK, qD, qZ, qN⟩ := q; exact ⟨q0, q1, qP, va_K.moved (u := U) (U := U.calling g mk a) (Vm.Alike.refl U.vm) qK, qD, sF.moved (u := U) (U := U.calling g mk a) (Vm.Alike.refl U.vm) qZ, nF.same rfl qN⟩, va_recv hK hP (ci := 11) (q0 := b2) rfl (wld_o ct ad G M hc2 hk2 (by decide)), fun U hU hW => ⟨rfl, by rw [hU], by rw [hU]; exact hP, va_K.moved hW.alike hK, hD.weaken (fun _ _ _ _ => trivial), by rw [hU]; exact ((hZ.kept hS.2.1).narrow hf9).moved hW.alike, hN.warm hW⟩⟩ rfl rfl hl.1 rfl (lv_room (by simp only [List.map, va_re_cat]; exact Nat.le_of_ble_eq_true rfl)) dL_take_3 ⟨(Nat.zero_le _), (Nat.zero_le _)⟩) hS (fun q _ h => hf9 q h) hf9 (fun r u t H locs ht hvm hw hB hz1 hk1 hS => ?_)
  obtain ⟨hP, hK9, hD9⟩ := hB
  rw [ht] at hP
  try dsimp only at hw
  subst hw
  have hD := hD9.weaken (fun _ q _ h => hf9 q.1 h)
  obtain ⟨b4, ho4, hc4, hk4, hF⟩ := dr_some hF
  refine W_st (st' := [.int y3.2, .int (0 : Int32), .ref (ad b4)]) (by rw [va_some ho4]) ?_
  obtain ⟨hvc, hF⟩ := chk_some hF
  refine va_iast hx hb hK hP hD hS b4 1 (wld_i ct ad G y3.1 hc4 hk4) rfl hvc dL_take_6 (fun H locs hP hD hS => ?_)
  obtain ⟨M5, eM5, hF⟩ := ltt_some hF
  rw [set_i ct ad G y3.1 hc4 hk4, ← eM5] at hP hD
  refine lv_goto (tgt := 13) hx hb dL_take_7 (by decide) ?_
  refine lv_iconst (v := (0 : Int32)) hx hb dL_take_13 (by decide) ?_
  obtain rfl := Option.some.inj hF
  exact W.iret (v := (0 : Int32)) hx hb hr (fun t ht hW => ⟨⟨_, (), rfl, rfl, ⟨by rw [ht]; exact hP, va_K.moved hW.alike hK, hD⟩⟩, hS.F ht⟩) hS.2.2 dL_take_14
set_option maxRecDepth 20000 in
theorem gX0_buildPieces_X6_fillLuma : GoodIn wuX0_buildPieces (wsV RX0 512 RX6 yX6_fillLuma wuX6_fillLuma) := gu_V mw_2601 mw_2135 mw_2136 mw_172 mw_2137
set_option maxRecDepth 20000 in
theorem gX0_buildPieces_X6_measureLuma : GoodIn wuX0_buildPieces (wsV RX0 508 RX6 yX6_measureLuma wuX6_measureLuma) := gu_V mw_2581 mw_2582 mw_2583 mw_172 mw_2584
set_option maxRecDepth 20000 in
set_option maxRecDepth 20000 in
theorem gX0_buildPieces_X9_sidesOf : GoodIn wuX0_buildPieces (va_wsS RX0 365 yX9_sidesOf wuX9_sidesOf) := gu_S mw_2499 mw_2108 mw_171 mw_2109
set_option maxRecDepth 20000 in
set_option maxRecDepth 20000 in
theorem gX0_buildPieces_X6_predictFour : GoodIn wuX0_buildPieces (wsV RX0 504 RX6 yX6_predictFour wuX6_predictFour) := gu_V mw_2580 mw_2111 mw_2112 mw_172 mw_2113
set_option maxRecDepth 20000 in
theorem dX0_buildPieces_0 : decode cX0_buildPieces 0 = .ok (.bipush 8, 2) := by decide +kernel
theorem dX0_buildPieces_2 : decode cX0_buildPieces 2 = .ok (.iload_n 1, 1) := by decide +kernel
theorem dX0_buildPieces_3 : decode cX0_buildPieces 3 = .ok (.imul, 1) := by decide +kernel
theorem dX0_buildPieces_4 : decode cX0_buildPieces 4 = .ok (.istore 5, 2) := by decide +kernel
theorem dX0_buildPieces_6 : decode cX0_buildPieces 6 = .ok (.aload_n 0, 1) := by decide +kernel
theorem dX0_buildPieces_7 : decode cX0_buildPieces 7 = .ok (.getfield 36, 3) := by decide +kernel
theorem dX0_buildPieces_10 : decode cX0_buildPieces 10 = .ok (.getfield 216, 3) := by decide +kernel
theorem dX0_buildPieces_13 : decode cX0_buildPieces 13 = .ok (.iload 5, 2) := by decide +kernel
theorem dX0_buildPieces_15 : decode cX0_buildPieces 15 = .ok (.iconst 0, 1) := by decide +kernel
theorem dX0_buildPieces_16 : decode cX0_buildPieces 16 = .ok (.iadd, 1) := by decide +kernel
theorem dX0_buildPieces_17 : decode cX0_buildPieces 17 = .ok (.iaload, 1) := by decide +kernel
theorem dX0_buildPieces_18 : decode cX0_buildPieces 18 = .ok (.ifCond .ne 7, 3) := by decide +kernel
theorem dX0_buildPieces_21 : decode cX0_buildPieces 21 = .ok (.iconst 1, 1) := by decide +kernel
theorem dX0_buildPieces_22 : decode cX0_buildPieces 22 = .ok (.goto 4, 3) := by decide +kernel
theorem dX0_buildPieces_25 : decode cX0_buildPieces 25 = .ok (.iconst 0, 1) := by decide +kernel
theorem dX0_buildPieces_26 : decode cX0_buildPieces 26 = .ok (.istore 6, 2) := by decide +kernel
theorem dX0_buildPieces_28 : decode cX0_buildPieces 28 = .ok (.iconst 0, 1) := by decide +kernel
theorem dX0_buildPieces_29 : decode cX0_buildPieces 29 = .ok (.istore 7, 2) := by decide +kernel
theorem dX0_buildPieces_31 : decode cX0_buildPieces 31 = .ok (.iload 7, 2) := by decide +kernel
theorem dX0_buildPieces_33 : decode cX0_buildPieces 33 = .ok (.bipush 16, 2) := by decide +kernel
theorem dX0_buildPieces_35 : decode cX0_buildPieces 35 = .ok (.if_icmp .ge 116, 3) := by decide +kernel
theorem dX0_buildPieces_38 : decode cX0_buildPieces 38 = .ok (.iload 6, 2) := by decide +kernel
theorem dX0_buildPieces_40 : decode cX0_buildPieces 40 = .ok (.ifCond .eq 38, 3) := by decide +kernel
theorem dX0_buildPieces_43 : decode cX0_buildPieces 43 = .ok (.aload_n 0, 1) := by decide +kernel
theorem dX0_buildPieces_44 : decode cX0_buildPieces 44 = .ok (.getfield 43, 3) := by decide +kernel
theorem dX0_buildPieces_47 : decode cX0_buildPieces 47 = .ok (.aload_n 0, 1) := by decide +kernel
theorem dX0_buildPieces_48 : decode cX0_buildPieces 48 = .ok (.getfield 36, 3) := by decide +kernel
theorem dX0_buildPieces_51 : decode cX0_buildPieces 51 = .ok (.iload_n 1, 1) := by decide +kernel
theorem dX0_buildPieces_52 : decode cX0_buildPieces 52 = .ok (.iload 7, 2) := by decide +kernel
theorem dX0_buildPieces_54 : decode cX0_buildPieces 54 = .ok (.aload_n 0, 1) := by decide +kernel
theorem dX0_buildPieces_55 : decode cX0_buildPieces 55 = .ok (.getfield 36, 3) := by decide +kernel
theorem dX0_buildPieces_58 : decode cX0_buildPieces 58 = .ok (.getfield 356, 3) := by decide +kernel
theorem dX0_buildPieces_61 : decode cX0_buildPieces 61 = .ok (.bipush 16, 2) := by decide +kernel
theorem dX0_buildPieces_63 : decode cX0_buildPieces 63 = .ok (.iload_n 1, 1) := by decide +kernel
theorem dX0_buildPieces_64 : decode cX0_buildPieces 64 = .ok (.imul, 1) := by decide +kernel
theorem dX0_buildPieces_65 : decode cX0_buildPieces 65 = .ok (.iload 7, 2) := by decide +kernel
theorem dX0_buildPieces_67 : decode cX0_buildPieces 67 = .ok (.iadd, 1) := by decide +kernel
theorem dX0_buildPieces_68 : decode cX0_buildPieces 68 = .ok (.iaload, 1) := by decide +kernel
theorem dX0_buildPieces_69 : decode cX0_buildPieces 69 = .ok (.iload 7, 2) := by decide +kernel
theorem dX0_buildPieces_71 : decode cX0_buildPieces 71 = .ok (.iload_n 3, 1) := by decide +kernel
theorem dX0_buildPieces_72 : decode cX0_buildPieces 72 = .ok (.invokestatic 365, 3) := by decide +kernel
theorem dX0_buildPieces_75 : decode cX0_buildPieces 75 = .ok (.invokevirtual 504, 3) := by decide +kernel
theorem dX0_buildPieces_78 : decode cX0_buildPieces 78 = .ok (.iload 4, 2) := by decide +kernel
theorem dX0_buildPieces_80 : decode cX0_buildPieces 80 = .ok (.ifCond .ne 50, 3) := by decide +kernel
theorem dX0_buildPieces_83 : decode cX0_buildPieces 83 = .ok (.aload_n 0, 1) := by decide +kernel
theorem dX0_buildPieces_84 : decode cX0_buildPieces 84 = .ok (.getfield 43, 3) := by decide +kernel
theorem dX0_buildPieces_87 : decode cX0_buildPieces 87 = .ok (.aload_n 0, 1) := by decide +kernel
theorem dX0_buildPieces_88 : decode cX0_buildPieces 88 = .ok (.getfield 36, 3) := by decide +kernel
theorem dX0_buildPieces_91 : decode cX0_buildPieces 91 = .ok (.aload_n 0, 1) := by decide +kernel
theorem dX0_buildPieces_92 : decode cX0_buildPieces 92 = .ok (.getfield 69, 3) := by decide +kernel
theorem dX0_buildPieces_95 : decode cX0_buildPieces 95 = .ok (.iconst 0, 1) := by decide +kernel
theorem dX0_buildPieces_96 : decode cX0_buildPieces 96 = .ok (.aaload, 1) := by decide +kernel
theorem dX0_buildPieces_97 : decode cX0_buildPieces 97 = .ok (.iload_n 1, 1) := by decide +kernel
theorem dX0_buildPieces_98 : decode cX0_buildPieces 98 = .ok (.iload 7, 2) := by decide +kernel
theorem dX0_buildPieces_100 : decode cX0_buildPieces 100 = .ok (.iload_n 2, 1) := by decide +kernel
theorem dX0_buildPieces_101 : decode cX0_buildPieces 101 = .ok (.iload 6, 2) := by decide +kernel
theorem dX0_buildPieces_103 : decode cX0_buildPieces 103 = .ok (.invokevirtual 508, 3) := by decide +kernel
theorem dX0_buildPieces_106 : decode cX0_buildPieces 106 = .ok (.ifCond .le 24, 3) := by decide +kernel
theorem dX0_buildPieces_109 : decode cX0_buildPieces 109 = .ok (.aload_n 0, 1) := by decide +kernel
theorem dX0_buildPieces_110 : decode cX0_buildPieces 110 = .ok (.getfield 36, 3) := by decide +kernel
theorem dX0_buildPieces_113 : decode cX0_buildPieces 113 = .ok (.getfield 216, 3) := by decide +kernel
theorem dX0_buildPieces_116 : decode cX0_buildPieces 116 = .ok (.iload 5, 2) := by decide +kernel
theorem dX0_buildPieces_118 : decode cX0_buildPieces 118 = .ok (.iconst 3, 1) := by decide +kernel
theorem dX0_buildPieces_119 : decode cX0_buildPieces 119 = .ok (.iadd, 1) := by decide +kernel
theorem dX0_buildPieces_120 : decode cX0_buildPieces 120 = .ok (.dup2, 1) := by decide +kernel
theorem dX0_buildPieces_121 : decode cX0_buildPieces 121 = .ok (.iaload, 1) := by decide +kernel
theorem dX0_buildPieces_122 : decode cX0_buildPieces 122 = .ok (.iconst 1, 1) := by decide +kernel
theorem dX0_buildPieces_123 : decode cX0_buildPieces 123 = .ok (.iload 7, 2) := by decide +kernel
theorem dX0_buildPieces_125 : decode cX0_buildPieces 125 = .ok (.iconst 4, 1) := by decide +kernel
theorem dX0_buildPieces_126 : decode cX0_buildPieces 126 = .ok (.idiv, 1) := by decide +kernel
theorem dX0_buildPieces_127 : decode cX0_buildPieces 127 = .ok (.ishl, 1) := by decide +kernel
theorem dX0_buildPieces_128 : decode cX0_buildPieces 128 = .ok (.ior, 1) := by decide +kernel
theorem dX0_buildPieces_129 : decode cX0_buildPieces 129 = .ok (.iastore, 1) := by decide +kernel
theorem dX0_buildPieces_130 : decode cX0_buildPieces 130 = .ok (.aload_n 0, 1) := by decide +kernel
theorem dX0_buildPieces_131 : decode cX0_buildPieces 131 = .ok (.getfield 43, 3) := by decide +kernel
theorem dX0_buildPieces_134 : decode cX0_buildPieces 134 = .ok (.aload_n 0, 1) := by decide +kernel
theorem dX0_buildPieces_135 : decode cX0_buildPieces 135 = .ok (.getfield 36, 3) := by decide +kernel
theorem dX0_buildPieces_138 : decode cX0_buildPieces 138 = .ok (.iload_n 1, 1) := by decide +kernel
theorem dX0_buildPieces_139 : decode cX0_buildPieces 139 = .ok (.iload 7, 2) := by decide +kernel
theorem dX0_buildPieces_141 : decode cX0_buildPieces 141 = .ok (.iload_n 2, 1) := by decide +kernel
theorem dX0_buildPieces_142 : decode cX0_buildPieces 142 = .ok (.invokevirtual 512, 3) := by decide +kernel
theorem dX0_buildPieces_145 : decode cX0_buildPieces 145 = .ok (.iinc 7 1, 3) := by decide +kernel
theorem dX0_buildPieces_148 : decode cX0_buildPieces 148 = .ok (.goto (-117), 3) := by decide +kernel
theorem dX0_buildPieces_151 : decode cX0_buildPieces 151 = .ok (.return_, 1) := by decide +kernel
def FX0_buildPieces (G : GG) (M : DD) (a : Nat) (p0 : Int32) (p1 : Int32) (p2 : Int32) (p3 : Int32) : Option (DD) :=
  ltt ((((8 : Int32)) * p0)) fun x1 =>
  dr G 9 ((M.2 a 3)) fun b2 =>
  ltt ((x1 + ((0 : Int32)))) fun x3 =>
  dr G 13 ((M.2 b2 6)) fun b4 =>
  chk (¬ (x3 < 0 ∨ G.2.2 b4 ≤ x3.toNatClampNeg)) <|
  ltt (M.1 b4 x3.toNatClampNeg) fun x5 =>
  bnd (if x5 = ((0 : Int32)) then (some ((1 : Int32))) else
  (some ((0 : Int32)))) fun (y6 : Int32) =>
  bnd (itr (fun (s8 : Int32 × DD) => ((if ((16 : Int32)) ≤ s8.1 then (some (.inr (s8.1, s8.2))) else
  (bnd (if y6 = ((0 : Int32)) then (some (s8.2)) else
  (dr G 9 ((s8.2.2 a 3)) fun b32 =>
  ltt ((((16 : Int32)) * p0)) fun x33 =>
  ltt ((x33 + s8.1)) fun x34 =>
  dr G 13 ((s8.2.2 b32 7)) fun b35 =>
  chk (¬ (x34 < 0 ∨ G.2.2 b35 ≤ x34.toNatClampNeg)) <|
  ltt (s8.2.1 b35 x34.toNatClampNeg) fun x36 =>
  bnd (FX9_sidesOf G s8.2 s8.1 p2) fun y37 =>
  dr G 6 ((s8.2.2 a 4)) fun b38 =>
  bnd (FX6_predictFour G y37.1 b38 (some b32) p0 s8.1 x36 y37.2) fun y39 =>
  some (y39))) fun (y12 : DD) =>
  bnd (if p3 = ((0 : Int32)) then (dr G 15 ((y12.2 a 9)) fun b18 =>
  chk (¬ (((0 : Int32)) < 0 ∨ G.2.2 b18 ≤ ((0 : Int32)).toNatClampNeg)) <|
  dr G 6 ((y12.2 a 4)) fun b19 =>
  bnd (FX6_measureLuma G y12 b19 ((y12.2 a 3)) ((y12.2 b18 ((0 : Int32)).toNatClampNeg)) p0 s8.1 p1 y6) fun y20 =>
  bnd (if y20.2 ≤ ((0 : Int32)) then (some (y20.1)) else
  (dr G 9 ((y20.1.2 a 3)) fun b23 =>
  ltt ((x1 + ((3 : Int32)))) fun x24 =>
  dr G 13 ((y20.1.2 b23 6)) fun b25 =>
  chk (¬ (x24 < 0 ∨ G.2.2 b25 ≤ x24.toNatClampNeg)) <|
  ltt (y20.1.1 b25 x24.toNatClampNeg) fun x26 =>
  ltt (s8.1 / ((4 : Int32))) fun x27 =>
  ltt ((((1 : Int32)) <<< (x27 &&& 31))) fun x28 =>
  ltt ((x26 ||| x28)) fun x29 =>
  chk (¬ (x24 < 0 ∨ G.2.2 b25 ≤ x24.toNatClampNeg)) <|
  ltt (uI y20.1 b25 x24.toNatClampNeg x29) fun M30 =>
  some (M30))) fun (y21 : DD) =>
  some (y21)) else
  (some (y12))) fun (y13 : DD) =>
  dr G 6 ((y13.2 a 4)) fun b14 =>
  bnd (FX6_fillLuma G y13 b14 ((y13.2 a 3)) p0 s8.1 p1) fun y15 =>
  ltt (s8.1 + (1 : Int32)) fun x16 =>
  some (.inl (x16, y15)))) : Option ((Int32 × DD) ⊕ (Int32 × DD)))) 1000000 ((0 : Int32), M)) fun (y7 : Int32 × DD) =>
  some y7.2
set_option maxHeartbeats 4000000 in
set_option maxRecDepth 100000 in
theorem kX0_buildPieces (l : Launch) (D : va_G) (ct : CT) (ad : Nat → Nat) (Z : Nat → Nat) (G : GG) (M : DD) (sz : Nat) (a : Nat) (p0 : Int32) (p1 : Int32) (p2 : Int32) (p3 : Int32) (y : DD) (hc : a < G.1) (hk : G.2.1 a = 0) (hF : FX0_buildPieces G M a p0 p1 p2 p3 = some y) : Met l yX0_buildPieces wuX0_buildPieces ({ frames := 3, cells := 0, slots := 0, locals := 83 }) (va_Pc [.ref (ad a), .int p0, .int p1, .int p2, .int p3] (kB D ct ad Z G M sz)) (va_Qv (fun (_ : Unit) => True) (fun _ t => kE D ct ad G (wA ad G sz) y t) (wA ad G sz)) 0 0 (wA ad G sz) := by
  refine Met.ofW (cc := cX0_buildPieces) (maxL := 8) (ret := none) (by decide) rfl ?_
  intro p e s m args below meth c s₁ B hml hv
  obtain ⟨rfl, hsz, hP, hK, hD0, hZ, hN⟩ := hv
  have hx := B.exec
  have hb := B.bytes
  have hr := B.returns
  have hts := atoms_spec (ws := wuX0_buildPieces) B.pre
  have hown : s.vm.findClass RX0 = some m.cls := findClass_of_methodNamed B.named
  have hlocks := B.notSynchronized
  subst hsz
  have hD := wD_self (sz := s.heap.size) hD0
  have hA9 : ∀ q, s.heap.size ≤ q → wA ad G s.heap.size q := fun q h => Or.inr h
  generalize hAe : wA ad G s.heap.size = A at hD hA9 hZ ⊢
  have hS : va_S A s.heap s.heap [] := va_S.rf
  have hl := lv_entry ([.ref (ad a), .int p0, .int p1, .int p2, .int p3]) (n := 8) (Nat.le_of_ble_eq_true rfl)
  rw [lg_entry_eq]
  generalize (lg_sl ([.ref (ad a), .int p0, .int p1, .int p2, .int p3]) ++ List.replicate (8 - (lg_sl ([.ref (ad a), .int p0, .int p1, .int p2, .int p3])).length) Slot.unset).toArray = ls at hl ⊢
  have hl : lv_has ls 8 [(0, .ref (ad a)), (1, .int p0), (2, .int p1), (3, .int p2), (4, .int p3)] := hl
  unfold FX0_buildPieces at hF
  refine lv_bipush (v := (8 : Int32)) hx hb dX0_buildPieces_0 (by decide) ?_
  refine lv_iload_n hx hb dX0_buildPieces_2 rfl (lv_at hl 1 rfl) ?_
  refine lv_imul hx hb dX0_buildPieces_3 ?_
  obtain ⟨x1, ex1, hF⟩ := ltt_some hF
  refine lv_topi (fun zx1 ezx1 => ?_)
  obtain rfl : x1 = zx1 := ex1.trans ezx1.symm
  refine lv_istore (lv' := [(5, .int x1), (0, .ref (ad a)), (1, .int p0), (2, .int p1), (3, .int p2), (4, .int p3)]) hx hb dX0_buildPieces_4 hl (by decide) rfl (fun ls hl => ?_)
  refine lv_aload_n hx hb dX0_buildPieces_6 rfl (lv_at hl 1 rfl) ?_
  refine va_get (D := D) (ci := 0) (v := va_re ad (M.2 a 3)) (C := RX0) (T := TX0) (N := 21) hx hb hts (mus hf_X0) hown hK hP a (wld_o ct ad G M hc hk (by decide)) rfl 3 (by decide) (hts (.fieldLink RX0 36 "VideoSuite$Coder" "work" "LVideoSuite$Work;") (mu mw_817)) (fun _ h9 => h9) rfl dX0_buildPieces_7 ?_
  obtain ⟨b2, ho2, hc2, hk2, hF⟩ := dr_some hF
  refine W_st (st' := [.ref (ad b2)]) (by rw [va_some ho2]) ?_
  refine va_get (D := D) (ci := 9) (v := va_re ad (M.2 b2 6)) (C := RX9) (T := TX9) (N := 20) hx hb hts (mus hf_X9) hown hK hP b2 (wld_o ct ad G M hc2 hk2 (by decide)) rfl 6 (by decide) (hts (.fieldLink RX0 216 "VideoSuite$Work" "info" "[I") (mu mw_445)) (fun _ h9 => h9) rfl dX0_buildPieces_10 ?_
  refine lv_iload hx hb dX0_buildPieces_13 (lv_at hl 0 rfl) ?_
  refine lv_iconst (v := (0 : Int32)) hx hb dX0_buildPieces_15 (by decide) ?_
  refine lv_iadd hx hb dX0_buildPieces_16 ?_
  obtain ⟨x3, ex3, hF⟩ := ltt_some hF
  refine lv_topi (fun zx3 ezx3 => ?_)
  obtain rfl : x3 = zx3 := ex3.trans ezx3.symm
  obtain ⟨b4, ho4, hc4, hk4, hF⟩ := dr_some hF
  refine W_st (st' := [.int x3, .ref (ad b4)]) (by rw [va_some ho4]) ?_
  obtain ⟨hvc, hF⟩ := chk_some hF
  refine va_iald hx hb hK hP b4 1 (wld_i ct ad G M hc4 hk4) rfl hvc dX0_buildPieces_17 ?_
  obtain ⟨x5, ex5, hF⟩ := ltt_some hF
  refine lv_topi (fun zx5 ezx5 => ?_)
  obtain rfl : x5 = zx5 := ex5.trans ezx5.symm
  obtain ⟨y6, hy6, hF⟩ := bnd_some hF
  have J6 : ∀ (H : Heap) (locs : List Loc) (ls : Array Slot), va_P D classes (wld ct ad G M) H → va_D A (wld ct ad G M) → va_S A s.heap H locs → lv_has ls 8 [(5, .int x1), (0, .ref (ad a)), (1, .int p0), (2, .int p1), (3, .int p2), (4, .int p3)] → W p l e (headSpec wuX0_buildPieces ({ frames := 3, cells := 0, slots := 0, locals := 83 })).room s m ([.ref (ad a), .int p0, .int p1, .int p2, .int p3] : List Value).toArray below meth c H locs 0 0 (MQ below (va_Qv (fun (_ : Unit) => True) (fun _ t => kE D ct ad G A y t) A) ([.ref (ad a), .int p0, .int p1, .int p2, .int p3] : List Value).toArray s 0 0 A) (F0 m 26 ls [.int y6]) := by
    intro H locs ls hP hD hS hl
    refine lv_istore (lv' := [(6, .int y6), (5, .int x1), (0, .ref (ad a)), (1, .int p0), (2, .int p1), (3, .int p2), (4, .int p3)]) hx hb dX0_buildPieces_26 hl (by decide) rfl (fun ls hl => ?_)
    refine lv_iconst (v := (0 : Int32)) hx hb dX0_buildPieces_28 (by decide) ?_
    refine lv_istore (lv' := [(7, .int (0 : Int32)), (6, .int y6), (5, .int x1), (0, .ref (ad a)), (1, .int p0), (2, .int p1), (3, .int p2), (4, .int p3)]) hx hb dX0_buildPieces_29 hl (by decide) rfl (fun ls hl => ?_)
    obtain ⟨y7, hy7, hF⟩ := bnd_some hF
    have K7 : ∀ (H : Heap) (locs : List Loc) (ls : Array Slot), va_P D classes (wld ct ad G y7.2) H → va_D A (wld ct ad G y7.2) → va_S A s.heap H locs → lv_has ls 8 [(7, .int y7.1), (6, .int y6), (5, .int x1), (0, .ref (ad a)), (1, .int p0), (2, .int p1), (3, .int p2), (4, .int p3)] → W p l e (headSpec wuX0_buildPieces ({ frames := 3, cells := 0, slots := 0, locals := 83 })).room s m ([.ref (ad a), .int p0, .int p1, .int p2, .int p3] : List Value).toArray below meth c H locs 0 0 (MQ below (va_Qv (fun (_ : Unit) => True) (fun _ t => kE D ct ad G A y t) A) ([.ref (ad a), .int p0, .int p1, .int p2, .int p3] : List Value).toArray s 0 0 A) (F0 m 151 ls []) := by
      intro H locs ls hP hD hS hl
      obtain rfl := Option.some.inj hF
      exact W.vret hx hb hr (fun t ht hW => ⟨⟨(), rfl, trivial, ⟨by rw [ht]; exact hP, va_K.moved hW.alike hK, hD⟩⟩, hS.F ht⟩) hS.2.2 dX0_buildPieces_151
    clear hF
    refine itr_rule (fun (s8 : Int32 × DD) => ∀ (H : Heap) (locs : List Loc) (ls : Array Slot), va_P D classes (wld ct ad G s8.2) H → va_D A (wld ct ad G s8.2) → va_S A s.heap H locs → lv_has ls 8 [(7, .int s8.1), (6, .int y6), (5, .int x1), (0, .ref (ad a)), (1, .int p0), (2, .int p1), (3, .int p2), (4, .int p3)] → W p l e (headSpec wuX0_buildPieces ({ frames := 3, cells := 0, slots := 0, locals := 83 })).room s m ([.ref (ad a), .int p0, .int p1, .int p2, .int p3] : List Value).toArray below meth c H locs 0 0 (MQ below (va_Qv (fun (_ : Unit) => True) (fun _ t => kE D ct ad G A y t) A) ([.ref (ad a), .int p0, .int p1, .int p2, .int p3] : List Value).toArray s 0 0 A) (F0 m 31 ls [])) ?_ _ _ hy7 _ _ _ hP hD hS (lv_sub hl [0, 1, 2, 3, 4, 5, 6, 7] rfl)
    rintro s8 ⟨z10, hF, hwz10⟩ H locs ls hP hD hS hl
    try dsimp only at hF
    refine lv_iload hx hb dX0_buildPieces_31 (lv_at hl 0 rfl) ?_
    refine lv_bipush (v := (16 : Int32)) hx hb dX0_buildPieces_33 (by decide) ?_
    refine lv_icmp_ge (tgt := 151) hx hb dX0_buildPieces_35 (by decide) (fun c11 => ?_) (fun c11 => ?_)
    · rw [if_pos c11] at hF
      obtain rfl := Option.some.inj hF
      subst hwz10
      exact K7 _ _ _ hP hD hS (lv_sub hl [0, 1, 2, 3, 4, 5, 6, 7] rfl)
    · rw [if_neg c11] at hF
      refine lv_iload hx hb dX0_buildPieces_38 (lv_at hl 1 rfl) ?_
      obtain ⟨y12, hy12, hF⟩ := bnd_some hF
      have J12 : ∀ (H : Heap) (locs : List Loc) (ls : Array Slot), va_P D classes (wld ct ad G y12) H → va_D A (wld ct ad G y12) → va_S A s.heap H locs → lv_has ls 8 [(7, .int s8.1), (6, .int y6), (5, .int x1), (0, .ref (ad a)), (1, .int p0), (2, .int p1), (3, .int p2), (4, .int p3)] → W p l e (headSpec wuX0_buildPieces ({ frames := 3, cells := 0, slots := 0, locals := 83 })).room s m ([.ref (ad a), .int p0, .int p1, .int p2, .int p3] : List Value).toArray below meth c H locs 0 0 (MQ below (va_Qv (fun (_ : Unit) => True) (fun _ t => kE D ct ad G A y t) A) ([.ref (ad a), .int p0, .int p1, .int p2, .int p3] : List Value).toArray s 0 0 A) (F0 m 78 ls []) := by
        intro H locs ls hP hD hS hl
        refine lv_iload hx hb dX0_buildPieces_78 (lv_at hl 7 rfl) ?_
        obtain ⟨y13, hy13, hF⟩ := bnd_some hF
        have J13 : ∀ (H : Heap) (locs : List Loc) (ls : Array Slot), va_P D classes (wld ct ad G y13) H → va_D A (wld ct ad G y13) → va_S A s.heap H locs → lv_has ls 8 [(7, .int s8.1), (6, .int y6), (5, .int x1), (0, .ref (ad a)), (1, .int p0), (2, .int p1), (3, .int p2), (4, .int p3)] → W p l e (headSpec wuX0_buildPieces ({ frames := 3, cells := 0, slots := 0, locals := 83 })).room s m ([.ref (ad a), .int p0, .int p1, .int p2, .int p3] : List Value).toArray below meth c H locs 0 0 (MQ below (va_Qv (fun (_ : Unit) => True) (fun _ t => kE D ct ad G A y t) A) ([.ref (ad a), .int p0, .int p1, .int p2, .int p3] : List Value).toArray s 0 0 A) (F0 m 130 ls []) := by
          intro H locs ls hP hD hS hl
          refine lv_aload_n hx hb dX0_buildPieces_130 rfl (lv_at hl 3 rfl) ?_
          refine va_get (D := D) (ci := 0) (v := va_re ad (y13.2 a 4)) (C := RX0) (T := TX0) (N := 21) hx hb hts (mus hf_X0) hown hK hP a (wld_o ct ad G y13 hc hk (by decide)) rfl 4 (by decide) (hts (.fieldLink RX0 43 "VideoSuite$Coder" "samples" "LVideoSuite$Samples;") (mu mw_818)) (fun _ h9 => h9) rfl dX0_buildPieces_131 ?_
          refine lv_aload_n hx hb dX0_buildPieces_134 rfl (lv_at hl 3 rfl) ?_
          refine va_get (D := D) (ci := 0) (v := va_re ad (y13.2 a 3)) (C := RX0) (T := TX0) (N := 21) hx hb hts (mus hf_X0) hown hK hP a (wld_o ct ad G y13 hc hk (by decide)) rfl 3 (by decide) (hts (.fieldLink RX0 36 "VideoSuite$Coder" "work" "LVideoSuite$Work;") (mu mw_817)) (fun _ h9 => h9) rfl dX0_buildPieces_135 ?_
          refine lv_iload_n hx hb dX0_buildPieces_138 rfl (lv_at hl 4 rfl) ?_
          refine lv_iload hx hb dX0_buildPieces_139 (lv_at hl 0 rfl) ?_
          refine lv_iload_n hx hb dX0_buildPieces_141 rfl (lv_at hl 5 rfl) ?_
          obtain ⟨b14, ho14, hc14, hk14, hF⟩ := dr_some hF
          refine W_st (st' := [.int p1, .int s8.1, .int p0, va_re ad (y13.2 a 3), .ref (ad b14)]) (by rw [va_some ho14]) ?_
          obtain ⟨y15, hy15, hF⟩ := bnd_some hF
          have hf9 := wA_in hD hA9 hS
          refine va_callv (va_runV (As := [va_re ad (y13.2 a 3), .int p0, .int s8.1, .int p1]) (rest := []) ⟨hx, hb, hml, hown, hts⟩ (kX6_fillLuma l D ct ad Z G y13 H.size b14 ((y13.2 a 3)) p0 s8.1 p1 y15 hc14 hk14 hy15) (cwV 4 hts gX0_buildPieces_X6_fillLuma rfl rfl rfl (by decide +kernel) ⟨Nat.le_of_ble_eq_true rfl, Nat.le_of_ble_eq_true rfl⟩) ⟨fun a U g mk q => by obtain ⟨q0, q1, qP, qK, qD, qZ, qN⟩ := q; exact ⟨q0, q1, qP, va_K.moved (u := U) (U := U.calling g mk a) (Vm.Alike.refl U.vm) qK, qD, sF.moved (u := U) (U := U.calling g mk a) (Vm.Alike.refl U.vm) qZ, nF.same rfl qN⟩, va_recv hK hP (ci := 6) (q0 := b14) rfl (wld_o ct ad G y13 hc14 hk14 (by decide)), fun U hU hW => ⟨rfl, by rw [hU], by rw [hU]; exact hP, va_K.moved hW.alike hK, hD.weaken (fun _ _ _ _ => trivial), by rw [hU]; exact ((hZ.kept hS.2.1).narrow hf9).moved hW.alike, hN.warm hW⟩⟩ rfl rfl hl.1 rfl (lv_room (Nat.le_of_ble_eq_true rfl)) dX0_buildPieces_142 ⟨(Nat.zero_le _), (Nat.zero_le _)⟩) hS (fun q _ h => hf9 q h) hf9 (fun u t H locs ht hvm hw hB hz1 hk1 hS => ?_)
          obtain ⟨hP, hK9, hD9⟩ := hB
          rw [ht] at hP
          have hD := hD9.weaken (fun _ q _ h => hf9 q.1 h)
          obtain ⟨x16, ex16, hF⟩ := ltt_some hF
          refine lv_iinc (v := x16) (lv' := [(7, .int x16), (6, .int y6), (5, .int x1), (0, .ref (ad a)), (1, .int p0), (2, .int p1), (3, .int p2), (4, .int p3)]) hx hb dX0_buildPieces_145 hl (k := 0) rfl (by rw [ex16]; rfl) (by decide) rfl (fun ls hl => ?_)
          refine lv_goto (tgt := 31) hx hb dX0_buildPieces_148 (by decide) ?_
          obtain rfl := Option.some.inj hF
          exact hwz10 _ _ _ hP hD hS (lv_sub hl [0, 1, 2, 3, 4, 5, 6, 7] rfl)
        clear hF
        have hF := hy13
        clear hy13
        refine lv_if_ne (tgt := 130) hx hb dX0_buildPieces_80 (by decide) (fun c17 => ?_) (fun c17 => ?_)
        · rw [if_neg c17] at hF
          obtain rfl := Option.some.inj hF
          exact J13 _ _ _ hP hD hS (lv_sub hl [0, 1, 2, 3, 4, 5, 6, 7] rfl)
        · rw [if_pos c17] at hF
          refine lv_aload_n hx hb dX0_buildPieces_83 rfl (lv_at hl 3 rfl) ?_
          refine va_get (D := D) (ci := 0) (v := va_re ad (y12.2 a 4)) (C := RX0) (T := TX0) (N := 21) hx hb hts (mus hf_X0) hown hK hP a (wld_o ct ad G y12 hc hk (by decide)) rfl 4 (by decide) (hts (.fieldLink RX0 43 "VideoSuite$Coder" "samples" "LVideoSuite$Samples;") (mu mw_818)) (fun _ h9 => h9) rfl dX0_buildPieces_84 ?_
          refine lv_aload_n hx hb dX0_buildPieces_87 rfl (lv_at hl 3 rfl) ?_
          refine va_get (D := D) (ci := 0) (v := va_re ad (y12.2 a 3)) (C := RX0) (T := TX0) (N := 21) hx hb hts (mus hf_X0) hown hK hP a (wld_o ct ad G y12 hc hk (by decide)) rfl 3 (by decide) (hts (.fieldLink RX0 36 "VideoSuite$Coder" "work" "LVideoSuite$Work;") (mu mw_817)) (fun _ h9 => h9) rfl dX0_buildPieces_88 ?_
          refine lv_aload_n hx hb dX0_buildPieces_91 rfl (lv_at hl 3 rfl) ?_
          refine va_get (D := D) (ci := 0) (v := va_re ad (y12.2 a 9)) (C := RX0) (T := TX0) (N := 21) hx hb hts (mus hf_X0) hown hK hP a (wld_o ct ad G y12 hc hk (by decide)) rfl 9 (by decide) (hts (.fieldLink RX0 69 "VideoSuite$Coder" "source" "[[I") (mu mw_823)) (fun _ h9 => h9) rfl dX0_buildPieces_92 ?_
          refine lv_iconst (v := (0 : Int32)) hx hb dX0_buildPieces_95 (by decide) ?_
          obtain ⟨b18, ho18, hc18, hk18, hF⟩ := dr_some hF
          refine W_st (st' := [.int (0 : Int32), .ref (ad b18), va_re ad (y12.2 a 3), va_re ad (y12.2 a 4)]) (by rw [va_some ho18]) ?_
          obtain ⟨hvc, hF⟩ := chk_some hF
          refine ld_g hx hb hK hP hc18 hk18 hvc dX0_buildPieces_96 ?_
          refine lv_iload_n hx hb dX0_buildPieces_97 rfl (lv_at hl 4 rfl) ?_
          refine lv_iload hx hb dX0_buildPieces_98 (lv_at hl 0 rfl) ?_
          refine lv_iload_n hx hb dX0_buildPieces_100 rfl (lv_at hl 5 rfl) ?_
          refine lv_iload hx hb dX0_buildPieces_101 (lv_at hl 1 rfl) ?_
          obtain ⟨b19, ho19, hc19, hk19, hF⟩ := dr_some hF
          refine W_st (st' := [.int y6, .int p1, .int s8.1, .int p0, va_re ad (y12.2 b18 ((0 : Int32)).toNatClampNeg), va_re ad (y12.2 a 3), .ref (ad b19)]) (by rw [va_some ho19]) ?_
          obtain ⟨y20, hy20, hF⟩ := bnd_some hF
          have hf9 := wA_in hD hA9 hS
          refine va_calli (va_runV (As := [va_re ad (y12.2 a 3), va_re ad (y12.2 b18 ((0 : Int32)).toNatClampNeg), .int p0, .int s8.1, .int p1, .int y6]) (rest := []) ⟨hx, hb, hml, hown, hts⟩ (kX6_measureLuma l D ct ad Z G y12 H.size b19 ((y12.2 a 3)) ((y12.2 b18 ((0 : Int32)).toNatClampNeg)) p0 s8.1 p1 y6 y20 hc19 hk19 hy20) (cwV 6 hts gX0_buildPieces_X6_measureLuma rfl rfl rfl (by decide +kernel) ⟨Nat.le_of_ble_eq_true rfl, Nat.le_of_ble_eq_true rfl⟩) ⟨fun a U g mk q => by obtain ⟨q0, q1, qP, qK, qD, qZ, qN⟩ := q; exact ⟨q0, q1, qP, va_K.moved (u := U) (U := U.calling g mk a) (Vm.Alike.refl U.vm) qK, qD, sF.moved (u := U) (U := U.calling g mk a) (Vm.Alike.refl U.vm) qZ, nF.same rfl qN⟩, va_recv hK hP (ci := 6) (q0 := b19) rfl (wld_o ct ad G y12 hc19 hk19 (by decide)), fun U hU hW => ⟨rfl, by rw [hU], by rw [hU]; exact hP, va_K.moved hW.alike hK, hD.weaken (fun _ _ _ _ => trivial), by rw [hU]; exact ((hZ.kept hS.2.1).narrow hf9).moved hW.alike, hN.warm hW⟩⟩ rfl rfl hl.1 rfl (lv_room (Nat.le_of_ble_eq_true rfl)) dX0_buildPieces_103 ⟨(Nat.zero_le _), (Nat.zero_le _)⟩) hS (fun q _ h => hf9 q h) hf9 (fun r u t H locs ht hvm hw hB hz1 hk1 hS => ?_)
          obtain ⟨hP, hK9, hD9⟩ := hB
          rw [ht] at hP
          try dsimp only at hw
          subst hw
          have hD := hD9.weaken (fun _ q _ h => hf9 q.1 h)
          obtain ⟨y21, hy21, hF⟩ := bnd_some hF
          have J21 : ∀ (H : Heap) (locs : List Loc) (ls : Array Slot), va_P D classes (wld ct ad G y21) H → va_D A (wld ct ad G y21) → va_S A s.heap H locs → lv_has ls 8 [(7, .int s8.1), (6, .int y6), (5, .int x1), (0, .ref (ad a)), (1, .int p0), (2, .int p1), (3, .int p2), (4, .int p3)] → W p l e (headSpec wuX0_buildPieces ({ frames := 3, cells := 0, slots := 0, locals := 83 })).room s m ([.ref (ad a), .int p0, .int p1, .int p2, .int p3] : List Value).toArray below meth c H locs 0 0 (MQ below (va_Qv (fun (_ : Unit) => True) (fun _ t => kE D ct ad G A y t) A) ([.ref (ad a), .int p0, .int p1, .int p2, .int p3] : List Value).toArray s 0 0 A) (F0 m 130 ls []) := by
            intro H locs ls hP hD hS hl
            obtain rfl := Option.some.inj hF
            exact J13 _ _ _ hP hD hS (lv_sub hl [0, 1, 2, 3, 4, 5, 6, 7] rfl)
          clear hF
          have hF := hy21
          clear hy21
          refine lv_if_le (tgt := 130) hx hb dX0_buildPieces_106 (by decide) (fun c22 => ?_) (fun c22 => ?_)
          · rw [if_pos c22] at hF
            obtain rfl := Option.some.inj hF
            exact J21 _ _ _ hP hD hS (lv_sub hl [0, 1, 2, 3, 4, 5, 6, 7] rfl)
          · rw [if_neg c22] at hF
            refine lv_aload_n hx hb dX0_buildPieces_109 rfl (lv_at hl 3 rfl) ?_
            refine va_get (D := D) (ci := 0) (v := va_re ad (y20.1.2 a 3)) (C := RX0) (T := TX0) (N := 21) hx hb hts (mus hf_X0) hown hK hP a (wld_o ct ad G y20.1 hc hk (by decide)) rfl 3 (by decide) (hts (.fieldLink RX0 36 "VideoSuite$Coder" "work" "LVideoSuite$Work;") (mu mw_817)) (fun _ h9 => h9) rfl dX0_buildPieces_110 ?_
            obtain ⟨b23, ho23, hc23, hk23, hF⟩ := dr_some hF
            refine W_st (st' := [.ref (ad b23)]) (by rw [va_some ho23]) ?_
            refine va_get (D := D) (ci := 9) (v := va_re ad (y20.1.2 b23 6)) (C := RX9) (T := TX9) (N := 20) hx hb hts (mus hf_X9) hown hK hP b23 (wld_o ct ad G y20.1 hc23 hk23 (by decide)) rfl 6 (by decide) (hts (.fieldLink RX0 216 "VideoSuite$Work" "info" "[I") (mu mw_445)) (fun _ h9 => h9) rfl dX0_buildPieces_113 ?_
            refine lv_iload hx hb dX0_buildPieces_116 (lv_at hl 2 rfl) ?_
            refine lv_iconst (v := (3 : Int32)) hx hb dX0_buildPieces_118 (by decide) ?_
            refine lv_iadd hx hb dX0_buildPieces_119 ?_
            obtain ⟨x24, ex24, hF⟩ := ltt_some hF
            refine lv_topi (fun zx24 ezx24 => ?_)
            obtain rfl : x24 = zx24 := ex24.trans ezx24.symm
            refine lv_dup2_11 hx hb dX0_buildPieces_120 rfl (va_re_cat _ _) ?_
            obtain ⟨b25, ho25, hc25, hk25, hF⟩ := dr_some hF
            refine W_st (st' := [.int x24, .ref (ad b25), .int x24, .ref (ad b25)]) (by rw [va_some ho25]) ?_
            obtain ⟨hvc, hF⟩ := chk_some hF
            refine va_iald hx hb hK hP b25 1 (wld_i ct ad G y20.1 hc25 hk25) rfl hvc dX0_buildPieces_121 ?_
            obtain ⟨x26, ex26, hF⟩ := ltt_some hF
            refine lv_topi (fun zx26 ezx26 => ?_)
            obtain rfl : x26 = zx26 := ex26.trans ezx26.symm
            refine lv_iconst (v := (1 : Int32)) hx hb dX0_buildPieces_122 (by decide) ?_
            refine lv_iload hx hb dX0_buildPieces_123 (lv_at hl 0 rfl) ?_
            refine lv_iconst (v := (4 : Int32)) hx hb dX0_buildPieces_125 (by decide) ?_
            refine lv_idiv hx hb dX0_buildPieces_126 (by decide) ?_
            obtain ⟨x27, ex27, hF⟩ := ltt_some hF
            refine lv_topi (fun zx27 ezx27 => ?_)
            obtain rfl : x27 = zx27 := ex27.trans ezx27.symm
            refine lv_ishl hx hb dX0_buildPieces_127 ?_
            obtain ⟨x28, ex28, hF⟩ := ltt_some hF
            refine lv_topi (fun zx28 ezx28 => ?_)
            obtain rfl : x28 = zx28 := ex28.trans ezx28.symm
            refine lv_ior hx hb dX0_buildPieces_128 ?_
            obtain ⟨x29, ex29, hF⟩ := ltt_some hF
            refine lv_topi (fun zx29 ezx29 => ?_)
            obtain rfl : x29 = zx29 := ex29.trans ezx29.symm
            obtain ⟨hvc, hF⟩ := chk_some hF
            refine va_iast hx hb hK hP hD hS b25 1 (wld_i ct ad G y20.1 hc25 hk25) rfl hvc dX0_buildPieces_129 (fun H locs hP hD hS => ?_)
            obtain ⟨M30, eM30, hF⟩ := ltt_some hF
            rw [set_i ct ad G y20.1 hc25 hk25, ← eM30] at hP hD
            obtain rfl := Option.some.inj hF
            exact J21 _ _ _ hP hD hS (lv_sub hl [0, 1, 2, 3, 4, 5, 6, 7] rfl)
      clear hF
      have hF := hy12
      clear hy12
      refine lv_if_eq (tgt := 78) hx hb dX0_buildPieces_40 (by decide) (fun c31 => ?_) (fun c31 => ?_)
      · rw [if_pos c31] at hF
        obtain rfl := Option.some.inj hF
        exact J12 _ _ _ hP hD hS (lv_sub hl [0, 1, 2, 3, 4, 5, 6, 7] rfl)
      · rw [if_neg c31] at hF
        refine lv_aload_n hx hb dX0_buildPieces_43 rfl (lv_at hl 3 rfl) ?_
        refine va_get (D := D) (ci := 0) (v := va_re ad (s8.2.2 a 4)) (C := RX0) (T := TX0) (N := 21) hx hb hts (mus hf_X0) hown hK hP a (wld_o ct ad G s8.2 hc hk (by decide)) rfl 4 (by decide) (hts (.fieldLink RX0 43 "VideoSuite$Coder" "samples" "LVideoSuite$Samples;") (mu mw_818)) (fun _ h9 => h9) rfl dX0_buildPieces_44 ?_
        refine lv_aload_n hx hb dX0_buildPieces_47 rfl (lv_at hl 3 rfl) ?_
        refine va_get (D := D) (ci := 0) (v := va_re ad (s8.2.2 a 3)) (C := RX0) (T := TX0) (N := 21) hx hb hts (mus hf_X0) hown hK hP a (wld_o ct ad G s8.2 hc hk (by decide)) rfl 3 (by decide) (hts (.fieldLink RX0 36 "VideoSuite$Coder" "work" "LVideoSuite$Work;") (mu mw_817)) (fun _ h9 => h9) rfl dX0_buildPieces_48 ?_
        refine lv_iload_n hx hb dX0_buildPieces_51 rfl (lv_at hl 4 rfl) ?_
        refine lv_iload hx hb dX0_buildPieces_52 (lv_at hl 0 rfl) ?_
        refine lv_aload_n hx hb dX0_buildPieces_54 rfl (lv_at hl 3 rfl) ?_
        refine va_get (D := D) (ci := 0) (v := va_re ad (s8.2.2 a 3)) (C := RX0) (T := TX0) (N := 21) hx hb hts (mus hf_X0) hown hK hP a (wld_o ct ad G s8.2 hc hk (by decide)) rfl 3 (by decide) (hts (.fieldLink RX0 36 "VideoSuite$Coder" "work" "LVideoSuite$Work;") (mu mw_817)) (fun _ h9 => h9) rfl dX0_buildPieces_55 ?_
        obtain ⟨b32, ho32, hc32, hk32, hF⟩ := dr_some hF
        refine W_st (st' := [.ref (ad b32), .int s8.1, .int p0, .ref (ad b32), va_re ad (s8.2.2 a 4)]) (by rw [va_some ho32]) ?_
        refine va_get (D := D) (ci := 9) (v := va_re ad (s8.2.2 b32 7)) (C := RX9) (T := TX9) (N := 20) hx hb hts (mus hf_X9) hown hK hP b32 (wld_o ct ad G s8.2 hc32 hk32 (by decide)) rfl 7 (by decide) (hts (.fieldLink RX0 356 "VideoSuite$Work" "mode" "[I") (mu mw_448)) (fun _ h9 => h9) rfl dX0_buildPieces_58 ?_
        refine lv_bipush (v := (16 : Int32)) hx hb dX0_buildPieces_61 (by decide) ?_
        refine lv_iload_n hx hb dX0_buildPieces_63 rfl (lv_at hl 4 rfl) ?_
        refine lv_imul hx hb dX0_buildPieces_64 ?_
        obtain ⟨x33, ex33, hF⟩ := ltt_some hF
        refine lv_topi (fun zx33 ezx33 => ?_)
        obtain rfl : x33 = zx33 := ex33.trans ezx33.symm
        refine lv_iload hx hb dX0_buildPieces_65 (lv_at hl 0 rfl) ?_
        refine lv_iadd hx hb dX0_buildPieces_67 ?_
        obtain ⟨x34, ex34, hF⟩ := ltt_some hF
        refine lv_topi (fun zx34 ezx34 => ?_)
        obtain rfl : x34 = zx34 := ex34.trans ezx34.symm
        obtain ⟨b35, ho35, hc35, hk35, hF⟩ := dr_some hF
        refine W_st (st' := [.int x34, .ref (ad b35), .int s8.1, .int p0, .ref (ad b32), va_re ad (s8.2.2 a 4)]) (by rw [va_some ho35]) ?_
        obtain ⟨hvc, hF⟩ := chk_some hF
        refine va_iald hx hb hK hP b35 1 (wld_i ct ad G s8.2 hc35 hk35) rfl hvc dX0_buildPieces_68 ?_
        obtain ⟨x36, ex36, hF⟩ := ltt_some hF
        refine lv_topi (fun zx36 ezx36 => ?_)
        obtain rfl : x36 = zx36 := ex36.trans ezx36.symm
        refine lv_iload hx hb dX0_buildPieces_69 (lv_at hl 0 rfl) ?_
        refine lv_iload_n hx hb dX0_buildPieces_71 rfl (lv_at hl 6 rfl) ?_
        obtain ⟨y37, hy37, hF⟩ := bnd_some hF
        have hf9 := wA_in hD hA9 hS
        refine va_calli (va_runS (As := [.int s8.1, .int p2]) (rest := [.int x36, .int s8.1, .int p0, .ref (ad b32), va_re ad (s8.2.2 a 4)]) ⟨hx, hb, hml, hown, hts⟩ (kX9_sidesOf l D ct ad Z G s8.2 H.size s8.1 p2 y37 hy37) (va_cwS 2 hts gX0_buildPieces_X9_sidesOf rfl rfl rfl (by decide +kernel) ⟨Nat.le_of_ble_eq_true rfl, Nat.le_of_ble_eq_true rfl⟩) ⟨fun a U g mk q => by obtain ⟨q0, q1, qP, qK, qD, qZ, qN⟩ := q; exact ⟨q0, q1, qP, va_K.moved (u := U) (U := U.calling g mk a) (Vm.Alike.refl U.vm) qK, qD, sF.moved (u := U) (U := U.calling g mk a) (Vm.Alike.refl U.vm) qZ, nF.same rfl qN⟩, fun U hU hW => ⟨rfl, by rw [hU], by rw [hU]; exact hP, va_K.moved hW.alike hK, hD.weaken (fun _ _ _ _ => trivial), by rw [hU]; exact ((hZ.kept hS.2.1).narrow hf9).moved hW.alike, hN.warm hW⟩⟩ rfl rfl hl.1 rfl (lv_room (by simp only [List.map, va_re_cat]; exact Nat.le_of_ble_eq_true rfl)) dX0_buildPieces_72 ⟨(Nat.zero_le _), (Nat.zero_le _)⟩) hS (fun q _ h => hf9 q h) hf9 (fun r u t H locs ht hvm hw hB hz1 hk1 hS => ?_)
        obtain ⟨hP, hK9, hD9⟩ := hB
        rw [ht] at hP
        try dsimp only at hw
        subst hw
        have hD := hD9.weaken (fun _ q _ h => hf9 q.1 h)
        obtain ⟨b38, ho38, hc38, hk38, hF⟩ := dr_some hF
        refine W_st (st' := [.int y37.2, .int x36, .int s8.1, .int p0, .ref (ad b32), .ref (ad b38)]) (by rw [va_some ho38]) ?_
        obtain ⟨y39, hy39, hF⟩ := bnd_some hF
        have hf9 := wA_in hD hA9 hS
        refine va_callv (va_runV (As := [.ref (ad b32), .int p0, .int s8.1, .int x36, .int y37.2]) (rest := []) ⟨hx, hb, hml, hown, hts⟩ (kX6_predictFour l D ct ad Z G y37.1 H.size b38 (some b32) p0 s8.1 x36 y37.2 y39 hc38 hk38 hy39) (cwV 5 hts gX0_buildPieces_X6_predictFour rfl rfl rfl (by decide +kernel) ⟨Nat.le_of_ble_eq_true rfl, Nat.le_of_ble_eq_true rfl⟩) ⟨fun a U g mk q => by obtain ⟨q0, q1, qP, qK, qD, qZ, qN⟩ := q; exact ⟨q0, q1, qP, va_K.moved (u := U) (U := U.calling g mk a) (Vm.Alike.refl U.vm) qK, qD, sF.moved (u := U) (U := U.calling g mk a) (Vm.Alike.refl U.vm) qZ, nF.same rfl qN⟩, va_recv hK hP (ci := 6) (q0 := b38) rfl (wld_o ct ad G y37.1 hc38 hk38 (by decide)), fun U hU hW => ⟨rfl, by rw [hU], by rw [hU]; exact hP, va_K.moved hW.alike hK, hD.weaken (fun _ _ _ _ => trivial), by rw [hU]; exact ((hZ.kept hS.2.1).narrow hf9).moved hW.alike, hN.warm hW⟩⟩ rfl rfl hl.1 rfl (lv_room (Nat.le_of_ble_eq_true rfl)) dX0_buildPieces_75 ⟨(Nat.zero_le _), (Nat.zero_le _)⟩) hS (fun q _ h => hf9 q h) hf9 (fun u t H locs ht hvm hw hB hz1 hk1 hS => ?_)
        obtain ⟨hP, hK9, hD9⟩ := hB
        rw [ht] at hP
        have hD := hD9.weaken (fun _ q _ h => hf9 q.1 h)
        obtain rfl := Option.some.inj hF
        exact J12 _ _ _ hP hD hS (lv_sub hl [0, 1, 2, 3, 4, 5, 6, 7] rfl)
  clear hF
  have hF := hy6
  clear hy6
  refine lv_if_ne (tgt := 25) hx hb dX0_buildPieces_18 (by decide) (fun c40 => ?_) (fun c40 => ?_)
  · rw [if_neg c40] at hF
    refine lv_iconst (v := (0 : Int32)) hx hb dX0_buildPieces_25 (by decide) ?_
    obtain rfl := Option.some.inj hF
    exact J6 _ _ _ hP hD hS (lv_sub hl [0, 1, 2, 3, 4, 5] rfl)
  · rw [if_pos c40] at hF
    refine lv_iconst (v := (1 : Int32)) hx hb dX0_buildPieces_21 (by decide) ?_
    refine lv_goto (tgt := 26) hx hb dX0_buildPieces_22 (by decide) ?_
    obtain rfl := Option.some.inj hF
    exact J6 _ _ _ hP hD hS (lv_sub hl [0, 1, 2, 3, 4, 5] rfl)
set_option maxRecDepth 20000 in
theorem gX0_costOfDirect_X9_direct : GoodIn wuX0_costOfDirect (wsV RX0 372 RX9 yX9_direct wuX9_direct) := gu_V mw_2504 mw_1875 mw_1876 mw_171 mw_1877
set_option maxRecDepth 20000 in
set_option maxRecDepth 20000 in
theorem gX0_costOfDirect_X6_predictByLists : GoodIn wuX0_costOfDirect (wsV RX0 498 RX6 yX6_predictByLists wuX6_predictByLists) := gu_V mw_2572 mw_1997 mw_1998 mw_172 mw_1999
set_option maxRecDepth 20000 in
set_option maxRecDepth 20000 in
theorem gX0_costOfDirect_X6_differences : GoodIn wuX0_costOfDirect (wsV RX0 452 RX6 yX6_differences wuX6_differences) := gu_V mw_2539 mw_2540 mw_2541 mw_172 mw_2542
theorem dX0_costOfDirect_0 : decode cX0_costOfDirect 0 = .ok (.aload_n 0, 1) := by decide +kernel
theorem dX0_costOfDirect_1 : decode cX0_costOfDirect 1 = .ok (.getfield 36, 3) := by decide +kernel
theorem dX0_costOfDirect_4 : decode cX0_costOfDirect 4 = .ok (.iload_n 1, 1) := by decide +kernel
theorem dX0_costOfDirect_5 : decode cX0_costOfDirect 5 = .ok (.bipush 15, 2) := by decide +kernel
theorem dX0_costOfDirect_7 : decode cX0_costOfDirect 7 = .ok (.invokevirtual 372, 3) := by decide +kernel
theorem dX0_costOfDirect_10 : decode cX0_costOfDirect 10 = .ok (.ifCond .ne 7, 3) := by decide +kernel
theorem dX0_costOfDirect_13 : decode cX0_costOfDirect 13 = .ok (.ldc_w 435, 3) := by decide +kernel
theorem dX0_costOfDirect_16 : decode cX0_costOfDirect 16 = .ok (.ireturn, 1) := by decide +kernel
theorem dX0_costOfDirect_17 : decode cX0_costOfDirect 17 = .ok (.aload_n 0, 1) := by decide +kernel
theorem dX0_costOfDirect_18 : decode cX0_costOfDirect 18 = .ok (.getfield 43, 3) := by decide +kernel
theorem dX0_costOfDirect_21 : decode cX0_costOfDirect 21 = .ok (.aload_n 0, 1) := by decide +kernel
theorem dX0_costOfDirect_22 : decode cX0_costOfDirect 22 = .ok (.getfield 36, 3) := by decide +kernel
theorem dX0_costOfDirect_25 : decode cX0_costOfDirect 25 = .ok (.iload_n 1, 1) := by decide +kernel
theorem dX0_costOfDirect_26 : decode cX0_costOfDirect 26 = .ok (.invokevirtual 498, 3) := by decide +kernel
theorem dX0_costOfDirect_29 : decode cX0_costOfDirect 29 = .ok (.aload_n 0, 1) := by decide +kernel
theorem dX0_costOfDirect_30 : decode cX0_costOfDirect 30 = .ok (.getfield 43, 3) := by decide +kernel
theorem dX0_costOfDirect_33 : decode cX0_costOfDirect 33 = .ok (.aload_n 0, 1) := by decide +kernel
theorem dX0_costOfDirect_34 : decode cX0_costOfDirect 34 = .ok (.getfield 36, 3) := by decide +kernel
theorem dX0_costOfDirect_37 : decode cX0_costOfDirect 37 = .ok (.aload_n 0, 1) := by decide +kernel
theorem dX0_costOfDirect_38 : decode cX0_costOfDirect 38 = .ok (.getfield 69, 3) := by decide +kernel
theorem dX0_costOfDirect_41 : decode cX0_costOfDirect 41 = .ok (.iconst 0, 1) := by decide +kernel
theorem dX0_costOfDirect_42 : decode cX0_costOfDirect 42 = .ok (.aaload, 1) := by decide +kernel
theorem dX0_costOfDirect_43 : decode cX0_costOfDirect 43 = .ok (.iload_n 1, 1) := by decide +kernel
theorem dX0_costOfDirect_44 : decode cX0_costOfDirect 44 = .ok (.iconst 0, 1) := by decide +kernel
theorem dX0_costOfDirect_45 : decode cX0_costOfDirect 45 = .ok (.bipush 16, 2) := by decide +kernel
theorem dX0_costOfDirect_47 : decode cX0_costOfDirect 47 = .ok (.invokevirtual 452, 3) := by decide +kernel
theorem dX0_costOfDirect_50 : decode cX0_costOfDirect 50 = .ok (.ireturn, 1) := by decide +kernel
def FX0_costOfDirect (G : GG) (M : DD) (a : Nat) (p0 : Int32) : Option (DD × Int32) :=
  dr G 9 ((M.2 a 3)) fun b2 =>
  bnd (FX9_direct G M b2 p0 ((15 : Int32))) fun y3 =>
  if y3.2 = ((0 : Int32)) then (some (y3.1, (2147483647 : Int32))) else
  (dr G 6 ((y3.1.2 a 4)) fun b5 =>
  bnd (FX6_predictByLists G y3.1 b5 ((y3.1.2 a 3)) p0) fun y6 =>
  dr G 15 ((y6.2 a 9)) fun b7 =>
  chk (¬ (((0 : Int32)) < 0 ∨ G.2.2 b7 ≤ ((0 : Int32)).toNatClampNeg)) <|
  dr G 6 ((y6.2 a 4)) fun b8 =>
  bnd (FX6_differences G y6 b8 ((y6.2 a 3)) ((y6.2 b7 ((0 : Int32)).toNatClampNeg)) p0 ((0 : Int32)) ((16 : Int32))) fun y9 =>
  some (y9.1, y9.2))
set_option maxHeartbeats 4000000 in
set_option maxRecDepth 100000 in
theorem kX0_costOfDirect (l : Launch) (D : va_G) (ct : CT) (ad : Nat → Nat) (Z : Nat → Nat) (G : GG) (M : DD) (sz : Nat) (a : Nat) (p0 : Int32) (y : DD × Int32) (hc : a < G.1) (hk : G.2.1 a = 0) (hF : FX0_costOfDirect G M a p0 = some y) : Met l yX0_costOfDirect wuX0_costOfDirect ({ frames := 5, cells := 0, slots := 0, locals := 140 }) (va_Pc [.ref (ad a), .int p0] (kB D ct ad Z G M sz)) (va_Qi (fun (q : Int32) (_ : Unit) => q = y.2) (fun _ t => kE D ct ad G (wA ad G sz) y.1 t) (wA ad G sz)) 0 0 (wA ad G sz) := by
  refine Met.ofW (cc := cX0_costOfDirect) (maxL := 2) (ret := (some .int)) (by decide) rfl ?_
  intro p e s m args below meth c s₁ B hml hv
  obtain ⟨rfl, hsz, hP, hK, hD0, hZ, hN⟩ := hv
  have hx := B.exec
  have hb := B.bytes
  have hr := B.returns
  have hts := atoms_spec (ws := wuX0_costOfDirect) B.pre
  have hown : s.vm.findClass RX0 = some m.cls := findClass_of_methodNamed B.named
  have hlocks := B.notSynchronized
  subst hsz
  have hD := wD_self (sz := s.heap.size) hD0
  have hA9 : ∀ q, s.heap.size ≤ q → wA ad G s.heap.size q := fun q h => Or.inr h
  generalize hAe : wA ad G s.heap.size = A at hD hA9 hZ ⊢
  have hS : va_S A s.heap s.heap [] := va_S.rf
  have hl := lv_entry ([.ref (ad a), .int p0]) (n := 2) (Nat.le_of_ble_eq_true rfl)
  rw [lg_entry_eq]
  generalize (lg_sl ([.ref (ad a), .int p0]) ++ List.replicate (2 - (lg_sl ([.ref (ad a), .int p0])).length) Slot.unset).toArray = ls at hl ⊢
  have hl : lv_has ls 2 [(0, .ref (ad a)), (1, .int p0)] := hl
  unfold FX0_costOfDirect at hF
  refine lv_aload_n hx hb dX0_costOfDirect_0 rfl (lv_at hl 0 rfl) ?_
  refine va_get (D := D) (ci := 0) (v := va_re ad (M.2 a 3)) (C := RX0) (T := TX0) (N := 21) hx hb hts (mus hf_X0) hown hK hP a (wld_o ct ad G M hc hk (by decide)) rfl 3 (by decide) (hts (.fieldLink RX0 36 "VideoSuite$Coder" "work" "LVideoSuite$Work;") (mu mw_817)) (fun _ h9 => h9) rfl dX0_costOfDirect_1 ?_
  refine lv_iload_n hx hb dX0_costOfDirect_4 rfl (lv_at hl 1 rfl) ?_
  refine lv_bipush (v := (15 : Int32)) hx hb dX0_costOfDirect_5 (by decide) ?_
  obtain ⟨b2, ho2, hc2, hk2, hF⟩ := dr_some hF
  refine W_st (st' := [.int (15 : Int32), .int p0, .ref (ad b2)]) (by rw [va_some ho2]) ?_
  obtain ⟨y3, hy3, hF⟩ := bnd_some hF
  have hf9 := wA_in hD hA9 hS
  refine va_calli (va_runV (As := [.int p0, .int (15 : Int32)]) (rest := []) ⟨hx, hb, hml, hown, hts⟩ (kX9_direct l D ct ad Z G M s.heap.size b2 p0 ((15 : Int32)) y3 hc2 hk2 hy3) (cwV 2 hts gX0_costOfDirect_X9_direct rfl rfl rfl (by decide +kernel) ⟨Nat.le_of_ble_eq_true rfl, Nat.le_of_ble_eq_true rfl⟩) ⟨fun a U g mk q => by obtain ⟨q0, q1, qP, qK, qD, qZ, qN⟩ := q; exact ⟨q0, q1, qP, va_K.moved (u := U) (U := U.calling g mk a) (Vm.Alike.refl U.vm) qK, qD, sF.moved (u := U) (U := U.calling g mk a) (Vm.Alike.refl U.vm) qZ, nF.same rfl qN⟩, va_recv hK hP (ci := 9) (q0 := b2) rfl (wld_o ct ad G M hc2 hk2 (by decide)), fun U hU hW => ⟨rfl, by rw [hU], by rw [hU]; exact hP, va_K.moved hW.alike hK, hD.weaken (fun _ _ _ _ => trivial), by rw [hU]; exact ((hZ.kept hS.2.1).narrow hf9).moved hW.alike, hN.warm hW⟩⟩ rfl rfl hl.1 rfl (lv_room (Nat.le_of_ble_eq_true rfl)) dX0_costOfDirect_7 ⟨(Nat.zero_le _), (Nat.zero_le _)⟩) hS (fun q _ h => hf9 q h) hf9 (fun r u t H locs ht hvm hw hB hz1 hk1 hS => ?_)
  obtain ⟨hP, hK9, hD9⟩ := hB
  rw [ht] at hP
  try dsimp only at hw
  subst hw
  have hD := hD9.weaken (fun _ q _ h => hf9 q.1 h)
  refine lv_if_ne (tgt := 17) hx hb dX0_costOfDirect_10 (by decide) (fun c4 => ?_) (fun c4 => ?_)
  · rw [if_neg c4] at hF
    refine lv_aload_n hx hb dX0_costOfDirect_17 rfl (lv_at hl 0 rfl) ?_
    refine va_get (D := D) (ci := 0) (v := va_re ad (y3.1.2 a 4)) (C := RX0) (T := TX0) (N := 21) hx hb hts (mus hf_X0) hown hK hP a (wld_o ct ad G y3.1 hc hk (by decide)) rfl 4 (by decide) (hts (.fieldLink RX0 43 "VideoSuite$Coder" "samples" "LVideoSuite$Samples;") (mu mw_818)) (fun _ h9 => h9) rfl dX0_costOfDirect_18 ?_
    refine lv_aload_n hx hb dX0_costOfDirect_21 rfl (lv_at hl 0 rfl) ?_
    refine va_get (D := D) (ci := 0) (v := va_re ad (y3.1.2 a 3)) (C := RX0) (T := TX0) (N := 21) hx hb hts (mus hf_X0) hown hK hP a (wld_o ct ad G y3.1 hc hk (by decide)) rfl 3 (by decide) (hts (.fieldLink RX0 36 "VideoSuite$Coder" "work" "LVideoSuite$Work;") (mu mw_817)) (fun _ h9 => h9) rfl dX0_costOfDirect_22 ?_
    refine lv_iload_n hx hb dX0_costOfDirect_25 rfl (lv_at hl 1 rfl) ?_
    obtain ⟨b5, ho5, hc5, hk5, hF⟩ := dr_some hF
    refine W_st (st' := [.int p0, va_re ad (y3.1.2 a 3), .ref (ad b5)]) (by rw [va_some ho5]) ?_
    obtain ⟨y6, hy6, hF⟩ := bnd_some hF
    have hf9 := wA_in hD hA9 hS
    refine va_callv (va_runV (As := [va_re ad (y3.1.2 a 3), .int p0]) (rest := []) ⟨hx, hb, hml, hown, hts⟩ (kX6_predictByLists l D ct ad Z G y3.1 H.size b5 ((y3.1.2 a 3)) p0 y6 hc5 hk5 hy6) (cwV 2 hts gX0_costOfDirect_X6_predictByLists rfl rfl rfl (by decide +kernel) ⟨Nat.le_of_ble_eq_true rfl, Nat.le_of_ble_eq_true rfl⟩) ⟨fun a U g mk q => by obtain ⟨q0, q1, qP, qK, qD, qZ, qN⟩ := q; exact ⟨q0, q1, qP, va_K.moved (u := U) (U := U.calling g mk a) (Vm.Alike.refl U.vm) qK, qD, sF.moved (u := U) (U := U.calling g mk a) (Vm.Alike.refl U.vm) qZ, nF.same rfl qN⟩, va_recv hK hP (ci := 6) (q0 := b5) rfl (wld_o ct ad G y3.1 hc5 hk5 (by decide)), fun U hU hW => ⟨rfl, by rw [hU], by rw [hU]; exact hP, va_K.moved hW.alike hK, hD.weaken (fun _ _ _ _ => trivial), by rw [hU]; exact ((hZ.kept hS.2.1).narrow hf9).moved hW.alike, hN.warm hW⟩⟩ rfl rfl hl.1 rfl (lv_room (Nat.le_of_ble_eq_true rfl)) dX0_costOfDirect_26 ⟨(Nat.zero_le _), (Nat.zero_le _)⟩) hS (fun q _ h => hf9 q h) hf9 (fun u t H locs ht hvm hw hB hz1 hk1 hS => ?_)
    obtain ⟨hP, hK9, hD9⟩ := hB
    rw [ht] at hP
    have hD := hD9.weaken (fun _ q _ h => hf9 q.1 h)
    refine lv_aload_n hx hb dX0_costOfDirect_29 rfl (lv_at hl 0 rfl) ?_
    refine va_get (D := D) (ci := 0) (v := va_re ad (y6.2 a 4)) (C := RX0) (T := TX0) (N := 21) hx hb hts (mus hf_X0) hown hK hP a (wld_o ct ad G y6 hc hk (by decide)) rfl 4 (by decide) (hts (.fieldLink RX0 43 "VideoSuite$Coder" "samples" "LVideoSuite$Samples;") (mu mw_818)) (fun _ h9 => h9) rfl dX0_costOfDirect_30 ?_
    refine lv_aload_n hx hb dX0_costOfDirect_33 rfl (lv_at hl 0 rfl) ?_
    refine va_get (D := D) (ci := 0) (v := va_re ad (y6.2 a 3)) (C := RX0) (T := TX0) (N := 21) hx hb hts (mus hf_X0) hown hK hP a (wld_o ct ad G y6 hc hk (by decide)) rfl 3 (by decide) (hts (.fieldLink RX0 36 "VideoSuite$Coder" "work" "LVideoSuite$Work;") (mu mw_817)) (fun _ h9 => h9) rfl dX0_costOfDirect_34 ?_
    refine lv_aload_n hx hb dX0_costOfDirect_37 rfl (lv_at hl 0 rfl) ?_
    refine va_get (D := D) (ci := 0) (v := va_re ad (y6.2 a 9)) (C := RX0) (T := TX0) (N := 21) hx hb hts (mus hf_X0) hown hK hP a (wld_o ct ad G y6 hc hk (by decide)) rfl 9 (by decide) (hts (.fieldLink RX0 69 "VideoSuite$Coder" "source" "[[I") (mu mw_823)) (fun _ h9 => h9) rfl dX0_costOfDirect_38 ?_
    refine lv_iconst (v := (0 : Int32)) hx hb dX0_costOfDirect_41 (by decide) ?_
    obtain ⟨b7, ho7, hc7, hk7, hF⟩ := dr_some hF
    refine W_st (st' := [.int (0 : Int32), .ref (ad b7), va_re ad (y6.2 a 3), va_re ad (y6.2 a 4)]) (by rw [va_some ho7]) ?_
    obtain ⟨hvc, hF⟩ := chk_some hF
    refine ld_g hx hb hK hP hc7 hk7 hvc dX0_costOfDirect_42 ?_
    refine lv_iload_n hx hb dX0_costOfDirect_43 rfl (lv_at hl 1 rfl) ?_
    refine lv_iconst (v := (0 : Int32)) hx hb dX0_costOfDirect_44 (by decide) ?_
    refine lv_bipush (v := (16 : Int32)) hx hb dX0_costOfDirect_45 (by decide) ?_
    obtain ⟨b8, ho8, hc8, hk8, hF⟩ := dr_some hF
    refine W_st (st' := [.int (16 : Int32), .int (0 : Int32), .int p0, va_re ad (y6.2 b7 ((0 : Int32)).toNatClampNeg), va_re ad (y6.2 a 3), .ref (ad b8)]) (by rw [va_some ho8]) ?_
    obtain ⟨y9, hy9, hF⟩ := bnd_some hF
    have hf9 := wA_in hD hA9 hS
    refine va_calli (va_runV (As := [va_re ad (y6.2 a 3), va_re ad (y6.2 b7 ((0 : Int32)).toNatClampNeg), .int p0, .int (0 : Int32), .int (16 : Int32)]) (rest := []) ⟨hx, hb, hml, hown, hts⟩ (kX6_differences l D ct ad Z G y6 H.size b8 ((y6.2 a 3)) ((y6.2 b7 ((0 : Int32)).toNatClampNeg)) p0 ((0 : Int32)) ((16 : Int32)) y9 hc8 hk8 hy9) (cwV 5 hts gX0_costOfDirect_X6_differences rfl rfl rfl (by decide +kernel) ⟨Nat.le_of_ble_eq_true rfl, Nat.le_of_ble_eq_true rfl⟩) ⟨fun a U g mk q => by obtain ⟨q0, q1, qP, qK, qD, qZ, qN⟩ := q; exact ⟨q0, q1, qP, va_K.moved (u := U) (U := U.calling g mk a) (Vm.Alike.refl U.vm) qK, qD, sF.moved (u := U) (U := U.calling g mk a) (Vm.Alike.refl U.vm) qZ, nF.same rfl qN⟩, va_recv hK hP (ci := 6) (q0 := b8) rfl (wld_o ct ad G y6 hc8 hk8 (by decide)), fun U hU hW => ⟨rfl, by rw [hU], by rw [hU]; exact hP, va_K.moved hW.alike hK, hD.weaken (fun _ _ _ _ => trivial), by rw [hU]; exact ((hZ.kept hS.2.1).narrow hf9).moved hW.alike, hN.warm hW⟩⟩ rfl rfl hl.1 rfl (lv_room (Nat.le_of_ble_eq_true rfl)) dX0_costOfDirect_47 ⟨(Nat.zero_le _), (Nat.zero_le _)⟩) hS (fun q _ h => hf9 q h) hf9 (fun r u t H locs ht hvm hw hB hz1 hk1 hS => ?_)
    obtain ⟨hP, hK9, hD9⟩ := hB
    rw [ht] at hP
    try dsimp only at hw
    subst hw
    have hD := hD9.weaken (fun _ q _ h => hf9 q.1 h)
    obtain rfl := Option.some.inj hF
    exact W.iret (v := y9.2) hx hb hr (fun t ht hW => ⟨⟨_, (), rfl, rfl, ⟨by rw [ht]; exact hP, va_K.moved hW.alike hK, hD⟩⟩, hS.F ht⟩) hS.2.2 dX0_costOfDirect_50
  · rw [if_pos c4] at hF
    refine lv_ldcw (v := (2147483647 : Int32)) hx hb hown (hts (.constant RX0 435 (2147483647 : Int32)) (mu mw_2529)) dX0_costOfDirect_13 ?_
    obtain rfl := Option.some.inj hF
    exact W.iret (v := (2147483647 : Int32)) hx hb hr (fun t ht hW => ⟨⟨_, (), rfl, rfl, ⟨by rw [ht]; exact hP, va_K.moved hW.alike hK, hD⟩⟩, hS.F ht⟩) hS.2.2 dX0_costOfDirect_16
