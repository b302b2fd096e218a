theorem dX7_nextOut_0 : decode cX7_nextOut 0 = .ok (.aconst_null, 1) := by decide +kernel
theorem dX7_nextOut_1 : decode cX7_nextOut 1 = .ok (.astore_n 1, 1) := by decide +kernel
theorem dX7_nextOut_2 : decode cX7_nextOut 2 = .ok (.iconst 0, 1) := by decide +kernel
theorem dX7_nextOut_3 : decode cX7_nextOut 3 = .ok (.istore_n 2, 1) := by decide +kernel
theorem dX7_nextOut_4 : decode cX7_nextOut 4 = .ok (.iload_n 2, 1) := by decide +kernel
theorem dX7_nextOut_5 : decode cX7_nextOut 5 = .ok (.aload_n 0, 1) := by decide +kernel
theorem dX7_nextOut_6 : decode cX7_nextOut 6 = .ok (.getfield 29, 3) := by decide +kernel
theorem dX7_nextOut_9 : decode cX7_nextOut 9 = .ok (.if_icmp .ge 48, 3) := by decide +kernel
theorem dX7_nextOut_12 : decode cX7_nextOut 12 = .ok (.aload_n 0, 1) := by decide +kernel
theorem dX7_nextOut_13 : decode cX7_nextOut 13 = .ok (.getfield 17, 3) := by decide +kernel
theorem dX7_nextOut_16 : decode cX7_nextOut 16 = .ok (.iload_n 2, 1) := by decide +kernel
theorem dX7_nextOut_17 : decode cX7_nextOut 17 = .ok (.aaload, 1) := by decide +kernel
theorem dX7_nextOut_18 : decode cX7_nextOut 18 = .ok (.getfield 164, 3) := by decide +kernel
theorem dX7_nextOut_21 : decode cX7_nextOut 21 = .ok (.ifCond .eq 30, 3) := by decide +kernel
theorem dX7_nextOut_24 : decode cX7_nextOut 24 = .ok (.aload_n 1, 1) := by decide +kernel
theorem dX7_nextOut_25 : decode cX7_nextOut 25 = .ok (.ifnull 19, 3) := by decide +kernel
theorem dX7_nextOut_28 : decode cX7_nextOut 28 = .ok (.aload_n 0, 1) := by decide +kernel
theorem dX7_nextOut_29 : decode cX7_nextOut 29 = .ok (.getfield 17, 3) := by decide +kernel
theorem dX7_nextOut_32 : decode cX7_nextOut 32 = .ok (.iload_n 2, 1) := by decide +kernel
theorem dX7_nextOut_33 : decode cX7_nextOut 33 = .ok (.aaload, 1) := by decide +kernel
theorem dX7_nextOut_34 : decode cX7_nextOut 34 = .ok (.getfield 126, 3) := by decide +kernel
theorem dX7_nextOut_37 : decode cX7_nextOut 37 = .ok (.aload_n 1, 1) := by decide +kernel
theorem dX7_nextOut_38 : decode cX7_nextOut 38 = .ok (.getfield 126, 3) := by decide +kernel
theorem dX7_nextOut_41 : decode cX7_nextOut 41 = .ok (.if_icmp .ge 10, 3) := by decide +kernel
theorem dX7_nextOut_44 : decode cX7_nextOut 44 = .ok (.aload_n 0, 1) := by decide +kernel
theorem dX7_nextOut_45 : decode cX7_nextOut 45 = .ok (.getfield 17, 3) := by decide +kernel
theorem dX7_nextOut_48 : decode cX7_nextOut 48 = .ok (.iload_n 2, 1) := by decide +kernel
theorem dX7_nextOut_49 : decode cX7_nextOut 49 = .ok (.aaload, 1) := by decide +kernel
theorem dX7_nextOut_50 : decode cX7_nextOut 50 = .ok (.astore_n 1, 1) := by decide +kernel
theorem dX7_nextOut_51 : decode cX7_nextOut 51 = .ok (.iinc 2 1, 3) := by decide +kernel
theorem dX7_nextOut_54 : decode cX7_nextOut 54 = .ok (.goto (-50), 3) := by decide +kernel
theorem dX7_nextOut_57 : decode cX7_nextOut 57 = .ok (.aload_n 1, 1) := by decide +kernel
theorem dX7_nextOut_58 : decode cX7_nextOut 58 = .ok (.areturn, 1) := by decide +kernel
def FX7_nextOut (G : GG) (M : DD) (a : Nat)  : Option (DD × Option Nat) :=
  bnd (itr (fun (s2 : Option Nat × Int32) => ((ltt (M.1 a 3) fun x5 =>
  if x5 ≤ s2.2 then (some (.inr (s2.1, s2.2))) else
  (dr G 14 ((M.2 a 2)) fun b7 =>
  chk (¬ (s2.2 < 0 ∨ G.2.2 b7 ≤ s2.2.toNatClampNeg)) <|
  dr G 4 ((M.2 b7 s2.2.toNatClampNeg)) fun b8 =>
  ltt (M.1 b8 12) fun x9 =>
  bnd (if x9 = ((0 : Int32)) then (some (s2.1)) else
  (bnd (if s2.1 = none then (chk (¬ (s2.2 < 0 ∨ G.2.2 b7 ≤ s2.2.toNatClampNeg)) <|
  some ((M.2 b7 s2.2.toNatClampNeg))) else
  (chk (¬ (s2.2 < 0 ∨ G.2.2 b7 ≤ s2.2.toNatClampNeg)) <|
  ltt (M.1 b8 9) fun x15 =>
  dr G 4 s2.1 fun b16 =>
  ltt (M.1 b16 9) fun x17 =>
  bnd (if x17 ≤ x15 then (some (s2.1)) else
  (chk (¬ (s2.2 < 0 ∨ G.2.2 b7 ≤ s2.2.toNatClampNeg)) <|
  some ((M.2 b7 s2.2.toNatClampNeg)))) fun (y18 : Option Nat) =>
  some (y18))) fun (y13 : Option Nat) =>
  some (y13))) fun (y10 : Option Nat) =>
  ltt (s2.2 + (1 : Int32)) fun x11 =>
  some (.inl (y10, x11)))) : Option ((Option Nat × Int32) ⊕ (Option Nat × Int32)))) 1000000 (none, (0 : Int32))) fun (y1 : Option Nat × Int32) =>
  some (M, y1.1)
set_option maxHeartbeats 4000000 in
set_option maxRecDepth 100000 in
theorem kX7_nextOut (l : Launch) (D : va_G) (ct : CT) (ad : Nat → Nat) (Z : Nat → Nat) (G : GG) (M : DD) (sz : Nat) (a : Nat)  (y : DD × Option Nat) (hc : a < G.1) (hk : G.2.1 a = 7) (hF : FX7_nextOut G M a  = some y) : Met l yX7_nextOut wuX7_nextOut ({ frames := 0, cells := 0, slots := 0, locals := 0 }) (va_Pc [.ref (ad a)] (kB D ct ad Z G M sz)) (va_Qe ad (fun (q : Option Nat) (_ : Unit) => q = y.2) (fun _ t => kE D ct ad G (wA ad G sz) y.1 t) (wA ad G sz)) 0 0 (wA ad G sz) := by
  refine Met.ofW (cc := cX7_nextOut) (maxL := 3) (ret := (some (.object "VideoSuite$Picture"))) (by decide) rfl ?_
  intro p e s m args below meth c s₁ B hml hv
  obtain ⟨rfl, hsz, hP, hK, hD0, hZ, hN⟩ := hv
  have hx := B.exec
  have hb := B.bytes
  have hr := B.returns
  have hts := atoms_spec (ws := wuX7_nextOut) B.pre
  have hown : s.vm.findClass RX7 = some m.cls := findClass_of_methodNamed B.named
  have hlocks := B.notSynchronized
  subst hsz
  have hD := wD_self (sz := s.heap.size) hD0
  have hA9 : ∀ q, s.heap.size ≤ q → wA ad G s.heap.size q := fun q h => Or.inr h
  generalize hAe : wA ad G s.heap.size = A at hD hA9 hZ ⊢
  have hS : va_S A s.heap s.heap [] := va_S.rf
  have hl := lv_entry ([.ref (ad a)]) (n := 3) (Nat.le_of_ble_eq_true rfl)
  rw [lg_entry_eq]
  generalize (lg_sl ([.ref (ad a)]) ++ List.replicate (3 - (lg_sl ([.ref (ad a)])).length) Slot.unset).toArray = ls at hl ⊢
  have hl : lv_has ls 3 [(0, .ref (ad a))] := hl
  unfold FX7_nextOut at hF
  refine lv_nullq (ad := ad) hx hb dX7_nextOut_0 ?_
  refine lv_astoreq_n (lv' := [(1, va_re ad none), (0, .ref (ad a))]) hx hb dX7_nextOut_1 rfl hl (by decide) rfl (fun ls hl => ?_)
  refine lv_iconst (v := (0 : Int32)) hx hb dX7_nextOut_2 (by decide) ?_
  refine lv_istore_n (lv' := [(2, .int (0 : Int32)), (1, va_re ad none), (0, .ref (ad a))]) hx hb dX7_nextOut_3 rfl hl (by decide) (by generalize none = o9; cases o9 <;> rfl) (fun ls hl => ?_)
  obtain ⟨y1, hy1, hF⟩ := bnd_some hF
  have K1 : ∀ (H : Heap) (locs : List Loc) (ls : Array Slot), va_P D classes (wld ct ad G M) H → va_D A (wld ct ad G M) → va_S A s.heap H locs → lv_has ls 3 [(2, .int y1.2), (1, va_re ad y1.1), (0, .ref (ad a))] → W p l e (headSpec wuX7_nextOut ({ frames := 0, cells := 0, slots := 0, locals := 0 })).room s m ([.ref (ad a)] : List Value).toArray below meth c H locs 0 0 (MQ below (va_Qe ad (fun (q : Option Nat) (_ : Unit) => q = y.2) (fun _ t => kE D ct ad G A y.1 t) A) ([.ref (ad a)] : List Value).toArray s 0 0 A) (F0 m 57 ls []) := by
    intro H locs ls hP hD hS hl
    refine lv_aloadq_n hx hb dX7_nextOut_57 rfl (lv_at hl 1 rfl) ?_
    obtain rfl := Option.some.inj hF
    exact W.aret (v := va_re ad y1.1) hx hb hr (Or.inl ⟨_, rfl⟩) (va_re_or ad y1.1) (fun t ht hW => ⟨⟨y1.1, (), rfl, rfl, ⟨by rw [ht]; exact hP, va_K.moved hW.alike hK, hD⟩⟩, hS.F ht⟩) hS.2.2 dX7_nextOut_58
  clear hF
  refine itr_rule (fun (s2 : Option Nat × Int32) => ∀ (H : Heap) (locs : List Loc) (ls : Array Slot), va_P D classes (wld ct ad G M) H → va_D A (wld ct ad G M) → va_S A s.heap H locs → lv_has ls 3 [(2, .int s2.2), (1, va_re ad s2.1), (0, .ref (ad a))] → W p l e (headSpec wuX7_nextOut ({ frames := 0, cells := 0, slots := 0, locals := 0 })).room s m ([.ref (ad a)] : List Value).toArray below meth c H locs 0 0 (MQ below (va_Qe ad (fun (q : Option Nat) (_ : Unit) => q = y.2) (fun _ t => kE D ct ad G A y.1 t) A) ([.ref (ad a)] : List Value).toArray s 0 0 A) (F0 m 4 ls [])) ?_ _ _ hy1 _ _ _ hP hD hS (lv_sub hl [0, 1, 2] rfl)
  rintro s2 ⟨z4, hF, hwz4⟩ H locs ls hP hD hS hl
  try dsimp only at hF
  refine lv_iload_n hx hb dX7_nextOut_4 rfl (lv_at hl 0 rfl) ?_
  refine lv_aload_n hx hb dX7_nextOut_5 rfl (lv_at hl 2 rfl) ?_
  refine va_get (D := D) (ci := 7) (v := .int (M.1 a 3)) (C := RX7) (T := TX7) (N := 17) hx hb hts (mus hf_X7) hown hK hP a (wld_o ct ad G M hc hk (by decide)) rfl 3 (by decide) (hts (.fieldLink RX7 29 "VideoSuite$Store" "count" "I") (mu mw_358)) (fun _ h9 => h9) rfl dX7_nextOut_6 ?_
  obtain ⟨x5, ex5, hF⟩ := ltt_some hF
  refine lv_topi (fun zx5 ezx5 => ?_)
  obtain rfl : x5 = zx5 := ex5.trans ezx5.symm
  refine lv_icmp_ge (tgt := 57) hx hb dX7_nextOut_9 (by decide) (fun c6 => ?_) (fun c6 => ?_)
  · rw [if_pos c6] at hF
    obtain rfl := Option.some.inj hF
    subst hwz4
    exact K1 _ _ _ hP hD hS (lv_sub hl [0, 1, 2] rfl)
  · rw [if_neg c6] at hF
    refine lv_aload_n hx hb dX7_nextOut_12 rfl (lv_at hl 2 rfl) ?_
    refine va_get (D := D) (ci := 7) (v := va_re ad (M.2 a 2)) (C := RX7) (T := TX7) (N := 17) hx hb hts (mus hf_X7) hown hK hP a (wld_o ct ad G M hc hk (by decide)) rfl 2 (by decide) (hts (.fieldLink RX7 17 "VideoSuite$Store" "kept" "[LVideoSuite$Picture;") (mu mw_357)) (fun _ h9 => h9) rfl dX7_nextOut_13 ?_
    refine lv_iload_n hx hb dX7_nextOut_16 rfl (lv_at hl 0 rfl) ?_
    obtain ⟨b7, ho7, hc7, hk7, hF⟩ := dr_some hF
    refine W_st (st' := [.int s2.2, .ref (ad b7)]) (by rw [va_some ho7]) ?_
    obtain ⟨hvc, hF⟩ := chk_some hF
    refine ld_q hx hb hK hP hc7 hk7 hvc dX7_nextOut_17 ?_
    obtain ⟨b8, ho8, hc8, hk8, hF⟩ := dr_some hF
    refine W_st (st' := [.ref (ad b8)]) (by rw [va_some ho8]) ?_
    refine va_get (D := D) (ci := 4) (v := .int (M.1 b8 12)) (C := RX4) (T := TX4) (N := 18) hx hb hts (mus hf_X4) hown hK hP b8 (wld_o ct ad G M hc8 hk8 (by decide)) rfl 12 (by decide) (hts (.fieldLink RX7 164 "VideoSuite$Picture" "isWaiting" "Z") (mu mw_1466)) (fun _ h9 => h9) rfl dX7_nextOut_18 ?_
    obtain ⟨x9, ex9, hF⟩ := ltt_some hF
    refine lv_topi (fun zx9 ezx9 => ?_)
    obtain rfl : x9 = zx9 := ex9.trans ezx9.symm
    obtain ⟨y10, hy10, hF⟩ := bnd_some hF
    have J10 : ∀ (H : Heap) (locs : List Loc) (ls : Array Slot), va_P D classes (wld ct ad G M) H → va_D A (wld ct ad G M) → va_S A s.heap H locs → lv_has ls 3 [(2, .int s2.2), (1, va_re ad y10), (0, .ref (ad a))] → W p l e (headSpec wuX7_nextOut ({ frames := 0, cells := 0, slots := 0, locals := 0 })).room s m ([.ref (ad a)] : List Value).toArray below meth c H locs 0 0 (MQ below (va_Qe ad (fun (q : Option Nat) (_ : Unit) => q = y.2) (fun _ t => kE D ct ad G A y.1 t) A) ([.ref (ad a)] : List Value).toArray s 0 0 A) (F0 m 51 ls []) := by
      intro H locs ls hP hD hS hl
      obtain ⟨x11, ex11, hF⟩ := ltt_some hF
      refine lv_iinc (v := x11) (lv' := [(2, .int x11), (1, va_re ad y10), (0, .ref (ad a))]) hx hb dX7_nextOut_51 hl (k := 0) rfl (by rw [ex11]; rfl) (by decide) (by generalize y10 = o9; cases o9 <;> rfl) (fun ls hl => ?_)
      refine lv_goto (tgt := 4) hx hb dX7_nextOut_54 (by decide) ?_
      obtain rfl := Option.some.inj hF
      exact hwz4 _ _ _ hP hD hS (lv_sub hl [0, 1, 2] rfl)
    clear hF
    have hF := hy10
    clear hy10
    refine lv_if_eq (tgt := 51) hx hb dX7_nextOut_21 (by decide) (fun c12 => ?_) (fun c12 => ?_)
    · rw [if_pos c12] at hF
      obtain rfl := Option.some.inj hF
      exact J10 _ _ _ hP hD hS (lv_sub hl [0, 1, 2] rfl)
    · rw [if_neg c12] at hF
      refine lv_aloadq_n hx hb dX7_nextOut_24 rfl (lv_at hl 1 rfl) ?_
      obtain ⟨y13, hy13, hF⟩ := bnd_some hF
      have J13 : ∀ (H : Heap) (locs : List Loc) (ls : Array Slot), va_P D classes (wld ct ad G M) H → va_D A (wld ct ad G M) → va_S A s.heap H locs → lv_has ls 3 [(2, .int s2.2), (1, va_re ad y13), (0, .ref (ad a))] → W p l e (headSpec wuX7_nextOut ({ frames := 0, cells := 0, slots := 0, locals := 0 })).room s m ([.ref (ad a)] : List Value).toArray below meth c H locs 0 0 (MQ below (va_Qe ad (fun (q : Option Nat) (_ : Unit) => q = y.2) (fun _ t => kE D ct ad G A y.1 t) A) ([.ref (ad a)] : List Value).toArray s 0 0 A) (F0 m 51 ls []) := by
        intro H locs ls hP hD hS hl
        obtain rfl := Option.some.inj hF
        exact J10 _ _ _ hP hD hS (lv_sub hl [0, 1, 2] rfl)
      clear hF
      have hF := hy13
      clear hy13
      refine lv_ifnullq (tgt := 44) hx hb dX7_nextOut_25 (by decide) (fun c14 => ?_) (fun c14 => ?_)
      · rw [if_pos c14] at hF
        refine lv_aload_n hx hb dX7_nextOut_44 rfl (lv_at hl 2 rfl) ?_
        refine va_get (D := D) (ci := 7) (v := va_re ad (M.2 a 2)) (C := RX7) (T := TX7) (N := 17) hx hb hts (mus hf_X7) hown hK hP a (wld_o ct ad G M hc hk (by decide)) rfl 2 (by decide) (hts (.fieldLink RX7 17 "VideoSuite$Store" "kept" "[LVideoSuite$Picture;") (mu mw_357)) (fun _ h9 => h9) rfl dX7_nextOut_45 ?_
        refine lv_iload_n hx hb dX7_nextOut_48 rfl (lv_at hl 0 rfl) ?_
        refine W_st (st' := [.int s2.2, .ref (ad b7)]) (by rw [va_some ho7]) ?_
        obtain ⟨hvc, hF⟩ := chk_some hF
        refine ld_q hx hb hK hP hc7 hk7 hvc dX7_nextOut_49 ?_
        refine lv_astoreq_n (lv' := [(1, va_re ad (M.2 b7 s2.2.toNatClampNeg)), (2, .int s2.2), (0, .ref (ad a))]) hx hb dX7_nextOut_50 rfl hl (by decide) rfl (fun ls hl => ?_)
        obtain rfl := Option.some.inj hF
        exact J13 _ _ _ hP hD hS (lv_sub hl [1, 0, 2] rfl)
      · rw [if_neg c14] at hF
        refine lv_aload_n hx hb dX7_nextOut_28 rfl (lv_at hl 2 rfl) ?_
        refine va_get (D := D) (ci := 7) (v := va_re ad (M.2 a 2)) (C := RX7) (T := TX7) (N := 17) hx hb hts (mus hf_X7) hown hK hP a (wld_o ct ad G M hc hk (by decide)) rfl 2 (by decide) (hts (.fieldLink RX7 17 "VideoSuite$Store" "kept" "[LVideoSuite$Picture;") (mu mw_357)) (fun _ h9 => h9) rfl dX7_nextOut_29 ?_
        refine lv_iload_n hx hb dX7_nextOut_32 rfl (lv_at hl 0 rfl) ?_
        refine W_st (st' := [.int s2.2, .ref (ad b7)]) (by rw [va_some ho7]) ?_
        obtain ⟨hvc, hF⟩ := chk_some hF
        refine ld_q hx hb hK hP hc7 hk7 hvc dX7_nextOut_33 ?_
        refine W_st (st' := [.ref (ad b8)]) (by rw [va_some ho8]) ?_
        refine va_get (D := D) (ci := 4) (v := .int (M.1 b8 9)) (C := RX4) (T := TX4) (N := 18) hx hb hts (mus hf_X4) hown hK hP b8 (wld_o ct ad G M hc8 hk8 (by decide)) rfl 9 (by decide) (hts (.fieldLink RX7 126 "VideoSuite$Picture" "order" "I") (mu mw_1455)) (fun _ h9 => h9) rfl dX7_nextOut_34 ?_
        obtain ⟨x15, ex15, hF⟩ := ltt_some hF
        refine lv_topi (fun zx15 ezx15 => ?_)
        obtain rfl : x15 = zx15 := ex15.trans ezx15.symm
        refine lv_aloadq_n hx hb dX7_nextOut_37 rfl (lv_at hl 1 rfl) ?_
        obtain ⟨b16, ho16, hc16, hk16, hF⟩ := dr_some hF
        refine W_st (st' := [.ref (ad b16), .int x15]) (by rw [va_some ho16]) ?_
        refine va_get (D := D) (ci := 4) (v := .int (M.1 b16 9)) (C := RX4) (T := TX4) (N := 18) hx hb hts (mus hf_X4) hown hK hP b16 (wld_o ct ad G M hc16 hk16 (by decide)) rfl 9 (by decide) (hts (.fieldLink RX7 126 "VideoSuite$Picture" "order" "I") (mu mw_1455)) (fun _ h9 => h9) rfl dX7_nextOut_38 ?_
        obtain ⟨x17, ex17, hF⟩ := ltt_some hF
        refine lv_topi (fun zx17 ezx17 => ?_)
        obtain rfl : x17 = zx17 := ex17.trans ezx17.symm
        obtain ⟨y18, hy18, hF⟩ := bnd_some hF
        have J18 : ∀ (H : Heap) (locs : List Loc) (ls : Array Slot), va_P D classes (wld ct ad G M) H → va_D A (wld ct ad G M) → va_S A s.heap H locs → lv_has ls 3 [(2, .int s2.2), (1, va_re ad y18), (0, .ref (ad a))] → W p l e (headSpec wuX7_nextOut ({ frames := 0, cells := 0, slots := 0, locals := 0 })).room s m ([.ref (ad a)] : List Value).toArray below meth c H locs 0 0 (MQ below (va_Qe ad (fun (q : Option Nat) (_ : Unit) => q = y.2) (fun _ t => kE D ct ad G A y.1 t) A) ([.ref (ad a)] : List Value).toArray s 0 0 A) (F0 m 51 ls []) := by
          intro H locs ls hP hD hS hl
          obtain rfl := Option.some.inj hF
          exact J13 _ _ _ hP hD hS (lv_sub hl [0, 1, 2] rfl)
        clear hF
        have hF := hy18
        clear hy18
        refine lv_icmp_ge (tgt := 51) hx hb dX7_nextOut_41 (by decide) (fun c19 => ?_) (fun c19 => ?_)
        · rw [if_pos c19] at hF
          obtain rfl := Option.some.inj hF
          exact J18 _ _ _ hP hD hS (lv_sub hl [0, 1, 2] rfl)
        · rw [if_neg c19] at hF
          refine lv_aload_n hx hb dX7_nextOut_44 rfl (lv_at hl 2 rfl) ?_
          refine va_get (D := D) (ci := 7) (v := va_re ad (M.2 a 2)) (C := RX7) (T := TX7) (N := 17) hx hb hts (mus hf_X7) hown hK hP a (wld_o ct ad G M hc hk (by decide)) rfl 2 (by decide) (hts (.fieldLink RX7 17 "VideoSuite$Store" "kept" "[LVideoSuite$Picture;") (mu mw_357)) (fun _ h9 => h9) rfl dX7_nextOut_45 ?_
          refine lv_iload_n hx hb dX7_nextOut_48 rfl (lv_at hl 0 rfl) ?_
          refine W_st (st' := [.int s2.2, .ref (ad b7)]) (by rw [va_some ho7]) ?_
          obtain ⟨hvc, hF⟩ := chk_some hF
          refine ld_q hx hb hK hP hc7 hk7 hvc dX7_nextOut_49 ?_
          refine lv_astoreq_n (lv' := [(1, va_re ad (M.2 b7 s2.2.toNatClampNeg)), (2, .int s2.2), (0, .ref (ad a))]) hx hb dX7_nextOut_50 rfl hl (by decide) rfl (fun ls hl => ?_)
          obtain rfl := Option.some.inj hF
          exact J18 _ _ _ hP hD hS (lv_sub hl [1, 0, 2] rfl)
theorem dX7_noteFacts_0 : decode cX7_noteFacts 0 = .ok (.aload_n 0, 1) := by decide +kernel
theorem dX7_noteFacts_1 : decode cX7_noteFacts 1 = .ok (.getfield 25, 3) := by decide +kernel
theorem dX7_noteFacts_4 : decode cX7_noteFacts 4 = .ok (.iload_n 2, 1) := by decide +kernel
theorem dX7_noteFacts_5 : decode cX7_noteFacts 5 = .ok (.bipush 16, 2) := by decide +kernel
theorem dX7_noteFacts_7 : decode cX7_noteFacts 7 = .ok (.aload_n 1, 1) := by decide +kernel
theorem dX7_noteFacts_8 : decode cX7_noteFacts 8 = .ok (.getfield 238, 3) := by decide +kernel
theorem dX7_noteFacts_11 : decode cX7_noteFacts 11 = .ok (.imul, 1) := by decide +kernel
theorem dX7_noteFacts_12 : decode cX7_noteFacts 12 = .ok (.iconst 2, 1) := by decide +kernel
theorem dX7_noteFacts_13 : decode cX7_noteFacts 13 = .ok (.aload_n 1, 1) := by decide +kernel
theorem dX7_noteFacts_14 : decode cX7_noteFacts 14 = .ok (.getfield 241, 3) := by decide +kernel
theorem dX7_noteFacts_17 : decode cX7_noteFacts 17 = .ok (.iconst 0, 1) := by decide +kernel
theorem dX7_noteFacts_18 : decode cX7_noteFacts 18 = .ok (.iaload, 1) := by decide +kernel
theorem dX7_noteFacts_19 : decode cX7_noteFacts 19 = .ok (.aload_n 1, 1) := by decide +kernel
theorem dX7_noteFacts_20 : decode cX7_noteFacts 20 = .ok (.getfield 241, 3) := by decide +kernel
theorem dX7_noteFacts_23 : decode cX7_noteFacts 23 = .ok (.iconst 1, 1) := by decide +kernel
theorem dX7_noteFacts_24 : decode cX7_noteFacts 24 = .ok (.iaload, 1) := by decide +kernel
theorem dX7_noteFacts_25 : decode cX7_noteFacts 25 = .ok (.iadd, 1) := by decide +kernel
theorem dX7_noteFacts_26 : decode cX7_noteFacts 26 = .ok (.imul, 1) := by decide +kernel
theorem dX7_noteFacts_27 : decode cX7_noteFacts 27 = .ok (.isub, 1) := by decide +kernel
theorem dX7_noteFacts_28 : decode cX7_noteFacts 28 = .ok (.iastore, 1) := by decide +kernel
theorem dX7_noteFacts_29 : decode cX7_noteFacts 29 = .ok (.aload_n 0, 1) := by decide +kernel
theorem dX7_noteFacts_30 : decode cX7_noteFacts 30 = .ok (.getfield 25, 3) := by decide +kernel
theorem dX7_noteFacts_33 : decode cX7_noteFacts 33 = .ok (.iload_n 2, 1) := by decide +kernel
theorem dX7_noteFacts_34 : decode cX7_noteFacts 34 = .ok (.iconst 1, 1) := by decide +kernel
theorem dX7_noteFacts_35 : decode cX7_noteFacts 35 = .ok (.iadd, 1) := by decide +kernel
theorem dX7_noteFacts_36 : decode cX7_noteFacts 36 = .ok (.bipush 16, 2) := by decide +kernel
theorem dX7_noteFacts_38 : decode cX7_noteFacts 38 = .ok (.aload_n 1, 1) := by decide +kernel
theorem dX7_noteFacts_39 : decode cX7_noteFacts 39 = .ok (.getfield 244, 3) := by decide +kernel
theorem dX7_noteFacts_42 : decode cX7_noteFacts 42 = .ok (.imul, 1) := by decide +kernel
theorem dX7_noteFacts_43 : decode cX7_noteFacts 43 = .ok (.iconst 2, 1) := by decide +kernel
theorem dX7_noteFacts_44 : decode cX7_noteFacts 44 = .ok (.aload_n 1, 1) := by decide +kernel
theorem dX7_noteFacts_45 : decode cX7_noteFacts 45 = .ok (.getfield 241, 3) := by decide +kernel
theorem dX7_noteFacts_48 : decode cX7_noteFacts 48 = .ok (.iconst 2, 1) := by decide +kernel
theorem dX7_noteFacts_49 : decode cX7_noteFacts 49 = .ok (.iaload, 1) := by decide +kernel
theorem dX7_noteFacts_50 : decode cX7_noteFacts 50 = .ok (.aload_n 1, 1) := by decide +kernel
theorem dX7_noteFacts_51 : decode cX7_noteFacts 51 = .ok (.getfield 241, 3) := by decide +kernel
theorem dX7_noteFacts_54 : decode cX7_noteFacts 54 = .ok (.iconst 3, 1) := by decide +kernel
theorem dX7_noteFacts_55 : decode cX7_noteFacts 55 = .ok (.iaload, 1) := by decide +kernel
theorem dX7_noteFacts_56 : decode cX7_noteFacts 56 = .ok (.iadd, 1) := by decide +kernel
theorem dX7_noteFacts_57 : decode cX7_noteFacts 57 = .ok (.imul, 1) := by decide +kernel
theorem dX7_noteFacts_58 : decode cX7_noteFacts 58 = .ok (.isub, 1) := by decide +kernel
theorem dX7_noteFacts_59 : decode cX7_noteFacts 59 = .ok (.iastore, 1) := by decide +kernel
theorem dX7_noteFacts_60 : decode cX7_noteFacts 60 = .ok (.aload_n 0, 1) := by decide +kernel
theorem dX7_noteFacts_61 : decode cX7_noteFacts 61 = .ok (.getfield 25, 3) := by decide +kernel
theorem dX7_noteFacts_64 : decode cX7_noteFacts 64 = .ok (.iload_n 2, 1) := by decide +kernel
theorem dX7_noteFacts_65 : decode cX7_noteFacts 65 = .ok (.iconst 2, 1) := by decide +kernel
theorem dX7_noteFacts_66 : decode cX7_noteFacts 66 = .ok (.iadd, 1) := by decide +kernel
theorem dX7_noteFacts_67 : decode cX7_noteFacts 67 = .ok (.aload_n 1, 1) := by decide +kernel
theorem dX7_noteFacts_68 : decode cX7_noteFacts 68 = .ok (.getfield 126, 3) := by decide +kernel
theorem dX7_noteFacts_71 : decode cX7_noteFacts 71 = .ok (.iastore, 1) := by decide +kernel
theorem dX7_noteFacts_72 : decode cX7_noteFacts 72 = .ok (.aload_n 0, 1) := by decide +kernel
theorem dX7_noteFacts_73 : decode cX7_noteFacts 73 = .ok (.getfield 25, 3) := by decide +kernel
theorem dX7_noteFacts_76 : decode cX7_noteFacts 76 = .ok (.iload_n 2, 1) := by decide +kernel
theorem dX7_noteFacts_77 : decode cX7_noteFacts 77 = .ok (.iconst 3, 1) := by decide +kernel
theorem dX7_noteFacts_78 : decode cX7_noteFacts 78 = .ok (.iadd, 1) := by decide +kernel
theorem dX7_noteFacts_79 : decode cX7_noteFacts 79 = .ok (.aload_n 1, 1) := by decide +kernel
theorem dX7_noteFacts_80 : decode cX7_noteFacts 80 = .ok (.getfield 247, 3) := by decide +kernel
theorem dX7_noteFacts_83 : decode cX7_noteFacts 83 = .ok (.iastore, 1) := by decide +kernel
theorem dX7_noteFacts_84 : decode cX7_noteFacts 84 = .ok (.aload_n 0, 1) := by decide +kernel
theorem dX7_noteFacts_85 : decode cX7_noteFacts 85 = .ok (.getfield 25, 3) := by decide +kernel
theorem dX7_noteFacts_88 : decode cX7_noteFacts 88 = .ok (.iload_n 2, 1) := by decide +kernel
theorem dX7_noteFacts_89 : decode cX7_noteFacts 89 = .ok (.iconst 4, 1) := by decide +kernel
theorem dX7_noteFacts_90 : decode cX7_noteFacts 90 = .ok (.iadd, 1) := by decide +kernel
theorem dX7_noteFacts_91 : decode cX7_noteFacts 91 = .ok (.aload_n 1, 1) := by decide +kernel
theorem dX7_noteFacts_92 : decode cX7_noteFacts 92 = .ok (.getfield 250, 3) := by decide +kernel
theorem dX7_noteFacts_95 : decode cX7_noteFacts 95 = .ok (.iastore, 1) := by decide +kernel
theorem dX7_noteFacts_96 : decode cX7_noteFacts 96 = .ok (.aload_n 0, 1) := by decide +kernel
theorem dX7_noteFacts_97 : decode cX7_noteFacts 97 = .ok (.getfield 25, 3) := by decide +kernel
theorem dX7_noteFacts_100 : decode cX7_noteFacts 100 = .ok (.iload_n 2, 1) := by decide +kernel
theorem dX7_noteFacts_101 : decode cX7_noteFacts 101 = .ok (.iconst 5, 1) := by decide +kernel
theorem dX7_noteFacts_102 : decode cX7_noteFacts 102 = .ok (.iadd, 1) := by decide +kernel
theorem dX7_noteFacts_103 : decode cX7_noteFacts 103 = .ok (.aload_n 1, 1) := by decide +kernel
theorem dX7_noteFacts_104 : decode cX7_noteFacts 104 = .ok (.getfield 228, 3) := by decide +kernel
theorem dX7_noteFacts_107 : decode cX7_noteFacts 107 = .ok (.ifCond .eq 7, 3) := by decide +kernel
theorem dX7_noteFacts_110 : decode cX7_noteFacts 110 = .ok (.iconst 1, 1) := by decide +kernel
theorem dX7_noteFacts_111 : decode cX7_noteFacts 111 = .ok (.goto 4, 3) := by decide +kernel
theorem dX7_noteFacts_114 : decode cX7_noteFacts 114 = .ok (.iconst 0, 1) := by decide +kernel
theorem dX7_noteFacts_115 : decode cX7_noteFacts 115 = .ok (.iastore, 1) := by decide +kernel
theorem dX7_noteFacts_116 : decode cX7_noteFacts 116 = .ok (.aload_n 0, 1) := by decide +kernel
theorem dX7_noteFacts_117 : decode cX7_noteFacts 117 = .ok (.getfield 25, 3) := by decide +kernel
theorem dX7_noteFacts_120 : decode cX7_noteFacts 120 = .ok (.iload_n 2, 1) := by decide +kernel
theorem dX7_noteFacts_121 : decode cX7_noteFacts 121 = .ok (.bipush 6, 2) := by decide +kernel
theorem dX7_noteFacts_123 : decode cX7_noteFacts 123 = .ok (.iadd, 1) := by decide +kernel
theorem dX7_noteFacts_124 : decode cX7_noteFacts 124 = .ok (.aload_n 1, 1) := by decide +kernel
theorem dX7_noteFacts_125 : decode cX7_noteFacts 125 = .ok (.getfield 253, 3) := by decide +kernel
theorem dX7_noteFacts_128 : decode cX7_noteFacts 128 = .ok (.iastore, 1) := by decide +kernel
theorem dX7_noteFacts_129 : decode cX7_noteFacts 129 = .ok (.return_, 1) := by decide +kernel
def FX7_noteFacts (G : GG) (M : DD) (a : Nat) (p0 : Option Nat) (p1 : Int32) : Option (DD) :=
  dr G 4 p0 fun b1 =>
  ltt (M.1 b1 1) fun x2 =>
  ltt ((((16 : Int32)) * x2)) fun x3 =>
  dr G 13 ((M.2 b1 3)) fun b4 =>
  chk (¬ (((0 : Int32)) < 0 ∨ G.2.2 b4 ≤ ((0 : Int32)).toNatClampNeg)) <|
  ltt (M.1 b4 ((0 : Int32)).toNatClampNeg) fun x5 =>
  chk (¬ (((1 : Int32)) < 0 ∨ G.2.2 b4 ≤ ((1 : Int32)).toNatClampNeg)) <|
  ltt (M.1 b4 ((1 : Int32)).toNatClampNeg) fun x6 =>
  ltt ((x5 + x6)) fun x7 =>
  ltt ((((2 : Int32)) * x7)) fun x8 =>
  ltt ((x3 - x8)) fun x9 =>
  dr G 13 ((M.2 a 16)) fun b10 =>
  chk (¬ (p1 < 0 ∨ G.2.2 b10 ≤ p1.toNatClampNeg)) <|
  ltt (uI M b10 p1.toNatClampNeg x9) fun M11 =>
  ltt ((p1 + ((1 : Int32)))) fun x12 =>
  ltt (M11.1 b1 2) fun x13 =>
  ltt ((((16 : Int32)) * x13)) fun x14 =>
  dr G 13 ((M11.2 b1 3)) fun b15 =>
  chk (¬ (((2 : Int32)) < 0 ∨ G.2.2 b15 ≤ ((2 : Int32)).toNatClampNeg)) <|
  ltt (M11.1 b15 ((2 : Int32)).toNatClampNeg) fun x16 =>
  chk (¬ (((3 : Int32)) < 0 ∨ G.2.2 b15 ≤ ((3 : Int32)).toNatClampNeg)) <|
  ltt (M11.1 b15 ((3 : Int32)).toNatClampNeg) fun x17 =>
  ltt ((x16 + x17)) fun x18 =>
  ltt ((((2 : Int32)) * x18)) fun x19 =>
  ltt ((x14 - x19)) fun x20 =>
  dr G 13 ((M11.2 a 16)) fun b21 =>
  chk (¬ (x12 < 0 ∨ G.2.2 b21 ≤ x12.toNatClampNeg)) <|
  ltt (uI M11 b21 x12.toNatClampNeg x20) fun M22 =>
  ltt ((p1 + ((2 : Int32)))) fun x23 =>
  ltt (M22.1 b1 9) fun x24 =>
  dr G 13 ((M22.2 a 16)) fun b25 =>
  chk (¬ (x23 < 0 ∨ G.2.2 b25 ≤ x23.toNatClampNeg)) <|
  ltt (uI M22 b25 x23.toNatClampNeg x24) fun M26 =>
  ltt ((p1 + ((3 : Int32)))) fun x27 =>
  ltt (M26.1 b1 15) fun x28 =>
  dr G 13 ((M26.2 a 16)) fun b29 =>
  chk (¬ (x27 < 0 ∨ G.2.2 b29 ≤ x27.toNatClampNeg)) <|
  ltt (uI M26 b29 x27.toNatClampNeg x28) fun M30 =>
  ltt ((p1 + ((4 : Int32)))) fun x31 =>
  ltt (M30.1 b1 16) fun x32 =>
  dr G 13 ((M30.2 a 16)) fun b33 =>
  chk (¬ (x31 < 0 ∨ G.2.2 b33 ≤ x31.toNatClampNeg)) <|
  ltt (uI M30 b33 x31.toNatClampNeg x32) fun M34 =>
  ltt ((p1 + ((5 : Int32)))) fun x35 =>
  ltt (M34.1 b1 14) fun x36 =>
  bnd (if x36 = ((0 : Int32)) then (some ((0 : Int32))) else
  (some ((1 : Int32)))) fun (y37 : Int32) =>
  dr G 13 ((M34.2 a 16)) fun b38 =>
  chk (¬ (x35 < 0 ∨ G.2.2 b38 ≤ x35.toNatClampNeg)) <|
  ltt (uI M34 b38 x35.toNatClampNeg y37) fun M39 =>
  ltt ((p1 + ((6 : Int32)))) fun x40 =>
  ltt (M39.1 b1 17) fun x41 =>
  dr G 13 ((M39.2 a 16)) fun b42 =>
  chk (¬ (x40 < 0 ∨ G.2.2 b42 ≤ x40.toNatClampNeg)) <|
  ltt (uI M39 b42 x40.toNatClampNeg x41) fun M43 =>
  some M43
set_option maxHeartbeats 4000000 in
set_option maxRecDepth 100000 in
theorem kX7_noteFacts (l : Launch) (D : va_G) (ct : CT) (ad : Nat → Nat) (Z : Nat → Nat) (G : GG) (M : DD) (sz : Nat) (a : Nat) (p0 : Option Nat) (p1 : Int32) (y : DD) (hc : a < G.1) (hk : G.2.1 a = 7) (hF : FX7_noteFacts G M a p0 p1 = some y) : Met l yX7_noteFacts wuX7_noteFacts ({ frames := 0, cells := 0, slots := 0, locals := 0 }) (va_Pc [.ref (ad a), va_re ad p0, .int p1] (kB D ct ad Z G M sz)) (va_Qv (fun (_ : Unit) => True) (fun _ t => kE D ct ad G (wA ad G sz) y t) (wA ad G sz)) 0 0 (wA ad G sz) := by
  refine Met.ofW (cc := cX7_noteFacts) (maxL := 3) (ret := none) (by decide) rfl ?_
  intro p e s m args below meth c s₁ B hml hv
  obtain ⟨rfl, hsz, hP, hK, hD0, hZ, hN⟩ := hv
  have hx := B.exec
  have hb := B.bytes
  have hr := B.returns
  have hts := atoms_spec (ws := wuX7_noteFacts) B.pre
  have hown : s.vm.findClass RX7 = some m.cls := findClass_of_methodNamed B.named
  have hlocks := B.notSynchronized
  subst hsz
  have hD := wD_self (sz := s.heap.size) hD0
  have hA9 : ∀ q, s.heap.size ≤ q → wA ad G s.heap.size q := fun q h => Or.inr h
  generalize hAe : wA ad G s.heap.size = A at hD hA9 hZ ⊢
  have hS : va_S A s.heap s.heap [] := va_S.rf
  have hl := lv_entry ([.ref (ad a), va_re ad p0, .int p1]) (n := 3) (by cases p0 <;> exact Nat.le_of_ble_eq_true rfl)
  rw [lg_entry_eq]
  generalize (lg_sl ([.ref (ad a), va_re ad p0, .int p1]) ++ List.replicate (3 - (lg_sl ([.ref (ad a), va_re ad p0, .int p1])).length) Slot.unset).toArray = ls at hl ⊢
  have hl : lv_has ls 3 [(0, .ref (ad a)), (1, va_re ad p0), (2, .int p1)] := by have e9 : lv_args 0 [.ref (ad a), va_re ad p0, .int p1] = [(0, .ref (ad a)), (1, va_re ad p0), (2, .int p1)] := (by cases p0 <;> rfl); rw [e9] at hl; exact hl
  unfold FX7_noteFacts at hF
  refine lv_aload_n hx hb dX7_noteFacts_0 rfl (lv_at hl 0 rfl) ?_
  refine va_get (D := D) (ci := 7) (v := va_re ad (M.2 a 16)) (C := RX7) (T := TX7) (N := 17) hx hb hts (mus hf_X7) hown hK hP a (wld_o ct ad G M hc hk (by decide)) rfl 16 (by decide) (hts (.fieldLink RX7 25 "VideoSuite$Store" "outFact" "[I") (mu mw_376)) (fun _ h9 => h9) rfl dX7_noteFacts_1 ?_
  refine lv_iload_n hx hb dX7_noteFacts_4 rfl (lv_at hl 2 rfl) ?_
  refine lv_bipush (v := (16 : Int32)) hx hb dX7_noteFacts_5 (by decide) ?_
  refine lv_aloadq_n hx hb dX7_noteFacts_7 rfl (lv_at hl 1 rfl) ?_
  obtain ⟨b1, ho1, hc1, hk1, hF⟩ := dr_some hF
  refine W_st (st' := [.ref (ad b1), .int (16 : Int32), .int p1, va_re ad (M.2 a 16)]) (by rw [va_some ho1]) ?_
  refine va_get (D := D) (ci := 4) (v := .int (M.1 b1 1)) (C := RX4) (T := TX4) (N := 18) hx hb hts (mus hf_X4) hown hK hP b1 (wld_o ct ad G M hc1 hk1 (by decide)) rfl 1 (by decide) (hts (.fieldLink RX7 238 "VideoSuite$Picture" "width" "I") (mu mw_1424)) (fun _ h9 => h9) rfl dX7_noteFacts_8 ?_
  obtain ⟨x2, ex2, hF⟩ := ltt_some hF
  refine lv_topi (fun zx2 ezx2 => ?_)
  obtain rfl : x2 = zx2 := ex2.trans ezx2.symm
  refine lv_imul hx hb dX7_noteFacts_11 ?_
  obtain ⟨x3, ex3, hF⟩ := ltt_some hF
  refine lv_topi (fun zx3 ezx3 => ?_)
  obtain rfl : x3 = zx3 := ex3.trans ezx3.symm
  refine lv_iconst (v := (2 : Int32)) hx hb dX7_noteFacts_12 (by decide) ?_
  refine lv_aloadq_n hx hb dX7_noteFacts_13 rfl (lv_at hl 1 rfl) ?_
  refine W_st (st' := [.ref (ad b1), .int (2 : Int32), .int x3, .int p1, va_re ad (M.2 a 16)]) (by rw [va_some ho1]) ?_
  refine va_get (D := D) (ci := 4) (v := va_re ad (M.2 b1 3)) (C := RX4) (T := TX4) (N := 18) hx hb hts (mus hf_X4) hown hK hP b1 (wld_o ct ad G M hc1 hk1 (by decide)) rfl 3 (by decide) (hts (.fieldLink RX7 241 "VideoSuite$Picture" "crop" "[I") (mu mw_1430)) (fun _ h9 => h9) rfl dX7_noteFacts_14 ?_
  refine lv_iconst (v := (0 : Int32)) hx hb dX7_noteFacts_17 (by decide) ?_
  obtain ⟨b4, ho4, hc4, hk4, hF⟩ := dr_some hF
  refine W_st (st' := [.int (0 : Int32), .ref (ad b4), .int (2 : Int32), .int x3, .int p1, va_re ad (M.2 a 16)]) (by rw [va_some ho4]) ?_
  obtain ⟨hvc, hF⟩ := chk_some hF
  refine va_iald hx hb hK hP b4 1 (wld_i ct ad G M hc4 hk4) rfl hvc dX7_noteFacts_18 ?_
  obtain ⟨x5, ex5, hF⟩ := ltt_some hF
  refine lv_topi (fun zx5 ezx5 => ?_)
  obtain rfl : x5 = zx5 := ex5.trans ezx5.symm
  refine lv_aloadq_n hx hb dX7_noteFacts_19 rfl (lv_at hl 1 rfl) ?_
  refine W_st (st' := [.ref (ad b1), .int x5, .int (2 : Int32), .int x3, .int p1, va_re ad (M.2 a 16)]) (by rw [va_some ho1]) ?_
  refine va_get (D := D) (ci := 4) (v := va_re ad (M.2 b1 3)) (C := RX4) (T := TX4) (N := 18) hx hb hts (mus hf_X4) hown hK hP b1 (wld_o ct ad G M hc1 hk1 (by decide)) rfl 3 (by decide) (hts (.fieldLink RX7 241 "VideoSuite$Picture" "crop" "[I") (mu mw_1430)) (fun _ h9 => h9) rfl dX7_noteFacts_20 ?_
  refine lv_iconst (v := (1 : Int32)) hx hb dX7_noteFacts_23 (by decide) ?_
  refine W_st (st' := [.int (1 : Int32), .ref (ad b4), .int x5, .int (2 : Int32), .int x3, .int p1, va_re ad (M.2 a 16)]) (by rw [va_some ho4]) ?_
  obtain ⟨hvc, hF⟩ := chk_some hF
  refine va_iald hx hb hK hP b4 1 (wld_i ct ad G M hc4 hk4) rfl hvc dX7_noteFacts_24 ?_
  obtain ⟨x6, ex6, hF⟩ := ltt_some hF
  refine lv_topi (fun zx6 ezx6 => ?_)
  obtain rfl : x6 = zx6 := ex6.trans ezx6.symm
  refine lv_iadd hx hb dX7_noteFacts_25 ?_
  obtain ⟨x7, ex7, hF⟩ := ltt_some hF
  refine lv_topi (fun zx7 ezx7 => ?_)
  obtain rfl : x7 = zx7 := ex7.trans ezx7.symm
  refine lv_imul hx hb dX7_noteFacts_26 ?_
  obtain ⟨x8, ex8, hF⟩ := ltt_some hF
  refine lv_topi (fun zx8 ezx8 => ?_)
  obtain rfl : x8 = zx8 := ex8.trans ezx8.symm
  refine lv_isub hx hb dX7_noteFacts_27 ?_
  obtain ⟨x9, ex9, hF⟩ := ltt_some hF
  refine lv_topi (fun zx9 ezx9 => ?_)
  obtain rfl : x9 = zx9 := ex9.trans ezx9.symm
  obtain ⟨b10, ho10, hc10, hk10, hF⟩ := dr_some hF
  refine W_st (st' := [.int x9, .int p1, .ref (ad b10)]) (by rw [va_some ho10]) ?_
  obtain ⟨hvc, hF⟩ := chk_some hF
  refine va_iast hx hb hK hP hD hS b10 1 (wld_i ct ad G M hc10 hk10) rfl hvc dX7_noteFacts_28 (fun H locs hP hD hS => ?_)
  obtain ⟨M11, eM11, hF⟩ := ltt_some hF
  rw [set_i ct ad G M hc10 hk10, ← eM11] at hP hD
  refine lv_aload_n hx hb dX7_noteFacts_29 rfl (lv_at hl 0 rfl) ?_
  refine va_get (D := D) (ci := 7) (v := va_re ad (M11.2 a 16)) (C := RX7) (T := TX7) (N := 17) hx hb hts (mus hf_X7) hown hK hP a (wld_o ct ad G M11 hc hk (by decide)) rfl 16 (by decide) (hts (.fieldLink RX7 25 "VideoSuite$Store" "outFact" "[I") (mu mw_376)) (fun _ h9 => h9) rfl dX7_noteFacts_30 ?_
  refine lv_iload_n hx hb dX7_noteFacts_33 rfl (lv_at hl 2 rfl) ?_
  refine lv_iconst (v := (1 : Int32)) hx hb dX7_noteFacts_34 (by decide) ?_
  refine lv_iadd hx hb dX7_noteFacts_35 ?_
  obtain ⟨x12, ex12, hF⟩ := ltt_some hF
  refine lv_topi (fun zx12 ezx12 => ?_)
  obtain rfl : x12 = zx12 := ex12.trans ezx12.symm
  refine lv_bipush (v := (16 : Int32)) hx hb dX7_noteFacts_36 (by decide) ?_
  refine lv_aloadq_n hx hb dX7_noteFacts_38 rfl (lv_at hl 1 rfl) ?_
  refine W_st (st' := [.ref (ad b1), .int (16 : Int32), .int x12, va_re ad (M11.2 a 16)]) (by rw [va_some ho1]) ?_
  refine va_get (D := D) (ci := 4) (v := .int (M11.1 b1 2)) (C := RX4) (T := TX4) (N := 18) hx hb hts (mus hf_X4) hown hK hP b1 (wld_o ct ad G M11 hc1 hk1 (by decide)) rfl 2 (by decide) (hts (.fieldLink RX7 244 "VideoSuite$Picture" "height" "I") (mu mw_1427)) (fun _ h9 => h9) rfl dX7_noteFacts_39 ?_
  obtain ⟨x13, ex13, hF⟩ := ltt_some hF
  refine lv_topi (fun zx13 ezx13 => ?_)
  obtain rfl : x13 = zx13 := ex13.trans ezx13.symm
  refine lv_imul hx hb dX7_noteFacts_42 ?_
  obtain ⟨x14, ex14, hF⟩ := ltt_some hF
  refine lv_topi (fun zx14 ezx14 => ?_)
  obtain rfl : x14 = zx14 := ex14.trans ezx14.symm
  refine lv_iconst (v := (2 : Int32)) hx hb dX7_noteFacts_43 (by decide) ?_
  refine lv_aloadq_n hx hb dX7_noteFacts_44 rfl (lv_at hl 1 rfl) ?_
  refine W_st (st' := [.ref (ad b1), .int (2 : Int32), .int x14, .int x12, va_re ad (M11.2 a 16)]) (by rw [va_some ho1]) ?_
  refine va_get (D := D) (ci := 4) (v := va_re ad (M11.2 b1 3)) (C := RX4) (T := TX4) (N := 18) hx hb hts (mus hf_X4) hown hK hP b1 (wld_o ct ad G M11 hc1 hk1 (by decide)) rfl 3 (by decide) (hts (.fieldLink RX7 241 "VideoSuite$Picture" "crop" "[I") (mu mw_1430)) (fun _ h9 => h9) rfl dX7_noteFacts_45 ?_
  refine lv_iconst (v := (2 : Int32)) hx hb dX7_noteFacts_48 (by decide) ?_
  obtain ⟨b15, ho15, hc15, hk15, hF⟩ := dr_some hF
  refine W_st (st' := [.int (2 : Int32), .ref (ad b15), .int (2 : Int32), .int x14, .int x12, va_re ad (M11.2 a 16)]) (by rw [va_some ho15]) ?_
  obtain ⟨hvc, hF⟩ := chk_some hF
  refine va_iald hx hb hK hP b15 1 (wld_i ct ad G M11 hc15 hk15) rfl hvc dX7_noteFacts_49 ?_
  obtain ⟨x16, ex16, hF⟩ := ltt_some hF
  refine lv_topi (fun zx16 ezx16 => ?_)
  obtain rfl : x16 = zx16 := ex16.trans ezx16.symm
  refine lv_aloadq_n hx hb dX7_noteFacts_50 rfl (lv_at hl 1 rfl) ?_
  refine W_st (st' := [.ref (ad b1), .int x16, .int (2 : Int32), .int x14, .int x12, va_re ad (M11.2 a 16)]) (by rw [va_some ho1]) ?_
  refine va_get (D := D) (ci := 4) (v := va_re ad (M11.2 b1 3)) (C := RX4) (T := TX4) (N := 18) hx hb hts (mus hf_X4) hown hK hP b1 (wld_o ct ad G M11 hc1 hk1 (by decide)) rfl 3 (by decide) (hts (.fieldLink RX7 241 "VideoSuite$Picture" "crop" "[I") (mu mw_1430)) (fun _ h9 => h9) rfl dX7_noteFacts_51 ?_
  refine lv_iconst (v := (3 : Int32)) hx hb dX7_noteFacts_54 (by decide) ?_
  refine W_st (st' := [.int (3 : Int32), .ref (ad b15), .int x16, .int (2 : Int32), .int x14, .int x12, va_re ad (M11.2 a 16)]) (by rw [va_some ho15]) ?_
  obtain ⟨hvc, hF⟩ := chk_some hF
  refine va_iald hx hb hK hP b15 1 (wld_i ct ad G M11 hc15 hk15) rfl hvc dX7_noteFacts_55 ?_
  obtain ⟨x17, ex17, hF⟩ := ltt_some hF
  refine lv_topi (fun zx17 ezx17 => ?_)
  obtain rfl : x17 = zx17 := ex17.trans ezx17.symm
  refine lv_iadd hx hb dX7_noteFacts_56 ?_
  obtain ⟨x18, ex18, hF⟩ := ltt_some hF
  refine lv_topi (fun zx18 ezx18 => ?_)
  obtain rfl : x18 = zx18 := ex18.trans ezx18.symm
  refine lv_imul hx hb dX7_noteFacts_57 ?_
  obtain ⟨x19, ex19, hF⟩ := ltt_some hF
  refine lv_topi (fun zx19 ezx19 => ?_)
  obtain rfl : x19 = zx19 := ex19.trans ezx19.symm
  refine lv_isub hx hb dX7_noteFacts_58 ?_
  obtain ⟨x20, ex20, hF⟩ := ltt_some hF
  refine lv_topi (fun zx20 ezx20 => ?_)
  obtain rfl : x20 = zx20 := ex20.trans ezx20.symm
  obtain ⟨b21, ho21, hc21, hk21, hF⟩ := dr_some hF
  refine W_st (st' := [.int x20, .int x12, .ref (ad b21)]) (by rw [va_some ho21]) ?_
  obtain ⟨hvc, hF⟩ := chk_some hF
  refine va_iast hx hb hK hP hD hS b21 1 (wld_i ct ad G M11 hc21 hk21) rfl hvc dX7_noteFacts_59 (fun H locs hP hD hS => ?_)
  obtain ⟨M22, eM22, hF⟩ := ltt_some hF
  rw [set_i ct ad G M11 hc21 hk21, ← eM22] at hP hD
  refine lv_aload_n hx hb dX7_noteFacts_60 rfl (lv_at hl 0 rfl) ?_
  refine va_get (D := D) (ci := 7) (v := va_re ad (M22.2 a 16)) (C := RX7) (T := TX7) (N := 17) hx hb hts (mus hf_X7) hown hK hP a (wld_o ct ad G M22 hc hk (by decide)) rfl 16 (by decide) (hts (.fieldLink RX7 25 "VideoSuite$Store" "outFact" "[I") (mu mw_376)) (fun _ h9 => h9) rfl dX7_noteFacts_61 ?_
  refine lv_iload_n hx hb dX7_noteFacts_64 rfl (lv_at hl 2 rfl) ?_
  refine lv_iconst (v := (2 : Int32)) hx hb dX7_noteFacts_65 (by decide) ?_
  refine lv_iadd hx hb dX7_noteFacts_66 ?_
  obtain ⟨x23, ex23, hF⟩ := ltt_some hF
  refine lv_topi (fun zx23 ezx23 => ?_)
  obtain rfl : x23 = zx23 := ex23.trans ezx23.symm
  refine lv_aloadq_n hx hb dX7_noteFacts_67 rfl (lv_at hl 1 rfl) ?_
  refine W_st (st' := [.ref (ad b1), .int x23, va_re ad (M22.2 a 16)]) (by rw [va_some ho1]) ?_
  refine va_get (D := D) (ci := 4) (v := .int (M22.1 b1 9)) (C := RX4) (T := TX4) (N := 18) hx hb hts (mus hf_X4) hown hK hP b1 (wld_o ct ad G M22 hc1 hk1 (by decide)) rfl 9 (by decide) (hts (.fieldLink RX7 126 "VideoSuite$Picture" "order" "I") (mu mw_1455)) (fun _ h9 => h9) rfl dX7_noteFacts_68 ?_
  obtain ⟨x24, ex24, hF⟩ := ltt_some hF
  refine lv_topi (fun zx24 ezx24 => ?_)
  obtain rfl : x24 = zx24 := ex24.trans ezx24.symm
  obtain ⟨b25, ho25, hc25, hk25, hF⟩ := dr_some hF
  refine W_st (st' := [.int x24, .int x23, .ref (ad b25)]) (by rw [va_some ho25]) ?_
  obtain ⟨hvc, hF⟩ := chk_some hF
  refine va_iast hx hb hK hP hD hS b25 1 (wld_i ct ad G M22 hc25 hk25) rfl hvc dX7_noteFacts_71 (fun H locs hP hD hS => ?_)
  obtain ⟨M26, eM26, hF⟩ := ltt_some hF
  rw [set_i ct ad G M22 hc25 hk25, ← eM26] at hP hD
  refine lv_aload_n hx hb dX7_noteFacts_72 rfl (lv_at hl 0 rfl) ?_
  refine va_get (D := D) (ci := 7) (v := va_re ad (M26.2 a 16)) (C := RX7) (T := TX7) (N := 17) hx hb hts (mus hf_X7) hown hK hP a (wld_o ct ad G M26 hc hk (by decide)) rfl 16 (by decide) (hts (.fieldLink RX7 25 "VideoSuite$Store" "outFact" "[I") (mu mw_376)) (fun _ h9 => h9) rfl dX7_noteFacts_73 ?_
  refine lv_iload_n hx hb dX7_noteFacts_76 rfl (lv_at hl 2 rfl) ?_
  refine lv_iconst (v := (3 : Int32)) hx hb dX7_noteFacts_77 (by decide) ?_
  refine lv_iadd hx hb dX7_noteFacts_78 ?_
  obtain ⟨x27, ex27, hF⟩ := ltt_some hF
  refine lv_topi (fun zx27 ezx27 => ?_)
  obtain rfl : x27 = zx27 := ex27.trans ezx27.symm
  refine lv_aloadq_n hx hb dX7_noteFacts_79 rfl (lv_at hl 1 rfl) ?_
  refine W_st (st' := [.ref (ad b1), .int x27, va_re ad (M26.2 a 16)]) (by rw [va_some ho1]) ?_
  refine va_get (D := D) (ci := 4) (v := .int (M26.1 b1 15)) (C := RX4) (T := TX4) (N := 18) hx hb hts (mus hf_X4) hown hK hP b1 (wld_o ct ad G M26 hc1 hk1 (by decide)) rfl 15 (by decide) (hts (.fieldLink RX7 247 "VideoSuite$Picture" "sort" "I") (mu mw_1475)) (fun _ h9 => h9) rfl dX7_noteFacts_80 ?_
  obtain ⟨x28, ex28, hF⟩ := ltt_some hF
  refine lv_topi (fun zx28 ezx28 => ?_)
  obtain rfl : x28 = zx28 := ex28.trans ezx28.symm
  obtain ⟨b29, ho29, hc29, hk29, hF⟩ := dr_some hF
  refine W_st (st' := [.int x28, .int x27, .ref (ad b29)]) (by rw [va_some ho29]) ?_
  obtain ⟨hvc, hF⟩ := chk_some hF
  refine va_iast hx hb hK hP hD hS b29 1 (wld_i ct ad G M26 hc29 hk29) rfl hvc dX7_noteFacts_83 (fun H locs hP hD hS => ?_)
  obtain ⟨M30, eM30, hF⟩ := ltt_some hF
  rw [set_i ct ad G M26 hc29 hk29, ← eM30] at hP hD
  refine lv_aload_n hx hb dX7_noteFacts_84 rfl (lv_at hl 0 rfl) ?_
  refine va_get (D := D) (ci := 7) (v := va_re ad (M30.2 a 16)) (C := RX7) (T := TX7) (N := 17) hx hb hts (mus hf_X7) hown hK hP a (wld_o ct ad G M30 hc hk (by decide)) rfl 16 (by decide) (hts (.fieldLink RX7 25 "VideoSuite$Store" "outFact" "[I") (mu mw_376)) (fun _ h9 => h9) rfl dX7_noteFacts_85 ?_
  refine lv_iload_n hx hb dX7_noteFacts_88 rfl (lv_at hl 2 rfl) ?_
  refine lv_iconst (v := (4 : Int32)) hx hb dX7_noteFacts_89 (by decide) ?_
  refine lv_iadd hx hb dX7_noteFacts_90 ?_
  obtain ⟨x31, ex31, hF⟩ := ltt_some hF
  refine lv_topi (fun zx31 ezx31 => ?_)
  obtain rfl : x31 = zx31 := ex31.trans ezx31.symm
  refine lv_aloadq_n hx hb dX7_noteFacts_91 rfl (lv_at hl 1 rfl) ?_
  refine W_st (st' := [.ref (ad b1), .int x31, va_re ad (M30.2 a 16)]) (by rw [va_some ho1]) ?_
  refine va_get (D := D) (ci := 4) (v := .int (M30.1 b1 16)) (C := RX4) (T := TX4) (N := 18) hx hb hts (mus hf_X4) hown hK hP b1 (wld_o ct ad G M30 hc1 hk1 (by decide)) rfl 16 (by decide) (hts (.fieldLink RX7 250 "VideoSuite$Picture" "ref" "I") (mu mw_1478)) (fun _ h9 => h9) rfl dX7_noteFacts_92 ?_
  obtain ⟨x32, ex32, hF⟩ := ltt_some hF
  refine lv_topi (fun zx32 ezx32 => ?_)
  obtain rfl : x32 = zx32 := ex32.trans ezx32.symm
  obtain ⟨b33, ho33, hc33, hk33, hF⟩ := dr_some hF
  refine W_st (st' := [.int x32, .int x31, .ref (ad b33)]) (by rw [va_some ho33]) ?_
  obtain ⟨hvc, hF⟩ := chk_some hF
  refine va_iast hx hb hK hP hD hS b33 1 (wld_i ct ad G M30 hc33 hk33) rfl hvc dX7_noteFacts_95 (fun H locs hP hD hS => ?_)
  obtain ⟨M34, eM34, hF⟩ := ltt_some hF
  rw [set_i ct ad G M30 hc33 hk33, ← eM34] at hP hD
  refine lv_aload_n hx hb dX7_noteFacts_96 rfl (lv_at hl 0 rfl) ?_
  refine va_get (D := D) (ci := 7) (v := va_re ad (M34.2 a 16)) (C := RX7) (T := TX7) (N := 17) hx hb hts (mus hf_X7) hown hK hP a (wld_o ct ad G M34 hc hk (by decide)) rfl 16 (by decide) (hts (.fieldLink RX7 25 "VideoSuite$Store" "outFact" "[I") (mu mw_376)) (fun _ h9 => h9) rfl dX7_noteFacts_97 ?_
  refine lv_iload_n hx hb dX7_noteFacts_100 rfl (lv_at hl 2 rfl) ?_
  refine lv_iconst (v := (5 : Int32)) hx hb dX7_noteFacts_101 (by decide) ?_
  refine lv_iadd hx hb dX7_noteFacts_102 ?_
  obtain ⟨x35, ex35, hF⟩ := ltt_some hF
  refine lv_topi (fun zx35 ezx35 => ?_)
  obtain rfl : x35 = zx35 := ex35.trans ezx35.symm
  refine lv_aloadq_n hx hb dX7_noteFacts_103 rfl (lv_at hl 1 rfl) ?_
  refine W_st (st' := [.ref (ad b1), .int x35, va_re ad (M34.2 a 16)]) (by rw [va_some ho1]) ?_
  refine va_get (D := D) (ci := 4) (v := .int (M34.1 b1 14)) (C := RX4) (T := TX4) (N := 18) hx hb hts (mus hf_X4) hown hK hP b1 (wld_o ct ad G M34 hc1 hk1 (by decide)) rfl 14 (by decide) (hts (.fieldLink RX7 228 "VideoSuite$Picture" "isTrusted" "Z") (mu mw_1472)) (fun _ h9 => h9) rfl dX7_noteFacts_104 ?_
  obtain ⟨x36, ex36, hF⟩ := ltt_some hF
  refine lv_topi (fun zx36 ezx36 => ?_)
  obtain rfl : x36 = zx36 := ex36.trans ezx36.symm
  obtain ⟨y37, hy37, hF⟩ := bnd_some hF
  have J37 : ∀ (H : Heap) (locs : List Loc) (ls : Array Slot), va_P D classes (wld ct ad G M34) H → va_D A (wld ct ad G M34) → va_S A s.heap H locs → lv_has ls 3 [(0, .ref (ad a)), (1, va_re ad p0), (2, .int p1)] → W p l e (headSpec wuX7_noteFacts ({ frames := 0, cells := 0, slots := 0, locals := 0 })).room s m ([.ref (ad a), va_re ad p0, .int p1] : List Value).toArray below meth c H locs 0 0 (MQ below (va_Qv (fun (_ : Unit) => True) (fun _ t => kE D ct ad G A y t) A) ([.ref (ad a), va_re ad p0, .int p1] : List Value).toArray s 0 0 A) (F0 m 115 ls [.int y37, .int x35, va_re ad (M34.2 a 16)]) := by
    intro H locs ls hP hD hS hl
    obtain ⟨b38, ho38, hc38, hk38, hF⟩ := dr_some hF
    refine W_st (st' := [.int y37, .int x35, .ref (ad b38)]) (by rw [va_some ho38]) ?_
    obtain ⟨hvc, hF⟩ := chk_some hF
    refine va_iast hx hb hK hP hD hS b38 1 (wld_i ct ad G M34 hc38 hk38) rfl hvc dX7_noteFacts_115 (fun H locs hP hD hS => ?_)
    obtain ⟨M39, eM39, hF⟩ := ltt_some hF
    rw [set_i ct ad G M34 hc38 hk38, ← eM39] at hP hD
    refine lv_aload_n hx hb dX7_noteFacts_116 rfl (lv_at hl 0 rfl) ?_
    refine va_get (D := D) (ci := 7) (v := va_re ad (M39.2 a 16)) (C := RX7) (T := TX7) (N := 17) hx hb hts (mus hf_X7) hown hK hP a (wld_o ct ad G M39 hc hk (by decide)) rfl 16 (by decide) (hts (.fieldLink RX7 25 "VideoSuite$Store" "outFact" "[I") (mu mw_376)) (fun _ h9 => h9) rfl dX7_noteFacts_117 ?_
    refine lv_iload_n hx hb dX7_noteFacts_120 rfl (lv_at hl 2 rfl) ?_
    refine lv_bipush (v := (6 : Int32)) hx hb dX7_noteFacts_121 (by decide) ?_
    refine lv_iadd hx hb dX7_noteFacts_123 ?_
    obtain ⟨x40, ex40, hF⟩ := ltt_some hF
    refine lv_topi (fun zx40 ezx40 => ?_)
    obtain rfl : x40 = zx40 := ex40.trans ezx40.symm
    refine lv_aloadq_n hx hb dX7_noteFacts_124 rfl (lv_at hl 1 rfl) ?_
    refine W_st (st' := [.ref (ad b1), .int x40, va_re ad (M39.2 a 16)]) (by rw [va_some ho1]) ?_
    refine va_get (D := D) (ci := 4) (v := .int (M39.1 b1 17)) (C := RX4) (T := TX4) (N := 18) hx hb hts (mus hf_X4) hown hK hP b1 (wld_o ct ad G M39 hc1 hk1 (by decide)) rfl 17 (by decide) (hts (.fieldLink RX7 253 "VideoSuite$Picture" "mended" "I") (mu mw_1481)) (fun _ h9 => h9) rfl dX7_noteFacts_125 ?_
    obtain ⟨x41, ex41, hF⟩ := ltt_some hF
    refine lv_topi (fun zx41 ezx41 => ?_)
    obtain rfl : x41 = zx41 := ex41.trans ezx41.symm
    obtain ⟨b42, ho42, hc42, hk42, hF⟩ := dr_some hF
    refine W_st (st' := [.int x41, .int x40, .ref (ad b42)]) (by rw [va_some ho42]) ?_
    obtain ⟨hvc, hF⟩ := chk_some hF
    refine va_iast hx hb hK hP hD hS b42 1 (wld_i ct ad G M39 hc42 hk42) rfl hvc dX7_noteFacts_128 (fun H locs hP hD hS => ?_)
    obtain ⟨M43, eM43, hF⟩ := ltt_some hF
    rw [set_i ct ad G M39 hc42 hk42, ← eM43] at hP hD
    obtain rfl := Option.some.inj hF
    exact W.vret hx hb hr (fun t ht hW => ⟨⟨(), rfl, trivial, ⟨by rw [ht]; exact hP, va_K.moved hW.alike hK, hD⟩⟩, hS.F ht⟩) hS.2.2 dX7_noteFacts_129
  clear hF
  have hF := hy37
  clear hy37
  refine lv_if_eq (tgt := 114) hx hb dX7_noteFacts_107 (by decide) (fun c44 => ?_) (fun c44 => ?_)
  · rw [if_pos c44] at hF
    refine lv_iconst (v := (0 : Int32)) hx hb dX7_noteFacts_114 (by decide) ?_
    obtain rfl := Option.some.inj hF
    exact J37 _ _ _ hP hD hS (lv_sub hl [0, 1, 2] rfl)
  · rw [if_neg c44] at hF
    refine lv_iconst (v := (1 : Int32)) hx hb dX7_noteFacts_110 (by decide) ?_
    refine lv_goto (tgt := 115) hx hb dX7_noteFacts_111 (by decide) ?_
    obtain rfl := Option.some.inj hF
    exact J37 _ _ _ hP hD hS (lv_sub hl [0, 1, 2] rfl)
theorem dX7_orderByLow_0 : decode cX7_orderByLow 0 = .ok (.iload_n 3, 1) := by decide +kernel
theorem dX7_orderByLow_1 : decode cX7_orderByLow 1 = .ok (.ifCond .eq 7, 3) := by decide +kernel
theorem dX7_orderByLow_4 : decode cX7_orderByLow 4 = .ok (.iconst 0, 1) := by decide +kernel
theorem dX7_orderByLow_5 : decode cX7_orderByLow 5 = .ok (.goto 7, 3) := by decide +kernel
theorem dX7_orderByLow_8 : decode cX7_orderByLow 8 = .ok (.aload_n 0, 1) := by decide +kernel
theorem dX7_orderByLow_9 : decode cX7_orderByLow 9 = .ok (.getfield 49, 3) := by decide +kernel
theorem dX7_orderByLow_12 : decode cX7_orderByLow 12 = .ok (.istore 4, 2) := by decide +kernel
theorem dX7_orderByLow_14 : decode cX7_orderByLow 14 = .ok (.aload_n 0, 1) := by decide +kernel
theorem dX7_orderByLow_15 : decode cX7_orderByLow 15 = .ok (.iload_n 3, 1) := by decide +kernel
theorem dX7_orderByLow_16 : decode cX7_orderByLow 16 = .ok (.ifCond .eq 7, 3) := by decide +kernel
theorem dX7_orderByLow_19 : decode cX7_orderByLow 19 = .ok (.iconst 0, 1) := by decide +kernel
theorem dX7_orderByLow_20 : decode cX7_orderByLow 20 = .ok (.goto 7, 3) := by decide +kernel
theorem dX7_orderByLow_23 : decode cX7_orderByLow 23 = .ok (.aload_n 0, 1) := by decide +kernel
theorem dX7_orderByLow_24 : decode cX7_orderByLow 24 = .ok (.getfield 46, 3) := by decide +kernel
theorem dX7_orderByLow_27 : decode cX7_orderByLow 27 = .ok (.putfield 82, 3) := by decide +kernel
theorem dX7_orderByLow_30 : decode cX7_orderByLow 30 = .ok (.iload 4, 2) := by decide +kernel
theorem dX7_orderByLow_32 : decode cX7_orderByLow 32 = .ok (.aload_n 1, 1) := by decide +kernel
theorem dX7_orderByLow_33 : decode cX7_orderByLow 33 = .ok (.iconst 5, 1) := by decide +kernel
theorem dX7_orderByLow_34 : decode cX7_orderByLow 34 = .ok (.iaload, 1) := by decide +kernel
theorem dX7_orderByLow_35 : decode cX7_orderByLow 35 = .ok (.isub, 1) := by decide +kernel
theorem dX7_orderByLow_36 : decode cX7_orderByLow 36 = .ok (.iload_n 2, 1) := by decide +kernel
theorem dX7_orderByLow_37 : decode cX7_orderByLow 37 = .ok (.iconst 2, 1) := by decide +kernel
theorem dX7_orderByLow_38 : decode cX7_orderByLow 38 = .ok (.idiv, 1) := by decide +kernel
theorem dX7_orderByLow_39 : decode cX7_orderByLow 39 = .ok (.if_icmp .lt 16, 3) := by decide +kernel
theorem dX7_orderByLow_42 : decode cX7_orderByLow 42 = .ok (.aload_n 0, 1) := by decide +kernel
theorem dX7_orderByLow_43 : decode cX7_orderByLow 43 = .ok (.dup, 1) := by decide +kernel
theorem dX7_orderByLow_44 : decode cX7_orderByLow 44 = .ok (.getfield 82, 3) := by decide +kernel
theorem dX7_orderByLow_47 : decode cX7_orderByLow 47 = .ok (.iload_n 2, 1) := by decide +kernel
theorem dX7_orderByLow_48 : decode cX7_orderByLow 48 = .ok (.iadd, 1) := by decide +kernel
theorem dX7_orderByLow_49 : decode cX7_orderByLow 49 = .ok (.putfield 82, 3) := by decide +kernel
theorem dX7_orderByLow_52 : decode cX7_orderByLow 52 = .ok (.goto 25, 3) := by decide +kernel
theorem dX7_orderByLow_55 : decode cX7_orderByLow 55 = .ok (.aload_n 1, 1) := by decide +kernel
theorem dX7_orderByLow_56 : decode cX7_orderByLow 56 = .ok (.iconst 5, 1) := by decide +kernel
theorem dX7_orderByLow_57 : decode cX7_orderByLow 57 = .ok (.iaload, 1) := by decide +kernel
theorem dX7_orderByLow_58 : decode cX7_orderByLow 58 = .ok (.iload 4, 2) := by decide +kernel
theorem dX7_orderByLow_60 : decode cX7_orderByLow 60 = .ok (.isub, 1) := by decide +kernel
theorem dX7_orderByLow_61 : decode cX7_orderByLow 61 = .ok (.iload_n 2, 1) := by decide +kernel
theorem dX7_orderByLow_62 : decode cX7_orderByLow 62 = .ok (.iconst 2, 1) := by decide +kernel
theorem dX7_orderByLow_63 : decode cX7_orderByLow 63 = .ok (.idiv, 1) := by decide +kernel
theorem dX7_orderByLow_64 : decode cX7_orderByLow 64 = .ok (.if_icmp .le 13, 3) := by decide +kernel
theorem dX7_orderByLow_67 : decode cX7_orderByLow 67 = .ok (.aload_n 0, 1) := by decide +kernel
theorem dX7_orderByLow_68 : decode cX7_orderByLow 68 = .ok (.dup, 1) := by decide +kernel
theorem dX7_orderByLow_69 : decode cX7_orderByLow 69 = .ok (.getfield 82, 3) := by decide +kernel
theorem dX7_orderByLow_72 : decode cX7_orderByLow 72 = .ok (.iload_n 2, 1) := by decide +kernel
theorem dX7_orderByLow_73 : decode cX7_orderByLow 73 = .ok (.isub, 1) := by decide +kernel
theorem dX7_orderByLow_74 : decode cX7_orderByLow 74 = .ok (.putfield 82, 3) := by decide +kernel
theorem dX7_orderByLow_77 : decode cX7_orderByLow 77 = .ok (.aload_n 0, 1) := by decide +kernel
theorem dX7_orderByLow_78 : decode cX7_orderByLow 78 = .ok (.getfield 82, 3) := by decide +kernel
theorem dX7_orderByLow_81 : decode cX7_orderByLow 81 = .ok (.aload_n 1, 1) := by decide +kernel
theorem dX7_orderByLow_82 : decode cX7_orderByLow 82 = .ok (.iconst 5, 1) := by decide +kernel
theorem dX7_orderByLow_83 : decode cX7_orderByLow 83 = .ok (.iaload, 1) := by decide +kernel
theorem dX7_orderByLow_84 : decode cX7_orderByLow 84 = .ok (.iadd, 1) := by decide +kernel
theorem dX7_orderByLow_85 : decode cX7_orderByLow 85 = .ok (.istore 5, 2) := by decide +kernel
theorem dX7_orderByLow_87 : decode cX7_orderByLow 87 = .ok (.iload 5, 2) := by decide +kernel
theorem dX7_orderByLow_89 : decode cX7_orderByLow 89 = .ok (.aload_n 1, 1) := by decide +kernel
theorem dX7_orderByLow_90 : decode cX7_orderByLow 90 = .ok (.bipush 6, 2) := by decide +kernel
theorem dX7_orderByLow_92 : decode cX7_orderByLow 92 = .ok (.iaload, 1) := by decide +kernel
theorem dX7_orderByLow_93 : decode cX7_orderByLow 93 = .ok (.iadd, 1) := by decide +kernel
theorem dX7_orderByLow_94 : decode cX7_orderByLow 94 = .ok (.istore 6, 2) := by decide +kernel
theorem dX7_orderByLow_96 : decode cX7_orderByLow 96 = .ok (.iload 5, 2) := by decide +kernel
theorem dX7_orderByLow_98 : decode cX7_orderByLow 98 = .ok (.iload 6, 2) := by decide +kernel
theorem dX7_orderByLow_100 : decode cX7_orderByLow 100 = .ok (.if_icmp .ge 8, 3) := by decide +kernel
theorem dX7_orderByLow_103 : decode cX7_orderByLow 103 = .ok (.iload 5, 2) := by decide +kernel
theorem dX7_orderByLow_105 : decode cX7_orderByLow 105 = .ok (.goto 5, 3) := by decide +kernel
theorem dX7_orderByLow_108 : decode cX7_orderByLow 108 = .ok (.iload 6, 2) := by decide +kernel
theorem dX7_orderByLow_110 : decode cX7_orderByLow 110 = .ok (.ireturn, 1) := by decide +kernel
def FX7_orderByLow (G : GG) (M : DD) (a : Nat) (p0 : Option Nat) (p1 : Int32) (p2 : Int32) : Option (DD × Int32) :=
  bnd (if p2 = ((0 : Int32)) then (ltt (M.1 a 9) fun x31 =>
  some (x31)) else
  (some ((0 : Int32)))) fun (y1 : Int32) =>
  bnd (if p2 = ((0 : Int32)) then (ltt (M.1 a 8) fun x29 =>
  some (x29)) else
  (some ((0 : Int32)))) fun (y2 : Int32) =>
  ltt (uI M a 12 y2) fun M3 =>
  dr G 13 p0 fun b4 =>
  chk (¬ (((5 : Int32)) < 0 ∨ G.2.2 b4 ≤ ((5 : Int32)).toNatClampNeg)) <|
  ltt (M3.1 b4 ((5 : Int32)).toNatClampNeg) fun x5 =>
  ltt ((y1 - x5)) fun x6 =>
  ltt (p1 / ((2 : Int32))) fun x7 =>
  bnd (if x6 < x7 then (chk (¬ (((5 : Int32)) < 0 ∨ G.2.2 b4 ≤ ((5 : Int32)).toNatClampNeg)) <|
  ltt (M3.1 b4 ((5 : Int32)).toNatClampNeg) fun x17 =>
  ltt ((x17 - y1)) fun x18 =>
  ltt (p1 / ((2 : Int32))) fun x19 =>
  bnd (if x18 ≤ x19 then (some (M3)) else
  (ltt (M3.1 a 12) fun x22 =>
  ltt ((x22 - p1)) fun x23 =>
  ltt (uI M3 a 12 x23) fun M24 =>
  some (M24))) fun (y20 : DD) =>
  some (y20)) else
  (ltt (M3.1 a 12) fun x25 =>
  ltt ((x25 + p1)) fun x26 =>
  ltt (uI M3 a 12 x26) fun M27 =>
  some (M27))) fun (y8 : DD) =>
  ltt (y8.1 a 12) fun x9 =>
  chk (¬ (((5 : Int32)) < 0 ∨ G.2.2 b4 ≤ ((5 : Int32)).toNatClampNeg)) <|
  ltt (y8.1 b4 ((5 : Int32)).toNatClampNeg) fun x10 =>
  ltt ((x9 + x10)) fun x11 =>
  chk (¬ (((6 : Int32)) < 0 ∨ G.2.2 b4 ≤ ((6 : Int32)).toNatClampNeg)) <|
  ltt (y8.1 b4 ((6 : Int32)).toNatClampNeg) fun x12 =>
  ltt ((x11 + x12)) fun x13 =>
  bnd (if x13 ≤ x11 then (some (x13)) else
  (some (x11))) fun (y14 : Int32) =>
  some (y8, y14)
set_option maxHeartbeats 4000000 in
set_option maxRecDepth 100000 in
theorem kX7_orderByLow (l : Launch) (D : va_G) (ct : CT) (ad : Nat → Nat) (Z : Nat → Nat) (G : GG) (M : DD) (sz : Nat) (a : Nat) (p0 : Option Nat) (p1 : Int32) (p2 : Int32) (y : DD × Int32) (hc : a < G.1) (hk : G.2.1 a = 7) (hF : FX7_orderByLow G M a p0 p1 p2 = some y) : Met l yX7_orderByLow wuX7_orderByLow ({ frames := 0, cells := 0, slots := 0, locals := 0 }) (va_Pc [.ref (ad a), va_re ad p0, .int p1, .int p2] (kB D ct ad Z G M sz)) (va_Qi (fun (q : Int32) (_ : Unit) => q = y.2) (fun _ t => kE D ct ad G (wA ad G sz) y.1 t) (wA ad G sz)) 0 0 (wA ad G sz) := by
  refine Met.ofW (cc := cX7_orderByLow) (maxL := 7) (ret := (some .int)) (by decide) rfl ?_
  intro p e s m args below meth c s₁ B hml hv
  obtain ⟨rfl, hsz, hP, hK, hD0, hZ, hN⟩ := hv
  have hx := B.exec
  have hb := B.bytes
  have hr := B.returns
  have hts := atoms_spec (ws := wuX7_orderByLow) B.pre
  have hown : s.vm.findClass RX7 = some m.cls := findClass_of_methodNamed B.named
  have hlocks := B.notSynchronized
  subst hsz
  have hD := wD_self (sz := s.heap.size) hD0
  have hA9 : ∀ q, s.heap.size ≤ q → wA ad G s.heap.size q := fun q h => Or.inr h
  generalize hAe : wA ad G s.heap.size = A at hD hA9 hZ ⊢
  have hS : va_S A s.heap s.heap [] := va_S.rf
  have hl := lv_entry ([.ref (ad a), va_re ad p0, .int p1, .int p2]) (n := 7) (by cases p0 <;> exact Nat.le_of_ble_eq_true rfl)
  rw [lg_entry_eq]
  generalize (lg_sl ([.ref (ad a), va_re ad p0, .int p1, .int p2]) ++ List.replicate (7 - (lg_sl ([.ref (ad a), va_re ad p0, .int p1, .int p2])).length) Slot.unset).toArray = ls at hl ⊢
  have hl : lv_has ls 7 [(0, .ref (ad a)), (1, va_re ad p0), (2, .int p1), (3, .int p2)] := by have e9 : lv_args 0 [.ref (ad a), va_re ad p0, .int p1, .int p2] = [(0, .ref (ad a)), (1, va_re ad p0), (2, .int p1), (3, .int p2)] := (by cases p0 <;> rfl); rw [e9] at hl; exact hl
  unfold FX7_orderByLow at hF
  refine lv_iload_n hx hb dX7_orderByLow_0 rfl (lv_at hl 3 rfl) ?_
  obtain ⟨y1, hy1, hF⟩ := bnd_some hF
  have J1 : ∀ (H : Heap) (locs : List Loc) (ls : Array Slot), va_P D classes (wld ct ad G M) H → va_D A (wld ct ad G M) → va_S A s.heap H locs → lv_has ls 7 [(0, .ref (ad a)), (1, va_re ad p0), (2, .int p1), (3, .int p2)] → W p l e (headSpec wuX7_orderByLow ({ frames := 0, cells := 0, slots := 0, locals := 0 })).room s m ([.ref (ad a), va_re ad p0, .int p1, .int p2] : List Value).toArray below meth c H locs 0 0 (MQ below (va_Qi (fun (q : Int32) (_ : Unit) => q = y.2) (fun _ t => kE D ct ad G A y.1 t) A) ([.ref (ad a), va_re ad p0, .int p1, .int p2] : List Value).toArray s 0 0 A) (F0 m 12 ls [.int y1]) := by
    intro H locs ls hP hD hS hl
    refine lv_istore (lv' := [(4, .int y1), (0, .ref (ad a)), (1, va_re ad p0), (2, .int p1), (3, .int p2)]) hx hb dX7_orderByLow_12 hl (by decide) rfl (fun ls hl => ?_)
    refine lv_aload_n hx hb dX7_orderByLow_14 rfl (lv_at hl 1 rfl) ?_
    refine lv_iload_n hx hb dX7_orderByLow_15 rfl (lv_at hl 4 rfl) ?_
    obtain ⟨y2, hy2, hF⟩ := bnd_some hF
    have J2 : ∀ (H : Heap) (locs : List Loc) (ls : Array Slot), va_P D classes (wld ct ad G M) H → va_D A (wld ct ad G M) → va_S A s.heap H locs → lv_has ls 7 [(4, .int y1), (0, .ref (ad a)), (1, va_re ad p0), (2, .int p1), (3, .int p2)] → W p l e (headSpec wuX7_orderByLow ({ frames := 0, cells := 0, slots := 0, locals := 0 })).room s m ([.ref (ad a), va_re ad p0, .int p1, .int p2] : List Value).toArray below meth c H locs 0 0 (MQ below (va_Qi (fun (q : Int32) (_ : Unit) => q = y.2) (fun _ t => kE D ct ad G A y.1 t) A) ([.ref (ad a), va_re ad p0, .int p1, .int p2] : List Value).toArray s 0 0 A) (F0 m 27 ls [.int y2, .ref (ad a)]) := by
      intro H locs ls hP hD hS hl
      refine va_put (D := D) (ci := 7) (v := .int y2) (ty := .int) (C := RX7) (T := TX7) (N := 17) hx hb hts (mus hf_X7) tyX7 tyX7_ok nmX7 hown hK hP hD hS a (wld_o ct ad G M hc hk (by decide)) rfl 12 (by decide) (hts (.fieldLink RX7 82 "VideoSuite$Store" "high" "I") (mu mw_371)) (fun _ h9 => h9) rfl (by decide +kernel) rfl rfl (Nat.le_of_ble_eq_true rfl) dX7_orderByLow_27 (fun H locs hP hD hS => ?_)
      obtain ⟨M3, eM3, hF⟩ := ltt_some hF
      rw [set_oI ct ad G M hc hk (by decide) (by rfl), ← eM3] at hP hD
      refine lv_iload hx hb dX7_orderByLow_30 (lv_at hl 0 rfl) ?_
      refine lv_aloadq_n hx hb dX7_orderByLow_32 rfl (lv_at hl 2 rfl) ?_
      refine lv_iconst (v := (5 : Int32)) hx hb dX7_orderByLow_33 (by decide) ?_
      obtain ⟨b4, ho4, hc4, hk4, hF⟩ := dr_some hF
      refine W_st (st' := [.int (5 : Int32), .ref (ad b4), .int y1]) (by rw [va_some ho4]) ?_
      obtain ⟨hvc, hF⟩ := chk_some hF
      refine va_iald hx hb hK hP b4 1 (wld_i ct ad G M3 hc4 hk4) rfl hvc dX7_orderByLow_34 ?_
      obtain ⟨x5, ex5, hF⟩ := ltt_some hF
      refine lv_topi (fun zx5 ezx5 => ?_)
      obtain rfl : x5 = zx5 := ex5.trans ezx5.symm
      refine lv_isub hx hb dX7_orderByLow_35 ?_
      obtain ⟨x6, ex6, hF⟩ := ltt_some hF
      refine lv_topi (fun zx6 ezx6 => ?_)
      obtain rfl : x6 = zx6 := ex6.trans ezx6.symm
      refine lv_iload_n hx hb dX7_orderByLow_36 rfl (lv_at hl 3 rfl) ?_
      refine lv_iconst (v := (2 : Int32)) hx hb dX7_orderByLow_37 (by decide) ?_
      refine lv_idiv hx hb dX7_orderByLow_38 (by decide) ?_
      obtain ⟨x7, ex7, hF⟩ := ltt_some hF
      refine lv_topi (fun zx7 ezx7 => ?_)
      obtain rfl : x7 = zx7 := ex7.trans ezx7.symm
      obtain ⟨y8, hy8, hF⟩ := bnd_some hF
      have J8 : ∀ (H : Heap) (locs : List Loc) (ls : Array Slot), va_P D classes (wld ct ad G y8) H → va_D A (wld ct ad G y8) → va_S A s.heap H locs → lv_has ls 7 [(4, .int y1), (0, .ref (ad a)), (1, va_re ad p0), (2, .int p1), (3, .int p2)] → W p l e (headSpec wuX7_orderByLow ({ frames := 0, cells := 0, slots := 0, locals := 0 })).room s m ([.ref (ad a), va_re ad p0, .int p1, .int p2] : List Value).toArray below meth c H locs 0 0 (MQ below (va_Qi (fun (q : Int32) (_ : Unit) => q = y.2) (fun _ t => kE D ct ad G A y.1 t) A) ([.ref (ad a), va_re ad p0, .int p1, .int p2] : List Value).toArray s 0 0 A) (F0 m 77 ls []) := by
        intro H locs ls hP hD hS hl
        refine lv_aload_n hx hb dX7_orderByLow_77 rfl (lv_at hl 1 rfl) ?_
        refine va_get (D := D) (ci := 7) (v := .int (y8.1 a 12)) (C := RX7) (T := TX7) (N := 17) hx hb hts (mus hf_X7) hown hK hP a (wld_o ct ad G y8 hc hk (by decide)) rfl 12 (by decide) (hts (.fieldLink RX7 82 "VideoSuite$Store" "high" "I") (mu mw_371)) (fun _ h9 => h9) rfl dX7_orderByLow_78 ?_
        obtain ⟨x9, ex9, hF⟩ := ltt_some hF
        refine lv_topi (fun zx9 ezx9 => ?_)
        obtain rfl : x9 = zx9 := ex9.trans ezx9.symm
        refine lv_aloadq_n hx hb dX7_orderByLow_81 rfl (lv_at hl 2 rfl) ?_
        refine lv_iconst (v := (5 : Int32)) hx hb dX7_orderByLow_82 (by decide) ?_
        refine W_st (st' := [.int (5 : Int32), .ref (ad b4), .int x9]) (by rw [va_some ho4]) ?_
        obtain ⟨hvc, hF⟩ := chk_some hF
        refine va_iald hx hb hK hP b4 1 (wld_i ct ad G y8 hc4 hk4) rfl hvc dX7_orderByLow_83 ?_
        obtain ⟨x10, ex10, hF⟩ := ltt_some hF
        refine lv_topi (fun zx10 ezx10 => ?_)
        obtain rfl : x10 = zx10 := ex10.trans ezx10.symm
        refine lv_iadd hx hb dX7_orderByLow_84 ?_
        obtain ⟨x11, ex11, hF⟩ := ltt_some hF
        refine lv_topi (fun zx11 ezx11 => ?_)
        obtain rfl : x11 = zx11 := ex11.trans ezx11.symm
        refine lv_istore (lv' := [(5, .int x11), (4, .int y1), (0, .ref (ad a)), (1, va_re ad p0), (2, .int p1), (3, .int p2)]) hx hb dX7_orderByLow_85 hl (by decide) rfl (fun ls hl => ?_)
        refine lv_iload hx hb dX7_orderByLow_87 (lv_at hl 0 rfl) ?_
        refine lv_aloadq_n hx hb dX7_orderByLow_89 rfl (lv_at hl 3 rfl) ?_
        refine lv_bipush (v := (6 : Int32)) hx hb dX7_orderByLow_90 (by decide) ?_
        refine W_st (st' := [.int (6 : Int32), .ref (ad b4), .int x11]) (by rw [va_some ho4]) ?_
        obtain ⟨hvc, hF⟩ := chk_some hF
        refine va_iald hx hb hK hP b4 1 (wld_i ct ad G y8 hc4 hk4) rfl hvc dX7_orderByLow_92 ?_
        obtain ⟨x12, ex12, hF⟩ := ltt_some hF
        refine lv_topi (fun zx12 ezx12 => ?_)
        obtain rfl : x12 = zx12 := ex12.trans ezx12.symm
        refine lv_iadd hx hb dX7_orderByLow_93 ?_
        obtain ⟨x13, ex13, hF⟩ := ltt_some hF
        refine lv_topi (fun zx13 ezx13 => ?_)
        obtain rfl : x13 = zx13 := ex13.trans ezx13.symm
        refine lv_istore (lv' := [(6, .int x13), (5, .int x11), (4, .int y1), (0, .ref (ad a)), (1, va_re ad p0), (2, .int p1), (3, .int p2)]) hx hb dX7_orderByLow_94 hl (by decide) rfl (fun ls hl => ?_)
        refine lv_iload hx hb dX7_orderByLow_96 (lv_at hl 1 rfl) ?_
        refine lv_iload hx hb dX7_orderByLow_98 (lv_at hl 0 rfl) ?_
        obtain ⟨y14, hy14, hF⟩ := bnd_some hF
        have J14 : ∀ (H : Heap) (locs : List Loc) (ls : Array Slot), va_P D classes (wld ct ad G y8) H → va_D A (wld ct ad G y8) → va_S A s.heap H locs → lv_has ls 7 [(6, .int x13), (5, .int x11), (4, .int y1), (0, .ref (ad a)), (1, va_re ad p0), (2, .int p1), (3, .int p2)] → W p l e (headSpec wuX7_orderByLow ({ frames := 0, cells := 0, slots := 0, locals := 0 })).room s m ([.ref (ad a), va_re ad p0, .int p1, .int p2] : List Value).toArray below meth c H locs 0 0 (MQ below (va_Qi (fun (q : Int32) (_ : Unit) => q = y.2) (fun _ t => kE D ct ad G A y.1 t) A) ([.ref (ad a), va_re ad p0, .int p1, .int p2] : List Value).toArray s 0 0 A) (F0 m 110 ls [.int y14]) := by
          intro H locs ls hP hD hS hl
          obtain rfl := Option.some.inj hF
          exact W.iret (v := y14) hx hb hr (fun t ht hW => ⟨⟨_, (), rfl, rfl, ⟨by rw [ht]; exact hP, va_K.moved hW.alike hK, hD⟩⟩, hS.F ht⟩) hS.2.2 dX7_orderByLow_110
        clear hF
        have hF := hy14
        clear hy14
        refine lv_icmp_ge (tgt := 108) hx hb dX7_orderByLow_100 (by decide) (fun c15 => ?_) (fun c15 => ?_)
        · rw [if_pos c15] at hF
          refine lv_iload hx hb dX7_orderByLow_108 (lv_at hl 0 rfl) ?_
          obtain rfl := Option.some.inj hF
          exact J14 _ _ _ hP hD hS (lv_sub hl [0, 1, 2, 3, 4, 5, 6] rfl)
        · rw [if_neg c15] at hF
          refine lv_iload hx hb dX7_orderByLow_103 (lv_at hl 1 rfl) ?_
          refine lv_goto (tgt := 110) hx hb dX7_orderByLow_105 (by decide) ?_
          obtain rfl := Option.some.inj hF
          exact J14 _ _ _ hP hD hS (lv_sub hl [0, 1, 2, 3, 4, 5, 6] rfl)
      clear hF
      have hF := hy8
      clear hy8
      refine lv_icmp_lt (tgt := 55) hx hb dX7_orderByLow_39 (by decide) (fun c16 => ?_) (fun c16 => ?_)
      · rw [if_pos c16] at hF
        refine lv_aloadq_n hx hb dX7_orderByLow_55 rfl (lv_at hl 2 rfl) ?_
        refine lv_iconst (v := (5 : Int32)) hx hb dX7_orderByLow_56 (by decide) ?_
        refine W_st (st' := [.int (5 : Int32), .ref (ad b4)]) (by rw [va_some ho4]) ?_
        obtain ⟨hvc, hF⟩ := chk_some hF
        refine va_iald hx hb hK hP b4 1 (wld_i ct ad G M3 hc4 hk4) rfl hvc dX7_orderByLow_57 ?_
        obtain ⟨x17, ex17, hF⟩ := ltt_some hF
        refine lv_topi (fun zx17 ezx17 => ?_)
        obtain rfl : x17 = zx17 := ex17.trans ezx17.symm
        refine lv_iload hx hb dX7_orderByLow_58 (lv_at hl 0 rfl) ?_
        refine lv_isub hx hb dX7_orderByLow_60 ?_
        obtain ⟨x18, ex18, hF⟩ := ltt_some hF
        refine lv_topi (fun zx18 ezx18 => ?_)
        obtain rfl : x18 = zx18 := ex18.trans ezx18.symm
        refine lv_iload_n hx hb dX7_orderByLow_61 rfl (lv_at hl 3 rfl) ?_
        refine lv_iconst (v := (2 : Int32)) hx hb dX7_orderByLow_62 (by decide) ?_
        refine lv_idiv hx hb dX7_orderByLow_63 (by decide) ?_
        obtain ⟨x19, ex19, hF⟩ := ltt_some hF
        refine lv_topi (fun zx19 ezx19 => ?_)
        obtain rfl : x19 = zx19 := ex19.trans ezx19.symm
        obtain ⟨y20, hy20, hF⟩ := bnd_some hF
        have J20 : ∀ (H : Heap) (locs : List Loc) (ls : Array Slot), va_P D classes (wld ct ad G y20) H → va_D A (wld ct ad G y20) → va_S A s.heap H locs → lv_has ls 7 [(4, .int y1), (0, .ref (ad a)), (1, va_re ad p0), (2, .int p1), (3, .int p2)] → W p l e (headSpec wuX7_orderByLow ({ frames := 0, cells := 0, slots := 0, locals := 0 })).room s m ([.ref (ad a), va_re ad p0, .int p1, .int p2] : List Value).toArray below meth c H locs 0 0 (MQ below (va_Qi (fun (q : Int32) (_ : Unit) => q = y.2) (fun _ t => kE D ct ad G A y.1 t) A) ([.ref (ad a), va_re ad p0, .int p1, .int p2] : List Value).toArray s 0 0 A) (F0 m 77 ls []) := by
          intro H locs ls hP hD hS hl
          obtain rfl := Option.some.inj hF
          exact J8 _ _ _ hP hD hS (lv_sub hl [0, 1, 2, 3, 4] rfl)
        clear hF
        have hF := hy20
        clear hy20
        refine lv_icmp_le (tgt := 77) hx hb dX7_orderByLow_64 (by decide) (fun c21 => ?_) (fun c21 => ?_)
        · rw [if_pos c21] at hF
          obtain rfl := Option.some.inj hF
          exact J20 _ _ _ hP hD hS (lv_sub hl [0, 1, 2, 3, 4] rfl)
        · rw [if_neg c21] at hF
          refine lv_aload_n hx hb dX7_orderByLow_67 rfl (lv_at hl 1 rfl) ?_
          refine lv_dup hx hb dX7_orderByLow_68 rfl ?_
          refine va_get (D := D) (ci := 7) (v := .int (M3.1 a 12)) (C := RX7) (T := TX7) (N := 17) hx hb hts (mus hf_X7) hown hK hP a (wld_o ct ad G M3 hc hk (by decide)) rfl 12 (by decide) (hts (.fieldLink RX7 82 "VideoSuite$Store" "high" "I") (mu mw_371)) (fun _ h9 => h9) rfl dX7_orderByLow_69 ?_
          obtain ⟨x22, ex22, hF⟩ := ltt_some hF
          refine lv_topi (fun zx22 ezx22 => ?_)
          obtain rfl : x22 = zx22 := ex22.trans ezx22.symm
          refine lv_iload_n hx hb dX7_orderByLow_72 rfl (lv_at hl 3 rfl) ?_
          refine lv_isub hx hb dX7_orderByLow_73 ?_
          obtain ⟨x23, ex23, hF⟩ := ltt_some hF
          refine lv_topi (fun zx23 ezx23 => ?_)
          obtain rfl : x23 = zx23 := ex23.trans ezx23.symm
          refine va_put (D := D) (ci := 7) (v := .int x23) (ty := .int) (C := RX7) (T := TX7) (N := 17) hx hb hts (mus hf_X7) tyX7 tyX7_ok nmX7 hown hK hP hD hS a (wld_o ct ad G M3 hc hk (by decide)) rfl 12 (by decide) (hts (.fieldLink RX7 82 "VideoSuite$Store" "high" "I") (mu mw_371)) (fun _ h9 => h9) rfl (by decide +kernel) rfl rfl (Nat.le_of_ble_eq_true rfl) dX7_orderByLow_74 (fun H locs hP hD hS => ?_)
          obtain ⟨M24, eM24, hF⟩ := ltt_some hF
          rw [set_oI ct ad G M3 hc hk (by decide) (by rfl), ← eM24] at hP hD
          obtain rfl := Option.some.inj hF
          exact J20 _ _ _ hP hD hS (lv_sub hl [0, 1, 2, 3, 4] rfl)
      · rw [if_neg c16] at hF
        refine lv_aload_n hx hb dX7_orderByLow_42 rfl (lv_at hl 1 rfl) ?_
        refine lv_dup hx hb dX7_orderByLow_43 rfl ?_
        refine va_get (D := D) (ci := 7) (v := .int (M3.1 a 12)) (C := RX7) (T := TX7) (N := 17) hx hb hts (mus hf_X7) hown hK hP a (wld_o ct ad G M3 hc hk (by decide)) rfl 12 (by decide) (hts (.fieldLink RX7 82 "VideoSuite$Store" "high" "I") (mu mw_371)) (fun _ h9 => h9) rfl dX7_orderByLow_44 ?_
        obtain ⟨x25, ex25, hF⟩ := ltt_some hF
        refine lv_topi (fun zx25 ezx25 => ?_)
        obtain rfl : x25 = zx25 := ex25.trans ezx25.symm
        refine lv_iload_n hx hb dX7_orderByLow_47 rfl (lv_at hl 3 rfl) ?_
        refine lv_iadd hx hb dX7_orderByLow_48 ?_
        obtain ⟨x26, ex26, hF⟩ := ltt_some hF
        refine lv_topi (fun zx26 ezx26 => ?_)
        obtain rfl : x26 = zx26 := ex26.trans ezx26.symm
        refine va_put (D := D) (ci := 7) (v := .int x26) (ty := .int) (C := RX7) (T := TX7) (N := 17) hx hb hts (mus hf_X7) tyX7 tyX7_ok nmX7 hown hK hP hD hS a (wld_o ct ad G M3 hc hk (by decide)) rfl 12 (by decide) (hts (.fieldLink RX7 82 "VideoSuite$Store" "high" "I") (mu mw_371)) (fun _ h9 => h9) rfl (by decide +kernel) rfl rfl (Nat.le_of_ble_eq_true rfl) dX7_orderByLow_49 (fun H locs hP hD hS => ?_)
        obtain ⟨M27, eM27, hF⟩ := ltt_some hF
        rw [set_oI ct ad G M3 hc hk (by decide) (by rfl), ← eM27] at hP hD
        refine lv_goto (tgt := 77) hx hb dX7_orderByLow_52 (by decide) ?_
        obtain rfl := Option.some.inj hF
        exact J8 _ _ _ hP hD hS (lv_sub hl [0, 1, 2, 3, 4] rfl)
    clear hF
    have hF := hy2
    clear hy2
    refine lv_if_eq (tgt := 23) hx hb dX7_orderByLow_16 (by decide) (fun c28 => ?_) (fun c28 => ?_)
    · rw [if_pos c28] at hF
      refine lv_aload_n hx hb dX7_orderByLow_23 rfl (lv_at hl 1 rfl) ?_
      refine va_get (D := D) (ci := 7) (v := .int (M.1 a 8)) (C := RX7) (T := TX7) (N := 17) hx hb hts (mus hf_X7) hown hK hP a (wld_o ct ad G M hc hk (by decide)) rfl 8 (by decide) (hts (.fieldLink RX7 46 "VideoSuite$Store" "highBefore" "I") (mu mw_367)) (fun _ h9 => h9) rfl dX7_orderByLow_24 ?_
      obtain ⟨x29, ex29, hF⟩ := ltt_some hF
      refine lv_topi (fun zx29 ezx29 => ?_)
      obtain rfl : x29 = zx29 := ex29.trans ezx29.symm
      obtain rfl := Option.some.inj hF
      exact J2 _ _ _ hP hD hS (lv_sub hl [0, 1, 2, 3, 4] rfl)
    · rw [if_neg c28] at hF
      refine lv_iconst (v := (0 : Int32)) hx hb dX7_orderByLow_19 (by decide) ?_
      refine lv_goto (tgt := 27) hx hb dX7_orderByLow_20 (by decide) ?_
      obtain rfl := Option.some.inj hF
      exact J2 _ _ _ hP hD hS (lv_sub hl [0, 1, 2, 3, 4] rfl)
  clear hF
  have hF := hy1
  clear hy1
  refine lv_if_eq (tgt := 8) hx hb dX7_orderByLow_1 (by decide) (fun c30 => ?_) (fun c30 => ?_)
  · rw [if_pos c30] at hF
    refine lv_aload_n hx hb dX7_orderByLow_8 rfl (lv_at hl 0 rfl) ?_
    refine va_get (D := D) (ci := 7) (v := .int (M.1 a 9)) (C := RX7) (T := TX7) (N := 17) hx hb hts (mus hf_X7) hown hK hP a (wld_o ct ad G M hc hk (by decide)) rfl 9 (by decide) (hts (.fieldLink RX7 49 "VideoSuite$Store" "lowBefore" "I") (mu mw_368)) (fun _ h9 => h9) rfl dX7_orderByLow_9 ?_
    obtain ⟨x31, ex31, hF⟩ := ltt_some hF
    refine lv_topi (fun zx31 ezx31 => ?_)
    obtain rfl : x31 = zx31 := ex31.trans ezx31.symm
    obtain rfl := Option.some.inj hF
    exact J1 _ _ _ hP hD hS (lv_sub hl [0, 1, 2, 3] rfl)
  · rw [if_neg c30] at hF
    refine lv_iconst (v := (0 : Int32)) hx hb dX7_orderByLow_4 (by decide) ?_
    refine lv_goto (tgt := 12) hx hb dX7_orderByLow_5 (by decide) ?_
    obtain rfl := Option.some.inj hF
    exact J1 _ _ _ hP hD hS (lv_sub hl [0, 1, 2, 3] rfl)
set_option maxRecDepth 20000 in
theorem gX7_orderOf_X3_isOwn : GoodIn wuX7_orderOf (wsV RX7 78 RX3 yX3_isOwn wuX3_isOwn) := gu_V mw_1004 mw_1005 mw_1006 mw_174 mw_1007
set_option maxRecDepth 20000 in
set_option maxRecDepth 20000 in
theorem gX7_orderOf_X7_orderByLow : GoodIn wuX7_orderOf (wsV RX7 88 RX7 yX7_orderByLow wuX7_orderByLow) := gu_V mw_1543 mw_1545 mw_45 mw_170 mw_1546
theorem dX7_orderOf_0 : decode cX7_orderOf 0 = .ok (.aload_n 1, 1) := by decide +kernel
theorem dX7_orderOf_1 : decode cX7_orderOf 1 = .ok (.getfield 73, 3) := by decide +kernel
theorem dX7_orderOf_4 : decode cX7_orderOf 4 = .ok (.astore_n 3, 1) := by decide +kernel
theorem dX7_orderOf_5 : decode cX7_orderOf 5 = .ok (.aload_n 1, 1) := by decide +kernel
theorem dX7_orderOf_6 : decode cX7_orderOf 6 = .ok (.invokevirtual 78, 3) := by decide +kernel
theorem dX7_orderOf_9 : decode cX7_orderOf 9 = .ok (.istore 4, 2) := by decide +kernel
theorem dX7_orderOf_11 : decode cX7_orderOf 11 = .ok (.aload_n 3, 1) := by decide +kernel
theorem dX7_orderOf_12 : decode cX7_orderOf 12 = .ok (.bipush 11, 2) := by decide +kernel
theorem dX7_orderOf_14 : decode cX7_orderOf 14 = .ok (.iaload, 1) := by decide +kernel
theorem dX7_orderOf_15 : decode cX7_orderOf 15 = .ok (.ifCond .ne 7, 3) := by decide +kernel
theorem dX7_orderOf_18 : decode cX7_orderOf 18 = .ok (.iconst 1, 1) := by decide +kernel
theorem dX7_orderOf_19 : decode cX7_orderOf 19 = .ok (.goto 4, 3) := by decide +kernel
theorem dX7_orderOf_22 : decode cX7_orderOf 22 = .ok (.iconst 0, 1) := by decide +kernel
theorem dX7_orderOf_23 : decode cX7_orderOf 23 = .ok (.istore 5, 2) := by decide +kernel
theorem dX7_orderOf_25 : decode cX7_orderOf 25 = .ok (.aload_n 0, 1) := by decide +kernel
theorem dX7_orderOf_26 : decode cX7_orderOf 26 = .ok (.iconst 0, 1) := by decide +kernel
theorem dX7_orderOf_27 : decode cX7_orderOf 27 = .ok (.putfield 82, 3) := by decide +kernel
theorem dX7_orderOf_30 : decode cX7_orderOf 30 = .ok (.aload_n 0, 1) := by decide +kernel
theorem dX7_orderOf_31 : decode cX7_orderOf 31 = .ok (.iload 4, 2) := by decide +kernel
theorem dX7_orderOf_33 : decode cX7_orderOf 33 = .ok (.ifCond .eq 7, 3) := by decide +kernel
theorem dX7_orderOf_36 : decode cX7_orderOf 36 = .ok (.iconst 0, 1) := by decide +kernel
theorem dX7_orderOf_37 : decode cX7_orderOf 37 = .ok (.goto 27, 3) := by decide +kernel
theorem dX7_orderOf_40 : decode cX7_orderOf 40 = .ok (.aload_n 0, 1) := by decide +kernel
theorem dX7_orderOf_41 : decode cX7_orderOf 41 = .ok (.getfield 52, 3) := by decide +kernel
theorem dX7_orderOf_44 : decode cX7_orderOf 44 = .ok (.aload_n 0, 1) := by decide +kernel
theorem dX7_orderOf_45 : decode cX7_orderOf 45 = .ok (.getfield 55, 3) := by decide +kernel
theorem dX7_orderOf_48 : decode cX7_orderOf 48 = .ok (.aload_n 3, 1) := by decide +kernel
theorem dX7_orderOf_49 : decode cX7_orderOf 49 = .ok (.iconst 3, 1) := by decide +kernel
theorem dX7_orderOf_50 : decode cX7_orderOf 50 = .ok (.iaload, 1) := by decide +kernel
theorem dX7_orderOf_51 : decode cX7_orderOf 51 = .ok (.if_icmp .le 11, 3) := by decide +kernel
theorem dX7_orderOf_54 : decode cX7_orderOf 54 = .ok (.iconst 1, 1) := by decide +kernel
theorem dX7_orderOf_55 : decode cX7_orderOf 55 = .ok (.aload_n 2, 1) := by decide +kernel
theorem dX7_orderOf_56 : decode cX7_orderOf 56 = .ok (.iconst 2, 1) := by decide +kernel
theorem dX7_orderOf_57 : decode cX7_orderOf 57 = .ok (.iaload, 1) := by decide +kernel
theorem dX7_orderOf_58 : decode cX7_orderOf 58 = .ok (.ishl, 1) := by decide +kernel
theorem dX7_orderOf_59 : decode cX7_orderOf 59 = .ok (.goto 4, 3) := by decide +kernel
theorem dX7_orderOf_62 : decode cX7_orderOf 62 = .ok (.iconst 0, 1) := by decide +kernel
theorem dX7_orderOf_63 : decode cX7_orderOf 63 = .ok (.iadd, 1) := by decide +kernel
theorem dX7_orderOf_64 : decode cX7_orderOf 64 = .ok (.putfield 85, 3) := by decide +kernel
theorem dX7_orderOf_67 : decode cX7_orderOf 67 = .ok (.aload_n 2, 1) := by decide +kernel
theorem dX7_orderOf_68 : decode cX7_orderOf 68 = .ok (.iconst 3, 1) := by decide +kernel
theorem dX7_orderOf_69 : decode cX7_orderOf 69 = .ok (.iaload, 1) := by decide +kernel
theorem dX7_orderOf_70 : decode cX7_orderOf 70 = .ok (.ifCond .ne 16, 3) := by decide +kernel
theorem dX7_orderOf_73 : decode cX7_orderOf 73 = .ok (.aload_n 0, 1) := by decide +kernel
theorem dX7_orderOf_74 : decode cX7_orderOf 74 = .ok (.aload_n 3, 1) := by decide +kernel
theorem dX7_orderOf_75 : decode cX7_orderOf 75 = .ok (.iconst 1, 1) := by decide +kernel
theorem dX7_orderOf_76 : decode cX7_orderOf 76 = .ok (.aload_n 2, 1) := by decide +kernel
theorem dX7_orderOf_77 : decode cX7_orderOf 77 = .ok (.iconst 4, 1) := by decide +kernel
theorem dX7_orderOf_78 : decode cX7_orderOf 78 = .ok (.iaload, 1) := by decide +kernel
theorem dX7_orderOf_79 : decode cX7_orderOf 79 = .ok (.ishl, 1) := by decide +kernel
theorem dX7_orderOf_80 : decode cX7_orderOf 80 = .ok (.iload 4, 2) := by decide +kernel
theorem dX7_orderOf_82 : decode cX7_orderOf 82 = .ok (.invokevirtual 88, 3) := by decide +kernel
theorem dX7_orderOf_85 : decode cX7_orderOf 85 = .ok (.ireturn, 1) := by decide +kernel
theorem dX7_orderOf_86 : decode cX7_orderOf 86 = .ok (.aload_n 2, 1) := by decide +kernel
theorem dX7_orderOf_87 : decode cX7_orderOf 87 = .ok (.iconst 3, 1) := by decide +kernel
theorem dX7_orderOf_88 : decode cX7_orderOf 88 = .ok (.iaload, 1) := by decide +kernel
theorem dX7_orderOf_89 : decode cX7_orderOf 89 = .ok (.iconst 2, 1) := by decide +kernel
theorem dX7_orderOf_90 : decode cX7_orderOf 90 = .ok (.if_icmp .ne 26, 3) := by decide +kernel
theorem dX7_orderOf_93 : decode cX7_orderOf 93 = .ok (.iload 4, 2) := by decide +kernel
theorem dX7_orderOf_95 : decode cX7_orderOf 95 = .ok (.ifCond .eq 7, 3) := by decide +kernel
theorem dX7_orderOf_98 : decode cX7_orderOf 98 = .ok (.iconst 0, 1) := by decide +kernel
theorem dX7_orderOf_99 : decode cX7_orderOf 99 = .ok (.goto 16, 3) := by decide +kernel
theorem dX7_orderOf_102 : decode cX7_orderOf 102 = .ok (.iconst 2, 1) := by decide +kernel
theorem dX7_orderOf_103 : decode cX7_orderOf 103 = .ok (.aload_n 0, 1) := by decide +kernel
theorem dX7_orderOf_104 : decode cX7_orderOf 104 = .ok (.getfield 85, 3) := by decide +kernel
theorem dX7_orderOf_107 : decode cX7_orderOf 107 = .ok (.aload_n 3, 1) := by decide +kernel
theorem dX7_orderOf_108 : decode cX7_orderOf 108 = .ok (.iconst 3, 1) := by decide +kernel
theorem dX7_orderOf_109 : decode cX7_orderOf 109 = .ok (.iaload, 1) := by decide +kernel
theorem dX7_orderOf_110 : decode cX7_orderOf 110 = .ok (.iadd, 1) := by decide +kernel
theorem dX7_orderOf_111 : decode cX7_orderOf 111 = .ok (.imul, 1) := by decide +kernel
theorem dX7_orderOf_112 : decode cX7_orderOf 112 = .ok (.iload 5, 2) := by decide +kernel
theorem dX7_orderOf_114 : decode cX7_orderOf 114 = .ok (.isub, 1) := by decide +kernel
theorem dX7_orderOf_115 : decode cX7_orderOf 115 = .ok (.ireturn, 1) := by decide +kernel
theorem dX7_orderOf_116 : decode cX7_orderOf 116 = .ok (.aload_n 2, 1) := by decide +kernel
theorem dX7_orderOf_117 : decode cX7_orderOf 117 = .ok (.bipush 14, 2) := by decide +kernel
theorem dX7_orderOf_119 : decode cX7_orderOf 119 = .ok (.iaload, 1) := by decide +kernel
theorem dX7_orderOf_120 : decode cX7_orderOf 120 = .ok (.istore 6, 2) := by decide +kernel
theorem dX7_orderOf_122 : decode cX7_orderOf 122 = .ok (.iload 6, 2) := by decide +kernel
theorem dX7_orderOf_124 : decode cX7_orderOf 124 = .ok (.ifCond .ne 7, 3) := by decide +kernel
theorem dX7_orderOf_127 : decode cX7_orderOf 127 = .ok (.iconst 0, 1) := by decide +kernel
theorem dX7_orderOf_128 : decode cX7_orderOf 128 = .ok (.goto 11, 3) := by decide +kernel
theorem dX7_orderOf_131 : decode cX7_orderOf 131 = .ok (.aload_n 0, 1) := by decide +kernel
theorem dX7_orderOf_132 : decode cX7_orderOf 132 = .ok (.getfield 85, 3) := by decide +kernel
theorem dX7_orderOf_135 : decode cX7_orderOf 135 = .ok (.aload_n 3, 1) := by decide +kernel
theorem dX7_orderOf_136 : decode cX7_orderOf 136 = .ok (.iconst 3, 1) := by decide +kernel
theorem dX7_orderOf_137 : decode cX7_orderOf 137 = .ok (.iaload, 1) := by decide +kernel
theorem dX7_orderOf_138 : decode cX7_orderOf 138 = .ok (.iadd, 1) := by decide +kernel
theorem dX7_orderOf_139 : decode cX7_orderOf 139 = .ok (.istore 7, 2) := by decide +kernel
theorem dX7_orderOf_141 : decode cX7_orderOf 141 = .ok (.iload 7, 2) := by decide +kernel
theorem dX7_orderOf_143 : decode cX7_orderOf 143 = .ok (.iload 7, 2) := by decide +kernel
theorem dX7_orderOf_145 : decode cX7_orderOf 145 = .ok (.ifCond .le 8, 3) := by decide +kernel
theorem dX7_orderOf_148 : decode cX7_orderOf 148 = .ok (.iload 5, 2) := by decide +kernel
theorem dX7_orderOf_150 : decode cX7_orderOf 150 = .ok (.goto 4, 3) := by decide +kernel
theorem dX7_orderOf_153 : decode cX7_orderOf 153 = .ok (.iconst 0, 1) := by decide +kernel
theorem dX7_orderOf_154 : decode cX7_orderOf 154 = .ok (.isub, 1) := by decide +kernel
theorem dX7_orderOf_155 : decode cX7_orderOf 155 = .ok (.istore 7, 2) := by decide +kernel
theorem dX7_orderOf_157 : decode cX7_orderOf 157 = .ok (.iconst 0, 1) := by decide +kernel
theorem dX7_orderOf_158 : decode cX7_orderOf 158 = .ok (.istore 8, 2) := by decide +kernel
theorem dX7_orderOf_160 : decode cX7_orderOf 160 = .ok (.iload 7, 2) := by decide +kernel
theorem dX7_orderOf_162 : decode cX7_orderOf 162 = .ok (.ifCond .le 95, 3) := by decide +kernel
theorem dX7_orderOf_165 : decode cX7_orderOf 165 = .ok (.iload 6, 2) := by decide +kernel
theorem dX7_orderOf_167 : decode cX7_orderOf 167 = .ok (.ifCond .le 90, 3) := by decide +kernel
theorem dX7_orderOf_170 : decode cX7_orderOf 170 = .ok (.iconst 0, 1) := by decide +kernel
theorem dX7_orderOf_171 : decode cX7_orderOf 171 = .ok (.istore 9, 2) := by decide +kernel
theorem dX7_orderOf_173 : decode cX7_orderOf 173 = .ok (.iconst 0, 1) := by decide +kernel
theorem dX7_orderOf_174 : decode cX7_orderOf 174 = .ok (.istore 10, 2) := by decide +kernel
theorem dX7_orderOf_176 : decode cX7_orderOf 176 = .ok (.iconst 0, 1) := by decide +kernel
theorem dX7_orderOf_177 : decode cX7_orderOf 177 = .ok (.istore 11, 2) := by decide +kernel
theorem dX7_orderOf_179 : decode cX7_orderOf 179 = .ok (.iload 11, 2) := by decide +kernel
theorem dX7_orderOf_181 : decode cX7_orderOf 181 = .ok (.iload 6, 2) := by decide +kernel
theorem dX7_orderOf_183 : decode cX7_orderOf 183 = .ok (.if_icmp .ge 59, 3) := by decide +kernel
theorem dX7_orderOf_186 : decode cX7_orderOf 186 = .ok (.bipush 15, 2) := by decide +kernel
theorem dX7_orderOf_188 : decode cX7_orderOf 188 = .ok (.iload 11, 2) := by decide +kernel
theorem dX7_orderOf_190 : decode cX7_orderOf 190 = .ok (.iadd, 1) := by decide +kernel
theorem dX7_orderOf_191 : decode cX7_orderOf 191 = .ok (.bipush 23, 2) := by decide +kernel
theorem dX7_orderOf_193 : decode cX7_orderOf 193 = .ok (.if_icmp .ge 49, 3) := by decide +kernel
theorem dX7_orderOf_196 : decode cX7_orderOf 196 = .ok (.iload 9, 2) := by decide +kernel
theorem dX7_orderOf_198 : decode cX7_orderOf 198 = .ok (.aload_n 2, 1) := by decide +kernel
theorem dX7_orderOf_199 : decode cX7_orderOf 199 = .ok (.bipush 15, 2) := by decide +kernel
theorem dX7_orderOf_201 : decode cX7_orderOf 201 = .ok (.iload 11, 2) := by decide +kernel
theorem dX7_orderOf_203 : decode cX7_orderOf 203 = .ok (.iadd, 1) := by decide +kernel
theorem dX7_orderOf_204 : decode cX7_orderOf 204 = .ok (.iaload, 1) := by decide +kernel
theorem dX7_orderOf_205 : decode cX7_orderOf 205 = .ok (.iadd, 1) := by decide +kernel
theorem dX7_orderOf_206 : decode cX7_orderOf 206 = .ok (.istore 9, 2) := by decide +kernel
theorem dX7_orderOf_208 : decode cX7_orderOf 208 = .ok (.iload 10, 2) := by decide +kernel
theorem dX7_orderOf_210 : decode cX7_orderOf 210 = .ok (.iload 11, 2) := by decide +kernel
theorem dX7_orderOf_212 : decode cX7_orderOf 212 = .ok (.iload 7, 2) := by decide +kernel
theorem dX7_orderOf_214 : decode cX7_orderOf 214 = .ok (.iconst 1, 1) := by decide +kernel
theorem dX7_orderOf_215 : decode cX7_orderOf 215 = .ok (.isub, 1) := by decide +kernel
theorem dX7_orderOf_216 : decode cX7_orderOf 216 = .ok (.iload 6, 2) := by decide +kernel
theorem dX7_orderOf_218 : decode cX7_orderOf 218 = .ok (.irem, 1) := by decide +kernel
theorem dX7_orderOf_219 : decode cX7_orderOf 219 = .ok (.if_icmp .gt 13, 3) := by decide +kernel
theorem dX7_orderOf_222 : decode cX7_orderOf 222 = .ok (.aload_n 2, 1) := by decide +kernel
theorem dX7_orderOf_223 : decode cX7_orderOf 223 = .ok (.bipush 15, 2) := by decide +kernel
theorem dX7_orderOf_225 : decode cX7_orderOf 225 = .ok (.iload 11, 2) := by decide +kernel
theorem dX7_orderOf_227 : decode cX7_orderOf 227 = .ok (.iadd, 1) := by decide +kernel
theorem dX7_orderOf_228 : decode cX7_orderOf 228 = .ok (.iaload, 1) := by decide +kernel
theorem dX7_orderOf_229 : decode cX7_orderOf 229 = .ok (.goto 4, 3) := by decide +kernel
theorem dX7_orderOf_232 : decode cX7_orderOf 232 = .ok (.iconst 0, 1) := by decide +kernel
theorem dX7_orderOf_233 : decode cX7_orderOf 233 = .ok (.iadd, 1) := by decide +kernel
theorem dX7_orderOf_234 : decode cX7_orderOf 234 = .ok (.istore 10, 2) := by decide +kernel
theorem dX7_orderOf_236 : decode cX7_orderOf 236 = .ok (.iinc 11 1, 3) := by decide +kernel
theorem dX7_orderOf_239 : decode cX7_orderOf 239 = .ok (.goto (-60), 3) := by decide +kernel
theorem dX7_orderOf_242 : decode cX7_orderOf 242 = .ok (.iload 7, 2) := by decide +kernel
theorem dX7_orderOf_244 : decode cX7_orderOf 244 = .ok (.iconst 1, 1) := by decide +kernel
theorem dX7_orderOf_245 : decode cX7_orderOf 245 = .ok (.isub, 1) := by decide +kernel
theorem dX7_orderOf_246 : decode cX7_orderOf 246 = .ok (.iload 6, 2) := by decide +kernel
theorem dX7_orderOf_248 : decode cX7_orderOf 248 = .ok (.idiv, 1) := by decide +kernel
theorem dX7_orderOf_249 : decode cX7_orderOf 249 = .ok (.iload 9, 2) := by decide +kernel
theorem dX7_orderOf_251 : decode cX7_orderOf 251 = .ok (.imul, 1) := by decide +kernel
theorem dX7_orderOf_252 : decode cX7_orderOf 252 = .ok (.iload 10, 2) := by decide +kernel
theorem dX7_orderOf_254 : decode cX7_orderOf 254 = .ok (.iadd, 1) := by decide +kernel
theorem dX7_orderOf_255 : decode cX7_orderOf 255 = .ok (.istore 8, 2) := by decide +kernel
theorem dX7_orderOf_257 : decode cX7_orderOf 257 = .ok (.iload 8, 2) := by decide +kernel
theorem dX7_orderOf_259 : decode cX7_orderOf 259 = .ok (.iload 5, 2) := by decide +kernel
theorem dX7_orderOf_261 : decode cX7_orderOf 261 = .ok (.iconst 1, 1) := by decide +kernel
theorem dX7_orderOf_262 : decode cX7_orderOf 262 = .ok (.if_icmp .ne 10, 3) := by decide +kernel
theorem dX7_orderOf_265 : decode cX7_orderOf 265 = .ok (.aload_n 2, 1) := by decide +kernel
theorem dX7_orderOf_266 : decode cX7_orderOf 266 = .ok (.bipush 12, 2) := by decide +kernel
theorem dX7_orderOf_268 : decode cX7_orderOf 268 = .ok (.iaload, 1) := by decide +kernel
theorem dX7_orderOf_269 : decode cX7_orderOf 269 = .ok (.goto 4, 3) := by decide +kernel
theorem dX7_orderOf_272 : decode cX7_orderOf 272 = .ok (.iconst 0, 1) := by decide +kernel
theorem dX7_orderOf_273 : decode cX7_orderOf 273 = .ok (.iadd, 1) := by decide +kernel
theorem dX7_orderOf_274 : decode cX7_orderOf 274 = .ok (.istore 8, 2) := by decide +kernel
theorem dX7_orderOf_276 : decode cX7_orderOf 276 = .ok (.iload 8, 2) := by decide +kernel
theorem dX7_orderOf_278 : decode cX7_orderOf 278 = .ok (.aload_n 3, 1) := by decide +kernel
theorem dX7_orderOf_279 : decode cX7_orderOf 279 = .ok (.bipush 6, 2) := by decide +kernel
theorem dX7_orderOf_281 : decode cX7_orderOf 281 = .ok (.iaload, 1) := by decide +kernel
theorem dX7_orderOf_282 : decode cX7_orderOf 282 = .ok (.iadd, 1) := by decide +kernel
theorem dX7_orderOf_283 : decode cX7_orderOf 283 = .ok (.istore 9, 2) := by decide +kernel
theorem dX7_orderOf_285 : decode cX7_orderOf 285 = .ok (.iload 9, 2) := by decide +kernel
theorem dX7_orderOf_287 : decode cX7_orderOf 287 = .ok (.aload_n 2, 1) := by decide +kernel
theorem dX7_orderOf_288 : decode cX7_orderOf 288 = .ok (.bipush 13, 2) := by decide +kernel
theorem dX7_orderOf_290 : decode cX7_orderOf 290 = .ok (.iaload, 1) := by decide +kernel
theorem dX7_orderOf_291 : decode cX7_orderOf 291 = .ok (.iadd, 1) := by decide +kernel
theorem dX7_orderOf_292 : decode cX7_orderOf 292 = .ok (.aload_n 3, 1) := by decide +kernel
theorem dX7_orderOf_293 : decode cX7_orderOf 293 = .ok (.bipush 7, 2) := by decide +kernel
theorem dX7_orderOf_295 : decode cX7_orderOf 295 = .ok (.iaload, 1) := by decide +kernel
theorem dX7_orderOf_296 : decode cX7_orderOf 296 = .ok (.iadd, 1) := by decide +kernel
theorem dX7_orderOf_297 : decode cX7_orderOf 297 = .ok (.istore 10, 2) := by decide +kernel
theorem dX7_orderOf_299 : decode cX7_orderOf 299 = .ok (.iload 9, 2) := by decide +kernel
theorem dX7_orderOf_301 : decode cX7_orderOf 301 = .ok (.iload 10, 2) := by decide +kernel
theorem dX7_orderOf_303 : decode cX7_orderOf 303 = .ok (.if_icmp .ge 8, 3) := by decide +kernel
theorem dX7_orderOf_306 : decode cX7_orderOf 306 = .ok (.iload 9, 2) := by decide +kernel
theorem dX7_orderOf_308 : decode cX7_orderOf 308 = .ok (.goto 5, 3) := by decide +kernel
theorem dX7_orderOf_311 : decode cX7_orderOf 311 = .ok (.iload 10, 2) := by decide +kernel
theorem dX7_orderOf_313 : decode cX7_orderOf 313 = .ok (.ireturn, 1) := by decide +kernel
def FX7_orderOf (G : GG) (M : DD) (a : Nat) (p0 : Option Nat) (p1 : Option Nat) : Option (DD × Int32) :=
  dr G 3 p0 fun b2 =>
  bnd (FX3_isOwn G M b2) fun y3 =>
  dr G 13 ((M.2 b2 0)) fun b4 =>
  chk (¬ (((11 : Int32)) < 0 ∨ G.2.2 b4 ≤ ((11 : Int32)).toNatClampNeg)) <|
  ltt (y3.1.1 b4 ((11 : Int32)).toNatClampNeg) fun x5 =>
  bnd (if x5 = ((0 : Int32)) then (some ((1 : Int32))) else
  (some ((0 : Int32)))) fun (y6 : Int32) =>
  ltt (uI y3.1 a 12 ((0 : Int32))) fun M7 =>
  bnd (if y3.2 = ((0 : Int32)) then (ltt (M7.1 a 10) fun x73 =>
  ltt (M7.1 a 11) fun x74 =>
  chk (¬ (((3 : Int32)) < 0 ∨ G.2.2 b4 ≤ ((3 : Int32)).toNatClampNeg)) <|
  ltt (M7.1 b4 ((3 : Int32)).toNatClampNeg) fun x75 =>
  bnd (if x74 ≤ x75 then (some ((0 : Int32))) else
  (dr G 13 p1 fun b79 =>
  chk (¬ (((2 : Int32)) < 0 ∨ G.2.2 b79 ≤ ((2 : Int32)).toNatClampNeg)) <|
  ltt (M7.1 b79 ((2 : Int32)).toNatClampNeg) fun x80 =>
  ltt ((((1 : Int32)) <<< (x80 &&& 31))) fun x81 =>
  some (x81))) fun (y76 : Int32) =>
  ltt ((x73 + y76)) fun x77 =>
  some (x77)) else
  (some ((0 : Int32)))) fun (y8 : Int32) =>
  ltt (uI M7 a 13 y8) fun M9 =>
  dr G 13 p1 fun b10 =>
  chk (¬ (((3 : Int32)) < 0 ∨ G.2.2 b10 ≤ ((3 : Int32)).toNatClampNeg)) <|
  ltt (M9.1 b10 ((3 : Int32)).toNatClampNeg) fun x11 =>
  if x11 = ((0 : Int32)) then (chk (¬ (((4 : Int32)) < 0 ∨ G.2.2 b10 ≤ ((4 : Int32)).toNatClampNeg)) <|
  ltt (M9.1 b10 ((4 : Int32)).toNatClampNeg) fun x69 =>
  ltt ((((1 : Int32)) <<< (x69 &&& 31))) fun x70 =>
  bnd (FX7_orderByLow G M9 a ((M.2 b2 0)) x70 y3.2) fun y71 =>
  some (y71.1, y71.2)) else
  (chk (¬ (((3 : Int32)) < 0 ∨ G.2.2 b10 ≤ ((3 : Int32)).toNatClampNeg)) <|
  ltt (M9.1 b10 ((3 : Int32)).toNatClampNeg) fun x13 =>
  if x13 = ((2 : Int32)) then (bnd (if y3.2 = ((0 : Int32)) then (ltt (M9.1 a 13) fun x64 =>
  chk (¬ (((3 : Int32)) < 0 ∨ G.2.2 b4 ≤ ((3 : Int32)).toNatClampNeg)) <|
  ltt (M9.1 b4 ((3 : Int32)).toNatClampNeg) fun x65 =>
  ltt ((x64 + x65)) fun x66 =>
  ltt ((((2 : Int32)) * x66)) fun x67 =>
  ltt ((x67 - y6)) fun x68 =>
  some (x68)) else
  (some ((0 : Int32)))) fun (y62 : Int32) =>
  some (M9, y62)) else
  (chk (¬ (((14 : Int32)) < 0 ∨ G.2.2 b10 ≤ ((14 : Int32)).toNatClampNeg)) <|
  ltt (M9.1 b10 ((14 : Int32)).toNatClampNeg) fun x15 =>
  bnd (if x15 = ((0 : Int32)) then (some ((0 : Int32))) else
  (ltt (M9.1 a 13) fun x59 =>
  chk (¬ (((3 : Int32)) < 0 ∨ G.2.2 b4 ≤ ((3 : Int32)).toNatClampNeg)) <|
  ltt (M9.1 b4 ((3 : Int32)).toNatClampNeg) fun x60 =>
  ltt ((x59 + x60)) fun x61 =>
  some (x61))) fun (y16 : Int32) =>
  bnd (if y16 ≤ ((0 : Int32)) then (some ((0 : Int32))) else
  (some (y6))) fun (y17 : Int32) =>
  ltt ((y16 - y17)) fun x18 =>
  bnd (if x18 ≤ ((0 : Int32)) then (some ((0 : Int32))) else
  (bnd (if x15 ≤ ((0 : Int32)) then (some ((0 : Int32))) else
  (bnd (itr (fun (s36 : Int32 × Int32 × Int32) => ((if x15 ≤ s36.2.2 then (some (.inr (s36.1, s36.2.1, s36.2.2))) else
  (ltt ((((15 : Int32)) + s36.2.2)) fun x44 =>
  if ((23 : Int32)) ≤ x44 then (some (.inr (s36.1, s36.2.1, s36.2.2))) else
  (ltt ((((15 : Int32)) + s36.2.2)) fun x46 =>
  chk (¬ (x46 < 0 ∨ G.2.2 b10 ≤ x46.toNatClampNeg)) <|
  ltt (M9.1 b10 x46.toNatClampNeg) fun x47 =>
  ltt ((s36.1 + x47)) fun x48 =>
  ltt ((x18 - ((1 : Int32)))) fun x49 =>
  chk (¬ x15 = 0) <|
  ltt (x49 - x49 / x15 * x15) fun x50 =>
  bnd (if x50 < s36.2.2 then (some ((0 : Int32))) else
  (ltt ((((15 : Int32)) + s36.2.2)) fun x55 =>
  chk (¬ (x55 < 0 ∨ G.2.2 b10 ≤ x55.toNatClampNeg)) <|
  ltt (M9.1 b10 x55.toNatClampNeg) fun x56 =>
  some (x56))) fun (y51 : Int32) =>
  ltt ((s36.2.1 + y51)) fun x52 =>
  ltt (s36.2.2 + (1 : Int32)) fun x53 =>
  some (.inl (x48, x52, x53))))) : Option ((Int32 × Int32 × Int32) ⊕ (Int32 × Int32 × Int32)))) 1000000 ((0 : Int32), (0 : Int32), (0 : Int32))) fun (y35 : Int32 × Int32 × Int32) =>
  ltt ((x18 - ((1 : Int32)))) fun x38 =>
  chk (¬ x15 = 0) <|
  ltt (x38 / x15) fun x39 =>
  ltt ((x39 * y35.1)) fun x40 =>
  ltt ((x40 + y35.2.1)) fun x41 =>
  some (x41))) fun (y33 : Int32) =>
  some (y33))) fun (y19 : Int32) =>
  bnd (if y6 = ((1 : Int32)) then (chk (¬ (((12 : Int32)) < 0 ∨ G.2.2 b10 ≤ ((12 : Int32)).toNatClampNeg)) <|
  ltt (M9.1 b10 ((12 : Int32)).toNatClampNeg) fun x31 =>
  some (x31)) else
  (some ((0 : Int32)))) fun (y20 : Int32) =>
  ltt ((y19 + y20)) fun x21 =>
  chk (¬ (((6 : Int32)) < 0 ∨ G.2.2 b4 ≤ ((6 : Int32)).toNatClampNeg)) <|
  ltt (M9.1 b4 ((6 : Int32)).toNatClampNeg) fun x22 =>
  ltt ((x21 + x22)) fun x23 =>
  chk (¬ (((13 : Int32)) < 0 ∨ G.2.2 b10 ≤ ((13 : Int32)).toNatClampNeg)) <|
  ltt (M9.1 b10 ((13 : Int32)).toNatClampNeg) fun x24 =>
  ltt ((x23 + x24)) fun x25 =>
  chk (¬ (((7 : Int32)) < 0 ∨ G.2.2 b4 ≤ ((7 : Int32)).toNatClampNeg)) <|
  ltt (M9.1 b4 ((7 : Int32)).toNatClampNeg) fun x26 =>
  ltt ((x25 + x26)) fun x27 =>
  bnd (if x27 ≤ x23 then (some (x27)) else
  (some (x23))) fun (y28 : Int32) =>
  some (M9, y28)))
set_option maxHeartbeats 4000000 in
set_option maxRecDepth 100000 in
theorem kX7_orderOf (l : Launch) (D : va_G) (ct : CT) (ad : Nat → Nat) (Z : Nat → Nat) (G : GG) (M : DD) (sz : Nat) (a : Nat) (p0 : Option Nat) (p1 : Option Nat) (y : DD × Int32) (hc : a < G.1) (hk : G.2.1 a = 7) (hF : FX7_orderOf G M a p0 p1 = some y) : Met l yX7_orderOf wuX7_orderOf ({ frames := 1, cells := 0, slots := 0, locals := 26 }) (va_Pc [.ref (ad a), va_re ad p0, va_re ad p1] (kB D ct ad Z G M sz)) (va_Qi (fun (q : Int32) (_ : Unit) => q = y.2) (fun _ t => kE D ct ad G (wA ad G sz) y.1 t) (wA ad G sz)) 0 0 (wA ad G sz) := by
  refine Met.ofW (cc := cX7_orderOf) (maxL := 12) (ret := (some .int)) (by decide) rfl ?_
  intro p e s m args below meth c s₁ B hml hv
  obtain ⟨rfl, hsz, hP, hK, hD0, hZ, hN⟩ := hv
  have hx := B.exec
  have hb := B.bytes
  have hr := B.returns
  have hts := atoms_spec (ws := wuX7_orderOf) B.pre
  have hown : s.vm.findClass RX7 = some m.cls := findClass_of_methodNamed B.named
  have hlocks := B.notSynchronized
  subst hsz
  have hD := wD_self (sz := s.heap.size) hD0
  have hA9 : ∀ q, s.heap.size ≤ q → wA ad G s.heap.size q := fun q h => Or.inr h
  generalize hAe : wA ad G s.heap.size = A at hD hA9 hZ ⊢
  have hS : va_S A s.heap s.heap [] := va_S.rf
  have hl := lv_entry ([.ref (ad a), va_re ad p0, va_re ad p1]) (n := 12) (by cases p0 <;> cases p1 <;> exact Nat.le_of_ble_eq_true rfl)
  rw [lg_entry_eq]
  generalize (lg_sl ([.ref (ad a), va_re ad p0, va_re ad p1]) ++ List.replicate (12 - (lg_sl ([.ref (ad a), va_re ad p0, va_re ad p1])).length) Slot.unset).toArray = ls at hl ⊢
  have hl : lv_has ls 12 [(0, .ref (ad a)), (1, va_re ad p0), (2, va_re ad p1)] := by have e9 : lv_args 0 [.ref (ad a), va_re ad p0, va_re ad p1] = [(0, .ref (ad a)), (1, va_re ad p0), (2, va_re ad p1)] := (by cases p0 <;> cases p1 <;> rfl); rw [e9] at hl; exact hl
  unfold FX7_orderOf at hF
  refine lv_aloadq_n hx hb dX7_orderOf_0 rfl (lv_at hl 1 rfl) ?_
  obtain ⟨b2, ho2, hc2, hk2, hF⟩ := dr_some hF
  refine W_st (st' := [.ref (ad b2)]) (by rw [va_some ho2]) ?_
  refine va_get (D := D) (ci := 3) (v := va_re ad (M.2 b2 0)) (C := RX3) (T := TX3) (N := 4) hx hb hts (mus hf_X3) hown hK hP b2 (wld_o ct ad G M hc2 hk2 (by decide)) rfl 0 (by decide) (hts (.fieldLink RX7 73 "VideoSuite$Header" "v" "[I") (mu mw_616)) (fun _ h9 => h9) rfl dX7_orderOf_1 ?_
  refine lv_astoreq_n (lv' := [(3, va_re ad (M.2 b2 0)), (0, .ref (ad a)), (1, va_re ad p0), (2, va_re ad p1)]) hx hb dX7_orderOf_4 rfl hl (by decide) (by generalize p1 = o9; cases o9 <;> rfl) (fun ls hl => ?_)
  refine lv_aloadq_n hx hb dX7_orderOf_5 rfl (lv_at hl 2 rfl) ?_
  refine W_st (st' := [.ref (ad b2)]) (by rw [va_some ho2]) ?_
  obtain ⟨y3, hy3, hF⟩ := bnd_some hF
  have hf9 := wA_in hD hA9 hS
  refine va_calli (va_runV (As := []) (rest := []) ⟨hx, hb, hml, hown, hts⟩ (kX3_isOwn l D ct ad Z G M s.heap.size b2 y3 hc2 hk2 hy3) (cwV 0 hts gX7_orderOf_X3_isOwn rfl rfl rfl (by decide +kernel) ⟨Nat.le_of_ble_eq_true rfl, Nat.le_of_ble_eq_true rfl⟩) ⟨fun a U g mk q => by obtain ⟨q0, q1, qP, qK, qD, qZ, qN⟩ := q; exact ⟨q0, q1, qP, va_K.moved (u := U) (U := U.calling g mk a) (Vm.Alike.refl U.vm) qK, qD, sF.moved (u := U) (U := U.calling g mk a) (Vm.Alike.refl U.vm) qZ, nF.same rfl qN⟩, va_recv hK hP (ci := 3) (q0 := b2) rfl (wld_o ct ad G M hc2 hk2 (by decide)), fun U hU hW => ⟨rfl, by rw [hU], by rw [hU]; exact hP, va_K.moved hW.alike hK, hD.weaken (fun _ _ _ _ => trivial), by rw [hU]; exact ((hZ.kept hS.2.1).narrow hf9).moved hW.alike, hN.warm hW⟩⟩ rfl rfl hl.1 rfl (lv_room (Nat.le_of_ble_eq_true rfl)) dX7_orderOf_6 ⟨(Nat.zero_le _), (Nat.zero_le _)⟩) hS (fun q _ h => hf9 q h) hf9 (fun r u t H locs ht hvm hw hB hz1 hk1 hS => ?_)
  obtain ⟨hP, hK9, hD9⟩ := hB
  rw [ht] at hP
  try dsimp only at hw
  subst hw
  have hD := hD9.weaken (fun _ q _ h => hf9 q.1 h)
  refine lv_istore (lv' := [(4, .int y3.2), (3, va_re ad (M.2 b2 0)), (0, .ref (ad a)), (1, va_re ad p0), (2, va_re ad p1)]) hx hb dX7_orderOf_9 hl (by decide) (by generalize ((M.2 b2 0)) = o9; cases o9 <;> rfl) (fun ls hl => ?_)
  refine lv_aloadq_n hx hb dX7_orderOf_11 rfl (lv_at hl 1 rfl) ?_
  refine lv_bipush (v := (11 : Int32)) hx hb dX7_orderOf_12 (by decide) ?_
  obtain ⟨b4, ho4, hc4, hk4, hF⟩ := dr_some hF
  refine W_st (st' := [.int (11 : Int32), .ref (ad b4)]) (by rw [va_some ho4]) ?_
  obtain ⟨hvc, hF⟩ := chk_some hF
  refine va_iald hx hb hK hP b4 1 (wld_i ct ad G y3.1 hc4 hk4) rfl hvc dX7_orderOf_14 ?_
  obtain ⟨x5, ex5, hF⟩ := ltt_some hF
  refine lv_topi (fun zx5 ezx5 => ?_)
  obtain rfl : x5 = zx5 := ex5.trans ezx5.symm
  obtain ⟨y6, hy6, hF⟩ := bnd_some hF
  have J6 : ∀ (H : Heap) (locs : List Loc) (ls : Array Slot), va_P D classes (wld ct ad G y3.1) H → va_D A (wld ct ad G y3.1) → va_S A s.heap H locs → lv_has ls 12 [(4, .int y3.2), (3, va_re ad (M.2 b2 0)), (0, .ref (ad a)), (1, va_re ad p0), (2, va_re ad p1)] → W p l e (headSpec wuX7_orderOf ({ frames := 1, cells := 0, slots := 0, locals := 26 })).room s m ([.ref (ad a), va_re ad p0, va_re ad p1] : List Value).toArray below meth c H locs 0 0 (MQ below (va_Qi (fun (q : Int32) (_ : Unit) => q = y.2) (fun _ t => kE D ct ad G A y.1 t) A) ([.ref (ad a), va_re ad p0, va_re ad p1] : List Value).toArray s 0 0 A) (F0 m 23 ls [.int y6]) := by
    intro H locs ls hP hD hS hl
    refine lv_istore (lv' := [(5, .int y6), (4, .int y3.2), (3, va_re ad (M.2 b2 0)), (0, .ref (ad a)), (1, va_re ad p0), (2, va_re ad p1)]) hx hb dX7_orderOf_23 hl (by decide) rfl (fun ls hl => ?_)
    refine lv_aload_n hx hb dX7_orderOf_25 rfl (lv_at hl 3 rfl) ?_
    refine lv_iconst (v := (0 : Int32)) hx hb dX7_orderOf_26 (by decide) ?_
    refine va_put (D := D) (ci := 7) (v := .int (0 : Int32)) (ty := .int) (C := RX7) (T := TX7) (N := 17) hx hb hts (mus hf_X7) tyX7 tyX7_ok nmX7 hown hK hP hD hS a (wld_o ct ad G y3.1 hc hk (by decide)) rfl 12 (by decide) (hts (.fieldLink RX7 82 "VideoSuite$Store" "high" "I") (mu mw_371)) (fun _ h9 => h9) rfl (by decide +kernel) rfl rfl (Nat.le_of_ble_eq_true rfl) dX7_orderOf_27 (fun H locs hP hD hS => ?_)
    obtain ⟨M7, eM7, hF⟩ := ltt_some hF
    rw [set_oI ct ad G y3.1 hc hk (by decide) (by rfl), ← eM7] at hP hD
    refine lv_aload_n hx hb dX7_orderOf_30 rfl (lv_at hl 3 rfl) ?_
    refine lv_iload hx hb dX7_orderOf_31 (lv_at hl 1 rfl) ?_
    obtain ⟨y8, hy8, hF⟩ := bnd_some hF
    have J8 : ∀ (H : Heap) (locs : List Loc) (ls : Array Slot), va_P D classes (wld ct ad G M7) H → va_D A (wld ct ad G M7) → va_S A s.heap H locs → lv_has ls 12 [(5, .int y6), (4, .int y3.2), (3, va_re ad (M.2 b2 0)), (0, .ref (ad a)), (1, va_re ad p0), (2, va_re ad p1)] → W p l e (headSpec wuX7_orderOf ({ frames := 1, cells := 0, slots := 0, locals := 26 })).room s m ([.ref (ad a), va_re ad p0, va_re ad p1] : List Value).toArray below meth c H locs 0 0 (MQ below (va_Qi (fun (q : Int32) (_ : Unit) => q = y.2) (fun _ t => kE D ct ad G A y.1 t) A) ([.ref (ad a), va_re ad p0, va_re ad p1] : List Value).toArray s 0 0 A) (F0 m 64 ls [.int y8, .ref (ad a)]) := by
      intro H locs ls hP hD hS hl
      refine va_put (D := D) (ci := 7) (v := .int y8) (ty := .int) (C := RX7) (T := TX7) (N := 17) hx hb hts (mus hf_X7) tyX7 tyX7_ok nmX7 hown hK hP hD hS a (wld_o ct ad G M7 hc hk (by decide)) rfl 13 (by decide) (hts (.fieldLink RX7 85 "VideoSuite$Store" "turn" "I") (mu mw_372)) (fun _ h9 => h9) rfl (by decide +kernel) rfl rfl (Nat.le_of_ble_eq_true rfl) dX7_orderOf_64 (fun H locs hP hD hS => ?_)
      obtain ⟨M9, eM9, hF⟩ := ltt_some hF
      rw [set_oI ct ad G M7 hc hk (by decide) (by rfl), ← eM9] at hP hD
      refine lv_aloadq_n hx hb dX7_orderOf_67 rfl (lv_at hl 5 rfl) ?_
      refine lv_iconst (v := (3 : Int32)) hx hb dX7_orderOf_68 (by decide) ?_
      obtain ⟨b10, ho10, hc10, hk10, hF⟩ := dr_some hF
      refine W_st (st' := [.int (3 : Int32), .ref (ad b10)]) (by rw [va_some ho10]) ?_
      obtain ⟨hvc, hF⟩ := chk_some hF
      refine va_iald hx hb hK hP b10 1 (wld_i ct ad G M9 hc10 hk10) rfl hvc dX7_orderOf_69 ?_
      obtain ⟨x11, ex11, hF⟩ := ltt_some hF
      refine lv_topi (fun zx11 ezx11 => ?_)
      obtain rfl : x11 = zx11 := ex11.trans ezx11.symm
      refine lv_if_ne (tgt := 86) hx hb dX7_orderOf_70 (by decide) (fun c12 => ?_) (fun c12 => ?_)
      · rw [if_neg c12] at hF
        refine lv_aloadq_n hx hb dX7_orderOf_86 rfl (lv_at hl 5 rfl) ?_
        refine lv_iconst (v := (3 : Int32)) hx hb dX7_orderOf_87 (by decide) ?_
        refine W_st (st' := [.int (3 : Int32), .ref (ad b10)]) (by rw [va_some ho10]) ?_
        obtain ⟨hvc, hF⟩ := chk_some hF
        refine va_iald hx hb hK hP b10 1 (wld_i ct ad G M9 hc10 hk10) rfl hvc dX7_orderOf_88 ?_
        obtain ⟨x13, ex13, hF⟩ := ltt_some hF
        refine lv_topi (fun zx13 ezx13 => ?_)
        obtain rfl : x13 = zx13 := ex13.trans ezx13.symm
        refine lv_iconst (v := (2 : Int32)) hx hb dX7_orderOf_89 (by decide) ?_
        refine lv_icmp_ne (tgt := 116) hx hb dX7_orderOf_90 (by decide) (fun c14 => ?_) (fun c14 => ?_)
        · rw [if_neg c14] at hF
          refine lv_aloadq_n hx hb dX7_orderOf_116 rfl (lv_at hl 5 rfl) ?_
          refine lv_bipush (v := (14 : Int32)) hx hb dX7_orderOf_117 (by decide) ?_
          refine W_st (st' := [.int (14 : Int32), .ref (ad b10)]) (by rw [va_some ho10]) ?_
          obtain ⟨hvc, hF⟩ := chk_some hF
          refine va_iald hx hb hK hP b10 1 (wld_i ct ad G M9 hc10 hk10) rfl hvc dX7_orderOf_119 ?_
          obtain ⟨x15, ex15, hF⟩ := ltt_some hF
          refine lv_topi (fun zx15 ezx15 => ?_)
          obtain rfl : x15 = zx15 := ex15.trans ezx15.symm
          refine lv_istore (lv' := [(6, .int x15), (5, .int y6), (4, .int y3.2), (3, va_re ad (M.2 b2 0)), (0, .ref (ad a)), (1, va_re ad p0), (2, va_re ad p1)]) hx hb dX7_orderOf_120 hl (by decide) rfl (fun ls hl => ?_)
          refine lv_iload hx hb dX7_orderOf_122 (lv_at hl 0 rfl) ?_
          obtain ⟨y16, hy16, hF⟩ := bnd_some hF
          have J16 : ∀ (H : Heap) (locs : List Loc) (ls : Array Slot), va_P D classes (wld ct ad G M9) H → va_D A (wld ct ad G M9) → va_S A s.heap H locs → lv_has ls 12 [(6, .int x15), (5, .int y6), (4, .int y3.2), (3, va_re ad (M.2 b2 0)), (0, .ref (ad a)), (1, va_re ad p0), (2, va_re ad p1)] → W p l e (headSpec wuX7_orderOf ({ frames := 1, cells := 0, slots := 0, locals := 26 })).room s m ([.ref (ad a), va_re ad p0, va_re ad p1] : List Value).toArray below meth c H locs 0 0 (MQ below (va_Qi (fun (q : Int32) (_ : Unit) => q = y.2) (fun _ t => kE D ct ad G A y.1 t) A) ([.ref (ad a), va_re ad p0, va_re ad p1] : List Value).toArray s 0 0 A) (F0 m 139 ls [.int y16]) := by
            intro H locs ls hP hD hS hl
            refine lv_istore (lv' := [(7, .int y16), (6, .int x15), (5, .int y6), (4, .int y3.2), (3, va_re ad (M.2 b2 0)), (0, .ref (ad a)), (1, va_re ad p0), (2, va_re ad p1)]) hx hb dX7_orderOf_139 hl (by decide) rfl (fun ls hl => ?_)
            refine lv_iload hx hb dX7_orderOf_141 (lv_at hl 0 rfl) ?_
            refine lv_iload hx hb dX7_orderOf_143 (lv_at hl 0 rfl) ?_
            obtain ⟨y17, hy17, hF⟩ := bnd_some hF
            have J17 : ∀ (H : Heap) (locs : List Loc) (ls : Array Slot), va_P D classes (wld ct ad G M9) H → va_D A (wld ct ad G M9) → va_S A s.heap H locs → lv_has ls 12 [(7, .int y16), (6, .int x15), (5, .int y6), (4, .int y3.2), (3, va_re ad (M.2 b2 0)), (0, .ref (ad a)), (1, va_re ad p0), (2, va_re ad p1)] → W p l e (headSpec wuX7_orderOf ({ frames := 1, cells := 0, slots := 0, locals := 26 })).room s m ([.ref (ad a), va_re ad p0, va_re ad p1] : List Value).toArray below meth c H locs 0 0 (MQ below (va_Qi (fun (q : Int32) (_ : Unit) => q = y.2) (fun _ t => kE D ct ad G A y.1 t) A) ([.ref (ad a), va_re ad p0, va_re ad p1] : List Value).toArray s 0 0 A) (F0 m 154 ls [.int y17, .int y16]) := by
              intro H locs ls hP hD hS hl
              refine lv_isub hx hb dX7_orderOf_154 ?_
              obtain ⟨x18, ex18, hF⟩ := ltt_some hF
              refine lv_topi (fun zx18 ezx18 => ?_)
              obtain rfl : x18 = zx18 := ex18.trans ezx18.symm
              refine lv_istore (lv' := [(7, .int x18), (6, .int x15), (5, .int y6), (4, .int y3.2), (3, va_re ad (M.2 b2 0)), (0, .ref (ad a)), (1, va_re ad p0), (2, va_re ad p1)]) hx hb dX7_orderOf_155 hl (by decide) rfl (fun ls hl => ?_)
              refine lv_iconst (v := (0 : Int32)) hx hb dX7_orderOf_157 (by decide) ?_
              refine lv_istore (lv' := [(8, .int (0 : Int32)), (7, .int x18), (6, .int x15), (5, .int y6), (4, .int y3.2), (3, va_re ad (M.2 b2 0)), (0, .ref (ad a)), (1, va_re ad p0), (2, va_re ad p1)]) hx hb dX7_orderOf_158 hl (by decide) rfl (fun ls hl => ?_)
              refine lv_iload hx hb dX7_orderOf_160 (lv_at hl 1 rfl) ?_
              obtain ⟨y19, hy19, hF⟩ := bnd_some hF
              have J19 : ∀ (H : Heap) (locs : List Loc) (ls : Array Slot), va_P D classes (wld ct ad G M9) H → va_D A (wld ct ad G M9) → va_S A s.heap H locs → lv_has ls 12 [(8, .int y19), (7, .int x18), (6, .int x15), (5, .int y6), (4, .int y3.2), (3, va_re ad (M.2 b2 0)), (0, .ref (ad a)), (1, va_re ad p0), (2, va_re ad p1)] → W p l e (headSpec wuX7_orderOf ({ frames := 1, cells := 0, slots := 0, locals := 26 })).room s m ([.ref (ad a), va_re ad p0, va_re ad p1] : List Value).toArray below meth c H locs 0 0 (MQ below (va_Qi (fun (q : Int32) (_ : Unit) => q = y.2) (fun _ t => kE D ct ad G A y.1 t) A) ([.ref (ad a), va_re ad p0, va_re ad p1] : List Value).toArray s 0 0 A) (F0 m 257 ls []) := by
                intro H locs ls hP hD hS hl
                refine lv_iload hx hb dX7_orderOf_257 (lv_at hl 0 rfl) ?_
                refine lv_iload hx hb dX7_orderOf_259 (lv_at hl 3 rfl) ?_
                refine lv_iconst (v := (1 : Int32)) hx hb dX7_orderOf_261 (by decide) ?_
                obtain ⟨y20, hy20, hF⟩ := bnd_some hF
                have J20 : ∀ (H : Heap) (locs : List Loc) (ls : Array Slot), va_P D classes (wld ct ad G M9) H → va_D A (wld ct ad G M9) → va_S A s.heap H locs → lv_has ls 12 [(8, .int y19), (7, .int x18), (6, .int x15), (5, .int y6), (4, .int y3.2), (3, va_re ad (M.2 b2 0)), (0, .ref (ad a)), (1, va_re ad p0), (2, va_re ad p1)] → W p l e (headSpec wuX7_orderOf ({ frames := 1, cells := 0, slots := 0, locals := 26 })).room s m ([.ref (ad a), va_re ad p0, va_re ad p1] : List Value).toArray below meth c H locs 0 0 (MQ below (va_Qi (fun (q : Int32) (_ : Unit) => q = y.2) (fun _ t => kE D ct ad G A y.1 t) A) ([.ref (ad a), va_re ad p0, va_re ad p1] : List Value).toArray s 0 0 A) (F0 m 273 ls [.int y20, .int y19]) := by
                  intro H locs ls hP hD hS hl
                  refine lv_iadd hx hb dX7_orderOf_273 ?_
                  obtain ⟨x21, ex21, hF⟩ := ltt_some hF
                  refine lv_topi (fun zx21 ezx21 => ?_)
                  obtain rfl : x21 = zx21 := ex21.trans ezx21.symm
                  refine lv_istore (lv' := [(8, .int x21), (7, .int x18), (6, .int x15), (5, .int y6), (4, .int y3.2), (3, va_re ad (M.2 b2 0)), (0, .ref (ad a)), (1, va_re ad p0), (2, va_re ad p1)]) hx hb dX7_orderOf_274 hl (by decide) rfl (fun ls hl => ?_)
                  refine lv_iload hx hb dX7_orderOf_276 (lv_at hl 0 rfl) ?_
                  refine lv_aloadq_n hx hb dX7_orderOf_278 rfl (lv_at hl 5 rfl) ?_
                  refine lv_bipush (v := (6 : Int32)) hx hb dX7_orderOf_279 (by decide) ?_
                  refine W_st (st' := [.int (6 : Int32), .ref (ad b4), .int x21]) (by rw [va_some ho4]) ?_
                  obtain ⟨hvc, hF⟩ := chk_some hF
                  refine va_iald hx hb hK hP b4 1 (wld_i ct ad G M9 hc4 hk4) rfl hvc dX7_orderOf_281 ?_
                  obtain ⟨x22, ex22, hF⟩ := ltt_some hF
                  refine lv_topi (fun zx22 ezx22 => ?_)
                  obtain rfl : x22 = zx22 := ex22.trans ezx22.symm
                  refine lv_iadd hx hb dX7_orderOf_282 ?_
                  obtain ⟨x23, ex23, hF⟩ := ltt_some hF
                  refine lv_topi (fun zx23 ezx23 => ?_)
                  obtain rfl : x23 = zx23 := ex23.trans ezx23.symm
                  refine lv_istore (lv' := [(9, .int x23), (8, .int x21), (7, .int x18), (6, .int x15), (5, .int y6), (4, .int y3.2), (3, va_re ad (M.2 b2 0)), (0, .ref (ad a)), (1, va_re ad p0), (2, va_re ad p1)]) hx hb dX7_orderOf_283 hl (by decide) rfl (fun ls hl => ?_)
                  refine lv_iload hx hb dX7_orderOf_285 (lv_at hl 0 rfl) ?_
                  refine lv_aloadq_n hx hb dX7_orderOf_287 rfl (lv_at hl 9 rfl) ?_
                  refine lv_bipush (v := (13 : Int32)) hx hb dX7_orderOf_288 (by decide) ?_
                  refine W_st (st' := [.int (13 : Int32), .ref (ad b10), .int x23]) (by rw [va_some ho10]) ?_
                  obtain ⟨hvc, hF⟩ := chk_some hF
                  refine va_iald hx hb hK hP b10 1 (wld_i ct ad G M9 hc10 hk10) rfl hvc dX7_orderOf_290 ?_
                  obtain ⟨x24, ex24, hF⟩ := ltt_some hF
                  refine lv_topi (fun zx24 ezx24 => ?_)
                  obtain rfl : x24 = zx24 := ex24.trans ezx24.symm
                  refine lv_iadd hx hb dX7_orderOf_291 ?_
                  obtain ⟨x25, ex25, hF⟩ := ltt_some hF
                  refine lv_topi (fun zx25 ezx25 => ?_)
                  obtain rfl : x25 = zx25 := ex25.trans ezx25.symm
                  refine lv_aloadq_n hx hb dX7_orderOf_292 rfl (lv_at hl 6 rfl) ?_
                  refine lv_bipush (v := (7 : Int32)) hx hb dX7_orderOf_293 (by decide) ?_
                  refine W_st (st' := [.int (7 : Int32), .ref (ad b4), .int x25]) (by rw [va_some ho4]) ?_
                  obtain ⟨hvc, hF⟩ := chk_some hF
                  refine va_iald hx hb hK hP b4 1 (wld_i ct ad G M9 hc4 hk4) rfl hvc dX7_orderOf_295 ?_
                  obtain ⟨x26, ex26, hF⟩ := ltt_some hF
                  refine lv_topi (fun zx26 ezx26 => ?_)
                  obtain rfl : x26 = zx26 := ex26.trans ezx26.symm
                  refine lv_iadd hx hb dX7_orderOf_296 ?_
                  obtain ⟨x27, ex27, hF⟩ := ltt_some hF
                  refine lv_topi (fun zx27 ezx27 => ?_)
                  obtain rfl : x27 = zx27 := ex27.trans ezx27.symm
                  refine lv_istore (lv' := [(10, .int x27), (9, .int x23), (8, .int x21), (7, .int x18), (6, .int x15), (5, .int y6), (4, .int y3.2), (3, va_re ad (M.2 b2 0)), (0, .ref (ad a)), (1, va_re ad p0), (2, va_re ad p1)]) hx hb dX7_orderOf_297 hl (by decide) rfl (fun ls hl => ?_)
                  refine lv_iload hx hb dX7_orderOf_299 (lv_at hl 1 rfl) ?_
                  refine lv_iload hx hb dX7_orderOf_301 (lv_at hl 0 rfl) ?_
                  obtain ⟨y28, hy28, hF⟩ := bnd_some hF
                  have J28 : ∀ (H : Heap) (locs : List Loc) (ls : Array Slot), va_P D classes (wld ct ad G M9) H → va_D A (wld ct ad G M9) → va_S A s.heap H locs → lv_has ls 12 [(10, .int x27), (9, .int x23), (8, .int x21), (7, .int x18), (6, .int x15), (5, .int y6), (4, .int y3.2), (3, va_re ad (M.2 b2 0)), (0, .ref (ad a)), (1, va_re ad p0), (2, va_re ad p1)] → W p l e (headSpec wuX7_orderOf ({ frames := 1, cells := 0, slots := 0, locals := 26 })).room s m ([.ref (ad a), va_re ad p0, va_re ad p1] : List Value).toArray below meth c H locs 0 0 (MQ below (va_Qi (fun (q : Int32) (_ : Unit) => q = y.2) (fun _ t => kE D ct ad G A y.1 t) A) ([.ref (ad a), va_re ad p0, va_re ad p1] : List Value).toArray s 0 0 A) (F0 m 313 ls [.int y28]) := by
                    intro H locs ls hP hD hS hl
                    obtain rfl := Option.some.inj hF
                    exact W.iret (v := y28) hx hb hr (fun t ht hW => ⟨⟨_, (), rfl, rfl, ⟨by rw [ht]; exact hP, va_K.moved hW.alike hK, hD⟩⟩, hS.F ht⟩) hS.2.2 dX7_orderOf_313
                  clear hF
                  have hF := hy28
                  clear hy28
                  refine lv_icmp_ge (tgt := 311) hx hb dX7_orderOf_303 (by decide) (fun c29 => ?_) (fun c29 => ?_)
                  · rw [if_pos c29] at hF
                    refine lv_iload hx hb dX7_orderOf_311 (lv_at hl 0 rfl) ?_
                    obtain rfl := Option.some.inj hF
                    exact J28 _ _ _ hP hD hS (lv_sub hl [0, 1, 2, 3, 4, 5, 6, 7, 8, 9, 10] rfl)
                  · rw [if_neg c29] at hF
                    refine lv_iload hx hb dX7_orderOf_306 (lv_at hl 1 rfl) ?_
                    refine lv_goto (tgt := 313) hx hb dX7_orderOf_308 (by decide) ?_
                    obtain rfl := Option.some.inj hF
                    exact J28 _ _ _ hP hD hS (lv_sub hl [0, 1, 2, 3, 4, 5, 6, 7, 8, 9, 10] rfl)
                clear hF
                have hF := hy20
                clear hy20
                refine lv_icmp_ne (tgt := 272) hx hb dX7_orderOf_262 (by decide) (fun c30 => ?_) (fun c30 => ?_)
                · rw [if_neg c30] at hF
                  refine lv_iconst (v := (0 : Int32)) hx hb dX7_orderOf_272 (by decide) ?_
                  obtain rfl := Option.some.inj hF
                  exact J20 _ _ _ hP hD hS (lv_sub hl [0, 1, 2, 3, 4, 5, 6, 7, 8] rfl)
                · rw [if_pos c30] at hF
                  refine lv_aloadq_n hx hb dX7_orderOf_265 rfl (lv_at hl 8 rfl) ?_
                  refine lv_bipush (v := (12 : Int32)) hx hb dX7_orderOf_266 (by decide) ?_
                  refine W_st (st' := [.int (12 : Int32), .ref (ad b10), .int y19]) (by rw [va_some ho10]) ?_
                  obtain ⟨hvc, hF⟩ := chk_some hF
                  refine va_iald hx hb hK hP b10 1 (wld_i ct ad G M9 hc10 hk10) rfl hvc dX7_orderOf_268 ?_
                  obtain ⟨x31, ex31, hF⟩ := ltt_some hF
                  refine lv_topi (fun zx31 ezx31 => ?_)
                  obtain rfl : x31 = zx31 := ex31.trans ezx31.symm
                  refine lv_goto (tgt := 273) hx hb dX7_orderOf_269 (by decide) ?_
                  obtain rfl := Option.some.inj hF
                  exact J20 _ _ _ hP hD hS (lv_sub hl [0, 1, 2, 3, 4, 5, 6, 7, 8] rfl)
              clear hF
              have hF := hy19
              clear hy19
              refine lv_if_le (tgt := 257) hx hb dX7_orderOf_162 (by decide) (fun c32 => ?_) (fun c32 => ?_)
              · rw [if_pos c32] at hF
                obtain rfl := Option.some.inj hF
                exact J19 _ _ _ hP hD hS (lv_sub hl [0, 1, 2, 3, 4, 5, 6, 7, 8] rfl)
              · rw [if_neg c32] at hF
                refine lv_iload hx hb dX7_orderOf_165 (lv_at hl 2 rfl) ?_
                obtain ⟨y33, hy33, hF⟩ := bnd_some hF
                have J33 : ∀ (H : Heap) (locs : List Loc) (ls : Array Slot), va_P D classes (wld ct ad G M9) H → va_D A (wld ct ad G M9) → va_S A s.heap H locs → lv_has ls 12 [(8, .int y33), (7, .int x18), (6, .int x15), (5, .int y6), (4, .int y3.2), (3, va_re ad (M.2 b2 0)), (0, .ref (ad a)), (1, va_re ad p0), (2, va_re ad p1)] → W p l e (headSpec wuX7_orderOf ({ frames := 1, cells := 0, slots := 0, locals := 26 })).room s m ([.ref (ad a), va_re ad p0, va_re ad p1] : List Value).toArray below meth c H locs 0 0 (MQ below (va_Qi (fun (q : Int32) (_ : Unit) => q = y.2) (fun _ t => kE D ct ad G A y.1 t) A) ([.ref (ad a), va_re ad p0, va_re ad p1] : List Value).toArray s 0 0 A) (F0 m 257 ls []) := by
                  intro H locs ls hP hD hS hl
                  obtain rfl := Option.some.inj hF
                  exact J19 _ _ _ hP hD hS (lv_sub hl [0, 1, 2, 3, 4, 5, 6, 7, 8] rfl)
                clear hF
                have hF := hy33
                clear hy33
                refine lv_if_le (tgt := 257) hx hb dX7_orderOf_167 (by decide) (fun c34 => ?_) (fun c34 => ?_)
                · rw [if_pos c34] at hF
                  obtain rfl := Option.some.inj hF
                  exact J33 _ _ _ hP hD hS (lv_sub hl [0, 1, 2, 3, 4, 5, 6, 7, 8] rfl)
                · rw [if_neg c34] at hF
                  refine lv_iconst (v := (0 : Int32)) hx hb dX7_orderOf_170 (by decide) ?_
                  refine lv_istore (lv' := [(9, .int (0 : Int32)), (8, .int (0 : Int32)), (7, .int x18), (6, .int x15), (5, .int y6), (4, .int y3.2), (3, va_re ad (M.2 b2 0)), (0, .ref (ad a)), (1, va_re ad p0), (2, va_re ad p1)]) hx hb dX7_orderOf_171 hl (by decide) rfl (fun ls hl => ?_)
                  refine lv_iconst (v := (0 : Int32)) hx hb dX7_orderOf_173 (by decide) ?_
                  refine lv_istore (lv' := [(10, .int (0 : Int32)), (9, .int (0 : Int32)), (8, .int (0 : Int32)), (7, .int x18), (6, .int x15), (5, .int y6), (4, .int y3.2), (3, va_re ad (M.2 b2 0)), (0, .ref (ad a)), (1, va_re ad p0), (2, va_re ad p1)]) hx hb dX7_orderOf_174 hl (by decide) rfl (fun ls hl => ?_)
                  refine lv_iconst (v := (0 : Int32)) hx hb dX7_orderOf_176 (by decide) ?_
                  refine lv_istore (lv' := [(11, .int (0 : Int32)), (10, .int (0 : Int32)), (9, .int (0 : Int32)), (8, .int (0 : Int32)), (7, .int x18), (6, .int x15), (5, .int y6), (4, .int y3.2), (3, va_re ad (M.2 b2 0)), (0, .ref (ad a)), (1, va_re ad p0), (2, va_re ad p1)]) hx hb dX7_orderOf_177 hl (by decide) rfl (fun ls hl => ?_)
                  obtain ⟨y35, hy35, hF⟩ := bnd_some hF
                  have K35 : ∀ (H : Heap) (locs : List Loc) (ls : Array Slot), va_P D classes (wld ct ad G M9) H → va_D A (wld ct ad G M9) → va_S A s.heap H locs → lv_has ls 12 [(11, .int y35.2.2), (10, .int y35.2.1), (9, .int y35.1), (8, .int (0 : Int32)), (7, .int x18), (6, .int x15), (5, .int y6), (4, .int y3.2), (3, va_re ad (M.2 b2 0)), (0, .ref (ad a)), (1, va_re ad p0), (2, va_re ad p1)] → W p l e (headSpec wuX7_orderOf ({ frames := 1, cells := 0, slots := 0, locals := 26 })).room s m ([.ref (ad a), va_re ad p0, va_re ad p1] : List Value).toArray below meth c H locs 0 0 (MQ below (va_Qi (fun (q : Int32) (_ : Unit) => q = y.2) (fun _ t => kE D ct ad G A y.1 t) A) ([.ref (ad a), va_re ad p0, va_re ad p1] : List Value).toArray s 0 0 A) (F0 m 242 ls []) := by
                    intro H locs ls hP hD hS hl
                    refine lv_iload hx hb dX7_orderOf_242 (lv_at hl 4 rfl) ?_
                    refine lv_iconst (v := (1 : Int32)) hx hb dX7_orderOf_244 (by decide) ?_
                    refine lv_isub hx hb dX7_orderOf_245 ?_
                    obtain ⟨x38, ex38, hF⟩ := ltt_some hF
                    refine lv_topi (fun zx38 ezx38 => ?_)
                    obtain rfl : x38 = zx38 := ex38.trans ezx38.symm
                    refine lv_iload hx hb dX7_orderOf_246 (lv_at hl 5 rfl) ?_
                    obtain ⟨hne, hF⟩ := chk_some hF
                    refine lv_idiv hx hb dX7_orderOf_248 hne ?_
                    obtain ⟨x39, ex39, hF⟩ := ltt_some hF
                    refine lv_topi (fun zx39 ezx39 => ?_)
                    obtain rfl : x39 = zx39 := ex39.trans ezx39.symm
                    refine lv_iload hx hb dX7_orderOf_249 (lv_at hl 2 rfl) ?_
                    refine lv_imul hx hb dX7_orderOf_251 ?_
                    obtain ⟨x40, ex40, hF⟩ := ltt_some hF
                    refine lv_topi (fun zx40 ezx40 => ?_)
                    obtain rfl : x40 = zx40 := ex40.trans ezx40.symm
                    refine lv_iload hx hb dX7_orderOf_252 (lv_at hl 1 rfl) ?_
                    refine lv_iadd hx hb dX7_orderOf_254 ?_
                    obtain ⟨x41, ex41, hF⟩ := ltt_some hF
                    refine lv_topi (fun zx41 ezx41 => ?_)
                    obtain rfl : x41 = zx41 := ex41.trans ezx41.symm
                    refine lv_istore (lv' := [(8, .int x41), (11, .int y35.2.2), (10, .int y35.2.1), (9, .int y35.1), (7, .int x18), (6, .int x15), (5, .int y6), (4, .int y3.2), (3, va_re ad (M.2 b2 0)), (0, .ref (ad a)), (1, va_re ad p0), (2, va_re ad p1)]) hx hb dX7_orderOf_255 hl (by decide) rfl (fun ls hl => ?_)
                    obtain rfl := Option.some.inj hF
                    exact J33 _ _ _ hP hD hS (lv_sub hl [0, 4, 5, 6, 7, 8, 9, 10, 11] rfl)
                  clear hF
                  refine itr_rule (fun (s36 : Int32 × Int32 × Int32) => ∀ (H : Heap) (locs : List Loc) (ls : Array Slot), va_P D classes (wld ct ad G M9) H → va_D A (wld ct ad G M9) → va_S A s.heap H locs → lv_has ls 12 [(11, .int s36.2.2), (10, .int s36.2.1), (9, .int s36.1), (8, .int (0 : Int32)), (7, .int x18), (6, .int x15), (5, .int y6), (4, .int y3.2), (3, va_re ad (M.2 b2 0)), (0, .ref (ad a)), (1, va_re ad p0), (2, va_re ad p1)] → W p l e (headSpec wuX7_orderOf ({ frames := 1, cells := 0, slots := 0, locals := 26 })).room s m ([.ref (ad a), va_re ad p0, va_re ad p1] : List Value).toArray below meth c H locs 0 0 (MQ below (va_Qi (fun (q : Int32) (_ : Unit) => q = y.2) (fun _ t => kE D ct ad G A y.1 t) A) ([.ref (ad a), va_re ad p0, va_re ad p1] : List Value).toArray s 0 0 A) (F0 m 179 ls [])) ?_ _ _ hy35 _ _ _ hP hD hS (lv_sub hl [0, 1, 2, 3, 4, 5, 6, 7, 8, 9, 10, 11] rfl)
                  rintro s36 ⟨z42, hF, hwz42⟩ H locs ls hP hD hS hl
                  try dsimp only at hF
                  refine lv_iload hx hb dX7_orderOf_179 (lv_at hl 0 rfl) ?_
                  refine lv_iload hx hb dX7_orderOf_181 (lv_at hl 5 rfl) ?_
                  refine lv_icmp_ge (tgt := 242) hx hb dX7_orderOf_183 (by decide) (fun c43 => ?_) (fun c43 => ?_)
                  · rw [if_pos c43] at hF
                    obtain rfl := Option.some.inj hF
                    subst hwz42
                    exact K35 _ _ _ hP hD hS (lv_sub hl [0, 1, 2, 3, 4, 5, 6, 7, 8, 9, 10, 11] rfl)
                  · rw [if_neg c43] at hF
                    refine lv_bipush (v := (15 : Int32)) hx hb dX7_orderOf_186 (by decide) ?_
                    refine lv_iload hx hb dX7_orderOf_188 (lv_at hl 0 rfl) ?_
                    refine lv_iadd hx hb dX7_orderOf_190 ?_
                    obtain ⟨x44, ex44, hF⟩ := ltt_some hF
                    refine lv_topi (fun zx44 ezx44 => ?_)
                    obtain rfl : x44 = zx44 := ex44.trans ezx44.symm
                    refine lv_bipush (v := (23 : Int32)) hx hb dX7_orderOf_191 (by decide) ?_
                    refine lv_icmp_ge (tgt := 242) hx hb dX7_orderOf_193 (by decide) (fun c45 => ?_) (fun c45 => ?_)
                    · rw [if_pos c45] at hF
                      obtain rfl := Option.some.inj hF
                      subst hwz42
                      exact K35 _ _ _ hP hD hS (lv_sub hl [0, 1, 2, 3, 4, 5, 6, 7, 8, 9, 10, 11] rfl)
                    · rw [if_neg c45] at hF
                      refine lv_iload hx hb dX7_orderOf_196 (lv_at hl 2 rfl) ?_
                      refine lv_aloadq_n hx hb dX7_orderOf_198 rfl (lv_at hl 11 rfl) ?_
                      refine lv_bipush (v := (15 : Int32)) hx hb dX7_orderOf_199 (by decide) ?_
                      refine lv_iload hx hb dX7_orderOf_201 (lv_at hl 0 rfl) ?_
                      refine lv_iadd hx hb dX7_orderOf_203 ?_
                      obtain ⟨x46, ex46, hF⟩ := ltt_some hF
                      refine lv_topi (fun zx46 ezx46 => ?_)
                      obtain rfl : x46 = zx46 := ex46.trans ezx46.symm
                      refine W_st (st' := [.int x46, .ref (ad b10), .int s36.1]) (by rw [va_some ho10]) ?_
                      obtain ⟨hvc, hF⟩ := chk_some hF
                      refine va_iald hx hb hK hP b10 1 (wld_i ct ad G M9 hc10 hk10) rfl hvc dX7_orderOf_204 ?_
                      obtain ⟨x47, ex47, hF⟩ := ltt_some hF
                      refine lv_topi (fun zx47 ezx47 => ?_)
                      obtain rfl : x47 = zx47 := ex47.trans ezx47.symm
                      refine lv_iadd hx hb dX7_orderOf_205 ?_
                      obtain ⟨x48, ex48, hF⟩ := ltt_some hF
                      refine lv_topi (fun zx48 ezx48 => ?_)
                      obtain rfl : x48 = zx48 := ex48.trans ezx48.symm
                      refine lv_istore (lv' := [(9, .int x48), (11, .int s36.2.2), (10, .int s36.2.1), (8, .int (0 : Int32)), (7, .int x18), (6, .int x15), (5, .int y6), (4, .int y3.2), (3, va_re ad (M.2 b2 0)), (0, .ref (ad a)), (1, va_re ad p0), (2, va_re ad p1)]) hx hb dX7_orderOf_206 hl (by decide) rfl (fun ls hl => ?_)
                      refine lv_iload hx hb dX7_orderOf_208 (lv_at hl 2 rfl) ?_
                      refine lv_iload hx hb dX7_orderOf_210 (lv_at hl 1 rfl) ?_
                      refine lv_iload hx hb dX7_orderOf_212 (lv_at hl 4 rfl) ?_
                      refine lv_iconst (v := (1 : Int32)) hx hb dX7_orderOf_214 (by decide) ?_
                      refine lv_isub hx hb dX7_orderOf_215 ?_
                      obtain ⟨x49, ex49, hF⟩ := ltt_some hF
                      refine lv_topi (fun zx49 ezx49 => ?_)
                      obtain rfl : x49 = zx49 := ex49.trans ezx49.symm
                      refine lv_iload hx hb dX7_orderOf_216 (lv_at hl 5 rfl) ?_
                      obtain ⟨hne, hF⟩ := chk_some hF
                      refine lv_irem hx hb dX7_orderOf_218 hne ?_
                      obtain ⟨x50, ex50, hF⟩ := ltt_some hF
                      refine lv_topi (fun zx50 ezx50 => ?_)
                      obtain rfl : x50 = zx50 := ex50.trans ezx50.symm
                      obtain ⟨y51, hy51, hF⟩ := bnd_some hF
                      have J51 : ∀ (H : Heap) (locs : List Loc) (ls : Array Slot), va_P D classes (wld ct ad G M9) H → va_D A (wld ct ad G M9) → va_S A s.heap H locs → lv_has ls 12 [(9, .int x48), (11, .int s36.2.2), (10, .int s36.2.1), (8, .int (0 : Int32)), (7, .int x18), (6, .int x15), (5, .int y6), (4, .int y3.2), (3, va_re ad (M.2 b2 0)), (0, .ref (ad a)), (1, va_re ad p0), (2, va_re ad p1)] → W p l e (headSpec wuX7_orderOf ({ frames := 1, cells := 0, slots := 0, locals := 26 })).room s m ([.ref (ad a), va_re ad p0, va_re ad p1] : List Value).toArray below meth c H locs 0 0 (MQ below (va_Qi (fun (q : Int32) (_ : Unit) => q = y.2) (fun _ t => kE D ct ad G A y.1 t) A) ([.ref (ad a), va_re ad p0, va_re ad p1] : List Value).toArray s 0 0 A) (F0 m 233 ls [.int y51, .int s36.2.1]) := by
                        intro H locs ls hP hD hS hl
                        refine lv_iadd hx hb dX7_orderOf_233 ?_
                        obtain ⟨x52, ex52, hF⟩ := ltt_some hF
                        refine lv_topi (fun zx52 ezx52 => ?_)
                        obtain rfl : x52 = zx52 := ex52.trans ezx52.symm
                        refine lv_istore (lv' := [(10, .int x52), (9, .int x48), (11, .int s36.2.2), (8, .int (0 : Int32)), (7, .int x18), (6, .int x15), (5, .int y6), (4, .int y3.2), (3, va_re ad (M.2 b2 0)), (0, .ref (ad a)), (1, va_re ad p0), (2, va_re ad p1)]) hx hb dX7_orderOf_234 hl (by decide) rfl (fun ls hl => ?_)
                        obtain ⟨x53, ex53, hF⟩ := ltt_some hF
                        refine lv_iinc (v := x53) (lv' := [(11, .int x53), (10, .int x52), (9, .int x48), (8, .int (0 : Int32)), (7, .int x18), (6, .int x15), (5, .int y6), (4, .int y3.2), (3, va_re ad (M.2 b2 0)), (0, .ref (ad a)), (1, va_re ad p0), (2, va_re ad p1)]) hx hb dX7_orderOf_236 hl (k := 2) rfl (by rw [ex53]; rfl) (by decide) rfl (fun ls hl => ?_)
                        refine lv_goto (tgt := 179) hx hb dX7_orderOf_239 (by decide) ?_
                        obtain rfl := Option.some.inj hF
                        exact hwz42 _ _ _ hP hD hS (lv_sub hl [0, 1, 2, 3, 4, 5, 6, 7, 8, 9, 10, 11] rfl)
                      clear hF
                      have hF := hy51
                      clear hy51
                      refine lv_icmp_gt (tgt := 232) hx hb dX7_orderOf_219 (by decide) (fun c54 => ?_) (fun c54 => ?_)
                      · rw [if_pos c54] at hF
                        refine lv_iconst (v := (0 : Int32)) hx hb dX7_orderOf_232 (by decide) ?_
                        obtain rfl := Option.some.inj hF
                        exact J51 _ _ _ hP hD hS (lv_sub hl [0, 1, 2, 3, 4, 5, 6, 7, 8, 9, 10, 11] rfl)
                      · rw [if_neg c54] at hF
                        refine lv_aloadq_n hx hb dX7_orderOf_222 rfl (lv_at hl 11 rfl) ?_
                        refine lv_bipush (v := (15 : Int32)) hx hb dX7_orderOf_223 (by decide) ?_
                        refine lv_iload hx hb dX7_orderOf_225 (lv_at hl 1 rfl) ?_
                        refine lv_iadd hx hb dX7_orderOf_227 ?_
                        obtain ⟨x55, ex55, hF⟩ := ltt_some hF
                        refine lv_topi (fun zx55 ezx55 => ?_)
                        obtain rfl : x55 = zx55 := ex55.trans ezx55.symm
                        refine W_st (st' := [.int x55, .ref (ad b10), .int s36.2.1]) (by rw [va_some ho10]) ?_
                        obtain ⟨hvc, hF⟩ := chk_some hF
                        refine va_iald hx hb hK hP b10 1 (wld_i ct ad G M9 hc10 hk10) rfl hvc dX7_orderOf_228 ?_
                        obtain ⟨x56, ex56, hF⟩ := ltt_some hF
                        refine lv_topi (fun zx56 ezx56 => ?_)
                        obtain rfl : x56 = zx56 := ex56.trans ezx56.symm
                        refine lv_goto (tgt := 233) hx hb dX7_orderOf_229 (by decide) ?_
                        obtain rfl := Option.some.inj hF
                        exact J51 _ _ _ hP hD hS (lv_sub hl [0, 1, 2, 3, 4, 5, 6, 7, 8, 9, 10, 11] rfl)
            clear hF
            have hF := hy17
            clear hy17
            refine lv_if_le (tgt := 153) hx hb dX7_orderOf_145 (by decide) (fun c57 => ?_) (fun c57 => ?_)
            · rw [if_pos c57] at hF
              refine lv_iconst (v := (0 : Int32)) hx hb dX7_orderOf_153 (by decide) ?_
              obtain rfl := Option.some.inj hF
              exact J17 _ _ _ hP hD hS (lv_sub hl [0, 1, 2, 3, 4, 5, 6, 7] rfl)
            · rw [if_neg c57] at hF
              refine lv_iload hx hb dX7_orderOf_148 (lv_at hl 2 rfl) ?_
              refine lv_goto (tgt := 154) hx hb dX7_orderOf_150 (by decide) ?_
              obtain rfl := Option.some.inj hF
              exact J17 _ _ _ hP hD hS (lv_sub hl [0, 1, 2, 3, 4, 5, 6, 7] rfl)
          clear hF
          have hF := hy16
          clear hy16
          refine lv_if_ne (tgt := 131) hx hb dX7_orderOf_124 (by decide) (fun c58 => ?_) (fun c58 => ?_)
          · rw [if_neg c58] at hF
            refine lv_aload_n hx hb dX7_orderOf_131 rfl (lv_at hl 4 rfl) ?_
            refine va_get (D := D) (ci := 7) (v := .int (M9.1 a 13)) (C := RX7) (T := TX7) (N := 17) hx hb hts (mus hf_X7) hown hK hP a (wld_o ct ad G M9 hc hk (by decide)) rfl 13 (by decide) (hts (.fieldLink RX7 85 "VideoSuite$Store" "turn" "I") (mu mw_372)) (fun _ h9 => h9) rfl dX7_orderOf_132 ?_
            obtain ⟨x59, ex59, hF⟩ := ltt_some hF
            refine lv_topi (fun zx59 ezx59 => ?_)
            obtain rfl : x59 = zx59 := ex59.trans ezx59.symm
            refine lv_aloadq_n hx hb dX7_orderOf_135 rfl (lv_at hl 3 rfl) ?_
            refine lv_iconst (v := (3 : Int32)) hx hb dX7_orderOf_136 (by decide) ?_
            refine W_st (st' := [.int (3 : Int32), .ref (ad b4), .int x59]) (by rw [va_some ho4]) ?_
            obtain ⟨hvc, hF⟩ := chk_some hF
            refine va_iald hx hb hK hP b4 1 (wld_i ct ad G M9 hc4 hk4) rfl hvc dX7_orderOf_137 ?_
            obtain ⟨x60, ex60, hF⟩ := ltt_some hF
            refine lv_topi (fun zx60 ezx60 => ?_)
            obtain rfl : x60 = zx60 := ex60.trans ezx60.symm
            refine lv_iadd hx hb dX7_orderOf_138 ?_
            obtain ⟨x61, ex61, hF⟩ := ltt_some hF
            refine lv_topi (fun zx61 ezx61 => ?_)
            obtain rfl : x61 = zx61 := ex61.trans ezx61.symm
            obtain rfl := Option.some.inj hF
            exact J16 _ _ _ hP hD hS (lv_sub hl [0, 1, 2, 3, 4, 5, 6] rfl)
          · rw [if_pos c58] at hF
            refine lv_iconst (v := (0 : Int32)) hx hb dX7_orderOf_127 (by decide) ?_
            refine lv_goto (tgt := 139) hx hb dX7_orderOf_128 (by decide) ?_
            obtain rfl := Option.some.inj hF
            exact J16 _ _ _ hP hD hS (lv_sub hl [0, 1, 2, 3, 4, 5, 6] rfl)
        · rw [if_pos c14] at hF
          refine lv_iload hx hb dX7_orderOf_93 (lv_at hl 1 rfl) ?_
          obtain ⟨y62, hy62, hF⟩ := bnd_some hF
          have J62 : ∀ (H : Heap) (locs : List Loc) (ls : Array Slot), va_P D classes (wld ct ad G M9) H → va_D A (wld ct ad G M9) → va_S A s.heap H locs → lv_has ls 12 [(5, .int y6), (4, .int y3.2), (3, va_re ad (M.2 b2 0)), (0, .ref (ad a)), (1, va_re ad p0), (2, va_re ad p1)] → W p l e (headSpec wuX7_orderOf ({ frames := 1, cells := 0, slots := 0, locals := 26 })).room s m ([.ref (ad a), va_re ad p0, va_re ad p1] : List Value).toArray below meth c H locs 0 0 (MQ below (va_Qi (fun (q : Int32) (_ : Unit) => q = y.2) (fun _ t => kE D ct ad G A y.1 t) A) ([.ref (ad a), va_re ad p0, va_re ad p1] : List Value).toArray s 0 0 A) (F0 m 115 ls [.int y62]) := by
            intro H locs ls hP hD hS hl
            obtain rfl := Option.some.inj hF
            exact W.iret (v := y62) hx hb hr (fun t ht hW => ⟨⟨_, (), rfl, rfl, ⟨by rw [ht]; exact hP, va_K.moved hW.alike hK, hD⟩⟩, hS.F ht⟩) hS.2.2 dX7_orderOf_115
          clear hF
          have hF := hy62
          clear hy62
          refine lv_if_eq (tgt := 102) hx hb dX7_orderOf_95 (by decide) (fun c63 => ?_) (fun c63 => ?_)
          · rw [if_pos c63] at hF
            refine lv_iconst (v := (2 : Int32)) hx hb dX7_orderOf_102 (by decide) ?_
            refine lv_aload_n hx hb dX7_orderOf_103 rfl (lv_at hl 3 rfl) ?_
            refine va_get (D := D) (ci := 7) (v := .int (M9.1 a 13)) (C := RX7) (T := TX7) (N := 17) hx hb hts (mus hf_X7) hown hK hP a (wld_o ct ad G M9 hc hk (by decide)) rfl 13 (by decide) (hts (.fieldLink RX7 85 "VideoSuite$Store" "turn" "I") (mu mw_372)) (fun _ h9 => h9) rfl dX7_orderOf_104 ?_
            obtain ⟨x64, ex64, hF⟩ := ltt_some hF
            refine lv_topi (fun zx64 ezx64 => ?_)
            obtain rfl : x64 = zx64 := ex64.trans ezx64.symm
            refine lv_aloadq_n hx hb dX7_orderOf_107 rfl (lv_at hl 2 rfl) ?_
            refine lv_iconst (v := (3 : Int32)) hx hb dX7_orderOf_108 (by decide) ?_
            refine W_st (st' := [.int (3 : Int32), .ref (ad b4), .int x64, .int (2 : Int32)]) (by rw [va_some ho4]) ?_
            obtain ⟨hvc, hF⟩ := chk_some hF
            refine va_iald hx hb hK hP b4 1 (wld_i ct ad G M9 hc4 hk4) rfl hvc dX7_orderOf_109 ?_
            obtain ⟨x65, ex65, hF⟩ := ltt_some hF
            refine lv_topi (fun zx65 ezx65 => ?_)
            obtain rfl : x65 = zx65 := ex65.trans ezx65.symm
            refine lv_iadd hx hb dX7_orderOf_110 ?_
            obtain ⟨x66, ex66, hF⟩ := ltt_some hF
            refine lv_topi (fun zx66 ezx66 => ?_)
            obtain rfl : x66 = zx66 := ex66.trans ezx66.symm
            refine lv_imul hx hb dX7_orderOf_111 ?_
            obtain ⟨x67, ex67, hF⟩ := ltt_some hF
            refine lv_topi (fun zx67 ezx67 => ?_)
            obtain rfl : x67 = zx67 := ex67.trans ezx67.symm
            refine lv_iload hx hb dX7_orderOf_112 (lv_at hl 0 rfl) ?_
            refine lv_isub hx hb dX7_orderOf_114 ?_
            obtain ⟨x68, ex68, hF⟩ := ltt_some hF
            refine lv_topi (fun zx68 ezx68 => ?_)
            obtain rfl : x68 = zx68 := ex68.trans ezx68.symm
            obtain rfl := Option.some.inj hF
            exact J62 _ _ _ hP hD hS (lv_sub hl [0, 1, 2, 3, 4, 5] rfl)
          · rw [if_neg c63] at hF
            refine lv_iconst (v := (0 : Int32)) hx hb dX7_orderOf_98 (by decide) ?_
            refine lv_goto (tgt := 115) hx hb dX7_orderOf_99 (by decide) ?_
            obtain rfl := Option.some.inj hF
            exact J62 _ _ _ hP hD hS (lv_sub hl [0, 1, 2, 3, 4, 5] rfl)
      · rw [if_pos c12] at hF
        refine lv_aload_n hx hb dX7_orderOf_73 rfl (lv_at hl 3 rfl) ?_
        refine lv_aloadq_n hx hb dX7_orderOf_74 rfl (lv_at hl 2 rfl) ?_
        refine lv_iconst (v := (1 : Int32)) hx hb dX7_orderOf_75 (by decide) ?_
        refine lv_aloadq_n hx hb dX7_orderOf_76 rfl (lv_at hl 5 rfl) ?_
        refine lv_iconst (v := (4 : Int32)) hx hb dX7_orderOf_77 (by decide) ?_
        refine W_st (st' := [.int (4 : Int32), .ref (ad b10), .int (1 : Int32), va_re ad (M.2 b2 0), .ref (ad a)]) (by rw [va_some ho10]) ?_
        obtain ⟨hvc, hF⟩ := chk_some hF
        refine va_iald hx hb hK hP b10 1 (wld_i ct ad G M9 hc10 hk10) rfl hvc dX7_orderOf_78 ?_
        obtain ⟨x69, ex69, hF⟩ := ltt_some hF
        refine lv_topi (fun zx69 ezx69 => ?_)
        obtain rfl : x69 = zx69 := ex69.trans ezx69.symm
        refine lv_ishl hx hb dX7_orderOf_79 ?_
        obtain ⟨x70, ex70, hF⟩ := ltt_some hF
        refine lv_topi (fun zx70 ezx70 => ?_)
        obtain rfl : x70 = zx70 := ex70.trans ezx70.symm
        refine lv_iload hx hb dX7_orderOf_80 (lv_at hl 1 rfl) ?_
        obtain ⟨y71, hy71, hF⟩ := bnd_some hF
        have hf9 := wA_in hD hA9 hS
        refine va_calli (va_runV (As := [va_re ad (M.2 b2 0), .int x70, .int y3.2]) (rest := []) ⟨hx, hb, hml, hown, hts⟩ (kX7_orderByLow l D ct ad Z G M9 H.size a ((M.2 b2 0)) x70 y3.2 y71 hc hk hy71) (cwV 3 hts gX7_orderOf_X7_orderByLow rfl rfl rfl (by decide +kernel) ⟨Nat.le_of_ble_eq_true rfl, Nat.le_of_ble_eq_true rfl⟩) ⟨fun a U g mk q => by obtain ⟨q0, q1, qP, qK, qD, qZ, qN⟩ := q; exact ⟨q0, q1, qP, va_K.moved (u := U) (U := U.calling g mk a) (Vm.Alike.refl U.vm) qK, qD, sF.moved (u := U) (U := U.calling g mk a) (Vm.Alike.refl U.vm) qZ, nF.same rfl qN⟩, va_recv hK hP (ci := 7) (q0 := a) rfl (wld_o ct ad G M9 hc hk (by decide)), fun U hU hW => ⟨rfl, by rw [hU], by rw [hU]; exact hP, va_K.moved hW.alike hK, hD.weaken (fun _ _ _ _ => trivial), by rw [hU]; exact ((hZ.kept hS.2.1).narrow hf9).moved hW.alike, hN.warm hW⟩⟩ rfl rfl hl.1 rfl (lv_room (Nat.le_of_ble_eq_true rfl)) dX7_orderOf_82 ⟨(Nat.zero_le _), (Nat.zero_le _)⟩) hS (fun q _ h => hf9 q h) hf9 (fun r u t H locs ht hvm hw hB hz1 hk1 hS => ?_)
        obtain ⟨hP, hK9, hD9⟩ := hB
        rw [ht] at hP
        try dsimp only at hw
        subst hw
        have hD := hD9.weaken (fun _ q _ h => hf9 q.1 h)
        obtain rfl := Option.some.inj hF
        exact W.iret (v := y71.2) hx hb hr (fun t ht hW => ⟨⟨_, (), rfl, rfl, ⟨by rw [ht]; exact hP, va_K.moved hW.alike hK, hD⟩⟩, hS.F ht⟩) hS.2.2 dX7_orderOf_85
    clear hF
    have hF := hy8
    clear hy8
    refine lv_if_eq (tgt := 40) hx hb dX7_orderOf_33 (by decide) (fun c72 => ?_) (fun c72 => ?_)
    · rw [if_pos c72] at hF
      refine lv_aload_n hx hb dX7_orderOf_40 rfl (lv_at hl 3 rfl) ?_
      refine va_get (D := D) (ci := 7) (v := .int (M7.1 a 10)) (C := RX7) (T := TX7) (N := 17) hx hb hts (mus hf_X7) hown hK hP a (wld_o ct ad G M7 hc hk (by decide)) rfl 10 (by decide) (hts (.fieldLink RX7 52 "VideoSuite$Store" "turnBefore" "I") (mu mw_369)) (fun _ h9 => h9) rfl dX7_orderOf_41 ?_
      obtain ⟨x73, ex73, hF⟩ := ltt_some hF
      refine lv_topi (fun zx73 ezx73 => ?_)
      obtain rfl : x73 = zx73 := ex73.trans ezx73.symm
      refine lv_aload_n hx hb dX7_orderOf_44 rfl (lv_at hl 3 rfl) ?_
      refine va_get (D := D) (ci := 7) (v := .int (M7.1 a 11)) (C := RX7) (T := TX7) (N := 17) hx hb hts (mus hf_X7) hown hK hP a (wld_o ct ad G M7 hc hk (by decide)) rfl 11 (by decide) (hts (.fieldLink RX7 55 "VideoSuite$Store" "frameBefore" "I") (mu mw_370)) (fun _ h9 => h9) rfl dX7_orderOf_45 ?_
      obtain ⟨x74, ex74, hF⟩ := ltt_some hF
      refine lv_topi (fun zx74 ezx74 => ?_)
      obtain rfl : x74 = zx74 := ex74.trans ezx74.symm
      refine lv_aloadq_n hx hb dX7_orderOf_48 rfl (lv_at hl 2 rfl) ?_
      refine lv_iconst (v := (3 : Int32)) hx hb dX7_orderOf_49 (by decide) ?_
      refine W_st (st' := [.int (3 : Int32), .ref (ad b4), .int x74, .int x73, .ref (ad a)]) (by rw [va_some ho4]) ?_
      obtain ⟨hvc, hF⟩ := chk_some hF
      refine va_iald hx hb hK hP b4 1 (wld_i ct ad G M7 hc4 hk4) rfl hvc dX7_orderOf_50 ?_
      obtain ⟨x75, ex75, hF⟩ := ltt_some hF
      refine lv_topi (fun zx75 ezx75 => ?_)
      obtain rfl : x75 = zx75 := ex75.trans ezx75.symm
      obtain ⟨y76, hy76, hF⟩ := bnd_some hF
      have J76 : ∀ (H : Heap) (locs : List Loc) (ls : Array Slot), va_P D classes (wld ct ad G M7) H → va_D A (wld ct ad G M7) → va_S A s.heap H locs → lv_has ls 12 [(5, .int y6), (4, .int y3.2), (3, va_re ad (M.2 b2 0)), (0, .ref (ad a)), (1, va_re ad p0), (2, va_re ad p1)] → W p l e (headSpec wuX7_orderOf ({ frames := 1, cells := 0, slots := 0, locals := 26 })).room s m ([.ref (ad a), va_re ad p0, va_re ad p1] : List Value).toArray below meth c H locs 0 0 (MQ below (va_Qi (fun (q : Int32) (_ : Unit) => q = y.2) (fun _ t => kE D ct ad G A y.1 t) A) ([.ref (ad a), va_re ad p0, va_re ad p1] : List Value).toArray s 0 0 A) (F0 m 63 ls [.int y76, .int x73, .ref (ad a)]) := by
        intro H locs ls hP hD hS hl
        refine lv_iadd hx hb dX7_orderOf_63 ?_
        obtain ⟨x77, ex77, hF⟩ := ltt_some hF
        refine lv_topi (fun zx77 ezx77 => ?_)
        obtain rfl : x77 = zx77 := ex77.trans ezx77.symm
        obtain rfl := Option.some.inj hF
        exact J8 _ _ _ hP hD hS (lv_sub hl [0, 1, 2, 3, 4, 5] rfl)
      clear hF
      have hF := hy76
      clear hy76
      refine lv_icmp_le (tgt := 62) hx hb dX7_orderOf_51 (by decide) (fun c78 => ?_) (fun c78 => ?_)
      · rw [if_pos c78] at hF
        refine lv_iconst (v := (0 : Int32)) hx hb dX7_orderOf_62 (by decide) ?_
        obtain rfl := Option.some.inj hF
        exact J76 _ _ _ hP hD hS (lv_sub hl [0, 1, 2, 3, 4, 5] rfl)
      · rw [if_neg c78] at hF
        refine lv_iconst (v := (1 : Int32)) hx hb dX7_orderOf_54 (by decide) ?_
        refine lv_aloadq_n hx hb dX7_orderOf_55 rfl (lv_at hl 5 rfl) ?_
        refine lv_iconst (v := (2 : Int32)) hx hb dX7_orderOf_56 (by decide) ?_
        obtain ⟨b79, ho79, hc79, hk79, hF⟩ := dr_some hF
        refine W_st (st' := [.int (2 : Int32), .ref (ad b79), .int (1 : Int32), .int x73, .ref (ad a)]) (by rw [va_some ho79]) ?_
        obtain ⟨hvc, hF⟩ := chk_some hF
        refine va_iald hx hb hK hP b79 1 (wld_i ct ad G M7 hc79 hk79) rfl hvc dX7_orderOf_57 ?_
        obtain ⟨x80, ex80, hF⟩ := ltt_some hF
        refine lv_topi (fun zx80 ezx80 => ?_)
        obtain rfl : x80 = zx80 := ex80.trans ezx80.symm
        refine lv_ishl hx hb dX7_orderOf_58 ?_
        obtain ⟨x81, ex81, hF⟩ := ltt_some hF
        refine lv_topi (fun zx81 ezx81 => ?_)
        obtain rfl : x81 = zx81 := ex81.trans ezx81.symm
        refine lv_goto (tgt := 63) hx hb dX7_orderOf_59 (by decide) ?_
        obtain rfl := Option.some.inj hF
        exact J76 _ _ _ hP hD hS (lv_sub hl [0, 1, 2, 3, 4, 5] rfl)
    · rw [if_neg c72] at hF
      refine lv_iconst (v := (0 : Int32)) hx hb dX7_orderOf_36 (by decide) ?_
      refine lv_goto (tgt := 64) hx hb dX7_orderOf_37 (by decide) ?_
      obtain rfl := Option.some.inj hF
      exact J8 _ _ _ hP hD hS (lv_sub hl [0, 1, 2, 3, 4, 5] rfl)
  clear hF
  have hF := hy6
  clear hy6
  refine lv_if_ne (tgt := 22) hx hb dX7_orderOf_15 (by decide) (fun c82 => ?_) (fun c82 => ?_)
  · rw [if_neg c82] at hF
    refine lv_iconst (v := (0 : Int32)) hx hb dX7_orderOf_22 (by decide) ?_
    obtain rfl := Option.some.inj hF
    exact J6 _ _ _ hP hD hS (lv_sub hl [0, 1, 2, 3, 4] rfl)
  · rw [if_pos c82] at hF
    refine lv_iconst (v := (1 : Int32)) hx hb dX7_orderOf_18 (by decide) ?_
    refine lv_goto (tgt := 23) hx hb dX7_orderOf_19 (by decide) ?_
    obtain rfl := Option.some.inj hF
    exact J6 _ _ _ hP hD hS (lv_sub hl [0, 1, 2, 3, 4] rfl)
theorem dX7_references_0 : decode cX7_references 0 = .ok (.iconst 0, 1) := by decide +kernel
theorem dX7_references_1 : decode cX7_references 1 = .ok (.istore_n 1, 1) := by decide +kernel
theorem dX7_references_2 : decode cX7_references 2 = .ok (.iconst 0, 1) := by decide +kernel
theorem dX7_references_3 : decode cX7_references 3 = .ok (.istore_n 2, 1) := by decide +kernel
theorem dX7_references_4 : decode cX7_references 4 = .ok (.iload_n 2, 1) := by decide +kernel
theorem dX7_references_5 : decode cX7_references 5 = .ok (.aload_n 0, 1) := by decide +kernel
theorem dX7_references_6 : decode cX7_references 6 = .ok (.getfield 29, 3) := by decide +kernel
theorem dX7_references_9 : decode cX7_references 9 = .ok (.if_icmp .ge 29, 3) := by decide +kernel
theorem dX7_references_12 : decode cX7_references 12 = .ok (.iload_n 1, 1) := by decide +kernel
theorem dX7_references_13 : decode cX7_references 13 = .ok (.aload_n 0, 1) := by decide +kernel
theorem dX7_references_14 : decode cX7_references 14 = .ok (.getfield 17, 3) := by decide +kernel
theorem dX7_references_17 : decode cX7_references 17 = .ok (.iload_n 2, 1) := by decide +kernel
theorem dX7_references_18 : decode cX7_references 18 = .ok (.aaload, 1) := by decide +kernel
theorem dX7_references_19 : decode cX7_references 19 = .ok (.getfield 123, 3) := by decide +kernel
theorem dX7_references_22 : decode cX7_references 22 = .ok (.ifCond .eq 7, 3) := by decide +kernel
theorem dX7_references_25 : decode cX7_references 25 = .ok (.iconst 1, 1) := by decide +kernel
theorem dX7_references_26 : decode cX7_references 26 = .ok (.goto 4, 3) := by decide +kernel
theorem dX7_references_29 : decode cX7_references 29 = .ok (.iconst 0, 1) := by decide +kernel
theorem dX7_references_30 : decode cX7_references 30 = .ok (.iadd, 1) := by decide +kernel
theorem dX7_references_31 : decode cX7_references 31 = .ok (.istore_n 1, 1) := by decide +kernel
theorem dX7_references_32 : decode cX7_references 32 = .ok (.iinc 2 1, 3) := by decide +kernel
theorem dX7_references_35 : decode cX7_references 35 = .ok (.goto (-31), 3) := by decide +kernel
theorem dX7_references_38 : decode cX7_references 38 = .ok (.iload_n 1, 1) := by decide +kernel
theorem dX7_references_39 : decode cX7_references 39 = .ok (.ireturn, 1) := by decide +kernel
def FX7_references (G : GG) (M : DD) (a : Nat)  : Option (DD × Int32) :=
  bnd (itr (fun (s2 : Int32 × Int32) => ((ltt (M.1 a 3) fun x5 =>
  if x5 ≤ s2.2 then (some (.inr (s2.1, s2.2))) else
  (dr G 14 ((M.2 a 2)) fun b7 =>
  chk (¬ (s2.2 < 0 ∨ G.2.2 b7 ≤ s2.2.toNatClampNeg)) <|
  dr G 4 ((M.2 b7 s2.2.toNatClampNeg)) fun b8 =>
  ltt (M.1 b8 10) fun x9 =>
  bnd (if x9 = ((0 : Int32)) then (some ((0 : Int32))) else
  (some ((1 : Int32)))) fun (y10 : Int32) =>
  ltt ((s2.1 + y10)) fun x11 =>
  ltt (s2.2 + (1 : Int32)) fun x12 =>
  some (.inl (x11, x12)))) : Option ((Int32 × Int32) ⊕ (Int32 × Int32)))) 1000000 ((0 : Int32), (0 : Int32))) fun (y1 : Int32 × Int32) =>
  some (M, y1.1)
set_option maxHeartbeats 4000000 in
set_option maxRecDepth 100000 in
theorem kX7_references (l : Launch) (D : va_G) (ct : CT) (ad : Nat → Nat) (Z : Nat → Nat) (G : GG) (M : DD) (sz : Nat) (a : Nat)  (y : DD × Int32) (hc : a < G.1) (hk : G.2.1 a = 7) (hF : FX7_references G M a  = some y) : Met l yX7_references wuX7_references ({ frames := 0, cells := 0, slots := 0, locals := 0 }) (va_Pc [.ref (ad a)] (kB D ct ad Z G M sz)) (va_Qi (fun (q : Int32) (_ : Unit) => q = y.2) (fun _ t => kE D ct ad G (wA ad G sz) y.1 t) (wA ad G sz)) 0 0 (wA ad G sz) := by
  refine Met.ofW (cc := cX7_references) (maxL := 3) (ret := (some .int)) (by decide) rfl ?_
  intro p e s m args below meth c s₁ B hml hv
  obtain ⟨rfl, hsz, hP, hK, hD0, hZ, hN⟩ := hv
  have hx := B.exec
  have hb := B.bytes
  have hr := B.returns
  have hts := atoms_spec (ws := wuX7_references) B.pre
  have hown : s.vm.findClass RX7 = some m.cls := findClass_of_methodNamed B.named
  have hlocks := B.notSynchronized
  subst hsz
  have hD := wD_self (sz := s.heap.size) hD0
  have hA9 : ∀ q, s.heap.size ≤ q → wA ad G s.heap.size q := fun q h => Or.inr h
  generalize hAe : wA ad G s.heap.size = A at hD hA9 hZ ⊢
  have hS : va_S A s.heap s.heap [] := va_S.rf
  have hl := lv_entry ([.ref (ad a)]) (n := 3) (Nat.le_of_ble_eq_true rfl)
  rw [lg_entry_eq]
  generalize (lg_sl ([.ref (ad a)]) ++ List.replicate (3 - (lg_sl ([.ref (ad a)])).length) Slot.unset).toArray = ls at hl ⊢
  have hl : lv_has ls 3 [(0, .ref (ad a))] := hl
  unfold FX7_references at hF
  refine lv_iconst (v := (0 : Int32)) hx hb dX7_references_0 (by decide) ?_
  refine lv_istore_n (lv' := [(1, .int (0 : Int32)), (0, .ref (ad a))]) hx hb dX7_references_1 rfl hl (by decide) rfl (fun ls hl => ?_)
  refine lv_iconst (v := (0 : Int32)) hx hb dX7_references_2 (by decide) ?_
  refine lv_istore_n (lv' := [(2, .int (0 : Int32)), (1, .int (0 : Int32)), (0, .ref (ad a))]) hx hb dX7_references_3 rfl hl (by decide) rfl (fun ls hl => ?_)
  obtain ⟨y1, hy1, hF⟩ := bnd_some hF
  have K1 : ∀ (H : Heap) (locs : List Loc) (ls : Array Slot), va_P D classes (wld ct ad G M) H → va_D A (wld ct ad G M) → va_S A s.heap H locs → lv_has ls 3 [(2, .int y1.2), (1, .int y1.1), (0, .ref (ad a))] → W p l e (headSpec wuX7_references ({ frames := 0, cells := 0, slots := 0, locals := 0 })).room s m ([.ref (ad a)] : List Value).toArray below meth c H locs 0 0 (MQ below (va_Qi (fun (q : Int32) (_ : Unit) => q = y.2) (fun _ t => kE D ct ad G A y.1 t) A) ([.ref (ad a)] : List Value).toArray s 0 0 A) (F0 m 38 ls []) := by
    intro H locs ls hP hD hS hl
    refine lv_iload_n hx hb dX7_references_38 rfl (lv_at hl 1 rfl) ?_
    obtain rfl := Option.some.inj hF
    exact W.iret (v := y1.1) hx hb hr (fun t ht hW => ⟨⟨_, (), rfl, rfl, ⟨by rw [ht]; exact hP, va_K.moved hW.alike hK, hD⟩⟩, hS.F ht⟩) hS.2.2 dX7_references_39
  clear hF
  refine itr_rule (fun (s2 : Int32 × Int32) => ∀ (H : Heap) (locs : List Loc) (ls : Array Slot), va_P D classes (wld ct ad G M) H → va_D A (wld ct ad G M) → va_S A s.heap H locs → lv_has ls 3 [(2, .int s2.2), (1, .int s2.1), (0, .ref (ad a))] → W p l e (headSpec wuX7_references ({ frames := 0, cells := 0, slots := 0, locals := 0 })).room s m ([.ref (ad a)] : List Value).toArray below meth c H locs 0 0 (MQ below (va_Qi (fun (q : Int32) (_ : Unit) => q = y.2) (fun _ t => kE D ct ad G A y.1 t) A) ([.ref (ad a)] : List Value).toArray s 0 0 A) (F0 m 4 ls [])) ?_ _ _ hy1 _ _ _ hP hD hS (lv_sub hl [0, 1, 2] rfl)
  rintro s2 ⟨z4, hF, hwz4⟩ H locs ls hP hD hS hl
  try dsimp only at hF
  refine lv_iload_n hx hb dX7_references_4 rfl (lv_at hl 0 rfl) ?_
  refine lv_aload_n hx hb dX7_references_5 rfl (lv_at hl 2 rfl) ?_
  refine va_get (D := D) (ci := 7) (v := .int (M.1 a 3)) (C := RX7) (T := TX7) (N := 17) hx hb hts (mus hf_X7) hown hK hP a (wld_o ct ad G M hc hk (by decide)) rfl 3 (by decide) (hts (.fieldLink RX7 29 "VideoSuite$Store" "count" "I") (mu mw_358)) (fun _ h9 => h9) rfl dX7_references_6 ?_
  obtain ⟨x5, ex5, hF⟩ := ltt_some hF
  refine lv_topi (fun zx5 ezx5 => ?_)
  obtain rfl : x5 = zx5 := ex5.trans ezx5.symm
  refine lv_icmp_ge (tgt := 38) hx hb dX7_references_9 (by decide) (fun c6 => ?_) (fun c6 => ?_)
  · rw [if_pos c6] at hF
    obtain rfl := Option.some.inj hF
    subst hwz4
    exact K1 _ _ _ hP hD hS (lv_sub hl [0, 1, 2] rfl)
  · rw [if_neg c6] at hF
    refine lv_iload_n hx hb dX7_references_12 rfl (lv_at hl 1 rfl) ?_
    refine lv_aload_n hx hb dX7_references_13 rfl (lv_at hl 2 rfl) ?_
    refine va_get (D := D) (ci := 7) (v := va_re ad (M.2 a 2)) (C := RX7) (T := TX7) (N := 17) hx hb hts (mus hf_X7) hown hK hP a (wld_o ct ad G M hc hk (by decide)) rfl 2 (by decide) (hts (.fieldLink RX7 17 "VideoSuite$Store" "kept" "[LVideoSuite$Picture;") (mu mw_357)) (fun _ h9 => h9) rfl dX7_references_14 ?_
    refine lv_iload_n hx hb dX7_references_17 rfl (lv_at hl 0 rfl) ?_
    obtain ⟨b7, ho7, hc7, hk7, hF⟩ := dr_some hF
    refine W_st (st' := [.int s2.2, .ref (ad b7), .int s2.1]) (by rw [va_some ho7]) ?_
    obtain ⟨hvc, hF⟩ := chk_some hF
    refine ld_q hx hb hK hP hc7 hk7 hvc dX7_references_18 ?_
    obtain ⟨b8, ho8, hc8, hk8, hF⟩ := dr_some hF
    refine W_st (st' := [.ref (ad b8), .int s2.1]) (by rw [va_some ho8]) ?_
    refine va_get (D := D) (ci := 4) (v := .int (M.1 b8 10)) (C := RX4) (T := TX4) (N := 18) hx hb hts (mus hf_X4) hown hK hP b8 (wld_o ct ad G M hc8 hk8 (by decide)) rfl 10 (by decide) (hts (.fieldLink RX7 123 "VideoSuite$Picture" "use" "I") (mu mw_1460)) (fun _ h9 => h9) rfl dX7_references_19 ?_
    obtain ⟨x9, ex9, hF⟩ := ltt_some hF
    refine lv_topi (fun zx9 ezx9 => ?_)
    obtain rfl : x9 = zx9 := ex9.trans ezx9.symm
    obtain ⟨y10, hy10, hF⟩ := bnd_some hF
    have J10 : ∀ (H : Heap) (locs : List Loc) (ls : Array Slot), va_P D classes (wld ct ad G M) H → va_D A (wld ct ad G M) → va_S A s.heap H locs → lv_has ls 3 [(2, .int s2.2), (1, .int s2.1), (0, .ref (ad a))] → W p l e (headSpec wuX7_references ({ frames := 0, cells := 0, slots := 0, locals := 0 })).room s m ([.ref (ad a)] : List Value).toArray below meth c H locs 0 0 (MQ below (va_Qi (fun (q : Int32) (_ : Unit) => q = y.2) (fun _ t => kE D ct ad G A y.1 t) A) ([.ref (ad a)] : List Value).toArray s 0 0 A) (F0 m 30 ls [.int y10, .int s2.1]) := by
      intro H locs ls hP hD hS hl
      refine lv_iadd hx hb dX7_references_30 ?_
      obtain ⟨x11, ex11, hF⟩ := ltt_some hF
      refine lv_topi (fun zx11 ezx11 => ?_)
      obtain rfl : x11 = zx11 := ex11.trans ezx11.symm
      refine lv_istore_n (lv' := [(1, .int x11), (2, .int s2.2), (0, .ref (ad a))]) hx hb dX7_references_31 rfl hl (by decide) rfl (fun ls hl => ?_)
      obtain ⟨x12, ex12, hF⟩ := ltt_some hF
      refine lv_iinc (v := x12) (lv' := [(2, .int x12), (1, .int x11), (0, .ref (ad a))]) hx hb dX7_references_32 hl (k := 1) rfl (by rw [ex12]; rfl) (by decide) rfl (fun ls hl => ?_)
      refine lv_goto (tgt := 4) hx hb dX7_references_35 (by decide) ?_
      obtain rfl := Option.some.inj hF
      exact hwz4 _ _ _ hP hD hS (lv_sub hl [0, 1, 2] rfl)
    clear hF
    have hF := hy10
    clear hy10
    refine lv_if_eq (tgt := 29) hx hb dX7_references_22 (by decide) (fun c13 => ?_) (fun c13 => ?_)
    · rw [if_pos c13] at hF
      refine lv_iconst (v := (0 : Int32)) hx hb dX7_references_29 (by decide) ?_
      obtain rfl := Option.some.inj hF
      exact J10 _ _ _ hP hD hS (lv_sub hl [0, 1, 2] rfl)
    · rw [if_neg c13] at hF
      refine lv_iconst (v := (1 : Int32)) hx hb dX7_references_25 (by decide) ?_
      refine lv_goto (tgt := 30) hx hb dX7_references_26 (by decide) ?_
      obtain rfl := Option.some.inj hF
      exact J10 _ _ _ hP hD hS (lv_sub hl [0, 1, 2] rfl)
theorem dX7_release_0 : decode cX7_release 0 = .ok (.aload_n 0, 1) := by decide +kernel
theorem dX7_release_1 : decode cX7_release 1 = .ok (.iconst 0, 1) := by decide +kernel
theorem dX7_release_2 : decode cX7_release 2 = .ok (.putfield 123, 3) := by decide +kernel
theorem dX7_release_5 : decode cX7_release 5 = .ok (.aload_n 0, 1) := by decide +kernel
theorem dX7_release_6 : decode cX7_release 6 = .ok (.iconst (-1), 1) := by decide +kernel
theorem dX7_release_7 : decode cX7_release 7 = .ok (.putfield 129, 3) := by decide +kernel
theorem dX7_release_10 : decode cX7_release 10 = .ok (.return_, 1) := by decide +kernel
def FX7_release (G : GG) (M : DD) (p0 : Option Nat) : Option (DD) :=
  dr G 4 p0 fun b1 =>
  ltt (uI M b1 10 ((0 : Int32))) fun M2 =>
  ltt (uI M2 b1 11 ((-1 : Int32))) fun M3 =>
  some M3
set_option maxHeartbeats 4000000 in
set_option maxRecDepth 100000 in
theorem kX7_release (l : Launch) (D : va_G) (ct : CT) (ad : Nat → Nat) (Z : Nat → Nat) (G : GG) (M : DD) (sz : Nat) (p0 : Option Nat) (y : DD) (hF : FX7_release G M p0 = some y) : Met l yX7_release wuX7_release ({ frames := 0, cells := 0, slots := 0, locals := 0 }) (va_Pc [va_re ad p0] (kB D ct ad Z G M sz)) (va_Qv (fun (_ : Unit) => True) (fun _ t => kE D ct ad G (wA ad G sz) y t) (wA ad G sz)) 0 0 (wA ad G sz) := by
  refine Met.ofW (cc := cX7_release) (maxL := 1) (ret := none) (by decide) rfl ?_
  intro p e s m args below meth c s₁ B hml hv
  obtain ⟨rfl, hsz, hP, hK, hD0, hZ, hN⟩ := hv
  have hx := B.exec
  have hb := B.bytes
  have hr := B.returns
  have hts := atoms_spec (ws := wuX7_release) B.pre
  have hown : s.vm.findClass RX7 = some m.cls := findClass_of_methodNamed B.named
  have hlocks := B.notSynchronized
  subst hsz
  have hD := wD_self (sz := s.heap.size) hD0
  have hA9 : ∀ q, s.heap.size ≤ q → wA ad G s.heap.size q := fun q h => Or.inr h
  generalize hAe : wA ad G s.heap.size = A at hD hA9 hZ ⊢
  have hS : va_S A s.heap s.heap [] := va_S.rf
  have hl := lv_entry ([va_re ad p0]) (n := 1) (by cases p0 <;> exact Nat.le_of_ble_eq_true rfl)
  rw [lg_entry_eq]
  generalize (lg_sl ([va_re ad p0]) ++ List.replicate (1 - (lg_sl ([va_re ad p0])).length) Slot.unset).toArray = ls at hl ⊢
  have hl : lv_has ls 1 [(0, va_re ad p0)] := by have e9 : lv_args 0 [va_re ad p0] = [(0, va_re ad p0)] := (by cases p0 <;> rfl); rw [e9] at hl; exact hl
  unfold FX7_release at hF
  refine lv_aloadq_n hx hb dX7_release_0 rfl (lv_at hl 0 rfl) ?_
  refine lv_iconst (v := (0 : Int32)) hx hb dX7_release_1 (by decide) ?_
  obtain ⟨b1, ho1, hc1, hk1, hF⟩ := dr_some hF
  refine W_st (st' := [.int (0 : Int32), .ref (ad b1)]) (by rw [va_some ho1]) ?_
  refine va_put (D := D) (ci := 4) (v := .int (0 : Int32)) (ty := .int) (C := RX4) (T := TX4) (N := 18) hx hb hts (mus hf_X4) tyX4 tyX4_ok nmX4 hown hK hP hD hS b1 (wld_o ct ad G M hc1 hk1 (by decide)) rfl 10 (by decide) (hts (.fieldLink RX7 123 "VideoSuite$Picture" "use" "I") (mu mw_1460)) (fun _ h9 => h9) rfl (by decide +kernel) rfl rfl (Nat.le_of_ble_eq_true rfl) dX7_release_2 (fun H locs hP hD hS => ?_)
  obtain ⟨M2, eM2, hF⟩ := ltt_some hF
  rw [set_oI ct ad G M hc1 hk1 (by decide) (by rfl), ← eM2] at hP hD
  refine lv_aloadq_n hx hb dX7_release_5 rfl (lv_at hl 0 rfl) ?_
  refine lv_iconst (v := (-1 : Int32)) hx hb dX7_release_6 (by decide) ?_
  refine W_st (st' := [.int (-1 : Int32), .ref (ad b1)]) (by rw [va_some ho1]) ?_
  refine va_put (D := D) (ci := 4) (v := .int (-1 : Int32)) (ty := .int) (C := RX4) (T := TX4) (N := 18) hx hb hts (mus hf_X4) tyX4 tyX4_ok nmX4 hown hK hP hD hS b1 (wld_o ct ad G M2 hc1 hk1 (by decide)) rfl 11 (by decide) (hts (.fieldLink RX7 129 "VideoSuite$Picture" "number" "I") (mu mw_1464)) (fun _ h9 => h9) rfl (by decide +kernel) rfl rfl (Nat.le_of_ble_eq_true rfl) dX7_release_7 (fun H locs hP hD hS => ?_)
  obtain ⟨M3, eM3, hF⟩ := ltt_some hF
  rw [set_oI ct ad G M2 hc1 hk1 (by decide) (by rfl), ← eM3] at hP hD
  obtain rfl := Option.some.inj hF
  exact W.vret hx hb hr (fun t ht hW => ⟨⟨(), rfl, trivial, ⟨by rw [ht]; exact hP, va_K.moved hW.alike hK, hD⟩⟩, hS.F ht⟩) hS.2.2 dX7_release_10
set_option maxRecDepth 20000 in
theorem gX7_releaseAll_X7_release : GoodIn wuX7_releaseAll (va_wsS RX7 152 yX7_release wuX7_release) := gu_S mw_1019 mw_1020 mw_170 mw_1021
theorem dX7_releaseAll_0 : decode cX7_releaseAll 0 = .ok (.iconst 0, 1) := by decide +kernel
theorem dX7_releaseAll_1 : decode cX7_releaseAll 1 = .ok (.istore_n 1, 1) := by decide +kernel
theorem dX7_releaseAll_2 : decode cX7_releaseAll 2 = .ok (.iload_n 1, 1) := by decide +kernel
theorem dX7_releaseAll_3 : decode cX7_releaseAll 3 = .ok (.aload_n 0, 1) := by decide +kernel
theorem dX7_releaseAll_4 : decode cX7_releaseAll 4 = .ok (.getfield 29, 3) := by decide +kernel
theorem dX7_releaseAll_7 : decode cX7_releaseAll 7 = .ok (.if_icmp .ge 18, 3) := by decide +kernel
theorem dX7_releaseAll_10 : decode cX7_releaseAll 10 = .ok (.aload_n 0, 1) := by decide +kernel
theorem dX7_releaseAll_11 : decode cX7_releaseAll 11 = .ok (.getfield 17, 3) := by decide +kernel
theorem dX7_releaseAll_14 : decode cX7_releaseAll 14 = .ok (.iload_n 1, 1) := by decide +kernel
theorem dX7_releaseAll_15 : decode cX7_releaseAll 15 = .ok (.aaload, 1) := by decide +kernel
theorem dX7_releaseAll_16 : decode cX7_releaseAll 16 = .ok (.invokestatic 152, 3) := by decide +kernel
theorem dX7_releaseAll_19 : decode cX7_releaseAll 19 = .ok (.iinc 1 1, 3) := by decide +kernel
theorem dX7_releaseAll_22 : decode cX7_releaseAll 22 = .ok (.goto (-20), 3) := by decide +kernel
theorem dX7_releaseAll_25 : decode cX7_releaseAll 25 = .ok (.return_, 1) := by decide +kernel
def FX7_releaseAll (G : GG) (M : DD) (a : Nat)  : Option (DD) :=
  bnd (itr (fun (s2 : Int32 × DD) => ((ltt (s2.2.1 a 3) fun x5 =>
  if x5 ≤ s2.1 then (some (.inr (s2.1, s2.2))) else
  (dr G 14 ((s2.2.2 a 2)) fun b7 =>
  chk (¬ (s2.1 < 0 ∨ G.2.2 b7 ≤ s2.1.toNatClampNeg)) <|
  bnd (FX7_release G s2.2 ((s2.2.2 b7 s2.1.toNatClampNeg))) fun y8 =>
  ltt (s2.1 + (1 : Int32)) fun x9 =>
  some (.inl (x9, y8)))) : Option ((Int32 × DD) ⊕ (Int32 × DD)))) 1000000 ((0 : Int32), M)) fun (y1 : Int32 × DD) =>
  some y1.2
set_option maxHeartbeats 4000000 in
set_option maxRecDepth 100000 in
theorem kX7_releaseAll (l : Launch) (D : va_G) (ct : CT) (ad : Nat → Nat) (Z : Nat → Nat) (G : GG) (M : DD) (sz : Nat) (a : Nat)  (y : DD) (hc : a < G.1) (hk : G.2.1 a = 7) (hF : FX7_releaseAll G M a  = some y) : Met l yX7_releaseAll wuX7_releaseAll ({ frames := 1, cells := 0, slots := 0, locals := 20 }) (va_Pc [.ref (ad a)] (kB D ct ad Z G M sz)) (va_Qv (fun (_ : Unit) => True) (fun _ t => kE D ct ad G (wA ad G sz) y t) (wA ad G sz)) 0 0 (wA ad G sz) := by
  refine Met.ofW (cc := cX7_releaseAll) (maxL := 2) (ret := none) (by decide) rfl ?_
  intro p e s m args below meth c s₁ B hml hv
  obtain ⟨rfl, hsz, hP, hK, hD0, hZ, hN⟩ := hv
  have hx := B.exec
  have hb := B.bytes
  have hr := B.returns
  have hts := atoms_spec (ws := wuX7_releaseAll) B.pre
  have hown : s.vm.findClass RX7 = some m.cls := findClass_of_methodNamed B.named
  have hlocks := B.notSynchronized
  subst hsz
  have hD := wD_self (sz := s.heap.size) hD0
  have hA9 : ∀ q, s.heap.size ≤ q → wA ad G s.heap.size q := fun q h => Or.inr h
  generalize hAe : wA ad G s.heap.size = A at hD hA9 hZ ⊢
  have hS : va_S A s.heap s.heap [] := va_S.rf
  have hl := lv_entry ([.ref (ad a)]) (n := 2) (Nat.le_of_ble_eq_true rfl)
  rw [lg_entry_eq]
  generalize (lg_sl ([.ref (ad a)]) ++ List.replicate (2 - (lg_sl ([.ref (ad a)])).length) Slot.unset).toArray = ls at hl ⊢
  have hl : lv_has ls 2 [(0, .ref (ad a))] := hl
  unfold FX7_releaseAll at hF
  refine lv_iconst (v := (0 : Int32)) hx hb dX7_releaseAll_0 (by decide) ?_
  refine lv_istore_n (lv' := [(1, .int (0 : Int32)), (0, .ref (ad a))]) hx hb dX7_releaseAll_1 rfl hl (by decide) rfl (fun ls hl => ?_)
  obtain ⟨y1, hy1, hF⟩ := bnd_some hF
  have K1 : ∀ (H : Heap) (locs : List Loc) (ls : Array Slot), va_P D classes (wld ct ad G y1.2) H → va_D A (wld ct ad G y1.2) → va_S A s.heap H locs → lv_has ls 2 [(1, .int y1.1), (0, .ref (ad a))] → W p l e (headSpec wuX7_releaseAll ({ frames := 1, cells := 0, slots := 0, locals := 20 })).room s m ([.ref (ad a)] : List Value).toArray below meth c H locs 0 0 (MQ below (va_Qv (fun (_ : Unit) => True) (fun _ t => kE D ct ad G A y t) A) ([.ref (ad a)] : List Value).toArray s 0 0 A) (F0 m 25 ls []) := by
    intro H locs ls hP hD hS hl
    obtain rfl := Option.some.inj hF
    exact W.vret hx hb hr (fun t ht hW => ⟨⟨(), rfl, trivial, ⟨by rw [ht]; exact hP, va_K.moved hW.alike hK, hD⟩⟩, hS.F ht⟩) hS.2.2 dX7_releaseAll_25
  clear hF
  refine itr_rule (fun (s2 : Int32 × DD) => ∀ (H : Heap) (locs : List Loc) (ls : Array Slot), va_P D classes (wld ct ad G s2.2) H → va_D A (wld ct ad G s2.2) → va_S A s.heap H locs → lv_has ls 2 [(1, .int s2.1), (0, .ref (ad a))] → W p l e (headSpec wuX7_releaseAll ({ frames := 1, cells := 0, slots := 0, locals := 20 })).room s m ([.ref (ad a)] : List Value).toArray below meth c H locs 0 0 (MQ below (va_Qv (fun (_ : Unit) => True) (fun _ t => kE D ct ad G A y t) A) ([.ref (ad a)] : List Value).toArray s 0 0 A) (F0 m 2 ls [])) ?_ _ _ hy1 _ _ _ hP hD hS (lv_sub hl [0, 1] rfl)
  rintro s2 ⟨z4, hF, hwz4⟩ H locs ls hP hD hS hl
  try dsimp only at hF
  refine lv_iload_n hx hb dX7_releaseAll_2 rfl (lv_at hl 0 rfl) ?_
  refine lv_aload_n hx hb dX7_releaseAll_3 rfl (lv_at hl 1 rfl) ?_
  refine va_get (D := D) (ci := 7) (v := .int (s2.2.1 a 3)) (C := RX7) (T := TX7) (N := 17) hx hb hts (mus hf_X7) hown hK hP a (wld_o ct ad G s2.2 hc hk (by decide)) rfl 3 (by decide) (hts (.fieldLink RX7 29 "VideoSuite$Store" "count" "I") (mu mw_358)) (fun _ h9 => h9) rfl dX7_releaseAll_4 ?_
  obtain ⟨x5, ex5, hF⟩ := ltt_some hF
  refine lv_topi (fun zx5 ezx5 => ?_)
  obtain rfl : x5 = zx5 := ex5.trans ezx5.symm
  refine lv_icmp_ge (tgt := 25) hx hb dX7_releaseAll_7 (by decide) (fun c6 => ?_) (fun c6 => ?_)
  · rw [if_pos c6] at hF
    obtain rfl := Option.some.inj hF
    subst hwz4
    exact K1 _ _ _ hP hD hS (lv_sub hl [0, 1] rfl)
  · rw [if_neg c6] at hF
    refine lv_aload_n hx hb dX7_releaseAll_10 rfl (lv_at hl 1 rfl) ?_
    refine va_get (D := D) (ci := 7) (v := va_re ad (s2.2.2 a 2)) (C := RX7) (T := TX7) (N := 17) hx hb hts (mus hf_X7) hown hK hP a (wld_o ct ad G s2.2 hc hk (by decide)) rfl 2 (by decide) (hts (.fieldLink RX7 17 "VideoSuite$Store" "kept" "[LVideoSuite$Picture;") (mu mw_357)) (fun _ h9 => h9) rfl dX7_releaseAll_11 ?_
    refine lv_iload_n hx hb dX7_releaseAll_14 rfl (lv_at hl 0 rfl) ?_
    obtain ⟨b7, ho7, hc7, hk7, hF⟩ := dr_some hF
    refine W_st (st' := [.int s2.1, .ref (ad b7)]) (by rw [va_some ho7]) ?_
    obtain ⟨hvc, hF⟩ := chk_some hF
    refine ld_q hx hb hK hP hc7 hk7 hvc dX7_releaseAll_15 ?_
    obtain ⟨y8, hy8, hF⟩ := bnd_some hF
    have hf9 := wA_in hD hA9 hS
    refine va_callv (va_runS (As := [va_re ad (s2.2.2 b7 s2.1.toNatClampNeg)]) (rest := []) ⟨hx, hb, hml, hown, hts⟩ (kX7_release l D ct ad Z G s2.2 H.size ((s2.2.2 b7 s2.1.toNatClampNeg)) y8 hy8) (va_cwS 1 hts gX7_releaseAll_X7_release rfl rfl rfl (by decide +kernel) ⟨Nat.le_of_ble_eq_true rfl, Nat.le_of_ble_eq_true rfl⟩) ⟨fun a U g mk q => by obtain ⟨q0, q1, qP, qK, qD, qZ, qN⟩ := q; exact ⟨q0, q1, qP, va_K.moved (u := U) (U := U.calling g mk a) (Vm.Alike.refl U.vm) qK, qD, sF.moved (u := U) (U := U.calling g mk a) (Vm.Alike.refl U.vm) qZ, nF.same rfl qN⟩, fun U hU hW => ⟨rfl, by rw [hU], by rw [hU]; exact hP, va_K.moved hW.alike hK, hD.weaken (fun _ _ _ _ => trivial), by rw [hU]; exact ((hZ.kept hS.2.1).narrow hf9).moved hW.alike, hN.warm hW⟩⟩ rfl rfl hl.1 rfl (lv_room (Nat.le_of_ble_eq_true rfl)) dX7_releaseAll_16 ⟨(Nat.zero_le _), (Nat.zero_le _)⟩) hS (fun q _ h => hf9 q h) hf9 (fun u t H locs ht hvm hw hB hz1 hk1 hS => ?_)
    obtain ⟨hP, hK9, hD9⟩ := hB
    rw [ht] at hP
    have hD := hD9.weaken (fun _ q _ h => hf9 q.1 h)
    obtain ⟨x9, ex9, hF⟩ := ltt_some hF
    refine lv_iinc (v := x9) (lv' := [(1, .int x9), (0, .ref (ad a))]) hx hb dX7_releaseAll_19 hl (k := 0) rfl (by rw [ex9]; rfl) (by decide) rfl (fun ls hl => ?_)
    refine lv_goto (tgt := 2) hx hb dX7_releaseAll_22 (by decide) ?_
    obtain rfl := Option.some.inj hF
    exact hwz4 _ _ _ hP hD hS (lv_sub hl [0, 1] rfl)
theorem dX7_shorts_0 : decode cX7_shorts 0 = .ok (.iconst 0, 1) := by decide +kernel
theorem dX7_shorts_1 : decode cX7_shorts 1 = .ok (.istore_n 1, 1) := by decide +kernel
theorem dX7_shorts_2 : decode cX7_shorts 2 = .ok (.iconst 0, 1) := by decide +kernel
theorem dX7_shorts_3 : decode cX7_shorts 3 = .ok (.istore_n 2, 1) := by decide +kernel
theorem dX7_shorts_4 : decode cX7_shorts 4 = .ok (.iload_n 2, 1) := by decide +kernel
theorem dX7_shorts_5 : decode cX7_shorts 5 = .ok (.aload_n 0, 1) := by decide +kernel
theorem dX7_shorts_6 : decode cX7_shorts 6 = .ok (.getfield 29, 3) := by decide +kernel
theorem dX7_shorts_9 : decode cX7_shorts 9 = .ok (.if_icmp .ge 30, 3) := by decide +kernel
theorem dX7_shorts_12 : decode cX7_shorts 12 = .ok (.iload_n 1, 1) := by decide +kernel
theorem dX7_shorts_13 : decode cX7_shorts 13 = .ok (.aload_n 0, 1) := by decide +kernel
theorem dX7_shorts_14 : decode cX7_shorts 14 = .ok (.getfield 17, 3) := by decide +kernel
theorem dX7_shorts_17 : decode cX7_shorts 17 = .ok (.iload_n 2, 1) := by decide +kernel
theorem dX7_shorts_18 : decode cX7_shorts 18 = .ok (.aaload, 1) := by decide +kernel
theorem dX7_shorts_19 : decode cX7_shorts 19 = .ok (.getfield 123, 3) := by decide +kernel
theorem dX7_shorts_22 : decode cX7_shorts 22 = .ok (.iconst 1, 1) := by decide +kernel
theorem dX7_shorts_23 : decode cX7_shorts 23 = .ok (.if_icmp .ne 7, 3) := by decide +kernel
theorem dX7_shorts_26 : decode cX7_shorts 26 = .ok (.iconst 1, 1) := by decide +kernel
theorem dX7_shorts_27 : decode cX7_shorts 27 = .ok (.goto 4, 3) := by decide +kernel
theorem dX7_shorts_30 : decode cX7_shorts 30 = .ok (.iconst 0, 1) := by decide +kernel
theorem dX7_shorts_31 : decode cX7_shorts 31 = .ok (.iadd, 1) := by decide +kernel
theorem dX7_shorts_32 : decode cX7_shorts 32 = .ok (.istore_n 1, 1) := by decide +kernel
theorem dX7_shorts_33 : decode cX7_shorts 33 = .ok (.iinc 2 1, 3) := by decide +kernel
theorem dX7_shorts_36 : decode cX7_shorts 36 = .ok (.goto (-32), 3) := by decide +kernel
theorem dX7_shorts_39 : decode cX7_shorts 39 = .ok (.iload_n 1, 1) := by decide +kernel
theorem dX7_shorts_40 : decode cX7_shorts 40 = .ok (.ireturn, 1) := by decide +kernel
def FX7_shorts (G : GG) (M : DD) (a : Nat)  : Option (DD × Int32) :=
  bnd (itr (fun (s2 : Int32 × Int32) => ((ltt (M.1 a 3) fun x5 =>
  if x5 ≤ s2.2 then (some (.inr (s2.1, s2.2))) else
  (dr G 14 ((M.2 a 2)) fun b7 =>
  chk (¬ (s2.2 < 0 ∨ G.2.2 b7 ≤ s2.2.toNatClampNeg)) <|
  dr G 4 ((M.2 b7 s2.2.toNatClampNeg)) fun b8 =>
  ltt (M.1 b8 10) fun x9 =>
  bnd (if x9 = ((1 : Int32)) then (some ((1 : Int32))) else
  (some ((0 : Int32)))) fun (y10 : Int32) =>
  ltt ((s2.1 + y10)) fun x11 =>
  ltt (s2.2 + (1 : Int32)) fun x12 =>
  some (.inl (x11, x12)))) : Option ((Int32 × Int32) ⊕ (Int32 × Int32)))) 1000000 ((0 : Int32), (0 : Int32))) fun (y1 : Int32 × Int32) =>
  some (M, y1.1)
set_option maxHeartbeats 4000000 in
set_option maxRecDepth 100000 in
theorem kX7_shorts (l : Launch) (D : va_G) (ct : CT) (ad : Nat → Nat) (Z : Nat → Nat) (G : GG) (M : DD) (sz : Nat) (a : Nat)  (y : DD × Int32) (hc : a < G.1) (hk : G.2.1 a = 7) (hF : FX7_shorts G M a  = some y) : Met l yX7_shorts wuX7_shorts ({ frames := 0, cells := 0, slots := 0, locals := 0 }) (va_Pc [.ref (ad a)] (kB D ct ad Z G M sz)) (va_Qi (fun (q : Int32) (_ : Unit) => q = y.2) (fun _ t => kE D ct ad G (wA ad G sz) y.1 t) (wA ad G sz)) 0 0 (wA ad G sz) := by
  refine Met.ofW (cc := cX7_shorts) (maxL := 3) (ret := (some .int)) (by decide) rfl ?_
  intro p e s m args below meth c s₁ B hml hv
  obtain ⟨rfl, hsz, hP, hK, hD0, hZ, hN⟩ := hv
  have hx := B.exec
  have hb := B.bytes
  have hr := B.returns
  have hts := atoms_spec (ws := wuX7_shorts) B.pre
  have hown : s.vm.findClass RX7 = some m.cls := findClass_of_methodNamed B.named
  have hlocks := B.notSynchronized
  subst hsz
  have hD := wD_self (sz := s.heap.size) hD0
  have hA9 : ∀ q, s.heap.size ≤ q → wA ad G s.heap.size q := fun q h => Or.inr h
  generalize hAe : wA ad G s.heap.size = A at hD hA9 hZ ⊢
  have hS : va_S A s.heap s.heap [] := va_S.rf
  have hl := lv_entry ([.ref (ad a)]) (n := 3) (Nat.le_of_ble_eq_true rfl)
  rw [lg_entry_eq]
  generalize (lg_sl ([.ref (ad a)]) ++ List.replicate (3 - (lg_sl ([.ref (ad a)])).length) Slot.unset).toArray = ls at hl ⊢
  have hl : lv_has ls 3 [(0, .ref (ad a))] := hl
  unfold FX7_shorts at hF
  refine lv_iconst (v := (0 : Int32)) hx hb dX7_shorts_0 (by decide) ?_
  refine lv_istore_n (lv' := [(1, .int (0 : Int32)), (0, .ref (ad a))]) hx hb dX7_shorts_1 rfl hl (by decide) rfl (fun ls hl => ?_)
  refine lv_iconst (v := (0 : Int32)) hx hb dX7_shorts_2 (by decide) ?_
  refine lv_istore_n (lv' := [(2, .int (0 : Int32)), (1, .int (0 : Int32)), (0, .ref (ad a))]) hx hb dX7_shorts_3 rfl hl (by decide) rfl (fun ls hl => ?_)
  obtain ⟨y1, hy1, hF⟩ := bnd_some hF
  have K1 : ∀ (H : Heap) (locs : List Loc) (ls : Array Slot), va_P D classes (wld ct ad G M) H → va_D A (wld ct ad G M) → va_S A s.heap H locs → lv_has ls 3 [(2, .int y1.2), (1, .int y1.1), (0, .ref (ad a))] → W p l e (headSpec wuX7_shorts ({ frames := 0, cells := 0, slots := 0, locals := 0 })).room s m ([.ref (ad a)] : List Value).toArray below meth c H locs 0 0 (MQ below (va_Qi (fun (q : Int32) (_ : Unit) => q = y.2) (fun _ t => kE D ct ad G A y.1 t) A) ([.ref (ad a)] : List Value).toArray s 0 0 A) (F0 m 39 ls []) := by
    intro H locs ls hP hD hS hl
    refine lv_iload_n hx hb dX7_shorts_39 rfl (lv_at hl 1 rfl) ?_
    obtain rfl := Option.some.inj hF
    exact W.iret (v := y1.1) hx hb hr (fun t ht hW => ⟨⟨_, (), rfl, rfl, ⟨by rw [ht]; exact hP, va_K.moved hW.alike hK, hD⟩⟩, hS.F ht⟩) hS.2.2 dX7_shorts_40
  clear hF
  refine itr_rule (fun (s2 : Int32 × Int32) => ∀ (H : Heap) (locs : List Loc) (ls : Array Slot), va_P D classes (wld ct ad G M) H → va_D A (wld ct ad G M) → va_S A s.heap H locs → lv_has ls 3 [(2, .int s2.2), (1, .int s2.1), (0, .ref (ad a))] → W p l e (headSpec wuX7_shorts ({ frames := 0, cells := 0, slots := 0, locals := 0 })).room s m ([.ref (ad a)] : List Value).toArray below meth c H locs 0 0 (MQ below (va_Qi (fun (q : Int32) (_ : Unit) => q = y.2) (fun _ t => kE D ct ad G A y.1 t) A) ([.ref (ad a)] : List Value).toArray s 0 0 A) (F0 m 4 ls [])) ?_ _ _ hy1 _ _ _ hP hD hS (lv_sub hl [0, 1, 2] rfl)
  rintro s2 ⟨z4, hF, hwz4⟩ H locs ls hP hD hS hl
  try dsimp only at hF
  refine lv_iload_n hx hb dX7_shorts_4 rfl (lv_at hl 0 rfl) ?_
  refine lv_aload_n hx hb dX7_shorts_5 rfl (lv_at hl 2 rfl) ?_
  refine va_get (D := D) (ci := 7) (v := .int (M.1 a 3)) (C := RX7) (T := TX7) (N := 17) hx hb hts (mus hf_X7) hown hK hP a (wld_o ct ad G M hc hk (by decide)) rfl 3 (by decide) (hts (.fieldLink RX7 29 "VideoSuite$Store" "count" "I") (mu mw_358)) (fun _ h9 => h9) rfl dX7_shorts_6 ?_
  obtain ⟨x5, ex5, hF⟩ := ltt_some hF
  refine lv_topi (fun zx5 ezx5 => ?_)
  obtain rfl : x5 = zx5 := ex5.trans ezx5.symm
  refine lv_icmp_ge (tgt := 39) hx hb dX7_shorts_9 (by decide) (fun c6 => ?_) (fun c6 => ?_)
  · rw [if_pos c6] at hF
    obtain rfl := Option.some.inj hF
    subst hwz4
    exact K1 _ _ _ hP hD hS (lv_sub hl [0, 1, 2] rfl)
  · rw [if_neg c6] at hF
    refine lv_iload_n hx hb dX7_shorts_12 rfl (lv_at hl 1 rfl) ?_
    refine lv_aload_n hx hb dX7_shorts_13 rfl (lv_at hl 2 rfl) ?_
    refine va_get (D := D) (ci := 7) (v := va_re ad (M.2 a 2)) (C := RX7) (T := TX7) (N := 17) hx hb hts (mus hf_X7) hown hK hP a (wld_o ct ad G M hc hk (by decide)) rfl 2 (by decide) (hts (.fieldLink RX7 17 "VideoSuite$Store" "kept" "[LVideoSuite$Picture;") (mu mw_357)) (fun _ h9 => h9) rfl dX7_shorts_14 ?_
    refine lv_iload_n hx hb dX7_shorts_17 rfl (lv_at hl 0 rfl) ?_
    obtain ⟨b7, ho7, hc7, hk7, hF⟩ := dr_some hF
    refine W_st (st' := [.int s2.2, .ref (ad b7), .int s2.1]) (by rw [va_some ho7]) ?_
    obtain ⟨hvc, hF⟩ := chk_some hF
    refine ld_q hx hb hK hP hc7 hk7 hvc dX7_shorts_18 ?_
    obtain ⟨b8, ho8, hc8, hk8, hF⟩ := dr_some hF
    refine W_st (st' := [.ref (ad b8), .int s2.1]) (by rw [va_some ho8]) ?_
    refine va_get (D := D) (ci := 4) (v := .int (M.1 b8 10)) (C := RX4) (T := TX4) (N := 18) hx hb hts (mus hf_X4) hown hK hP b8 (wld_o ct ad G M hc8 hk8 (by decide)) rfl 10 (by decide) (hts (.fieldLink RX7 123 "VideoSuite$Picture" "use" "I") (mu mw_1460)) (fun _ h9 => h9) rfl dX7_shorts_19 ?_
    obtain ⟨x9, ex9, hF⟩ := ltt_some hF
    refine lv_topi (fun zx9 ezx9 => ?_)
    obtain rfl : x9 = zx9 := ex9.trans ezx9.symm
    refine lv_iconst (v := (1 : Int32)) hx hb dX7_shorts_22 (by decide) ?_
    obtain ⟨y10, hy10, hF⟩ := bnd_some hF
    have J10 : ∀ (H : Heap) (locs : List Loc) (ls : Array Slot), va_P D classes (wld ct ad G M) H → va_D A (wld ct ad G M) → va_S A s.heap H locs → lv_has ls 3 [(2, .int s2.2), (1, .int s2.1), (0, .ref (ad a))] → W p l e (headSpec wuX7_shorts ({ frames := 0, cells := 0, slots := 0, locals := 0 })).room s m ([.ref (ad a)] : List Value).toArray below meth c H locs 0 0 (MQ below (va_Qi (fun (q : Int32) (_ : Unit) => q = y.2) (fun _ t => kE D ct ad G A y.1 t) A) ([.ref (ad a)] : List Value).toArray s 0 0 A) (F0 m 31 ls [.int y10, .int s2.1]) := by
      intro H locs ls hP hD hS hl
      refine lv_iadd hx hb dX7_shorts_31 ?_
      obtain ⟨x11, ex11, hF⟩ := ltt_some hF
      refine lv_topi (fun zx11 ezx11 => ?_)
      obtain rfl : x11 = zx11 := ex11.trans ezx11.symm
      refine lv_istore_n (lv' := [(1, .int x11), (2, .int s2.2), (0, .ref (ad a))]) hx hb dX7_shorts_32 rfl hl (by decide) rfl (fun ls hl => ?_)
      obtain ⟨x12, ex12, hF⟩ := ltt_some hF
      refine lv_iinc (v := x12) (lv' := [(2, .int x12), (1, .int x11), (0, .ref (ad a))]) hx hb dX7_shorts_33 hl (k := 1) rfl (by rw [ex12]; rfl) (by decide) rfl (fun ls hl => ?_)
      refine lv_goto (tgt := 4) hx hb dX7_shorts_36 (by decide) ?_
      obtain rfl := Option.some.inj hF
      exact hwz4 _ _ _ hP hD hS (lv_sub hl [0, 1, 2] rfl)
    clear hF
    have hF := hy10
    clear hy10
    refine lv_icmp_ne (tgt := 30) hx hb dX7_shorts_23 (by decide) (fun c13 => ?_) (fun c13 => ?_)
    · rw [if_neg c13] at hF
      refine lv_iconst (v := (0 : Int32)) hx hb dX7_shorts_30 (by decide) ?_
      obtain rfl := Option.some.inj hF
      exact J10 _ _ _ hP hD hS (lv_sub hl [0, 1, 2] rfl)
    · rw [if_pos c13] at hF
      refine lv_iconst (v := (1 : Int32)) hx hb dX7_shorts_26 (by decide) ?_
      refine lv_goto (tgt := 31) hx hb dX7_shorts_27 (by decide) ?_
      obtain rfl := Option.some.inj hF
      exact J10 _ _ _ hP hD hS (lv_sub hl [0, 1, 2] rfl)
set_option maxRecDepth 20000 in
theorem gX7_slide_X7_leastShort : GoodIn wuX7_slide (wsV RX7 156 RX7 yX7_leastShort wuX7_leastShort) := gu_V mw_1026 mw_1028 mw_11 mw_170 mw_1029
set_option maxRecDepth 20000 in
set_option maxRecDepth 20000 in
theorem gX7_slide_X7_references : GoodIn wuX7_slide (wsV RX7 160 RX7 yX7_references wuX7_references) := gu_V mw_1033 mw_1035 mw_12 mw_170 mw_1036
set_option maxRecDepth 20000 in
set_option maxRecDepth 20000 in
theorem gX7_slide_X7_release : GoodIn wuX7_slide (va_wsS RX7 152 yX7_release wuX7_release) := gu_S mw_1019 mw_1020 mw_170 mw_1021
theorem dX7_slide_0 : decode cX7_slide 0 = .ok (.aload_n 0, 1) := by decide +kernel
theorem dX7_slide_1 : decode cX7_slide 1 = .ok (.iload_n 1, 1) := by decide +kernel
theorem dX7_slide_2 : decode cX7_slide 2 = .ok (.iload_n 2, 1) := by decide +kernel
theorem dX7_slide_3 : decode cX7_slide 3 = .ok (.invokevirtual 156, 3) := by decide +kernel
theorem dX7_slide_6 : decode cX7_slide 6 = .ok (.astore 4, 2) := by decide +kernel
theorem dX7_slide_8 : decode cX7_slide 8 = .ok (.aload_n 0, 1) := by decide +kernel
theorem dX7_slide_9 : decode cX7_slide 9 = .ok (.invokevirtual 160, 3) := by decide +kernel
theorem dX7_slide_12 : decode cX7_slide 12 = .ok (.iload_n 3, 1) := by decide +kernel
theorem dX7_slide_13 : decode cX7_slide 13 = .ok (.if_icmp .lt 13, 3) := by decide +kernel
theorem dX7_slide_16 : decode cX7_slide 16 = .ok (.aload 4, 2) := by decide +kernel
theorem dX7_slide_18 : decode cX7_slide 18 = .ok (.ifnull 8, 3) := by decide +kernel
theorem dX7_slide_21 : decode cX7_slide 21 = .ok (.aload 4, 2) := by decide +kernel
theorem dX7_slide_23 : decode cX7_slide 23 = .ok (.invokestatic 152, 3) := by decide +kernel
theorem dX7_slide_26 : decode cX7_slide 26 = .ok (.return_, 1) := by decide +kernel
def FX7_slide (G : GG) (M : DD) (a : Nat) (p0 : Int32) (p1 : Int32) (p2 : Int32) : Option (DD) :=
  bnd (FX7_leastShort G M a p0 p1) fun y1 =>
  bnd (FX7_references G y1.1 a) fun y2 =>
  bnd (if y2.2 < p2 then (some (y2.1)) else
  (bnd (if y1.2 = none then (some (y2.1)) else
  (bnd (FX7_release G y2.1 y1.2) fun y7 =>
  some (y7))) fun (y5 : DD) =>
  some (y5))) fun (y3 : DD) =>
  some y3
set_option maxHeartbeats 4000000 in
set_option maxRecDepth 100000 in
theorem kX7_slide (l : Launch) (D : va_G) (ct : CT) (ad : Nat → Nat) (Z : Nat → Nat) (G : GG) (M : DD) (sz : Nat) (a : Nat) (p0 : Int32) (p1 : Int32) (p2 : Int32) (y : DD) (hc : a < G.1) (hk : G.2.1 a = 7) (hF : FX7_slide G M a p0 p1 p2 = some y) : Met l yX7_slide wuX7_slide ({ frames := 2, cells := 0, slots := 0, locals := 47 }) (va_Pc [.ref (ad a), .int p0, .int p1, .int p2] (kB D ct ad Z G M sz)) (va_Qv (fun (_ : Unit) => True) (fun _ t => kE D ct ad G (wA ad G sz) y t) (wA ad G sz)) 0 0 (wA ad G sz) := by
  refine Met.ofW (cc := cX7_slide) (maxL := 5) (ret := none) (by decide) rfl ?_
  intro p e s m args below meth c s₁ B hml hv
  obtain ⟨rfl, hsz, hP, hK, hD0, hZ, hN⟩ := hv
  have hx := B.exec
  have hb := B.bytes
  have hr := B.returns
  have hts := atoms_spec (ws := wuX7_slide) B.pre
  have hown : s.vm.findClass RX7 = some m.cls := findClass_of_methodNamed B.named
  have hlocks := B.notSynchronized
  subst hsz
  have hD := wD_self (sz := s.heap.size) hD0
  have hA9 : ∀ q, s.heap.size ≤ q → wA ad G s.heap.size q := fun q h => Or.inr h
  generalize hAe : wA ad G s.heap.size = A at hD hA9 hZ ⊢
  have hS : va_S A s.heap s.heap [] := va_S.rf
  have hl := lv_entry ([.ref (ad a), .int p0, .int p1, .int p2]) (n := 5) (Nat.le_of_ble_eq_true rfl)
  rw [lg_entry_eq]
  generalize (lg_sl ([.ref (ad a), .int p0, .int p1, .int p2]) ++ List.replicate (5 - (lg_sl ([.ref (ad a), .int p0, .int p1, .int p2])).length) Slot.unset).toArray = ls at hl ⊢
  have hl : lv_has ls 5 [(0, .ref (ad a)), (1, .int p0), (2, .int p1), (3, .int p2)] := hl
  unfold FX7_slide at hF
  refine lv_aload_n hx hb dX7_slide_0 rfl (lv_at hl 0 rfl) ?_
  refine lv_iload_n hx hb dX7_slide_1 rfl (lv_at hl 1 rfl) ?_
  refine lv_iload_n hx hb dX7_slide_2 rfl (lv_at hl 2 rfl) ?_
  obtain ⟨y1, hy1, hF⟩ := bnd_some hF
  have hf9 := wA_in hD hA9 hS
  refine va_calle (va_runV (As := [.int p0, .int p1]) (rest := []) ⟨hx, hb, hml, hown, hts⟩ (kX7_leastShort l D ct ad Z G M s.heap.size a p0 p1 y1 hc hk hy1) (cwV 2 hts gX7_slide_X7_leastShort rfl rfl rfl (by decide +kernel) ⟨Nat.le_of_ble_eq_true rfl, Nat.le_of_ble_eq_true rfl⟩) ⟨fun a U g mk q => by obtain ⟨q0, q1, qP, qK, qD, qZ, qN⟩ := q; exact ⟨q0, q1, qP, va_K.moved (u := U) (U := U.calling g mk a) (Vm.Alike.refl U.vm) qK, qD, sF.moved (u := U) (U := U.calling g mk a) (Vm.Alike.refl U.vm) qZ, nF.same rfl qN⟩, va_recv hK hP (ci := 7) (q0 := a) rfl (wld_o ct ad G M hc hk (by decide)), fun U hU hW => ⟨rfl, by rw [hU], by rw [hU]; exact hP, va_K.moved hW.alike hK, hD.weaken (fun _ _ _ _ => trivial), by rw [hU]; exact ((hZ.kept hS.2.1).narrow hf9).moved hW.alike, hN.warm hW⟩⟩ rfl rfl hl.1 rfl (lv_room (Nat.le_of_ble_eq_true rfl)) dX7_slide_3 ⟨(Nat.zero_le _), (Nat.zero_le _)⟩) hS (fun q _ h => hf9 q h) hf9 (fun r u t H locs ht hvm hw hB hz1 hk1 hS => ?_)
  obtain ⟨hP, hK9, hD9⟩ := hB
  rw [ht] at hP
  try dsimp only at hw
  subst hw
  have hD := hD9.weaken (fun _ q _ h => hf9 q.1 h)
  refine lv_astoreq (lv' := [(4, va_re ad y1.2), (0, .ref (ad a)), (1, .int p0), (2, .int p1), (3, .int p2)]) hx hb dX7_slide_6 hl (by decide) rfl (fun ls hl => ?_)
  refine lv_aload_n hx hb dX7_slide_8 rfl (lv_at hl 1 rfl) ?_
  obtain ⟨y2, hy2, hF⟩ := bnd_some hF
  have hf9 := wA_in hD hA9 hS
  refine va_calli (va_runV (As := []) (rest := []) ⟨hx, hb, hml, hown, hts⟩ (kX7_references l D ct ad Z G y1.1 H.size a y2 hc hk hy2) (cwV 0 hts gX7_slide_X7_references rfl rfl rfl (by decide +kernel) ⟨Nat.le_of_ble_eq_true rfl, Nat.le_of_ble_eq_true rfl⟩) ⟨fun a U g mk q => by obtain ⟨q0, q1, qP, qK, qD, qZ, qN⟩ := q; exact ⟨q0, q1, qP, va_K.moved (u := U) (U := U.calling g mk a) (Vm.Alike.refl U.vm) qK, qD, sF.moved (u := U) (U := U.calling g mk a) (Vm.Alike.refl U.vm) qZ, nF.same rfl qN⟩, va_recv hK hP (ci := 7) (q0 := a) rfl (wld_o ct ad G y1.1 hc hk (by decide)), fun U hU hW => ⟨rfl, by rw [hU], by rw [hU]; exact hP, va_K.moved hW.alike hK, hD.weaken (fun _ _ _ _ => trivial), by rw [hU]; exact ((hZ.kept hS.2.1).narrow hf9).moved hW.alike, hN.warm hW⟩⟩ rfl rfl hl.1 rfl (lv_room (Nat.le_of_ble_eq_true rfl)) dX7_slide_9 ⟨(Nat.zero_le _), (Nat.zero_le _)⟩) hS (fun q _ h => hf9 q h) hf9 (fun r u t H locs ht hvm hw hB hz1 hk1 hS => ?_)
  obtain ⟨hP, hK9, hD9⟩ := hB
  rw [ht] at hP
  try dsimp only at hw
  subst hw
  have hD := hD9.weaken (fun _ q _ h => hf9 q.1 h)
  refine lv_iload_n hx hb dX7_slide_12 rfl (lv_at hl 4 rfl) ?_
  obtain ⟨y3, hy3, hF⟩ := bnd_some hF
  have J3 : ∀ (H : Heap) (locs : List Loc) (ls : Array Slot), va_P D classes (wld ct ad G y3) H → va_D A (wld ct ad G y3) → va_S A s.heap H locs → lv_has ls 5 [(4, va_re ad y1.2), (0, .ref (ad a)), (1, .int p0), (2, .int p1), (3, .int p2)] → W p l e (headSpec wuX7_slide ({ frames := 2, cells := 0, slots := 0, locals := 47 })).room s m ([.ref (ad a), .int p0, .int p1, .int p2] : List Value).toArray below meth c H locs 0 0 (MQ below (va_Qv (fun (_ : Unit) => True) (fun _ t => kE D ct ad G A y t) A) ([.ref (ad a), .int p0, .int p1, .int p2] : List Value).toArray s 0 0 A) (F0 m 26 ls []) := by
    intro H locs ls hP hD hS hl
    obtain rfl := Option.some.inj hF
    exact W.vret hx hb hr (fun t ht hW => ⟨⟨(), rfl, trivial, ⟨by rw [ht]; exact hP, va_K.moved hW.alike hK, hD⟩⟩, hS.F ht⟩) hS.2.2 dX7_slide_26
  clear hF
  have hF := hy3
  clear hy3
  refine lv_icmp_lt (tgt := 26) hx hb dX7_slide_13 (by decide) (fun c4 => ?_) (fun c4 => ?_)
  · rw [if_pos c4] at hF
    obtain rfl := Option.some.inj hF
    exact J3 _ _ _ hP hD hS (lv_sub hl [0, 1, 2, 3, 4] rfl)
  · rw [if_neg c4] at hF
    refine lv_aloadq hx hb dX7_slide_16 (lv_at hl 0 rfl) ?_
    obtain ⟨y5, hy5, hF⟩ := bnd_some hF
    have J5 : ∀ (H : Heap) (locs : List Loc) (ls : Array Slot), va_P D classes (wld ct ad G y5) H → va_D A (wld ct ad G y5) → va_S A s.heap H locs → lv_has ls 5 [(4, va_re ad y1.2), (0, .ref (ad a)), (1, .int p0), (2, .int p1), (3, .int p2)] → W p l e (headSpec wuX7_slide ({ frames := 2, cells := 0, slots := 0, locals := 47 })).room s m ([.ref (ad a), .int p0, .int p1, .int p2] : List Value).toArray below meth c H locs 0 0 (MQ below (va_Qv (fun (_ : Unit) => True) (fun _ t => kE D ct ad G A y t) A) ([.ref (ad a), .int p0, .int p1, .int p2] : List Value).toArray s 0 0 A) (F0 m 26 ls []) := by
      intro H locs ls hP hD hS hl
      obtain rfl := Option.some.inj hF
      exact J3 _ _ _ hP hD hS (lv_sub hl [0, 1, 2, 3, 4] rfl)
    clear hF
    have hF := hy5
    clear hy5
    refine lv_ifnullq (tgt := 26) hx hb dX7_slide_18 (by decide) (fun c6 => ?_) (fun c6 => ?_)
    · rw [if_pos c6] at hF
      obtain rfl := Option.some.inj hF
      exact J5 _ _ _ hP hD hS (lv_sub hl [0, 1, 2, 3, 4] rfl)
    · rw [if_neg c6] at hF
      refine lv_aloadq hx hb dX7_slide_21 (lv_at hl 0 rfl) ?_
      obtain ⟨y7, hy7, hF⟩ := bnd_some hF
      have hf9 := wA_in hD hA9 hS
      refine va_callv (va_runS (As := [va_re ad y1.2]) (rest := []) ⟨hx, hb, hml, hown, hts⟩ (kX7_release l D ct ad Z G y2.1 H.size y1.2 y7 hy7) (va_cwS 1 hts gX7_slide_X7_release rfl rfl rfl (by decide +kernel) ⟨Nat.le_of_ble_eq_true rfl, Nat.le_of_ble_eq_true rfl⟩) ⟨fun a U g mk q => by obtain ⟨q0, q1, qP, qK, qD, qZ, qN⟩ := q; exact ⟨q0, q1, qP, va_K.moved (u := U) (U := U.calling g mk a) (Vm.Alike.refl U.vm) qK, qD, sF.moved (u := U) (U := U.calling g mk a) (Vm.Alike.refl U.vm) qZ, nF.same rfl qN⟩, fun U hU hW => ⟨rfl, by rw [hU], by rw [hU]; exact hP, va_K.moved hW.alike hK, hD.weaken (fun _ _ _ _ => trivial), by rw [hU]; exact ((hZ.kept hS.2.1).narrow hf9).moved hW.alike, hN.warm hW⟩⟩ rfl rfl hl.1 rfl (lv_room (Nat.le_of_ble_eq_true rfl)) dX7_slide_23 ⟨(Nat.zero_le _), (Nat.zero_le _)⟩) hS (fun q _ h => hf9 q h) hf9 (fun u t H locs ht hvm hw hB hz1 hk1 hS => ?_)
      obtain ⟨hP, hK9, hD9⟩ := hB
      rw [ht] at hP
      have hD := hD9.weaken (fun _ q _ h => hf9 q.1 h)
      obtain rfl := Option.some.inj hF
      exact J5 _ _ _ hP hD hS (lv_sub hl [0, 1, 2, 3, 4] rfl)
theorem dX7_sweep_0 : decode cX7_sweep 0 = .ok (.iconst 0, 1) := by decide +kernel
theorem dX7_sweep_1 : decode cX7_sweep 1 = .ok (.istore_n 1, 1) := by decide +kernel
theorem dX7_sweep_2 : decode cX7_sweep 2 = .ok (.iconst 0, 1) := by decide +kernel
theorem dX7_sweep_3 : decode cX7_sweep 3 = .ok (.istore_n 2, 1) := by decide +kernel
theorem dX7_sweep_4 : decode cX7_sweep 4 = .ok (.iload_n 2, 1) := by decide +kernel
theorem dX7_sweep_5 : decode cX7_sweep 5 = .ok (.aload_n 0, 1) := by decide +kernel
theorem dX7_sweep_6 : decode cX7_sweep 6 = .ok (.getfield 29, 3) := by decide +kernel
theorem dX7_sweep_9 : decode cX7_sweep 9 = .ok (.if_icmp .ge 40, 3) := by decide +kernel
theorem dX7_sweep_12 : decode cX7_sweep 12 = .ok (.aload_n 0, 1) := by decide +kernel
theorem dX7_sweep_13 : decode cX7_sweep 13 = .ok (.getfield 17, 3) := by decide +kernel
theorem dX7_sweep_16 : decode cX7_sweep 16 = .ok (.iload_n 2, 1) := by decide +kernel
theorem dX7_sweep_17 : decode cX7_sweep 17 = .ok (.aaload, 1) := by decide +kernel
theorem dX7_sweep_18 : decode cX7_sweep 18 = .ok (.astore_n 3, 1) := by decide +kernel
theorem dX7_sweep_19 : decode cX7_sweep 19 = .ok (.aload_n 3, 1) := by decide +kernel
theorem dX7_sweep_20 : decode cX7_sweep 20 = .ok (.getfield 123, 3) := by decide +kernel
theorem dX7_sweep_23 : decode cX7_sweep 23 = .ok (.ifCond .ne 10, 3) := by decide +kernel
theorem dX7_sweep_26 : decode cX7_sweep 26 = .ok (.aload_n 3, 1) := by decide +kernel
theorem dX7_sweep_27 : decode cX7_sweep 27 = .ok (.getfield 164, 3) := by decide +kernel
theorem dX7_sweep_30 : decode cX7_sweep 30 = .ok (.ifCond .eq 13, 3) := by decide +kernel
theorem dX7_sweep_33 : decode cX7_sweep 33 = .ok (.aload_n 0, 1) := by decide +kernel
theorem dX7_sweep_34 : decode cX7_sweep 34 = .ok (.getfield 17, 3) := by decide +kernel
theorem dX7_sweep_37 : decode cX7_sweep 37 = .ok (.iload_n 1, 1) := by decide +kernel
theorem dX7_sweep_38 : decode cX7_sweep 38 = .ok (.aload_n 3, 1) := by decide +kernel
theorem dX7_sweep_39 : decode cX7_sweep 39 = .ok (.aastore, 1) := by decide +kernel
theorem dX7_sweep_40 : decode cX7_sweep 40 = .ok (.iinc 1 1, 3) := by decide +kernel
theorem dX7_sweep_43 : decode cX7_sweep 43 = .ok (.iinc 2 1, 3) := by decide +kernel
theorem dX7_sweep_46 : decode cX7_sweep 46 = .ok (.goto (-42), 3) := by decide +kernel
theorem dX7_sweep_49 : decode cX7_sweep 49 = .ok (.iload_n 1, 1) := by decide +kernel
theorem dX7_sweep_50 : decode cX7_sweep 50 = .ok (.istore_n 2, 1) := by decide +kernel
theorem dX7_sweep_51 : decode cX7_sweep 51 = .ok (.iload_n 2, 1) := by decide +kernel
theorem dX7_sweep_52 : decode cX7_sweep 52 = .ok (.aload_n 0, 1) := by decide +kernel
theorem dX7_sweep_53 : decode cX7_sweep 53 = .ok (.getfield 29, 3) := by decide +kernel
theorem dX7_sweep_56 : decode cX7_sweep 56 = .ok (.if_icmp .ge 16, 3) := by decide +kernel
theorem dX7_sweep_59 : decode cX7_sweep 59 = .ok (.aload_n 0, 1) := by decide +kernel
theorem dX7_sweep_60 : decode cX7_sweep 60 = .ok (.getfield 17, 3) := by decide +kernel
theorem dX7_sweep_63 : decode cX7_sweep 63 = .ok (.iload_n 2, 1) := by decide +kernel
theorem dX7_sweep_64 : decode cX7_sweep 64 = .ok (.aconst_null, 1) := by decide +kernel
theorem dX7_sweep_65 : decode cX7_sweep 65 = .ok (.aastore, 1) := by decide +kernel
theorem dX7_sweep_66 : decode cX7_sweep 66 = .ok (.iinc 2 1, 3) := by decide +kernel
theorem dX7_sweep_69 : decode cX7_sweep 69 = .ok (.goto (-18), 3) := by decide +kernel
theorem dX7_sweep_72 : decode cX7_sweep 72 = .ok (.aload_n 0, 1) := by decide +kernel
theorem dX7_sweep_73 : decode cX7_sweep 73 = .ok (.iload_n 1, 1) := by decide +kernel
theorem dX7_sweep_74 : decode cX7_sweep 74 = .ok (.putfield 29, 3) := by decide +kernel
theorem dX7_sweep_77 : decode cX7_sweep 77 = .ok (.return_, 1) := by decide +kernel
def FX7_sweep (G : GG) (M : DD) (a : Nat)  : Option (DD) :=
  bnd (itr (fun (s2 : Int32 × Int32 × DD) => ((ltt (s2.2.2.1 a 3) fun x15 =>
  if x15 ≤ s2.2.1 then (some (.inr (s2.1, s2.2.1, s2.2.2))) else
  (dr G 14 ((s2.2.2.2 a 2)) fun b17 =>
  chk (¬ (s2.2.1 < 0 ∨ G.2.2 b17 ≤ s2.2.1.toNatClampNeg)) <|
  dr G 4 ((s2.2.2.2 b17 s2.2.1.toNatClampNeg)) fun b18 =>
  ltt (s2.2.2.1 b18 10) fun x19 =>
  bnd (if x19 = ((0 : Int32)) then (ltt (s2.2.2.1 b18 12) fun x25 =>
  bnd (if x25 = ((0 : Int32)) then (some (s2.1, s2.2.2)) else
  (chk (¬ (s2.1 < 0 ∨ G.2.2 b17 ≤ s2.1.toNatClampNeg)) <|
  chk (okr G 4 ((s2.2.2.2 b17 s2.2.1.toNatClampNeg)) = true) <|
  ltt (uP s2.2.2 b17 s2.1.toNatClampNeg ((s2.2.2.2 b17 s2.2.1.toNatClampNeg))) fun M28 =>
  ltt (s2.1 + (1 : Int32)) fun x29 =>
  some (x29, M28))) fun (y26 : Int32 × DD) =>
  some (y26.1, y26.2)) else
  (chk (¬ (s2.1 < 0 ∨ G.2.2 b17 ≤ s2.1.toNatClampNeg)) <|
  chk (okr G 4 ((s2.2.2.2 b17 s2.2.1.toNatClampNeg)) = true) <|
  ltt (uP s2.2.2 b17 s2.1.toNatClampNeg ((s2.2.2.2 b17 s2.2.1.toNatClampNeg))) fun M23 =>
  ltt (s2.1 + (1 : Int32)) fun x24 =>
  some (x24, M23))) fun (y20 : Int32 × DD) =>
  ltt (s2.2.1 + (1 : Int32)) fun x21 =>
  some (.inl (y20.1, x21, y20.2)))) : Option ((Int32 × Int32 × DD) ⊕ (Int32 × Int32 × DD)))) 1000000 ((0 : Int32), (0 : Int32), M)) fun (y1 : Int32 × Int32 × DD) =>
  bnd (itr (fun (s5 : Int32 × DD) => ((ltt (s5.2.1 a 3) fun x9 =>
  if x9 ≤ s5.1 then (some (.inr (s5.1, s5.2))) else
  (dr G 14 ((s5.2.2 a 2)) fun b11 =>
  chk (¬ (s5.1 < 0 ∨ G.2.2 b11 ≤ s5.1.toNatClampNeg)) <|
  chk (okr G 4 none = true) <|
  ltt (uP s5.2 b11 s5.1.toNatClampNeg none) fun M12 =>
  ltt (s5.1 + (1 : Int32)) fun x13 =>
  some (.inl (x13, M12)))) : Option ((Int32 × DD) ⊕ (Int32 × DD)))) 1000000 (y1.1, y1.2.2)) fun (y4 : Int32 × DD) =>
  ltt (uI y4.2 a 3 y1.1) fun M7 =>
  some M7
set_option maxHeartbeats 4000000 in
set_option maxRecDepth 100000 in
theorem kX7_sweep (l : Launch) (D : va_G) (ct : CT) (ad : Nat → Nat) (Z : Nat → Nat) (G : GG) (M : DD) (sz : Nat) (a : Nat)  (y : DD) (hc : a < G.1) (hk : G.2.1 a = 7) (hF : FX7_sweep G M a  = some y) : Met l yX7_sweep wuX7_sweep ({ frames := 0, cells := 0, slots := 0, locals := 0 }) (va_Pc [.ref (ad a)] (kB D ct ad Z G M sz)) (va_Qv (fun (_ : Unit) => True) (fun _ t => kE D ct ad G (wA ad G sz) y t) (wA ad G sz)) 0 0 (wA ad G sz) := by
  refine Met.ofW (cc := cX7_sweep) (maxL := 4) (ret := none) (by decide) rfl ?_
  intro p e s m args below meth c s₁ B hml hv
  obtain ⟨rfl, hsz, hP, hK, hD0, hZ, hN⟩ := hv
  have hx := B.exec
  have hb := B.bytes
  have hr := B.returns
  have hts := atoms_spec (ws := wuX7_sweep) B.pre
  have hown : s.vm.findClass RX7 = some m.cls := findClass_of_methodNamed B.named
  have hlocks := B.notSynchronized
  subst hsz
  have hD := wD_self (sz := s.heap.size) hD0
  have hA9 : ∀ q, s.heap.size ≤ q → wA ad G s.heap.size q := fun q h => Or.inr h
  generalize hAe : wA ad G s.heap.size = A at hD hA9 hZ ⊢
  have hS : va_S A s.heap s.heap [] := va_S.rf
  have hl := lv_entry ([.ref (ad a)]) (n := 4) (Nat.le_of_ble_eq_true rfl)
  rw [lg_entry_eq]
  generalize (lg_sl ([.ref (ad a)]) ++ List.replicate (4 - (lg_sl ([.ref (ad a)])).length) Slot.unset).toArray = ls at hl ⊢
  have hl : lv_has ls 4 [(0, .ref (ad a))] := hl
  unfold FX7_sweep at hF
  refine lv_iconst (v := (0 : Int32)) hx hb dX7_sweep_0 (by decide) ?_
  refine lv_istore_n (lv' := [(1, .int (0 : Int32)), (0, .ref (ad a))]) hx hb dX7_sweep_1 rfl hl (by decide) rfl (fun ls hl => ?_)
  refine lv_iconst (v := (0 : Int32)) hx hb dX7_sweep_2 (by decide) ?_
  refine lv_istore_n (lv' := [(2, .int (0 : Int32)), (1, .int (0 : Int32)), (0, .ref (ad a))]) hx hb dX7_sweep_3 rfl hl (by decide) rfl (fun ls hl => ?_)
  obtain ⟨y1, hy1, hF⟩ := bnd_some hF
  have K1 : ∀ (H : Heap) (locs : List Loc) (ls : Array Slot), va_P D classes (wld ct ad G y1.2.2) H → va_D A (wld ct ad G y1.2.2) → va_S A s.heap H locs → lv_has ls 4 [(2, .int y1.2.1), (1, .int y1.1), (0, .ref (ad a))] → W p l e (headSpec wuX7_sweep ({ frames := 0, cells := 0, slots := 0, locals := 0 })).room s m ([.ref (ad a)] : List Value).toArray below meth c H locs 0 0 (MQ below (va_Qv (fun (_ : Unit) => True) (fun _ t => kE D ct ad G A y t) A) ([.ref (ad a)] : List Value).toArray s 0 0 A) (F0 m 49 ls []) := by
    intro H locs ls hP hD hS hl
    refine lv_iload_n hx hb dX7_sweep_49 rfl (lv_at hl 1 rfl) ?_
    refine lv_istore_n (lv' := [(2, .int y1.1), (1, .int y1.1), (0, .ref (ad a))]) hx hb dX7_sweep_50 rfl hl (by decide) rfl (fun ls hl => ?_)
    obtain ⟨y4, hy4, hF⟩ := bnd_some hF
    have K4 : ∀ (H : Heap) (locs : List Loc) (ls : Array Slot), va_P D classes (wld ct ad G y4.2) H → va_D A (wld ct ad G y4.2) → va_S A s.heap H locs → lv_has ls 4 [(2, .int y4.1), (1, .int y1.1), (0, .ref (ad a))] → W p l e (headSpec wuX7_sweep ({ frames := 0, cells := 0, slots := 0, locals := 0 })).room s m ([.ref (ad a)] : List Value).toArray below meth c H locs 0 0 (MQ below (va_Qv (fun (_ : Unit) => True) (fun _ t => kE D ct ad G A y t) A) ([.ref (ad a)] : List Value).toArray s 0 0 A) (F0 m 72 ls []) := by
      intro H locs ls hP hD hS hl
      refine lv_aload_n hx hb dX7_sweep_72 rfl (lv_at hl 2 rfl) ?_
      refine lv_iload_n hx hb dX7_sweep_73 rfl (lv_at hl 1 rfl) ?_
      refine va_put (D := D) (ci := 7) (v := .int y1.1) (ty := .int) (C := RX7) (T := TX7) (N := 17) hx hb hts (mus hf_X7) tyX7 tyX7_ok nmX7 hown hK hP hD hS a (wld_o ct ad G y4.2 hc hk (by decide)) rfl 3 (by decide) (hts (.fieldLink RX7 29 "VideoSuite$Store" "count" "I") (mu mw_358)) (fun _ h9 => h9) rfl (by decide +kernel) rfl rfl (Nat.le_of_ble_eq_true rfl) dX7_sweep_74 (fun H locs hP hD hS => ?_)
      obtain ⟨M7, eM7, hF⟩ := ltt_some hF
      rw [set_oI ct ad G y4.2 hc hk (by decide) (by rfl), ← eM7] at hP hD
      obtain rfl := Option.some.inj hF
      exact W.vret hx hb hr (fun t ht hW => ⟨⟨(), rfl, trivial, ⟨by rw [ht]; exact hP, va_K.moved hW.alike hK, hD⟩⟩, hS.F ht⟩) hS.2.2 dX7_sweep_77
    clear hF
    refine itr_rule (fun (s5 : Int32 × DD) => ∀ (H : Heap) (locs : List Loc) (ls : Array Slot), va_P D classes (wld ct ad G s5.2) H → va_D A (wld ct ad G s5.2) → va_S A s.heap H locs → lv_has ls 4 [(2, .int s5.1), (1, .int y1.1), (0, .ref (ad a))] → W p l e (headSpec wuX7_sweep ({ frames := 0, cells := 0, slots := 0, locals := 0 })).room s m ([.ref (ad a)] : List Value).toArray below meth c H locs 0 0 (MQ below (va_Qv (fun (_ : Unit) => True) (fun _ t => kE D ct ad G A y t) A) ([.ref (ad a)] : List Value).toArray s 0 0 A) (F0 m 51 ls [])) ?_ _ _ hy4 _ _ _ hP hD hS (lv_sub hl [0, 1, 2] rfl)
    rintro s5 ⟨z8, hF, hwz8⟩ H locs ls hP hD hS hl
    try dsimp only at hF
    refine lv_iload_n hx hb dX7_sweep_51 rfl (lv_at hl 0 rfl) ?_
    refine lv_aload_n hx hb dX7_sweep_52 rfl (lv_at hl 2 rfl) ?_
    refine va_get (D := D) (ci := 7) (v := .int (s5.2.1 a 3)) (C := RX7) (T := TX7) (N := 17) hx hb hts (mus hf_X7) hown hK hP a (wld_o ct ad G s5.2 hc hk (by decide)) rfl 3 (by decide) (hts (.fieldLink RX7 29 "VideoSuite$Store" "count" "I") (mu mw_358)) (fun _ h9 => h9) rfl dX7_sweep_53 ?_
    obtain ⟨x9, ex9, hF⟩ := ltt_some hF
    refine lv_topi (fun zx9 ezx9 => ?_)
    obtain rfl : x9 = zx9 := ex9.trans ezx9.symm
    refine lv_icmp_ge (tgt := 72) hx hb dX7_sweep_56 (by decide) (fun c10 => ?_) (fun c10 => ?_)
    · rw [if_pos c10] at hF
      obtain rfl := Option.some.inj hF
      subst hwz8
      exact K4 _ _ _ hP hD hS (lv_sub hl [0, 1, 2] rfl)
    · rw [if_neg c10] at hF
      refine lv_aload_n hx hb dX7_sweep_59 rfl (lv_at hl 2 rfl) ?_
      refine va_get (D := D) (ci := 7) (v := va_re ad (s5.2.2 a 2)) (C := RX7) (T := TX7) (N := 17) hx hb hts (mus hf_X7) hown hK hP a (wld_o ct ad G s5.2 hc hk (by decide)) rfl 2 (by decide) (hts (.fieldLink RX7 17 "VideoSuite$Store" "kept" "[LVideoSuite$Picture;") (mu mw_357)) (fun _ h9 => h9) rfl dX7_sweep_60 ?_
      refine lv_iload_n hx hb dX7_sweep_63 rfl (lv_at hl 0 rfl) ?_
      refine lv_nullq (ad := ad) hx hb dX7_sweep_64 ?_
      obtain ⟨b11, ho11, hc11, hk11, hF⟩ := dr_some hF
      refine W_st (st' := [va_re ad none, .int s5.1, .ref (ad b11)]) (by rw [va_some ho11]) ?_
      obtain ⟨hvc, hF⟩ := chk_some hF
      obtain ⟨ho9, hF⟩ := chk_some hF
      refine st_q (o := none) hx hb hK hP hD hS hc11 hk11 ho9 hvc dX7_sweep_65 (fun H locs hP hD hS => ?_)
      obtain ⟨M12, eM12, hF⟩ := ltt_some hF
      rw [← eM12] at hP hD
      obtain ⟨x13, ex13, hF⟩ := ltt_some hF
      refine lv_iinc (v := x13) (lv' := [(2, .int x13), (1, .int y1.1), (0, .ref (ad a))]) hx hb dX7_sweep_66 hl (k := 0) rfl (by rw [ex13]; rfl) (by decide) rfl (fun ls hl => ?_)
      refine lv_goto (tgt := 51) hx hb dX7_sweep_69 (by decide) ?_
      obtain rfl := Option.some.inj hF
      exact hwz8 _ _ _ hP hD hS (lv_sub hl [0, 1, 2] rfl)
  clear hF
  refine itr_rule (fun (s2 : Int32 × Int32 × DD) => ∀ (H : Heap) (locs : List Loc) (ls : Array Slot), va_P D classes (wld ct ad G s2.2.2) H → va_D A (wld ct ad G s2.2.2) → va_S A s.heap H locs → lv_has ls 4 [(2, .int s2.2.1), (1, .int s2.1), (0, .ref (ad a))] → W p l e (headSpec wuX7_sweep ({ frames := 0, cells := 0, slots := 0, locals := 0 })).room s m ([.ref (ad a)] : List Value).toArray below meth c H locs 0 0 (MQ below (va_Qv (fun (_ : Unit) => True) (fun _ t => kE D ct ad G A y t) A) ([.ref (ad a)] : List Value).toArray s 0 0 A) (F0 m 4 ls [])) ?_ _ _ hy1 _ _ _ hP hD hS (lv_sub hl [0, 1, 2] rfl)
  rintro s2 ⟨z14, hF, hwz14⟩ H locs ls hP hD hS hl
  try dsimp only at hF
  refine lv_iload_n hx hb dX7_sweep_4 rfl (lv_at hl 0 rfl) ?_
  refine lv_aload_n hx hb dX7_sweep_5 rfl (lv_at hl 2 rfl) ?_
  refine va_get (D := D) (ci := 7) (v := .int (s2.2.2.1 a 3)) (C := RX7) (T := TX7) (N := 17) hx hb hts (mus hf_X7) hown hK hP a (wld_o ct ad G s2.2.2 hc hk (by decide)) rfl 3 (by decide) (hts (.fieldLink RX7 29 "VideoSuite$Store" "count" "I") (mu mw_358)) (fun _ h9 => h9) rfl dX7_sweep_6 ?_
  obtain ⟨x15, ex15, hF⟩ := ltt_some hF
  refine lv_topi (fun zx15 ezx15 => ?_)
  obtain rfl : x15 = zx15 := ex15.trans ezx15.symm
  refine lv_icmp_ge (tgt := 49) hx hb dX7_sweep_9 (by decide) (fun c16 => ?_) (fun c16 => ?_)
  · rw [if_pos c16] at hF
    obtain rfl := Option.some.inj hF
    subst hwz14
    exact K1 _ _ _ hP hD hS (lv_sub hl [0, 1, 2] rfl)
  · rw [if_neg c16] at hF
    refine lv_aload_n hx hb dX7_sweep_12 rfl (lv_at hl 2 rfl) ?_
    refine va_get (D := D) (ci := 7) (v := va_re ad (s2.2.2.2 a 2)) (C := RX7) (T := TX7) (N := 17) hx hb hts (mus hf_X7) hown hK hP a (wld_o ct ad G s2.2.2 hc hk (by decide)) rfl 2 (by decide) (hts (.fieldLink RX7 17 "VideoSuite$Store" "kept" "[LVideoSuite$Picture;") (mu mw_357)) (fun _ h9 => h9) rfl dX7_sweep_13 ?_
    refine lv_iload_n hx hb dX7_sweep_16 rfl (lv_at hl 0 rfl) ?_
    obtain ⟨b17, ho17, hc17, hk17, hF⟩ := dr_some hF
    refine W_st (st' := [.int s2.2.1, .ref (ad b17)]) (by rw [va_some ho17]) ?_
    obtain ⟨hvc, hF⟩ := chk_some hF
    refine ld_q hx hb hK hP hc17 hk17 hvc dX7_sweep_17 ?_
    refine lv_astoreq_n (lv' := [(3, va_re ad (s2.2.2.2 b17 s2.2.1.toNatClampNeg)), (2, .int s2.2.1), (1, .int s2.1), (0, .ref (ad a))]) hx hb dX7_sweep_18 rfl hl (by decide) rfl (fun ls hl => ?_)
    refine lv_aloadq_n hx hb dX7_sweep_19 rfl (lv_at hl 0 rfl) ?_
    obtain ⟨b18, ho18, hc18, hk18, hF⟩ := dr_some hF
    refine W_st (st' := [.ref (ad b18)]) (by rw [va_some ho18]) ?_
    refine va_get (D := D) (ci := 4) (v := .int (s2.2.2.1 b18 10)) (C := RX4) (T := TX4) (N := 18) hx hb hts (mus hf_X4) hown hK hP b18 (wld_o ct ad G s2.2.2 hc18 hk18 (by decide)) rfl 10 (by decide) (hts (.fieldLink RX7 123 "VideoSuite$Picture" "use" "I") (mu mw_1460)) (fun _ h9 => h9) rfl dX7_sweep_20 ?_
    obtain ⟨x19, ex19, hF⟩ := ltt_some hF
    refine lv_topi (fun zx19 ezx19 => ?_)
    obtain rfl : x19 = zx19 := ex19.trans ezx19.symm
    obtain ⟨y20, hy20, hF⟩ := bnd_some hF
    have J20 : ∀ (H : Heap) (locs : List Loc) (ls : Array Slot), va_P D classes (wld ct ad G y20.2) H → va_D A (wld ct ad G y20.2) → va_S A s.heap H locs → lv_has ls 4 [(3, va_re ad (s2.2.2.2 b17 s2.2.1.toNatClampNeg)), (2, .int s2.2.1), (1, .int y20.1), (0, .ref (ad a))] → W p l e (headSpec wuX7_sweep ({ frames := 0, cells := 0, slots := 0, locals := 0 })).room s m ([.ref (ad a)] : List Value).toArray below meth c H locs 0 0 (MQ below (va_Qv (fun (_ : Unit) => True) (fun _ t => kE D ct ad G A y t) A) ([.ref (ad a)] : List Value).toArray s 0 0 A) (F0 m 43 ls []) := by
      intro H locs ls hP hD hS hl
      obtain ⟨x21, ex21, hF⟩ := ltt_some hF
      refine lv_iinc (v := x21) (lv' := [(2, .int x21), (3, va_re ad (s2.2.2.2 b17 s2.2.1.toNatClampNeg)), (1, .int y20.1), (0, .ref (ad a))]) hx hb dX7_sweep_43 hl (k := 1) rfl (by rw [ex21]; rfl) (by decide) rfl (fun ls hl => ?_)
      refine lv_goto (tgt := 4) hx hb dX7_sweep_46 (by decide) ?_
      obtain rfl := Option.some.inj hF
      exact hwz14 _ _ _ hP hD hS (lv_sub hl [0, 2, 3] rfl)
    clear hF
    have hF := hy20
    clear hy20
    refine lv_if_ne (tgt := 33) hx hb dX7_sweep_23 (by decide) (fun c22 => ?_) (fun c22 => ?_)
    · rw [if_neg c22] at hF
      refine lv_aload_n hx hb dX7_sweep_33 rfl (lv_at hl 3 rfl) ?_
      refine va_get (D := D) (ci := 7) (v := va_re ad (s2.2.2.2 a 2)) (C := RX7) (T := TX7) (N := 17) hx hb hts (mus hf_X7) hown hK hP a (wld_o ct ad G s2.2.2 hc hk (by decide)) rfl 2 (by decide) (hts (.fieldLink RX7 17 "VideoSuite$Store" "kept" "[LVideoSuite$Picture;") (mu mw_357)) (fun _ h9 => h9) rfl dX7_sweep_34 ?_
      refine lv_iload_n hx hb dX7_sweep_37 rfl (lv_at hl 2 rfl) ?_
      refine lv_aloadq_n hx hb dX7_sweep_38 rfl (lv_at hl 0 rfl) ?_
      refine W_st (st' := [va_re ad (s2.2.2.2 b17 s2.2.1.toNatClampNeg), .int s2.1, .ref (ad b17)]) (by rw [va_some ho17]) ?_
      obtain ⟨hvc, hF⟩ := chk_some hF
      obtain ⟨ho9, hF⟩ := chk_some hF
      refine st_q (o := ((s2.2.2.2 b17 s2.2.1.toNatClampNeg))) hx hb hK hP hD hS hc17 hk17 ho9 hvc dX7_sweep_39 (fun H locs hP hD hS => ?_)
      obtain ⟨M23, eM23, hF⟩ := ltt_some hF
      rw [← eM23] at hP hD
      obtain ⟨x24, ex24, hF⟩ := ltt_some hF
      refine lv_iinc (v := x24) (lv' := [(1, .int x24), (3, va_re ad (s2.2.2.2 b17 s2.2.1.toNatClampNeg)), (2, .int s2.2.1), (0, .ref (ad a))]) hx hb dX7_sweep_40 hl (k := 2) rfl (by rw [ex24]; rfl) (by decide) rfl (fun ls hl => ?_)
      obtain rfl := Option.some.inj hF
      exact J20 _ _ _ hP hD hS (lv_sub hl [1, 2, 0, 3] rfl)
    · rw [if_pos c22] at hF
      refine lv_aloadq_n hx hb dX7_sweep_26 rfl (lv_at hl 0 rfl) ?_
      refine W_st (st' := [.ref (ad b18)]) (by rw [va_some ho18]) ?_
      refine va_get (D := D) (ci := 4) (v := .int (s2.2.2.1 b18 12)) (C := RX4) (T := TX4) (N := 18) hx hb hts (mus hf_X4) hown hK hP b18 (wld_o ct ad G s2.2.2 hc18 hk18 (by decide)) rfl 12 (by decide) (hts (.fieldLink RX7 164 "VideoSuite$Picture" "isWaiting" "Z") (mu mw_1466)) (fun _ h9 => h9) rfl dX7_sweep_27 ?_
      obtain ⟨x25, ex25, hF⟩ := ltt_some hF
      refine lv_topi (fun zx25 ezx25 => ?_)
      obtain rfl : x25 = zx25 := ex25.trans ezx25.symm
      obtain ⟨y26, hy26, hF⟩ := bnd_some hF
      have J26 : ∀ (H : Heap) (locs : List Loc) (ls : Array Slot), va_P D classes (wld ct ad G y26.2) H → va_D A (wld ct ad G y26.2) → va_S A s.heap H locs → lv_has ls 4 [(3, va_re ad (s2.2.2.2 b17 s2.2.1.toNatClampNeg)), (2, .int s2.2.1), (1, .int y26.1), (0, .ref (ad a))] → W p l e (headSpec wuX7_sweep ({ frames := 0, cells := 0, slots := 0, locals := 0 })).room s m ([.ref (ad a)] : List Value).toArray below meth c H locs 0 0 (MQ below (va_Qv (fun (_ : Unit) => True) (fun _ t => kE D ct ad G A y t) A) ([.ref (ad a)] : List Value).toArray s 0 0 A) (F0 m 43 ls []) := by
        intro H locs ls hP hD hS hl
        obtain rfl := Option.some.inj hF
        exact J20 _ _ _ hP hD hS (lv_sub hl [0, 1, 2, 3] rfl)
      clear hF
      have hF := hy26
      clear hy26
      refine lv_if_eq (tgt := 43) hx hb dX7_sweep_30 (by decide) (fun c27 => ?_) (fun c27 => ?_)
      · rw [if_pos c27] at hF
        obtain rfl := Option.some.inj hF
        exact J26 _ _ _ hP hD hS (lv_sub hl [0, 1, 2, 3] rfl)
      · rw [if_neg c27] at hF
        refine lv_aload_n hx hb dX7_sweep_33 rfl (lv_at hl 3 rfl) ?_
        refine va_get (D := D) (ci := 7) (v := va_re ad (s2.2.2.2 a 2)) (C := RX7) (T := TX7) (N := 17) hx hb hts (mus hf_X7) hown hK hP a (wld_o ct ad G s2.2.2 hc hk (by decide)) rfl 2 (by decide) (hts (.fieldLink RX7 17 "VideoSuite$Store" "kept" "[LVideoSuite$Picture;") (mu mw_357)) (fun _ h9 => h9) rfl dX7_sweep_34 ?_
        refine lv_iload_n hx hb dX7_sweep_37 rfl (lv_at hl 2 rfl) ?_
        refine lv_aloadq_n hx hb dX7_sweep_38 rfl (lv_at hl 0 rfl) ?_
        refine W_st (st' := [va_re ad (s2.2.2.2 b17 s2.2.1.toNatClampNeg), .int s2.1, .ref (ad b17)]) (by rw [va_some ho17]) ?_
        obtain ⟨hvc, hF⟩ := chk_some hF
        obtain ⟨ho9, hF⟩ := chk_some hF
        refine st_q (o := ((s2.2.2.2 b17 s2.2.1.toNatClampNeg))) hx hb hK hP hD hS hc17 hk17 ho9 hvc dX7_sweep_39 (fun H locs hP hD hS => ?_)
        obtain ⟨M28, eM28, hF⟩ := ltt_some hF
        rw [← eM28] at hP hD
        obtain ⟨x29, ex29, hF⟩ := ltt_some hF
        refine lv_iinc (v := x29) (lv' := [(1, .int x29), (3, va_re ad (s2.2.2.2 b17 s2.2.1.toNatClampNeg)), (2, .int s2.2.1), (0, .ref (ad a))]) hx hb dX7_sweep_40 hl (k := 2) rfl (by rw [ex29]; rfl) (by decide) rfl (fun ls hl => ?_)
        obtain rfl := Option.some.inj hF
        exact J26 _ _ _ hP hD hS (lv_sub hl [1, 2, 0, 3] rfl)
theorem dX7_tellApart_0 : decode cX7_tellApart 0 = .ok (.iconst 0, 1) := by decide +kernel
theorem dX7_tellApart_1 : decode cX7_tellApart 1 = .ok (.istore_n 2, 1) := by decide +kernel
theorem dX7_tellApart_2 : decode cX7_tellApart 2 = .ok (.iload_n 2, 1) := by decide +kernel
theorem dX7_tellApart_3 : decode cX7_tellApart 3 = .ok (.iload_n 1, 1) := by decide +kernel
theorem dX7_tellApart_4 : decode cX7_tellApart 4 = .ok (.if_icmp .ge 28, 3) := by decide +kernel
theorem dX7_tellApart_7 : decode cX7_tellApart 7 = .ok (.iload_n 2, 1) := by decide +kernel
theorem dX7_tellApart_8 : decode cX7_tellApart 8 = .ok (.bipush 9, 2) := by decide +kernel
theorem dX7_tellApart_10 : decode cX7_tellApart 10 = .ok (.if_icmp .ge 22, 3) := by decide +kernel
theorem dX7_tellApart_13 : decode cX7_tellApart 13 = .ok (.aload_n 0, 1) := by decide +kernel
theorem dX7_tellApart_14 : decode cX7_tellApart 14 = .ok (.iload_n 2, 1) := by decide +kernel
theorem dX7_tellApart_15 : decode cX7_tellApart 15 = .ok (.aaload, 1) := by decide +kernel
theorem dX7_tellApart_16 : decode cX7_tellApart 16 = .ok (.aload_n 0, 1) := by decide +kernel
theorem dX7_tellApart_17 : decode cX7_tellApart 17 = .ok (.bipush 9, 2) := by decide +kernel
theorem dX7_tellApart_19 : decode cX7_tellApart 19 = .ok (.iload_n 2, 1) := by decide +kernel
theorem dX7_tellApart_20 : decode cX7_tellApart 20 = .ok (.iadd, 1) := by decide +kernel
theorem dX7_tellApart_21 : decode cX7_tellApart 21 = .ok (.aaload, 1) := by decide +kernel
theorem dX7_tellApart_22 : decode cX7_tellApart 22 = .ok (.if_acmp .eq 4, 3) := by decide +kernel
theorem dX7_tellApart_25 : decode cX7_tellApart 25 = .ok (.return_, 1) := by decide +kernel
theorem dX7_tellApart_26 : decode cX7_tellApart 26 = .ok (.iinc 2 1, 3) := by decide +kernel
theorem dX7_tellApart_29 : decode cX7_tellApart 29 = .ok (.goto (-27), 3) := by decide +kernel
theorem dX7_tellApart_32 : decode cX7_tellApart 32 = .ok (.iload_n 1, 1) := by decide +kernel
theorem dX7_tellApart_33 : decode cX7_tellApart 33 = .ok (.iconst 1, 1) := by decide +kernel
theorem dX7_tellApart_34 : decode cX7_tellApart 34 = .ok (.if_icmp .le 21, 3) := by decide +kernel
theorem dX7_tellApart_37 : decode cX7_tellApart 37 = .ok (.aload_n 0, 1) := by decide +kernel
theorem dX7_tellApart_38 : decode cX7_tellApart 38 = .ok (.bipush 9, 2) := by decide +kernel
theorem dX7_tellApart_40 : decode cX7_tellApart 40 = .ok (.aaload, 1) := by decide +kernel
theorem dX7_tellApart_41 : decode cX7_tellApart 41 = .ok (.astore_n 2, 1) := by decide +kernel
theorem dX7_tellApart_42 : decode cX7_tellApart 42 = .ok (.aload_n 0, 1) := by decide +kernel
theorem dX7_tellApart_43 : decode cX7_tellApart 43 = .ok (.bipush 9, 2) := by decide +kernel
theorem dX7_tellApart_45 : decode cX7_tellApart 45 = .ok (.aload_n 0, 1) := by decide +kernel
theorem dX7_tellApart_46 : decode cX7_tellApart 46 = .ok (.bipush 10, 2) := by decide +kernel
theorem dX7_tellApart_48 : decode cX7_tellApart 48 = .ok (.aaload, 1) := by decide +kernel
theorem dX7_tellApart_49 : decode cX7_tellApart 49 = .ok (.aastore, 1) := by decide +kernel
theorem dX7_tellApart_50 : decode cX7_tellApart 50 = .ok (.aload_n 0, 1) := by decide +kernel
theorem dX7_tellApart_51 : decode cX7_tellApart 51 = .ok (.bipush 10, 2) := by decide +kernel
theorem dX7_tellApart_53 : decode cX7_tellApart 53 = .ok (.aload_n 2, 1) := by decide +kernel
theorem dX7_tellApart_54 : decode cX7_tellApart 54 = .ok (.aastore, 1) := by decide +kernel
theorem dX7_tellApart_55 : decode cX7_tellApart 55 = .ok (.return_, 1) := by decide +kernel
def FX7_tellApart (G : GG) (M : DD) (p0 : Option Nat) (p1 : Int32) : Option (DD) :=
  bnd (itr (fun (s2 : Int32) => ((if p1 ≤ s2 then (some (.inr (.inl (s2)))) else
  (if ((9 : Int32)) ≤ s2 then (some (.inr (.inl (s2)))) else
  (dr G 14 p0 fun b12 =>
  chk (¬ (s2 < 0 ∨ G.2.2 b12 ≤ s2.toNatClampNeg)) <|
  ltt ((((9 : Int32)) + s2)) fun x13 =>
  chk (¬ (x13 < 0 ∨ G.2.2 b12 ≤ x13.toNatClampNeg)) <|
  chk (okd G ((M.2 b12 s2.toNatClampNeg)) = true ∧ okd G ((M.2 b12 x13.toNatClampNeg)) = true) <|
  if ((M.2 b12 s2.toNatClampNeg)) = ((M.2 b12 x13.toNatClampNeg)) then (ltt (s2 + (1 : Int32)) fun x15 =>
  some (.inl (x15))) else
  (some (.inr (.inr M)))))) : Option ((Int32) ⊕ ((Int32) ⊕ (DD))))) 1000000 ((0 : Int32))) fun (y1 : (Int32) ⊕ (DD)) =>
  sel y1 (fun (z1k : Int32) =>
  bnd (if p1 ≤ ((1 : Int32)) then (some (M)) else
  (dr G 14 p0 fun b6 =>
  chk (¬ (((9 : Int32)) < 0 ∨ G.2.2 b6 ≤ ((9 : Int32)).toNatClampNeg)) <|
  chk (¬ (((10 : Int32)) < 0 ∨ G.2.2 b6 ≤ ((10 : Int32)).toNatClampNeg)) <|
  chk (¬ (((9 : Int32)) < 0 ∨ G.2.2 b6 ≤ ((9 : Int32)).toNatClampNeg)) <|
  chk (okr G 4 ((M.2 b6 ((10 : Int32)).toNatClampNeg)) = true) <|
  ltt (uP M b6 ((9 : Int32)).toNatClampNeg ((M.2 b6 ((10 : Int32)).toNatClampNeg))) fun M7 =>
  chk (¬ (((10 : Int32)) < 0 ∨ G.2.2 b6 ≤ ((10 : Int32)).toNatClampNeg)) <|
  chk (okr G 4 ((M.2 b6 ((9 : Int32)).toNatClampNeg)) = true) <|
  ltt (uP M7 b6 ((10 : Int32)).toNatClampNeg ((M.2 b6 ((9 : Int32)).toNatClampNeg))) fun M8 =>
  some (M8))) fun (y4 : DD) =>
  some y4) fun r9 => some r9
set_option maxHeartbeats 4000000 in
set_option maxRecDepth 100000 in
theorem kX7_tellApart (l : Launch) (D : va_G) (ct : CT) (ad : Nat → Nat) (Z : Nat → Nat) (G : GG) (M : DD) (sz : Nat) (p0 : Option Nat) (p1 : Int32) (y : DD) (hF : FX7_tellApart G M p0 p1 = some y) : Met l yX7_tellApart wuX7_tellApart ({ frames := 0, cells := 0, slots := 0, locals := 0 }) (va_Pc [va_re ad p0, .int p1] (kB D ct ad Z G M sz)) (va_Qv (fun (_ : Unit) => True) (fun _ t => kE D ct ad G (wA ad G sz) y t) (wA ad G sz)) 0 0 (wA ad G sz) := by
  refine Met.ofW (cc := cX7_tellApart) (maxL := 3) (ret := none) (by decide) rfl ?_
  intro p e s m args below meth c s₁ B hml hv
  obtain ⟨rfl, hsz, hP, hK, hD0, hZ, hN⟩ := hv
  have hx := B.exec
  have hb := B.bytes
  have hr := B.returns
  have hts := atoms_spec (ws := wuX7_tellApart) B.pre
  have hown : s.vm.findClass RX7 = some m.cls := findClass_of_methodNamed B.named
  have hlocks := B.notSynchronized
  subst hsz
  have hD := wD_self (sz := s.heap.size) hD0
  have hA9 : ∀ q, s.heap.size ≤ q → wA ad G s.heap.size q := fun q h => Or.inr h
  generalize hAe : wA ad G s.heap.size = A at hD hA9 hZ ⊢
  have hS : va_S A s.heap s.heap [] := va_S.rf
  have hl := lv_entry ([va_re ad p0, .int p1]) (n := 3) (by cases p0 <;> exact Nat.le_of_ble_eq_true rfl)
  rw [lg_entry_eq]
  generalize (lg_sl ([va_re ad p0, .int p1]) ++ List.replicate (3 - (lg_sl ([va_re ad p0, .int p1])).length) Slot.unset).toArray = ls at hl ⊢
  have hl : lv_has ls 3 [(0, va_re ad p0), (1, .int p1)] := by have e9 : lv_args 0 [va_re ad p0, .int p1] = [(0, va_re ad p0), (1, .int p1)] := (by cases p0 <;> rfl); rw [e9] at hl; exact hl
  unfold FX7_tellApart at hF
  refine lv_iconst (v := (0 : Int32)) hx hb dX7_tellApart_0 (by decide) ?_
  refine lv_istore_n (lv' := [(2, .int (0 : Int32)), (0, va_re ad p0), (1, .int p1)]) hx hb dX7_tellApart_1 rfl hl (by decide) rfl (fun ls hl => ?_)
  obtain ⟨y1, hy1, hF⟩ := bnd_some hF
  have K1 : ∀ z1k : Int32, y1 = .inl z1k → ∀ (H : Heap) (locs : List Loc) (ls : Array Slot), va_P D classes (wld ct ad G M) H → va_D A (wld ct ad G M) → va_S A s.heap H locs → lv_has ls 3 [(2, .int z1k), (0, va_re ad p0), (1, .int p1)] → W p l e (headSpec wuX7_tellApart ({ frames := 0, cells := 0, slots := 0, locals := 0 })).room s m ([va_re ad p0, .int p1] : List Value).toArray below meth c H locs 0 0 (MQ below (va_Qv (fun (_ : Unit) => True) (fun _ t => kE D ct ad G A y t) A) ([va_re ad p0, .int p1] : List Value).toArray s 0 0 A) (F0 m 32 ls []) := by
    intro z1k hz1 H locs ls hP hD hS hl
    have hF := sel_inl (hz1 ▸ hF)
    refine lv_iload_n hx hb dX7_tellApart_32 rfl (lv_at hl 2 rfl) ?_
    refine lv_iconst (v := (1 : Int32)) hx hb dX7_tellApart_33 (by decide) ?_
    obtain ⟨y4, hy4, hF⟩ := bnd_some hF
    have J4 : ∀ (H : Heap) (locs : List Loc) (ls : Array Slot), va_P D classes (wld ct ad G y4) H → va_D A (wld ct ad G y4) → va_S A s.heap H locs → lv_has ls 3 [(0, va_re ad p0), (1, .int p1)] → W p l e (headSpec wuX7_tellApart ({ frames := 0, cells := 0, slots := 0, locals := 0 })).room s m ([va_re ad p0, .int p1] : List Value).toArray below meth c H locs 0 0 (MQ below (va_Qv (fun (_ : Unit) => True) (fun _ t => kE D ct ad G A y t) A) ([va_re ad p0, .int p1] : List Value).toArray s 0 0 A) (F0 m 55 ls []) := by
      intro H locs ls hP hD hS hl
      obtain rfl := Option.some.inj hF
      exact W.vret hx hb hr (fun t ht hW => ⟨⟨(), rfl, trivial, ⟨by rw [ht]; exact hP, va_K.moved hW.alike hK, hD⟩⟩, hS.F ht⟩) hS.2.2 dX7_tellApart_55
    clear hF
    have hF := hy4
    clear hy4
    refine lv_icmp_le (tgt := 55) hx hb dX7_tellApart_34 (by decide) (fun c5 => ?_) (fun c5 => ?_)
    · rw [if_pos c5] at hF
      obtain rfl := Option.some.inj hF
      exact J4 _ _ _ hP hD hS (lv_sub hl [1, 2] rfl)
    · rw [if_neg c5] at hF
      refine lv_aloadq_n hx hb dX7_tellApart_37 rfl (lv_at hl 1 rfl) ?_
      refine lv_bipush (v := (9 : Int32)) hx hb dX7_tellApart_38 (by decide) ?_
      obtain ⟨b6, ho6, hc6, hk6, hF⟩ := dr_some hF
      refine W_st (st' := [.int (9 : Int32), .ref (ad b6)]) (by rw [va_some ho6]) ?_
      obtain ⟨hvc, hF⟩ := chk_some hF
      refine ld_q hx hb hK hP hc6 hk6 hvc dX7_tellApart_40 ?_
      refine lv_astoreq_n (lv' := [(2, va_re ad (M.2 b6 ((9 : Int32)).toNatClampNeg)), (0, va_re ad p0), (1, .int p1)]) hx hb dX7_tellApart_41 rfl hl (by decide) rfl (fun ls hl => ?_)
      refine lv_aloadq_n hx hb dX7_tellApart_42 rfl (lv_at hl 1 rfl) ?_
      refine lv_bipush (v := (9 : Int32)) hx hb dX7_tellApart_43 (by decide) ?_
      refine lv_aloadq_n hx hb dX7_tellApart_45 rfl (lv_at hl 1 rfl) ?_
      refine lv_bipush (v := (10 : Int32)) hx hb dX7_tellApart_46 (by decide) ?_
      refine W_st (st' := [.int (10 : Int32), .ref (ad b6), .int (9 : Int32), .ref (ad b6)]) (by rw [va_some ho6]) ?_
      obtain ⟨hvc, hF⟩ := chk_some hF
      refine ld_q hx hb hK hP hc6 hk6 hvc dX7_tellApart_48 ?_
      obtain ⟨hvc, hF⟩ := chk_some hF
      obtain ⟨ho9, hF⟩ := chk_some hF
      refine st_q (o := ((M.2 b6 ((10 : Int32)).toNatClampNeg))) hx hb hK hP hD hS hc6 hk6 ho9 hvc dX7_tellApart_49 (fun H locs hP hD hS => ?_)
      obtain ⟨M7, eM7, hF⟩ := ltt_some hF
      rw [← eM7] at hP hD
      refine lv_aloadq_n hx hb dX7_tellApart_50 rfl (lv_at hl 1 rfl) ?_
      refine lv_bipush (v := (10 : Int32)) hx hb dX7_tellApart_51 (by decide) ?_
      refine lv_aloadq_n hx hb dX7_tellApart_53 rfl (lv_at hl 0 rfl) ?_
      refine W_st (st' := [va_re ad (M.2 b6 ((9 : Int32)).toNatClampNeg), .int (10 : Int32), .ref (ad b6)]) (by rw [va_some ho6]) ?_
      obtain ⟨hvc, hF⟩ := chk_some hF
      obtain ⟨ho9, hF⟩ := chk_some hF
      refine st_q (o := ((M.2 b6 ((9 : Int32)).toNatClampNeg))) hx hb hK hP hD hS hc6 hk6 ho9 hvc dX7_tellApart_54 (fun H locs hP hD hS => ?_)
      obtain ⟨M8, eM8, hF⟩ := ltt_some hF
      rw [← eM8] at hP hD
      obtain rfl := Option.some.inj hF
      exact J4 _ _ _ hP hD hS (lv_sub hl [1, 2] rfl)
  have hR1 := hF
  clear hF
  refine itr_rule (fun (s2 : Int32) => ∀ (H : Heap) (locs : List Loc) (ls : Array Slot), va_P D classes (wld ct ad G M) H → va_D A (wld ct ad G M) → va_S A s.heap H locs → lv_has ls 3 [(2, .int s2), (0, va_re ad p0), (1, .int p1)] → W p l e (headSpec wuX7_tellApart ({ frames := 0, cells := 0, slots := 0, locals := 0 })).room s m ([va_re ad p0, .int p1] : List Value).toArray below meth c H locs 0 0 (MQ below (va_Qv (fun (_ : Unit) => True) (fun _ t => kE D ct ad G A y t) A) ([va_re ad p0, .int p1] : List Value).toArray s 0 0 A) (F0 m 2 ls [])) ?_ _ _ hy1 _ _ _ hP hD hS (lv_sub hl [0, 1, 2] rfl)
  rintro s2 ⟨z9, hF, hwz9⟩ H locs ls hP hD hS hl
  try dsimp only at hF
  refine lv_iload_n hx hb dX7_tellApart_2 rfl (lv_at hl 0 rfl) ?_
  refine lv_iload_n hx hb dX7_tellApart_3 rfl (lv_at hl 2 rfl) ?_
  refine lv_icmp_ge (tgt := 32) hx hb dX7_tellApart_4 (by decide) (fun c10 => ?_) (fun c10 => ?_)
  · rw [if_pos c10] at hF
    obtain rfl := Option.some.inj hF
    exact K1 _ hwz9.symm _ _ _ hP hD hS (lv_sub hl [0, 1, 2] rfl)
  · rw [if_neg c10] at hF
    refine lv_iload_n hx hb dX7_tellApart_7 rfl (lv_at hl 0 rfl) ?_
    refine lv_bipush (v := (9 : Int32)) hx hb dX7_tellApart_8 (by decide) ?_
    refine lv_icmp_ge (tgt := 32) hx hb dX7_tellApart_10 (by decide) (fun c11 => ?_) (fun c11 => ?_)
    · rw [if_pos c11] at hF
      obtain rfl := Option.some.inj hF
      exact K1 _ hwz9.symm _ _ _ hP hD hS (lv_sub hl [0, 1, 2] rfl)
    · rw [if_neg c11] at hF
      refine lv_aloadq_n hx hb dX7_tellApart_13 rfl (lv_at hl 1 rfl) ?_
      refine lv_iload_n hx hb dX7_tellApart_14 rfl (lv_at hl 0 rfl) ?_
      obtain ⟨b12, ho12, hc12, hk12, hF⟩ := dr_some hF
      refine W_st (st' := [.int s2, .ref (ad b12)]) (by rw [va_some ho12]) ?_
      obtain ⟨hvc, hF⟩ := chk_some hF
      refine ld_q hx hb hK hP hc12 hk12 hvc dX7_tellApart_15 ?_
      refine lv_aloadq_n hx hb dX7_tellApart_16 rfl (lv_at hl 1 rfl) ?_
      refine lv_bipush (v := (9 : Int32)) hx hb dX7_tellApart_17 (by decide) ?_
      refine lv_iload_n hx hb dX7_tellApart_19 rfl (lv_at hl 0 rfl) ?_
      refine lv_iadd hx hb dX7_tellApart_20 ?_
      obtain ⟨x13, ex13, hF⟩ := ltt_some hF
      refine lv_topi (fun zx13 ezx13 => ?_)
      obtain rfl : x13 = zx13 := ex13.trans ezx13.symm
      refine W_st (st' := [.int x13, .ref (ad b12), va_re ad (M.2 b12 s2.toNatClampNeg)]) (by rw [va_some ho12]) ?_
      obtain ⟨hvc, hF⟩ := chk_some hF
      refine ld_q hx hb hK hP hc12 hk12 hvc dX7_tellApart_21 ?_
      refine lv_acmpq_eq (x := ((M.2 b12 s2.toNatClampNeg))) (y := ((M.2 b12 x13.toNatClampNeg))) (tgt := 26) hx hb hD (chk_some hF).1.1 (chk_some hF).1.2 dX7_tellApart_22 (by decide) (fun c14 => ?_) (fun c14 => ?_)
      all_goals (replace hF := (chk_some hF).2)
      · rw [if_pos c14] at hF
        obtain ⟨x15, ex15, hF⟩ := ltt_some hF
        refine lv_iinc (v := x15) (lv' := [(2, .int x15), (0, va_re ad p0), (1, .int p1)]) hx hb dX7_tellApart_26 hl (k := 0) rfl (by rw [ex15]; rfl) (by decide) rfl (fun ls hl => ?_)
        refine lv_goto (tgt := 2) hx hb dX7_tellApart_29 (by decide) ?_
        obtain rfl := Option.some.inj hF
        exact hwz9 _ _ _ hP hD hS (lv_sub hl [0, 1, 2] rfl)
      · rw [if_neg c14] at hF
        obtain rfl := Option.some.inj hF
        have hF := sel_inr (hwz9 ▸ hR1)
        obtain rfl := Option.some.inj hF
        exact W.vret hx hb hr (fun t ht hW => ⟨⟨(), rfl, trivial, ⟨by rw [ht]; exact hP, va_K.moved hW.alike hK, hD⟩⟩, hS.F ht⟩) hS.2.2 dX7_tellApart_25
theorem dX7_wide_0 : decode cX7_wide 0 = .ok (.iload_n 2, 1) := by decide +kernel
theorem dX7_wide_1 : decode cX7_wide 1 = .ok (.ifCond .ne 15, 3) := by decide +kernel
theorem dX7_wide_4 : decode cX7_wide 4 = .ok (.aload_n 0, 1) := by decide +kernel
theorem dX7_wide_5 : decode cX7_wide 5 = .ok (.getfield 25, 3) := by decide +kernel
theorem dX7_wide_8 : decode cX7_wide 8 = .ok (.bipush 7, 2) := by decide +kernel
theorem dX7_wide_10 : decode cX7_wide 10 = .ok (.iload_n 1, 1) := by decide +kernel
theorem dX7_wide_11 : decode cX7_wide 11 = .ok (.imul, 1) := by decide +kernel
theorem dX7_wide_12 : decode cX7_wide 12 = .ok (.iaload, 1) := by decide +kernel
theorem dX7_wide_13 : decode cX7_wide 13 = .ok (.goto 14, 3) := by decide +kernel
theorem dX7_wide_16 : decode cX7_wide 16 = .ok (.aload_n 0, 1) := by decide +kernel
theorem dX7_wide_17 : decode cX7_wide 17 = .ok (.getfield 25, 3) := by decide +kernel
theorem dX7_wide_20 : decode cX7_wide 20 = .ok (.bipush 7, 2) := by decide +kernel
theorem dX7_wide_22 : decode cX7_wide 22 = .ok (.iload_n 1, 1) := by decide +kernel
theorem dX7_wide_23 : decode cX7_wide 23 = .ok (.imul, 1) := by decide +kernel
theorem dX7_wide_24 : decode cX7_wide 24 = .ok (.iaload, 1) := by decide +kernel
theorem dX7_wide_25 : decode cX7_wide 25 = .ok (.iconst 2, 1) := by decide +kernel
theorem dX7_wide_26 : decode cX7_wide 26 = .ok (.idiv, 1) := by decide +kernel
theorem dX7_wide_27 : decode cX7_wide 27 = .ok (.ireturn, 1) := by decide +kernel
def FX7_wide (G : GG) (M : DD) (a : Nat) (p0 : Int32) (p1 : Int32) : Option (DD × Int32) :=
  bnd (if p1 = ((0 : Int32)) then (ltt ((((7 : Int32)) * p0)) fun x7 =>
  dr G 13 ((M.2 a 16)) fun b8 =>
  chk (¬ (x7 < 0 ∨ G.2.2 b8 ≤ x7.toNatClampNeg)) <|
  ltt (M.1 b8 x7.toNatClampNeg) fun x9 =>
  some (x9)) else
  (ltt ((((7 : Int32)) * p0)) fun x3 =>
  dr G 13 ((M.2 a 16)) fun b4 =>
  chk (¬ (x3 < 0 ∨ G.2.2 b4 ≤ x3.toNatClampNeg)) <|
  ltt (M.1 b4 x3.toNatClampNeg) fun x5 =>
  ltt (x5 / ((2 : Int32))) fun x6 =>
  some (x6))) fun (y1 : Int32) =>
  some (M, y1)
set_option maxHeartbeats 4000000 in
set_option maxRecDepth 100000 in
theorem kX7_wide (l : Launch) (D : va_G) (ct : CT) (ad : Nat → Nat) (Z : Nat → Nat) (G : GG) (M : DD) (sz : Nat) (a : Nat) (p0 : Int32) (p1 : Int32) (y : DD × Int32) (hc : a < G.1) (hk : G.2.1 a = 7) (hF : FX7_wide G M a p0 p1 = some y) : Met l yX7_wide wuX7_wide ({ frames := 0, cells := 0, slots := 0, locals := 0 }) (va_Pc [.ref (ad a), .int p0, .int p1] (kB D ct ad Z G M sz)) (va_Qi (fun (q : Int32) (_ : Unit) => q = y.2) (fun _ t => kE D ct ad G (wA ad G sz) y.1 t) (wA ad G sz)) 0 0 (wA ad G sz) := by
  refine Met.ofW (cc := cX7_wide) (maxL := 3) (ret := (some .int)) (by decide) rfl ?_
  intro p e s m args below meth c s₁ B hml hv
  obtain ⟨rfl, hsz, hP, hK, hD0, hZ, hN⟩ := hv
  have hx := B.exec
  have hb := B.bytes
  have hr := B.returns
  have hts := atoms_spec (ws := wuX7_wide) B.pre
  have hown : s.vm.findClass RX7 = some m.cls := findClass_of_methodNamed B.named
  have hlocks := B.notSynchronized
  subst hsz
  have hD := wD_self (sz := s.heap.size) hD0
  have hA9 : ∀ q, s.heap.size ≤ q → wA ad G s.heap.size q := fun q h => Or.inr h
  generalize hAe : wA ad G s.heap.size = A at hD hA9 hZ ⊢
  have hS : va_S A s.heap s.heap [] := va_S.rf
  have hl := lv_entry ([.ref (ad a), .int p0, .int p1]) (n := 3) (Nat.le_of_ble_eq_true rfl)
  rw [lg_entry_eq]
  generalize (lg_sl ([.ref (ad a), .int p0, .int p1]) ++ List.replicate (3 - (lg_sl ([.ref (ad a), .int p0, .int p1])).length) Slot.unset).toArray = ls at hl ⊢
  have hl : lv_has ls 3 [(0, .ref (ad a)), (1, .int p0), (2, .int p1)] := hl
  unfold FX7_wide at hF
  refine lv_iload_n hx hb dX7_wide_0 rfl (lv_at hl 2 rfl) ?_
  obtain ⟨y1, hy1, hF⟩ := bnd_some hF
  have J1 : ∀ (H : Heap) (locs : List Loc) (ls : Array Slot), va_P D classes (wld ct ad G M) H → va_D A (wld ct ad G M) → va_S A s.heap H locs → lv_has ls 3 [(0, .ref (ad a)), (1, .int p0), (2, .int p1)] → W p l e (headSpec wuX7_wide ({ frames := 0, cells := 0, slots := 0, locals := 0 })).room s m ([.ref (ad a), .int p0, .int p1] : List Value).toArray below meth c H locs 0 0 (MQ below (va_Qi (fun (q : Int32) (_ : Unit) => q = y.2) (fun _ t => kE D ct ad G A y.1 t) A) ([.ref (ad a), .int p0, .int p1] : List Value).toArray s 0 0 A) (F0 m 27 ls [.int y1]) := by
    intro H locs ls hP hD hS hl
    obtain rfl := Option.some.inj hF
    exact W.iret (v := y1) hx hb hr (fun t ht hW => ⟨⟨_, (), rfl, rfl, ⟨by rw [ht]; exact hP, va_K.moved hW.alike hK, hD⟩⟩, hS.F ht⟩) hS.2.2 dX7_wide_27
  clear hF
  have hF := hy1
  clear hy1
  refine lv_if_ne (tgt := 16) hx hb dX7_wide_1 (by decide) (fun c2 => ?_) (fun c2 => ?_)
  · rw [if_neg c2] at hF
    refine lv_aload_n hx hb dX7_wide_16 rfl (lv_at hl 0 rfl) ?_
    refine va_get (D := D) (ci := 7) (v := va_re ad (M.2 a 16)) (C := RX7) (T := TX7) (N := 17) hx hb hts (mus hf_X7) hown hK hP a (wld_o ct ad G M hc hk (by decide)) rfl 16 (by decide) (hts (.fieldLink RX7 25 "VideoSuite$Store" "outFact" "[I") (mu mw_376)) (fun _ h9 => h9) rfl dX7_wide_17 ?_
    refine lv_bipush (v := (7 : Int32)) hx hb dX7_wide_20 (by decide) ?_
    refine lv_iload_n hx hb dX7_wide_22 rfl (lv_at hl 1 rfl) ?_
    refine lv_imul hx hb dX7_wide_23 ?_
    obtain ⟨x3, ex3, hF⟩ := ltt_some hF
    refine lv_topi (fun zx3 ezx3 => ?_)
    obtain rfl : x3 = zx3 := ex3.trans ezx3.symm
    obtain ⟨b4, ho4, hc4, hk4, hF⟩ := dr_some hF
    refine W_st (st' := [.int x3, .ref (ad b4)]) (by rw [va_some ho4]) ?_
    obtain ⟨hvc, hF⟩ := chk_some hF
    refine va_iald hx hb hK hP b4 1 (wld_i ct ad G M hc4 hk4) rfl hvc dX7_wide_24 ?_
    obtain ⟨x5, ex5, hF⟩ := ltt_some hF
    refine lv_topi (fun zx5 ezx5 => ?_)
    obtain rfl : x5 = zx5 := ex5.trans ezx5.symm
    refine lv_iconst (v := (2 : Int32)) hx hb dX7_wide_25 (by decide) ?_
    refine lv_idiv hx hb dX7_wide_26 (by decide) ?_
    obtain ⟨x6, ex6, hF⟩ := ltt_some hF
    refine lv_topi (fun zx6 ezx6 => ?_)
    obtain rfl : x6 = zx6 := ex6.trans ezx6.symm
    obtain rfl := Option.some.inj hF
    exact J1 _ _ _ hP hD hS (lv_sub hl [0, 1, 2] rfl)
  · rw [if_pos c2] at hF
    refine lv_aload_n hx hb dX7_wide_4 rfl (lv_at hl 0 rfl) ?_
    refine va_get (D := D) (ci := 7) (v := va_re ad (M.2 a 16)) (C := RX7) (T := TX7) (N := 17) hx hb hts (mus hf_X7) hown hK hP a (wld_o ct ad G M hc hk (by decide)) rfl 16 (by decide) (hts (.fieldLink RX7 25 "VideoSuite$Store" "outFact" "[I") (mu mw_376)) (fun _ h9 => h9) rfl dX7_wide_5 ?_
    refine lv_bipush (v := (7 : Int32)) hx hb dX7_wide_8 (by decide) ?_
    refine lv_iload_n hx hb dX7_wide_10 rfl (lv_at hl 1 rfl) ?_
    refine lv_imul hx hb dX7_wide_11 ?_
    obtain ⟨x7, ex7, hF⟩ := ltt_some hF
    refine lv_topi (fun zx7 ezx7 => ?_)
    obtain rfl : x7 = zx7 := ex7.trans ezx7.symm
    obtain ⟨b8, ho8, hc8, hk8, hF⟩ := dr_some hF
    refine W_st (st' := [.int x7, .ref (ad b8)]) (by rw [va_some ho8]) ?_
    obtain ⟨hvc, hF⟩ := chk_some hF
    refine va_iald hx hb hK hP b8 1 (wld_i ct ad G M hc8 hk8) rfl hvc dX7_wide_12 ?_
    obtain ⟨x9, ex9, hF⟩ := ltt_some hF
    refine lv_topi (fun zx9 ezx9 => ?_)
    obtain rfl : x9 = zx9 := ex9.trans ezx9.symm
    refine lv_goto (tgt := 27) hx hb dX7_wide_13 (by decide) ?_
    obtain rfl := Option.some.inj hF
    exact J1 _ _ _ hP hD hS (lv_sub hl [0, 1, 2] rfl)
theorem dX8_byteAt_0 : decode cX8_byteAt 0 = .ok (.aload_n 0, 1) := by decide +kernel
theorem dX8_byteAt_1 : decode cX8_byteAt 1 = .ok (.getfield 10, 3) := by decide +kernel
theorem dX8_byteAt_4 : decode cX8_byteAt 4 = .ok (.aload_n 0, 1) := by decide +kernel
theorem dX8_byteAt_5 : decode cX8_byteAt 5 = .ok (.getfield 16, 3) := by decide +kernel
theorem dX8_byteAt_8 : decode cX8_byteAt 8 = .ok (.iload_n 1, 1) := by decide +kernel
theorem dX8_byteAt_9 : decode cX8_byteAt 9 = .ok (.iaload, 1) := by decide +kernel
theorem dX8_byteAt_10 : decode cX8_byteAt 10 = .ok (.iload_n 2, 1) := by decide +kernel
theorem dX8_byteAt_11 : decode cX8_byteAt 11 = .ok (.iadd, 1) := by decide +kernel
theorem dX8_byteAt_12 : decode cX8_byteAt 12 = .ok (.baload, 1) := by decide +kernel
theorem dX8_byteAt_13 : decode cX8_byteAt 13 = .ok (.sipush 255, 3) := by decide +kernel
theorem dX8_byteAt_16 : decode cX8_byteAt 16 = .ok (.iand, 1) := by decide +kernel
theorem dX8_byteAt_17 : decode cX8_byteAt 17 = .ok (.ireturn, 1) := by decide +kernel
def FX8_byteAt (G : GG) (M : DD) (a : Nat) (p0 : Int32) (p1 : Int32) : Option (DD × Int32) :=
  dr G 13 ((M.2 a 1)) fun b1 =>
  chk (¬ (p0 < 0 ∨ G.2.2 b1 ≤ p0.toNatClampNeg)) <|
  ltt (M.1 b1 p0.toNatClampNeg) fun x2 =>
  ltt ((x2 + p1)) fun x3 =>
  dr G 12 ((M.2 a 0)) fun b4 =>
  chk (¬ (x3 < 0 ∨ G.2.2 b4 ≤ x3.toNatClampNeg)) <|
  ltt (M.1 b4 x3.toNatClampNeg) fun x5 =>
  ltt ((x5 &&& ((255 : Int32)))) fun x6 =>
  some (M, x6)
set_option maxHeartbeats 4000000 in
set_option maxRecDepth 100000 in
theorem kX8_byteAt (l : Launch) (D : va_G) (ct : CT) (ad : Nat → Nat) (Z : Nat → Nat) (G : GG) (M : DD) (sz : Nat) (a : Nat) (p0 : Int32) (p1 : Int32) (y : DD × Int32) (hc : a < G.1) (hk : G.2.1 a = 8) (hF : FX8_byteAt G M a p0 p1 = some y) : Met l yX8_byteAt wuX8_byteAt ({ frames := 0, cells := 0, slots := 0, locals := 0 }) (va_Pc [.ref (ad a), .int p0, .int p1] (kB D ct ad Z G M sz)) (va_Qi (fun (q : Int32) (_ : Unit) => q = y.2) (fun _ t => kE D ct ad G (wA ad G sz) y.1 t) (wA ad G sz)) 0 0 (wA ad G sz) := by
  refine Met.ofW (cc := cX8_byteAt) (maxL := 3) (ret := (some .int)) (by decide) rfl ?_
  intro p e s m args below meth c s₁ B hml hv
  obtain ⟨rfl, hsz, hP, hK, hD0, hZ, hN⟩ := hv
  have hx := B.exec
  have hb := B.bytes
  have hr := B.returns
  have hts := atoms_spec (ws := wuX8_byteAt) B.pre
  have hown : s.vm.findClass RX8 = some m.cls := findClass_of_methodNamed B.named
  have hlocks := B.notSynchronized
  subst hsz
  have hD := wD_self (sz := s.heap.size) hD0
  have hA9 : ∀ q, s.heap.size ≤ q → wA ad G s.heap.size q := fun q h => Or.inr h
  generalize hAe : wA ad G s.heap.size = A at hD hA9 hZ ⊢
  have hS : va_S A s.heap s.heap [] := va_S.rf
  have hl := lv_entry ([.ref (ad a), .int p0, .int p1]) (n := 3) (Nat.le_of_ble_eq_true rfl)
  rw [lg_entry_eq]
  generalize (lg_sl ([.ref (ad a), .int p0, .int p1]) ++ List.replicate (3 - (lg_sl ([.ref (ad a), .int p0, .int p1])).length) Slot.unset).toArray = ls at hl ⊢
  have hl : lv_has ls 3 [(0, .ref (ad a)), (1, .int p0), (2, .int p1)] := hl
  unfold FX8_byteAt at hF
  refine lv_aload_n hx hb dX8_byteAt_0 rfl (lv_at hl 0 rfl) ?_
  refine va_get (D := D) (ci := 8) (v := va_re ad (M.2 a 0)) (C := RX8) (T := TX8) (N := 15) hx hb hts (mus hf_X8) hown hK hP a (wld_o ct ad G M hc hk (by decide)) rfl 0 (by decide) (hts (.fieldLink RX8 10 "VideoSuite$Units" "bytes" "[B") (mu mw_212)) (fun _ h9 => h9) rfl dX8_byteAt_1 ?_
  refine lv_aload_n hx hb dX8_byteAt_4 rfl (lv_at hl 0 rfl) ?_
  refine va_get (D := D) (ci := 8) (v := va_re ad (M.2 a 1)) (C := RX8) (T := TX8) (N := 15) hx hb hts (mus hf_X8) hown hK hP a (wld_o ct ad G M hc hk (by decide)) rfl 1 (by decide) (hts (.fieldLink RX8 16 "VideoSuite$Units" "start" "[I") (mu mw_213)) (fun _ h9 => h9) rfl dX8_byteAt_5 ?_
  refine lv_iload_n hx hb dX8_byteAt_8 rfl (lv_at hl 1 rfl) ?_
  obtain ⟨b1, ho1, hc1, hk1, hF⟩ := dr_some hF
  refine W_st (st' := [.int p0, .ref (ad b1), va_re ad (M.2 a 0)]) (by rw [va_some ho1]) ?_
  obtain ⟨hvc, hF⟩ := chk_some hF
  refine va_iald hx hb hK hP b1 1 (wld_i ct ad G M hc1 hk1) rfl hvc dX8_byteAt_9 ?_
  obtain ⟨x2, ex2, hF⟩ := ltt_some hF
  refine lv_topi (fun zx2 ezx2 => ?_)
  obtain rfl : x2 = zx2 := ex2.trans ezx2.symm
  refine lv_iload_n hx hb dX8_byteAt_10 rfl (lv_at hl 2 rfl) ?_
  refine lv_iadd hx hb dX8_byteAt_11 ?_
  obtain ⟨x3, ex3, hF⟩ := ltt_some hF
  refine lv_topi (fun zx3 ezx3 => ?_)
  obtain rfl : x3 = zx3 := ex3.trans ezx3.symm
  obtain ⟨b4, ho4, hc4, hk4, hF⟩ := dr_some hF
  refine W_st (st' := [.int x3, .ref (ad b4)]) (by rw [va_some ho4]) ?_
  obtain ⟨hvc, hF⟩ := chk_some hF
  refine va_bald hx hb hK hP b4 0 (wld_b ct ad G M hc4 hk4) rfl hvc dX8_byteAt_12 ?_
  obtain ⟨x5, ex5, hF⟩ := ltt_some hF
  refine lv_topi (fun zx5 ezx5 => ?_)
  obtain rfl : x5 = zx5 := ex5.trans ezx5.symm
  refine lv_sipush (v := (255 : Int32)) hx hb dX8_byteAt_13 (by decide) ?_
  refine lv_iand hx hb dX8_byteAt_16 ?_
  obtain ⟨x6, ex6, hF⟩ := ltt_some hF
  refine lv_topi (fun zx6 ezx6 => ?_)
  obtain rfl : x6 = zx6 := ex6.trans ezx6.symm
  obtain rfl := Option.some.inj hF
  exact W.iret (v := x6) hx hb hr (fun t ht hW => ⟨⟨_, (), rfl, rfl, ⟨by rw [ht]; exact hP, va_K.moved hW.alike hK, hD⟩⟩, hS.F ht⟩) hS.2.2 dX8_byteAt_17
theorem dX8_contentLength_0 : decode cX8_contentLength 0 = .ok (.iconst 0, 1) := by decide +kernel
theorem dX8_contentLength_1 : decode cX8_contentLength 1 = .ok (.istore_n 1, 1) := by decide +kernel
theorem dX8_contentLength_2 : decode cX8_contentLength 2 = .ok (.iconst 0, 1) := by decide +kernel
theorem dX8_contentLength_3 : decode cX8_contentLength 3 = .ok (.istore_n 2, 1) := by decide +kernel
theorem dX8_contentLength_4 : decode cX8_contentLength 4 = .ok (.iload_n 2, 1) := by decide +kernel
theorem dX8_contentLength_5 : decode cX8_contentLength 5 = .ok (.aload_n 0, 1) := by decide +kernel
theorem dX8_contentLength_6 : decode cX8_contentLength 6 = .ok (.getfield 41, 3) := by decide +kernel
theorem dX8_contentLength_9 : decode cX8_contentLength 9 = .ok (.if_icmp .ge 20, 3) := by decide +kernel
theorem dX8_contentLength_12 : decode cX8_contentLength 12 = .ok (.iload_n 1, 1) := by decide +kernel
theorem dX8_contentLength_13 : decode cX8_contentLength 13 = .ok (.iconst 4, 1) := by decide +kernel
theorem dX8_contentLength_14 : decode cX8_contentLength 14 = .ok (.aload_n 0, 1) := by decide +kernel
theorem dX8_contentLength_15 : decode cX8_contentLength 15 = .ok (.getfield 20, 3) := by decide +kernel
theorem dX8_contentLength_18 : decode cX8_contentLength 18 = .ok (.iload_n 2, 1) := by decide +kernel
theorem dX8_contentLength_19 : decode cX8_contentLength 19 = .ok (.iaload, 1) := by decide +kernel
theorem dX8_contentLength_20 : decode cX8_contentLength 20 = .ok (.iadd, 1) := by decide +kernel
theorem dX8_contentLength_21 : decode cX8_contentLength 21 = .ok (.iadd, 1) := by decide +kernel
theorem dX8_contentLength_22 : decode cX8_contentLength 22 = .ok (.istore_n 1, 1) := by decide +kernel
theorem dX8_contentLength_23 : decode cX8_contentLength 23 = .ok (.iinc 2 1, 3) := by decide +kernel
theorem dX8_contentLength_26 : decode cX8_contentLength 26 = .ok (.goto (-22), 3) := by decide +kernel
theorem dX8_contentLength_29 : decode cX8_contentLength 29 = .ok (.iload_n 1, 1) := by decide +kernel
theorem dX8_contentLength_30 : decode cX8_contentLength 30 = .ok (.ireturn, 1) := by decide +kernel
def FX8_contentLength (G : GG) (M : DD) (a : Nat)  : Option (DD × Int32) :=
  bnd (itr (fun (s2 : Int32 × Int32) => ((ltt (M.1 a 3) fun x5 =>
  if x5 ≤ s2.2 then (some (.inr (s2.1, s2.2))) else
  (dr G 13 ((M.2 a 2)) fun b7 =>
  chk (¬ (s2.2 < 0 ∨ G.2.2 b7 ≤ s2.2.toNatClampNeg)) <|
  ltt (M.1 b7 s2.2.toNatClampNeg) fun x8 =>
  ltt ((((4 : Int32)) + x8)) fun x9 =>
  ltt ((s2.1 + x9)) fun x10 =>
  ltt (s2.2 + (1 : Int32)) fun x11 =>
  some (.inl (x10, x11)))) : Option ((Int32 × Int32) ⊕ (Int32 × Int32)))) 1000000 ((0 : Int32), (0 : Int32))) fun (y1 : Int32 × Int32) =>
  some (M, y1.1)
set_option maxHeartbeats 4000000 in
set_option maxRecDepth 100000 in
theorem kX8_contentLength (l : Launch) (D : va_G) (ct : CT) (ad : Nat → Nat) (Z : Nat → Nat) (G : GG) (M : DD) (sz : Nat) (a : Nat)  (y : DD × Int32) (hc : a < G.1) (hk : G.2.1 a = 8) (hF : FX8_contentLength G M a  = some y) : Met l yX8_contentLength wuX8_contentLength ({ frames := 0, cells := 0, slots := 0, locals := 0 }) (va_Pc [.ref (ad a)] (kB D ct ad Z G M sz)) (va_Qi (fun (q : Int32) (_ : Unit) => q = y.2) (fun _ t => kE D ct ad G (wA ad G sz) y.1 t) (wA ad G sz)) 0 0 (wA ad G sz) := by
  refine Met.ofW (cc := cX8_contentLength) (maxL := 3) (ret := (some .int)) (by decide) rfl ?_
  intro p e s m args below meth c s₁ B hml hv
  obtain ⟨rfl, hsz, hP, hK, hD0, hZ, hN⟩ := hv
  have hx := B.exec
  have hb := B.bytes
  have hr := B.returns
  have hts := atoms_spec (ws := wuX8_contentLength) B.pre
  have hown : s.vm.findClass RX8 = some m.cls := findClass_of_methodNamed B.named
  have hlocks := B.notSynchronized
  subst hsz
  have hD := wD_self (sz := s.heap.size) hD0
  have hA9 : ∀ q, s.heap.size ≤ q → wA ad G s.heap.size q := fun q h => Or.inr h
  generalize hAe : wA ad G s.heap.size = A at hD hA9 hZ ⊢
  have hS : va_S A s.heap s.heap [] := va_S.rf
  have hl := lv_entry ([.ref (ad a)]) (n := 3) (Nat.le_of_ble_eq_true rfl)
  rw [lg_entry_eq]
  generalize (lg_sl ([.ref (ad a)]) ++ List.replicate (3 - (lg_sl ([.ref (ad a)])).length) Slot.unset).toArray = ls at hl ⊢
  have hl : lv_has ls 3 [(0, .ref (ad a))] := hl
  unfold FX8_contentLength at hF
  refine lv_iconst (v := (0 : Int32)) hx hb dX8_contentLength_0 (by decide) ?_
  refine lv_istore_n (lv' := [(1, .int (0 : Int32)), (0, .ref (ad a))]) hx hb dX8_contentLength_1 rfl hl (by decide) rfl (fun ls hl => ?_)
  refine lv_iconst (v := (0 : Int32)) hx hb dX8_contentLength_2 (by decide) ?_
  refine lv_istore_n (lv' := [(2, .int (0 : Int32)), (1, .int (0 : Int32)), (0, .ref (ad a))]) hx hb dX8_contentLength_3 rfl hl (by decide) rfl (fun ls hl => ?_)
  obtain ⟨y1, hy1, hF⟩ := bnd_some hF
  have K1 : ∀ (H : Heap) (locs : List Loc) (ls : Array Slot), va_P D classes (wld ct ad G M) H → va_D A (wld ct ad G M) → va_S A s.heap H locs → lv_has ls 3 [(2, .int y1.2), (1, .int y1.1), (0, .ref (ad a))] → W p l e (headSpec wuX8_contentLength ({ frames := 0, cells := 0, slots := 0, locals := 0 })).room s m ([.ref (ad a)] : List Value).toArray below meth c H locs 0 0 (MQ below (va_Qi (fun (q : Int32) (_ : Unit) => q = y.2) (fun _ t => kE D ct ad G A y.1 t) A) ([.ref (ad a)] : List Value).toArray s 0 0 A) (F0 m 29 ls []) := by
    intro H locs ls hP hD hS hl
    refine lv_iload_n hx hb dX8_contentLength_29 rfl (lv_at hl 1 rfl) ?_
    obtain rfl := Option.some.inj hF
    exact W.iret (v := y1.1) hx hb hr (fun t ht hW => ⟨⟨_, (), rfl, rfl, ⟨by rw [ht]; exact hP, va_K.moved hW.alike hK, hD⟩⟩, hS.F ht⟩) hS.2.2 dX8_contentLength_30
  clear hF
  refine itr_rule (fun (s2 : Int32 × Int32) => ∀ (H : Heap) (locs : List Loc) (ls : Array Slot), va_P D classes (wld ct ad G M) H → va_D A (wld ct ad G M) → va_S A s.heap H locs → lv_has ls 3 [(2, .int s2.2), (1, .int s2.1), (0, .ref (ad a))] → W p l e (headSpec wuX8_contentLength ({ frames := 0, cells := 0, slots := 0, locals := 0 })).room s m ([.ref (ad a)] : List Value).toArray below meth c H locs 0 0 (MQ below (va_Qi (fun (q : Int32) (_ : Unit) => q = y.2) (fun _ t => kE D ct ad G A y.1 t) A) ([.ref (ad a)] : List Value).toArray s 0 0 A) (F0 m 4 ls [])) ?_ _ _ hy1 _ _ _ hP hD hS (lv_sub hl [0, 1, 2] rfl)
  rintro s2 ⟨z4, hF, hwz4⟩ H locs ls hP hD hS hl
  try dsimp only at hF
  refine lv_iload_n hx hb dX8_contentLength_4 rfl (lv_at hl 0 rfl) ?_
  refine lv_aload_n hx hb dX8_contentLength_5 rfl (lv_at hl 2 rfl) ?_
  refine va_get (D := D) (ci := 8) (v := .int (M.1 a 3)) (C := RX8) (T := TX8) (N := 15) hx hb hts (mus hf_X8) hown hK hP a (wld_o ct ad G M hc hk (by decide)) rfl 3 (by decide) (hts (.fieldLink RX8 41 "VideoSuite$Units" "count" "I") (mu mw_216)) (fun _ h9 => h9) rfl dX8_contentLength_6 ?_
  obtain ⟨x5, ex5, hF⟩ := ltt_some hF
  refine lv_topi (fun zx5 ezx5 => ?_)
  obtain rfl : x5 = zx5 := ex5.trans ezx5.symm
  refine lv_icmp_ge (tgt := 29) hx hb dX8_contentLength_9 (by decide) (fun c6 => ?_) (fun c6 => ?_)
  · rw [if_pos c6] at hF
    obtain rfl := Option.some.inj hF
    subst hwz4
    exact K1 _ _ _ hP hD hS (lv_sub hl [0, 1, 2] rfl)
  · rw [if_neg c6] at hF
    refine lv_iload_n hx hb dX8_contentLength_12 rfl (lv_at hl 1 rfl) ?_
    refine lv_iconst (v := (4 : Int32)) hx hb dX8_contentLength_13 (by decide) ?_
    refine lv_aload_n hx hb dX8_contentLength_14 rfl (lv_at hl 2 rfl) ?_
    refine va_get (D := D) (ci := 8) (v := va_re ad (M.2 a 2)) (C := RX8) (T := TX8) (N := 15) hx hb hts (mus hf_X8) hown hK hP a (wld_o ct ad G M hc hk (by decide)) rfl 2 (by decide) (hts (.fieldLink RX8 20 "VideoSuite$Units" "size" "[I") (mu mw_214)) (fun _ h9 => h9) rfl dX8_contentLength_15 ?_
    refine lv_iload_n hx hb dX8_contentLength_18 rfl (lv_at hl 0 rfl) ?_
    obtain ⟨b7, ho7, hc7, hk7, hF⟩ := dr_some hF
    refine W_st (st' := [.int s2.2, .ref (ad b7), .int (4 : Int32), .int s2.1]) (by rw [va_some ho7]) ?_
    obtain ⟨hvc, hF⟩ := chk_some hF
    refine va_iald hx hb hK hP b7 1 (wld_i ct ad G M hc7 hk7) rfl hvc dX8_contentLength_19 ?_
    obtain ⟨x8, ex8, hF⟩ := ltt_some hF
    refine lv_topi (fun zx8 ezx8 => ?_)
    obtain rfl : x8 = zx8 := ex8.trans ezx8.symm
    refine lv_iadd hx hb dX8_contentLength_20 ?_
    obtain ⟨x9, ex9, hF⟩ := ltt_some hF
    refine lv_topi (fun zx9 ezx9 => ?_)
    obtain rfl : x9 = zx9 := ex9.trans ezx9.symm
    refine lv_iadd hx hb dX8_contentLength_21 ?_
    obtain ⟨x10, ex10, hF⟩ := ltt_some hF
    refine lv_topi (fun zx10 ezx10 => ?_)
    obtain rfl : x10 = zx10 := ex10.trans ezx10.symm
    refine lv_istore_n (lv' := [(1, .int x10), (2, .int s2.2), (0, .ref (ad a))]) hx hb dX8_contentLength_22 rfl hl (by decide) rfl (fun ls hl => ?_)
    obtain ⟨x11, ex11, hF⟩ := ltt_some hF
    refine lv_iinc (v := x11) (lv' := [(2, .int x11), (1, .int x10), (0, .ref (ad a))]) hx hb dX8_contentLength_23 hl (k := 1) rfl (by rw [ex11]; rfl) (by decide) rfl (fun ls hl => ?_)
    refine lv_goto (tgt := 4) hx hb dX8_contentLength_26 (by decide) ?_
    obtain rfl := Option.some.inj hF
    exact hwz4 _ _ _ hP hD hS (lv_sub hl [0, 1, 2] rfl)
theorem dX8_endsUnit_0 : decode cX8_endsUnit 0 = .ok (.iload_n 1, 1) := by decide +kernel
theorem dX8_endsUnit_1 : decode cX8_endsUnit 1 = .ok (.iconst 2, 1) := by decide +kernel
theorem dX8_endsUnit_2 : decode cX8_endsUnit 2 = .ok (.iadd, 1) := by decide +kernel
theorem dX8_endsUnit_3 : decode cX8_endsUnit 3 = .ok (.iload_n 2, 1) := by decide +kernel
theorem dX8_endsUnit_4 : decode cX8_endsUnit 4 = .ok (.if_icmp .ge 38, 3) := by decide +kernel
theorem dX8_endsUnit_7 : decode cX8_endsUnit 7 = .ok (.aload_n 0, 1) := by decide +kernel
theorem dX8_endsUnit_8 : decode cX8_endsUnit 8 = .ok (.iload_n 1, 1) := by decide +kernel
theorem dX8_endsUnit_9 : decode cX8_endsUnit 9 = .ok (.baload, 1) := by decide +kernel
theorem dX8_endsUnit_10 : decode cX8_endsUnit 10 = .ok (.ifCond .ne 32, 3) := by decide +kernel
theorem dX8_endsUnit_13 : decode cX8_endsUnit 13 = .ok (.aload_n 0, 1) := by decide +kernel
theorem dX8_endsUnit_14 : decode cX8_endsUnit 14 = .ok (.iload_n 1, 1) := by decide +kernel
theorem dX8_endsUnit_15 : decode cX8_endsUnit 15 = .ok (.iconst 1, 1) := by decide +kernel
theorem dX8_endsUnit_16 : decode cX8_endsUnit 16 = .ok (.iadd, 1) := by decide +kernel
theorem dX8_endsUnit_17 : decode cX8_endsUnit 17 = .ok (.baload, 1) := by decide +kernel
theorem dX8_endsUnit_18 : decode cX8_endsUnit 18 = .ok (.ifCond .ne 24, 3) := by decide +kernel
theorem dX8_endsUnit_21 : decode cX8_endsUnit 21 = .ok (.aload_n 0, 1) := by decide +kernel
theorem dX8_endsUnit_22 : decode cX8_endsUnit 22 = .ok (.iload_n 1, 1) := by decide +kernel
theorem dX8_endsUnit_23 : decode cX8_endsUnit 23 = .ok (.iconst 2, 1) := by decide +kernel
theorem dX8_endsUnit_24 : decode cX8_endsUnit 24 = .ok (.iadd, 1) := by decide +kernel
theorem dX8_endsUnit_25 : decode cX8_endsUnit 25 = .ok (.baload, 1) := by decide +kernel
theorem dX8_endsUnit_26 : decode cX8_endsUnit 26 = .ok (.ifCond .eq 12, 3) := by decide +kernel
theorem dX8_endsUnit_29 : decode cX8_endsUnit 29 = .ok (.aload_n 0, 1) := by decide +kernel
theorem dX8_endsUnit_30 : decode cX8_endsUnit 30 = .ok (.iload_n 1, 1) := by decide +kernel
theorem dX8_endsUnit_31 : decode cX8_endsUnit 31 = .ok (.iconst 2, 1) := by decide +kernel
theorem dX8_endsUnit_32 : decode cX8_endsUnit 32 = .ok (.iadd, 1) := by decide +kernel
theorem dX8_endsUnit_33 : decode cX8_endsUnit 33 = .ok (.baload, 1) := by decide +kernel
theorem dX8_endsUnit_34 : decode cX8_endsUnit 34 = .ok (.iconst 1, 1) := by decide +kernel
theorem dX8_endsUnit_35 : decode cX8_endsUnit 35 = .ok (.if_icmp .ne 7, 3) := by decide +kernel
theorem dX8_endsUnit_38 : decode cX8_endsUnit 38 = .ok (.iconst 1, 1) := by decide +kernel
theorem dX8_endsUnit_39 : decode cX8_endsUnit 39 = .ok (.goto 4, 3) := by decide +kernel
theorem dX8_endsUnit_42 : decode cX8_endsUnit 42 = .ok (.iconst 0, 1) := by decide +kernel
theorem dX8_endsUnit_43 : decode cX8_endsUnit 43 = .ok (.ireturn, 1) := by decide +kernel
def FX8_endsUnit (G : GG) (M : DD) (p0 : Option Nat) (p1 : Int32) (p2 : Int32) : Option (DD × Int32) :=
  ltt ((p1 + ((2 : Int32)))) fun x1 =>
  bnd (if p2 ≤ x1 then (some ((0 : Int32))) else
  (dr G 12 p0 fun b4 =>
  chk (¬ (p1 < 0 ∨ G.2.2 b4 ≤ p1.toNatClampNeg)) <|
  ltt (M.1 b4 p1.toNatClampNeg) fun x5 =>
  bnd (if x5 = ((0 : Int32)) then (ltt ((p1 + ((1 : Int32)))) fun x8 =>
  chk (¬ (x8 < 0 ∨ G.2.2 b4 ≤ x8.toNatClampNeg)) <|
  ltt (M.1 b4 x8.toNatClampNeg) fun x9 =>
  bnd (if x9 = ((0 : Int32)) then (ltt ((p1 + ((2 : Int32)))) fun x12 =>
  chk (¬ (x12 < 0 ∨ G.2.2 b4 ≤ x12.toNatClampNeg)) <|
  ltt (M.1 b4 x12.toNatClampNeg) fun x13 =>
  bnd (if x13 = ((0 : Int32)) then (some ((1 : Int32))) else
  (ltt ((p1 + ((2 : Int32)))) fun x16 =>
  chk (¬ (x16 < 0 ∨ G.2.2 b4 ≤ x16.toNatClampNeg)) <|
  ltt (M.1 b4 x16.toNatClampNeg) fun x17 =>
  bnd (if x17 = ((1 : Int32)) then (some ((1 : Int32))) else
  (some ((0 : Int32)))) fun (y18 : Int32) =>
  some (y18))) fun (y14 : Int32) =>
  some (y14)) else
  (some ((0 : Int32)))) fun (y10 : Int32) =>
  some (y10)) else
  (some ((0 : Int32)))) fun (y6 : Int32) =>
  some (y6))) fun (y2 : Int32) =>
  chk (y2 = 0 ∨ y2 = 1) <|
  some (M, y2)
set_option maxHeartbeats 4000000 in
set_option maxRecDepth 100000 in
theorem kX8_endsUnit (l : Launch) (D : va_G) (ct : CT) (ad : Nat → Nat) (Z : Nat → Nat) (G : GG) (M : DD) (sz : Nat) (p0 : Option Nat) (p1 : Int32) (p2 : Int32) (y : DD × Int32) (hF : FX8_endsUnit G M p0 p1 p2 = some y) : Met l yX8_endsUnit wuX8_endsUnit ({ frames := 0, cells := 0, slots := 0, locals := 0 }) (va_Pc [va_re ad p0, .int p1, .int p2] (kB D ct ad Z G M sz)) (va_Qi (fun (q : Int32) (_ : Unit) => q = y.2) (fun _ t => kE D ct ad G (wA ad G sz) y.1 t) (wA ad G sz)) 0 0 (wA ad G sz) := by
  refine Met.ofW (cc := cX8_endsUnit) (maxL := 3) (ret := (some .boolean)) (by decide) rfl ?_
  intro p e s m args below meth c s₁ B hml hv
  obtain ⟨rfl, hsz, hP, hK, hD0, hZ, hN⟩ := hv
  have hx := B.exec
  have hb := B.bytes
  have hr := B.returns
  have hts := atoms_spec (ws := wuX8_endsUnit) B.pre
  have hown : s.vm.findClass RX8 = some m.cls := findClass_of_methodNamed B.named
  have hlocks := B.notSynchronized
  subst hsz
  have hD := wD_self (sz := s.heap.size) hD0
  have hA9 : ∀ q, s.heap.size ≤ q → wA ad G s.heap.size q := fun q h => Or.inr h
  generalize hAe : wA ad G s.heap.size = A at hD hA9 hZ ⊢
  have hS : va_S A s.heap s.heap [] := va_S.rf
  have hl := lv_entry ([va_re ad p0, .int p1, .int p2]) (n := 3) (by cases p0 <;> exact Nat.le_of_ble_eq_true rfl)
  rw [lg_entry_eq]
  generalize (lg_sl ([va_re ad p0, .int p1, .int p2]) ++ List.replicate (3 - (lg_sl ([va_re ad p0, .int p1, .int p2])).length) Slot.unset).toArray = ls at hl ⊢
  have hl : lv_has ls 3 [(0, va_re ad p0), (1, .int p1), (2, .int p2)] := by have e9 : lv_args 0 [va_re ad p0, .int p1, .int p2] = [(0, va_re ad p0), (1, .int p1), (2, .int p2)] := (by cases p0 <;> rfl); rw [e9] at hl; exact hl
  unfold FX8_endsUnit at hF
  refine lv_iload_n hx hb dX8_endsUnit_0 rfl (lv_at hl 1 rfl) ?_
  refine lv_iconst (v := (2 : Int32)) hx hb dX8_endsUnit_1 (by decide) ?_
  refine lv_iadd hx hb dX8_endsUnit_2 ?_
  obtain ⟨x1, ex1, hF⟩ := ltt_some hF
  refine lv_topi (fun zx1 ezx1 => ?_)
  obtain rfl : x1 = zx1 := ex1.trans ezx1.symm
  refine lv_iload_n hx hb dX8_endsUnit_3 rfl (lv_at hl 2 rfl) ?_
  obtain ⟨y2, hy2, hF⟩ := bnd_some hF
  have J2 : ∀ (H : Heap) (locs : List Loc) (ls : Array Slot), va_P D classes (wld ct ad G M) H → va_D A (wld ct ad G M) → va_S A s.heap H locs → lv_has ls 3 [(0, va_re ad p0), (1, .int p1), (2, .int p2)] → W p l e (headSpec wuX8_endsUnit ({ frames := 0, cells := 0, slots := 0, locals := 0 })).room s m ([va_re ad p0, .int p1, .int p2] : List Value).toArray below meth c H locs 0 0 (MQ below (va_Qi (fun (q : Int32) (_ : Unit) => q = y.2) (fun _ t => kE D ct ad G A y.1 t) A) ([va_re ad p0, .int p1, .int p2] : List Value).toArray s 0 0 A) (F0 m 43 ls [.int y2]) := by
    intro H locs ls hP hD hS hl
    obtain ⟨hz9, hF⟩ := chk_some hF
    obtain rfl := Option.some.inj hF
    exact W.zret (v := y2) (ty := .boolean) hx hb hr (nar_z hz9).1 (fun t ht hW => ⟨⟨_, (), rfl, rfl, ⟨by rw [ht]; exact hP, va_K.moved hW.alike hK, hD⟩⟩, hS.F ht⟩) hS.2.2 dX8_endsUnit_43
  clear hF
  have hF := hy2
  clear hy2
  refine lv_icmp_ge (tgt := 42) hx hb dX8_endsUnit_4 (by decide) (fun c3 => ?_) (fun c3 => ?_)
  · rw [if_pos c3] at hF
    refine lv_iconst (v := (0 : Int32)) hx hb dX8_endsUnit_42 (by decide) ?_
    obtain rfl := Option.some.inj hF
    exact J2 _ _ _ hP hD hS (lv_sub hl [0, 1, 2] rfl)
  · rw [if_neg c3] at hF
    refine lv_aloadq_n hx hb dX8_endsUnit_7 rfl (lv_at hl 0 rfl) ?_
    refine lv_iload_n hx hb dX8_endsUnit_8 rfl (lv_at hl 1 rfl) ?_
    obtain ⟨b4, ho4, hc4, hk4, hF⟩ := dr_some hF
    refine W_st (st' := [.int p1, .ref (ad b4)]) (by rw [va_some ho4]) ?_
    obtain ⟨hvc, hF⟩ := chk_some hF
    refine va_bald hx hb hK hP b4 0 (wld_b ct ad G M hc4 hk4) rfl hvc dX8_endsUnit_9 ?_
    obtain ⟨x5, ex5, hF⟩ := ltt_some hF
    refine lv_topi (fun zx5 ezx5 => ?_)
    obtain rfl : x5 = zx5 := ex5.trans ezx5.symm
    obtain ⟨y6, hy6, hF⟩ := bnd_some hF
    have J6 : ∀ (H : Heap) (locs : List Loc) (ls : Array Slot), va_P D classes (wld ct ad G M) H → va_D A (wld ct ad G M) → va_S A s.heap H locs → lv_has ls 3 [(0, va_re ad p0), (1, .int p1), (2, .int p2)] → W p l e (headSpec wuX8_endsUnit ({ frames := 0, cells := 0, slots := 0, locals := 0 })).room s m ([va_re ad p0, .int p1, .int p2] : List Value).toArray below meth c H locs 0 0 (MQ below (va_Qi (fun (q : Int32) (_ : Unit) => q = y.2) (fun _ t => kE D ct ad G A y.1 t) A) ([va_re ad p0, .int p1, .int p2] : List Value).toArray s 0 0 A) (F0 m 43 ls [.int y6]) := by
      intro H locs ls hP hD hS hl
      obtain rfl := Option.some.inj hF
      exact J2 _ _ _ hP hD hS (lv_sub hl [0, 1, 2] rfl)
    clear hF
    have hF := hy6
    clear hy6
    refine lv_if_ne (tgt := 42) hx hb dX8_endsUnit_10 (by decide) (fun c7 => ?_) (fun c7 => ?_)
    · rw [if_neg c7] at hF
      refine lv_iconst (v := (0 : Int32)) hx hb dX8_endsUnit_42 (by decide) ?_
      obtain rfl := Option.some.inj hF
      exact J6 _ _ _ hP hD hS (lv_sub hl [0, 1, 2] rfl)
    · rw [if_pos c7] at hF
      refine lv_aloadq_n hx hb dX8_endsUnit_13 rfl (lv_at hl 0 rfl) ?_
      refine lv_iload_n hx hb dX8_endsUnit_14 rfl (lv_at hl 1 rfl) ?_
      refine lv_iconst (v := (1 : Int32)) hx hb dX8_endsUnit_15 (by decide) ?_
      refine lv_iadd hx hb dX8_endsUnit_16 ?_
      obtain ⟨x8, ex8, hF⟩ := ltt_some hF
      refine lv_topi (fun zx8 ezx8 => ?_)
      obtain rfl : x8 = zx8 := ex8.trans ezx8.symm
      refine W_st (st' := [.int x8, .ref (ad b4)]) (by rw [va_some ho4]) ?_
      obtain ⟨hvc, hF⟩ := chk_some hF
      refine va_bald hx hb hK hP b4 0 (wld_b ct ad G M hc4 hk4) rfl hvc dX8_endsUnit_17 ?_
      obtain ⟨x9, ex9, hF⟩ := ltt_some hF
      refine lv_topi (fun zx9 ezx9 => ?_)
      obtain rfl : x9 = zx9 := ex9.trans ezx9.symm
      obtain ⟨y10, hy10, hF⟩ := bnd_some hF
      have J10 : ∀ (H : Heap) (locs : List Loc) (ls : Array Slot), va_P D classes (wld ct ad G M) H → va_D A (wld ct ad G M) → va_S A s.heap H locs → lv_has ls 3 [(0, va_re ad p0), (1, .int p1), (2, .int p2)] → W p l e (headSpec wuX8_endsUnit ({ frames := 0, cells := 0, slots := 0, locals := 0 })).room s m ([va_re ad p0, .int p1, .int p2] : List Value).toArray below meth c H locs 0 0 (MQ below (va_Qi (fun (q : Int32) (_ : Unit) => q = y.2) (fun _ t => kE D ct ad G A y.1 t) A) ([va_re ad p0, .int p1, .int p2] : List Value).toArray s 0 0 A) (F0 m 43 ls [.int y10]) := by
        intro H locs ls hP hD hS hl
        obtain rfl := Option.some.inj hF
        exact J6 _ _ _ hP hD hS (lv_sub hl [0, 1, 2] rfl)
      clear hF
      have hF := hy10
      clear hy10
      refine lv_if_ne (tgt := 42) hx hb dX8_endsUnit_18 (by decide) (fun c11 => ?_) (fun c11 => ?_)
      · rw [if_neg c11] at hF
        refine lv_iconst (v := (0 : Int32)) hx hb dX8_endsUnit_42 (by decide) ?_
        obtain rfl := Option.some.inj hF
        exact J10 _ _ _ hP hD hS (lv_sub hl [0, 1, 2] rfl)
      · rw [if_pos c11] at hF
        refine lv_aloadq_n hx hb dX8_endsUnit_21 rfl (lv_at hl 0 rfl) ?_
        refine lv_iload_n hx hb dX8_endsUnit_22 rfl (lv_at hl 1 rfl) ?_
        refine lv_iconst (v := (2 : Int32)) hx hb dX8_endsUnit_23 (by decide) ?_
        refine lv_iadd hx hb dX8_endsUnit_24 ?_
        obtain ⟨x12, ex12, hF⟩ := ltt_some hF
        refine lv_topi (fun zx12 ezx12 => ?_)
        obtain rfl : x12 = zx12 := ex12.trans ezx12.symm
        refine W_st (st' := [.int x12, .ref (ad b4)]) (by rw [va_some ho4]) ?_
        obtain ⟨hvc, hF⟩ := chk_some hF
        refine va_bald hx hb hK hP b4 0 (wld_b ct ad G M hc4 hk4) rfl hvc dX8_endsUnit_25 ?_
        obtain ⟨x13, ex13, hF⟩ := ltt_some hF
        refine lv_topi (fun zx13 ezx13 => ?_)
        obtain rfl : x13 = zx13 := ex13.trans ezx13.symm
        obtain ⟨y14, hy14, hF⟩ := bnd_some hF
        have J14 : ∀ (H : Heap) (locs : List Loc) (ls : Array Slot), va_P D classes (wld ct ad G M) H → va_D A (wld ct ad G M) → va_S A s.heap H locs → lv_has ls 3 [(0, va_re ad p0), (1, .int p1), (2, .int p2)] → W p l e (headSpec wuX8_endsUnit ({ frames := 0, cells := 0, slots := 0, locals := 0 })).room s m ([va_re ad p0, .int p1, .int p2] : List Value).toArray below meth c H locs 0 0 (MQ below (va_Qi (fun (q : Int32) (_ : Unit) => q = y.2) (fun _ t => kE D ct ad G A y.1 t) A) ([va_re ad p0, .int p1, .int p2] : List Value).toArray s 0 0 A) (F0 m 43 ls [.int y14]) := by
          intro H locs ls hP hD hS hl
          obtain rfl := Option.some.inj hF
          exact J10 _ _ _ hP hD hS (lv_sub hl [0, 1, 2] rfl)
        clear hF
        have hF := hy14
        clear hy14
        refine lv_if_eq (tgt := 38) hx hb dX8_endsUnit_26 (by decide) (fun c15 => ?_) (fun c15 => ?_)
        · rw [if_pos c15] at hF
          refine lv_iconst (v := (1 : Int32)) hx hb dX8_endsUnit_38 (by decide) ?_
          refine lv_goto (tgt := 43) hx hb dX8_endsUnit_39 (by decide) ?_
          obtain rfl := Option.some.inj hF
          exact J14 _ _ _ hP hD hS (lv_sub hl [0, 1, 2] rfl)
        · rw [if_neg c15] at hF
          refine lv_aloadq_n hx hb dX8_endsUnit_29 rfl (lv_at hl 0 rfl) ?_
          refine lv_iload_n hx hb dX8_endsUnit_30 rfl (lv_at hl 1 rfl) ?_
          refine lv_iconst (v := (2 : Int32)) hx hb dX8_endsUnit_31 (by decide) ?_
          refine lv_iadd hx hb dX8_endsUnit_32 ?_
          obtain ⟨x16, ex16, hF⟩ := ltt_some hF
          refine lv_topi (fun zx16 ezx16 => ?_)
          obtain rfl : x16 = zx16 := ex16.trans ezx16.symm
          refine W_st (st' := [.int x16, .ref (ad b4)]) (by rw [va_some ho4]) ?_
          obtain ⟨hvc, hF⟩ := chk_some hF
          refine va_bald hx hb hK hP b4 0 (wld_b ct ad G M hc4 hk4) rfl hvc dX8_endsUnit_33 ?_
          obtain ⟨x17, ex17, hF⟩ := ltt_some hF
          refine lv_topi (fun zx17 ezx17 => ?_)
          obtain rfl : x17 = zx17 := ex17.trans ezx17.symm
          refine lv_iconst (v := (1 : Int32)) hx hb dX8_endsUnit_34 (by decide) ?_
          obtain ⟨y18, hy18, hF⟩ := bnd_some hF
          have J18 : ∀ (H : Heap) (locs : List Loc) (ls : Array Slot), va_P D classes (wld ct ad G M) H → va_D A (wld ct ad G M) → va_S A s.heap H locs → lv_has ls 3 [(0, va_re ad p0), (1, .int p1), (2, .int p2)] → W p l e (headSpec wuX8_endsUnit ({ frames := 0, cells := 0, slots := 0, locals := 0 })).room s m ([va_re ad p0, .int p1, .int p2] : List Value).toArray below meth c H locs 0 0 (MQ below (va_Qi (fun (q : Int32) (_ : Unit) => q = y.2) (fun _ t => kE D ct ad G A y.1 t) A) ([va_re ad p0, .int p1, .int p2] : List Value).toArray s 0 0 A) (F0 m 43 ls [.int y18]) := by
            intro H locs ls hP hD hS hl
            obtain rfl := Option.some.inj hF
            exact J14 _ _ _ hP hD hS (lv_sub hl [0, 1, 2] rfl)
          clear hF
          have hF := hy18
          clear hy18
          refine lv_icmp_ne (tgt := 42) hx hb dX8_endsUnit_35 (by decide) (fun c19 => ?_) (fun c19 => ?_)
          · rw [if_neg c19] at hF
            refine lv_iconst (v := (0 : Int32)) hx hb dX8_endsUnit_42 (by decide) ?_
            obtain rfl := Option.some.inj hF
            exact J18 _ _ _ hP hD hS (lv_sub hl [0, 1, 2] rfl)
          · rw [if_pos c19] at hF
            refine lv_iconst (v := (1 : Int32)) hx hb dX8_endsUnit_38 (by decide) ?_
            refine lv_goto (tgt := 43) hx hb dX8_endsUnit_39 (by decide) ?_
            obtain rfl := Option.some.inj hF
            exact J18 _ _ _ hP hD hS (lv_sub hl [0, 1, 2] rfl)
theorem dX8_init_0 : decode cX8_init 0 = .ok (.aload_n 0, 1) := by decide +kernel
theorem dX8_init_1 : decode cX8_init 1 = .ok (.invokespecial 3, 3) := by decide +kernel
theorem dX8_init_4 : decode cX8_init 4 = .ok (.aload_n 0, 1) := by decide +kernel
theorem dX8_init_5 : decode cX8_init 5 = .ok (.ldc 9, 2) := by decide +kernel
theorem dX8_init_7 : decode cX8_init 7 = .ok (.newarray .byte, 2) := by decide +kernel
theorem dX8_init_9 : decode cX8_init 9 = .ok (.putfield 10, 3) := by decide +kernel
theorem dX8_init_12 : decode cX8_init 12 = .ok (.aload_n 0, 1) := by decide +kernel
theorem dX8_init_13 : decode cX8_init 13 = .ok (.sipush 400, 3) := by decide +kernel
theorem dX8_init_16 : decode cX8_init 16 = .ok (.newarray .int, 2) := by decide +kernel
theorem dX8_init_18 : decode cX8_init 18 = .ok (.putfield 16, 3) := by decide +kernel
theorem dX8_init_21 : decode cX8_init 21 = .ok (.aload_n 0, 1) := by decide +kernel
theorem dX8_init_22 : decode cX8_init 22 = .ok (.sipush 400, 3) := by decide +kernel
theorem dX8_init_25 : decode cX8_init 25 = .ok (.newarray .int, 2) := by decide +kernel
theorem dX8_init_27 : decode cX8_init 27 = .ok (.putfield 20, 3) := by decide +kernel
theorem dX8_init_30 : decode cX8_init 30 = .ok (.aload_n 0, 1) := by decide +kernel
theorem dX8_init_31 : decode cX8_init 31 = .ok (.sipush 400, 3) := by decide +kernel
theorem dX8_init_34 : decode cX8_init 34 = .ok (.newarray .int, 2) := by decide +kernel
theorem dX8_init_36 : decode cX8_init 36 = .ok (.putfield 23, 3) := by decide +kernel
theorem dX8_init_39 : decode cX8_init 39 = .ok (.aload_n 0, 1) := by decide +kernel
theorem dX8_init_40 : decode cX8_init 40 = .ok (.sipush 400, 3) := by decide +kernel
theorem dX8_init_43 : decode cX8_init 43 = .ok (.newarray .int, 2) := by decide +kernel
theorem dX8_init_45 : decode cX8_init 45 = .ok (.putfield 26, 3) := by decide +kernel
theorem dX8_init_48 : decode cX8_init 48 = .ok (.aload_n 0, 1) := by decide +kernel
theorem dX8_init_49 : decode cX8_init 49 = .ok (.ldc 9, 2) := by decide +kernel
theorem dX8_init_51 : decode cX8_init 51 = .ok (.newarray .byte, 2) := by decide +kernel
theorem dX8_init_53 : decode cX8_init 53 = .ok (.putfield 29, 3) := by decide +kernel
theorem dX8_init_56 : decode cX8_init 56 = .ok (.aload_n 0, 1) := by decide +kernel
theorem dX8_init_57 : decode cX8_init 57 = .ok (.sipush 240, 3) := by decide +kernel
theorem dX8_init_60 : decode cX8_init 60 = .ok (.newarray .int, 2) := by decide +kernel
theorem dX8_init_62 : decode cX8_init 62 = .ok (.putfield 32, 3) := by decide +kernel
theorem dX8_init_65 : decode cX8_init 65 = .ok (.aload_n 0, 1) := by decide +kernel
theorem dX8_init_66 : decode cX8_init 66 = .ok (.iconst 4, 1) := by decide +kernel
theorem dX8_init_67 : decode cX8_init 67 = .ok (.newarray .int, 2) := by decide +kernel
theorem dX8_init_69 : decode cX8_init 69 = .ok (.putfield 35, 3) := by decide +kernel
theorem dX8_init_72 : decode cX8_init 72 = .ok (.aload_n 0, 1) := by decide +kernel
theorem dX8_init_73 : decode cX8_init 73 = .ok (.bipush 6, 2) := by decide +kernel
theorem dX8_init_75 : decode cX8_init 75 = .ok (.newarray .int, 2) := by decide +kernel
theorem dX8_init_77 : decode cX8_init 77 = .ok (.putfield 38, 3) := by decide +kernel
theorem dX8_init_80 : decode cX8_init 80 = .ok (.return_, 1) := by decide +kernel
noncomputable def FX8_init (G : GG) (M : DD) (a : Nat)  : Option (NN × DD) :=
  chkP (Clo (xt G []) M) <|
  chk (¬ ((65536 : Int32)) < 0 ∧ ((65536 : Int32)).toNatClampNeg * 4 ≤ 536870912) <|
  ltt ((xt G []).1) fun c2 =>
  app [(12, ((65536 : Int32)).toNatClampNeg)] <|
  ltt ([] ++ [(12, ((65536 : Int32)).toNatClampNeg)]) fun L4 =>
  ltt (rO M c2) fun M5 =>
  ltt (uP M5 a 0 (some c2)) fun M8 =>
  chkP (Clo (xt G L4) M8) <|
  chk (¬ ((400 : Int32)) < 0 ∧ ((400 : Int32)).toNatClampNeg * 4 ≤ 536870912) <|
  ltt ((xt G L4).1) fun c10 =>
  app [(13, ((400 : Int32)).toNatClampNeg)] <|
  ltt (L4 ++ [(13, ((400 : Int32)).toNatClampNeg)]) fun L12 =>
  ltt (rO M8 c10) fun M13 =>
  ltt (uP M13 a 1 (some c10)) fun M16 =>
  chkP (Clo (xt G L12) M16) <|
  chk (¬ ((400 : Int32)) < 0 ∧ ((400 : Int32)).toNatClampNeg * 4 ≤ 536870912) <|
  ltt ((xt G L12).1) fun c18 =>
  app [(13, ((400 : Int32)).toNatClampNeg)] <|
  ltt (L12 ++ [(13, ((400 : Int32)).toNatClampNeg)]) fun L20 =>
  ltt (rO M16 c18) fun M21 =>
  ltt (uP M21 a 2 (some c18)) fun M24 =>
  chkP (Clo (xt G L20) M24) <|
  chk (¬ ((400 : Int32)) < 0 ∧ ((400 : Int32)).toNatClampNeg * 4 ≤ 536870912) <|
  ltt ((xt G L20).1) fun c26 =>
  app [(13, ((400 : Int32)).toNatClampNeg)] <|
  ltt (L20 ++ [(13, ((400 : Int32)).toNatClampNeg)]) fun L28 =>
  ltt (rO M24 c26) fun M29 =>
  ltt (uP M29 a 5 (some c26)) fun M32 =>
  chkP (Clo (xt G L28) M32) <|
  chk (¬ ((400 : Int32)) < 0 ∧ ((400 : Int32)).toNatClampNeg * 4 ≤ 536870912) <|
  ltt ((xt G L28).1) fun c34 =>
  app [(13, ((400 : Int32)).toNatClampNeg)] <|
  ltt (L28 ++ [(13, ((400 : Int32)).toNatClampNeg)]) fun L36 =>
  ltt (rO M32 c34) fun M37 =>
  ltt (uP M37 a 6 (some c34)) fun M40 =>
  chkP (Clo (xt G L36) M40) <|
  chk (¬ ((65536 : Int32)) < 0 ∧ ((65536 : Int32)).toNatClampNeg * 4 ≤ 536870912) <|
  ltt ((xt G L36).1) fun c42 =>
  app [(12, ((65536 : Int32)).toNatClampNeg)] <|
  ltt (L36 ++ [(12, ((65536 : Int32)).toNatClampNeg)]) fun L44 =>
  ltt (rO M40 c42) fun M45 =>
  ltt (uP M45 a 8 (some c42)) fun M48 =>
  chkP (Clo (xt G L44) M48) <|
  chk (¬ ((240 : Int32)) < 0 ∧ ((240 : Int32)).toNatClampNeg * 4 ≤ 536870912) <|
  ltt ((xt G L44).1) fun c50 =>
  app [(13, ((240 : Int32)).toNatClampNeg)] <|
  ltt (L44 ++ [(13, ((240 : Int32)).toNatClampNeg)]) fun L52 =>
  ltt (rO M48 c50) fun M53 =>
  ltt (uP M53 a 10 (some c50)) fun M56 =>
  chkP (Clo (xt G L52) M56) <|
  chk (¬ ((4 : Int32)) < 0 ∧ ((4 : Int32)).toNatClampNeg * 4 ≤ 536870912) <|
  ltt ((xt G L52).1) fun c58 =>
  app [(13, ((4 : Int32)).toNatClampNeg)] <|
  ltt (L52 ++ [(13, ((4 : Int32)).toNatClampNeg)]) fun L60 =>
  ltt (rO M56 c58) fun M61 =>
  ltt (uP M61 a 12 (some c58)) fun M64 =>
  chkP (Clo (xt G L60) M64) <|
  chk (¬ ((6 : Int32)) < 0 ∧ ((6 : Int32)).toNatClampNeg * 4 ≤ 536870912) <|
  ltt ((xt G L60).1) fun c66 =>
  app [(13, ((6 : Int32)).toNatClampNeg)] <|
  ltt (L60 ++ [(13, ((6 : Int32)).toNatClampNeg)]) fun L68 =>
  ltt (rO M64 c66) fun M69 =>
  ltt (uP M69 a 13 (some c66)) fun M72 =>
  some ([], M72)
set_option maxHeartbeats 4000000 in
set_option maxRecDepth 100000 in
theorem kX8_init (l : Launch) (D : va_G) (ct : CT) (ad : Nat → Nat) (Z : Nat → Nat) (G : GG) (M : DD) (sz : Nat) (a : Nat)  (y : NN × DD) (hc : a < G.1) (hk : G.2.1 a = 8) (hF : FX8_init G M a  = some y) : Met l yX8_init wuX8_init ({ frames := 1, cells := y.1.length, slots := wt y.1, locals := 20 }) (va_Pc [.ref (ad a)] (kB D ct ad Z G M sz)) (va_Qv (fun (u : Nat → Nat) => agr G.1 ad u) (fun u t => kE D ct u (xt G y.1) (wA ad G sz) y.2 t) (wA ad G sz)) y.1.length (wt y.1) (wA ad G sz) := by
  refine Met.ofW (cc := cX8_init) (maxL := 1) (ret := none) (by decide) rfl ?_
  intro p e s m args below meth c s₁ B hml hv
  obtain ⟨rfl, hsz, hP, hK, hD0, hZ, hN⟩ := hv
  have hx := B.exec
  have hb := B.bytes
  have hr := B.returns
  have hts := atoms_spec (ws := wuX8_init) B.pre
  have hown : s.vm.findClass RX8 = some m.cls := findClass_of_methodNamed B.named
  have hlocks := B.notSynchronized
  have hin : meth.name = "<init>" := (name_of_methodNamed B.named B.method).1
  subst hsz
  have hD := wD_self (sz := s.heap.size) hD0
  have hA9 : ∀ q, s.heap.size ≤ q → wA ad G s.heap.size q := fun q h => Or.inr h
  generalize hAe : wA ad G s.heap.size = A at hD hA9 hZ ⊢
  have hS : va_S A s.heap s.heap [] := va_S.rf
  have hl := lv_entry ([.ref (ad a)]) (n := 1) (Nat.le_of_ble_eq_true rfl)
  rw [lg_entry_eq]
  generalize (lg_sl ([.ref (ad a)]) ++ List.replicate (1 - (lg_sl ([.ref (ad a)])).length) Slot.unset).toArray = ls at hl ⊢
  have hl : lv_has ls 1 [(0, .ref (ad a))] := hl
  unfold FX8_init at hF
  rw [← wld_0 ct ad G M] at hP hD
  have hk := xt_k0 hc hk
  have hc := xt_l0 hc
  have hag := agr_rf G.1 ad
  obtain ⟨w0, hw0⟩ : ∃ z, z = y := ⟨_, rfl⟩
  rw [← hw0] at hF
  have hT : y.1 = [] ++ w0.1 := by rw [hw0]; rfl
  have h2 : y.2 = w0.2 := by rw [hw0]
  have hbl : y.1.length ≤ y.1.length ∧ wt y.1 ≤ wt y.1 := ⟨Nat.le_refl _, Nat.le_refl _⟩
  refine lv_aload_n hx hb dX8_init_0 rfl (lv_at hl 0 rfl) ?_
  refine W.objInit hx hb hown (hts (.methodLink RX8 3 objectInit) (mu mw_210)) (hts (.instanceMethod objectInit) (mu mw_202)) (hts (.code objectInit ⟨#[0xb1]⟩ 1 none) (mu mw_203)) rfl (by rw [hml]; exact hl.1) rfl dX8_init_1 (Nat.le_of_ble_eq_true rfl) (Nat.le_of_ble_eq_true rfl) ?_
  refine W.eq (g2 := F0 m 4 ls []) rfl ?_
  refine lv_aload_n hx hb dX8_init_4 rfl (lv_at hl 0 rfl) ?_
  refine lv_ldc (v := (65536 : Int32)) hx hb hown (hts (.constant RX8 9 (65536 : Int32)) (mu mw_211)) dX8_init_5 ?_
  obtain ⟨hC1, hF⟩ := chkP_some hF
  obtain ⟨hz9, hF⟩ := chk_some hF
  obtain ⟨c2, ec2, hF⟩ := ltt_some hF
  obtain ⟨w3, hF, ew3⟩ := app_some hF
  obtain ⟨L4, eL4, hF⟩ := ltt_some hF
  have hT4 : y.1 = ([] ++ [(12, ((65536 : Int32)).toNatClampNeg)]) ++ w3.1 := by rw [hT, ew3]; simp only [List.append_assoc]
  obtain ⟨M5, eM5, hF⟩ := ltt_some hF
  refine new_b hx hb (hts (.arrayClass .byte) (mu mw_265)) hK hP hD hS hA9 hz9.1 hz9.2 hC1 (room_1s hT4 hbl) dX8_init_7 (fun ad6 H hn7 hP hD hS => ?_)
  rw [← ec2, ← eL4, ← eM5] at hP hD
  refine W_cs (k := L4.length) (n := wt L4) (by rw [eL4]) (by rw [eL4]) ?_
  refine W_st (st' := [.ref (ad6 c2), .ref (ad a)]) (by rw [ec2]) ?_
  have hT : y.1 = L4 ++ w3.1 := by rw [hT4, eL4]
  have h2 : y.2 = w3.2 := by rw [h2, ew3]
  have hl := lv_sub (l' := [(0, .ref (ad a))]) hl [0] rfl
  have e9 : ([(0, .ref (ad a))] : List (Nat × Value)) = [(0, .ref (ad6 a))] := (by first | rfl | simp only [hn7 a hc])
  rw [e9] at hl
  clear e9
  refine W_st (st' := [.ref (ad6 c2), .ref (ad6 a)]) (by first | rfl | simp only [hn7 a hc]) ?_
  have hk : (xt G L4).2.1 a = 8 := by rw [eL4]; exact xt_k _ hc hk
  have hc : a < (xt G L4).1 := by rw [eL4]; exact xt_l _ hc
  have hag := agr_t (xt_ge _ _) hag hn7
  have hc2 : c2 < (xt G L4).1 := by rw [ec2, eL4]; exact cnt_new _ _ _
  have hk2 : (xt G L4).2.1 c2 = 12 := by rw [ec2, eL4]; exact (kind_new _ _ _ _).1
  refine va_putF (D := D) (ci := 8) (v := va_re ad6 (some c2)) (ty := (.array .byte)) (C := RX8) (T := TX8) (N := 15) hx hb hts (mus hf_X8) tyX8 tyX8_ok nmX8 hown hK hP hD hS a (wld_o ct ad6 (xt G L4) M5 hc hk (by decide)) rfl 0 (by decide) (hts (.fieldLink RX8 10 "VideoSuite$Units" "bytes" "[B") (mu mw_212)) (fun _ h9 => h9) rfl hin rfl (by decide +kernel) (nar_q ad6 (Or.inr ⟨_, rfl⟩) (some c2)).1 (nar_q ad6 (Or.inr ⟨_, rfl⟩) (some c2)).2 (Nat.le_of_ble_eq_true rfl) dX8_init_9 (fun H locs hP hD hS => ?_)
  obtain ⟨M8, eM8, hF⟩ := ltt_some hF
  rw [set_oP ct ad6 (xt G L4) M5 hc hk (by decide) (by rfl), ← eM8] at hP hD
  refine lv_aload_n hx hb dX8_init_12 rfl (lv_at hl 0 rfl) ?_
  refine lv_sipush (v := (400 : Int32)) hx hb dX8_init_13 (by decide) ?_
  obtain ⟨hC9, hF⟩ := chkP_some hF
  obtain ⟨hz9, hF⟩ := chk_some hF
  obtain ⟨c10, ec10, hF⟩ := ltt_some hF
  obtain ⟨w11, hF, ew11⟩ := app_some hF
  obtain ⟨L12, eL12, hF⟩ := ltt_some hF
  have hT12 : y.1 = (L4 ++ [(13, ((400 : Int32)).toNatClampNeg)]) ++ w11.1 := by rw [hT, ew11]; simp only [List.append_assoc]
  obtain ⟨M13, eM13, hF⟩ := ltt_some hF
  refine new_i hx hb (hts (.arrayClass .int) (mu mw_266)) hK hP hD hS hA9 hz9.1 hz9.2 hC9 (room_1s hT12 hbl) dX8_init_16 (fun ad14 H hn15 hP hD hS => ?_)
  rw [← ec10, ← eL12, ← eM13] at hP hD
  refine W_cs (k := L12.length) (n := wt L12) (by rw [eL12]) (by rw [eL12]) ?_
  refine W_st (st' := [.ref (ad14 c10), .ref (ad6 a)]) (by rw [ec10]) ?_
  have hT : y.1 = L12 ++ w11.1 := by rw [hT12, eL12]
  have h2 : y.2 = w11.2 := by rw [h2, ew11]
  have hl := lv_sub (l' := [(0, .ref (ad6 a))]) hl [0] rfl
  have e9 : ([(0, .ref (ad6 a))] : List (Nat × Value)) = [(0, .ref (ad14 a))] := (by first | rfl | simp only [hn15 a hc])
  rw [e9] at hl
  clear e9
  refine W_st (st' := [.ref (ad14 c10), .ref (ad14 a)]) (by first | rfl | simp only [hn15 a hc]) ?_
  have hk : (xt G L12).2.1 a = 8 := by rw [eL12]; exact xt_k _ hc hk
  have hc : a < (xt G L12).1 := by rw [eL12]; exact xt_l _ hc
  have hk2 : (xt G L12).2.1 c2 = 12 := by rw [eL12]; exact xt_k _ hc2 hk2
  have hc2 : c2 < (xt G L12).1 := by rw [eL12]; exact xt_l _ hc2
  have hag := agr_t (xt_ge _ _) hag hn15
  have hc10 : c10 < (xt G L12).1 := by rw [ec10, eL12]; exact cnt_new _ _ _
  have hk10 : (xt G L12).2.1 c10 = 13 := by rw [ec10, eL12]; exact (kind_new _ _ _ _).1
  refine va_putF (D := D) (ci := 8) (v := va_re ad14 (some c10)) (ty := (.array .int)) (C := RX8) (T := TX8) (N := 15) hx hb hts (mus hf_X8) tyX8 tyX8_ok nmX8 hown hK hP hD hS a (wld_o ct ad14 (xt G L12) M13 hc hk (by decide)) rfl 1 (by decide) (hts (.fieldLink RX8 16 "VideoSuite$Units" "start" "[I") (mu mw_213)) (fun _ h9 => h9) rfl hin rfl (by decide +kernel) (nar_q ad14 (Or.inr ⟨_, rfl⟩) (some c10)).1 (nar_q ad14 (Or.inr ⟨_, rfl⟩) (some c10)).2 (Nat.le_of_ble_eq_true rfl) dX8_init_18 (fun H locs hP hD hS => ?_)
  obtain ⟨M16, eM16, hF⟩ := ltt_some hF
  rw [set_oP ct ad14 (xt G L12) M13 hc hk (by decide) (by rfl), ← eM16] at hP hD
  refine lv_aload_n hx hb dX8_init_21 rfl (lv_at hl 0 rfl) ?_
  refine lv_sipush (v := (400 : Int32)) hx hb dX8_init_22 (by decide) ?_
  obtain ⟨hC17, hF⟩ := chkP_some hF
  obtain ⟨hz9, hF⟩ := chk_some hF
  obtain ⟨c18, ec18, hF⟩ := ltt_some hF
  obtain ⟨w19, hF, ew19⟩ := app_some hF
  obtain ⟨L20, eL20, hF⟩ := ltt_some hF
  have hT20 : y.1 = (L12 ++ [(13, ((400 : Int32)).toNatClampNeg)]) ++ w19.1 := by rw [hT, ew19]; simp only [List.append_assoc]
  obtain ⟨M21, eM21, hF⟩ := ltt_some hF
  refine new_i hx hb (hts (.arrayClass .int) (mu mw_266)) hK hP hD hS hA9 hz9.1 hz9.2 hC17 (room_1s hT20 hbl) dX8_init_25 (fun ad22 H hn23 hP hD hS => ?_)
  rw [← ec18, ← eL20, ← eM21] at hP hD
  refine W_cs (k := L20.length) (n := wt L20) (by rw [eL20]) (by rw [eL20]) ?_
  refine W_st (st' := [.ref (ad22 c18), .ref (ad14 a)]) (by rw [ec18]) ?_
  have hT : y.1 = L20 ++ w19.1 := by rw [hT20, eL20]
  have h2 : y.2 = w19.2 := by rw [h2, ew19]
  have hl := lv_sub (l' := [(0, .ref (ad14 a))]) hl [0] rfl
  have e9 : ([(0, .ref (ad14 a))] : List (Nat × Value)) = [(0, .ref (ad22 a))] := (by first | rfl | simp only [hn23 a hc])
  rw [e9] at hl
  clear e9
  refine W_st (st' := [.ref (ad22 c18), .ref (ad22 a)]) (by first | rfl | simp only [hn23 a hc]) ?_
  have hk : (xt G L20).2.1 a = 8 := by rw [eL20]; exact xt_k _ hc hk
  have hc : a < (xt G L20).1 := by rw [eL20]; exact xt_l _ hc
  have hk2 : (xt G L20).2.1 c2 = 12 := by rw [eL20]; exact xt_k _ hc2 hk2
  have hc2 : c2 < (xt G L20).1 := by rw [eL20]; exact xt_l _ hc2
  have hk10 : (xt G L20).2.1 c10 = 13 := by rw [eL20]; exact xt_k _ hc10 hk10
  have hc10 : c10 < (xt G L20).1 := by rw [eL20]; exact xt_l _ hc10
  have hag := agr_t (xt_ge _ _) hag hn23
  have hc18 : c18 < (xt G L20).1 := by rw [ec18, eL20]; exact cnt_new _ _ _
  have hk18 : (xt G L20).2.1 c18 = 13 := by rw [ec18, eL20]; exact (kind_new _ _ _ _).1
  refine va_putF (D := D) (ci := 8) (v := va_re ad22 (some c18)) (ty := (.array .int)) (C := RX8) (T := TX8) (N := 15) hx hb hts (mus hf_X8) tyX8 tyX8_ok nmX8 hown hK hP hD hS a (wld_o ct ad22 (xt G L20) M21 hc hk (by decide)) rfl 2 (by decide) (hts (.fieldLink RX8 20 "VideoSuite$Units" "size" "[I") (mu mw_214)) (fun _ h9 => h9) rfl hin rfl (by decide +kernel) (nar_q ad22 (Or.inr ⟨_, rfl⟩) (some c18)).1 (nar_q ad22 (Or.inr ⟨_, rfl⟩) (some c18)).2 (Nat.le_of_ble_eq_true rfl) dX8_init_27 (fun H locs hP hD hS => ?_)
  obtain ⟨M24, eM24, hF⟩ := ltt_some hF
  rw [set_oP ct ad22 (xt G L20) M21 hc hk (by decide) (by rfl), ← eM24] at hP hD
  refine lv_aload_n hx hb dX8_init_30 rfl (lv_at hl 0 rfl) ?_
  refine lv_sipush (v := (400 : Int32)) hx hb dX8_init_31 (by decide) ?_
  obtain ⟨hC25, hF⟩ := chkP_some hF
  obtain ⟨hz9, hF⟩ := chk_some hF
  obtain ⟨c26, ec26, hF⟩ := ltt_some hF
  obtain ⟨w27, hF, ew27⟩ := app_some hF
  obtain ⟨L28, eL28, hF⟩ := ltt_some hF
  have hT28 : y.1 = (L20 ++ [(13, ((400 : Int32)).toNatClampNeg)]) ++ w27.1 := by rw [hT, ew27]; simp only [List.append_assoc]
  obtain ⟨M29, eM29, hF⟩ := ltt_some hF
  refine new_i hx hb (hts (.arrayClass .int) (mu mw_266)) hK hP hD hS hA9 hz9.1 hz9.2 hC25 (room_1s hT28 hbl) dX8_init_34 (fun ad30 H hn31 hP hD hS => ?_)
  rw [← ec26, ← eL28, ← eM29] at hP hD
  refine W_cs (k := L28.length) (n := wt L28) (by rw [eL28]) (by rw [eL28]) ?_
  refine W_st (st' := [.ref (ad30 c26), .ref (ad22 a)]) (by rw [ec26]) ?_
  have hT : y.1 = L28 ++ w27.1 := by rw [hT28, eL28]
  have h2 : y.2 = w27.2 := by rw [h2, ew27]
  have hl := lv_sub (l' := [(0, .ref (ad22 a))]) hl [0] rfl
  have e9 : ([(0, .ref (ad22 a))] : List (Nat × Value)) = [(0, .ref (ad30 a))] := (by first | rfl | simp only [hn31 a hc])
  rw [e9] at hl
  clear e9
  refine W_st (st' := [.ref (ad30 c26), .ref (ad30 a)]) (by first | rfl | simp only [hn31 a hc]) ?_
  have hk : (xt G L28).2.1 a = 8 := by rw [eL28]; exact xt_k _ hc hk
  have hc : a < (xt G L28).1 := by rw [eL28]; exact xt_l _ hc
  have hk2 : (xt G L28).2.1 c2 = 12 := by rw [eL28]; exact xt_k _ hc2 hk2
  have hc2 : c2 < (xt G L28).1 := by rw [eL28]; exact xt_l _ hc2
  have hk10 : (xt G L28).2.1 c10 = 13 := by rw [eL28]; exact xt_k _ hc10 hk10
  have hc10 : c10 < (xt G L28).1 := by rw [eL28]; exact xt_l _ hc10
  have hk18 : (xt G L28).2.1 c18 = 13 := by rw [eL28]; exact xt_k _ hc18 hk18
  have hc18 : c18 < (xt G L28).1 := by rw [eL28]; exact xt_l _ hc18
  have hag := agr_t (xt_ge _ _) hag hn31
  have hc26 : c26 < (xt G L28).1 := by rw [ec26, eL28]; exact cnt_new _ _ _
  have hk26 : (xt G L28).2.1 c26 = 13 := by rw [ec26, eL28]; exact (kind_new _ _ _ _).1
  refine va_putF (D := D) (ci := 8) (v := va_re ad30 (some c26)) (ty := (.array .int)) (C := RX8) (T := TX8) (N := 15) hx hb hts (mus hf_X8) tyX8 tyX8_ok nmX8 hown hK hP hD hS a (wld_o ct ad30 (xt G L28) M29 hc hk (by decide)) rfl 5 (by decide) (hts (.fieldLink RX8 23 "VideoSuite$Units" "foundStart" "[I") (mu mw_220)) (fun _ h9 => h9) rfl hin rfl (by decide +kernel) (nar_q ad30 (Or.inr ⟨_, rfl⟩) (some c26)).1 (nar_q ad30 (Or.inr ⟨_, rfl⟩) (some c26)).2 (Nat.le_of_ble_eq_true rfl) dX8_init_36 (fun H locs hP hD hS => ?_)
  obtain ⟨M32, eM32, hF⟩ := ltt_some hF
  rw [set_oP ct ad30 (xt G L28) M29 hc hk (by decide) (by rfl), ← eM32] at hP hD
  refine lv_aload_n hx hb dX8_init_39 rfl (lv_at hl 0 rfl) ?_
  refine lv_sipush (v := (400 : Int32)) hx hb dX8_init_40 (by decide) ?_
  obtain ⟨hC33, hF⟩ := chkP_some hF
  obtain ⟨hz9, hF⟩ := chk_some hF
  obtain ⟨c34, ec34, hF⟩ := ltt_some hF
  obtain ⟨w35, hF, ew35⟩ := app_some hF
  obtain ⟨L36, eL36, hF⟩ := ltt_some hF
  have hT36 : y.1 = (L28 ++ [(13, ((400 : Int32)).toNatClampNeg)]) ++ w35.1 := by rw [hT, ew35]; simp only [List.append_assoc]
  obtain ⟨M37, eM37, hF⟩ := ltt_some hF
  refine new_i hx hb (hts (.arrayClass .int) (mu mw_266)) hK hP hD hS hA9 hz9.1 hz9.2 hC33 (room_1s hT36 hbl) dX8_init_43 (fun ad38 H hn39 hP hD hS => ?_)
  rw [← ec34, ← eL36, ← eM37] at hP hD
  refine W_cs (k := L36.length) (n := wt L36) (by rw [eL36]) (by rw [eL36]) ?_
  refine W_st (st' := [.ref (ad38 c34), .ref (ad30 a)]) (by rw [ec34]) ?_
  have hT : y.1 = L36 ++ w35.1 := by rw [hT36, eL36]
  have h2 : y.2 = w35.2 := by rw [h2, ew35]
  have hl := lv_sub (l' := [(0, .ref (ad30 a))]) hl [0] rfl
  have e9 : ([(0, .ref (ad30 a))] : List (Nat × Value)) = [(0, .ref (ad38 a))] := (by first | rfl | simp only [hn39 a hc])
  rw [e9] at hl
  clear e9
  refine W_st (st' := [.ref (ad38 c34), .ref (ad38 a)]) (by first | rfl | simp only [hn39 a hc]) ?_
  have hk : (xt G L36).2.1 a = 8 := by rw [eL36]; exact xt_k _ hc hk
  have hc : a < (xt G L36).1 := by rw [eL36]; exact xt_l _ hc
  have hk2 : (xt G L36).2.1 c2 = 12 := by rw [eL36]; exact xt_k _ hc2 hk2
  have hc2 : c2 < (xt G L36).1 := by rw [eL36]; exact xt_l _ hc2
  have hk10 : (xt G L36).2.1 c10 = 13 := by rw [eL36]; exact xt_k _ hc10 hk10
  have hc10 : c10 < (xt G L36).1 := by rw [eL36]; exact xt_l _ hc10
  have hk18 : (xt G L36).2.1 c18 = 13 := by rw [eL36]; exact xt_k _ hc18 hk18
  have hc18 : c18 < (xt G L36).1 := by rw [eL36]; exact xt_l _ hc18
  have hk26 : (xt G L36).2.1 c26 = 13 := by rw [eL36]; exact xt_k _ hc26 hk26
  have hc26 : c26 < (xt G L36).1 := by rw [eL36]; exact xt_l _ hc26
  have hag := agr_t (xt_ge _ _) hag hn39
  have hc34 : c34 < (xt G L36).1 := by rw [ec34, eL36]; exact cnt_new _ _ _
  have hk34 : (xt G L36).2.1 c34 = 13 := by rw [ec34, eL36]; exact (kind_new _ _ _ _).1
  refine va_putF (D := D) (ci := 8) (v := va_re ad38 (some c34)) (ty := (.array .int)) (C := RX8) (T := TX8) (N := 15) hx hb hts (mus hf_X8) tyX8 tyX8_ok nmX8 hown hK hP hD hS a (wld_o ct ad38 (xt G L36) M37 hc hk (by decide)) rfl 6 (by decide) (hts (.fieldLink RX8 26 "VideoSuite$Units" "foundSize" "[I") (mu mw_221)) (fun _ h9 => h9) rfl hin rfl (by decide +kernel) (nar_q ad38 (Or.inr ⟨_, rfl⟩) (some c34)).1 (nar_q ad38 (Or.inr ⟨_, rfl⟩) (some c34)).2 (Nat.le_of_ble_eq_true rfl) dX8_init_45 (fun H locs hP hD hS => ?_)
  obtain ⟨M40, eM40, hF⟩ := ltt_some hF
  rw [set_oP ct ad38 (xt G L36) M37 hc hk (by decide) (by rfl), ← eM40] at hP hD
  refine lv_aload_n hx hb dX8_init_48 rfl (lv_at hl 0 rfl) ?_
  refine lv_ldc (v := (65536 : Int32)) hx hb hown (hts (.constant RX8 9 (65536 : Int32)) (mu mw_211)) dX8_init_49 ?_
  obtain ⟨hC41, hF⟩ := chkP_some hF
  obtain ⟨hz9, hF⟩ := chk_some hF
  obtain ⟨c42, ec42, hF⟩ := ltt_some hF
  obtain ⟨w43, hF, ew43⟩ := app_some hF
  obtain ⟨L44, eL44, hF⟩ := ltt_some hF
  have hT44 : y.1 = (L36 ++ [(12, ((65536 : Int32)).toNatClampNeg)]) ++ w43.1 := by rw [hT, ew43]; simp only [List.append_assoc]
  obtain ⟨M45, eM45, hF⟩ := ltt_some hF
  refine new_b hx hb (hts (.arrayClass .byte) (mu mw_265)) hK hP hD hS hA9 hz9.1 hz9.2 hC41 (room_1s hT44 hbl) dX8_init_51 (fun ad46 H hn47 hP hD hS => ?_)
  rw [← ec42, ← eL44, ← eM45] at hP hD
  refine W_cs (k := L44.length) (n := wt L44) (by rw [eL44]) (by rw [eL44]) ?_
  refine W_st (st' := [.ref (ad46 c42), .ref (ad38 a)]) (by rw [ec42]) ?_
  have hT : y.1 = L44 ++ w43.1 := by rw [hT44, eL44]
  have h2 : y.2 = w43.2 := by rw [h2, ew43]
  have hl := lv_sub (l' := [(0, .ref (ad38 a))]) hl [0] rfl
  have e9 : ([(0, .ref (ad38 a))] : List (Nat × Value)) = [(0, .ref (ad46 a))] := (by first | rfl | simp only [hn47 a hc])
  rw [e9] at hl
  clear e9
  refine W_st (st' := [.ref (ad46 c42), .ref (ad46 a)]) (by first | rfl | simp only [hn47 a hc]) ?_
  have hk : (xt G L44).2.1 a = 8 := by rw [eL44]; exact xt_k _ hc hk
  have hc : a < (xt G L44).1 := by rw [eL44]; exact xt_l _ hc
  have hk2 : (xt G L44).2.1 c2 = 12 := by rw [eL44]; exact xt_k _ hc2 hk2
  have hc2 : c2 < (xt G L44).1 := by rw [eL44]; exact xt_l _ hc2
  have hk10 : (xt G L44).2.1 c10 = 13 := by rw [eL44]; exact xt_k _ hc10 hk10
  have hc10 : c10 < (xt G L44).1 := by rw [eL44]; exact xt_l _ hc10
  have hk18 : (xt G L44).2.1 c18 = 13 := by rw [eL44]; exact xt_k _ hc18 hk18
  have hc18 : c18 < (xt G L44).1 := by rw [eL44]; exact xt_l _ hc18
  have hk26 : (xt G L44).2.1 c26 = 13 := by rw [eL44]; exact xt_k _ hc26 hk26
  have hc26 : c26 < (xt G L44).1 := by rw [eL44]; exact xt_l _ hc26
  have hk34 : (xt G L44).2.1 c34 = 13 := by rw [eL44]; exact xt_k _ hc34 hk34
  have hc34 : c34 < (xt G L44).1 := by rw [eL44]; exact xt_l _ hc34
  have hag := agr_t (xt_ge _ _) hag hn47
  have hc42 : c42 < (xt G L44).1 := by rw [ec42, eL44]; exact cnt_new _ _ _
  have hk42 : (xt G L44).2.1 c42 = 12 := by rw [ec42, eL44]; exact (kind_new _ _ _ _).1
  refine va_putF (D := D) (ci := 8) (v := va_re ad46 (some c42)) (ty := (.array .byte)) (C := RX8) (T := TX8) (N := 15) hx hb hts (mus hf_X8) tyX8 tyX8_ok nmX8 hown hK hP hD hS a (wld_o ct ad46 (xt G L44) M45 hc hk (by decide)) rfl 8 (by decide) (hts (.fieldLink RX8 29 "VideoSuite$Units" "payload" "[B") (mu mw_224)) (fun _ h9 => h9) rfl hin rfl (by decide +kernel) (nar_q ad46 (Or.inr ⟨_, rfl⟩) (some c42)).1 (nar_q ad46 (Or.inr ⟨_, rfl⟩) (some c42)).2 (Nat.le_of_ble_eq_true rfl) dX8_init_53 (fun H locs hP hD hS => ?_)
  obtain ⟨M48, eM48, hF⟩ := ltt_some hF
  rw [set_oP ct ad46 (xt G L44) M45 hc hk (by decide) (by rfl), ← eM48] at hP hD
  refine lv_aload_n hx hb dX8_init_56 rfl (lv_at hl 0 rfl) ?_
  refine lv_sipush (v := (240 : Int32)) hx hb dX8_init_57 (by decide) ?_
  obtain ⟨hC49, hF⟩ := chkP_some hF
  obtain ⟨hz9, hF⟩ := chk_some hF
  obtain ⟨c50, ec50, hF⟩ := ltt_some hF
  obtain ⟨w51, hF, ew51⟩ := app_some hF
  obtain ⟨L52, eL52, hF⟩ := ltt_some hF
  have hT52 : y.1 = (L44 ++ [(13, ((240 : Int32)).toNatClampNeg)]) ++ w51.1 := by rw [hT, ew51]; simp only [List.append_assoc]
  obtain ⟨M53, eM53, hF⟩ := ltt_some hF
  refine new_i hx hb (hts (.arrayClass .int) (mu mw_266)) hK hP hD hS hA9 hz9.1 hz9.2 hC49 (room_1s hT52 hbl) dX8_init_60 (fun ad54 H hn55 hP hD hS => ?_)
  rw [← ec50, ← eL52, ← eM53] at hP hD
  refine W_cs (k := L52.length) (n := wt L52) (by rw [eL52]) (by rw [eL52]) ?_
  refine W_st (st' := [.ref (ad54 c50), .ref (ad46 a)]) (by rw [ec50]) ?_
  have hT : y.1 = L52 ++ w51.1 := by rw [hT52, eL52]
  have h2 : y.2 = w51.2 := by rw [h2, ew51]
  have hl := lv_sub (l' := [(0, .ref (ad46 a))]) hl [0] rfl
  have e9 : ([(0, .ref (ad46 a))] : List (Nat × Value)) = [(0, .ref (ad54 a))] := (by first | rfl | simp only [hn55 a hc])
  rw [e9] at hl
  clear e9
  refine W_st (st' := [.ref (ad54 c50), .ref (ad54 a)]) (by first | rfl | simp only [hn55 a hc]) ?_
  have hk : (xt G L52).2.1 a = 8 := by rw [eL52]; exact xt_k _ hc hk
  have hc : a < (xt G L52).1 := by rw [eL52]; exact xt_l _ hc
  have hk2 : (xt G L52).2.1 c2 = 12 := by rw [eL52]; exact xt_k _ hc2 hk2
  have hc2 : c2 < (xt G L52).1 := by rw [eL52]; exact xt_l _ hc2
  have hk10 : (xt G L52).2.1 c10 = 13 := by rw [eL52]; exact xt_k _ hc10 hk10
  have hc10 : c10 < (xt G L52).1 := by rw [eL52]; exact xt_l _ hc10
  have hk18 : (xt G L52).2.1 c18 = 13 := by rw [eL52]; exact xt_k _ hc18 hk18
  have hc18 : c18 < (xt G L52).1 := by rw [eL52]; exact xt_l _ hc18
  have hk26 : (xt G L52).2.1 c26 = 13 := by rw [eL52]; exact xt_k _ hc26 hk26
  have hc26 : c26 < (xt G L52).1 := by rw [eL52]; exact xt_l _ hc26
  have hk34 : (xt G L52).2.1 c34 = 13 := by rw [eL52]; exact xt_k _ hc34 hk34
  have hc34 : c34 < (xt G L52).1 := by rw [eL52]; exact xt_l _ hc34
  have hk42 : (xt G L52).2.1 c42 = 12 := by rw [eL52]; exact xt_k _ hc42 hk42
  have hc42 : c42 < (xt G L52).1 := by rw [eL52]; exact xt_l _ hc42
  have hag := agr_t (xt_ge _ _) hag hn55
  have hc50 : c50 < (xt G L52).1 := by rw [ec50, eL52]; exact cnt_new _ _ _
  have hk50 : (xt G L52).2.1 c50 = 13 := by rw [ec50, eL52]; exact (kind_new _ _ _ _).1
  refine va_putF (D := D) (ci := 8) (v := va_re ad54 (some c50)) (ty := (.array .int)) (C := RX8) (T := TX8) (N := 15) hx hb hts (mus hf_X8) tyX8 tyX8_ok nmX8 hown hK hP hD hS a (wld_o ct ad54 (xt G L52) M53 hc hk (by decide)) rfl 10 (by decide) (hts (.fieldLink RX8 32 "VideoSuite$Units" "box" "[I") (mu mw_228)) (fun _ h9 => h9) rfl hin rfl (by decide +kernel) (nar_q ad54 (Or.inr ⟨_, rfl⟩) (some c50)).1 (nar_q ad54 (Or.inr ⟨_, rfl⟩) (some c50)).2 (Nat.le_of_ble_eq_true rfl) dX8_init_62 (fun H locs hP hD hS => ?_)
  obtain ⟨M56, eM56, hF⟩ := ltt_some hF
  rw [set_oP ct ad54 (xt G L52) M53 hc hk (by decide) (by rfl), ← eM56] at hP hD
  refine lv_aload_n hx hb dX8_init_65 rfl (lv_at hl 0 rfl) ?_
  refine lv_iconst (v := (4 : Int32)) hx hb dX8_init_66 (by decide) ?_
  obtain ⟨hC57, hF⟩ := chkP_some hF
  obtain ⟨hz9, hF⟩ := chk_some hF
  obtain ⟨c58, ec58, hF⟩ := ltt_some hF
  obtain ⟨w59, hF, ew59⟩ := app_some hF
  obtain ⟨L60, eL60, hF⟩ := ltt_some hF
  have hT60 : y.1 = (L52 ++ [(13, ((4 : Int32)).toNatClampNeg)]) ++ w59.1 := by rw [hT, ew59]; simp only [List.append_assoc]
  obtain ⟨M61, eM61, hF⟩ := ltt_some hF
  refine new_i hx hb (hts (.arrayClass .int) (mu mw_266)) hK hP hD hS hA9 hz9.1 hz9.2 hC57 (room_1s hT60 hbl) dX8_init_67 (fun ad62 H hn63 hP hD hS => ?_)
  rw [← ec58, ← eL60, ← eM61] at hP hD
  refine W_cs (k := L60.length) (n := wt L60) (by rw [eL60]) (by rw [eL60]) ?_
  refine W_st (st' := [.ref (ad62 c58), .ref (ad54 a)]) (by rw [ec58]) ?_
  have hT : y.1 = L60 ++ w59.1 := by rw [hT60, eL60]
  have h2 : y.2 = w59.2 := by rw [h2, ew59]
  have hl := lv_sub (l' := [(0, .ref (ad54 a))]) hl [0] rfl
  have e9 : ([(0, .ref (ad54 a))] : List (Nat × Value)) = [(0, .ref (ad62 a))] := (by first | rfl | simp only [hn63 a hc])
  rw [e9] at hl
  clear e9
  refine W_st (st' := [.ref (ad62 c58), .ref (ad62 a)]) (by first | rfl | simp only [hn63 a hc]) ?_
  have hk : (xt G L60).2.1 a = 8 := by rw [eL60]; exact xt_k _ hc hk
  have hc : a < (xt G L60).1 := by rw [eL60]; exact xt_l _ hc
  have hk2 : (xt G L60).2.1 c2 = 12 := by rw [eL60]; exact xt_k _ hc2 hk2
  have hc2 : c2 < (xt G L60).1 := by rw [eL60]; exact xt_l _ hc2
  have hk10 : (xt G L60).2.1 c10 = 13 := by rw [eL60]; exact xt_k _ hc10 hk10
  have hc10 : c10 < (xt G L60).1 := by rw [eL60]; exact xt_l _ hc10
  have hk18 : (xt G L60).2.1 c18 = 13 := by rw [eL60]; exact xt_k _ hc18 hk18
  have hc18 : c18 < (xt G L60).1 := by rw [eL60]; exact xt_l _ hc18
  have hk26 : (xt G L60).2.1 c26 = 13 := by rw [eL60]; exact xt_k _ hc26 hk26
  have hc26 : c26 < (xt G L60).1 := by rw [eL60]; exact xt_l _ hc26
  have hk34 : (xt G L60).2.1 c34 = 13 := by rw [eL60]; exact xt_k _ hc34 hk34
  have hc34 : c34 < (xt G L60).1 := by rw [eL60]; exact xt_l _ hc34
  have hk42 : (xt G L60).2.1 c42 = 12 := by rw [eL60]; exact xt_k _ hc42 hk42
  have hc42 : c42 < (xt G L60).1 := by rw [eL60]; exact xt_l _ hc42
  have hk50 : (xt G L60).2.1 c50 = 13 := by rw [eL60]; exact xt_k _ hc50 hk50
  have hc50 : c50 < (xt G L60).1 := by rw [eL60]; exact xt_l _ hc50
  have hag := agr_t (xt_ge _ _) hag hn63
  have hc58 : c58 < (xt G L60).1 := by rw [ec58, eL60]; exact cnt_new _ _ _
  have hk58 : (xt G L60).2.1 c58 = 13 := by rw [ec58, eL60]; exact (kind_new _ _ _ _).1
  refine va_putF (D := D) (ci := 8) (v := va_re ad62 (some c58)) (ty := (.array .int)) (C := RX8) (T := TX8) (N := 15) hx hb hts (mus hf_X8) tyX8 tyX8_ok nmX8 hown hK hP hD hS a (wld_o ct ad62 (xt G L60) M61 hc hk (by decide)) rfl 12 (by decide) (hts (.fieldLink RX8 35 "VideoSuite$Units" "table" "[I") (mu mw_231)) (fun _ h9 => h9) rfl hin rfl (by decide +kernel) (nar_q ad62 (Or.inr ⟨_, rfl⟩) (some c58)).1 (nar_q ad62 (Or.inr ⟨_, rfl⟩) (some c58)).2 (Nat.le_of_ble_eq_true rfl) dX8_init_69 (fun H locs hP hD hS => ?_)
  obtain ⟨M64, eM64, hF⟩ := ltt_some hF
  rw [set_oP ct ad62 (xt G L60) M61 hc hk (by decide) (by rfl), ← eM64] at hP hD
  refine lv_aload_n hx hb dX8_init_72 rfl (lv_at hl 0 rfl) ?_
  refine lv_bipush (v := (6 : Int32)) hx hb dX8_init_73 (by decide) ?_
  obtain ⟨hC65, hF⟩ := chkP_some hF
  obtain ⟨hz9, hF⟩ := chk_some hF
  obtain ⟨c66, ec66, hF⟩ := ltt_some hF
  obtain ⟨w67, hF, ew67⟩ := app_some hF
  obtain ⟨L68, eL68, hF⟩ := ltt_some hF
  have hT68 : y.1 = (L60 ++ [(13, ((6 : Int32)).toNatClampNeg)]) ++ w67.1 := by rw [hT, ew67]; simp only [List.append_assoc]
  obtain ⟨M69, eM69, hF⟩ := ltt_some hF
  refine new_i hx hb (hts (.arrayClass .int) (mu mw_266)) hK hP hD hS hA9 hz9.1 hz9.2 hC65 (room_1s hT68 hbl) dX8_init_75 (fun ad70 H hn71 hP hD hS => ?_)
  rw [← ec66, ← eL68, ← eM69] at hP hD
  refine W_cs (k := L68.length) (n := wt L68) (by rw [eL68]) (by rw [eL68]) ?_
  refine W_st (st' := [.ref (ad70 c66), .ref (ad62 a)]) (by rw [ec66]) ?_
  have hT : y.1 = L68 ++ w67.1 := by rw [hT68, eL68]
  have h2 : y.2 = w67.2 := by rw [h2, ew67]
  have hl := lv_sub (l' := []) hl [] rfl
  refine W_st (st' := [.ref (ad70 c66), .ref (ad70 a)]) (by first | rfl | simp only [hn71 a hc]) ?_
  have hk : (xt G L68).2.1 a = 8 := by rw [eL68]; exact xt_k _ hc hk
  have hc : a < (xt G L68).1 := by rw [eL68]; exact xt_l _ hc
  have hk2 : (xt G L68).2.1 c2 = 12 := by rw [eL68]; exact xt_k _ hc2 hk2
  have hc2 : c2 < (xt G L68).1 := by rw [eL68]; exact xt_l _ hc2
  have hk10 : (xt G L68).2.1 c10 = 13 := by rw [eL68]; exact xt_k _ hc10 hk10
  have hc10 : c10 < (xt G L68).1 := by rw [eL68]; exact xt_l _ hc10
  have hk18 : (xt G L68).2.1 c18 = 13 := by rw [eL68]; exact xt_k _ hc18 hk18
  have hc18 : c18 < (xt G L68).1 := by rw [eL68]; exact xt_l _ hc18
  have hk26 : (xt G L68).2.1 c26 = 13 := by rw [eL68]; exact xt_k _ hc26 hk26
  have hc26 : c26 < (xt G L68).1 := by rw [eL68]; exact xt_l _ hc26
  have hk34 : (xt G L68).2.1 c34 = 13 := by rw [eL68]; exact xt_k _ hc34 hk34
  have hc34 : c34 < (xt G L68).1 := by rw [eL68]; exact xt_l _ hc34
  have hk42 : (xt G L68).2.1 c42 = 12 := by rw [eL68]; exact xt_k _ hc42 hk42
  have hc42 : c42 < (xt G L68).1 := by rw [eL68]; exact xt_l _ hc42
  have hk50 : (xt G L68).2.1 c50 = 13 := by rw [eL68]; exact xt_k _ hc50 hk50
  have hc50 : c50 < (xt G L68).1 := by rw [eL68]; exact xt_l _ hc50
  have hk58 : (xt G L68).2.1 c58 = 13 := by rw [eL68]; exact xt_k _ hc58 hk58
  have hc58 : c58 < (xt G L68).1 := by rw [eL68]; exact xt_l _ hc58
  have hag := agr_t (xt_ge _ _) hag hn71
  have hc66 : c66 < (xt G L68).1 := by rw [ec66, eL68]; exact cnt_new _ _ _
  have hk66 : (xt G L68).2.1 c66 = 13 := by rw [ec66, eL68]; exact (kind_new _ _ _ _).1
  refine va_putF (D := D) (ci := 8) (v := va_re ad70 (some c66)) (ty := (.array .int)) (C := RX8) (T := TX8) (N := 15) hx hb hts (mus hf_X8) tyX8 tyX8_ok nmX8 hown hK hP hD hS a (wld_o ct ad70 (xt G L68) M69 hc hk (by decide)) rfl 13 (by decide) (hts (.fieldLink RX8 38 "VideoSuite$Units" "nest" "[I") (mu mw_232)) (fun _ h9 => h9) rfl hin rfl (by decide +kernel) (nar_q ad70 (Or.inr ⟨_, rfl⟩) (some c66)).1 (nar_q ad70 (Or.inr ⟨_, rfl⟩) (some c66)).2 (Nat.le_of_ble_eq_true rfl) dX8_init_77 (fun H locs hP hD hS => ?_)
  obtain ⟨M72, eM72, hF⟩ := ltt_some hF
  rw [set_oP ct ad70 (xt G L68) M69 hc hk (by decide) (by rfl), ← eM72] at hP hD
  obtain rfl := Option.some.inj hF
  have e1 : y.1 = L68 := by rw [hT]; exact List.append_nil _
  have e2 : y.2 = M72 := h2
  refine W.widen (k := y.1.length) (n := wt y.1) (Nat.le_of_eq (by rw [e1])) (Nat.le_of_eq (by rw [e1])) ?_
  exact W.vret hx hb hr (fun t ht hW => ⟨⟨ad70, rfl, hag, (by unfold kE; rw [e1, e2]; exact ⟨by rw [ht]; exact hP, va_K.moved hW.alike hK, hD⟩)⟩, hS.F ht⟩) hS.2.2 dX8_init_80
