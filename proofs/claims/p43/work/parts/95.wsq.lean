/-! units of raw bits the coder writes: printed out of the functions' trees -/
theorem w_sequence {G : GG} {M : DD} {u fr : Nat} {st : Nat → Nat} {B : List Nat} {r w h : Nat} (b7 : r ≤ 4) (pw : 1 ≤ w) (b0 : w ≤ 8) (ph : 1 ≤ h) (b1 : h ≤ 8) (hw : WI G M 119 u 122 st) (hB : BF G M 119 fr B) (hn : u ≠ fr) (hK : GK G M) (hlen : B.length ≤ 300000) (g0 : (M.1 118 0).toInt = ((w : Nat) : Int)) (g1 : (M.1 118 1).toInt = ((h : Nat) : Int)) (g7 : (M.1 118 7).toInt = ((r : Nat) : Int)) (g18 : (M.1 118 18).toInt = 0) : OK (FX0_writeSequence G M 116) (fun y => UQ G M u fr st B 103 ((((((((((((((([] ++ toks 0 (77) 8) ++ toks 0 (0) 8) ++ toks 0 (40) 8) ++ ueT 0 (0)) ++ ueT 0 (4)) ++ ueT 0 (0)) ++ ueT 0 (4)) ++ ueT 0 (r)) ++ toks 0 (0) 1) ++ ueT 0 (w - 1)) ++ ueT 0 (h - 1)) ++ toks 0 (1) 1) ++ toks 0 (1) 1) ++ toks 0 (0) 1) ++ toks 0 (0) 1) (0 + 59 + 59 + 59 + 59 + 59 + 59 + 59 + 59 + 59 + 59 + 59 + 59 + 59 + 59 + 59) 0 (xt G y.1) y.2) := by
  unfold FX0_writeSequence
  refine ok_dr (b := 119) ((hK.2.2 116 2 (by decide)).trans rfl) (by have := hK.1; show 119 < G.1; omega) ((xt_kk [] (by have := hK.1; omega)).trans (gk_k hK (by decide) rfl)) ?_
  refine ok_bnd (wv_begin hw hB hn hK (c := 103) rfl) ?_
  intro y3 hy3
  refine ok_drW hy3.1 (by decide) rfl rfl (by decide) rfl ?_
  refine ok_bnd (wv_code (V := 77) (m := 8) hy3 rfl rfl rfl (by decide) (by decide)) ?_
  intro y5 hy5
  refine ok_app (ok_ltt (fun L7 eL7 => ?_))
  rw [← eL7] at hy5
  refine ok_drW hy5.1 (by decide) rfl rfl (by decide) rfl ?_
  refine ok_bnd (wv_code (V := 0) (m := 8) hy5 rfl rfl rfl (by decide) (by decide)) ?_
  intro y11 hy11
  refine ok_app (ok_ltt (fun L13 eL13 => ?_))
  rw [← eL13] at hy11
  refine ok_drW hy11.1 (by decide) rfl rfl (by decide) rfl ?_
  refine ok_bnd (wv_code (V := 40) (m := 8) hy11 rfl rfl rfl (by decide) (by decide)) ?_
  intro y17 hy17
  refine ok_app (ok_ltt (fun L19 eL19 => ?_))
  rw [← eL19] at hy17
  refine ok_drW hy17.1 (by decide) rfl rfl (by decide) rfl ?_
  refine ok_bnd (wv_ue (v := 0) hy17 rfl rfl (by omega) (by decide)) ?_
  intro y23 hy23
  refine ok_app (ok_ltt (fun L25 eL25 => ?_))
  rw [← eL25] at hy23
  refine ok_drW hy23.1 (by decide) rfl rfl (by decide) rfl ?_
  refine ok_bnd (wv_ue (v := 4) hy23 rfl rfl (by omega) (by decide)) ?_
  intro y29 hy29
  refine ok_app (ok_ltt (fun L31 eL31 => ?_))
  rw [← eL31] at hy29
  refine ok_drW hy29.1 (by decide) rfl rfl (by decide) rfl ?_
  refine ok_chk (by rw [wu_len hy29.1 (by decide) rfl]; decide) ?_
  refine ok_ltt (fun x35 ex35 => ?_)
  have vx35 : x35.toInt = 0 := by rw [ex35]; exact (congrArg Int32.toInt (wu_rd hy29.1 (by decide) rfl 18)).trans g18
  refine ok_drW hy29.1 (by decide) rfl rfl (by decide) rfl ?_
  refine ok_bnd (wv_ue (v := 0) hy29 rfl vx35 (by omega) (by decide)) ?_
  intro y37 hy37
  refine ok_app (ok_ltt (fun L39 eL39 => ?_))
  rw [← eL39] at hy37
  refine ok_drW hy37.1 (by decide) rfl rfl (by decide) rfl ?_
  refine ok_chk (by rw [wu_len hy37.1 (by decide) rfl]; decide) ?_
  refine ok_ltt (fun x43 ex43 => ?_)
  have vx43 : x43.toInt = 0 := by rw [ex43]; exact (congrArg Int32.toInt (wu_rd hy37.1 (by decide) rfl 18)).trans g18
  rw [if_pos (show x43 = (0 : Int32) from Int32.toInt_inj.1 vx43)]
  refine ok_bnd (Q := fun y => WV G M u fr st B 103 (((((((([] ++ toks 0 (77) 8) ++ toks 0 (0) 8) ++ toks 0 (40) 8) ++ ueT 0 (0)) ++ ueT 0 (4)) ++ ueT 0 (0)) ++ ueT 0 (4))) (0 + 59 + 59 + 59 + 59 + 59 + 59 + 59) (L39 ++ y.1) y.2) ?_ ?_
  · refine ok_drW hy37.1 (by decide) rfl rfl (by decide) rfl ?_
    refine ok_bnd (wv_ue (v := 4) hy37 rfl rfl (by omega) (by decide)) ?_
    intro y144 hy144
    refine ok_app (ok_ltt (fun L146 eL146 => ?_))
    rw [← eL146] at hy144
    refine ok_some ?_
    simp only [eL146, List.append_assoc, List.nil_append, List.append_nil] at hy144 ⊢
    exact hy144
  intro y44 hy44
  refine ok_app (ok_ltt (fun L46 eL46 => ?_))
  rw [← eL46] at hy44
  refine ok_drW hy44.1 (by decide) rfl rfl (by decide) rfl ?_
  refine ok_chk (by rw [wu_len hy44.1 (by decide) rfl]; decide) ?_
  refine ok_ltt (fun x49 ex49 => ?_)
  have vx49 : x49.toInt = ((r : Nat) : Int) := by rw [ex49]; exact (congrArg Int32.toInt (wu_rd hy44.1 (by decide) rfl 7)).trans g7
  refine ok_drW hy44.1 (by decide) rfl rfl (by decide) rfl ?_
  refine ok_bnd (wv_ue (v := r) hy44 rfl vx49 (by omega) (by decide)) ?_
  intro y51 hy51
  refine ok_app (ok_ltt (fun L53 eL53 => ?_))
  rw [← eL53] at hy51
  refine ok_bnd (wv_flag (V := 0) hy51 rfl (by decide)) ?_
  intro y56 hy56
  refine ok_app (ok_ltt (fun L58 eL58 => ?_))
  rw [← eL58] at hy56
  refine ok_drW hy56.1 (by decide) rfl rfl (by decide) rfl ?_
  refine ok_chk (by rw [wu_len hy56.1 (by decide) rfl]; decide) ?_
  refine ok_ltt (fun x62 ex62 => ?_)
  have vx62 : x62.toInt = ((w : Nat) : Int) := by rw [ex62]; exact (congrArg Int32.toInt (wu_rd hy56.1 (by decide) rfl 0)).trans g0
  refine ok_ltt (fun x63 ex63 => ?_)
  have vx63 : x63.toInt = ((w - 1 : Nat) : Int) := by rw [ex63]; exact sub1_of vx62 pw
  refine ok_drW hy56.1 (by decide) rfl rfl (by decide) rfl ?_
  refine ok_bnd (wv_ue (v := w - 1) hy56 rfl vx63 (by omega) (by decide)) ?_
  intro y65 hy65
  refine ok_app (ok_ltt (fun L67 eL67 => ?_))
  rw [← eL67] at hy65
  refine ok_drW hy65.1 (by decide) rfl rfl (by decide) rfl ?_
  refine ok_chk (by rw [wu_len hy65.1 (by decide) rfl]; decide) ?_
  refine ok_ltt (fun x71 ex71 => ?_)
  have vx71 : x71.toInt = ((h : Nat) : Int) := by rw [ex71]; exact (congrArg Int32.toInt (wu_rd hy65.1 (by decide) rfl 1)).trans g1
  refine ok_ltt (fun x72 ex72 => ?_)
  have vx72 : x72.toInt = ((h - 1 : Nat) : Int) := by rw [ex72]; exact sub1_of vx71 ph
  refine ok_drW hy65.1 (by decide) rfl rfl (by decide) rfl ?_
  refine ok_bnd (wv_ue (v := h - 1) hy65 rfl vx72 (by omega) (by decide)) ?_
  intro y74 hy74
  refine ok_app (ok_ltt (fun L76 eL76 => ?_))
  rw [← eL76] at hy74
  refine ok_bnd (wv_flag (V := 1) hy74 rfl (by decide)) ?_
  intro y79 hy79
  refine ok_app (ok_ltt (fun L81 eL81 => ?_))
  rw [← eL81] at hy79
  refine ok_bnd (wv_flag (V := 1) hy79 rfl (by decide)) ?_
  intro y84 hy84
  refine ok_app (ok_ltt (fun L86 eL86 => ?_))
  rw [← eL86] at hy84
  refine ok_bnd (wv_flag (V := 0) hy84 rfl (by decide)) ?_
  intro y89 hy89
  refine ok_app (ok_ltt (fun L91 eL91 => ?_))
  rw [← eL91] at hy89
  refine ok_bnd (wv_flag (V := 0) hy89 rfl (by decide)) ?_
  intro y94 hy94
  refine ok_app (ok_ltt (fun L96 eL96 => ?_))
  rw [← eL96] at hy94
  refine ok_drW hy94.1 (by decide) rfl rfl (by decide) rfl ?_
  refine ok_bnd (wv_end hy94 (by decide) hlen) ?_
  intro y100 hy100
  refine ok_app (ok_ltt (fun L102 eL102 => ?_))
  rw [← eL102] at hy100
  refine ok_some ?_
  simp only [eL7, eL13, eL19, eL25, eL31, eL39, eL46, eL53, eL58, eL67, eL76, eL81, eL86, eL91, eL96, eL102, List.append_assoc, List.nil_append, List.append_nil] at hy100 ⊢
  exact hy100
theorem w_parameters {G : GG} {M : DD} {u fr : Nat} {st : Nat → Nat} {B : List Nat} {c r k q l : Nat} {z o : Int} (pr : 1 ≤ r) (b7 : r ≤ 4) (bz : -100 ≤ z ∧ z ≤ 100) (bo : -100 ≤ o ∧ o ≤ 100) (hw : WI G M 119 u 122 st) (hB : BF G M 119 fr B) (hn : u ≠ fr) (hK : GK G M) (hlen : B.length ≤ 300000) (g2 : (M.1 118 2).toInt = ((c : Nat) : Int)) (g3 : (M.1 118 3).toInt = z) (g7 : (M.1 118 7).toInt = ((r : Nat) : Int)) (g19 : (M.1 118 19).toInt = ((l : Nat) : Int)) (g20 : (M.1 118 20).toInt = ((k : Nat) : Int)) (g21 : (M.1 118 21).toInt = ((q : Nat) : Int)) (g23 : (M.1 118 23).toInt = o) : OK (FX0_writeParameters G M 116) (fun y => UQ G M u fr st B 104 ((((((((((((((([] ++ ueT 0 (0)) ++ ueT 0 (0)) ++ toks 0 (c) 1) ++ toks 0 (0) 1) ++ ueT 0 (0)) ++ ueT 0 (r - 1)) ++ ueT 0 (0)) ++ toks 0 (k) 1) ++ toks 0 (q) 2) ++ ueT 0 (sei ((z - 26)))) ++ ueT 0 (sei (0))) ++ ueT 0 (sei (o))) ++ toks 0 (1) 1) ++ toks 0 (l) 1) ++ toks 0 (0) 1) (0 + 59 + 59 + 59 + 59 + 59 + 59 + 59 + 59 + 59 + 59 + 59 + 59 + 59 + 59 + 59) 0 (xt G y.1) y.2) := by
  unfold FX0_writeParameters
  refine ok_dr (b := 119) ((hK.2.2 116 2 (by decide)).trans rfl) (by have := hK.1; show 119 < G.1; omega) ((xt_kk [] (by have := hK.1; omega)).trans (gk_k hK (by decide) rfl)) ?_
  refine ok_bnd (wv_begin hw hB hn hK (c := 104) rfl) ?_
  intro y3 hy3
  refine ok_drW hy3.1 (by decide) rfl rfl (by decide) rfl ?_
  refine ok_bnd (wv_ue (v := 0) hy3 rfl rfl (by omega) (by decide)) ?_
  intro y5 hy5
  refine ok_app (ok_ltt (fun L7 eL7 => ?_))
  rw [← eL7] at hy5
  refine ok_drW hy5.1 (by decide) rfl rfl (by decide) rfl ?_
  refine ok_bnd (wv_ue (v := 0) hy5 rfl rfl (by omega) (by decide)) ?_
  intro y11 hy11
  refine ok_app (ok_ltt (fun L13 eL13 => ?_))
  rw [← eL13] at hy11
  refine ok_drW hy11.1 (by decide) rfl rfl (by decide) rfl ?_
  refine ok_chk (by rw [wu_len hy11.1 (by decide) rfl]; decide) ?_
  refine ok_ltt (fun x17 ex17 => ?_)
  have vx17 : x17.toInt = ((c : Nat) : Int) := by rw [ex17]; exact (congrArg Int32.toInt (wu_rd hy11.1 (by decide) rfl 2)).trans g2
  refine ok_bnd (wv_flag (V := c) hy11 vx17 (by decide)) ?_
  intro y18 hy18
  refine ok_app (ok_ltt (fun L20 eL20 => ?_))
  rw [← eL20] at hy18
  refine ok_bnd (wv_flag (V := 0) hy18 rfl (by decide)) ?_
  intro y23 hy23
  refine ok_app (ok_ltt (fun L25 eL25 => ?_))
  rw [← eL25] at hy23
  refine ok_drW hy23.1 (by decide) rfl rfl (by decide) rfl ?_
  refine ok_bnd (wv_ue (v := 0) hy23 rfl rfl (by omega) (by decide)) ?_
  intro y29 hy29
  refine ok_app (ok_ltt (fun L31 eL31 => ?_))
  rw [← eL31] at hy29
  refine ok_drW hy29.1 (by decide) rfl rfl (by decide) rfl ?_
  refine ok_chk (by rw [wu_len hy29.1 (by decide) rfl]; decide) ?_
  refine ok_ltt (fun x35 ex35 => ?_)
  have vx35 : x35.toInt = ((r : Nat) : Int) := by rw [ex35]; exact (congrArg Int32.toInt (wu_rd hy29.1 (by decide) rfl 7)).trans g7
  refine ok_ltt (fun x36 ex36 => ?_)
  have vx36 : x36.toInt = ((r - 1 : Nat) : Int) := by rw [ex36]; exact sub1_of vx35 pr
  refine ok_drW hy29.1 (by decide) rfl rfl (by decide) rfl ?_
  refine ok_bnd (wv_ue (v := r - 1) hy29 rfl vx36 (by omega) (by decide)) ?_
  intro y38 hy38
  refine ok_app (ok_ltt (fun L40 eL40 => ?_))
  rw [← eL40] at hy38
  refine ok_drW hy38.1 (by decide) rfl rfl (by decide) rfl ?_
  refine ok_bnd (wv_ue (v := 0) hy38 rfl rfl (by omega) (by decide)) ?_
  intro y44 hy44
  refine ok_app (ok_ltt (fun L46 eL46 => ?_))
  rw [← eL46] at hy44
  refine ok_drW hy44.1 (by decide) rfl rfl (by decide) rfl ?_
  refine ok_chk (by rw [wu_len hy44.1 (by decide) rfl]; decide) ?_
  refine ok_ltt (fun x50 ex50 => ?_)
  have vx50 : x50.toInt = ((k : Nat) : Int) := by rw [ex50]; exact (congrArg Int32.toInt (wu_rd hy44.1 (by decide) rfl 20)).trans g20
  refine ok_bnd (wv_flag (V := k) hy44 vx50 (by decide)) ?_
  intro y51 hy51
  refine ok_app (ok_ltt (fun L53 eL53 => ?_))
  rw [← eL53] at hy51
  refine ok_drW hy51.1 (by decide) rfl rfl (by decide) rfl ?_
  refine ok_chk (by rw [wu_len hy51.1 (by decide) rfl]; decide) ?_
  refine ok_ltt (fun x57 ex57 => ?_)
  have vx57 : x57.toInt = ((q : Nat) : Int) := by rw [ex57]; exact (congrArg Int32.toInt (wu_rd hy51.1 (by decide) rfl 21)).trans g21
  refine ok_ltt (fun x58 ex58 => ?_)
  have vx58 : x58.toInt = ((q : Nat) : Int) := by rw [ex58, Int32.toInt_toInt64]; exact vx57
  refine ok_drW hy51.1 (by decide) rfl rfl (by decide) rfl ?_
  refine ok_bnd (wv_code (V := q) (m := 2) hy51 rfl vx58 rfl (by decide) (by decide)) ?_
  intro y60 hy60
  refine ok_app (ok_ltt (fun L62 eL62 => ?_))
  rw [← eL62] at hy60
  refine ok_drW hy60.1 (by decide) rfl rfl (by decide) rfl ?_
  refine ok_chk (by rw [wu_len hy60.1 (by decide) rfl]; decide) ?_
  refine ok_ltt (fun x66 ex66 => ?_)
  have vx66 : x66.toInt = z := by rw [ex66]; exact (congrArg Int32.toInt (wu_rd hy60.1 (by decide) rfl 3)).trans g3
  refine ok_ltt (fun x67 ex67 => ?_)
  have vx67 : x67.toInt = z - 26 := by rw [ex67, ti_sub (by rw [vx66]; show _ ≤ z - 26; omega) (by rw [vx66]; show z - 26 ≤ _; omega), vx66]; rfl
  refine ok_drW hy60.1 (by decide) rfl rfl (by decide) rfl ?_
  refine ok_bnd (wv_se (v := (z - 26)) hy60 rfl vx67 (by omega) (by omega) (by decide)) ?_
  intro y69 hy69
  refine ok_app (ok_ltt (fun L71 eL71 => ?_))
  rw [← eL71] at hy69
  refine ok_drW hy69.1 (by decide) rfl rfl (by decide) rfl ?_
  refine ok_bnd (wv_se (v := 0) hy69 rfl rfl (by omega) (by omega) (by decide)) ?_
  intro y75 hy75
  refine ok_app (ok_ltt (fun L77 eL77 => ?_))
  rw [← eL77] at hy75
  refine ok_drW hy75.1 (by decide) rfl rfl (by decide) rfl ?_
  refine ok_chk (by rw [wu_len hy75.1 (by decide) rfl]; decide) ?_
  refine ok_ltt (fun x81 ex81 => ?_)
  have vx81 : x81.toInt = o := by rw [ex81]; exact (congrArg Int32.toInt (wu_rd hy75.1 (by decide) rfl 23)).trans g23
  refine ok_drW hy75.1 (by decide) rfl rfl (by decide) rfl ?_
  refine ok_bnd (wv_se (v := o) hy75 rfl vx81 (by omega) (by omega) (by decide)) ?_
  intro y83 hy83
  refine ok_app (ok_ltt (fun L85 eL85 => ?_))
  rw [← eL85] at hy83
  refine ok_bnd (wv_flag (V := 1) hy83 rfl (by decide)) ?_
  intro y88 hy88
  refine ok_app (ok_ltt (fun L90 eL90 => ?_))
  rw [← eL90] at hy88
  refine ok_drW hy88.1 (by decide) rfl rfl (by decide) rfl ?_
  refine ok_chk (by rw [wu_len hy88.1 (by decide) rfl]; decide) ?_
  refine ok_ltt (fun x94 ex94 => ?_)
  have vx94 : x94.toInt = ((l : Nat) : Int) := by rw [ex94]; exact (congrArg Int32.toInt (wu_rd hy88.1 (by decide) rfl 19)).trans g19
  refine ok_bnd (wv_flag (V := l) hy88 vx94 (by decide)) ?_
  intro y95 hy95
  refine ok_app (ok_ltt (fun L97 eL97 => ?_))
  rw [← eL97] at hy95
  refine ok_bnd (wv_flag (V := 0) hy95 rfl (by decide)) ?_
  intro y100 hy100
  refine ok_app (ok_ltt (fun L102 eL102 => ?_))
  rw [← eL102] at hy100
  refine ok_drW hy100.1 (by decide) rfl rfl (by decide) rfl ?_
  refine ok_bnd (wv_end hy100 (by decide) hlen) ?_
  intro y106 hy106
  refine ok_app (ok_ltt (fun L108 eL108 => ?_))
  rw [← eL108] at hy106
  refine ok_some ?_
  simp only [eL7, eL13, eL20, eL25, eL31, eL40, eL46, eL53, eL62, eL71, eL77, eL85, eL90, eL97, eL102, eL108, List.append_assoc, List.nil_append, List.append_nil] at hy106 ⊢
  exact hy106
