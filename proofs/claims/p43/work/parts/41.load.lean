/-! Reader: a unit is taken up -/
set_option maxHeartbeats 4000000 in
theorem load_ok {G : GG} {M : DD} {r b d t L P : Nat} {f : Nat → Nat} {A : AS} (hr : r < G.1) (hrk : G.2.1 r = 5) (hb : b < G.1) (hbk : G.2.1 b = 8) (h8 : M.2 b 8 = some d) (hd : d < G.1) (hdk : G.2.1 d = 12) (h9 : (M.1 b 9).toInt = L) (hL : L ≤ G.2.2 d) (hLm : 8 * (L - 1) ≤ 600000) (hP : P < 8 * (L - 1)) (hby : ∀ k, -128 ≤ (M.1 d k).toInt ∧ (M.1 d k).toInt ≤ 127) (hfl : ∀ i, f i ≤ 1) (hf : ∀ i, i < 8 * (L - 1) → (M.1 d (1 + i / 8)).toInt / ((2 ^ (7 - i % 8) : Nat) : Int) % 2 = f i) (hf1 : f P = 1) (hf0 : ∀ i, P < i → i < 8 * (L - 1) → f i = 0) (ht : M.2 r 10 = some t ∧ t < G.1 ∧ G.2.1 t = 13 ∧ G.2.2 t = 272 ∧ (∀ i, i < 272 → (M.1 t i).toInt = A.2.2.2 i)) (hA : ∀ i, A.2.2.2 i < 126) :
    OK (FX5_load G M r (some b)) (fun y => RD G y r d t f (8 * (L - 1)) (0, 0, A) ∧ (y.1 r 3).toInt = P ∧ y.1 r 4 = 0 ∧ y.1 r 5 = 0 ∧ y.1 r 7 = 0 ∧ y.1 r 12 = 0 ∧ (∀ x k, ¬ (x = r ∧ k = 0) → y.2 x k = M.2 x k) ∧ y.2 r 0 = some d ∧ (∀ x k, ¬ (x = r ∧ k ≤ 7) → ¬ (x = r ∧ k = 12) → y.1 x k = M.1 x k)) := by
  have e0 : (0 : Int32).toInt = 0 := rfl
  have e1 : (1 : Int32).toInt = 1 := rfl
  have e8 : (8 : Int32).toInt = 8 := rfl
  obtain ⟨t1, t2, t3, t4, t5⟩ := ht
  have hbr : ¬ b = r := fun e => by rw [e] at hbk; omega
  have hdr : ¬ d = r := fun e => by rw [e] at hdk; omega
  have htr : ¬ t = r := fun e => by rw [e] at t3; omega
  unfold FX5_load
  refine ok_dr (b := b) rfl hb hbk (ok_lt (ok_lt (ok_lt (ok_lt (ok_lt ?_)))))
  rw [h8]
  have hx4 : ((uP M r 0 (some d)).1 b 9).toInt = L := h9
  have hx6 : ((8 : Int32) * ((uP M r 0 (some d)).1 b 9 - (1 : Int32))).toInt = ((8 * (L - 1) : Nat) : Int) := by
    have h5 : ((uP M r 0 (some d)).1 b 9 - (1 : Int32)).toInt = L - 1 := by rw [ti_sub (by omega) (by omega), hx4, e1]
    rw [pz_mulc e8 (by omega) (by omega), h5]
    omega
  generalize (8 : Int32) * ((uP M r 0 (some d)).1 b 9 - (1 : Int32)) = x6 at hx6
  generalize hM7 : uI (uP M r 0 (some d)) r 1 x6 = M7
  have h71 : ∀ x k, ¬ (x = r ∧ k = 1) → M7.1 x k = M.1 x k := fun x k h => by rw [← hM7, uI_n _ _ h]; rfl
  have h72 : ∀ x k, ¬ (x = r ∧ k = 0) → M7.2 x k = M.2 x k := fun x k h => by rw [← hM7, uI_p, uP_n _ _ h]
  have h73 : M7.2 r 0 = some d := by rw [← hM7, uI_p, uP_s]
  have h74 : (M7.1 r 1).toInt = ((8 * (L - 1) : Nat) : Int) := by rw [← hM7, uI_s]; exact hx6
  have hd7 : ∀ k, M7.1 d k = M.1 d k := fun k => h71 d k (fun q => hdr q.1)
  refine ok_bnd (stop_ok (P := P) (f := f) (by rw [h72 b 8 (fun q => hbr q.1)]; exact h8) hd hdk (by rw [h71 b 9 (fun q => hbr q.1)]; exact h9) hL (by omega) hP (fun k => by rw [hd7]; exact hby k) (fun i hi => by rw [hd7]; exact hf i hi) hf1 hf0) (fun y8 hy8 => ok_lt (ok_lt (ok_lt (ok_lt (ok_chk (Or.inl rfl) (ok_lt (ok_chk (Or.inl rfl) (ok_lt (ok_lt (ok_some ?_))))))))))
  obtain ⟨N, p⟩ := y8
  obtain ⟨q1, q2⟩ := hy8
  dsimp only at q1 q2 ⊢
  subst q1
  have hk : ∀ x k, ¬ (x = r ∧ (k = 2 ∨ k = 3 ∨ k = 4 ∨ k = 5 ∨ k = 6 ∨ k = 7 ∨ k = 12)) → (uI (uI (uI (uI (uI (uI (uI N r 3 p) r 2 0) r 4 0) r 5 0) r 6 0) r 7 0) r 12 0).1 x k = N.1 x k := fun x k h => by
    rw [uI_n _ _ (fun q => h ⟨q.1, by simp [q.2]⟩), uI_n _ _ (fun q => h ⟨q.1, by simp [q.2]⟩), uI_n _ _ (fun q => h ⟨q.1, by simp [q.2]⟩), uI_n _ _ (fun q => h ⟨q.1, by simp [q.2]⟩), uI_n _ _ (fun q => h ⟨q.1, by simp [q.2]⟩), uI_n _ _ (fun q => h ⟨q.1, by simp [q.2]⟩), uI_n _ _ (fun q => h ⟨q.1, by simp [q.2]⟩)]
  have hp : ∀ x k, (uI (uI (uI (uI (uI (uI (uI N r 3 p) r 2 0) r 4 0) r 5 0) r 6 0) r 7 0) r 12 0).2 x k = N.2 x k := fun _ _ => rfl
  have k2 : (uI (uI (uI (uI (uI (uI (uI N r 3 p) r 2 0) r 4 0) r 5 0) r 6 0) r 7 0) r 12 0).1 r 2 = 0 := by simp [uI]
  have k3 : (uI (uI (uI (uI (uI (uI (uI N r 3 p) r 2 0) r 4 0) r 5 0) r 6 0) r 7 0) r 12 0).1 r 3 = p := by simp [uI]
  have k4 : (uI (uI (uI (uI (uI (uI (uI N r 3 p) r 2 0) r 4 0) r 5 0) r 6 0) r 7 0) r 12 0).1 r 4 = 0 := by simp [uI]
  have k5 : (uI (uI (uI (uI (uI (uI (uI N r 3 p) r 2 0) r 4 0) r 5 0) r 6 0) r 7 0) r 12 0).1 r 5 = 0 := by simp [uI]
  have k6 : (uI (uI (uI (uI (uI (uI (uI N r 3 p) r 2 0) r 4 0) r 5 0) r 6 0) r 7 0) r 12 0).1 r 6 = 0 := by simp [uI]
  have k7 : (uI (uI (uI (uI (uI (uI (uI N r 3 p) r 2 0) r 4 0) r 5 0) r 6 0) r 7 0) r 12 0).1 r 7 = 0 := by simp [uI]
  have k12 : (uI (uI (uI (uI (uI (uI (uI N r 3 p) r 2 0) r 4 0) r 5 0) r 6 0) r 7 0) r 12 0).1 r 12 = 0 := by simp [uI]
  generalize uI (uI (uI (uI (uI (uI (uI N r 3 p) r 2 0) r 4 0) r 5 0) r 6 0) r 7 0) r 12 0 = O at hk hp k2 k3 k4 k5 k6 k7 k12
  refine ⟨⟨⟨hr, hrk, by rw [hp]; exact h73, hd, hdk, by omega, by omega, hLm⟩, hfl, by rw [hk r 1 (by simp)]; exact h74, fun i hi => ?_, ⟨?_, t2, t3, t4, fun i hi => ?_⟩, hA, by rw [k2]; rfl, Or.inl ⟨rfl, by rw [k6]; exact e0⟩⟩, by rw [k3]; exact q2, k4, k5, k7, k12, fun x k h => by rw [hp]; exact h72 x k h, by rw [hp]; exact h73, fun x k h1 h2 => ?_⟩
  · rw [hk d _ (fun q => hdr q.1), hd7]
    exact hf i hi
  · rw [hp, h72 r 10 (by simp)]
    exact t1
  · rw [hk t i (fun q => htr q.1), h71 t i (fun q => htr q.1)]
    exact t5 i hi
  · rw [hk x k (fun q => by
      by_cases w : k = 12
      · exact h2 ⟨q.1, w⟩
      · exact h1 ⟨q.1, by omega⟩), h71 x k (fun q => h1 ⟨q.1, by omega⟩)]
