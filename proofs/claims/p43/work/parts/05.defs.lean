noncomputable def G0 : GG := (0, fun _ => 0, fun _ => 0)
def M00 : DD := (fun _ _ => 0, fun _ _ => none)
noncomputable def FJ7_copyOf_9075b (G : GG) (M : DD) (p0 : Option Nat) (p1 : Int32) : Option (NN × DD × Option Nat) :=
  dr (xt G []) 12 p0 fun b1 =>
  ltt (Int32.ofNat ((xt G []).2.2 b1)) fun x2 =>
  bnd (if p1 = x2 then (none) else
  (some (M))) fun (y3 : DD) =>
  chkP (Clo (xt G []) y3) <|
  chk (¬ p1 < 0 ∧ p1.toNatClampNeg * 4 ≤ 536870912) <|
  chk (okd (xt G []) p0 = true) <|
  ltt ((xt G []).1) fun c6 =>
  app [(12, p1.toNatClampNeg)] <|
  ltt ([] ++ [(12, p1.toNatClampNeg)]) fun L8 =>
  ltt (rO y3 c6) fun M9 =>
  ltt (Int32.ofNat ((xt G L8).2.2 b1)) fun x12 =>
  ltt (if p1 < x12 then p1 else x12) fun x13 =>
  chk (¬ ((0 : Int32)) < 0 ∧ ¬ ((0 : Int32)) < 0 ∧ ¬ x13 < 0 ∧ ((0 : Int32)).toNatClampNeg + x13.toNatClampNeg ≤ (xt G L8).2.2 b1 ∧ ((0 : Int32)).toNatClampNeg + x13.toNatClampNeg ≤ (xt G L8).2.2 c6) <|
  chk (∀ i, i < x13.toNatClampNeg → fits .byte (.int (M9.1 b1 (((0 : Int32)).toNatClampNeg + i))) = true) <|
  ltt (rI M9 c6 (va_cpy (M9.1 b1) (M9.1 c6) ((0 : Int32)).toNatClampNeg ((0 : Int32)).toNatClampNeg x13.toNatClampNeg)) fun M14 =>
  some ([], (M14, some c6))
set_option maxHeartbeats 4000000 in
set_option maxRecDepth 100000 in
def FJ7_fill_53178 (G : GG) (M : DD) (p0 : Option Nat) (p1 : Int32) : Option (DD) :=
  dr G 13 p0 fun b1 =>
  ltt (Int32.ofNat (G.2.2 b1)) fun x2 =>
  bnd (itr (fun (s4 : Int32 × DD) => ((if x2 ≤ s4.1 then (some (.inr (s4.1, s4.2))) else
  (chk (¬ (s4.1 < 0 ∨ G.2.2 b1 ≤ s4.1.toNatClampNeg)) <|
  ltt (uI s4.2 b1 s4.1.toNatClampNeg p1) fun M8 =>
  ltt (s4.1 + (1 : Int32)) fun x9 =>
  some (.inl (x9, M8)))) : Option ((Int32 × DD) ⊕ (Int32 × DD)))) 1000000 ((0 : Int32), M)) fun (y3 : Int32 × DD) =>
  some y3.2
set_option maxHeartbeats 4000000 in
set_option maxRecDepth 100000 in
def FJ7_rangeCheck_23922 (G : GG) (M : DD) (p0 : Int32) (p1 : Int32) (p2 : Int32) : Option (DD) :=
  bnd (if p1 ≤ p2 then (some ()) else
  (none)) fun (y1 : Unit) =>
  bnd (if ((0 : Int32)) ≤ p1 then (some ()) else
  (none)) fun (y2 : Unit) =>
  bnd (if p2 ≤ p0 then (some ()) else
  (none)) fun (y3 : Unit) =>
  some M
set_option maxHeartbeats 4000000 in
set_option maxRecDepth 100000 in
def FX0_clash (G : GG) (M : DD) (a : Nat)  : Option (DD × Int32) :=
  dr G 13 ((M.2 a 0)) fun b1 =>
  chk (¬ (((0 : Int32)) < 0 ∨ G.2.2 b1 ≤ ((0 : Int32)).toNatClampNeg)) <|
  ltt (M.1 b1 ((0 : Int32)).toNatClampNeg) fun x2 =>
  chk (¬ (((1 : Int32)) < 0 ∨ G.2.2 b1 ≤ ((1 : Int32)).toNatClampNeg)) <|
  ltt (M.1 b1 ((1 : Int32)).toNatClampNeg) fun x3 =>
  ltt ((x2 * x3)) fun x4 =>
  if x4 ≤ ((32 : Int32)) then (chk (¬ (((6 : Int32)) < 0 ∨ G.2.2 b1 ≤ ((6 : Int32)).toNatClampNeg)) <|
  ltt (M.1 b1 ((6 : Int32)).toNatClampNeg) fun x6 =>
  if x6 ≤ ((0 : Int32)) then (chk (¬ (((21 : Int32)) < 0 ∨ G.2.2 b1 ≤ ((21 : Int32)).toNatClampNeg)) <|
  ltt (M.1 b1 ((21 : Int32)).toNatClampNeg) fun x8 =>
  bnd (if x8 = ((1 : Int32)) then (some ((21 : Int32))) else
  (some ((-1 : Int32)))) fun (y9 : Int32) =>
  some (M, y9)) else
  (chk (¬ (((7 : Int32)) < 0 ∨ G.2.2 b1 ≤ ((7 : Int32)).toNatClampNeg)) <|
  ltt (M.1 b1 ((7 : Int32)).toNatClampNeg) fun x11 =>
  if x11 < ((2 : Int32)) then (some (M, (6 : Int32))) else
  (chk (¬ (((18 : Int32)) < 0 ∨ G.2.2 b1 ≤ ((18 : Int32)).toNatClampNeg)) <|
  ltt (M.1 b1 ((18 : Int32)).toNatClampNeg) fun x13 =>
  if x13 = ((0 : Int32)) then (chk (¬ (((21 : Int32)) < 0 ∨ G.2.2 b1 ≤ ((21 : Int32)).toNatClampNeg)) <|
  ltt (M.1 b1 ((21 : Int32)).toNatClampNeg) fun x15 =>
  bnd (if x15 = ((1 : Int32)) then (some ((21 : Int32))) else
  (some ((-1 : Int32)))) fun (y16 : Int32) =>
  some (M, y16)) else
  (some (M, (6 : Int32)))))) else
  (some (M, (1 : Int32)))
set_option maxHeartbeats 4000000 in
set_option maxRecDepth 100000 in
def FX0_draw (G : GG) (M : DD) (a : Nat) (p0 : Int32) : Option (DD × Int32) :=
  ltt (M.1 a 14) fun x1 =>
  ltt ((((1664525 : Int32)) * x1)) fun x2 =>
  ltt ((x2 + ((1013904223 : Int32)))) fun x3 =>
  ltt (uI M a 14 x3) fun M4 =>
  bnd (if ((1 : Int32)) ≤ p0 then (ltt (M4.1 a 14) fun x7 =>
  ltt ((x7.toUInt32 >>> (((8 : Int32)).toUInt32 &&& Int32.toUInt32 31)).toInt32) fun x8 =>
  chk (¬ p0 = 0) <|
  ltt (x8 - x8 / p0 * p0) fun x9 =>
  some (x9)) else
  (some ((0 : Int32)))) fun (y5 : Int32) =>
  some (M4, y5)
set_option maxHeartbeats 4000000 in
set_option maxRecDepth 100000 in
def FX0_fillSets (G : GG) (M : DD) (a : Nat)  : Option (DD) :=
  bnd (FJ7_fill_53178 G M ((M.2 a 7)) ((0 : Int32))) fun y1 =>
  dr G 13 ((y1.2 a 1)) fun b2 =>
  chk (¬ (((0 : Int32)) < 0 ∨ G.2.2 b2 ≤ ((0 : Int32)).toNatClampNeg)) <|
  ltt (y1.1 b2 ((0 : Int32)).toNatClampNeg) fun x3 =>
  dr G 13 ((y1.2 a 7)) fun b4 =>
  chk (¬ (((0 : Int32)) < 0 ∨ G.2.2 b4 ≤ ((0 : Int32)).toNatClampNeg)) <|
  ltt (uI y1 b4 ((0 : Int32)).toNatClampNeg x3) fun M5 =>
  dr G 13 ((M5.2 a 1)) fun b6 =>
  chk (¬ (((1 : Int32)) < 0 ∨ G.2.2 b6 ≤ ((1 : Int32)).toNatClampNeg)) <|
  ltt (M5.1 b6 ((1 : Int32)).toNatClampNeg) fun x7 =>
  dr G 13 ((M5.2 a 7)) fun b8 =>
  chk (¬ (((1 : Int32)) < 0 ∨ G.2.2 b8 ≤ ((1 : Int32)).toNatClampNeg)) <|
  ltt (uI M5 b8 ((1 : Int32)).toNatClampNeg x7) fun M9 =>
  dr G 13 ((M9.2 a 7)) fun b10 =>
  chk (¬ (((2 : Int32)) < 0 ∨ G.2.2 b10 ≤ ((2 : Int32)).toNatClampNeg)) <|
  ltt (uI M9 b10 ((2 : Int32)).toNatClampNeg ((8 : Int32))) fun M11 =>
  dr G 13 ((M11.2 a 1)) fun b12 =>
  chk (¬ (((18 : Int32)) < 0 ∨ G.2.2 b12 ≤ ((18 : Int32)).toNatClampNeg)) <|
  ltt (M11.1 b12 ((18 : Int32)).toNatClampNeg) fun x13 =>
  dr G 13 ((M11.2 a 7)) fun b14 =>
  chk (¬ (((3 : Int32)) < 0 ∨ G.2.2 b14 ≤ ((3 : Int32)).toNatClampNeg)) <|
  ltt (uI M11 b14 ((3 : Int32)).toNatClampNeg x13) fun M15 =>
  dr G 13 ((M15.2 a 7)) fun b16 =>
  chk (¬ (((4 : Int32)) < 0 ∨ G.2.2 b16 ≤ ((4 : Int32)).toNatClampNeg)) <|
  ltt (uI M15 b16 ((4 : Int32)).toNatClampNeg ((8 : Int32))) fun M17 =>
  dr G 13 ((M17.2 a 1)) fun b18 =>
  chk (¬ (((7 : Int32)) < 0 ∨ G.2.2 b18 ≤ ((7 : Int32)).toNatClampNeg)) <|
  ltt (M17.1 b18 ((7 : Int32)).toNatClampNeg) fun x19 =>
  dr G 13 ((M17.2 a 7)) fun b20 =>
  chk (¬ (((5 : Int32)) < 0 ∨ G.2.2 b20 ≤ ((5 : Int32)).toNatClampNeg)) <|
  ltt (uI M17 b20 ((5 : Int32)).toNatClampNeg x19) fun M21 =>
  dr G 9 ((M21.2 a 3)) fun b22 =>
  bnd (FJ7_fill_53178 G M21 ((M21.2 b22 2)) ((0 : Int32))) fun y23 =>
  dr G 9 ((y23.2 a 3)) fun b24 =>
  dr G 13 ((y23.2 a 1)) fun b25 =>
  chk (¬ (((2 : Int32)) < 0 ∨ G.2.2 b25 ≤ ((2 : Int32)).toNatClampNeg)) <|
  ltt (y23.1 b25 ((2 : Int32)).toNatClampNeg) fun x26 =>
  dr G 13 ((y23.2 b24 2)) fun b27 =>
  chk (¬ (((1 : Int32)) < 0 ∨ G.2.2 b27 ≤ ((1 : Int32)).toNatClampNeg)) <|
  ltt (uI y23 b27 ((1 : Int32)).toNatClampNeg x26) fun M28 =>
  dr G 9 ((M28.2 a 3)) fun b29 =>
  dr G 13 ((M28.2 a 1)) fun b30 =>
  chk (¬ (((7 : Int32)) < 0 ∨ G.2.2 b30 ≤ ((7 : Int32)).toNatClampNeg)) <|
  ltt (M28.1 b30 ((7 : Int32)).toNatClampNeg) fun x31 =>
  dr G 13 ((M28.2 b29 2)) fun b32 =>
  chk (¬ (((3 : Int32)) < 0 ∨ G.2.2 b32 ≤ ((3 : Int32)).toNatClampNeg)) <|
  ltt (uI M28 b32 ((3 : Int32)).toNatClampNeg x31) fun M33 =>
  dr G 9 ((M33.2 a 3)) fun b34 =>
  dr G 13 ((M33.2 b34 2)) fun b35 =>
  chk (¬ (((4 : Int32)) < 0 ∨ G.2.2 b35 ≤ ((4 : Int32)).toNatClampNeg)) <|
  ltt (uI M33 b35 ((4 : Int32)).toNatClampNeg ((1 : Int32))) fun M36 =>
  dr G 9 ((M36.2 a 3)) fun b37 =>
  dr G 13 ((M36.2 a 1)) fun b38 =>
  chk (¬ (((20 : Int32)) < 0 ∨ G.2.2 b38 ≤ ((20 : Int32)).toNatClampNeg)) <|
  ltt (M36.1 b38 ((20 : Int32)).toNatClampNeg) fun x39 =>
  dr G 13 ((M36.2 b37 2)) fun b40 =>
  chk (¬ (((5 : Int32)) < 0 ∨ G.2.2 b40 ≤ ((5 : Int32)).toNatClampNeg)) <|
  ltt (uI M36 b40 ((5 : Int32)).toNatClampNeg x39) fun M41 =>
  dr G 9 ((M41.2 a 3)) fun b42 =>
  dr G 13 ((M41.2 a 1)) fun b43 =>
  chk (¬ (((21 : Int32)) < 0 ∨ G.2.2 b43 ≤ ((21 : Int32)).toNatClampNeg)) <|
  ltt (M41.1 b43 ((21 : Int32)).toNatClampNeg) fun x44 =>
  dr G 13 ((M41.2 b42 2)) fun b45 =>
  chk (¬ (((6 : Int32)) < 0 ∨ G.2.2 b45 ≤ ((6 : Int32)).toNatClampNeg)) <|
  ltt (uI M41 b45 ((6 : Int32)).toNatClampNeg x44) fun M46 =>
  dr G 9 ((M46.2 a 3)) fun b47 =>
  dr G 13 ((M46.2 a 1)) fun b48 =>
  chk (¬ (((3 : Int32)) < 0 ∨ G.2.2 b48 ≤ ((3 : Int32)).toNatClampNeg)) <|
  ltt (M46.1 b48 ((3 : Int32)).toNatClampNeg) fun x49 =>
  ltt ((x49 - ((26 : Int32)))) fun x50 =>
  dr G 13 ((M46.2 b47 2)) fun b51 =>
  chk (¬ (((7 : Int32)) < 0 ∨ G.2.2 b51 ≤ ((7 : Int32)).toNatClampNeg)) <|
  ltt (uI M46 b51 ((7 : Int32)).toNatClampNeg x50) fun M52 =>
  dr G 9 ((M52.2 a 3)) fun b53 =>
  dr G 13 ((M52.2 a 1)) fun b54 =>
  chk (¬ (((23 : Int32)) < 0 ∨ G.2.2 b54 ≤ ((23 : Int32)).toNatClampNeg)) <|
  ltt (M52.1 b54 ((23 : Int32)).toNatClampNeg) fun x55 =>
  dr G 13 ((M52.2 b53 2)) fun b56 =>
  chk (¬ (((8 : Int32)) < 0 ∨ G.2.2 b56 ≤ ((8 : Int32)).toNatClampNeg)) <|
  ltt (uI M52 b56 ((8 : Int32)).toNatClampNeg x55) fun M57 =>
  dr G 9 ((M57.2 a 3)) fun b58 =>
  dr G 13 ((M57.2 b58 2)) fun b59 =>
  chk (¬ (((9 : Int32)) < 0 ∨ G.2.2 b59 ≤ ((9 : Int32)).toNatClampNeg)) <|
  ltt (uI M57 b59 ((9 : Int32)).toNatClampNeg ((1 : Int32))) fun M60 =>
  dr G 9 ((M60.2 a 3)) fun b61 =>
  dr G 13 ((M60.2 a 1)) fun b62 =>
  chk (¬ (((19 : Int32)) < 0 ∨ G.2.2 b62 ≤ ((19 : Int32)).toNatClampNeg)) <|
  ltt (M60.1 b62 ((19 : Int32)).toNatClampNeg) fun x63 =>
  dr G 13 ((M60.2 b61 2)) fun b64 =>
  chk (¬ (((10 : Int32)) < 0 ∨ G.2.2 b64 ≤ ((10 : Int32)).toNatClampNeg)) <|
  ltt (uI M60 b64 ((10 : Int32)).toNatClampNeg x63) fun M65 =>
  some M65
set_option maxHeartbeats 4000000 in
set_option maxRecDepth 100000 in
def FX0_high (G : GG) (M : DD) (a : Nat) (p0 : Int32) : Option (DD × Int32) :=
  dr G 13 ((M.2 a 1)) fun b1 =>
  chk (¬ (((1 : Int32)) < 0 ∨ G.2.2 b1 ≤ ((1 : Int32)).toNatClampNeg)) <|
  ltt (M.1 b1 ((1 : Int32)).toNatClampNeg) fun x2 =>
  bnd (if p0 = ((0 : Int32)) then (some ((16 : Int32))) else
  (some ((8 : Int32)))) fun (y3 : Int32) =>
  ltt ((x2 * y3)) fun x4 =>
  some (M, x4)
set_option maxHeartbeats 4000000 in
set_option maxRecDepth 100000 in
def FX0_isOpen (G : GG) (M : DD) (a : Nat)  : Option (DD × Int32) :=
  dr G 13 ((M.2 a 1)) fun b1 =>
  chk (¬ (((0 : Int32)) < 0 ∨ G.2.2 b1 ≤ ((0 : Int32)).toNatClampNeg)) <|
  ltt (M.1 b1 ((0 : Int32)).toNatClampNeg) fun x2 =>
  bnd (if x2 ≤ ((0 : Int32)) then (some ((0 : Int32))) else
  (some ((1 : Int32)))) fun (y3 : Int32) =>
  chk (y3 = 0 ∨ y3 = 1) <|
  some (M, y3)
set_option maxHeartbeats 4000000 in
set_option maxRecDepth 100000 in
def FX0_isSkipped (G : GG) (M : DD) (a : Nat) (p0 : Int32) : Option (DD × Int32) :=
  dr G 9 ((M.2 a 3)) fun b1 =>
  ltt ((((8 : Int32)) * p0)) fun x2 =>
  ltt ((x2 + ((0 : Int32)))) fun x3 =>
  dr G 13 ((M.2 b1 6)) fun b4 =>
  chk (¬ (x3 < 0 ∨ G.2.2 b4 ≤ x3.toNatClampNeg)) <|
  ltt (M.1 b4 x3.toNatClampNeg) fun x5 =>
  bnd (if x5 = ((3 : Int32)) then (ltt ((((8 : Int32)) * p0)) fun x8 =>
  ltt ((x8 + ((1 : Int32)))) fun x9 =>
  chk (¬ (x9 < 0 ∨ G.2.2 b4 ≤ x9.toNatClampNeg)) <|
  ltt (M.1 b4 x9.toNatClampNeg) fun x10 =>
  bnd (if ((0 : Int32)) ≤ x10 then (some ((0 : Int32))) else
  (some ((1 : Int32)))) fun (y11 : Int32) =>
  some (y11)) else
  (some ((0 : Int32)))) fun (y6 : Int32) =>
  chk (y6 = 0 ∨ y6 = 1) <|
  some (M, y6)
set_option maxHeartbeats 4000000 in
set_option maxRecDepth 100000 in
def FX0_isSliceEdge (G : GG) (M : DD) (a : Nat) (p0 : Int32) : Option (DD × Int32) :=
  bnd (if p0 = ((0 : Int32)) then (some ((1 : Int32))) else
  (dr G 13 ((M.2 a 1)) fun b3 =>
  chk (¬ (((0 : Int32)) < 0 ∨ G.2.2 b3 ≤ ((0 : Int32)).toNatClampNeg)) <|
  ltt (M.1 b3 ((0 : Int32)).toNatClampNeg) fun x4 =>
  chk (¬ (((1 : Int32)) < 0 ∨ G.2.2 b3 ≤ ((1 : Int32)).toNatClampNeg)) <|
  ltt (M.1 b3 ((1 : Int32)).toNatClampNeg) fun x5 =>
  ltt ((x4 * x5)) fun x6 =>
  bnd (if x6 ≤ p0 then (some ((1 : Int32))) else
  (chk (¬ (((11 : Int32)) < 0 ∨ G.2.2 b3 ≤ ((11 : Int32)).toNatClampNeg)) <|
  ltt (M.1 b3 ((11 : Int32)).toNatClampNeg) fun x9 =>
  bnd (if x9 ≤ ((0 : Int32)) then (some ((0 : Int32))) else
  (chk (¬ (((11 : Int32)) < 0 ∨ G.2.2 b3 ≤ ((11 : Int32)).toNatClampNeg)) <|
  ltt (M.1 b3 ((11 : Int32)).toNatClampNeg) fun x12 =>
  chk (¬ x12 = 0) <|
  ltt (p0 - p0 / x12 * x12) fun x13 =>
  bnd (if x13 = ((0 : Int32)) then (some ((1 : Int32))) else
  (some ((0 : Int32)))) fun (y14 : Int32) =>
  some (y14))) fun (y10 : Int32) =>
  some (y10))) fun (y7 : Int32) =>
  some (y7))) fun (y1 : Int32) =>
  chk (y1 = 0 ∨ y1 = 1) <|
  some (M, y1)
set_option maxHeartbeats 4000000 in
set_option maxRecDepth 100000 in
def FX0_isSpent (G : GG) (M : DD) (a : Nat)  : Option (DD × Int32) :=
  ltt (M.1 a 11) fun x1 =>
  bnd (if ((60 : Int32)) ≤ x1 then (some ((1 : Int32))) else
  (dr G 10 ((M.2 a 2)) fun b4 =>
  ltt (M.1 b4 1) fun x5 =>
  bnd (if ((60000 : Int32)) ≤ x5 then (some ((1 : Int32))) else
  (ltt (M.1 b4 2) fun x8 =>
  bnd (if ((380 : Int32)) ≤ x8 then (some ((1 : Int32))) else
  (ltt (M.1 a 18) fun x11 =>
  bnd (if x11 < ((500 : Int32)) then (some ((0 : Int32))) else
  (some ((1 : Int32)))) fun (y12 : Int32) =>
  some (y12))) fun (y9 : Int32) =>
  some (y9))) fun (y6 : Int32) =>
  some (y6))) fun (y2 : Int32) =>
  chk (y2 = 0 ∨ y2 = 1) <|
  some (M, y2)
set_option maxHeartbeats 4000000 in
set_option maxRecDepth 100000 in
def FX0_maySet (G : GG) (M : DD) (a : Nat) (p0 : Int32) (p1 : Int32) : Option (DD × Int32) :=
  bnd (if p0 < ((0 : Int32)) then (some ((0 : Int32))) else
  (bnd (if ((24 : Int32)) ≤ p0 then (some ((0 : Int32))) else
  (chk (¬ (p0 < 0 ∨ 24 ≤ p0.toNatClampNeg)) <|
  ltt ((sT 1).getD p0.toNatClampNeg 0) fun x5 =>
  bnd (if p1 < x5 then (some ((0 : Int32))) else
  (chk (¬ (p0 < 0 ∨ 24 ≤ p0.toNatClampNeg)) <|
  ltt ((sT 2).getD p0.toNatClampNeg 0) fun x8 =>
  bnd (if x8 < p1 then (some ((0 : Int32))) else
  (some ((1 : Int32)))) fun (y9 : Int32) =>
  some (y9))) fun (y6 : Int32) =>
  some (y6))) fun (y3 : Int32) =>
  some (y3))) fun (y1 : Int32) =>
  chk (y1 = 0 ∨ y1 = 1) <|
  some (M, y1)
set_option maxHeartbeats 4000000 in
set_option maxRecDepth 100000 in
def FX0_moved (G : GG) (M : DD) (p0 : Int32) (p1 : Int32) (p2 : Int32) : Option (DD × Int32) :=
  ltt (p0.toInt64) fun x1 =>
  ltt (p1.toInt64) fun x2 =>
  ltt (x1 - x2) fun x3 =>
  ltt (lg_cmp x3 ((0 : Int64))) fun x4 =>
  bnd (if ((0 : Int32)) ≤ x4 then (ltt (p2.toInt64) fun x7 =>
  ltt (lg_cmp x3 x7) fun x8 =>
  bnd (if x8 < ((0 : Int32)) then (ltt (x3.toInt32) fun x11 =>
  some (x11)) else
  (ltt ((p2 - ((1 : Int32)))) fun x12 =>
  some (x12))) fun (y9 : Int32) =>
  some (y9)) else
  (some ((0 : Int32)))) fun (y5 : Int32) =>
  some (M, y5)
set_option maxHeartbeats 4000000 in
set_option maxRecDepth 100000 in
def FX0_offer (G : GG) (M : DD) (a : Nat) (p0 : Int32) (p1 : Int32) (p2 : Int32) : Option (DD) :=
  dr G 13 ((M.2 a 20)) fun b1 =>
  chk (¬ (((10 : Int32)) < 0 ∨ G.2.2 b1 ≤ ((10 : Int32)).toNatClampNeg)) <|
  ltt (M.1 b1 ((10 : Int32)).toNatClampNeg) fun x2 =>
  bnd (if x2 ≤ p0 then (some (M)) else
  (chk (¬ (((10 : Int32)) < 0 ∨ G.2.2 b1 ≤ ((10 : Int32)).toNatClampNeg)) <|
  ltt (uI M b1 ((10 : Int32)).toNatClampNeg p0) fun M5 =>
  dr G 13 ((M5.2 a 20)) fun b6 =>
  chk (¬ (((11 : Int32)) < 0 ∨ G.2.2 b6 ≤ ((11 : Int32)).toNatClampNeg)) <|
  ltt (uI M5 b6 ((11 : Int32)).toNatClampNeg p1) fun M7 =>
  dr G 13 ((M7.2 a 20)) fun b8 =>
  chk (¬ (((12 : Int32)) < 0 ∨ G.2.2 b8 ≤ ((12 : Int32)).toNatClampNeg)) <|
  ltt (uI M7 b8 ((12 : Int32)).toNatClampNeg p2) fun M9 =>
  some (M9))) fun (y3 : DD) =>
  some y3
set_option maxHeartbeats 4000000 in
set_option maxRecDepth 100000 in
def FX0_opensAnew (G : GG) (M : DD) (a : Nat)  : Option (DD × Int32) :=
  ltt (M.1 a 11) fun x1 =>
  ltt ((x1 - ((1 : Int32)))) fun x2 =>
  bnd (if x2 = ((0 : Int32)) then (some ((1 : Int32))) else
  (dr G 13 ((M.2 a 1)) fun b5 =>
  chk (¬ (((12 : Int32)) < 0 ∨ G.2.2 b5 ≤ ((12 : Int32)).toNatClampNeg)) <|
  ltt (M.1 b5 ((12 : Int32)).toNatClampNeg) fun x6 =>
  bnd (if x6 ≤ ((0 : Int32)) then (some ((0 : Int32))) else
  (chk (¬ (((12 : Int32)) < 0 ∨ G.2.2 b5 ≤ ((12 : Int32)).toNatClampNeg)) <|
  ltt (M.1 b5 ((12 : Int32)).toNatClampNeg) fun x9 =>
  chk (¬ x9 = 0) <|
  ltt (x2 - x2 / x9 * x9) fun x10 =>
  bnd (if x10 = ((0 : Int32)) then (some ((1 : Int32))) else
  (some ((0 : Int32)))) fun (y11 : Int32) =>
  some (y11))) fun (y7 : Int32) =>
  some (y7))) fun (y3 : Int32) =>
  chk (y3 = 0 ∨ y3 = 1) <|
  some (M, y3)
set_option maxHeartbeats 4000000 in
set_option maxRecDepth 100000 in
def FX0_paintFlat (G : GG) (M : DD) (a : Nat) (p0 : Int32) (p1 : Int32) (p2 : Int32) : Option (DD) :=
  bnd (itr (fun (s2 : Int32 × DD) => ((if ((3 : Int32)) ≤ s2.1 then (some (.inr (s2.1, s2.2))) else
  (ltt ((((9 : Int32)) + s2.1)) fun x6 =>
  dr G 15 ((s2.2.2 a 8)) fun b7 =>
  chk (¬ (x6 < 0 ∨ G.2.2 b7 ≤ x6.toNatClampNeg)) <|
  bnd (if s2.1 = ((0 : Int32)) then (some (p0)) else
  (bnd (if s2.1 = ((1 : Int32)) then (some (p1)) else
  (some (p2))) fun (y13 : Int32) =>
  some (y13))) fun (y8 : Int32) =>
  ltt ((y8 &&& ((255 : Int32)))) fun x9 =>
  bnd (FJ7_fill_53178 G s2.2 ((s2.2.2 b7 x6.toNatClampNeg)) x9) fun y10 =>
  ltt (s2.1 + (1 : Int32)) fun x11 =>
  some (.inl (x11, y10)))) : Option ((Int32 × DD) ⊕ (Int32 × DD)))) 1000000 ((0 : Int32), M)) fun (y1 : Int32 × DD) =>
  some y1.2
set_option maxHeartbeats 4000000 in
set_option maxRecDepth 100000 in
def FX0_priceOfBit (G : GG) (M : DD) (a : Nat)  : Option (DD × Int32) :=
  dr G 9 ((M.2 a 3)) fun b1 =>
  dr G 3 ((M.2 b1 1)) fun b2 =>
  dr G 13 ((M.2 b2 0)) fun b3 =>
  chk (¬ (((12 : Int32)) < 0 ∨ G.2.2 b3 ≤ ((12 : Int32)).toNatClampNeg)) <|
  ltt (M.1 b3 ((12 : Int32)).toNatClampNeg) fun x4 =>
  ltt (x4 / ((4 : Int32))) fun x5 =>
  ltt ((x5 + ((1 : Int32)))) fun x6 =>
  some (M, x6)
set_option maxHeartbeats 4000000 in
set_option maxRecDepth 100000 in
def FX0_wide (G : GG) (M : DD) (a : Nat) (p0 : Int32) : Option (DD × Int32) :=
  dr G 13 ((M.2 a 1)) fun b1 =>
  chk (¬ (((0 : Int32)) < 0 ∨ G.2.2 b1 ≤ ((0 : Int32)).toNatClampNeg)) <|
  ltt (M.1 b1 ((0 : Int32)).toNatClampNeg) fun x2 =>
  bnd (if p0 = ((0 : Int32)) then (some ((16 : Int32))) else
  (some ((8 : Int32)))) fun (y3 : Int32) =>
  ltt ((x2 * y3)) fun x4 =>
  some (M, x4)
set_option maxHeartbeats 4000000 in
set_option maxRecDepth 100000 in
def FX10_beginArith (G : GG) (M : DD) (a : Nat)  : Option (DD) :=
  ltt (uI M a 9 ((0 : Int32))) fun M1 =>
  ltt (uI M1 a 10 ((510 : Int32))) fun M2 =>
  ltt (uI M2 a 11 ((0 : Int32))) fun M3 =>
  chk (((1 : Int32)) = 0 ∨ ((1 : Int32)) = 1) <|
  ltt (uI M3 a 12 ((1 : Int32))) fun M4 =>
  chk (((1 : Int32)) = 0 ∨ ((1 : Int32)) = 1) <|
  ltt (uI M4 a 8 ((1 : Int32))) fun M5 =>
  some M5
set_option maxHeartbeats 4000000 in
set_option maxRecDepth 100000 in
def FX10_beginUnit (G : GG) (M : DD) (a : Nat) (p0 : Int32) : Option (DD) :=
  chk (((0 : Int32)) = 0 ∨ ((0 : Int32)) = 1) <|
  ltt (uI M a 8 ((0 : Int32))) fun M1 =>
  chk (((0 : Int32)) = 0 ∨ ((0 : Int32)) = 1) <|
  ltt (uI M1 a 12 ((0 : Int32))) fun M2 =>
  ltt (uI M2 a 11 ((0 : Int32))) fun M3 =>
  ltt (uI M3 a 6 ((0 : Int32))) fun M4 =>
  ltt (uI M4 a 7 ((0 : Int32))) fun M5 =>
  ltt (uI M5 a 5 ((1 : Int32))) fun M6 =>
  ltt (p0.toInt8.toInt32) fun x7 =>
  dr G 12 ((M6.2 a 4)) fun b8 =>
  chk (¬ (((0 : Int32)) < 0 ∨ G.2.2 b8 ≤ ((0 : Int32)).toNatClampNeg)) <|
  ltt (uI M6 b8 ((0 : Int32)).toNatClampNeg (vp_nar .byte x7)) fun M9 =>
  some M9
set_option maxHeartbeats 4000000 in
set_option maxRecDepth 100000 in
def FX10_bitsOfUe (G : GG) (M : DD) (p0 : Int32) : Option (DD × Int32) :=
  bnd (itr (fun (s2 : Int32) => ((if ((31 : Int32)) ≤ s2 then (some (.inr (s2))) else
  (ltt (p0.toInt64) fun x8 =>
  ltt (x8 + ((1 : Int64))) fun x9 =>
  ltt ((s2 + ((1 : Int32)))) fun x10 =>
  ltt (x9 >>> (x10.toInt64 &&& 63)) fun x11 =>
  ltt (lg_cmp x11 ((0 : Int64))) fun x12 =>
  if x12 ≤ ((0 : Int32)) then (some (.inr (s2))) else
  (ltt (s2 + (1 : Int32)) fun x14 =>
  some (.inl (x14))))) : Option ((Int32) ⊕ (Int32)))) 1000000 ((0 : Int32))) fun (y1 : Int32) =>
  ltt ((((2 : Int32)) * y1)) fun x4 =>
  ltt ((x4 + ((1 : Int32)))) fun x5 =>
  some (M, x5)
set_option maxHeartbeats 4000000 in
set_option maxRecDepth 100000 in
def FX10_collect (G : GG) (M : DD) (a : Nat) (p0 : Option Nat) (p1 : Int32) (p2 : Int32) : Option (DD × Int32) :=
  ltt (uI M a 16 ((0 : Int32))) fun M1 =>
  ltt ((p1 + p2)) fun x2 =>
  ltt ((x2 - ((1 : Int32)))) fun x3 =>
  bnd (itr (fun (s5 : Int32 × Int32 × DD) => ((if s5.2.1 < p1 then (some (.inr (s5.1, s5.2.1, s5.2.2))) else
  (dr G 13 p0 fun b9 =>
  chk (¬ (s5.2.1 < 0 ∨ G.2.2 b9 ≤ s5.2.1.toNatClampNeg)) <|
  ltt (s5.2.2.1 b9 s5.2.1.toNatClampNeg) fun x10 =>
  bnd (if x10 = ((0 : Int32)) then (bnd (if s5.1 ≤ ((0 : Int32)) then (some (s5.2.2)) else
  (ltt ((s5.1 - ((1 : Int32)))) fun x16 =>
  dr G 13 ((s5.2.2.2 a 15)) fun b17 =>
  chk (¬ (x16 < 0 ∨ G.2.2 b17 ≤ x16.toNatClampNeg)) <|
  ltt (s5.2.2.1 b17 x16.toNatClampNeg) fun x18 =>
  ltt ((x18 + ((1 : Int32)))) fun x19 =>
  chk (¬ (x16 < 0 ∨ G.2.2 b17 ≤ x16.toNatClampNeg)) <|
  ltt (uI s5.2.2 b17 x16.toNatClampNeg x19) fun M20 =>
  ltt (M20.1 a 16) fun x21 =>
  ltt ((x21 + ((1 : Int32)))) fun x22 =>
  ltt (uI M20 a 16 x22) fun M23 =>
  some (M23))) fun (y14 : DD) =>
  some (s5.1, y14)) else
  (chk (¬ (s5.2.1 < 0 ∨ G.2.2 b9 ≤ s5.2.1.toNatClampNeg)) <|
  ltt (s5.2.2.1 b9 s5.2.1.toNatClampNeg) fun x24 =>
  dr G 13 ((s5.2.2.2 a 14)) fun b25 =>
  chk (¬ (s5.1 < 0 ∨ G.2.2 b25 ≤ s5.1.toNatClampNeg)) <|
  ltt (uI s5.2.2 b25 s5.1.toNatClampNeg x24) fun M26 =>
  dr G 13 ((M26.2 a 15)) fun b27 =>
  chk (¬ (s5.1 < 0 ∨ G.2.2 b27 ≤ s5.1.toNatClampNeg)) <|
  ltt (uI M26 b27 s5.1.toNatClampNeg ((0 : Int32))) fun M28 =>
  ltt (s5.1 + (1 : Int32)) fun x29 =>
  some (x29, M28))) fun (y11 : Int32 × DD) =>
  ltt (s5.2.1 + (-1 : Int32)) fun x12 =>
  some (.inl (y11.1, x12, y11.2)))) : Option ((Int32 × Int32 × DD) ⊕ (Int32 × Int32 × DD)))) 1000000 ((0 : Int32), x3, M1)) fun (y4 : Int32 × Int32 × DD) =>
  some (y4.2.2, y4.1)
set_option maxHeartbeats 4000000 in
set_option maxRecDepth 100000 in
def FX10_countOnes (G : GG) (M : DD) (a : Nat) (p0 : Int32) : Option (DD × Int32) :=
  bnd (itr (fun (s2 : Int32 × DD) => ((if ((3 : Int32)) ≤ s2.1 then (some (.inr (s2.1, s2.2))) else
  (if p0 ≤ s2.1 then (some (.inr (s2.1, s2.2))) else
  (dr G 13 ((s2.2.2 a 14)) fun b7 =>
  chk (¬ (s2.1 < 0 ∨ G.2.2 b7 ≤ s2.1.toNatClampNeg)) <|
  ltt (s2.2.1 b7 s2.1.toNatClampNeg) fun x8 =>
  ltt (if (0 : Int32) ≤ x8 then x8 else 0 - x8) fun x9 =>
  if x9 = ((1 : Int32)) then (ltt (s2.1 + (1 : Int32)) fun x11 =>
  some (.inl (x11, s2.2))) else
  (some (.inr (s2.1, s2.2)))))) : Option ((Int32 × DD) ⊕ (Int32 × DD)))) 1000000 ((0 : Int32), M)) fun (y1 : Int32 × DD) =>
  some (y1.2, y1.1)
set_option maxHeartbeats 4000000 in
set_option maxRecDepth 100000 in
def FX10_cut (G : GG) (M : DD) (a : Nat) (p0 : Int32) (p1 : Int32) (p2 : Int32) : Option (DD) :=
  bnd (if p1 ≤ ((0 : Int32)) then (ltt ((((-2 : Int32)) * p1)) fun x51 =>
  ltt ((x51 - ((1 : Int32)))) fun x52 =>
  some (x52)) else
  (ltt ((((2 : Int32)) * p1)) fun x53 =>
  ltt ((x53 - ((2 : Int32)))) fun x54 =>
  some (x54))) fun (y1 : Int32) =>
  bnd (if p2 = ((0 : Int32)) then (some ((0 : Int32))) else
  (some ((2 : Int32)))) fun (y2 : Int32) =>
  ltt ((y1 - y2)) fun x3 =>
  ltt (uI M a 17 ((15 : Int32))) fun M4 =>
  ltt (uI M4 a 19 ((12 : Int32))) fun M5 =>
  bnd (if p0 = ((0 : Int32)) then (some ((30 : Int32))) else
  (ltt ((((15 : Int32)) <<< (p0 &&& 31))) fun x48 =>
  some (x48))) fun (y6 : Int32) =>
  ltt ((x3 - y6)) fun x7 =>
  ltt (uI M5 a 18 x7) fun M8 =>
  bnd (if p0 = ((0 : Int32)) then (bnd (if ((30 : Int32)) ≤ x3 then (bnd (if p0 ≤ ((0 : Int32)) then (some (M8)) else
  (ltt ((((15 : Int32)) <<< (p0 &&& 31))) fun x27 =>
  bnd (if x27 ≤ x3 then (some (M8)) else
  (ltt ((x3 >>> (p0 &&& 31))) fun x30 =>
  ltt (uI M8 a 17 x30) fun M31 =>
  ltt (uI M31 a 19 p0) fun M32 =>
  ltt ((((1 : Int32)) <<< (p0 &&& 31))) fun x33 =>
  ltt ((x33 - ((1 : Int32)))) fun x34 =>
  ltt ((x3 &&& x34)) fun x35 =>
  ltt (uI M32 a 18 x35) fun M36 =>
  some (M36))) fun (y28 : DD) =>
  some (y28))) fun (y25 : DD) =>
  some (y25)) else
  (bnd (if ((14 : Int32)) ≤ x3 then (some ((14 : Int32))) else
  (some (x3))) fun (y37 : Int32) =>
  ltt (uI M8 a 17 y37) fun M38 =>
  bnd (if ((14 : Int32)) ≤ x3 then (some ((4 : Int32))) else
  (some ((0 : Int32)))) fun (y39 : Int32) =>
  ltt (uI M38 a 19 y39) fun M40 =>
  bnd (if ((14 : Int32)) ≤ x3 then (ltt ((x3 - ((14 : Int32)))) fun x44 =>
  some (x44)) else
  (some ((0 : Int32)))) fun (y41 : Int32) =>
  ltt (uI M40 a 18 y41) fun M42 =>
  some (M42))) fun (y23 : DD) =>
  some (y23)) else
  (bnd (if p0 ≤ ((0 : Int32)) then (some (M8)) else
  (ltt ((((15 : Int32)) <<< (p0 &&& 31))) fun x13 =>
  bnd (if x13 ≤ x3 then (some (M8)) else
  (ltt ((x3 >>> (p0 &&& 31))) fun x16 =>
  ltt (uI M8 a 17 x16) fun M17 =>
  ltt (uI M17 a 19 p0) fun M18 =>
  ltt ((((1 : Int32)) <<< (p0 &&& 31))) fun x19 =>
  ltt ((x19 - ((1 : Int32)))) fun x20 =>
  ltt ((x3 &&& x20)) fun x21 =>
  ltt (uI M18 a 18 x21) fun M22 =>
  some (M22))) fun (y14 : DD) =>
  some (y14))) fun (y11 : DD) =>
  some (y11))) fun (y9 : DD) =>
  some y9
set_option maxHeartbeats 4000000 in
set_option maxRecDepth 100000 in
def FX10_indexOfSe (G : GG) (M : DD) (p0 : Int32) : Option (DD × Int32) :=
  bnd (if p0 ≤ ((0 : Int32)) then (ltt ((((-2 : Int32)) * p0)) fun x3 =>
  some (x3)) else
  (ltt ((((2 : Int32)) * p0)) fun x4 =>
  ltt ((x4 - ((1 : Int32)))) fun x5 =>
  some (x5))) fun (y1 : Int32) =>
  some (M, y1)
set_option maxHeartbeats 4000000 in
set_option maxRecDepth 100000 in
noncomputable def FX10_init (G : GG) (M : DD) (a : Nat)  : Option (NN × DD) :=
  chkP (Clo (xt G []) M) <|
  chk (¬ ((4096 : Int32)) < 0 ∧ ((4096 : Int32)).toNatClampNeg * 4 ≤ 536870912) <|
  ltt ((xt G []).1) fun c2 =>
  app [(12, ((4096 : Int32)).toNatClampNeg)] <|
  ltt ([] ++ [(12, ((4096 : Int32)).toNatClampNeg)]) fun L4 =>
  ltt (rO M c2) fun M5 =>
  ltt (uP M5 a 0 (some c2)) fun M8 =>
  chkP (Clo (xt G L4) M8) <|
  chk (¬ ((4096 : Int32)) < 0 ∧ ((4096 : Int32)).toNatClampNeg * 4 ≤ 536870912) <|
  ltt ((xt G L4).1) fun c10 =>
  app [(12, ((4096 : Int32)).toNatClampNeg)] <|
  ltt (L4 ++ [(12, ((4096 : Int32)).toNatClampNeg)]) fun L12 =>
  ltt (rO M8 c10) fun M13 =>
  ltt (uP M13 a 4 (some c10)) fun M16 =>
  chkP (Clo (xt G L12) M16) <|
  chk (¬ ((272 : Int32)) < 0 ∧ ((272 : Int32)).toNatClampNeg * 4 ≤ 536870912) <|
  ltt ((xt G L12).1) fun c18 =>
  app [(13, ((272 : Int32)).toNatClampNeg)] <|
  ltt (L12 ++ [(13, ((272 : Int32)).toNatClampNeg)]) fun L20 =>
  ltt (rO M16 c18) fun M21 =>
  ltt (uP M21 a 13 (some c18)) fun M24 =>
  chkP (Clo (xt G L20) M24) <|
  chk (¬ ((16 : Int32)) < 0 ∧ ((16 : Int32)).toNatClampNeg * 4 ≤ 536870912) <|
  ltt ((xt G L20).1) fun c26 =>
  app [(13, ((16 : Int32)).toNatClampNeg)] <|
  ltt (L20 ++ [(13, ((16 : Int32)).toNatClampNeg)]) fun L28 =>
  ltt (rO M24 c26) fun M29 =>
  ltt (uP M29 a 14 (some c26)) fun M32 =>
  chkP (Clo (xt G L28) M32) <|
  chk (¬ ((16 : Int32)) < 0 ∧ ((16 : Int32)).toNatClampNeg * 4 ≤ 536870912) <|
  ltt ((xt G L28).1) fun c34 =>
  app [(13, ((16 : Int32)).toNatClampNeg)] <|
  ltt (L28 ++ [(13, ((16 : Int32)).toNatClampNeg)]) fun L36 =>
  ltt (rO M32 c34) fun M37 =>
  ltt (uP M37 a 15 (some c34)) fun M40 =>
  some ([], M40)
set_option maxHeartbeats 4000000 in
set_option maxRecDepth 100000 in
noncomputable def FX10_put (G : GG) (M : DD) (a : Nat) (p0 : Int32) : Option (NN × DD) :=
  ltt (M.1 a 12) fun x1 =>
  bnd (if x1 = ((0 : Int32)) then (some ((0 : Int32))) else
  (some ((1 : Int32)))) fun (y2 : Int32) =>
  bnd (itrA (fun (s4 : NN × Int32 × DD) => ((ltt (s4.2.2.1 a 11) fun x15 =>
  if x15 < s4.2.1 then (some ([], .inr ((s4.2.1, s4.2.2)))) else
  (ltt (s4.2.2.1 a 6) fun x17 =>
  ltt ((x17 <<< (((1 : Int32)) &&& 31))) fun x18 =>
  bnd (if s4.2.1 = ((0 : Int32)) then (some (p0)) else
  (ltt ((((1 : Int32)) - p0)) fun x60 =>
  some (x60))) fun (y19 : Int32) =>
  ltt ((x18 ||| y19)) fun x20 =>
  ltt (uI s4.2.2 a 6 x20) fun M21 =>
  ltt (M21.1 a 7) fun x22 =>
  ltt ((x22 + ((1 : Int32)))) fun x23 =>
  ltt (uI M21 a 7 x23) fun M24 =>
  ltt (M24.1 a 7) fun x25 =>
  bnd (if x25 = ((8 : Int32)) then (ltt (M24.1 a 5) fun x33 =>
  dr (xt G s4.1) 12 ((M24.2 a 4)) fun b34 =>
  ltt (Int32.ofNat ((xt G s4.1).2.2 b34)) fun x35 =>
  bnd (if x33 < x35 then (some ([], M24)) else
  (ltt (Int32.ofNat ((xt G s4.1).2.2 b34)) fun x51 =>
  ltt ((((2 : Int32)) * x51)) fun x52 =>
  bnd (FJ7_copyOf_9075b (xt G s4.1) M24 (some b34) x52) fun y53 =>
  app y53.1 <|
  ltt (s4.1 ++ y53.1) fun L55 =>
  ltt (uP y53.2.1 a 4 y53.2.2) fun M58 =>
  some ([], M58))) fun (y36 : NN × DD) =>
  app y36.1 <|
  ltt (s4.1 ++ y36.1) fun L38 =>
  ltt (y36.2.1 a 5) fun x40 =>
  ltt ((x40 + ((1 : Int32)))) fun x41 =>
  ltt (uI y36.2 a 5 x41) fun M42 =>
  ltt (M42.1 a 6) fun x43 =>
  ltt (x43.toInt8.toInt32) fun x44 =>
  dr (xt G L38) 12 ((y36.2.2 a 4)) fun b45 =>
  chk (¬ (x40 < 0 ∨ (xt G L38).2.2 b45 ≤ x40.toNatClampNeg)) <|
  ltt (uI M42 b45 x40.toNatClampNeg (vp_nar .byte x44)) fun M46 =>
  ltt (uI M46 a 6 ((0 : Int32))) fun M47 =>
  ltt (uI M47 a 7 ((0 : Int32))) fun M48 =>
  some ([], M48)) else
  (some ([], M24))) fun (y26 : NN × DD) =>
  app y26.1 <|
  ltt (s4.1 ++ y26.1) fun L28 =>
  ltt (s4.2.1 + (1 : Int32)) fun x30 =>
  some ([], .inl (L28, (x30, y26.2))))) : Option (NN × ((NN × Int32 × DD) ⊕ (Int32 × DD))))) 1000000 ([], (y2, M))) fun (y3 : NN × Int32 × DD) =>
  app y3.1 <|
  ltt ([] ++ y3.1) fun L6 =>
  chk (((0 : Int32)) = 0 ∨ ((0 : Int32)) = 1) <|
  ltt (uI y3.2.2 a 12 ((0 : Int32))) fun M8 =>
  ltt (uI M8 a 11 ((0 : Int32))) fun M9 =>
  some ([], M9)
set_option maxHeartbeats 4000000 in
set_option maxRecDepth 100000 in
noncomputable def FX10_putByte (G : GG) (M : DD) (a : Nat) (p0 : Int32) : Option (NN × DD) :=
  ltt (M.1 a 1) fun x1 =>
  dr (xt G []) 12 ((M.2 a 0)) fun b2 =>
  ltt (Int32.ofNat ((xt G []).2.2 b2)) fun x3 =>
  bnd (if x1 < x3 then (some ([], M)) else
  (ltt (Int32.ofNat ((xt G []).2.2 b2)) fun x16 =>
  ltt ((((2 : Int32)) * x16)) fun x17 =>
  bnd (FJ7_copyOf_9075b (xt G []) M (some b2) x17) fun y18 =>
  app y18.1 <|
  ltt ([] ++ y18.1) fun L20 =>
  ltt (uP y18.2.1 a 0 y18.2.2) fun M23 =>
  some ([], M23))) fun (y4 : NN × DD) =>
  app y4.1 <|
  ltt ([] ++ y4.1) fun L6 =>
  ltt (y4.2.1 a 1) fun x8 =>
  ltt ((x8 + ((1 : Int32)))) fun x9 =>
  ltt (uI y4.2 a 1 x9) fun M10 =>
  ltt (p0.toInt8.toInt32) fun x11 =>
  dr (xt G L6) 12 ((y4.2.2 a 0)) fun b12 =>
  chk (¬ (x8 < 0 ∨ (xt G L6).2.2 b12 ≤ x8.toNatClampNeg)) <|
  ltt (uI M10 b12 x8.toNatClampNeg (vp_nar .byte x11)) fun M13 =>
  some ([], M13)
set_option maxHeartbeats 4000000 in
set_option maxRecDepth 100000 in
noncomputable def FX10_widen (G : GG) (M : DD) (a : Nat)  : Option (NN × DD) :=
  bnd (itrA (fun (s2 : NN × Int32 × DD) => ((if ((9 : Int32)) ≤ s2.2.1 then (some ([], .inr ((s2.2.1, s2.2.2)))) else
  (ltt (s2.2.2.1 a 10) fun x12 =>
  if ((256 : Int32)) ≤ x12 then (some ([], .inr ((s2.2.1, s2.2.2)))) else
  (ltt (s2.2.2.1 a 9) fun x14 =>
  bnd (if ((256 : Int32)) ≤ x14 then (ltt (s2.2.2.1 a 9) fun x28 =>
  bnd (if x28 < ((512 : Int32)) then (ltt (s2.2.2.1 a 11) fun x35 =>
  ltt ((x35 + ((1 : Int32)))) fun x36 =>
  ltt (uI s2.2.2 a 11 x36) fun M37 =>
  ltt (M37.1 a 9) fun x38 =>
  ltt ((x38 - ((256 : Int32)))) fun x39 =>
  ltt (uI M37 a 9 x39) fun M40 =>
  some ([], M40)) else
  (bnd (FX10_put (xt G s2.1) s2.2.2 a ((1 : Int32))) fun y41 =>
  app y41.1 <|
  ltt (s2.1 ++ y41.1) fun L43 =>
  ltt (y41.2.1 a 9) fun x46 =>
  ltt ((x46 - ((512 : Int32)))) fun x47 =>
  ltt (uI y41.2 a 9 x47) fun M48 =>
  some ([], M48))) fun (y29 : NN × DD) =>
  app y29.1 <|
  ltt (s2.1 ++ y29.1) fun L31 =>
  some ([], y29.2)) else
  (bnd (FX10_put (xt G s2.1) s2.2.2 a ((0 : Int32))) fun y49 =>
  app y49.1 <|
  ltt (s2.1 ++ y49.1) fun L51 =>
  some ([], y49.2))) fun (y15 : NN × DD) =>
  app y15.1 <|
  ltt (s2.1 ++ y15.1) fun L17 =>
  ltt (y15.2.1 a 10) fun x19 =>
  ltt ((x19 <<< (((1 : Int32)) &&& 31))) fun x20 =>
  ltt (uI y15.2 a 10 x20) fun M21 =>
  ltt (M21.1 a 9) fun x22 =>
  ltt ((x22 <<< (((1 : Int32)) &&& 31))) fun x23 =>
  ltt (uI M21 a 9 x23) fun M24 =>
  ltt (s2.2.1 + (1 : Int32)) fun x25 =>
  some ([], .inl (L17, (x25, M24)))))) : Option (NN × ((NN × Int32 × DD) ⊕ (Int32 × DD))))) 1000000 ([], ((0 : Int32), M))) fun (y1 : NN × Int32 × DD) =>
  app y1.1 <|
  ltt ([] ++ y1.1) fun L4 =>
  some ([], y1.2.2)
set_option maxHeartbeats 4000000 in
set_option maxRecDepth 100000 in
def FX11_clamp (G : GG) (M : DD) (p0 : Int32) (p1 : Int32) (p2 : Int32) : Option (DD × Int32) :=
  bnd (if p0 ≤ p2 then (bnd (if p2 ≤ p1 then (some (p2)) else
  (some (p1))) fun (y3 : Int32) =>
  some (y3)) else
  (some (p0))) fun (y1 : Int32) =>
  some (M, y1)
set_option maxHeartbeats 4000000 in
set_option maxRecDepth 100000 in
def FX11_clip (G : GG) (M : DD) (p0 : Int32) : Option (DD × Int32) :=
  bnd (if ((0 : Int32)) ≤ p0 then (bnd (if p0 ≤ ((255 : Int32)) then (some (p0)) else
  (some ((255 : Int32)))) fun (y3 : Int32) =>
  some (y3)) else
  (some ((0 : Int32)))) fun (y1 : Int32) =>
  some (M, y1)
set_option maxHeartbeats 4000000 in
set_option maxRecDepth 100000 in
def FX11_coded (G : GG) (M : DD) (a : Nat) (p0 : Int32) (p1 : Int32) : Option (DD × Int32) :=
  bnd (if p1 < ((0 : Int32)) then (none) else
  (some ())) fun (y1 : Unit) =>
  bnd (if p1 ≤ ((6 : Int32)) then (some ()) else
  (none)) fun (y2 : Unit) =>
  bnd (if p0 < ((0 : Int32)) then (none) else
  (some ())) fun (y3 : Unit) =>
  dr G 0 ((M.2 a 4)) fun b4 =>
  ltt (M.1 b4 16) fun x5 =>
  bnd (if x5 ≤ p0 then (none) else
  (some ())) fun (y6 : Unit) =>
  bnd (if p0 < ((60 : Int32)) then (some ()) else
  (none)) fun (y7 : Unit) =>
  ltt ((((7 : Int32)) * p0)) fun x8 =>
  ltt ((x8 + p1)) fun x9 =>
  dr G 13 ((M.2 b4 17)) fun b10 =>
  chk (¬ (x9 < 0 ∨ G.2.2 b10 ≤ x9.toNatClampNeg)) <|
  ltt (M.1 b10 x9.toNatClampNeg) fun x11 =>
  some (M, x11)
set_option maxHeartbeats 4000000 in
set_option maxRecDepth 100000 in
def FX11_count (G : GG) (M : DD) (a : Nat) (p0 : Int32) : Option (DD × Int32) :=
  if p0 = (0 : Int32) then (ltt (M.1 a 1) fun x2 =>
  some (M, x2)) else
  (if p0 = (1 : Int32) then (dr G 8 ((M.2 a 2)) fun b4 =>
  ltt (M.1 b4 3) fun x5 =>
  some (M, x5)) else
  (if p0 = (2 : Int32) then (dr G 8 ((M.2 a 2)) fun b7 =>
  ltt (M.1 b7 4) fun x8 =>
  some (M, x8)) else
  (if p0 = (3 : Int32) then (dr G 1 ((M.2 a 3)) fun b10 =>
  dr G 7 ((M.2 b10 1)) fun b11 =>
  ltt (M.1 b11 14) fun x12 =>
  some (M, x12)) else
  (if p0 = (4 : Int32) then (dr G 1 ((M.2 a 3)) fun b14 =>
  ltt (M.1 b14 14) fun x15 =>
  some (M, x15)) else
  (if p0 = (5 : Int32) then (dr G 1 ((M.2 a 3)) fun b17 =>
  dr G 7 ((M.2 b17 1)) fun b18 =>
  ltt (M.1 b18 3) fun x19 =>
  some (M, x19)) else
  (if p0 = (6 : Int32) then (dr G 1 ((M.2 a 3)) fun b21 =>
  ltt (M.1 b21 16) fun x22 =>
  bnd (if x22 = ((0 : Int32)) then (some ((0 : Int32))) else
  (some ((1 : Int32)))) fun (y23 : Int32) =>
  some (M, y23)) else
  (if p0 = (7 : Int32) then (dr G 1 ((M.2 a 3)) fun b26 =>
  ltt (M.1 b26 15) fun x27 =>
  some (M, x27)) else
  (if p0 = (8 : Int32) then (dr G 1 ((M.2 a 3)) fun b29 =>
  dr G 5 ((M.2 b29 0)) fun b30 =>
  ltt (M.1 b30 12) fun x31 =>
  some (M, x31)) else
  (if p0 = (9 : Int32) then (dr G 0 ((M.2 a 4)) fun b33 =>
  dr G 10 ((M.2 b33 2)) fun b34 =>
  ltt (M.1 b34 1) fun x35 =>
  some (M, x35)) else
  (if p0 = (10 : Int32) then (dr G 0 ((M.2 a 4)) fun b37 =>
  ltt (M.1 b37 16) fun x38 =>
  some (M, x38)) else
  (if p0 = (11 : Int32) then (dr G 0 ((M.2 a 4)) fun b40 =>
  ltt (M.1 b40 10) fun x41 =>
  some (M, x41)) else
  (if p0 = (12 : Int32) then (dr G 8 ((M.2 a 2)) fun b43 =>
  ltt (M.1 b43 11) fun x44 =>
  some (M, x44)) else
  (if p0 = (13 : Int32) then (dr G 0 ((M.2 a 4)) fun b46 =>
  ltt (M.1 b46 14) fun x47 =>
  some (M, x47)) else
  (if p0 = (14 : Int32) then (dr G 1 ((M.2 a 3)) fun b49 =>
  ltt (M.1 b49 18) fun x50 =>
  some (M, x50)) else
  (chk (p0.toInt < 0 ∨ 14 < p0.toInt) <|
  some (M, (-1 : Int32)))))))))))))))))
set_option maxHeartbeats 4000000 in
set_option maxRecDepth 100000 in
def FX11_hash (G : GG) (M : DD) (p0 : Option Nat) (p1 : Int32) (p2 : Int32) : Option (DD × Int32) :=
  bnd (itr (fun (s2 : Int32 × Int32) => ((ltt ((p1 + p2)) fun x5 =>
  if x5 ≤ s2.2 then (some (.inr (s2.1, s2.2))) else
  (dr G 13 p0 fun b7 =>
  ltt (Int32.ofNat (G.2.2 b7)) fun x8 =>
  if x8 ≤ s2.2 then (some (.inr (s2.1, s2.2))) else
  (ltt ((((31 : Int32)) * s2.1)) fun x10 =>
  chk (¬ (s2.2 < 0 ∨ G.2.2 b7 ≤ s2.2.toNatClampNeg)) <|
  ltt (M.1 b7 s2.2.toNatClampNeg) fun x11 =>
  ltt ((x10 + x11)) fun x12 =>
  ltt (s2.2 + (1 : Int32)) fun x13 =>
  some (.inl (x12, x13))))) : Option ((Int32 × Int32) ⊕ (Int32 × Int32)))) 1000000 ((0 : Int32), p1)) fun (y1 : Int32 × Int32) =>
  some (M, y1.1)
set_option maxHeartbeats 4000000 in
set_option maxRecDepth 100000 in
def FX11_setting (G : GG) (M : DD) (a : Nat) (p0 : Int32) (p1 : Int32) : Option (DD × Int32) :=
  dr G 0 ((M.2 a 4)) fun b2 =>
  bnd (FX0_maySet G M b2 p0 p1) fun y3 =>
  bnd (if y3.2 = ((0 : Int32)) then (none) else
  (some ())) fun (y4 : Unit) =>
  dr G 0 ((y3.1.2 a 4)) fun b5 =>
  dr G 13 ((y3.1.2 b5 0)) fun b6 =>
  chk (¬ (p0 < 0 ∨ G.2.2 b6 ≤ p0.toNatClampNeg)) <|
  ltt (y3.1.1 b6 p0.toNatClampNeg) fun x7 =>
  chk (¬ (p0 < 0 ∨ G.2.2 b6 ≤ p0.toNatClampNeg)) <|
  ltt (uI y3.1 b6 p0.toNatClampNeg p1) fun M8 =>
  some (M8, x7)
set_option maxHeartbeats 4000000 in
set_option maxRecDepth 100000 in
noncomputable def FX2_init (G : GG) (M : DD) (a : Nat)  : Option (NN × DD) :=
  chkP (Clo (xt G []) M) <|
  chk (¬ ((1024 : Int32)) < 0 ∧ ((1024 : Int32)).toNatClampNeg * 4 ≤ 536870912) <|
  ltt ((xt G []).1) fun c2 =>
  app [(13, ((1024 : Int32)).toNatClampNeg)] <|
  ltt ([] ++ [(13, ((1024 : Int32)).toNatClampNeg)]) fun L4 =>
  ltt (rO M c2) fun M5 =>
  ltt (uP M5 a 0 (some c2)) fun M8 =>
  some ([], M8)
set_option maxHeartbeats 4000000 in
set_option maxRecDepth 100000 in
def FX2_smooth (G : GG) (M : DD) (p0 : Option Nat) (p1 : Int32) (p2 : Int32) (p3 : Int32) (p4 : Int32) (p5 : Int32) : Option (DD) :=
  dr G 13 p0 fun b1 =>
  chk (¬ (p1 < 0 ∨ G.2.2 b1 ≤ p1.toNatClampNeg)) <|
  ltt (M.1 b1 p1.toNatClampNeg) fun x2 =>
  ltt ((p1 + p2)) fun x3 =>
  chk (¬ (x3 < 0 ∨ G.2.2 b1 ≤ x3.toNatClampNeg)) <|
  ltt (M.1 b1 x3.toNatClampNeg) fun x4 =>
  if p3 = ((0 : Int32)) then (ltt ((((2 : Int32)) * x4)) fun x40 =>
  ltt ((x40 + x2)) fun x41 =>
  ltt ((x41 + p5)) fun x42 =>
  ltt ((x42 + ((2 : Int32)))) fun x43 =>
  ltt ((x43 >>> (((2 : Int32)) &&& 31))) fun x44 =>
  chk (¬ (p1 < 0 ∨ G.2.2 b1 ≤ p1.toNatClampNeg)) <|
  ltt (uI M b1 p1.toNatClampNeg x44) fun M45 =>
  some M45) else
  (ltt ((((2 : Int32)) * p2)) fun x6 =>
  ltt ((p1 + x6)) fun x7 =>
  chk (¬ (x7 < 0 ∨ G.2.2 b1 ≤ x7.toNatClampNeg)) <|
  ltt (M.1 b1 x7.toNatClampNeg) fun x8 =>
  ltt ((((3 : Int32)) * p2)) fun x9 =>
  ltt ((p1 + x9)) fun x10 =>
  chk (¬ (x10 < 0 ∨ G.2.2 b1 ≤ x10.toNatClampNeg)) <|
  ltt (M.1 b1 x10.toNatClampNeg) fun x11 =>
  ltt ((((2 : Int32)) * x4)) fun x12 =>
  ltt ((x8 + x12)) fun x13 =>
  ltt ((((2 : Int32)) * x2)) fun x14 =>
  ltt ((x13 + x14)) fun x15 =>
  ltt ((((2 : Int32)) * p4)) fun x16 =>
  ltt ((x15 + x16)) fun x17 =>
  ltt ((x17 + p5)) fun x18 =>
  ltt ((x18 + ((4 : Int32)))) fun x19 =>
  ltt ((x19 >>> (((3 : Int32)) &&& 31))) fun x20 =>
  chk (¬ (p1 < 0 ∨ G.2.2 b1 ≤ p1.toNatClampNeg)) <|
  ltt (uI M b1 p1.toNatClampNeg x20) fun M21 =>
  ltt ((p1 + p2)) fun x22 =>
  ltt ((x8 + x4)) fun x23 =>
  ltt ((x23 + x2)) fun x24 =>
  ltt ((x24 + p4)) fun x25 =>
  ltt ((x25 + ((2 : Int32)))) fun x26 =>
  ltt ((x26 >>> (((2 : Int32)) &&& 31))) fun x27 =>
  chk (¬ (x22 < 0 ∨ G.2.2 b1 ≤ x22.toNatClampNeg)) <|
  ltt (uI M21 b1 x22.toNatClampNeg x27) fun M28 =>
  ltt ((((2 : Int32)) * p2)) fun x29 =>
  ltt ((p1 + x29)) fun x30 =>
  ltt ((((2 : Int32)) * x11)) fun x31 =>
  ltt ((((3 : Int32)) * x8)) fun x32 =>
  ltt ((x31 + x32)) fun x33 =>
  ltt ((x33 + x4)) fun x34 =>
  ltt ((x34 + x2)) fun x35 =>
  ltt ((x35 + p4)) fun x36 =>
  ltt ((x36 + ((4 : Int32)))) fun x37 =>
  ltt ((x37 >>> (((3 : Int32)) &&& 31))) fun x38 =>
  chk (¬ (x30 < 0 ∨ G.2.2 b1 ≤ x30.toNatClampNeg)) <|
  ltt (uI M28 b1 x30.toNatClampNeg x38) fun M39 =>
  some M39)
set_option maxHeartbeats 4000000 in
set_option maxRecDepth 100000 in
def FX3_beginsBehind (G : GG) (M : DD) (a : Nat) (p0 : Option Nat) : Option (DD × Int32) :=
  dr G 3 p0 fun b1 =>
  dr G 13 ((M.2 a 0)) fun b2 =>
  chk (¬ (((0 : Int32)) < 0 ∨ G.2.2 b2 ≤ ((0 : Int32)).toNatClampNeg)) <|
  ltt (M.1 b2 ((0 : Int32)).toNatClampNeg) fun x3 =>
  bnd (if x3 = ((0 : Int32)) then (some ((1 : Int32))) else
  (chk (¬ (((18 : Int32)) < 0 ∨ G.2.2 b2 ≤ ((18 : Int32)).toNatClampNeg)) <|
  ltt (M.1 b2 ((18 : Int32)).toNatClampNeg) fun x6 =>
  dr G 13 ((M.2 b1 0)) fun b7 =>
  chk (¬ (((18 : Int32)) < 0 ∨ G.2.2 b7 ≤ ((18 : Int32)).toNatClampNeg)) <|
  ltt (M.1 b7 ((18 : Int32)).toNatClampNeg) fun x8 =>
  bnd (if x6 = x8 then (chk (¬ (((3 : Int32)) < 0 ∨ G.2.2 b2 ≤ ((3 : Int32)).toNatClampNeg)) <|
  ltt (M.1 b2 ((3 : Int32)).toNatClampNeg) fun x11 =>
  chk (¬ (((3 : Int32)) < 0 ∨ G.2.2 b7 ≤ ((3 : Int32)).toNatClampNeg)) <|
  ltt (M.1 b7 ((3 : Int32)).toNatClampNeg) fun x12 =>
  bnd (if x11 = x12 then (chk (¬ (((2 : Int32)) < 0 ∨ G.2.2 b2 ≤ ((2 : Int32)).toNatClampNeg)) <|
  ltt (M.1 b2 ((2 : Int32)).toNatClampNeg) fun x15 =>
  chk (¬ (((2 : Int32)) < 0 ∨ G.2.2 b7 ≤ ((2 : Int32)).toNatClampNeg)) <|
  ltt (M.1 b7 ((2 : Int32)).toNatClampNeg) fun x16 =>
  bnd (if x15 = x16 then (chk (¬ (((11 : Int32)) < 0 ∨ G.2.2 b2 ≤ ((11 : Int32)).toNatClampNeg)) <|
  ltt (M.1 b2 ((11 : Int32)).toNatClampNeg) fun x19 =>
  bnd (if x19 = ((0 : Int32)) then (some ((1 : Int32))) else
  (some ((0 : Int32)))) fun (y20 : Int32) =>
  chk (¬ (((11 : Int32)) < 0 ∨ G.2.2 b7 ≤ ((11 : Int32)).toNatClampNeg)) <|
  ltt (M.1 b7 ((11 : Int32)).toNatClampNeg) fun x21 =>
  bnd (if x21 = ((0 : Int32)) then (some ((1 : Int32))) else
  (some ((0 : Int32)))) fun (y22 : Int32) =>
  bnd (if y20 = y22 then (chk (¬ (((4 : Int32)) < 0 ∨ G.2.2 b2 ≤ ((4 : Int32)).toNatClampNeg)) <|
  ltt (M.1 b2 ((4 : Int32)).toNatClampNeg) fun x25 =>
  chk (¬ (((4 : Int32)) < 0 ∨ G.2.2 b7 ≤ ((4 : Int32)).toNatClampNeg)) <|
  ltt (M.1 b7 ((4 : Int32)).toNatClampNeg) fun x26 =>
  bnd (if x25 = x26 then (chk (¬ (((5 : Int32)) < 0 ∨ G.2.2 b2 ≤ ((5 : Int32)).toNatClampNeg)) <|
  ltt (M.1 b2 ((5 : Int32)).toNatClampNeg) fun x29 =>
  chk (¬ (((5 : Int32)) < 0 ∨ G.2.2 b7 ≤ ((5 : Int32)).toNatClampNeg)) <|
  ltt (M.1 b7 ((5 : Int32)).toNatClampNeg) fun x30 =>
  bnd (if x29 = x30 then (chk (¬ (((6 : Int32)) < 0 ∨ G.2.2 b2 ≤ ((6 : Int32)).toNatClampNeg)) <|
  ltt (M.1 b2 ((6 : Int32)).toNatClampNeg) fun x33 =>
  chk (¬ (((6 : Int32)) < 0 ∨ G.2.2 b7 ≤ ((6 : Int32)).toNatClampNeg)) <|
  ltt (M.1 b7 ((6 : Int32)).toNatClampNeg) fun x34 =>
  bnd (if x33 = x34 then (chk (¬ (((7 : Int32)) < 0 ∨ G.2.2 b2 ≤ ((7 : Int32)).toNatClampNeg)) <|
  ltt (M.1 b2 ((7 : Int32)).toNatClampNeg) fun x37 =>
  chk (¬ (((7 : Int32)) < 0 ∨ G.2.2 b7 ≤ ((7 : Int32)).toNatClampNeg)) <|
  ltt (M.1 b7 ((7 : Int32)).toNatClampNeg) fun x38 =>
  bnd (if x37 = x38 then (some ((0 : Int32))) else
  (some ((1 : Int32)))) fun (y39 : Int32) =>
  some (y39)) else
  (some ((1 : Int32)))) fun (y35 : Int32) =>
  some (y35)) else
  (some ((1 : Int32)))) fun (y31 : Int32) =>
  some (y31)) else
  (some ((1 : Int32)))) fun (y27 : Int32) =>
  some (y27)) else
  (some ((1 : Int32)))) fun (y23 : Int32) =>
  some (y23)) else
  (some ((1 : Int32)))) fun (y17 : Int32) =>
  some (y17)) else
  (some ((1 : Int32)))) fun (y13 : Int32) =>
  some (y13)) else
  (some ((1 : Int32)))) fun (y9 : Int32) =>
  some (y9))) fun (y4 : Int32) =>
  chk (y4 = 0 ∨ y4 = 1) <|
  some (M, y4)
set_option maxHeartbeats 4000000 in
set_option maxRecDepth 100000 in
def FX3_clearWeights (G : GG) (M : DD) (a : Nat)  : Option (DD) :=
  bnd (itr (fun (s2 : Int32 × DD) => ((if ((48 : Int32)) ≤ s2.1 then (some (.inr (s2.1, s2.2))) else
  (ltt ((((2 : Int32)) * s2.1)) fun x6 =>
  ltt (s2.1 - s2.1 / ((3 : Int32)) * ((3 : Int32))) fun x7 =>
  bnd (if x7 = ((0 : Int32)) then (dr G 13 ((s2.2.2 a 0)) fun b20 =>
  chk (¬ (((22 : Int32)) < 0 ∨ G.2.2 b20 ≤ ((22 : Int32)).toNatClampNeg)) <|
  ltt (s2.2.1 b20 ((22 : Int32)).toNatClampNeg) fun x21 =>
  some (x21)) else
  (dr G 13 ((s2.2.2 a 0)) fun b18 =>
  chk (¬ (((23 : Int32)) < 0 ∨ G.2.2 b18 ≤ ((23 : Int32)).toNatClampNeg)) <|
  ltt (s2.2.1 b18 ((23 : Int32)).toNatClampNeg) fun x19 =>
  some (x19))) fun (y8 : Int32) =>
  ltt ((((1 : Int32)) <<< (y8 &&& 31))) fun x9 =>
  dr G 13 ((s2.2.2 a 3)) fun b10 =>
  chk (¬ (x6 < 0 ∨ G.2.2 b10 ≤ x6.toNatClampNeg)) <|
  ltt (uI s2.2 b10 x6.toNatClampNeg x9) fun M11 =>
  ltt ((((2 : Int32)) * s2.1)) fun x12 =>
  ltt ((x12 + ((1 : Int32)))) fun x13 =>
  dr G 13 ((M11.2 a 3)) fun b14 =>
  chk (¬ (x13 < 0 ∨ G.2.2 b14 ≤ x13.toNatClampNeg)) <|
  ltt (uI M11 b14 x13.toNatClampNeg ((0 : Int32))) fun M15 =>
  ltt (s2.1 + (1 : Int32)) fun x16 =>
  some (.inl (x16, M15)))) : Option ((Int32 × DD) ⊕ (Int32 × DD)))) 1000000 ((0 : Int32), M)) fun (y1 : Int32 × DD) =>
  some y1.2
set_option maxHeartbeats 4000000 in
set_option maxRecDepth 100000 in
def FX3_copyFrom (G : GG) (M : DD) (a : Nat) (p0 : Option Nat) : Option (DD) :=
  dr G 3 p0 fun b1 =>
  dr G 13 ((M.2 a 0)) fun b2 =>
  ltt (Int32.ofNat (G.2.2 b2)) fun x3 =>
  dr G 13 ((M.2 b1 0)) fun b4 =>
  chk (¬ ((0 : Int32)) < 0 ∧ ¬ ((0 : Int32)) < 0 ∧ ¬ x3 < 0 ∧ ((0 : Int32)).toNatClampNeg + x3.toNatClampNeg ≤ G.2.2 b4 ∧ ((0 : Int32)).toNatClampNeg + x3.toNatClampNeg ≤ G.2.2 b2) <|
  ltt (rI M b2 (va_cpy (M.1 b4) (M.1 b2) ((0 : Int32)).toNatClampNeg ((0 : Int32)).toNatClampNeg x3.toNatClampNeg)) fun M5 =>
  dr G 13 ((M5.2 a 2)) fun b6 =>
  ltt (Int32.ofNat (G.2.2 b6)) fun x7 =>
  dr G 13 ((M5.2 b1 2)) fun b8 =>
  chk (¬ ((0 : Int32)) < 0 ∧ ¬ ((0 : Int32)) < 0 ∧ ¬ x7 < 0 ∧ ((0 : Int32)).toNatClampNeg + x7.toNatClampNeg ≤ G.2.2 b8 ∧ ((0 : Int32)).toNatClampNeg + x7.toNatClampNeg ≤ G.2.2 b6) <|
  ltt (rI M5 b6 (va_cpy (M5.1 b8) (M5.1 b6) ((0 : Int32)).toNatClampNeg ((0 : Int32)).toNatClampNeg x7.toNatClampNeg)) fun M9 =>
  some M9
set_option maxHeartbeats 4000000 in
set_option maxRecDepth 100000 in
noncomputable def FX3_init (G : GG) (M : DD) (a : Nat)  : Option (NN × DD) :=
  chkP (Clo (xt G []) M) <|
  chk (¬ ((27 : Int32)) < 0 ∧ ((27 : Int32)).toNatClampNeg * 4 ≤ 536870912) <|
  ltt ((xt G []).1) fun c2 =>
  app [(13, ((27 : Int32)).toNatClampNeg)] <|
  ltt ([] ++ [(13, ((27 : Int32)).toNatClampNeg)]) fun L4 =>
  ltt (rO M c2) fun M5 =>
  ltt (uP M5 a 0 (some c2)) fun M8 =>
  chkP (Clo (xt G L4) M8) <|
  chk (¬ ((32 : Int32)) < 0 ∧ ((32 : Int32)).toNatClampNeg * 4 ≤ 536870912) <|
  ltt ((xt G L4).1) fun c10 =>
  app [(13, ((32 : Int32)).toNatClampNeg)] <|
  ltt (L4 ++ [(13, ((32 : Int32)).toNatClampNeg)]) fun L12 =>
  ltt (rO M8 c10) fun M13 =>
  ltt (uP M13 a 1 (some c10)) fun M16 =>
  chkP (Clo (xt G L12) M16) <|
  chk (¬ ((36 : Int32)) < 0 ∧ ((36 : Int32)).toNatClampNeg * 4 ≤ 536870912) <|
  ltt ((xt G L12).1) fun c18 =>
  app [(13, ((36 : Int32)).toNatClampNeg)] <|
  ltt (L12 ++ [(13, ((36 : Int32)).toNatClampNeg)]) fun L20 =>
  ltt (rO M16 c18) fun M21 =>
  ltt (uP M21 a 2 (some c18)) fun M24 =>
  chkP (Clo (xt G L20) M24) <|
  chk (¬ ((96 : Int32)) < 0 ∧ ((96 : Int32)).toNatClampNeg * 4 ≤ 536870912) <|
  ltt ((xt G L20).1) fun c26 =>
  app [(13, ((96 : Int32)).toNatClampNeg)] <|
  ltt (L20 ++ [(13, ((96 : Int32)).toNatClampNeg)]) fun L28 =>
  ltt (rO M24 c26) fun M29 =>
  ltt (uP M29 a 3 (some c26)) fun M32 =>
  some ([], M32)
set_option maxHeartbeats 4000000 in
set_option maxRecDepth 100000 in
def FX3_isOwn (G : GG) (M : DD) (a : Nat)  : Option (DD × Int32) :=
  dr G 13 ((M.2 a 0)) fun b1 =>
  chk (¬ (((18 : Int32)) < 0 ∨ G.2.2 b1 ≤ ((18 : Int32)).toNatClampNeg)) <|
  ltt (M.1 b1 ((18 : Int32)).toNatClampNeg) fun x2 =>
  bnd (if x2 = ((5 : Int32)) then (some ((1 : Int32))) else
  (some ((0 : Int32)))) fun (y3 : Int32) =>
  chk (y3 = 0 ∨ y3 = 1) <|
  some (M, y3)
set_option maxHeartbeats 4000000 in
set_option maxRecDepth 100000 in
def FX3_weightAt (G : GG) (M : DD) (p0 : Int32) (p1 : Int32) (p2 : Int32) : Option (DD × Int32) :=
  ltt ((((8 : Int32)) * p0)) fun x1 =>
  ltt ((x1 + p1)) fun x2 =>
  ltt ((((3 : Int32)) * x2)) fun x3 =>
  ltt ((x3 + p2)) fun x4 =>
  ltt ((((2 : Int32)) * x4)) fun x5 =>
  some (M, x5)
set_option maxHeartbeats 4000000 in
set_option maxRecDepth 100000 in
def FX4_at (G : GG) (M : DD) (p0 : Int32) (p1 : Int32) : Option (DD × Int32) :=
  ltt ((((512 : Int32)) * p0)) fun x1 =>
  ltt ((x1 + p1)) fun x2 =>
  some (M, x2)
set_option maxHeartbeats 4000000 in
set_option maxRecDepth 100000 in
noncomputable def FX4_become (G : GG) (M : DD) (a : Nat) (p0 : Int32) (p1 : Int32) (p2 : Int32) : Option (NN × DD) :=
  ltt (uI M a 0 p0) fun M1 =>
  ltt (uI M1 a 1 p1) fun M2 =>
  ltt (uI M2 a 2 p2) fun M3 =>
  ltt ((((256 : Int32)) * p1)) fun x4 =>
  ltt ((x4 * p2)) fun x5 =>
  dr (xt G []) 15 ((M3.2 a 4)) fun b6 =>
  chk (¬ (((0 : Int32)) < 0 ∨ (xt G []).2.2 b6 ≤ ((0 : Int32)).toNatClampNeg)) <|
  dr (xt G []) 13 ((M3.2 b6 ((0 : Int32)).toNatClampNeg)) fun b7 =>
  ltt (Int32.ofNat ((xt G []).2.2 b7)) fun x8 =>
  bnd (if x5 ≤ x8 then (some ([], M3)) else
  (chk (¬ (((0 : Int32)) < 0 ∨ (xt G []).2.2 b6 ≤ ((0 : Int32)).toNatClampNeg)) <|
  ltt (Int32.ofNat ((xt G []).2.2 b7)) fun x29 =>
  bnd (if x29 = ((0 : Int32)) then (some (x5)) else
  (some ((8192 : Int32)))) fun (y30 : Int32) =>
  chkP (Clo (xt G []) M3) <|
  chk (¬ y30 < 0 ∧ y30.toNatClampNeg * 4 ≤ 536870912) <|
  chk (okd (xt G []) ((M3.2 a 4)) = true) <|
  ltt ((xt G []).1) fun c33 =>
  app [(13, y30.toNatClampNeg)] <|
  ltt ([] ++ [(13, y30.toNatClampNeg)]) fun L35 =>
  ltt (rO M3 c33) fun M36 =>
  chk (¬ (((0 : Int32)) < 0 ∨ (xt G L35).2.2 b6 ≤ ((0 : Int32)).toNatClampNeg)) <|
  ltt (uP M36 b6 ((0 : Int32)).toNatClampNeg (some c33)) fun M39 =>
  ltt (y30 / ((4 : Int32))) fun x40 =>
  chkP (Clo (xt G L35) M39) <|
  chk (¬ x40 < 0 ∧ x40.toNatClampNeg * 4 ≤ 536870912) <|
  chk (okd (xt G L35) ((M39.2 a 4)) = true) <|
  ltt ((xt G L35).1) fun c43 =>
  app [(13, x40.toNatClampNeg)] <|
  ltt (L35 ++ [(13, x40.toNatClampNeg)]) fun L45 =>
  ltt (rO M39 c43) fun M46 =>
  dr (xt G L45) 15 ((M39.2 a 4)) fun b49 =>
  chk (¬ (((1 : Int32)) < 0 ∨ (xt G L45).2.2 b49 ≤ ((1 : Int32)).toNatClampNeg)) <|
  ltt (uP M46 b49 ((1 : Int32)).toNatClampNeg (some c43)) fun M50 =>
  ltt (y30 / ((4 : Int32))) fun x51 =>
  chkP (Clo (xt G L45) M50) <|
  chk (¬ x51 < 0 ∧ x51.toNatClampNeg * 4 ≤ 536870912) <|
  chk (okd (xt G L45) ((M50.2 a 4)) = true) <|
  ltt ((xt G L45).1) fun c54 =>
  app [(13, x51.toNatClampNeg)] <|
  ltt (L45 ++ [(13, x51.toNatClampNeg)]) fun L56 =>
  ltt (rO M50 c54) fun M57 =>
  dr (xt G L56) 15 ((M50.2 a 4)) fun b60 =>
  chk (¬ (((2 : Int32)) < 0 ∨ (xt G L56).2.2 b60 ≤ ((2 : Int32)).toNatClampNeg)) <|
  ltt (uP M57 b60 ((2 : Int32)).toNatClampNeg (some c54)) fun M61 =>
  some ([], M61))) fun (y9 : NN × DD) =>
  app y9.1 <|
  ltt ([] ++ y9.1) fun L11 =>
  bnd (FJ7_fill_53178 (xt G L11) y9.2 ((y9.2.2 a 3)) ((0 : Int32))) fun y13 =>
  bnd (FJ7_fill_53178 (xt G L11) y13 ((y13.2 a 5)) ((-1 : Int32))) fun y14 =>
  bnd (FJ7_fill_53178 (xt G L11) y14 ((y14.2 a 6)) ((0 : Int32))) fun y15 =>
  bnd (FJ7_fill_53178 (xt G L11) y15 ((y15.2 a 7)) ((0 : Int32))) fun y16 =>
  ltt (uI y16 a 8 ((0 : Int32))) fun M17 =>
  ltt (uI M17 a 9 ((0 : Int32))) fun M18 =>
  ltt (uI M18 a 10 ((0 : Int32))) fun M19 =>
  ltt (uI M19 a 11 ((-1 : Int32))) fun M20 =>
  chk (((0 : Int32)) = 0 ∨ ((0 : Int32)) = 1) <|
  ltt (uI M20 a 12 ((0 : Int32))) fun M21 =>
  chk (((0 : Int32)) = 0 ∨ ((0 : Int32)) = 1) <|
  ltt (uI M21 a 13 ((0 : Int32))) fun M22 =>
  chk (((1 : Int32)) = 0 ∨ ((1 : Int32)) = 1) <|
  ltt (uI M22 a 14 ((1 : Int32))) fun M23 =>
  ltt (uI M23 a 15 ((-1 : Int32))) fun M24 =>
  ltt (uI M24 a 16 ((0 : Int32))) fun M25 =>
  ltt (uI M25 a 17 ((0 : Int32))) fun M26 =>
  some ([], M26)
set_option maxHeartbeats 4000000 in
set_option maxRecDepth 100000 in
def FX4_blocks (G : GG) (M : DD) (a : Nat)  : Option (DD × Int32) :=
  ltt (M.1 a 1) fun x1 =>
  ltt (M.1 a 2) fun x2 =>
  ltt ((x1 * x2)) fun x3 =>
  some (M, x3)
set_option maxHeartbeats 4000000 in
set_option maxRecDepth 100000 in
def FX4_farApart (G : GG) (M : DD) (a : Nat) (p0 : Int32) (p1 : Int32) : Option (DD × Int32) :=
  ltt ((((2 : Int32)) * p0)) fun x1 =>
  dr G 13 ((M.2 a 7)) fun b2 =>
  chk (¬ (x1 < 0 ∨ G.2.2 b2 ≤ x1.toNatClampNeg)) <|
  ltt (M.1 b2 x1.toNatClampNeg) fun x3 =>
  ltt ((((2 : Int32)) * p1)) fun x4 =>
  chk (¬ (x4 < 0 ∨ G.2.2 b2 ≤ x4.toNatClampNeg)) <|
  ltt (M.1 b2 x4.toNatClampNeg) fun x5 =>
  ltt ((x3 - x5)) fun x6 =>
  ltt ((((2 : Int32)) * p0)) fun x7 =>
  ltt ((x7 + ((1 : Int32)))) fun x8 =>
  chk (¬ (x8 < 0 ∨ G.2.2 b2 ≤ x8.toNatClampNeg)) <|
  ltt (M.1 b2 x8.toNatClampNeg) fun x9 =>
  ltt ((((2 : Int32)) * p1)) fun x10 =>
  ltt ((x10 + ((1 : Int32)))) fun x11 =>
  chk (¬ (x11 < 0 ∨ G.2.2 b2 ≤ x11.toNatClampNeg)) <|
  ltt (M.1 b2 x11.toNatClampNeg) fun x12 =>
  ltt ((x9 - x12)) fun x13 =>
  bnd (if ((4 : Int32)) ≤ x6 then (some ((1 : Int32))) else
  (bnd (if x6 ≤ ((-4 : Int32)) then (some ((1 : Int32))) else
  (bnd (if ((4 : Int32)) ≤ x13 then (some ((1 : Int32))) else
  (bnd (if ((-4 : Int32)) < x13 then (some ((0 : Int32))) else
  (some ((1 : Int32)))) fun (y20 : Int32) =>
  some (y20))) fun (y18 : Int32) =>
  some (y18))) fun (y16 : Int32) =>
  some (y16))) fun (y14 : Int32) =>
  chk (y14 = 0 ∨ y14 = 1) <|
  some (M, y14)
set_option maxHeartbeats 4000000 in
set_option maxRecDepth 100000 in
noncomputable def FX4_init (G : GG) (M : DD) (a : Nat)  : Option (NN × DD) :=
  chkP (Clo (xt G []) M) <|
  chk (¬ ((4 : Int32)) < 0 ∧ ((4 : Int32)).toNatClampNeg * 4 ≤ 536870912) <|
  ltt ((xt G []).1) fun c2 =>
  app [(13, ((4 : Int32)).toNatClampNeg)] <|
  ltt ([] ++ [(13, ((4 : Int32)).toNatClampNeg)]) fun L4 =>
  ltt (rO M c2) fun M5 =>
  ltt (uP M5 a 3 (some c2)) fun M8 =>
  chkP (Clo (xt G L4) M8) <|
  ltt ((xt G L4).1) fun c10 =>
  app (mrel 3 0) <|
  ltt (L4 ++ mrel 3 0) fun L12 =>
  ltt (mM M8 c10 3) fun M13 =>
  ltt (uP M13 a 4 (some c10)) fun M16 =>
  chkP (Clo (xt G L12) M16) <|
  chk (¬ ((1024 : Int32)) < 0 ∧ ((1024 : Int32)).toNatClampNeg * 4 ≤ 536870912) <|
  ltt ((xt G L12).1) fun c18 =>
  app [(13, ((1024 : Int32)).toNatClampNeg)] <|
  ltt (L12 ++ [(13, ((1024 : Int32)).toNatClampNeg)]) fun L20 =>
  ltt (rO M16 c18) fun M21 =>
  ltt (uP M21 a 5 (some c18)) fun M24 =>
  chkP (Clo (xt G L20) M24) <|
  chk (¬ ((1024 : Int32)) < 0 ∧ ((1024 : Int32)).toNatClampNeg * 4 ≤ 536870912) <|
  ltt ((xt G L20).1) fun c26 =>
  app [(13, ((1024 : Int32)).toNatClampNeg)] <|
  ltt (L20 ++ [(13, ((1024 : Int32)).toNatClampNeg)]) fun L28 =>
  ltt (rO M24 c26) fun M29 =>
  ltt (uP M29 a 6 (some c26)) fun M32 =>
  chkP (Clo (xt G L28) M32) <|
  chk (¬ ((2048 : Int32)) < 0 ∧ ((2048 : Int32)).toNatClampNeg * 4 ≤ 536870912) <|
  ltt ((xt G L28).1) fun c34 =>
  app [(13, ((2048 : Int32)).toNatClampNeg)] <|
  ltt (L28 ++ [(13, ((2048 : Int32)).toNatClampNeg)]) fun L36 =>
  ltt (rO M32 c34) fun M37 =>
  ltt (uP M37 a 7 (some c34)) fun M40 =>
  some ([], M40)
set_option maxHeartbeats 4000000 in
set_option maxRecDepth 100000 in
def FX4_listOf (G : GG) (M : DD) (a : Nat) (p0 : Int32) : Option (DD × Int32) :=
  dr G 13 ((M.2 a 5)) fun b1 =>
  chk (¬ (p0 < 0 ∨ G.2.2 b1 ≤ p0.toNatClampNeg)) <|
  ltt (M.1 b1 p0.toNatClampNeg) fun x2 =>
  bnd (if x2 < ((0 : Int32)) then (ltt ((((512 : Int32)) + p0)) fun x5 =>
  chk (¬ (x5 < 0 ∨ G.2.2 b1 ≤ x5.toNatClampNeg)) <|
  ltt (M.1 b1 x5.toNatClampNeg) fun x6 =>
  bnd (if x6 < ((0 : Int32)) then (some ((-1 : Int32))) else
  (some ((1 : Int32)))) fun (y7 : Int32) =>
  some (y7)) else
  (some ((0 : Int32)))) fun (y3 : Int32) =>
  some (M, y3)
set_option maxHeartbeats 4000000 in
set_option maxRecDepth 100000 in
def FX4_movesAlike (G : GG) (M : DD) (a : Nat) (p0 : Int32) (p1 : Int32) : Option (DD × Int32) :=
  bnd (itr (fun (s2 : Int32 × DD) => ((if ((2 : Int32)) ≤ s2.1 then (some (.inr (.inl (s2.1, s2.2)))) else
  (bnd (FX4_at G s2.2 s2.1 p0) fun y6 =>
  bnd (FX4_at G y6.1 s2.1 p1) fun y7 =>
  dr G 13 ((y7.1.2 a 5)) fun b8 =>
  chk (¬ (y6.2 < 0 ∨ G.2.2 b8 ≤ y6.2.toNatClampNeg)) <|
  ltt (y7.1.1 b8 y6.2.toNatClampNeg) fun x9 =>
  chk (¬ (y7.2 < 0 ∨ G.2.2 b8 ≤ y7.2.toNatClampNeg)) <|
  ltt (y7.1.1 b8 y7.2.toNatClampNeg) fun x10 =>
  if x9 = x10 then (ltt ((((2 : Int32)) * y6.2)) fun x12 =>
  dr G 13 ((y7.1.2 a 7)) fun b13 =>
  chk (¬ (x12 < 0 ∨ G.2.2 b13 ≤ x12.toNatClampNeg)) <|
  ltt (y7.1.1 b13 x12.toNatClampNeg) fun x14 =>
  ltt ((((2 : Int32)) * y7.2)) fun x15 =>
  chk (¬ (x15 < 0 ∨ G.2.2 b13 ≤ x15.toNatClampNeg)) <|
  ltt (y7.1.1 b13 x15.toNatClampNeg) fun x16 =>
  if x14 = x16 then (ltt ((((2 : Int32)) * y6.2)) fun x18 =>
  ltt ((x18 + ((1 : Int32)))) fun x19 =>
  chk (¬ (x19 < 0 ∨ G.2.2 b13 ≤ x19.toNatClampNeg)) <|
  ltt (y7.1.1 b13 x19.toNatClampNeg) fun x20 =>
  ltt ((((2 : Int32)) * y7.2)) fun x21 =>
  ltt ((x21 + ((1 : Int32)))) fun x22 =>
  chk (¬ (x22 < 0 ∨ G.2.2 b13 ≤ x22.toNatClampNeg)) <|
  ltt (y7.1.1 b13 x22.toNatClampNeg) fun x23 =>
  if x20 = x23 then (ltt (s2.1 + (1 : Int32)) fun x25 =>
  some (.inl (x25, y7.1))) else
  (chk (((0 : Int32)) = 0 ∨ ((0 : Int32)) = 1) <|
  some (.inr (.inr (y7.1, (0 : Int32)))))) else
  (chk (((0 : Int32)) = 0 ∨ ((0 : Int32)) = 1) <|
  some (.inr (.inr (y7.1, (0 : Int32)))))) else
  (chk (((0 : Int32)) = 0 ∨ ((0 : Int32)) = 1) <|
  some (.inr (.inr (y7.1, (0 : Int32))))))) : Option ((Int32 × DD) ⊕ ((Int32 × DD) ⊕ (DD × Int32))))) 1000000 ((0 : Int32), M)) fun (y1 : (Int32 × DD) ⊕ (DD × Int32)) =>
  sel y1 (fun (z1k : Int32 × DD) =>
  chk (((1 : Int32)) = 0 ∨ ((1 : Int32)) = 1) <|
  some (z1k.2, (1 : Int32))) fun r9 => some r9
set_option maxHeartbeats 4000000 in
set_option maxRecDepth 100000 in
def FX4_movesApart (G : GG) (M : DD) (a : Nat) (p0 : Int32) (p1 : Int32) : Option (DD × Int32) :=
  dr G 13 ((M.2 a 6)) fun b2 =>
  chk (¬ (p0 < 0 ∨ G.2.2 b2 ≤ p0.toNatClampNeg)) <|
  ltt (M.1 b2 p0.toNatClampNeg) fun x3 =>
  ltt ((((512 : Int32)) + p0)) fun x4 =>
  chk (¬ (x4 < 0 ∨ G.2.2 b2 ≤ x4.toNatClampNeg)) <|
  ltt (M.1 b2 x4.toNatClampNeg) fun x5 =>
  chk (¬ (p1 < 0 ∨ G.2.2 b2 ≤ p1.toNatClampNeg)) <|
  ltt (M.1 b2 p1.toNatClampNeg) fun x6 =>
  ltt ((((512 : Int32)) + p1)) fun x7 =>
  chk (¬ (x7 < 0 ∨ G.2.2 b2 ≤ x7.toNatClampNeg)) <|
  ltt (M.1 b2 x7.toNatClampNeg) fun x8 =>
  bnd (if x3 = x6 then (bnd (if x5 = x8 then (some ((1 : Int32))) else
  (some ((0 : Int32)))) fun (y64 : Int32) =>
  some (y64)) else
  (some ((0 : Int32)))) fun (y9 : Int32) =>
  bnd (if x3 = x8 then (bnd (if x5 = x6 then (some ((1 : Int32))) else
  (some ((0 : Int32)))) fun (y61 : Int32) =>
  some (y61)) else
  (some ((0 : Int32)))) fun (y10 : Int32) =>
  bnd (if x3 = ((0 : Int32)) then (bnd (if x5 = ((0 : Int32)) then (some ((0 : Int32), M)) else
  (ltt ((((512 : Int32)) + p0)) fun x45 =>
  ltt ((((512 : Int32)) + p1)) fun x46 =>
  bnd (FX4_farApart G M a x45 x46) fun y47 =>
  bnd (if y47.2 = ((0 : Int32)) then (some ((0 : Int32))) else
  (some ((1 : Int32)))) fun (y48 : Int32) =>
  some (y48, y47.1))) fun (y43 : Int32 × DD) =>
  some (y43.1, y43.2)) else
  (bnd (FX4_farApart G M a p0 p1) fun y50 =>
  bnd (if y50.2 = ((0 : Int32)) then (bnd (if x5 = ((0 : Int32)) then (some ((0 : Int32), y50.1)) else
  (ltt ((((512 : Int32)) + p0)) fun x55 =>
  ltt ((((512 : Int32)) + p1)) fun x56 =>
  bnd (FX4_farApart G y50.1 a x55 x56) fun y57 =>
  bnd (if y57.2 = ((0 : Int32)) then (some ((0 : Int32))) else
  (some ((1 : Int32)))) fun (y58 : Int32) =>
  some (y58, y57.1))) fun (y53 : Int32 × DD) =>
  some (y53.1, y53.2)) else
  (some ((1 : Int32), y50.1))) fun (y51 : Int32 × DD) =>
  some (y51.1, y51.2))) fun (y11 : Int32 × DD) =>
  bnd (if x3 = ((0 : Int32)) then (bnd (if x5 = ((0 : Int32)) then (some ((0 : Int32), y11.2)) else
  (ltt ((((512 : Int32)) + p0)) fun x28 =>
  bnd (FX4_farApart G y11.2 a x28 p1) fun y29 =>
  bnd (if y29.2 = ((0 : Int32)) then (some ((0 : Int32))) else
  (some ((1 : Int32)))) fun (y30 : Int32) =>
  some (y30, y29.1))) fun (y26 : Int32 × DD) =>
  some (y26.1, y26.2)) else
  (ltt ((((512 : Int32)) + p1)) fun x32 =>
  bnd (FX4_farApart G y11.2 a p0 x32) fun y33 =>
  bnd (if y33.2 = ((0 : Int32)) then (bnd (if x5 = ((0 : Int32)) then (some ((0 : Int32), y33.1)) else
  (ltt ((((512 : Int32)) + p0)) fun x38 =>
  bnd (FX4_farApart G y33.1 a x38 p1) fun y39 =>
  bnd (if y39.2 = ((0 : Int32)) then (some ((0 : Int32))) else
  (some ((1 : Int32)))) fun (y40 : Int32) =>
  some (y40, y39.1))) fun (y36 : Int32 × DD) =>
  some (y36.1, y36.2)) else
  (some ((1 : Int32), y33.1))) fun (y34 : Int32 × DD) =>
  some (y34.1, y34.2))) fun (y12 : Int32 × DD) =>
  bnd (if y9 = ((0 : Int32)) then (bnd (if y10 = ((0 : Int32)) then (some ((1 : Int32))) else
  (bnd (if y12.1 = ((0 : Int32)) then (some ((0 : Int32))) else
  (some ((1 : Int32)))) fun (y17 : Int32) =>
  some (y17))) fun (y15 : Int32) =>
  some (y15)) else
  (bnd (if y11.1 = ((0 : Int32)) then (some ((0 : Int32))) else
  (bnd (if y10 = ((0 : Int32)) then (some ((1 : Int32))) else
  (bnd (if y12.1 = ((0 : Int32)) then (some ((0 : Int32))) else
  (some ((1 : Int32)))) fun (y23 : Int32) =>
  some (y23))) fun (y21 : Int32) =>
  some (y21))) fun (y19 : Int32) =>
  some (y19))) fun (y13 : Int32) =>
  chk (y13 = 0 ∨ y13 = 1) <|
  some (y12.2, y13)
set_option maxHeartbeats 4000000 in
set_option maxRecDepth 100000 in
def FX4_wide (G : GG) (M : DD) (a : Nat) (p0 : Int32) : Option (DD × Int32) :=
  bnd (if p0 = ((0 : Int32)) then (ltt (M.1 a 1) fun x5 =>
  ltt ((((16 : Int32)) * x5)) fun x6 =>
  some (x6)) else
  (ltt (M.1 a 1) fun x3 =>
  ltt ((((8 : Int32)) * x3)) fun x4 =>
  some (x4))) fun (y1 : Int32) =>
  some (M, y1)
set_option maxHeartbeats 4000000 in
set_option maxRecDepth 100000 in
def FX5_bit (G : GG) (M : DD) (a : Nat) (p0 : Int32) (p1 : Int32) : Option (DD × Int32) :=
  ltt (M.1 a 6) fun x1 =>
  bnd (if x1 = ((0 : Int32)) then (some ((0 : Int32), M)) else
  (ltt ((((16 : Int32)) * p0)) fun x84 =>
  bnd (if ((15 : Int32)) ≤ p1 then (some ((15 : Int32))) else
  (some (p1))) fun (y85 : Int32) =>
  ltt ((x84 + y85)) fun x86 =>
  dr G 13 ((M.2 a 10)) fun b87 =>
  chk (¬ (x86 < 0 ∨ G.2.2 b87 ≤ x86.toNatClampNeg)) <|
  ltt (M.1 b87 x86.toNatClampNeg) fun x88 =>
  ltt ((x88 >>> (((1 : Int32)) &&& 31))) fun x89 =>
  chk (¬ (x86 < 0 ∨ G.2.2 b87 ≤ x86.toNatClampNeg)) <|
  ltt (M.1 b87 x86.toNatClampNeg) fun x90 =>
  ltt ((x90 &&& ((1 : Int32)))) fun x91 =>
  ltt ((((4 : Int32)) * x89)) fun x92 =>
  ltt (M.1 a 8) fun x93 =>
  ltt ((x93 >>> (((6 : Int32)) &&& 31))) fun x94 =>
  ltt ((x94 &&& ((3 : Int32)))) fun x95 =>
  ltt ((x92 + x95)) fun x96 =>
  chk (¬ (x96 < 0 ∨ 256 ≤ x96.toNatClampNeg)) <|
  ltt ((sT 8).getD x96.toNatClampNeg 0) fun x97 =>
  ltt (M.1 a 8) fun x98 =>
  ltt ((x98 - x97)) fun x99 =>
  ltt (uI M a 8 x99) fun M100 =>
  ltt (M100.1 a 9) fun x101 =>
  ltt (M100.1 a 8) fun x102 =>
  bnd (if x102 ≤ x101 then (ltt ((((1 : Int32)) - x91)) fun x109 =>
  ltt (M100.1 a 9) fun x110 =>
  ltt (M100.1 a 8) fun x111 =>
  ltt ((x110 - x111)) fun x112 =>
  ltt (uI M100 a 9 x112) fun M113 =>
  ltt (uI M113 a 8 x97) fun M114 =>
  bnd (if x89 = ((0 : Int32)) then (some (x109)) else
  (some (x91))) fun (y115 : Int32) =>
  chk (¬ (x89 < 0 ∨ 64 ≤ x89.toNatClampNeg)) <|
  ltt ((sT 7).getD x89.toNatClampNeg 0) fun x116 =>
  some (x109, x116, y115, M114)) else
  (bnd (if ((62 : Int32)) ≤ x89 then (some ((62 : Int32))) else
  (ltt ((x89 + ((1 : Int32)))) fun x120 =>
  some (x120))) fun (y118 : Int32) =>
  some (x91, y118, x91, M100))) fun (y103 : Int32 × Int32 × Int32 × DD) =>
  ltt ((y103.2.1 <<< (((1 : Int32)) &&& 31))) fun x104 =>
  ltt ((x104 ||| y103.2.2.1)) fun x105 =>
  dr G 13 ((y103.2.2.2.2 a 10)) fun b106 =>
  chk (¬ (x86 < 0 ∨ G.2.2 b106 ≤ x86.toNatClampNeg)) <|
  ltt (uI y103.2.2.2 b106 x86.toNatClampNeg x105) fun M107 =>
  some (y103.1, M107))) fun (y2 : Int32 × DD) =>
  bnd (itr (fun (s4 : Int32 × Int32 × DD) => ((if ((9 : Int32)) ≤ s4.2.1 then (some (.inr (s4.1, s4.2.1, s4.2.2))) else
  (ltt (s4.2.2.1 a 6) fun x8 =>
  if x8 = ((0 : Int32)) then (if ((1 : Int32)) ≤ s4.2.1 then (some (.inr (s4.1, s4.2.1, s4.2.2))) else
  (ltt (s4.2.2.1 a 2) fun x11 =>
  ltt (s4.2.2.1 a 1) fun x12 =>
  bnd (if x11 < x12 then (some (s4.2.2)) else
  (ltt (uI s4.2.2 a 15 ((1 : Int32))) fun M39 =>
  ltt (M39.1 a 7) fun x40 =>
  bnd (if x40 = ((0 : Int32)) then (ltt (M39.1 a 4) fun x44 =>
  some (x44)) else
  (ltt (M39.1 a 2) fun x45 =>
  some (x45))) fun (y41 : Int32) =>
  ltt (uI M39 a 16 y41) fun M42 =>
  none)) fun (y13 : DD) =>
  ltt (y13.1 a 2) fun x14 =>
  ltt ((x14 >>> (((3 : Int32)) &&& 31))) fun x15 =>
  ltt ((((1 : Int32)) + x15)) fun x16 =>
  dr G 12 ((y13.2 a 0)) fun b17 =>
  chk (¬ (x16 < 0 ∨ G.2.2 b17 ≤ x16.toNatClampNeg)) <|
  ltt (y13.1 b17 x16.toNatClampNeg) fun x18 =>
  ltt (y13.1 a 2) fun x19 =>
  ltt ((x19 &&& ((7 : Int32)))) fun x20 =>
  ltt ((((7 : Int32)) - x20)) fun x21 =>
  ltt ((x18 >>> (x21 &&& 31))) fun x22 =>
  ltt ((x22 &&& ((1 : Int32)))) fun x23 =>
  ltt (y13.1 a 2) fun x24 =>
  ltt ((x24 + ((1 : Int32)))) fun x25 =>
  ltt (uI y13 a 2 x25) fun M26 =>
  ltt (M26.1 a 6) fun x27 =>
  bnd (if x27 = ((0 : Int32)) then (some (x23, M26)) else
  (ltt (M26.1 a 8) fun x31 =>
  ltt ((x31 <<< (((1 : Int32)) &&& 31))) fun x32 =>
  ltt (uI M26 a 8 x32) fun M33 =>
  ltt (M33.1 a 9) fun x34 =>
  ltt ((x34 <<< (((1 : Int32)) &&& 31))) fun x35 =>
  ltt ((x35 ||| x23)) fun x36 =>
  ltt (uI M33 a 9 x36) fun M37 =>
  some (s4.1, M37))) fun (y28 : Int32 × DD) =>
  ltt (s4.2.1 + (1 : Int32)) fun x29 =>
  some (.inl (y28.1, x29, y28.2)))) else
  (ltt (s4.2.2.1 a 8) fun x46 =>
  if ((256 : Int32)) ≤ x46 then (some (.inr (s4.1, s4.2.1, s4.2.2))) else
  (ltt (s4.2.2.1 a 2) fun x48 =>
  ltt (s4.2.2.1 a 1) fun x49 =>
  bnd (if x48 < x49 then (some (s4.2.2)) else
  (ltt (uI s4.2.2 a 15 ((1 : Int32))) fun M76 =>
  ltt (M76.1 a 7) fun x77 =>
  bnd (if x77 = ((0 : Int32)) then (ltt (M76.1 a 4) fun x81 =>
  some (x81)) else
  (ltt (M76.1 a 2) fun x82 =>
  some (x82))) fun (y78 : Int32) =>
  ltt (uI M76 a 16 y78) fun M79 =>
  none)) fun (y50 : DD) =>
  ltt (y50.1 a 2) fun x51 =>
  ltt ((x51 >>> (((3 : Int32)) &&& 31))) fun x52 =>
  ltt ((((1 : Int32)) + x52)) fun x53 =>
  dr G 12 ((y50.2 a 0)) fun b54 =>
  chk (¬ (x53 < 0 ∨ G.2.2 b54 ≤ x53.toNatClampNeg)) <|
  ltt (y50.1 b54 x53.toNatClampNeg) fun x55 =>
  ltt (y50.1 a 2) fun x56 =>
  ltt ((x56 &&& ((7 : Int32)))) fun x57 =>
  ltt ((((7 : Int32)) - x57)) fun x58 =>
  ltt ((x55 >>> (x58 &&& 31))) fun x59 =>
  ltt ((x59 &&& ((1 : Int32)))) fun x60 =>
  ltt (y50.1 a 2) fun x61 =>
  ltt ((x61 + ((1 : Int32)))) fun x62 =>
  ltt (uI y50 a 2 x62) fun M63 =>
  ltt (M63.1 a 6) fun x64 =>
  bnd (if x64 = ((0 : Int32)) then (some (x60, M63)) else
  (ltt (M63.1 a 8) fun x68 =>
  ltt ((x68 <<< (((1 : Int32)) &&& 31))) fun x69 =>
  ltt (uI M63 a 8 x69) fun M70 =>
  ltt (M70.1 a 9) fun x71 =>
  ltt ((x71 <<< (((1 : Int32)) &&& 31))) fun x72 =>
  ltt ((x72 ||| x60)) fun x73 =>
  ltt (uI M70 a 9 x73) fun M74 =>
  some (s4.1, M74))) fun (y65 : Int32 × DD) =>
  ltt (s4.2.1 + (1 : Int32)) fun x66 =>
  some (.inl (y65.1, x66, y65.2)))))) : Option ((Int32 × Int32 × DD) ⊕ (Int32 × Int32 × DD)))) 1000000 (y2.1, (0 : Int32), y2.2)) fun (y3 : Int32 × Int32 × DD) =>
  some (y3.2.2, y3.1)
set_option maxHeartbeats 4000000 in
set_option maxRecDepth 100000 in
def FX5_lengthOf (G : GG) (M : DD) (p0 : Int32) (p1 : Int32) : Option (DD × Int32) :=
  chk (¬ (p0 < 0 ∨ 30 ≤ p0.toNatClampNeg)) <|
  ltt ((sT 10).getD p0.toNatClampNeg 0) fun x1 =>
  ltt ((x1 + p1)) fun x2 =>
  bnd (if p1 < ((0 : Int32)) then (some ((0 : Int32))) else
  (ltt ((p0 + ((1 : Int32)))) fun x5 =>
  chk (¬ (x5 < 0 ∨ 30 ≤ x5.toNatClampNeg)) <|
  ltt ((sT 10).getD x5.toNatClampNeg 0) fun x6 =>
  bnd (if x2 < x6 then (ltt ((((2 : Int32)) * x2)) fun x9 =>
  chk (¬ (x9 < 0 ∨ 772 ≤ x9.toNatClampNeg)) <|
  ltt ((sT 6).getD x9.toNatClampNeg 0) fun x10 =>
  some (x10)) else
  (some ((0 : Int32)))) fun (y7 : Int32) =>
  some (y7))) fun (y3 : Int32) =>
  some (M, y3)
set_option maxHeartbeats 4000000 in
set_option maxRecDepth 100000 in
def FX5_more (G : GG) (M : DD) (a : Nat)  : Option (DD × Int32) :=
  ltt (M.1 a 2) fun x1 =>
  ltt (M.1 a 3) fun x2 =>
  bnd (if x2 ≤ x1 then (some ((0 : Int32))) else
  (some ((1 : Int32)))) fun (y3 : Int32) =>
  chk (y3 = 0 ∨ y3 = 1) <|
  some (M, y3)
set_option maxHeartbeats 4000000 in
set_option maxRecDepth 100000 in
def FX5_plainBit (G : GG) (M : DD) (a : Nat)  : Option (DD × Int32) :=
  ltt (M.1 a 2) fun x1 =>
  ltt (M.1 a 1) fun x2 =>
  bnd (if x1 < x2 then (some (M)) else
  (ltt (M.1 a 4) fun x18 =>
  none)) fun (y3 : DD) =>
  ltt (y3.1 a 2) fun x4 =>
  ltt ((x4 >>> (((3 : Int32)) &&& 31))) fun x5 =>
  ltt ((((1 : Int32)) + x5)) fun x6 =>
  dr G 12 ((y3.2 a 0)) fun b7 =>
  chk (¬ (x6 < 0 ∨ G.2.2 b7 ≤ x6.toNatClampNeg)) <|
  ltt (y3.1 b7 x6.toNatClampNeg) fun x8 =>
  ltt (y3.1 a 2) fun x9 =>
  ltt ((x9 &&& ((7 : Int32)))) fun x10 =>
  ltt ((((7 : Int32)) - x10)) fun x11 =>
  ltt ((x8 >>> (x11 &&& 31))) fun x12 =>
  ltt ((x12 &&& ((1 : Int32)))) fun x13 =>
  ltt (y3.1 a 2) fun x14 =>
  ltt ((x14 + ((1 : Int32)))) fun x15 =>
  ltt (uI y3 a 2 x15) fun M16 =>
  some (M16, x13)
set_option maxHeartbeats 4000000 in
set_option maxRecDepth 100000 in
def FX5_plant (G : GG) (M : DD) (a : Nat) (p0 : Int32) (p1 : Int32) (p2 : Int32) (p3 : Int32) (p4 : Int32) : Option (DD × Int32) :=
  ltt ((p2 - ((1 : Int32)))) fun x1 =>
  bnd (itr (fun (s3 : Int32 × Int32 × Int32 × DD) => ((if s3.2.2.1 ≤ ((0 : Int32)) then (some (.inr (s3.1, s3.2.1, s3.2.2.1, s3.2.2.2))) else
  (ltt ((((2 : Int32)) * s3.1)) fun x13 =>
  ltt ((p3 >>> (s3.2.2.1 &&& 31))) fun x14 =>
  ltt ((x14 &&& ((1 : Int32)))) fun x15 =>
  ltt ((x13 + x15)) fun x16 =>
  dr G 13 ((s3.2.2.2.2 a 13)) fun b17 =>
  chk (¬ (x16 < 0 ∨ G.2.2 b17 ≤ x16.toNatClampNeg)) <|
  ltt (s3.2.2.2.1 b17 x16.toNatClampNeg) fun x18 =>
  bnd (if x18 = ((0 : Int32)) then (ltt (s3.2.1 + (1 : Int32)) fun x24 =>
  chk (¬ (x16 < 0 ∨ G.2.2 b17 ≤ x16.toNatClampNeg)) <|
  ltt (uI s3.2.2.2 b17 x16.toNatClampNeg s3.2.1) fun M25 =>
  some (x24, M25)) else
  (some (s3.2.1, s3.2.2.2))) fun (y19 : Int32 × DD) =>
  dr G 13 ((y19.2.2 a 13)) fun b20 =>
  chk (¬ (x16 < 0 ∨ G.2.2 b20 ≤ x16.toNatClampNeg)) <|
  ltt (y19.2.1 b20 x16.toNatClampNeg) fun x21 =>
  ltt (s3.2.2.1 + (-1 : Int32)) fun x22 =>
  some (.inl (x21, y19.1, x22, y19.2)))) : Option ((Int32 × Int32 × Int32 × DD) ⊕ (Int32 × Int32 × Int32 × DD)))) 1000000 (p0, p4, x1, M)) fun (y2 : Int32 × Int32 × Int32 × DD) =>
  ltt ((((2 : Int32)) * y2.1)) fun x5 =>
  ltt ((p3 &&& ((1 : Int32)))) fun x6 =>
  ltt ((x5 + x6)) fun x7 =>
  ltt ((((-1 : Int32)) - p1)) fun x8 =>
  dr G 13 ((y2.2.2.2.2 a 13)) fun b9 =>
  chk (¬ (x7 < 0 ∨ G.2.2 b9 ≤ x7.toNatClampNeg)) <|
  ltt (uI y2.2.2.2 b9 x7.toNatClampNeg x8) fun M10 =>
  some (M10, y2.2.1)
set_option maxHeartbeats 4000000 in
set_option maxRecDepth 100000 in
def FX5_record (G : GG) (M : DD) (a : Nat) (p0 : Int32) : Option (DD) :=
  ltt (M.1 a 4) fun x1 =>
  ltt (uI M a 5 x1) fun M2 =>
  ltt (M2.1 a 7) fun x3 =>
  if x3 = ((0 : Int32)) then (ltt (M2.1 a 12) fun x5 =>
  bnd (if ((4000 : Int32)) ≤ x5 then (some (M2)) else
  (ltt (M2.1 a 12) fun x11 =>
  ltt ((((3 : Int32)) * x11)) fun x12 =>
  ltt (M2.1 a 4) fun x13 =>
  dr G 13 ((M2.2 a 11)) fun b14 =>
  chk (¬ (x12 < 0 ∨ G.2.2 b14 ≤ x12.toNatClampNeg)) <|
  ltt (uI M2 b14 x12.toNatClampNeg x13) fun M15 =>
  ltt (M15.1 a 12) fun x16 =>
  ltt ((((3 : Int32)) * x16)) fun x17 =>
  ltt ((x17 + ((1 : Int32)))) fun x18 =>
  ltt (M15.1 a 2) fun x19 =>
  ltt (M15.1 a 4) fun x20 =>
  ltt ((x19 - x20)) fun x21 =>
  dr G 13 ((M15.2 a 11)) fun b22 =>
  chk (¬ (x18 < 0 ∨ G.2.2 b22 ≤ x18.toNatClampNeg)) <|
  ltt (uI M15 b22 x18.toNatClampNeg x21) fun M23 =>
  ltt (M23.1 a 12) fun x24 =>
  ltt ((((3 : Int32)) * x24)) fun x25 =>
  ltt ((x25 + ((2 : Int32)))) fun x26 =>
  dr G 13 ((M23.2 a 11)) fun b27 =>
  chk (¬ (x26 < 0 ∨ G.2.2 b27 ≤ x26.toNatClampNeg)) <|
  ltt (uI M23 b27 x26.toNatClampNeg p0) fun M28 =>
  some (M28))) fun (y6 : DD) =>
  ltt (y6.1 a 12) fun x7 =>
  ltt ((x7 + ((1 : Int32)))) fun x8 =>
  ltt (uI y6 a 12 x8) fun M9 =>
  some M9) else
  (some M2)
set_option maxHeartbeats 4000000 in
set_option maxRecDepth 100000 in
def FX5_valueOf (G : GG) (M : DD) (p0 : Int32) (p1 : Int32) : Option (DD × Int32) :=
  chk (¬ (p0 < 0 ∨ 30 ≤ p0.toNatClampNeg)) <|
  ltt ((sT 10).getD p0.toNatClampNeg 0) fun x1 =>
  ltt ((x1 + p1)) fun x2 =>
  bnd (if p1 < ((0 : Int32)) then (some ((0 : Int32))) else
  (ltt ((p0 + ((1 : Int32)))) fun x5 =>
  chk (¬ (x5 < 0 ∨ 30 ≤ x5.toNatClampNeg)) <|
  ltt ((sT 10).getD x5.toNatClampNeg 0) fun x6 =>
  bnd (if x2 < x6 then (ltt ((((2 : Int32)) * x2)) fun x9 =>
  ltt ((x9 + ((1 : Int32)))) fun x10 =>
  chk (¬ (x10 < 0 ∨ 772 ≤ x10.toNatClampNeg)) <|
  ltt ((sT 6).getD x10.toNatClampNeg 0) fun x11 =>
  some (x11)) else
  (some ((0 : Int32)))) fun (y7 : Int32) =>
  some (y7))) fun (y3 : Int32) =>
  some (M, y3)
set_option maxHeartbeats 4000000 in
set_option maxRecDepth 100000 in
def FX5_widen (G : GG) (M : DD) (a : Nat)  : Option (DD) :=
  bnd (itr (fun (s2 : Int32 × DD) => ((if ((9 : Int32)) ≤ s2.1 then (some (.inr (s2.1, s2.2))) else
  (ltt (s2.2.1 a 8) fun x6 =>
  if ((256 : Int32)) ≤ x6 then (some (.inr (s2.1, s2.2))) else
  (ltt (s2.2.1 a 9) fun x8 =>
  ltt ((x8 <<< (((1 : Int32)) &&& 31))) fun x9 =>
  bnd (FX5_plainBit G s2.2 a) fun y10 =>
  ltt ((x9 ||| y10.2)) fun x11 =>
  ltt (uI y10.1 a 9 x11) fun M12 =>
  ltt (M12.1 a 8) fun x13 =>
  ltt ((x13 <<< (((1 : Int32)) &&& 31))) fun x14 =>
  ltt (uI M12 a 8 x14) fun M15 =>
  ltt (s2.1 + (1 : Int32)) fun x16 =>
  some (.inl (x16, M15))))) : Option ((Int32 × DD) ⊕ (Int32 × DD)))) 1000000 ((0 : Int32), M)) fun (y1 : Int32 × DD) =>
  some y1.2
set_option maxHeartbeats 4000000 in
set_option maxRecDepth 100000 in
def FX6_blend (G : GG) (M : DD) (a : Nat) (p0 : Int32) (p1 : Int32) (p2 : Int32) (p3 : Int32) : Option (DD) :=
  bnd (if p0 = ((1 : Int32)) then (some ((M.2 a 2))) else
  (bnd (if p0 = ((4 : Int32)) then (some ((M.2 a 2))) else
  (some ((M.2 a 1)))) fun (y90 : Option Nat) =>
  some (y90))) fun (y1 : Option Nat) =>
  bnd (if p0 = ((4 : Int32)) then (ltt (M.1 a 10) fun x88 =>
  some (x88)) else
  (ltt (M.1 a 9) fun x87 =>
  some (x87))) fun (y2 : Int32) =>
  bnd (if p0 = ((4 : Int32)) then (ltt (M.1 a 12) fun x85 =>
  some (x85)) else
  (ltt (M.1 a 11) fun x84 =>
  some (x84))) fun (y3 : Int32) =>
  bnd (itr (fun (s5 : Int32 × DD) => ((if p3 ≤ s5.1 then (some (.inr (s5.1, s5.2))) else
  (ltt ((s5.1 * p2)) fun x9 =>
  ltt ((p1 + x9)) fun x10 =>
  bnd (itr (fun (s12 : Int32 × DD) => ((ltt ((s5.1 * p2)) fun x16 =>
  ltt ((p1 + x16)) fun x17 =>
  ltt ((x17 + p3)) fun x18 =>
  if x18 ≤ s12.1 then (some (.inr (s12.1, s12.2))) else
  (bnd (if ((2 : Int32)) ≤ p0 then (bnd (if p0 = ((2 : Int32)) then (dr G 13 ((s12.2.2 a 1)) fun b70 =>
  chk (¬ (s12.1 < 0 ∨ G.2.2 b70 ≤ s12.1.toNatClampNeg)) <|
  ltt (s12.2.1 b70 s12.1.toNatClampNeg) fun x71 =>
  dr G 13 ((s12.2.2 a 2)) fun b72 =>
  chk (¬ (s12.1 < 0 ∨ G.2.2 b72 ≤ s12.1.toNatClampNeg)) <|
  ltt (s12.2.1 b72 s12.1.toNatClampNeg) fun x73 =>
  ltt ((x71 + x73)) fun x74 =>
  ltt ((x74 + ((1 : Int32)))) fun x75 =>
  ltt ((x75 >>> (((1 : Int32)) &&& 31))) fun x76 =>
  dr G 13 ((s12.2.2 a 0)) fun b77 =>
  chk (¬ (s12.1 < 0 ∨ G.2.2 b77 ≤ s12.1.toNatClampNeg)) <|
  ltt (uI s12.2 b77 s12.1.toNatClampNeg x76) fun M78 =>
  some (M78)) else
  (bnd (if p0 = ((5 : Int32)) then (dr G 13 ((s12.2.2 a 1)) fun b46 =>
  chk (¬ (s12.1 < 0 ∨ G.2.2 b46 ≤ s12.1.toNatClampNeg)) <|
  ltt (s12.2.1 b46 s12.1.toNatClampNeg) fun x47 =>
  ltt (s12.2.1 a 9) fun x48 =>
  ltt ((x47 * x48)) fun x49 =>
  dr G 13 ((s12.2.2 a 2)) fun b50 =>
  chk (¬ (s12.1 < 0 ∨ G.2.2 b50 ≤ s12.1.toNatClampNeg)) <|
  ltt (s12.2.1 b50 s12.1.toNatClampNeg) fun x51 =>
  ltt (s12.2.1 a 10) fun x52 =>
  ltt ((x51 * x52)) fun x53 =>
  ltt ((x49 + x53)) fun x54 =>
  ltt (s12.2.1 a 13) fun x55 =>
  ltt ((((1 : Int32)) <<< (x55 &&& 31))) fun x56 =>
  ltt ((x54 + x56)) fun x57 =>
  ltt (s12.2.1 a 13) fun x58 =>
  ltt ((x58 + ((1 : Int32)))) fun x59 =>
  ltt ((x57 >>> (x59 &&& 31))) fun x60 =>
  ltt (s12.2.1 a 11) fun x61 =>
  ltt (s12.2.1 a 12) fun x62 =>
  ltt ((x61 + x62)) fun x63 =>
  ltt ((x63 + ((1 : Int32)))) fun x64 =>
  ltt ((x64 >>> (((1 : Int32)) &&& 31))) fun x65 =>
  ltt ((x60 + x65)) fun x66 =>
  bnd (FX11_clip G s12.2 x66) fun y67 =>
  dr G 13 ((s12.2.2 a 0)) fun b68 =>
  chk (¬ (s12.1 < 0 ∨ G.2.2 b68 ≤ s12.1.toNatClampNeg)) <|
  ltt (uI y67.1 b68 s12.1.toNatClampNeg y67.2) fun M69 =>
  some (x57, M69)) else
  (ltt (s12.2.1 a 13) fun x27 =>
  bnd (if x27 ≤ ((0 : Int32)) then (dr G 13 y1 fun b34 =>
  chk (¬ (s12.1 < 0 ∨ G.2.2 b34 ≤ s12.1.toNatClampNeg)) <|
  ltt (s12.2.1 b34 s12.1.toNatClampNeg) fun x35 =>
  ltt ((x35 * y2)) fun x36 =>
  some (x36)) else
  (dr G 13 y1 fun b37 =>
  chk (¬ (s12.1 < 0 ∨ G.2.2 b37 ≤ s12.1.toNatClampNeg)) <|
  ltt (s12.2.1 b37 s12.1.toNatClampNeg) fun x38 =>
  ltt ((x38 * y2)) fun x39 =>
  ltt (s12.2.1 a 13) fun x40 =>
  ltt ((x40 - ((1 : Int32)))) fun x41 =>
  ltt ((((1 : Int32)) <<< (x41 &&& 31))) fun x42 =>
  ltt ((x39 + x42)) fun x43 =>
  ltt (s12.2.1 a 13) fun x44 =>
  ltt ((x43 >>> (x44 &&& 31))) fun x45 =>
  some (x45))) fun (y28 : Int32) =>
  ltt ((y28 + y3)) fun x29 =>
  bnd (FX11_clip G s12.2 x29) fun y30 =>
  dr G 13 ((s12.2.2 a 0)) fun b31 =>
  chk (¬ (s12.1 < 0 ∨ G.2.2 b31 ≤ s12.1.toNatClampNeg)) <|
  ltt (uI y30.1 b31 s12.1.toNatClampNeg y30.2) fun M32 =>
  some (y28, M32))) fun (y25 : Int32 × DD) =>
  some (y25.2))) fun (y23 : DD) =>
  some (y23)) else
  (dr G 13 y1 fun b79 =>
  chk (¬ (s12.1 < 0 ∨ G.2.2 b79 ≤ s12.1.toNatClampNeg)) <|
  ltt (s12.2.1 b79 s12.1.toNatClampNeg) fun x80 =>
  dr G 13 ((s12.2.2 a 0)) fun b81 =>
  chk (¬ (s12.1 < 0 ∨ G.2.2 b81 ≤ s12.1.toNatClampNeg)) <|
  ltt (uI s12.2 b81 s12.1.toNatClampNeg x80) fun M82 =>
  some (M82))) fun (y20 : DD) =>
  ltt (s12.1 + (1 : Int32)) fun x21 =>
  some (.inl (x21, y20)))) : Option ((Int32 × DD) ⊕ (Int32 × DD)))) 1000000 (x10, s5.2)) fun (y11 : Int32 × DD) =>
  ltt (s5.1 + (1 : Int32)) fun x14 =>
  some (.inl (x14, y11.2)))) : Option ((Int32 × DD) ⊕ (Int32 × DD)))) 1000000 ((0 : Int32), M)) fun (y4 : Int32 × DD) =>
  some y4.2
set_option maxHeartbeats 4000000 in
set_option maxRecDepth 100000 in
def FX6_colourAt (G : GG) (M : DD) (p0 : Option Nat) (p1 : Int32) (p2 : Int32) (p3 : Int32) : Option (DD × Int32) :=
  dr G 4 p0 fun b1 =>
  ltt (M.1 b1 1) fun x2 =>
  chk (¬ x2 = 0) <|
  ltt (p1 / x2) fun x3 =>
  ltt ((((8 : Int32)) * x3)) fun x4 =>
  ltt ((x4 + p3)) fun x5 =>
  ltt ((x5 * ((8 : Int32)))) fun x6 =>
  ltt (M.1 b1 1) fun x7 =>
  ltt ((x6 * x7)) fun x8 =>
  ltt (M.1 b1 1) fun x9 =>
  chk (¬ x9 = 0) <|
  ltt (p1 - p1 / x9 * x9) fun x10 =>
  ltt ((((8 : Int32)) * x10)) fun x11 =>
  ltt ((x8 + x11)) fun x12 =>
  ltt ((x12 + p2)) fun x13 =>
  some (M, x13)
set_option maxHeartbeats 4000000 in
set_option maxRecDepth 100000 in
def FX6_colourDifferences (G : GG) (M : DD) (a : Nat) (p0 : Option Nat) (p1 : Option Nat) (p2 : Int32) : Option (DD × Int32) :=
  bnd (itr (fun (s2 : Int32 × Int32 × DD) => ((if ((128 : Int32)) ≤ s2.2.1 then (some (.inr (s2.1, s2.2.1, s2.2.2))) else
  (ltt (s2.2.1 / ((64 : Int32))) fun x6 =>
  ltt ((((1 : Int32)) + x6)) fun x7 =>
  dr G 15 p1 fun b8 =>
  chk (¬ (x7 < 0 ∨ G.2.2 b8 ≤ x7.toNatClampNeg)) <|
  dr G 9 p0 fun b9 =>
  ltt (s2.2.1 - s2.2.1 / ((8 : Int32)) * ((8 : Int32))) fun x10 =>
  ltt (s2.2.1 / ((8 : Int32))) fun x11 =>
  ltt (x11 - x11 / ((8 : Int32)) * ((8 : Int32))) fun x12 =>
  bnd (FX6_colourAt G s2.2.2 ((s2.2.2.2 b9 0)) p2 x10 x12) fun y13 =>
  dr G 13 ((s2.2.2.2 b8 x7.toNatClampNeg)) fun b14 =>
  chk (¬ (y13.2 < 0 ∨ G.2.2 b14 ≤ y13.2.toNatClampNeg)) <|
  ltt (y13.1.1 b14 y13.2.toNatClampNeg) fun x15 =>
  ltt ((((256 : Int32)) + s2.2.1)) fun x16 =>
  dr G 13 ((y13.1.2 a 0)) fun b17 =>
  chk (¬ (x16 < 0 ∨ G.2.2 b17 ≤ x16.toNatClampNeg)) <|
  ltt (y13.1.1 b17 x16.toNatClampNeg) fun x18 =>
  ltt ((x15 - x18)) fun x19 =>
  bnd (if ((0 : Int32)) ≤ x19 then (some (x19)) else
  (ltt (-x19) fun x24 =>
  some (x24))) fun (y20 : Int32) =>
  ltt ((s2.1 + y20)) fun x21 =>
  ltt (s2.2.1 + (1 : Int32)) fun x22 =>
  some (.inl (x21, x22, y13.1)))) : Option ((Int32 × Int32 × DD) ⊕ (Int32 × Int32 × DD)))) 1000000 ((0 : Int32), (0 : Int32), M)) fun (y1 : Int32 × Int32 × DD) =>
  some (y1.2.2, y1.1)
set_option maxHeartbeats 4000000 in
set_option maxRecDepth 100000 in
def FX6_colourStep (G : GG) (M : DD) (p0 : Int32) (p1 : Int32) : Option (DD × Int32) :=
  ltt ((p0 + p1)) fun x1 =>
  bnd (FX11_clamp G M ((0 : Int32)) ((51 : Int32)) x1) fun y2 =>
  bnd (if ((30 : Int32)) ≤ y2.2 then (ltt ((y2.2 - ((30 : Int32)))) fun x5 =>
  chk (¬ (x5 < 0 ∨ 22 ≤ x5.toNatClampNeg)) <|
  ltt ((sT 11).getD x5.toNatClampNeg 0) fun x6 =>
  some (x6)) else
  (some (y2.2))) fun (y3 : Int32) =>
  some (y2.1, y3)
set_option maxHeartbeats 4000000 in
set_option maxRecDepth 100000 in
def FX6_fillPlane (G : GG) (M : DD) (a : Nat) (p0 : Int32) (p1 : Int32) (p2 : Int32) : Option (DD) :=
  ltt (p1 / ((2 : Int32))) fun x1 =>
  bnd (itr (fun (s3 : Int32 × Int32 × Int32) => ((if x1 < s3.2.2 then (some (.inr (s3.1, s3.2.1, s3.2.2))) else
  (ltt ((x1 + s3.2.2)) fun x46 =>
  dr G 13 ((M.2 a 8)) fun b47 =>
  chk (¬ (x46 < 0 ∨ G.2.2 b47 ≤ x46.toNatClampNeg)) <|
  ltt (M.1 b47 x46.toNatClampNeg) fun x48 =>
  ltt ((x1 - s3.2.2)) fun x49 =>
  chk (¬ (x49 < 0 ∨ G.2.2 b47 ≤ x49.toNatClampNeg)) <|
  ltt (M.1 b47 x49.toNatClampNeg) fun x50 =>
  ltt ((x48 - x50)) fun x51 =>
  ltt ((s3.2.2 * x51)) fun x52 =>
  ltt ((s3.1 + x52)) fun x53 =>
  ltt ((p1 + ((1 : Int32)))) fun x54 =>
  ltt ((x54 + x1)) fun x55 =>
  ltt ((x55 + s3.2.2)) fun x56 =>
  chk (¬ (x56 < 0 ∨ G.2.2 b47 ≤ x56.toNatClampNeg)) <|
  ltt (M.1 b47 x56.toNatClampNeg) fun x57 =>
  ltt ((p1 + ((1 : Int32)))) fun x58 =>
  ltt ((x58 + x1)) fun x59 =>
  ltt ((x59 - s3.2.2)) fun x60 =>
  chk (¬ (x60 < 0 ∨ G.2.2 b47 ≤ x60.toNatClampNeg)) <|
  ltt (M.1 b47 x60.toNatClampNeg) fun x61 =>
  ltt ((x57 - x61)) fun x62 =>
  ltt ((s3.2.2 * x62)) fun x63 =>
  ltt ((s3.2.1 + x63)) fun x64 =>
  ltt (s3.2.2 + (1 : Int32)) fun x65 =>
  some (.inl (x53, x64, x65)))) : Option ((Int32 × Int32 × Int32) ⊕ (Int32 × Int32 × Int32)))) 1000000 ((0 : Int32), (0 : Int32), (1 : Int32))) fun (y2 : Int32 × Int32 × Int32) =>
  ltt ((p2 * y2.1)) fun x5 =>
  ltt ((x5 + ((32 : Int32)))) fun x6 =>
  ltt ((x6 >>> (((6 : Int32)) &&& 31))) fun x7 =>
  ltt ((p2 * y2.2.1)) fun x8 =>
  ltt ((x8 + ((32 : Int32)))) fun x9 =>
  ltt ((x9 >>> (((6 : Int32)) &&& 31))) fun x10 =>
  dr G 13 ((M.2 a 8)) fun b11 =>
  chk (¬ (p1 < 0 ∨ G.2.2 b11 ≤ p1.toNatClampNeg)) <|
  ltt (M.1 b11 p1.toNatClampNeg) fun x12 =>
  ltt ((((2 : Int32)) * p1)) fun x13 =>
  ltt ((x13 + ((1 : Int32)))) fun x14 =>
  chk (¬ (x14 < 0 ∨ G.2.2 b11 ≤ x14.toNatClampNeg)) <|
  ltt (M.1 b11 x14.toNatClampNeg) fun x15 =>
  ltt ((x12 + x15)) fun x16 =>
  ltt ((((16 : Int32)) * x16)) fun x17 =>
  bnd (itr (fun (s19 : Int32 × DD) => ((ltt ((p1 * p1)) fun x22 =>
  if x22 ≤ s19.1 then (some (.inr (s19.1, s19.2))) else
  (chk (¬ p1 = 0) <|
  ltt (s19.1 - s19.1 / p1 * p1) fun x24 =>
  ltt ((x24 - x1)) fun x25 =>
  ltt ((x25 + ((1 : Int32)))) fun x26 =>
  chk (¬ p1 = 0) <|
  ltt (s19.1 / p1) fun x27 =>
  ltt ((x27 - x1)) fun x28 =>
  ltt ((x28 + ((1 : Int32)))) fun x29 =>
  ltt ((x7 * x26)) fun x30 =>
  ltt ((x17 + x30)) fun x31 =>
  ltt ((x10 * x29)) fun x32 =>
  ltt ((x31 + x32)) fun x33 =>
  ltt ((x33 + ((16 : Int32)))) fun x34 =>
  ltt ((x34 >>> (((5 : Int32)) &&& 31))) fun x35 =>
  ltt ((p0 + s19.1)) fun x36 =>
  bnd (if ((0 : Int32)) ≤ x35 then (bnd (if x35 ≤ ((255 : Int32)) then (some (x35)) else
  (some ((255 : Int32)))) fun (y42 : Int32) =>
  some (y42)) else
  (some ((0 : Int32)))) fun (y37 : Int32) =>
  dr G 13 ((s19.2.2 a 0)) fun b38 =>
  chk (¬ (x36 < 0 ∨ G.2.2 b38 ≤ x36.toNatClampNeg)) <|
  ltt (uI s19.2 b38 x36.toNatClampNeg y37) fun M39 =>
  ltt (s19.1 + (1 : Int32)) fun x40 =>
  some (.inl (x40, M39)))) : Option ((Int32 × DD) ⊕ (Int32 × DD)))) 1000000 ((0 : Int32), M)) fun (y18 : Int32 × DD) =>
  some y18.2
set_option maxHeartbeats 4000000 in
set_option maxRecDepth 100000 in
def FX6_fillWindow (G : GG) (M : DD) (a : Nat) (p0 : Option Nat) (p1 : Int32) (p2 : Int32) (p3 : Int32) : Option (DD) :=
  dr G 4 p0 fun b1 =>
  dr G 15 ((M.2 b1 4)) fun b2 =>
  chk (¬ (((0 : Int32)) < 0 ∨ G.2.2 b2 ≤ ((0 : Int32)).toNatClampNeg)) <|
  ltt (M.1 b1 1) fun x3 =>
  ltt ((((16 : Int32)) * x3)) fun x4 =>
  ltt (M.1 b1 2) fun x5 =>
  ltt ((((16 : Int32)) * x5)) fun x6 =>
  bnd (itr (fun (s8 : Int32 × DD) => ((if p3 ≤ s8.1 then (some (.inr (s8.1, s8.2))) else
  (ltt ((p2 + s8.1)) fun x12 =>
  bnd (if ((0 : Int32)) ≤ x12 then (bnd (if x12 < x6 then (some (x12)) else
  (ltt ((x6 - ((1 : Int32)))) fun x38 =>
  some (x38))) fun (y36 : Int32) =>
  some (y36)) else
  (some ((0 : Int32)))) fun (y13 : Int32) =>
  ltt ((y13 * x4)) fun x14 =>
  bnd (itr (fun (s16 : Int32 × DD) => ((if p3 ≤ s16.1 then (some (.inr (s16.1, s16.2))) else
  (ltt ((p1 + s16.1)) fun x21 =>
  ltt ((s8.1 * ((21 : Int32)))) fun x22 =>
  ltt ((x22 + s16.1)) fun x23 =>
  bnd (if ((0 : Int32)) ≤ x21 then (bnd (if x21 < x4 then (some (x21)) else
  (ltt ((x4 - ((1 : Int32)))) fun x34 =>
  some (x34))) fun (y32 : Int32) =>
  some (y32)) else
  (some ((0 : Int32)))) fun (y24 : Int32) =>
  ltt ((x14 + y24)) fun x25 =>
  dr G 13 ((M.2 b2 ((0 : Int32)).toNatClampNeg)) fun b26 =>
  chk (¬ (x25 < 0 ∨ G.2.2 b26 ≤ x25.toNatClampNeg)) <|
  ltt (s16.2.1 b26 x25.toNatClampNeg) fun x27 =>
  dr G 13 ((s16.2.2 a 3)) fun b28 =>
  chk (¬ (x23 < 0 ∨ G.2.2 b28 ≤ x23.toNatClampNeg)) <|
  ltt (uI s16.2 b28 x23.toNatClampNeg x27) fun M29 =>
  ltt (s16.1 + (1 : Int32)) fun x30 =>
  some (.inl (x30, M29)))) : Option ((Int32 × DD) ⊕ (Int32 × DD)))) 1000000 ((0 : Int32), s8.2)) fun (y15 : Int32 × DD) =>
  ltt (s8.1 + (1 : Int32)) fun x18 =>
  some (.inl (x18, y15.2)))) : Option ((Int32 × DD) ⊕ (Int32 × DD)))) 1000000 ((0 : Int32), M)) fun (y7 : Int32 × DD) =>
  some y7.2
set_option maxHeartbeats 4000000 in
set_option maxRecDepth 100000 in
noncomputable def FX6_init (G : GG) (M : DD) (a : Nat)  : Option (NN × DD) :=
  chkP (Clo (xt G []) M) <|
  chk (¬ ((384 : Int32)) < 0 ∧ ((384 : Int32)).toNatClampNeg * 4 ≤ 536870912) <|
  ltt ((xt G []).1) fun c2 =>
  app [(13, ((384 : Int32)).toNatClampNeg)] <|
  ltt ([] ++ [(13, ((384 : Int32)).toNatClampNeg)]) fun L4 =>
  ltt (rO M c2) fun M5 =>
  ltt (uP M5 a 0 (some c2)) fun M8 =>
  chkP (Clo (xt G L4) M8) <|
  chk (¬ ((384 : Int32)) < 0 ∧ ((384 : Int32)).toNatClampNeg * 4 ≤ 536870912) <|
  ltt ((xt G L4).1) fun c10 =>
  app [(13, ((384 : Int32)).toNatClampNeg)] <|
  ltt (L4 ++ [(13, ((384 : Int32)).toNatClampNeg)]) fun L12 =>
  ltt (rO M8 c10) fun M13 =>
  ltt (uP M13 a 1 (some c10)) fun M16 =>
  chkP (Clo (xt G L12) M16) <|
  chk (¬ ((384 : Int32)) < 0 ∧ ((384 : Int32)).toNatClampNeg * 4 ≤ 536870912) <|
  ltt ((xt G L12).1) fun c18 =>
  app [(13, ((384 : Int32)).toNatClampNeg)] <|
  ltt (L12 ++ [(13, ((384 : Int32)).toNatClampNeg)]) fun L20 =>
  ltt (rO M16 c18) fun M21 =>
  ltt (uP M21 a 2 (some c18)) fun M24 =>
  chkP (Clo (xt G L20) M24) <|
  chk (¬ ((441 : Int32)) < 0 ∧ ((441 : Int32)).toNatClampNeg * 4 ≤ 536870912) <|
  ltt ((xt G L20).1) fun c26 =>
  app [(13, ((441 : Int32)).toNatClampNeg)] <|
  ltt (L20 ++ [(13, ((441 : Int32)).toNatClampNeg)]) fun L28 =>
  ltt (rO M24 c26) fun M29 =>
  ltt (uP M29 a 3 (some c26)) fun M32 =>
  chkP (Clo (xt G L28) M32) <|
  chk (¬ ((336 : Int32)) < 0 ∧ ((336 : Int32)).toNatClampNeg * 4 ≤ 536870912) <|
  ltt ((xt G L28).1) fun c34 =>
  app [(13, ((336 : Int32)).toNatClampNeg)] <|
  ltt (L28 ++ [(13, ((336 : Int32)).toNatClampNeg)]) fun L36 =>
  ltt (rO M32 c34) fun M37 =>
  ltt (uP M37 a 4 (some c34)) fun M40 =>
  chkP (Clo (xt G L36) M40) <|
  chk (¬ ((6 : Int32)) < 0 ∧ ((6 : Int32)).toNatClampNeg * 4 ≤ 536870912) <|
  ltt ((xt G L36).1) fun c42 =>
  app [(13, ((6 : Int32)).toNatClampNeg)] <|
  ltt (L36 ++ [(13, ((6 : Int32)).toNatClampNeg)]) fun L44 =>
  ltt (rO M40 c42) fun M45 =>
  ltt (uP M45 a 5 (some c42)) fun M48 =>
  chkP (Clo (xt G L44) M48) <|
  chk (¬ ((16 : Int32)) < 0 ∧ ((16 : Int32)).toNatClampNeg * 4 ≤ 536870912) <|
  ltt ((xt G L44).1) fun c50 =>
  app [(13, ((16 : Int32)).toNatClampNeg)] <|
  ltt (L44 ++ [(13, ((16 : Int32)).toNatClampNeg)]) fun L52 =>
  ltt (rO M48 c50) fun M53 =>
  ltt (uP M53 a 6 (some c50)) fun M56 =>
  chkP (Clo (xt G L52) M56) <|
  chk (¬ ((16 : Int32)) < 0 ∧ ((16 : Int32)).toNatClampNeg * 4 ≤ 536870912) <|
  ltt ((xt G L52).1) fun c58 =>
  app [(13, ((16 : Int32)).toNatClampNeg)] <|
  ltt (L52 ++ [(13, ((16 : Int32)).toNatClampNeg)]) fun L60 =>
  ltt (rO M56 c58) fun M61 =>
  ltt (uP M61 a 7 (some c58)) fun M64 =>
  chkP (Clo (xt G L60) M64) <|
  chk (¬ ((34 : Int32)) < 0 ∧ ((34 : Int32)).toNatClampNeg * 4 ≤ 536870912) <|
  ltt ((xt G L60).1) fun c66 =>
  app [(13, ((34 : Int32)).toNatClampNeg)] <|
  ltt (L60 ++ [(13, ((34 : Int32)).toNatClampNeg)]) fun L68 =>
  ltt (rO M64 c66) fun M69 =>
  ltt (uP M69 a 8 (some c66)) fun M72 =>
  some ([], M72)
set_option maxHeartbeats 4000000 in
set_option maxRecDepth 100000 in
def FX6_lumaAt (G : GG) (M : DD) (p0 : Option Nat) (p1 : Int32) (p2 : Int32) (p3 : Int32) : Option (DD × Int32) :=
  dr G 4 p0 fun b1 =>
  ltt (M.1 b1 1) fun x2 =>
  chk (¬ x2 = 0) <|
  ltt (p1 / x2) fun x3 =>
  ltt ((((16 : Int32)) * x3)) fun x4 =>
  ltt ((x4 + p3)) fun x5 =>
  ltt ((x5 * ((16 : Int32)))) fun x6 =>
  ltt (M.1 b1 1) fun x7 =>
  ltt ((x6 * x7)) fun x8 =>
  ltt (M.1 b1 1) fun x9 =>
  chk (¬ x9 = 0) <|
  ltt (p1 - p1 / x9 * x9) fun x10 =>
  ltt ((((16 : Int32)) * x10)) fun x11 =>
  ltt ((x8 + x11)) fun x12 =>
  ltt ((x12 + p2)) fun x13 =>
  some (M, x13)
set_option maxHeartbeats 4000000 in
set_option maxRecDepth 100000 in
def FX6_meanAround (G : GG) (M : DD) (a : Nat) (p0 : Int32) : Option (DD × Int32) :=
  dr G 13 ((M.2 a 8)) fun b1 =>
  chk (¬ (((0 : Int32)) < 0 ∨ G.2.2 b1 ≤ ((0 : Int32)).toNatClampNeg)) <|
  ltt (M.1 b1 ((0 : Int32)).toNatClampNeg) fun x2 =>
  chk (¬ (((1 : Int32)) < 0 ∨ G.2.2 b1 ≤ ((1 : Int32)).toNatClampNeg)) <|
  ltt (M.1 b1 ((1 : Int32)).toNatClampNeg) fun x3 =>
  ltt ((x2 + x3)) fun x4 =>
  chk (¬ (((2 : Int32)) < 0 ∨ G.2.2 b1 ≤ ((2 : Int32)).toNatClampNeg)) <|
  ltt (M.1 b1 ((2 : Int32)).toNatClampNeg) fun x5 =>
  ltt ((x4 + x5)) fun x6 =>
  chk (¬ (((3 : Int32)) < 0 ∨ G.2.2 b1 ≤ ((3 : Int32)).toNatClampNeg)) <|
  ltt (M.1 b1 ((3 : Int32)).toNatClampNeg) fun x7 =>
  ltt ((x6 + x7)) fun x8 =>
  chk (¬ (((5 : Int32)) < 0 ∨ G.2.2 b1 ≤ ((5 : Int32)).toNatClampNeg)) <|
  ltt (M.1 b1 ((5 : Int32)).toNatClampNeg) fun x9 =>
  chk (¬ (((6 : Int32)) < 0 ∨ G.2.2 b1 ≤ ((6 : Int32)).toNatClampNeg)) <|
  ltt (M.1 b1 ((6 : Int32)).toNatClampNeg) fun x10 =>
  ltt ((x9 + x10)) fun x11 =>
  chk (¬ (((7 : Int32)) < 0 ∨ G.2.2 b1 ≤ ((7 : Int32)).toNatClampNeg)) <|
  ltt (M.1 b1 ((7 : Int32)).toNatClampNeg) fun x12 =>
  ltt ((x11 + x12)) fun x13 =>
  chk (¬ (((8 : Int32)) < 0 ∨ G.2.2 b1 ≤ ((8 : Int32)).toNatClampNeg)) <|
  ltt (M.1 b1 ((8 : Int32)).toNatClampNeg) fun x14 =>
  ltt ((x13 + x14)) fun x15 =>
  ltt ((p0 &&& ((3 : Int32)))) fun x16 =>
  if x16 = (0 : Int32) then (some (M, (128 : Int32))) else
  (if x16 = (1 : Int32) then (ltt ((x8 + ((2 : Int32)))) fun x19 =>
  ltt ((x19 >>> (((2 : Int32)) &&& 31))) fun x20 =>
  some (M, x20)) else
  (if x16 = (2 : Int32) then (ltt ((x15 + ((2 : Int32)))) fun x22 =>
  ltt ((x22 >>> (((2 : Int32)) &&& 31))) fun x23 =>
  some (M, x23)) else
  (chk (x16.toInt < 0 ∨ 2 < x16.toInt) <|
  ltt ((x8 + x15)) fun x24 =>
  ltt ((x24 + ((4 : Int32)))) fun x25 =>
  ltt ((x25 >>> (((3 : Int32)) &&& 31))) fun x26 =>
  some (M, x26))))
set_option maxHeartbeats 4000000 in
set_option maxRecDepth 100000 in
def FX6_measured (G : GG) (M : DD) (p0 : Int32) (p1 : Int32) (p2 : Int32) (p3 : Int32) : Option (DD × Int32) :=
  bnd (if ((0 : Int32)) ≤ p0 then (some (p0)) else
  (ltt (-p0) fun x11 =>
  some (x11))) fun (y1 : Int32) =>
  ltt ((y1 * p1)) fun x2 =>
  ltt ((x2 + p2)) fun x3 =>
  ltt ((x3 >>> (p3 &&& 31))) fun x4 =>
  bnd (if x4 ≤ ((2000 : Int32)) then (some (x4)) else
  (some ((2000 : Int32)))) fun (y5 : Int32) =>
  bnd (if ((0 : Int32)) ≤ p0 then (some (y5)) else
  (ltt (-y5) fun x8 =>
  some (x8))) fun (y6 : Int32) =>
  some (M, y6)
set_option maxHeartbeats 4000000 in
set_option maxRecDepth 100000 in
def FX6_normAt (G : GG) (M : DD) (p0 : Int32) (p1 : Int32) (p2 : Int32) : Option (DD × Int32) :=
  ltt (p0 - p0 / ((6 : Int32)) * ((6 : Int32))) fun x1 =>
  ltt ((((3 : Int32)) * x1)) fun x2 =>
  ltt ((p1 ||| p2)) fun x3 =>
  ltt (x3 - x3 / ((2 : Int32)) * ((2 : Int32))) fun x4 =>
  bnd (if x4 = ((0 : Int32)) then (some ((0 : Int32))) else
  (ltt ((p1 &&& p2)) fun x8 =>
  ltt (x8 - x8 / ((2 : Int32)) * ((2 : Int32))) fun x9 =>
  bnd (if x9 = ((1 : Int32)) then (some ((2 : Int32))) else
  (some ((1 : Int32)))) fun (y10 : Int32) =>
  some (y10))) fun (y5 : Int32) =>
  ltt ((x2 + y5)) fun x6 =>
  some (M, x6)
set_option maxHeartbeats 4000000 in
set_option maxRecDepth 100000 in
def FX6_predictColours (G : GG) (M : DD) (a : Nat) (p0 : Option Nat) (p1 : Int32) (p2 : Int32) (p3 : Int32) (p4 : Option Nat) (p5 : Int32) : Option (DD) :=
  dr G 4 p0 fun b1 =>
  ltt (M.1 b1 1) fun x2 =>
  ltt ((((8 : Int32)) * x2)) fun x3 =>
  ltt (M.1 b1 2) fun x4 =>
  ltt ((((8 : Int32)) * x4)) fun x5 =>
  ltt ((p1 &&& ((7 : Int32)))) fun x6 =>
  ltt ((p2 &&& ((7 : Int32)))) fun x7 =>
  bnd (itr (fun (s9 : Int32 × DD) => ((ltt ((p3 * p3)) fun x12 =>
  if x12 ≤ s9.1 then (some (.inr (s9.1, s9.2))) else
  (ltt ((p1 >>> (((3 : Int32)) &&& 31))) fun x14 =>
  chk (¬ p3 = 0) <|
  ltt (s9.1 - s9.1 / p3 * p3) fun x15 =>
  ltt ((x14 + x15)) fun x16 =>
  ltt ((p2 >>> (((3 : Int32)) &&& 31))) fun x17 =>
  chk (¬ p3 = 0) <|
  ltt (s9.1 / p3) fun x18 =>
  ltt ((x17 + x18)) fun x19 =>
  bnd (if ((0 : Int32)) ≤ x16 then (bnd (if x16 < x3 then (some (x16)) else
  (ltt ((x3 - ((1 : Int32)))) fun x89 =>
  some (x89))) fun (y87 : Int32) =>
  some (y87)) else
  (some ((0 : Int32)))) fun (y20 : Int32) =>
  bnd (if ((-1 : Int32)) ≤ x16 then (ltt ((x3 - ((1 : Int32)))) fun x81 =>
  bnd (if x16 < x81 then (ltt ((x16 + ((1 : Int32)))) fun x84 =>
  some (x84)) else
  (ltt ((x3 - ((1 : Int32)))) fun x85 =>
  some (x85))) fun (y82 : Int32) =>
  some (y82)) else
  (some ((0 : Int32)))) fun (y21 : Int32) =>
  bnd (if ((0 : Int32)) ≤ x19 then (bnd (if x19 < x5 then (some (x19)) else
  (ltt ((x5 - ((1 : Int32)))) fun x79 =>
  some (x79))) fun (y77 : Int32) =>
  some (y77)) else
  (some ((0 : Int32)))) fun (y22 : Int32) =>
  ltt ((y22 * x3)) fun x23 =>
  bnd (if ((-1 : Int32)) ≤ x19 then (ltt ((x5 - ((1 : Int32)))) fun x71 =>
  bnd (if x19 < x71 then (ltt ((x19 + ((1 : Int32)))) fun x74 =>
  some (x74)) else
  (ltt ((x5 - ((1 : Int32)))) fun x75 =>
  some (x75))) fun (y72 : Int32) =>
  some (y72)) else
  (some ((0 : Int32)))) fun (y24 : Int32) =>
  ltt ((y24 * x3)) fun x25 =>
  bnd (itr (fun (s27 : Int32 × DD) => ((if ((3 : Int32)) ≤ s27.1 then (some (.inr (s27.1, s27.2))) else
  (dr G 15 ((s27.2.2 b1 4)) fun b32 =>
  chk (¬ (s27.1 < 0 ∨ G.2.2 b32 ≤ s27.1.toNatClampNeg)) <|
  ltt ((((8 : Int32)) - x6)) fun x33 =>
  ltt ((((8 : Int32)) - x7)) fun x34 =>
  ltt ((x33 * x34)) fun x35 =>
  ltt ((x23 + y20)) fun x36 =>
  dr G 13 ((s27.2.2 b32 s27.1.toNatClampNeg)) fun b37 =>
  chk (¬ (x36 < 0 ∨ G.2.2 b37 ≤ x36.toNatClampNeg)) <|
  ltt (s27.2.1 b37 x36.toNatClampNeg) fun x38 =>
  ltt ((x35 * x38)) fun x39 =>
  ltt ((((8 : Int32)) - x7)) fun x40 =>
  ltt ((x6 * x40)) fun x41 =>
  ltt ((x23 + y21)) fun x42 =>
  chk (¬ (x42 < 0 ∨ G.2.2 b37 ≤ x42.toNatClampNeg)) <|
  ltt (s27.2.1 b37 x42.toNatClampNeg) fun x43 =>
  ltt ((x41 * x43)) fun x44 =>
  ltt ((x39 + x44)) fun x45 =>
  ltt ((((8 : Int32)) - x6)) fun x46 =>
  ltt ((x46 * x7)) fun x47 =>
  ltt ((x25 + y20)) fun x48 =>
  chk (¬ (x48 < 0 ∨ G.2.2 b37 ≤ x48.toNatClampNeg)) <|
  ltt (s27.2.1 b37 x48.toNatClampNeg) fun x49 =>
  ltt ((x47 * x49)) fun x50 =>
  ltt ((x45 + x50)) fun x51 =>
  ltt ((x6 * x7)) fun x52 =>
  ltt ((x25 + y21)) fun x53 =>
  chk (¬ (x53 < 0 ∨ G.2.2 b37 ≤ x53.toNatClampNeg)) <|
  ltt (s27.2.1 b37 x53.toNatClampNeg) fun x54 =>
  ltt ((x52 * x54)) fun x55 =>
  ltt ((x51 + x55)) fun x56 =>
  ltt ((s27.1 - ((1 : Int32)))) fun x57 =>
  ltt ((((64 : Int32)) * x57)) fun x58 =>
  ltt ((p5 + x58)) fun x59 =>
  chk (¬ p3 = 0) <|
  ltt (s9.1 / p3) fun x60 =>
  ltt ((x60 * ((8 : Int32)))) fun x61 =>
  ltt ((x59 + x61)) fun x62 =>
  chk (¬ p3 = 0) <|
  ltt (s9.1 - s9.1 / p3 * p3) fun x63 =>
  ltt ((x62 + x63)) fun x64 =>
  ltt ((x56 + ((32 : Int32)))) fun x65 =>
  ltt ((x65 >>> (((6 : Int32)) &&& 31))) fun x66 =>
  dr G 13 p4 fun b67 =>
  chk (¬ (x64 < 0 ∨ G.2.2 b67 ≤ x64.toNatClampNeg)) <|
  ltt (uI s27.2 b67 x64.toNatClampNeg x66) fun M68 =>
  ltt (s27.1 + (1 : Int32)) fun x69 =>
  some (.inl (x69, M68)))) : Option ((Int32 × DD) ⊕ (Int32 × DD)))) 1000000 ((1 : Int32), s9.2)) fun (y26 : Int32 × DD) =>
  ltt (s9.1 + (1 : Int32)) fun x29 =>
  some (.inl (x29, y26.2)))) : Option ((Int32 × DD) ⊕ (Int32 × DD)))) 1000000 ((0 : Int32), M)) fun (y8 : Int32 × DD) =>
  some y8.2
set_option maxHeartbeats 4000000 in
set_option maxRecDepth 100000 in
def FX6_roundingOf (G : GG) (M : DD) (p0 : Int32) (p1 : Int32) : Option (DD × Int32) :=
  ltt (p0 / ((6 : Int32))) fun x1 =>
  ltt ((((15 : Int32)) + x1)) fun x2 =>
  ltt ((((1 : Int32)) <<< (x2 &&& 31))) fun x3 =>
  bnd (if p1 = ((0 : Int32)) then (some ((6 : Int32))) else
  (some ((3 : Int32)))) fun (y4 : Int32) =>
  chk (¬ y4 = 0) <|
  ltt (x3 / y4) fun x5 =>
  some (M, x5)
set_option maxHeartbeats 4000000 in
set_option maxRecDepth 100000 in
def FX6_sumAround (G : GG) (M : DD) (a : Nat) (p0 : Int32) (p1 : Int32) : Option (DD × Int32) :=
  bnd (itr (fun (s2 : Int32 × Int32) => ((ltt ((p0 + p1)) fun x5 =>
  if x5 ≤ s2.2 then (some (.inr (s2.1, s2.2))) else
  (dr G 13 ((M.2 a 8)) fun b7 =>
  chk (¬ (s2.2 < 0 ∨ G.2.2 b7 ≤ s2.2.toNatClampNeg)) <|
  ltt (M.1 b7 s2.2.toNatClampNeg) fun x8 =>
  ltt ((s2.1 + x8)) fun x9 =>
  ltt (s2.2 + (1 : Int32)) fun x10 =>
  some (.inl (x9, x10)))) : Option ((Int32 × Int32) ⊕ (Int32 × Int32)))) 1000000 ((0 : Int32), p0)) fun (y1 : Int32 × Int32) =>
  some (M, y1.1)
set_option maxHeartbeats 4000000 in
set_option maxRecDepth 100000 in
def FX6_takeAround (G : GG) (M : DD) (a : Nat) (p0 : Option Nat) (p1 : Int32) (p2 : Int32) : Option (DD) :=
  dr G 4 p0 fun b1 =>
  dr G 15 ((M.2 b1 4)) fun b2 =>
  chk (¬ (((0 : Int32)) < 0 ∨ G.2.2 b2 ≤ ((0 : Int32)).toNatClampNeg)) <|
  ltt (M.1 b1 1) fun x3 =>
  ltt ((((16 : Int32)) * x3)) fun x4 =>
  bnd (itr (fun (s6 : Int32 × DD) => ((if ((4 : Int32)) ≤ s6.1 then (some (.inr (s6.1, s6.2))) else
  (ltt ((((3 : Int32)) - s6.1)) fun x37 =>
  ltt ((p2 &&& ((1 : Int32)))) fun x38 =>
  bnd (if x38 = ((0 : Int32)) then (some ((0 : Int32))) else
  (ltt ((s6.1 * x4)) fun x54 =>
  ltt ((p1 + x54)) fun x55 =>
  ltt ((x55 - ((1 : Int32)))) fun x56 =>
  dr G 13 ((M.2 b2 ((0 : Int32)).toNatClampNeg)) fun b57 =>
  chk (¬ (x56 < 0 ∨ G.2.2 b57 ≤ x56.toNatClampNeg)) <|
  ltt (s6.2.1 b57 x56.toNatClampNeg) fun x58 =>
  some (x58))) fun (y39 : Int32) =>
  dr G 13 ((s6.2.2 a 8)) fun b40 =>
  chk (¬ (x37 < 0 ∨ G.2.2 b40 ≤ x37.toNatClampNeg)) <|
  ltt (uI s6.2 b40 x37.toNatClampNeg y39) fun M41 =>
  ltt ((((5 : Int32)) + s6.1)) fun x42 =>
  ltt ((p2 &&& ((2 : Int32)))) fun x43 =>
  bnd (if x43 = ((0 : Int32)) then (some ((0 : Int32))) else
  (ltt ((p1 - x4)) fun x49 =>
  ltt ((x49 + s6.1)) fun x50 =>
  dr G 13 ((M.2 b2 ((0 : Int32)).toNatClampNeg)) fun b51 =>
  chk (¬ (x50 < 0 ∨ G.2.2 b51 ≤ x50.toNatClampNeg)) <|
  ltt (M41.1 b51 x50.toNatClampNeg) fun x52 =>
  some (x52))) fun (y44 : Int32) =>
  dr G 13 ((M41.2 a 8)) fun b45 =>
  chk (¬ (x42 < 0 ∨ G.2.2 b45 ≤ x42.toNatClampNeg)) <|
  ltt (uI M41 b45 x42.toNatClampNeg y44) fun M46 =>
  ltt (s6.1 + (1 : Int32)) fun x47 =>
  some (.inl (x47, M46)))) : Option ((Int32 × DD) ⊕ (Int32 × DD)))) 1000000 ((0 : Int32), M)) fun (y5 : Int32 × DD) =>
  ltt ((p2 &&& ((4 : Int32)))) fun x8 =>
  bnd (if x8 = ((0 : Int32)) then (some ((0 : Int32))) else
  (ltt ((p1 - x4)) fun x31 =>
  ltt ((x31 - ((1 : Int32)))) fun x32 =>
  dr G 13 ((M.2 b2 ((0 : Int32)).toNatClampNeg)) fun b33 =>
  chk (¬ (x32 < 0 ∨ G.2.2 b33 ≤ x32.toNatClampNeg)) <|
  ltt (y5.2.1 b33 x32.toNatClampNeg) fun x34 =>
  some (x34))) fun (y9 : Int32) =>
  dr G 13 ((y5.2.2 a 8)) fun b10 =>
  chk (¬ (((4 : Int32)) < 0 ∨ G.2.2 b10 ≤ ((4 : Int32)).toNatClampNeg)) <|
  ltt (uI y5.2 b10 ((4 : Int32)).toNatClampNeg y9) fun M11 =>
  bnd (itr (fun (s13 : Int32 × DD) => ((if ((8 : Int32)) ≤ s13.1 then (some (.inr (s13.1, s13.2))) else
  (ltt ((((5 : Int32)) + s13.1)) fun x17 =>
  ltt ((p2 &&& ((8 : Int32)))) fun x18 =>
  bnd (if x18 = ((0 : Int32)) then (dr G 13 ((s13.2.2 a 8)) fun b24 =>
  chk (¬ (((8 : Int32)) < 0 ∨ G.2.2 b24 ≤ ((8 : Int32)).toNatClampNeg)) <|
  ltt (s13.2.1 b24 ((8 : Int32)).toNatClampNeg) fun x25 =>
  some (x25)) else
  (ltt ((p1 - x4)) fun x26 =>
  ltt ((x26 + s13.1)) fun x27 =>
  dr G 13 ((M.2 b2 ((0 : Int32)).toNatClampNeg)) fun b28 =>
  chk (¬ (x27 < 0 ∨ G.2.2 b28 ≤ x27.toNatClampNeg)) <|
  ltt (s13.2.1 b28 x27.toNatClampNeg) fun x29 =>
  some (x29))) fun (y19 : Int32) =>
  dr G 13 ((s13.2.2 a 8)) fun b20 =>
  chk (¬ (x17 < 0 ∨ G.2.2 b20 ≤ x17.toNatClampNeg)) <|
  ltt (uI s13.2 b20 x17.toNatClampNeg y19) fun M21 =>
  ltt (s13.1 + (1 : Int32)) fun x22 =>
  some (.inl (x22, M21)))) : Option ((Int32 × DD) ⊕ (Int32 × DD)))) 1000000 ((4 : Int32), M11)) fun (y12 : Int32 × DD) =>
  some y12.2
set_option maxHeartbeats 4000000 in
set_option maxRecDepth 100000 in
def FX6_takeMotion (G : GG) (M : DD) (a : Nat) (p0 : Option Nat) (p1 : Int32) : Option (DD) :=
  bnd (itr (fun (s2 : Int32 × DD) => ((if ((2 : Int32)) ≤ s2.1 then (some (.inr (s2.1, s2.2))) else
  (bnd (FX4_at G s2.2 s2.1 p1) fun y6 =>
  ltt ((((3 : Int32)) * s2.1)) fun x7 =>
  dr G 4 p0 fun b8 =>
  dr G 13 ((y6.1.2 b8 5)) fun b9 =>
  chk (¬ (y6.2 < 0 ∨ G.2.2 b9 ≤ y6.2.toNatClampNeg)) <|
  ltt (y6.1.1 b9 y6.2.toNatClampNeg) fun x10 =>
  dr G 13 ((y6.1.2 a 5)) fun b11 =>
  chk (¬ (x7 < 0 ∨ G.2.2 b11 ≤ x7.toNatClampNeg)) <|
  ltt (uI y6.1 b11 x7.toNatClampNeg x10) fun M12 =>
  ltt ((((3 : Int32)) * s2.1)) fun x13 =>
  ltt ((x13 + ((1 : Int32)))) fun x14 =>
  ltt ((((2 : Int32)) * y6.2)) fun x15 =>
  dr G 13 ((M12.2 b8 7)) fun b16 =>
  chk (¬ (x15 < 0 ∨ G.2.2 b16 ≤ x15.toNatClampNeg)) <|
  ltt (M12.1 b16 x15.toNatClampNeg) fun x17 =>
  dr G 13 ((M12.2 a 5)) fun b18 =>
  chk (¬ (x14 < 0 ∨ G.2.2 b18 ≤ x14.toNatClampNeg)) <|
  ltt (uI M12 b18 x14.toNatClampNeg x17) fun M19 =>
  ltt ((((3 : Int32)) * s2.1)) fun x20 =>
  ltt ((x20 + ((2 : Int32)))) fun x21 =>
  ltt ((((2 : Int32)) * y6.2)) fun x22 =>
  ltt ((x22 + ((1 : Int32)))) fun x23 =>
  dr G 13 ((M19.2 b8 7)) fun b24 =>
  chk (¬ (x23 < 0 ∨ G.2.2 b24 ≤ x23.toNatClampNeg)) <|
  ltt (M19.1 b24 x23.toNatClampNeg) fun x25 =>
  dr G 13 ((M19.2 a 5)) fun b26 =>
  chk (¬ (x21 < 0 ∨ G.2.2 b26 ≤ x21.toNatClampNeg)) <|
  ltt (uI M19 b26 x21.toNatClampNeg x25) fun M27 =>
  ltt (s2.1 + (1 : Int32)) fun x28 =>
  some (.inl (x28, M27)))) : Option ((Int32 × DD) ⊕ (Int32 × DD)))) 1000000 ((0 : Int32), M)) fun (y1 : Int32 × DD) =>
  some y1.2
set_option maxHeartbeats 4000000 in
set_option maxRecDepth 100000 in
def FX6_takeRaw (G : GG) (M : DD) (a : Nat) (p0 : Option Nat) (p1 : Option Nat) (p2 : Int32) : Option (DD) :=
  bnd (itr (fun (s2 : Int32 × DD) => ((if ((16 : Int32)) ≤ s2.1 then (some (.inr (s2.1, s2.2))) else
  (dr G 15 p1 fun b28 =>
  chk (¬ (((0 : Int32)) < 0 ∨ G.2.2 b28 ≤ ((0 : Int32)).toNatClampNeg)) <|
  dr G 9 p0 fun b29 =>
  bnd (FX6_lumaAt G s2.2 ((s2.2.2 b29 0)) p2 ((0 : Int32)) s2.1) fun y30 =>
  ltt ((((16 : Int32)) * s2.1)) fun x31 =>
  dr G 13 ((s2.2.2 b28 ((0 : Int32)).toNatClampNeg)) fun b32 =>
  dr G 13 ((y30.1.2 a 0)) fun b33 =>
  chk (¬ y30.2 < 0 ∧ ¬ x31 < 0 ∧ ¬ ((16 : Int32)) < 0 ∧ y30.2.toNatClampNeg + ((16 : Int32)).toNatClampNeg ≤ G.2.2 b32 ∧ x31.toNatClampNeg + ((16 : Int32)).toNatClampNeg ≤ G.2.2 b33) <|
  ltt (rI y30.1 b33 (va_cpy (y30.1.1 b32) (y30.1.1 b33) y30.2.toNatClampNeg x31.toNatClampNeg ((16 : Int32)).toNatClampNeg)) fun M34 =>
  ltt (s2.1 + (1 : Int32)) fun x35 =>
  some (.inl (x35, M34)))) : Option ((Int32 × DD) ⊕ (Int32 × DD)))) 1000000 ((0 : Int32), M)) fun (y1 : Int32 × DD) =>
  bnd (itr (fun (s5 : Int32 × DD) => ((if ((3 : Int32)) ≤ s5.1 then (some (.inr (s5.1, s5.2))) else
  (bnd (itr (fun (s10 : Int32 × DD) => ((if ((8 : Int32)) ≤ s10.1 then (some (.inr (s10.1, s10.2))) else
  (dr G 15 p1 fun b15 =>
  chk (¬ (s5.1 < 0 ∨ G.2.2 b15 ≤ s5.1.toNatClampNeg)) <|
  dr G 9 p0 fun b16 =>
  bnd (FX6_colourAt G s10.2 ((s10.2.2 b16 0)) p2 ((0 : Int32)) s10.1) fun y17 =>
  ltt ((((64 : Int32)) * s5.1)) fun x18 =>
  ltt ((((192 : Int32)) + x18)) fun x19 =>
  ltt ((((8 : Int32)) * s10.1)) fun x20 =>
  ltt ((x19 + x20)) fun x21 =>
  dr G 13 ((s10.2.2 b15 s5.1.toNatClampNeg)) fun b22 =>
  dr G 13 ((y17.1.2 a 0)) fun b23 =>
  chk (¬ y17.2 < 0 ∧ ¬ x21 < 0 ∧ ¬ ((8 : Int32)) < 0 ∧ y17.2.toNatClampNeg + ((8 : Int32)).toNatClampNeg ≤ G.2.2 b22 ∧ x21.toNatClampNeg + ((8 : Int32)).toNatClampNeg ≤ G.2.2 b23) <|
  ltt (rI y17.1 b23 (va_cpy (y17.1.1 b22) (y17.1.1 b23) y17.2.toNatClampNeg x21.toNatClampNeg ((8 : Int32)).toNatClampNeg)) fun M24 =>
  ltt (s10.1 + (1 : Int32)) fun x25 =>
  some (.inl (x25, M24)))) : Option ((Int32 × DD) ⊕ (Int32 × DD)))) 1000000 ((0 : Int32), s5.2)) fun (y9 : Int32 × DD) =>
  ltt (s5.1 + (1 : Int32)) fun x12 =>
  some (.inl (x12, y9.2)))) : Option ((Int32 × DD) ⊕ (Int32 × DD)))) 1000000 ((1 : Int32), y1.2)) fun (y4 : Int32 × DD) =>
  some y4.2
set_option maxHeartbeats 4000000 in
set_option maxRecDepth 100000 in
def FX6_takeSides (G : GG) (M : DD) (a : Nat) (p0 : Option Nat) (p1 : Int32) (p2 : Int32) (p3 : Int32) (p4 : Int32) : Option (DD) :=
  ltt ((p4 &&& ((4 : Int32)))) fun x1 =>
  bnd (if x1 = ((0 : Int32)) then (some ((0 : Int32))) else
  (ltt ((p1 - p2)) fun x37 =>
  ltt ((x37 - ((1 : Int32)))) fun x38 =>
  dr G 13 p0 fun b39 =>
  chk (¬ (x38 < 0 ∨ G.2.2 b39 ≤ x38.toNatClampNeg)) <|
  ltt (M.1 b39 x38.toNatClampNeg) fun x40 =>
  some (x40))) fun (y2 : Int32) =>
  dr G 13 ((M.2 a 8)) fun b3 =>
  chk (¬ (((0 : Int32)) < 0 ∨ G.2.2 b3 ≤ ((0 : Int32)).toNatClampNeg)) <|
  ltt (uI M b3 ((0 : Int32)).toNatClampNeg y2) fun M4 =>
  ltt ((p3 + ((1 : Int32)))) fun x5 =>
  dr G 13 ((M4.2 a 8)) fun b6 =>
  chk (¬ (x5 < 0 ∨ G.2.2 b6 ≤ x5.toNatClampNeg)) <|
  ltt (uI M4 b6 x5.toNatClampNeg y2) fun M7 =>
  bnd (itr (fun (s9 : Int32 × DD) => ((if p3 ≤ s9.1 then (some (.inr (s9.1, s9.2))) else
  (ltt ((((1 : Int32)) + s9.1)) fun x13 =>
  ltt ((p4 &&& ((2 : Int32)))) fun x14 =>
  bnd (if x14 = ((0 : Int32)) then (some ((0 : Int32))) else
  (ltt ((p1 - p2)) fun x32 =>
  ltt ((x32 + s9.1)) fun x33 =>
  dr G 13 p0 fun b34 =>
  chk (¬ (x33 < 0 ∨ G.2.2 b34 ≤ x33.toNatClampNeg)) <|
  ltt (s9.2.1 b34 x33.toNatClampNeg) fun x35 =>
  some (x35))) fun (y15 : Int32) =>
  dr G 13 ((s9.2.2 a 8)) fun b16 =>
  chk (¬ (x13 < 0 ∨ G.2.2 b16 ≤ x13.toNatClampNeg)) <|
  ltt (uI s9.2 b16 x13.toNatClampNeg y15) fun M17 =>
  ltt ((p3 + ((2 : Int32)))) fun x18 =>
  ltt ((x18 + s9.1)) fun x19 =>
  ltt ((p4 &&& ((1 : Int32)))) fun x20 =>
  bnd (if x20 = ((0 : Int32)) then (some ((0 : Int32))) else
  (ltt ((s9.1 * p2)) fun x26 =>
  ltt ((p1 + x26)) fun x27 =>
  ltt ((x27 - ((1 : Int32)))) fun x28 =>
  dr G 13 p0 fun b29 =>
  chk (¬ (x28 < 0 ∨ G.2.2 b29 ≤ x28.toNatClampNeg)) <|
  ltt (M17.1 b29 x28.toNatClampNeg) fun x30 =>
  some (x30))) fun (y21 : Int32) =>
  dr G 13 ((M17.2 a 8)) fun b22 =>
  chk (¬ (x19 < 0 ∨ G.2.2 b22 ≤ x19.toNatClampNeg)) <|
  ltt (uI M17 b22 x19.toNatClampNeg y21) fun M23 =>
  ltt (s9.1 + (1 : Int32)) fun x24 =>
  some (.inl (x24, M23)))) : Option ((Int32 × DD) ⊕ (Int32 × DD)))) 1000000 ((0 : Int32), M7)) fun (y8 : Int32 × DD) =>
  some y8.2
set_option maxHeartbeats 4000000 in
set_option maxRecDepth 100000 in
def FX6_tapBoth (G : GG) (M : DD) (a : Nat) (p0 : Int32) (p1 : Option Nat) (p2 : Int32) (p3 : Int32) : Option (DD) :=
  bnd (itr (fun (s2 : Int32 × DD) => ((ltt ((p0 + ((5 : Int32)))) fun x54 =>
  ltt ((p0 * x54)) fun x55 =>
  if x55 ≤ s2.1 then (some (.inr (s2.1, s2.2))) else
  (chk (¬ p0 = 0) <|
  ltt (s2.1 / p0) fun x57 =>
  ltt ((x57 * ((21 : Int32)))) fun x58 =>
  chk (¬ p0 = 0) <|
  ltt (s2.1 - s2.1 / p0 * p0) fun x59 =>
  ltt ((x58 + x59)) fun x60 =>
  chk (¬ p0 = 0) <|
  ltt (s2.1 / p0) fun x61 =>
  ltt ((x61 * ((16 : Int32)))) fun x62 =>
  chk (¬ p0 = 0) <|
  ltt (s2.1 - s2.1 / p0 * p0) fun x63 =>
  ltt ((x62 + x63)) fun x64 =>
  dr G 13 ((M.2 a 3)) fun b65 =>
  chk (¬ (x60 < 0 ∨ G.2.2 b65 ≤ x60.toNatClampNeg)) <|
  ltt (s2.2.1 b65 x60.toNatClampNeg) fun x66 =>
  ltt ((x60 + ((1 : Int32)))) fun x67 =>
  chk (¬ (x67 < 0 ∨ G.2.2 b65 ≤ x67.toNatClampNeg)) <|
  ltt (s2.2.1 b65 x67.toNatClampNeg) fun x68 =>
  ltt ((((5 : Int32)) * x68)) fun x69 =>
  ltt ((x66 - x69)) fun x70 =>
  ltt ((x60 + ((2 : Int32)))) fun x71 =>
  chk (¬ (x71 < 0 ∨ G.2.2 b65 ≤ x71.toNatClampNeg)) <|
  ltt (s2.2.1 b65 x71.toNatClampNeg) fun x72 =>
  ltt ((((20 : Int32)) * x72)) fun x73 =>
  ltt ((x70 + x73)) fun x74 =>
  ltt ((x60 + ((3 : Int32)))) fun x75 =>
  chk (¬ (x75 < 0 ∨ G.2.2 b65 ≤ x75.toNatClampNeg)) <|
  ltt (s2.2.1 b65 x75.toNatClampNeg) fun x76 =>
  ltt ((((20 : Int32)) * x76)) fun x77 =>
  ltt ((x74 + x77)) fun x78 =>
  ltt ((x60 + ((4 : Int32)))) fun x79 =>
  chk (¬ (x79 < 0 ∨ G.2.2 b65 ≤ x79.toNatClampNeg)) <|
  ltt (s2.2.1 b65 x79.toNatClampNeg) fun x80 =>
  ltt ((((5 : Int32)) * x80)) fun x81 =>
  ltt ((x78 - x81)) fun x82 =>
  ltt ((x60 + ((5 : Int32)))) fun x83 =>
  chk (¬ (x83 < 0 ∨ G.2.2 b65 ≤ x83.toNatClampNeg)) <|
  ltt (s2.2.1 b65 x83.toNatClampNeg) fun x84 =>
  ltt ((x82 + x84)) fun x85 =>
  dr G 13 ((s2.2.2 a 4)) fun b86 =>
  chk (¬ (x64 < 0 ∨ G.2.2 b86 ≤ x64.toNatClampNeg)) <|
  ltt (uI s2.2 b86 x64.toNatClampNeg x85) fun M87 =>
  ltt (s2.1 + (1 : Int32)) fun x88 =>
  some (.inl (x88, M87)))) : Option ((Int32 × DD) ⊕ (Int32 × DD)))) 1000000 ((0 : Int32), M)) fun (y1 : Int32 × DD) =>
  bnd (itr (fun (s5 : Int32 × DD) => ((ltt ((p0 * p0)) fun x8 =>
  if x8 ≤ s5.1 then (some (.inr (s5.1, s5.2))) else
  (chk (¬ p0 = 0) <|
  ltt (s5.1 / p0) fun x10 =>
  ltt ((x10 * ((16 : Int32)))) fun x11 =>
  chk (¬ p0 = 0) <|
  ltt (s5.1 - s5.1 / p0 * p0) fun x12 =>
  ltt ((x11 + x12)) fun x13 =>
  dr G 13 ((y1.2.2 a 4)) fun b14 =>
  chk (¬ (x13 < 0 ∨ G.2.2 b14 ≤ x13.toNatClampNeg)) <|
  ltt (s5.2.1 b14 x13.toNatClampNeg) fun x15 =>
  ltt ((x13 + ((16 : Int32)))) fun x16 =>
  chk (¬ (x16 < 0 ∨ G.2.2 b14 ≤ x16.toNatClampNeg)) <|
  ltt (s5.2.1 b14 x16.toNatClampNeg) fun x17 =>
  ltt ((((5 : Int32)) * x17)) fun x18 =>
  ltt ((x15 - x18)) fun x19 =>
  ltt ((x13 + ((32 : Int32)))) fun x20 =>
  chk (¬ (x20 < 0 ∨ G.2.2 b14 ≤ x20.toNatClampNeg)) <|
  ltt (s5.2.1 b14 x20.toNatClampNeg) fun x21 =>
  ltt ((((20 : Int32)) * x21)) fun x22 =>
  ltt ((x19 + x22)) fun x23 =>
  ltt ((x13 + ((48 : Int32)))) fun x24 =>
  chk (¬ (x24 < 0 ∨ G.2.2 b14 ≤ x24.toNatClampNeg)) <|
  ltt (s5.2.1 b14 x24.toNatClampNeg) fun x25 =>
  ltt ((((20 : Int32)) * x25)) fun x26 =>
  ltt ((x23 + x26)) fun x27 =>
  ltt ((x13 + ((64 : Int32)))) fun x28 =>
  chk (¬ (x28 < 0 ∨ G.2.2 b14 ≤ x28.toNatClampNeg)) <|
  ltt (s5.2.1 b14 x28.toNatClampNeg) fun x29 =>
  ltt ((((5 : Int32)) * x29)) fun x30 =>
  ltt ((x27 - x30)) fun x31 =>
  ltt ((x13 + ((80 : Int32)))) fun x32 =>
  chk (¬ (x32 < 0 ∨ G.2.2 b14 ≤ x32.toNatClampNeg)) <|
  ltt (s5.2.1 b14 x32.toNatClampNeg) fun x33 =>
  ltt ((x31 + x33)) fun x34 =>
  ltt ((x34 + ((512 : Int32)))) fun x35 =>
  ltt ((x35 >>> (((10 : Int32)) &&& 31))) fun x36 =>
  bnd (if ((0 : Int32)) ≤ x36 then (bnd (if x36 ≤ ((255 : Int32)) then (some (x36)) else
  (some ((255 : Int32)))) fun (y51 : Int32) =>
  some (y51)) else
  (some ((0 : Int32)))) fun (y37 : Int32) =>
  ltt ((p2 + x13)) fun x38 =>
  bnd (if p3 = ((0 : Int32)) then (some (y37)) else
  (ltt ((p2 + x13)) fun x44 =>
  dr G 13 p1 fun b45 =>
  chk (¬ (x44 < 0 ∨ G.2.2 b45 ≤ x44.toNatClampNeg)) <|
  ltt (s5.2.1 b45 x44.toNatClampNeg) fun x46 =>
  ltt ((x46 + y37)) fun x47 =>
  ltt ((x47 + ((1 : Int32)))) fun x48 =>
  ltt ((x48 >>> (((1 : Int32)) &&& 31))) fun x49 =>
  some (x49))) fun (y39 : Int32) =>
  dr G 13 p1 fun b40 =>
  chk (¬ (x38 < 0 ∨ G.2.2 b40 ≤ x38.toNatClampNeg)) <|
  ltt (uI s5.2 b40 x38.toNatClampNeg y39) fun M41 =>
  ltt (s5.1 + (1 : Int32)) fun x42 =>
  some (.inl (x42, M41)))) : Option ((Int32 × DD) ⊕ (Int32 × DD)))) 1000000 ((0 : Int32), y1.2)) fun (y4 : Int32 × DD) =>
  some y4.2
set_option maxHeartbeats 4000000 in
set_option maxRecDepth 100000 in
def FX6_tapColumns (G : GG) (M : DD) (a : Nat) (p0 : Int32) (p1 : Int32) (p2 : Option Nat) (p3 : Int32) (p4 : Int32) : Option (DD) :=
  bnd (itr (fun (s2 : Int32 × DD) => ((ltt ((p0 * p0)) fun x5 =>
  if x5 ≤ s2.1 then (some (.inr (s2.1, s2.2))) else
  (chk (¬ p0 = 0) <|
  ltt (s2.1 / p0) fun x7 =>
  ltt ((x7 * ((21 : Int32)))) fun x8 =>
  chk (¬ p0 = 0) <|
  ltt (s2.1 - s2.1 / p0 * p0) fun x9 =>
  ltt ((x8 + x9)) fun x10 =>
  ltt ((x10 + p1)) fun x11 =>
  dr G 13 ((M.2 a 3)) fun b12 =>
  chk (¬ (x11 < 0 ∨ G.2.2 b12 ≤ x11.toNatClampNeg)) <|
  ltt (s2.2.1 b12 x11.toNatClampNeg) fun x13 =>
  ltt ((x11 + ((21 : Int32)))) fun x14 =>
  chk (¬ (x14 < 0 ∨ G.2.2 b12 ≤ x14.toNatClampNeg)) <|
  ltt (s2.2.1 b12 x14.toNatClampNeg) fun x15 =>
  ltt ((((5 : Int32)) * x15)) fun x16 =>
  ltt ((x13 - x16)) fun x17 =>
  ltt ((x11 + ((42 : Int32)))) fun x18 =>
  chk (¬ (x18 < 0 ∨ G.2.2 b12 ≤ x18.toNatClampNeg)) <|
  ltt (s2.2.1 b12 x18.toNatClampNeg) fun x19 =>
  ltt ((((20 : Int32)) * x19)) fun x20 =>
  ltt ((x17 + x20)) fun x21 =>
  ltt ((x11 + ((63 : Int32)))) fun x22 =>
  chk (¬ (x22 < 0 ∨ G.2.2 b12 ≤ x22.toNatClampNeg)) <|
  ltt (s2.2.1 b12 x22.toNatClampNeg) fun x23 =>
  ltt ((((20 : Int32)) * x23)) fun x24 =>
  ltt ((x21 + x24)) fun x25 =>
  ltt ((x11 + ((84 : Int32)))) fun x26 =>
  chk (¬ (x26 < 0 ∨ G.2.2 b12 ≤ x26.toNatClampNeg)) <|
  ltt (s2.2.1 b12 x26.toNatClampNeg) fun x27 =>
  ltt ((((5 : Int32)) * x27)) fun x28 =>
  ltt ((x25 - x28)) fun x29 =>
  ltt ((x11 + ((105 : Int32)))) fun x30 =>
  chk (¬ (x30 < 0 ∨ G.2.2 b12 ≤ x30.toNatClampNeg)) <|
  ltt (s2.2.1 b12 x30.toNatClampNeg) fun x31 =>
  ltt ((x29 + x31)) fun x32 =>
  ltt ((x32 + ((16 : Int32)))) fun x33 =>
  ltt ((x33 >>> (((5 : Int32)) &&& 31))) fun x34 =>
  bnd (if ((0 : Int32)) ≤ x34 then (bnd (if x34 ≤ ((255 : Int32)) then (some (x34)) else
  (some ((255 : Int32)))) fun (y52 : Int32) =>
  some (y52)) else
  (some ((0 : Int32)))) fun (y35 : Int32) =>
  chk (¬ p0 = 0) <|
  ltt (s2.1 / p0) fun x36 =>
  ltt ((x36 * ((16 : Int32)))) fun x37 =>
  ltt ((p3 + x37)) fun x38 =>
  chk (¬ p0 = 0) <|
  ltt (s2.1 - s2.1 / p0 * p0) fun x39 =>
  ltt ((x38 + x39)) fun x40 =>
  bnd (if p4 = ((0 : Int32)) then (some (y35)) else
  (dr G 13 p2 fun b46 =>
  chk (¬ (x40 < 0 ∨ G.2.2 b46 ≤ x40.toNatClampNeg)) <|
  ltt (s2.2.1 b46 x40.toNatClampNeg) fun x47 =>
  ltt ((x47 + y35)) fun x48 =>
  ltt ((x48 + ((1 : Int32)))) fun x49 =>
  ltt ((x49 >>> (((1 : Int32)) &&& 31))) fun x50 =>
  some (x50))) fun (y41 : Int32) =>
  dr G 13 p2 fun b42 =>
  chk (¬ (x40 < 0 ∨ G.2.2 b42 ≤ x40.toNatClampNeg)) <|
  ltt (uI s2.2 b42 x40.toNatClampNeg y41) fun M43 =>
  ltt (s2.1 + (1 : Int32)) fun x44 =>
  some (.inl (x44, M43)))) : Option ((Int32 × DD) ⊕ (Int32 × DD)))) 1000000 ((0 : Int32), M)) fun (y1 : Int32 × DD) =>
  some y1.2
set_option maxHeartbeats 4000000 in
set_option maxRecDepth 100000 in
def FX6_tapRows (G : GG) (M : DD) (a : Nat) (p0 : Int32) (p1 : Int32) (p2 : Option Nat) (p3 : Int32) (p4 : Int32) : Option (DD) :=
  bnd (itr (fun (s2 : Int32 × DD) => ((ltt ((p0 * p0)) fun x5 =>
  if x5 ≤ s2.1 then (some (.inr (s2.1, s2.2))) else
  (chk (¬ p0 = 0) <|
  ltt (s2.1 / p0) fun x7 =>
  ltt ((x7 + p1)) fun x8 =>
  ltt ((x8 * ((21 : Int32)))) fun x9 =>
  chk (¬ p0 = 0) <|
  ltt (s2.1 - s2.1 / p0 * p0) fun x10 =>
  ltt ((x9 + x10)) fun x11 =>
  dr G 13 ((M.2 a 3)) fun b12 =>
  chk (¬ (x11 < 0 ∨ G.2.2 b12 ≤ x11.toNatClampNeg)) <|
  ltt (s2.2.1 b12 x11.toNatClampNeg) fun x13 =>
  ltt ((x11 + ((1 : Int32)))) fun x14 =>
  chk (¬ (x14 < 0 ∨ G.2.2 b12 ≤ x14.toNatClampNeg)) <|
  ltt (s2.2.1 b12 x14.toNatClampNeg) fun x15 =>
  ltt ((((5 : Int32)) * x15)) fun x16 =>
  ltt ((x13 - x16)) fun x17 =>
  ltt ((x11 + ((2 : Int32)))) fun x18 =>
  chk (¬ (x18 < 0 ∨ G.2.2 b12 ≤ x18.toNatClampNeg)) <|
  ltt (s2.2.1 b12 x18.toNatClampNeg) fun x19 =>
  ltt ((((20 : Int32)) * x19)) fun x20 =>
  ltt ((x17 + x20)) fun x21 =>
  ltt ((x11 + ((3 : Int32)))) fun x22 =>
  chk (¬ (x22 < 0 ∨ G.2.2 b12 ≤ x22.toNatClampNeg)) <|
  ltt (s2.2.1 b12 x22.toNatClampNeg) fun x23 =>
  ltt ((((20 : Int32)) * x23)) fun x24 =>
  ltt ((x21 + x24)) fun x25 =>
  ltt ((x11 + ((4 : Int32)))) fun x26 =>
  chk (¬ (x26 < 0 ∨ G.2.2 b12 ≤ x26.toNatClampNeg)) <|
  ltt (s2.2.1 b12 x26.toNatClampNeg) fun x27 =>
  ltt ((((5 : Int32)) * x27)) fun x28 =>
  ltt ((x25 - x28)) fun x29 =>
  ltt ((x11 + ((5 : Int32)))) fun x30 =>
  chk (¬ (x30 < 0 ∨ G.2.2 b12 ≤ x30.toNatClampNeg)) <|
  ltt (s2.2.1 b12 x30.toNatClampNeg) fun x31 =>
  ltt ((x29 + x31)) fun x32 =>
  ltt ((x32 + ((16 : Int32)))) fun x33 =>
  ltt ((x33 >>> (((5 : Int32)) &&& 31))) fun x34 =>
  bnd (if ((0 : Int32)) ≤ x34 then (bnd (if x34 ≤ ((255 : Int32)) then (some (x34)) else
  (some ((255 : Int32)))) fun (y52 : Int32) =>
  some (y52)) else
  (some ((0 : Int32)))) fun (y35 : Int32) =>
  chk (¬ p0 = 0) <|
  ltt (s2.1 / p0) fun x36 =>
  ltt ((x36 * ((16 : Int32)))) fun x37 =>
  ltt ((p3 + x37)) fun x38 =>
  chk (¬ p0 = 0) <|
  ltt (s2.1 - s2.1 / p0 * p0) fun x39 =>
  ltt ((x38 + x39)) fun x40 =>
  bnd (if p4 = ((0 : Int32)) then (some (y35)) else
  (dr G 13 p2 fun b46 =>
  chk (¬ (x40 < 0 ∨ G.2.2 b46 ≤ x40.toNatClampNeg)) <|
  ltt (s2.2.1 b46 x40.toNatClampNeg) fun x47 =>
  ltt ((x47 + y35)) fun x48 =>
  ltt ((x48 + ((1 : Int32)))) fun x49 =>
  ltt ((x49 >>> (((1 : Int32)) &&& 31))) fun x50 =>
  some (x50))) fun (y41 : Int32) =>
  dr G 13 p2 fun b42 =>
  chk (¬ (x40 < 0 ∨ G.2.2 b42 ≤ x40.toNatClampNeg)) <|
  ltt (uI s2.2 b42 x40.toNatClampNeg y41) fun M43 =>
  ltt (s2.1 + (1 : Int32)) fun x44 =>
  some (.inl (x44, M43)))) : Option ((Int32 × DD) ⊕ (Int32 × DD)))) 1000000 ((0 : Int32), M)) fun (y1 : Int32 × DD) =>
  some y1.2
set_option maxHeartbeats 4000000 in
set_option maxRecDepth 100000 in
def FX6_three (G : GG) (M : DD) (a : Nat) (p0 : Int32) (p1 : Int32) (p2 : Int32) : Option (DD × Int32) :=
  dr G 13 ((M.2 a 8)) fun b1 =>
  chk (¬ (p0 < 0 ∨ G.2.2 b1 ≤ p0.toNatClampNeg)) <|
  ltt (M.1 b1 p0.toNatClampNeg) fun x2 =>
  chk (¬ (p1 < 0 ∨ G.2.2 b1 ≤ p1.toNatClampNeg)) <|
  ltt (M.1 b1 p1.toNatClampNeg) fun x3 =>
  ltt ((((2 : Int32)) * x3)) fun x4 =>
  ltt ((x2 + x4)) fun x5 =>
  chk (¬ (p2 < 0 ∨ G.2.2 b1 ≤ p2.toNatClampNeg)) <|
  ltt (M.1 b1 p2.toNatClampNeg) fun x6 =>
  ltt ((x5 + x6)) fun x7 =>
  ltt ((x7 + ((2 : Int32)))) fun x8 =>
  ltt ((x8 >>> (((2 : Int32)) &&& 31))) fun x9 =>
  some (M, x9)
set_option maxHeartbeats 4000000 in
set_option maxRecDepth 100000 in
def FX6_turn (G : GG) (M : DD) (a : Nat) (p0 : Option Nat) (p1 : Int32) (p2 : Int32) (p3 : Int32) (p4 : Int32) : Option (DD) :=
  bnd (itr (fun (s2 : Int32 × DD) => ((if ((16 : Int32)) ≤ s2.1 then (some (.inr (s2.1, s2.2))) else
  (ltt (s2.1 / ((4 : Int32))) fun x64 =>
  ltt ((x64 * p2)) fun x65 =>
  ltt ((p1 + x65)) fun x66 =>
  ltt (s2.1 - s2.1 / ((4 : Int32)) * ((4 : Int32))) fun x67 =>
  ltt ((x66 + x67)) fun x68 =>
  dr G 13 p0 fun b69 =>
  chk (¬ (x68 < 0 ∨ G.2.2 b69 ≤ x68.toNatClampNeg)) <|
  ltt (s2.2.1 b69 x68.toNatClampNeg) fun x70 =>
  ltt (s2.1 / ((4 : Int32))) fun x71 =>
  ltt ((x71 * p4)) fun x72 =>
  ltt ((p3 + x72)) fun x73 =>
  ltt (s2.1 - s2.1 / ((4 : Int32)) * ((4 : Int32))) fun x74 =>
  ltt ((x73 + x74)) fun x75 =>
  dr G 13 ((s2.2.2 a 0)) fun b76 =>
  chk (¬ (x75 < 0 ∨ G.2.2 b76 ≤ x75.toNatClampNeg)) <|
  ltt (s2.2.1 b76 x75.toNatClampNeg) fun x77 =>
  ltt ((x70 - x77)) fun x78 =>
  dr G 13 ((s2.2.2 a 6)) fun b79 =>
  chk (¬ (s2.1 < 0 ∨ G.2.2 b79 ≤ s2.1.toNatClampNeg)) <|
  ltt (uI s2.2 b79 s2.1.toNatClampNeg x78) fun M80 =>
  ltt (s2.1 + (1 : Int32)) fun x81 =>
  some (.inl (x81, M80)))) : Option ((Int32 × DD) ⊕ (Int32 × DD)))) 1000000 ((0 : Int32), M)) fun (y1 : Int32 × DD) =>
  bnd (itr (fun (s5 : Int32 × DD) => ((if ((2 : Int32)) ≤ s5.1 then (some (.inr (s5.1, s5.2))) else
  (bnd (if s5.1 = ((0 : Int32)) then (some ((1 : Int32))) else
  (some ((4 : Int32)))) fun (y9 : Int32) =>
  bnd (itr (fun (s11 : Int32 × DD) => ((if ((4 : Int32)) ≤ s11.1 then (some (.inr (s11.1, s11.2))) else
  (bnd (if s5.1 = ((0 : Int32)) then (ltt ((((4 : Int32)) * s11.1)) fun x60 =>
  some (x60)) else
  (some (s11.1))) fun (y16 : Int32) =>
  dr G 13 ((s11.2.2 a 6)) fun b17 =>
  chk (¬ (y16 < 0 ∨ G.2.2 b17 ≤ y16.toNatClampNeg)) <|
  ltt (s11.2.1 b17 y16.toNatClampNeg) fun x18 =>
  ltt ((((3 : Int32)) * y9)) fun x19 =>
  ltt ((y16 + x19)) fun x20 =>
  chk (¬ (x20 < 0 ∨ G.2.2 b17 ≤ x20.toNatClampNeg)) <|
  ltt (s11.2.1 b17 x20.toNatClampNeg) fun x21 =>
  ltt ((x18 + x21)) fun x22 =>
  ltt ((y16 + y9)) fun x23 =>
  chk (¬ (x23 < 0 ∨ G.2.2 b17 ≤ x23.toNatClampNeg)) <|
  ltt (s11.2.1 b17 x23.toNatClampNeg) fun x24 =>
  ltt ((((2 : Int32)) * y9)) fun x25 =>
  ltt ((y16 + x25)) fun x26 =>
  chk (¬ (x26 < 0 ∨ G.2.2 b17 ≤ x26.toNatClampNeg)) <|
  ltt (s11.2.1 b17 x26.toNatClampNeg) fun x27 =>
  ltt ((x24 + x27)) fun x28 =>
  ltt ((y16 + y9)) fun x29 =>
  chk (¬ (x29 < 0 ∨ G.2.2 b17 ≤ x29.toNatClampNeg)) <|
  ltt (s11.2.1 b17 x29.toNatClampNeg) fun x30 =>
  ltt ((((2 : Int32)) * y9)) fun x31 =>
  ltt ((y16 + x31)) fun x32 =>
  chk (¬ (x32 < 0 ∨ G.2.2 b17 ≤ x32.toNatClampNeg)) <|
  ltt (s11.2.1 b17 x32.toNatClampNeg) fun x33 =>
  ltt ((x30 - x33)) fun x34 =>
  chk (¬ (y16 < 0 ∨ G.2.2 b17 ≤ y16.toNatClampNeg)) <|
  ltt (s11.2.1 b17 y16.toNatClampNeg) fun x35 =>
  ltt ((((3 : Int32)) * y9)) fun x36 =>
  ltt ((y16 + x36)) fun x37 =>
  chk (¬ (x37 < 0 ∨ G.2.2 b17 ≤ x37.toNatClampNeg)) <|
  ltt (s11.2.1 b17 x37.toNatClampNeg) fun x38 =>
  ltt ((x35 - x38)) fun x39 =>
  ltt ((x22 + x28)) fun x40 =>
  chk (¬ (y16 < 0 ∨ G.2.2 b17 ≤ y16.toNatClampNeg)) <|
  ltt (uI s11.2 b17 y16.toNatClampNeg x40) fun M41 =>
  ltt ((y16 + y9)) fun x42 =>
  ltt ((((2 : Int32)) * x39)) fun x43 =>
  ltt ((x43 + x34)) fun x44 =>
  dr G 13 ((M41.2 a 6)) fun b45 =>
  chk (¬ (x42 < 0 ∨ G.2.2 b45 ≤ x42.toNatClampNeg)) <|
  ltt (uI M41 b45 x42.toNatClampNeg x44) fun M46 =>
  ltt ((((2 : Int32)) * y9)) fun x47 =>
  ltt ((y16 + x47)) fun x48 =>
  ltt ((x22 - x28)) fun x49 =>
  dr G 13 ((M46.2 a 6)) fun b50 =>
  chk (¬ (x48 < 0 ∨ G.2.2 b50 ≤ x48.toNatClampNeg)) <|
  ltt (uI M46 b50 x48.toNatClampNeg x49) fun M51 =>
  ltt ((((3 : Int32)) * y9)) fun x52 =>
  ltt ((y16 + x52)) fun x53 =>
  ltt ((((2 : Int32)) * x34)) fun x54 =>
  ltt ((x39 - x54)) fun x55 =>
  dr G 13 ((M51.2 a 6)) fun b56 =>
  chk (¬ (x53 < 0 ∨ G.2.2 b56 ≤ x53.toNatClampNeg)) <|
  ltt (uI M51 b56 x53.toNatClampNeg x55) fun M57 =>
  ltt (s11.1 + (1 : Int32)) fun x58 =>
  some (.inl (x58, M57)))) : Option ((Int32 × DD) ⊕ (Int32 × DD)))) 1000000 ((0 : Int32), s5.2)) fun (y10 : Int32 × DD) =>
  ltt (s5.1 + (1 : Int32)) fun x13 =>
  some (.inl (x13, y10.2)))) : Option ((Int32 × DD) ⊕ (Int32 × DD)))) 1000000 ((0 : Int32), y1.2)) fun (y4 : Int32 × DD) =>
  some y4.2
set_option maxHeartbeats 4000000 in
set_option maxRecDepth 100000 in
def FX6_turnBack (G : GG) (M : DD) (a : Nat) (p0 : Int32) (p1 : Int32) : Option (DD) :=
  bnd (itr (fun (s2 : Int32 × DD) => ((if ((4 : Int32)) ≤ s2.1 then (some (.inr (s2.1, s2.2))) else
  (ltt ((s2.1 * p1)) fun x6 =>
  dr G 13 ((s2.2.2 a 6)) fun b7 =>
  chk (¬ (x6 < 0 ∨ G.2.2 b7 ≤ x6.toNatClampNeg)) <|
  ltt (s2.2.1 b7 x6.toNatClampNeg) fun x8 =>
  ltt ((((2 : Int32)) * p0)) fun x9 =>
  ltt ((x6 + x9)) fun x10 =>
  chk (¬ (x10 < 0 ∨ G.2.2 b7 ≤ x10.toNatClampNeg)) <|
  ltt (s2.2.1 b7 x10.toNatClampNeg) fun x11 =>
  ltt ((x8 + x11)) fun x12 =>
  chk (¬ (x6 < 0 ∨ G.2.2 b7 ≤ x6.toNatClampNeg)) <|
  ltt (s2.2.1 b7 x6.toNatClampNeg) fun x13 =>
  ltt ((((2 : Int32)) * p0)) fun x14 =>
  ltt ((x6 + x14)) fun x15 =>
  chk (¬ (x15 < 0 ∨ G.2.2 b7 ≤ x15.toNatClampNeg)) <|
  ltt (s2.2.1 b7 x15.toNatClampNeg) fun x16 =>
  ltt ((x13 - x16)) fun x17 =>
  ltt ((x6 + p0)) fun x18 =>
  chk (¬ (x18 < 0 ∨ G.2.2 b7 ≤ x18.toNatClampNeg)) <|
  ltt (s2.2.1 b7 x18.toNatClampNeg) fun x19 =>
  ltt ((x19 >>> (((1 : Int32)) &&& 31))) fun x20 =>
  ltt ((((3 : Int32)) * p0)) fun x21 =>
  ltt ((x6 + x21)) fun x22 =>
  chk (¬ (x22 < 0 ∨ G.2.2 b7 ≤ x22.toNatClampNeg)) <|
  ltt (s2.2.1 b7 x22.toNatClampNeg) fun x23 =>
  ltt ((x20 - x23)) fun x24 =>
  ltt ((x6 + p0)) fun x25 =>
  chk (¬ (x25 < 0 ∨ G.2.2 b7 ≤ x25.toNatClampNeg)) <|
  ltt (s2.2.1 b7 x25.toNatClampNeg) fun x26 =>
  ltt ((((3 : Int32)) * p0)) fun x27 =>
  ltt ((x6 + x27)) fun x28 =>
  chk (¬ (x28 < 0 ∨ G.2.2 b7 ≤ x28.toNatClampNeg)) <|
  ltt (s2.2.1 b7 x28.toNatClampNeg) fun x29 =>
  ltt ((x29 >>> (((1 : Int32)) &&& 31))) fun x30 =>
  ltt ((x26 + x30)) fun x31 =>
  ltt ((x12 + x31)) fun x32 =>
  chk (¬ (x6 < 0 ∨ G.2.2 b7 ≤ x6.toNatClampNeg)) <|
  ltt (uI s2.2 b7 x6.toNatClampNeg x32) fun M33 =>
  ltt ((x6 + p0)) fun x34 =>
  ltt ((x17 + x24)) fun x35 =>
  dr G 13 ((M33.2 a 6)) fun b36 =>
  chk (¬ (x34 < 0 ∨ G.2.2 b36 ≤ x34.toNatClampNeg)) <|
  ltt (uI M33 b36 x34.toNatClampNeg x35) fun M37 =>
  ltt ((((2 : Int32)) * p0)) fun x38 =>
  ltt ((x6 + x38)) fun x39 =>
  ltt ((x17 - x24)) fun x40 =>
  dr G 13 ((M37.2 a 6)) fun b41 =>
  chk (¬ (x39 < 0 ∨ G.2.2 b41 ≤ x39.toNatClampNeg)) <|
  ltt (uI M37 b41 x39.toNatClampNeg x40) fun M42 =>
  ltt ((((3 : Int32)) * p0)) fun x43 =>
  ltt ((x6 + x43)) fun x44 =>
  ltt ((x12 - x31)) fun x45 =>
  dr G 13 ((M42.2 a 6)) fun b46 =>
  chk (¬ (x44 < 0 ∨ G.2.2 b46 ≤ x44.toNatClampNeg)) <|
  ltt (uI M42 b46 x44.toNatClampNeg x45) fun M47 =>
  ltt (s2.1 + (1 : Int32)) fun x48 =>
  some (.inl (x48, M47)))) : Option ((Int32 × DD) ⊕ (Int32 × DD)))) 1000000 ((0 : Int32), M)) fun (y1 : Int32 × DD) =>
  some y1.2
set_option maxHeartbeats 4000000 in
set_option maxRecDepth 100000 in
def FX6_turnEven (G : GG) (M : DD) (a : Nat)  : Option (DD) :=
  bnd (itr (fun (s2 : Int32 × DD) => ((if ((2 : Int32)) ≤ s2.1 then (some (.inr (s2.1, s2.2))) else
  (bnd (itr (fun (s7 : Int32 × DD) => ((if ((4 : Int32)) ≤ s7.1 then (some (.inr (s7.1, s7.2))) else
  (bnd (if s2.1 = ((0 : Int32)) then (some ((1 : Int32))) else
  (some ((4 : Int32)))) fun (y12 : Int32) =>
  bnd (if s2.1 = ((0 : Int32)) then (ltt ((((4 : Int32)) * s7.1)) fun x55 =>
  some (x55)) else
  (some (s7.1))) fun (y13 : Int32) =>
  dr G 13 ((s7.2.2 a 7)) fun b14 =>
  chk (¬ (y13 < 0 ∨ G.2.2 b14 ≤ y13.toNatClampNeg)) <|
  ltt (s7.2.1 b14 y13.toNatClampNeg) fun x15 =>
  ltt ((y13 + y12)) fun x16 =>
  chk (¬ (x16 < 0 ∨ G.2.2 b14 ≤ x16.toNatClampNeg)) <|
  ltt (s7.2.1 b14 x16.toNatClampNeg) fun x17 =>
  ltt ((x15 + x17)) fun x18 =>
  chk (¬ (y13 < 0 ∨ G.2.2 b14 ≤ y13.toNatClampNeg)) <|
  ltt (s7.2.1 b14 y13.toNatClampNeg) fun x19 =>
  ltt ((y13 + y12)) fun x20 =>
  chk (¬ (x20 < 0 ∨ G.2.2 b14 ≤ x20.toNatClampNeg)) <|
  ltt (s7.2.1 b14 x20.toNatClampNeg) fun x21 =>
  ltt ((x19 - x21)) fun x22 =>
  ltt ((((2 : Int32)) * y12)) fun x23 =>
  ltt ((y13 + x23)) fun x24 =>
  chk (¬ (x24 < 0 ∨ G.2.2 b14 ≤ x24.toNatClampNeg)) <|
  ltt (s7.2.1 b14 x24.toNatClampNeg) fun x25 =>
  ltt ((((3 : Int32)) * y12)) fun x26 =>
  ltt ((y13 + x26)) fun x27 =>
  chk (¬ (x27 < 0 ∨ G.2.2 b14 ≤ x27.toNatClampNeg)) <|
  ltt (s7.2.1 b14 x27.toNatClampNeg) fun x28 =>
  ltt ((x25 + x28)) fun x29 =>
  ltt ((((2 : Int32)) * y12)) fun x30 =>
  ltt ((y13 + x30)) fun x31 =>
  chk (¬ (x31 < 0 ∨ G.2.2 b14 ≤ x31.toNatClampNeg)) <|
  ltt (s7.2.1 b14 x31.toNatClampNeg) fun x32 =>
  ltt ((((3 : Int32)) * y12)) fun x33 =>
  ltt ((y13 + x33)) fun x34 =>
  chk (¬ (x34 < 0 ∨ G.2.2 b14 ≤ x34.toNatClampNeg)) <|
  ltt (s7.2.1 b14 x34.toNatClampNeg) fun x35 =>
  ltt ((x32 - x35)) fun x36 =>
  ltt ((x18 + x29)) fun x37 =>
  chk (¬ (y13 < 0 ∨ G.2.2 b14 ≤ y13.toNatClampNeg)) <|
  ltt (uI s7.2 b14 y13.toNatClampNeg x37) fun M38 =>
  ltt ((y13 + y12)) fun x39 =>
  ltt ((x18 - x29)) fun x40 =>
  dr G 13 ((M38.2 a 7)) fun b41 =>
  chk (¬ (x39 < 0 ∨ G.2.2 b41 ≤ x39.toNatClampNeg)) <|
  ltt (uI M38 b41 x39.toNatClampNeg x40) fun M42 =>
  ltt ((((2 : Int32)) * y12)) fun x43 =>
  ltt ((y13 + x43)) fun x44 =>
  ltt ((x22 - x36)) fun x45 =>
  dr G 13 ((M42.2 a 7)) fun b46 =>
  chk (¬ (x44 < 0 ∨ G.2.2 b46 ≤ x44.toNatClampNeg)) <|
  ltt (uI M42 b46 x44.toNatClampNeg x45) fun M47 =>
  ltt ((((3 : Int32)) * y12)) fun x48 =>
  ltt ((y13 + x48)) fun x49 =>
  ltt ((x22 + x36)) fun x50 =>
  dr G 13 ((M47.2 a 7)) fun b51 =>
  chk (¬ (x49 < 0 ∨ G.2.2 b51 ≤ x49.toNatClampNeg)) <|
  ltt (uI M47 b51 x49.toNatClampNeg x50) fun M52 =>
  ltt (s7.1 + (1 : Int32)) fun x53 =>
  some (.inl (x53, M52)))) : Option ((Int32 × DD) ⊕ (Int32 × DD)))) 1000000 ((0 : Int32), s2.2)) fun (y6 : Int32 × DD) =>
  ltt (s2.1 + (1 : Int32)) fun x9 =>
  some (.inl (x9, y6.2)))) : Option ((Int32 × DD) ⊕ (Int32 × DD)))) 1000000 ((0 : Int32), M)) fun (y1 : Int32 × DD) =>
  some y1.2
set_option maxHeartbeats 4000000 in
set_option maxRecDepth 100000 in
def FX6_turnFour (G : GG) (M : DD) (a : Nat)  : Option (DD) :=
  dr G 13 ((M.2 a 7)) fun b1 =>
  chk (¬ (((0 : Int32)) < 0 ∨ G.2.2 b1 ≤ ((0 : Int32)).toNatClampNeg)) <|
  ltt (M.1 b1 ((0 : Int32)).toNatClampNeg) fun x2 =>
  chk (¬ (((1 : Int32)) < 0 ∨ G.2.2 b1 ≤ ((1 : Int32)).toNatClampNeg)) <|
  ltt (M.1 b1 ((1 : Int32)).toNatClampNeg) fun x3 =>
  chk (¬ (((2 : Int32)) < 0 ∨ G.2.2 b1 ≤ ((2 : Int32)).toNatClampNeg)) <|
  ltt (M.1 b1 ((2 : Int32)).toNatClampNeg) fun x4 =>
  chk (¬ (((3 : Int32)) < 0 ∨ G.2.2 b1 ≤ ((3 : Int32)).toNatClampNeg)) <|
  ltt (M.1 b1 ((3 : Int32)).toNatClampNeg) fun x5 =>
  ltt ((x2 + x3)) fun x6 =>
  ltt ((x6 + x4)) fun x7 =>
  ltt ((x7 + x5)) fun x8 =>
  chk (¬ (((0 : Int32)) < 0 ∨ G.2.2 b1 ≤ ((0 : Int32)).toNatClampNeg)) <|
  ltt (uI M b1 ((0 : Int32)).toNatClampNeg x8) fun M9 =>
  ltt ((x2 - x3)) fun x10 =>
  ltt ((x10 + x4)) fun x11 =>
  ltt ((x11 - x5)) fun x12 =>
  dr G 13 ((M9.2 a 7)) fun b13 =>
  chk (¬ (((1 : Int32)) < 0 ∨ G.2.2 b13 ≤ ((1 : Int32)).toNatClampNeg)) <|
  ltt (uI M9 b13 ((1 : Int32)).toNatClampNeg x12) fun M14 =>
  ltt ((x2 + x3)) fun x15 =>
  ltt ((x15 - x4)) fun x16 =>
  ltt ((x16 - x5)) fun x17 =>
  dr G 13 ((M14.2 a 7)) fun b18 =>
  chk (¬ (((2 : Int32)) < 0 ∨ G.2.2 b18 ≤ ((2 : Int32)).toNatClampNeg)) <|
  ltt (uI M14 b18 ((2 : Int32)).toNatClampNeg x17) fun M19 =>
  ltt ((x2 - x3)) fun x20 =>
  ltt ((x20 - x4)) fun x21 =>
  ltt ((x21 + x5)) fun x22 =>
  dr G 13 ((M19.2 a 7)) fun b23 =>
  chk (¬ (((3 : Int32)) < 0 ∨ G.2.2 b23 ≤ ((3 : Int32)).toNatClampNeg)) <|
  ltt (uI M19 b23 ((3 : Int32)).toNatClampNeg x22) fun M24 =>
  some M24
set_option maxHeartbeats 4000000 in
set_option maxRecDepth 100000 in
def FX6_two (G : GG) (M : DD) (a : Nat) (p0 : Int32) (p1 : Int32) : Option (DD × Int32) :=
  dr G 13 ((M.2 a 8)) fun b1 =>
  chk (¬ (p0 < 0 ∨ G.2.2 b1 ≤ p0.toNatClampNeg)) <|
  ltt (M.1 b1 p0.toNatClampNeg) fun x2 =>
  chk (¬ (p1 < 0 ∨ G.2.2 b1 ≤ p1.toNatClampNeg)) <|
  ltt (M.1 b1 p1.toNatClampNeg) fun x3 =>
  ltt ((x2 + x3)) fun x4 =>
  ltt ((x4 + ((1 : Int32)))) fun x5 =>
  ltt ((x5 >>> (((1 : Int32)) &&& 31))) fun x6 =>
  some (M, x6)
set_option maxHeartbeats 4000000 in
set_option maxRecDepth 100000 in
def FX6_unfold (G : GG) (M : DD) (a : Nat) (p0 : Option Nat) (p1 : Int32) (p2 : Int32) (p3 : Int32) : Option (DD) :=
  bnd (FJ7_fill_53178 G M ((M.2 a 6)) ((0 : Int32))) fun y1 =>
  bnd (itr (fun (s3 : Int32 × DD) => ((if ((16 : Int32)) ≤ s3.1 then (some (.inr (s3.1, s3.2))) else
  (chk (¬ (s3.1 < 0 ∨ 16 ≤ s3.1.toNatClampNeg)) <|
  ltt ((sT 14).getD s3.1.toNatClampNeg 0) fun x7 =>
  chk (¬ (s3.1 < 0 ∨ 16 ≤ s3.1.toNatClampNeg)) <|
  ltt ((sT 15).getD s3.1.toNatClampNeg 0) fun x8 =>
  ltt ((((4 : Int32)) * x8)) fun x9 =>
  ltt ((x9 + x7)) fun x10 =>
  ltt ((p1 + s3.1)) fun x11 =>
  dr G 13 p0 fun b12 =>
  chk (¬ (x11 < 0 ∨ G.2.2 b12 ≤ x11.toNatClampNeg)) <|
  ltt (s3.2.1 b12 x11.toNatClampNeg) fun x13 =>
  bnd (FX6_normAt G s3.2 p3 x7 x8) fun y14 =>
  chk (¬ (y14.2 < 0 ∨ 18 ≤ y14.2.toNatClampNeg)) <|
  ltt ((sT 13).getD y14.2.toNatClampNeg 0) fun x15 =>
  ltt ((x13 * x15)) fun x16 =>
  ltt (p3 / ((6 : Int32))) fun x17 =>
  ltt ((x16 <<< (x17 &&& 31))) fun x18 =>
  dr G 13 ((s3.2.2 a 6)) fun b19 =>
  chk (¬ (x10 < 0 ∨ G.2.2 b19 ≤ x10.toNatClampNeg)) <|
  ltt (uI y14.1 b19 x10.toNatClampNeg x18) fun M20 =>
  ltt (s3.1 + (1 : Int32)) fun x21 =>
  some (.inl (x21, M20)))) : Option ((Int32 × DD) ⊕ (Int32 × DD)))) 1000000 (p2, y1)) fun (y2 : Int32 × DD) =>
  some y2.2
set_option maxHeartbeats 4000000 in
set_option maxRecDepth 100000 in
def FX7_belongs (G : GG) (M : DD) (p0 : Option Nat) (p1 : Option Nat) (p2 : Int32) : Option (DD × Int32) :=
  if p2 = ((3 : Int32)) then (dr G 4 p0 fun b28 =>
  ltt (M.1 b28 10) fun x29 =>
  bnd (if x29 = ((2 : Int32)) then (some ((1 : Int32))) else
  (some ((0 : Int32)))) fun (y30 : Int32) =>
  chk (y30 = 0 ∨ y30 = 1) <|
  some (M, y30)) else
  (dr G 4 p0 fun b2 =>
  ltt (M.1 b2 10) fun x3 =>
  bnd (if x3 = ((1 : Int32)) then (bnd (if p2 = ((0 : Int32)) then (some ((1 : Int32))) else
  (bnd (if p2 = ((1 : Int32)) then (ltt (M.1 b2 9) fun x17 =>
  dr G 4 p1 fun b18 =>
  ltt (M.1 b18 9) fun x19 =>
  bnd (if x17 < x19 then (some ((1 : Int32))) else
  (bnd (if p2 = ((2 : Int32)) then (ltt (M.1 b2 9) fun x24 =>
  ltt (M.1 b18 9) fun x25 =>
  bnd (if x24 ≤ x25 then (some ((0 : Int32))) else
  (some ((1 : Int32)))) fun (y26 : Int32) =>
  some (y26)) else
  (some ((0 : Int32)))) fun (y22 : Int32) =>
  some (y22))) fun (y20 : Int32) =>
  some (y20)) else
  (bnd (if p2 = ((2 : Int32)) then (ltt (M.1 b2 9) fun x12 =>
  dr G 4 p1 fun b13 =>
  ltt (M.1 b13 9) fun x14 =>
  bnd (if x12 ≤ x14 then (some ((0 : Int32))) else
  (some ((1 : Int32)))) fun (y15 : Int32) =>
  some (y15)) else
  (some ((0 : Int32)))) fun (y10 : Int32) =>
  some (y10))) fun (y8 : Int32) =>
  some (y8))) fun (y6 : Int32) =>
  some (y6)) else
  (some ((0 : Int32)))) fun (y4 : Int32) =>
  chk (y4 = 0 ∨ y4 = 1) <|
  some (M, y4))
set_option maxHeartbeats 4000000 in
set_option maxRecDepth 100000 in
def FX7_clear (G : GG) (M : DD) (a : Nat)  : Option (DD) :=
  bnd (itr (fun (s2 : Int32 × DD) => ((if ((6 : Int32)) ≤ s2.1 then (some (.inr (s2.1, s2.2))) else
  (dr G 14 ((s2.2.2 a 2)) fun b16 =>
  chk (¬ (s2.1 < 0 ∨ G.2.2 b16 ≤ s2.1.toNatClampNeg)) <|
  chk (okr G 4 none = true) <|
  ltt (uP s2.2 b16 s2.1.toNatClampNeg none) fun M17 =>
  ltt (s2.1 + (1 : Int32)) fun x18 =>
  some (.inl (x18, M17)))) : Option ((Int32 × DD) ⊕ (Int32 × DD)))) 1000000 ((0 : Int32), M)) fun (y1 : Int32 × DD) =>
  ltt (uI y1.2 a 3 ((0 : Int32))) fun M4 =>
  ltt (uI M4 a 4 ((0 : Int32))) fun M5 =>
  ltt (uI M5 a 5 ((0 : Int32))) fun M6 =>
  ltt (uP M6 a 6 none) fun M7 =>
  ltt (uP M7 a 7 none) fun M8 =>
  ltt (uI M8 a 8 ((0 : Int32))) fun M9 =>
  ltt (uI M9 a 9 ((0 : Int32))) fun M10 =>
  ltt (uI M10 a 10 ((0 : Int32))) fun M11 =>
  ltt (uI M11 a 11 ((0 : Int32))) fun M12 =>
  ltt (uI M12 a 14 ((0 : Int32))) fun M13 =>
  some M13
set_option maxHeartbeats 4000000 in
set_option maxRecDepth 100000 in
def FX7_fact (G : GG) (M : DD) (a : Nat) (p0 : Int32) (p1 : Int32) : Option (DD × Int32) :=
  ltt ((((7 : Int32)) * p0)) fun x1 =>
  ltt ((x1 + p1)) fun x2 =>
  dr G 13 ((M.2 a 16)) fun b3 =>
  chk (¬ (x2 < 0 ∨ G.2.2 b3 ≤ x2.toNatClampNeg)) <|
  ltt (M.1 b3 x2.toNatClampNeg) fun x4 =>
  some (M, x4)
set_option maxHeartbeats 4000000 in
set_option maxRecDepth 100000 in
def FX7_frameNumber (G : GG) (M : DD) (p0 : Option Nat) (p1 : Int32) (p2 : Int32) : Option (DD × Int32) :=
  dr G 4 p0 fun b1 =>
  ltt (M.1 b1 8) fun x2 =>
  bnd (if x2 ≤ p1 then (ltt (M.1 b1 8) fun x5 =>
  some (x5)) else
  (ltt (M.1 b1 8) fun x6 =>
  ltt ((x6 - p2)) fun x7 =>
  some (x7))) fun (y3 : Int32) =>
  some (M, y3)
set_option maxHeartbeats 4000000 in
set_option maxRecDepth 100000 in
def FX7_high (G : GG) (M : DD) (a : Nat) (p0 : Int32) (p1 : Int32) : Option (DD × Int32) :=
  bnd (if p1 = ((0 : Int32)) then (ltt ((((7 : Int32)) * p0)) fun x8 =>
  ltt ((x8 + ((1 : Int32)))) fun x9 =>
  dr G 13 ((M.2 a 16)) fun b10 =>
  chk (¬ (x9 < 0 ∨ G.2.2 b10 ≤ x9.toNatClampNeg)) <|
  ltt (M.1 b10 x9.toNatClampNeg) fun x11 =>
  some (x11)) else
  (ltt ((((7 : Int32)) * p0)) fun x3 =>
  ltt ((x3 + ((1 : Int32)))) fun x4 =>
  dr G 13 ((M.2 a 16)) fun b5 =>
  chk (¬ (x4 < 0 ∨ G.2.2 b5 ≤ x4.toNatClampNeg)) <|
  ltt (M.1 b5 x4.toNatClampNeg) fun x6 =>
  ltt (x6 / ((2 : Int32))) fun x7 =>
  some (x7))) fun (y1 : Int32) =>
  some (M, y1)
set_option maxHeartbeats 4000000 in
set_option maxRecDepth 100000 in
noncomputable def FX7_init (G : GG) (M : DD) (a : Nat)  : Option (NN × DD) :=
  chkP (Clo (xt G []) M) <|
  chk (¬ ((10 : Int32)) < 0 ∧ ((10 : Int32)).toNatClampNeg * 4 ≤ 536870912) <|
  ltt ((xt G []).1) fun c2 =>
  app [(14, ((10 : Int32)).toNatClampNeg)] <|
  ltt ([] ++ [(14, ((10 : Int32)).toNatClampNeg)]) fun L4 =>
  ltt (rO M c2) fun M5 =>
  ltt (uP M5 a 0 (some c2)) fun M8 =>
  chkP (Clo (xt G L4) M8) <|
  chk (¬ ((6 : Int32)) < 0 ∧ ((6 : Int32)).toNatClampNeg * 4 ≤ 536870912) <|
  ltt ((xt G L4).1) fun c10 =>
  app [(14, ((6 : Int32)).toNatClampNeg)] <|
  ltt (L4 ++ [(14, ((6 : Int32)).toNatClampNeg)]) fun L12 =>
  ltt (rO M8 c10) fun M13 =>
  ltt (uP M13 a 2 (some c10)) fun M16 =>
  chkP (Clo (xt G L12) M16) <|
  ltt ((xt G L12).1) fun c18 =>
  app (mrel 40 0) <|
  ltt (L12 ++ mrel 40 0) fun L20 =>
  ltt (mM M16 c18 40) fun M21 =>
  ltt (uP M21 a 15 (some c18)) fun M24 =>
  chkP (Clo (xt G L20) M24) <|
  chk (¬ ((280 : Int32)) < 0 ∧ ((280 : Int32)).toNatClampNeg * 4 ≤ 536870912) <|
  ltt ((xt G L20).1) fun c26 =>
  app [(13, ((280 : Int32)).toNatClampNeg)] <|
  ltt (L20 ++ [(13, ((280 : Int32)).toNatClampNeg)]) fun L28 =>
  ltt (rO M24 c26) fun M29 =>
  ltt (uP M29 a 16 (some c26)) fun M32 =>
  some ([], M32)
set_option maxHeartbeats 4000000 in
set_option maxRecDepth 100000 in
def FX7_isNeeded (G : GG) (M : DD) (a : Nat) (p0 : Option Nat) : Option (DD × Int32) :=
  bnd (itr (fun (s2 : Int32) => ((ltt (M.1 a 3) fun x9 =>
  if x9 ≤ s2 then (some (.inr (.inl (s2)))) else
  (dr G 14 ((M.2 a 2)) fun b11 =>
  chk (¬ (s2 < 0 ∨ G.2.2 b11 ≤ s2.toNatClampNeg)) <|
  chk (okd G ((M.2 b11 s2.toNatClampNeg)) = true ∧ okd G p0 = true) <|
  if ((M.2 b11 s2.toNatClampNeg)) = p0 then (chk (((1 : Int32)) = 0 ∨ ((1 : Int32)) = 1) <|
  some (.inr (.inr (M, (1 : Int32))))) else
  (ltt (s2 + (1 : Int32)) fun x13 =>
  some (.inl (x13))))) : Option ((Int32) ⊕ ((Int32) ⊕ (DD × Int32))))) 1000000 ((0 : Int32))) fun (y1 : (Int32) ⊕ (DD × Int32)) =>
  sel y1 (fun (z1k : Int32) =>
  bnd (chk (okd G p0 = true ∧ okd G ((M.2 a 6)) = true) <|
  if p0 = ((M.2 a 6)) then (some ((1 : Int32))) else
  (bnd (chk (okd G p0 = true ∧ okd G ((M.2 a 7)) = true) <|
  if p0 = ((M.2 a 7)) then (some ((1 : Int32))) else
  (some ((0 : Int32)))) fun (y6 : Int32) =>
  some (y6))) fun (y4 : Int32) =>
  chk (y4 = 0 ∨ y4 = 1) <|
  some (M, y4)) fun r9 => some r9
set_option maxHeartbeats 4000000 in
set_option maxRecDepth 100000 in
def FX7_keep (G : GG) (M : DD) (a : Nat) (p0 : Option Nat) : Option (DD) :=
  ltt (M.1 a 3) fun x1 =>
  bnd (if ((6 : Int32)) ≤ x1 then (some (M)) else
  (ltt (M.1 a 3) fun x4 =>
  dr G 14 ((M.2 a 2)) fun b5 =>
  chk (¬ (x4 < 0 ∨ G.2.2 b5 ≤ x4.toNatClampNeg)) <|
  chk (okr G 4 p0 = true) <|
  ltt (uP M b5 x4.toNatClampNeg p0) fun M6 =>
  ltt (M6.1 a 3) fun x7 =>
  ltt ((x7 + ((1 : Int32)))) fun x8 =>
  ltt (uI M6 a 3 x8) fun M9 =>
  some (M9))) fun (y2 : DD) =>
  some y2
set_option maxHeartbeats 4000000 in
set_option maxRecDepth 100000 in
def FX7_keeps (G : GG) (M : DD) (a : Nat) (p0 : Int32) : Option (DD × Int32) :=
  bnd (if p0 < ((0 : Int32)) then (some ((0 : Int32))) else
  (ltt (M.1 a 14) fun x3 =>
  bnd (if x3 ≤ p0 then (some ((0 : Int32))) else
  (bnd (if ((40 : Int32)) ≤ p0 then (some ((0 : Int32))) else
  (some ((1 : Int32)))) fun (y6 : Int32) =>
  some (y6))) fun (y4 : Int32) =>
  some (y4))) fun (y1 : Int32) =>
  chk (y1 = 0 ∨ y1 = 1) <|
  some (M, y1)
set_option maxHeartbeats 4000000 in
set_option maxRecDepth 100000 in
def FX7_keyOf (G : GG) (M : DD) (p0 : Option Nat) (p1 : Option Nat) (p2 : Int32) (p3 : Int32) : Option (DD × Int64) :=
  if p2 = ((3 : Int32)) then (dr G 4 p0 fun b19 =>
  ltt (M.1 b19 11) fun x20 =>
  ltt (x20.toInt64) fun x21 =>
  some (M, x21)) else
  (bnd (if p2 = ((0 : Int32)) then (some ((0 : Int64))) else
  (bnd (if p2 = ((1 : Int32)) then (dr G 4 p0 fun b15 =>
  ltt (M.1 b15 9) fun x16 =>
  ltt (x16.toInt64) fun x17 =>
  ltt (-x17) fun x18 =>
  some (x18)) else
  (dr G 4 p0 fun b12 =>
  ltt (M.1 b12 9) fun x13 =>
  ltt (x13.toInt64) fun x14 =>
  some (x14))) fun (y10 : Int64) =>
  some (y10))) fun (y2 : Int64) =>
  ltt (y2 * ((1048576 : Int64))) fun x3 =>
  dr G 4 p1 fun b4 =>
  ltt (M.1 b4 8) fun x5 =>
  bnd (FX7_frameNumber G M p0 x5 p3) fun y6 =>
  ltt (y6.2.toInt64) fun x7 =>
  ltt (x3 - x7) fun x8 =>
  some (y6.1, x8))
set_option maxHeartbeats 4000000 in
set_option maxRecDepth 100000 in
def FX7_leastLong (G : GG) (M : DD) (a : Nat)  : Option (DD × Option Nat) :=
  bnd (itr (fun (s2 : Option Nat × Int32) => ((ltt (M.1 a 3) fun x5 =>
  if x5 ≤ s2.2 then (some (.inr (s2.1, s2.2))) else
  (dr G 14 ((M.2 a 2)) fun b7 =>
  chk (¬ (s2.2 < 0 ∨ G.2.2 b7 ≤ s2.2.toNatClampNeg)) <|
  dr G 4 ((M.2 b7 s2.2.toNatClampNeg)) fun b8 =>
  ltt (M.1 b8 10) fun x9 =>
  bnd (if x9 = ((2 : Int32)) then (bnd (if s2.1 = none then (chk (¬ (s2.2 < 0 ∨ G.2.2 b7 ≤ s2.2.toNatClampNeg)) <|
  some ((M.2 b7 s2.2.toNatClampNeg))) else
  (chk (¬ (s2.2 < 0 ∨ G.2.2 b7 ≤ s2.2.toNatClampNeg)) <|
  ltt (M.1 b8 11) fun x15 =>
  dr G 4 s2.1 fun b16 =>
  ltt (M.1 b16 11) fun x17 =>
  bnd (if x17 ≤ x15 then (some (s2.1)) else
  (chk (¬ (s2.2 < 0 ∨ G.2.2 b7 ≤ s2.2.toNatClampNeg)) <|
  some ((M.2 b7 s2.2.toNatClampNeg)))) fun (y18 : Option Nat) =>
  some (y18))) fun (y13 : Option Nat) =>
  some (y13)) else
  (some (s2.1))) fun (y10 : Option Nat) =>
  ltt (s2.2 + (1 : Int32)) fun x11 =>
  some (.inl (y10, x11)))) : Option ((Option Nat × Int32) ⊕ (Option Nat × Int32)))) 1000000 (none, (0 : Int32))) fun (y1 : Option Nat × Int32) =>
  some (M, y1.1)
set_option maxHeartbeats 4000000 in
set_option maxRecDepth 100000 in
def FX7_leastRefs (G : GG) (M : DD) (p0 : Option Nat) : Option (DD × Int32) :=
  dr G 13 p0 fun b1 =>
  chk (¬ (((5 : Int32)) < 0 ∨ G.2.2 b1 ≤ ((5 : Int32)).toNatClampNeg)) <|
  ltt (M.1 b1 ((5 : Int32)).toNatClampNeg) fun x2 =>
  bnd (if ((1 : Int32)) ≤ x2 then (chk (¬ (((5 : Int32)) < 0 ∨ G.2.2 b1 ≤ ((5 : Int32)).toNatClampNeg)) <|
  ltt (M.1 b1 ((5 : Int32)).toNatClampNeg) fun x5 =>
  some (x5)) else
  (some ((1 : Int32)))) fun (y3 : Int32) =>
  some (M, y3)
set_option maxHeartbeats 4000000 in
set_option maxRecDepth 100000 in
def FX7_leastShort (G : GG) (M : DD) (a : Nat) (p0 : Int32) (p1 : Int32) : Option (DD × Option Nat) :=
  bnd (itr (fun (s2 : Option Nat × Int32 × DD) => ((ltt (s2.2.2.1 a 3) fun x5 =>
  if x5 ≤ s2.2.1 then (some (.inr (s2.1, s2.2.1, s2.2.2))) else
  (dr G 14 ((s2.2.2.2 a 2)) fun b7 =>
  chk (¬ (s2.2.1 < 0 ∨ G.2.2 b7 ≤ s2.2.1.toNatClampNeg)) <|
  dr G 4 ((s2.2.2.2 b7 s2.2.1.toNatClampNeg)) fun b8 =>
  ltt (s2.2.2.1 b8 10) fun x9 =>
  bnd (if x9 = ((1 : Int32)) then (bnd (if s2.1 = none then (some ((s2.2.2.2 b7 s2.2.1.toNatClampNeg), s2.2.2)) else
  (bnd (FX7_frameNumber G s2.2.2 ((s2.2.2.2 b7 s2.2.1.toNatClampNeg)) p0 p1) fun y15 =>
  bnd (FX7_frameNumber G y15.1 s2.1 p0 p1) fun y16 =>
  bnd (if y16.2 ≤ y15.2 then (some (s2.1)) else
  (some ((s2.2.2.2 b7 s2.2.1.toNatClampNeg)))) fun (y17 : Option Nat) =>
  some (y17, y16.1))) fun (y13 : Option Nat × DD) =>
  some (y13.1, y13.2)) else
  (some (s2.1, s2.2.2))) fun (y10 : Option Nat × DD) =>
  ltt (s2.2.1 + (1 : Int32)) fun x11 =>
  some (.inl (y10.1, x11, y10.2)))) : Option ((Option Nat × Int32 × DD) ⊕ (Option Nat × Int32 × DD)))) 1000000 (none, (0 : Int32), M)) fun (y1 : Option Nat × Int32 × DD) =>
  some (y1.2.2, y1.1)
set_option maxHeartbeats 4000000 in
set_option maxRecDepth 100000 in
def FX7_moveList (G : GG) (M : DD) (a : Nat) (p0 : Option Nat) (p1 : Int32) (p2 : Int32) : Option (DD × Int32) :=
  dr G 9 p0 fun b1 =>
  dr G 3 ((M.2 b1 1)) fun b2 =>
  ltt ((((9 : Int32)) + p1)) fun x3 =>
  dr G 13 ((M.2 b2 0)) fun b4 =>
  chk (¬ (x3 < 0 ∨ G.2.2 b4 ≤ x3.toNatClampNeg)) <|
  ltt (M.1 b4 x3.toNatClampNeg) fun x5 =>
  chk (¬ (((3 : Int32)) < 0 ∨ G.2.2 b4 ≤ ((3 : Int32)).toNatClampNeg)) <|
  ltt (M.1 b4 ((3 : Int32)).toNatClampNeg) fun x6 =>
  bnd (itr (fun (s8 : Int32 × DD) => ((ltt ((((25 : Int32)) + p1)) fun x11 =>
  dr G 13 ((s8.2.2 b2 0)) fun b12 =>
  chk (¬ (x11 < 0 ∨ G.2.2 b12 ≤ x11.toNatClampNeg)) <|
  ltt (s8.2.1 b12 x11.toNatClampNeg) fun x13 =>
  if x13 ≤ ((0 : Int32)) then (some (.inr (.inl (s8.1, s8.2)))) else
  (bnd (if x5 ≤ ((0 : Int32)) then (some (s8.1, s8.2)) else
  (bnd (if x5 ≤ ((8 : Int32)) then (ltt ((((8 : Int32)) * p1)) fun x19 =>
  ltt ((x19 + ((0 : Int32)))) fun x20 =>
  ltt ((((2 : Int32)) * x20)) fun x21 =>
  dr G 13 ((s8.2.2 b2 1)) fun b22 =>
  chk (¬ (x21 < 0 ∨ G.2.2 b22 ≤ x21.toNatClampNeg)) <|
  ltt (s8.2.1 b22 x21.toNatClampNeg) fun x23 =>
  ltt ((((8 : Int32)) * p1)) fun x24 =>
  ltt ((x24 + ((0 : Int32)))) fun x25 =>
  ltt ((((2 : Int32)) * x25)) fun x26 =>
  ltt ((x26 + ((1 : Int32)))) fun x27 =>
  chk (¬ (x27 < 0 ∨ G.2.2 b22 ≤ x27.toNatClampNeg)) <|
  ltt (s8.2.1 b22 x27.toNatClampNeg) fun x28 =>
  bnd (if ((2 : Int32)) ≤ x23 then (some (s8.1)) else
  (bnd (if x23 = ((0 : Int32)) then (ltt ((x28 + ((1 : Int32)))) fun x38 =>
  ltt ((s8.1 - x38)) fun x39 =>
  some (x39)) else
  (ltt ((x28 + ((1 : Int32)))) fun x36 =>
  ltt ((s8.1 + x36)) fun x37 =>
  some (x37))) fun (y32 : Int32) =>
  ltt ((p2 - ((1 : Int32)))) fun x33 =>
  ltt ((y32 &&& x33)) fun x34 =>
  some (x34))) fun (y29 : Int32) =>
  if x23 = ((2 : Int32)) then (none) else
  (none)) else
  (some (s8.1, s8.2))) fun (y17 : Int32 × DD) =>
  some (y17.1, y17.2))) fun (y15 : Int32 × DD) =>
  chk (((0 : Int32)) = 0 ∨ ((0 : Int32)) = 1) <|
  some (.inr (.inr (y15.2, (0 : Int32)))))) : Option ((Int32 × DD) ⊕ ((Int32 × DD) ⊕ (DD × Int32))))) 1000000 (x6, M)) fun (y7 : (Int32 × DD) ⊕ (DD × Int32)) =>
  sel y7 (fun (z7k : Int32 × DD) =>
  chk (((1 : Int32)) = 0 ∨ ((1 : Int32)) = 1) <|
  some (z7k.2, (1 : Int32))) fun r9 => some r9
set_option maxHeartbeats 4000000 in
set_option maxRecDepth 100000 in
def FX7_nextOut (G : GG) (M : DD) (a : Nat)  : Option (DD × Option Nat) :=
  bnd (itr (fun (s2 : Option Nat × Int32) => ((ltt (M.1 a 3) fun x5 =>
  if x5 ≤ s2.2 then (some (.inr (s2.1, s2.2))) else
  (dr G 14 ((M.2 a 2)) fun b7 =>
  chk (¬ (s2.2 < 0 ∨ G.2.2 b7 ≤ s2.2.toNatClampNeg)) <|
  dr G 4 ((M.2 b7 s2.2.toNatClampNeg)) fun b8 =>
  ltt (M.1 b8 12) fun x9 =>
  bnd (if x9 = ((0 : Int32)) then (some (s2.1)) else
  (bnd (if s2.1 = none then (chk (¬ (s2.2 < 0 ∨ G.2.2 b7 ≤ s2.2.toNatClampNeg)) <|
  some ((M.2 b7 s2.2.toNatClampNeg))) else
  (chk (¬ (s2.2 < 0 ∨ G.2.2 b7 ≤ s2.2.toNatClampNeg)) <|
  ltt (M.1 b8 9) fun x15 =>
  dr G 4 s2.1 fun b16 =>
  ltt (M.1 b16 9) fun x17 =>
  bnd (if x17 ≤ x15 then (some (s2.1)) else
  (chk (¬ (s2.2 < 0 ∨ G.2.2 b7 ≤ s2.2.toNatClampNeg)) <|
  some ((M.2 b7 s2.2.toNatClampNeg)))) fun (y18 : Option Nat) =>
  some (y18))) fun (y13 : Option Nat) =>
  some (y13))) fun (y10 : Option Nat) =>
  ltt (s2.2 + (1 : Int32)) fun x11 =>
  some (.inl (y10, x11)))) : Option ((Option Nat × Int32) ⊕ (Option Nat × Int32)))) 1000000 (none, (0 : Int32))) fun (y1 : Option Nat × Int32) =>
  some (M, y1.1)
set_option maxHeartbeats 4000000 in
set_option maxRecDepth 100000 in
def FX7_noteFacts (G : GG) (M : DD) (a : Nat) (p0 : Option Nat) (p1 : Int32) : Option (DD) :=
  dr G 4 p0 fun b1 =>
  ltt (M.1 b1 1) fun x2 =>
  ltt ((((16 : Int32)) * x2)) fun x3 =>
  dr G 13 ((M.2 b1 3)) fun b4 =>
  chk (¬ (((0 : Int32)) < 0 ∨ G.2.2 b4 ≤ ((0 : Int32)).toNatClampNeg)) <|
  ltt (M.1 b4 ((0 : Int32)).toNatClampNeg) fun x5 =>
  chk (¬ (((1 : Int32)) < 0 ∨ G.2.2 b4 ≤ ((1 : Int32)).toNatClampNeg)) <|
  ltt (M.1 b4 ((1 : Int32)).toNatClampNeg) fun x6 =>
  ltt ((x5 + x6)) fun x7 =>
  ltt ((((2 : Int32)) * x7)) fun x8 =>
  ltt ((x3 - x8)) fun x9 =>
  dr G 13 ((M.2 a 16)) fun b10 =>
  chk (¬ (p1 < 0 ∨ G.2.2 b10 ≤ p1.toNatClampNeg)) <|
  ltt (uI M b10 p1.toNatClampNeg x9) fun M11 =>
  ltt ((p1 + ((1 : Int32)))) fun x12 =>
  ltt (M11.1 b1 2) fun x13 =>
  ltt ((((16 : Int32)) * x13)) fun x14 =>
  dr G 13 ((M11.2 b1 3)) fun b15 =>
  chk (¬ (((2 : Int32)) < 0 ∨ G.2.2 b15 ≤ ((2 : Int32)).toNatClampNeg)) <|
  ltt (M11.1 b15 ((2 : Int32)).toNatClampNeg) fun x16 =>
  chk (¬ (((3 : Int32)) < 0 ∨ G.2.2 b15 ≤ ((3 : Int32)).toNatClampNeg)) <|
  ltt (M11.1 b15 ((3 : Int32)).toNatClampNeg) fun x17 =>
  ltt ((x16 + x17)) fun x18 =>
  ltt ((((2 : Int32)) * x18)) fun x19 =>
  ltt ((x14 - x19)) fun x20 =>
  dr G 13 ((M11.2 a 16)) fun b21 =>
  chk (¬ (x12 < 0 ∨ G.2.2 b21 ≤ x12.toNatClampNeg)) <|
  ltt (uI M11 b21 x12.toNatClampNeg x20) fun M22 =>
  ltt ((p1 + ((2 : Int32)))) fun x23 =>
  ltt (M22.1 b1 9) fun x24 =>
  dr G 13 ((M22.2 a 16)) fun b25 =>
  chk (¬ (x23 < 0 ∨ G.2.2 b25 ≤ x23.toNatClampNeg)) <|
  ltt (uI M22 b25 x23.toNatClampNeg x24) fun M26 =>
  ltt ((p1 + ((3 : Int32)))) fun x27 =>
  ltt (M26.1 b1 15) fun x28 =>
  dr G 13 ((M26.2 a 16)) fun b29 =>
  chk (¬ (x27 < 0 ∨ G.2.2 b29 ≤ x27.toNatClampNeg)) <|
  ltt (uI M26 b29 x27.toNatClampNeg x28) fun M30 =>
  ltt ((p1 + ((4 : Int32)))) fun x31 =>
  ltt (M30.1 b1 16) fun x32 =>
  dr G 13 ((M30.2 a 16)) fun b33 =>
  chk (¬ (x31 < 0 ∨ G.2.2 b33 ≤ x31.toNatClampNeg)) <|
  ltt (uI M30 b33 x31.toNatClampNeg x32) fun M34 =>
  ltt ((p1 + ((5 : Int32)))) fun x35 =>
  ltt (M34.1 b1 14) fun x36 =>
  bnd (if x36 = ((0 : Int32)) then (some ((0 : Int32))) else
  (some ((1 : Int32)))) fun (y37 : Int32) =>
  dr G 13 ((M34.2 a 16)) fun b38 =>
  chk (¬ (x35 < 0 ∨ G.2.2 b38 ≤ x35.toNatClampNeg)) <|
  ltt (uI M34 b38 x35.toNatClampNeg y37) fun M39 =>
  ltt ((p1 + ((6 : Int32)))) fun x40 =>
  ltt (M39.1 b1 17) fun x41 =>
  dr G 13 ((M39.2 a 16)) fun b42 =>
  chk (¬ (x40 < 0 ∨ G.2.2 b42 ≤ x40.toNatClampNeg)) <|
  ltt (uI M39 b42 x40.toNatClampNeg x41) fun M43 =>
  some M43
set_option maxHeartbeats 4000000 in
set_option maxRecDepth 100000 in
def FX7_orderByLow (G : GG) (M : DD) (a : Nat) (p0 : Option Nat) (p1 : Int32) (p2 : Int32) : Option (DD × Int32) :=
  bnd (if p2 = ((0 : Int32)) then (ltt (M.1 a 9) fun x31 =>
  some (x31)) else
  (some ((0 : Int32)))) fun (y1 : Int32) =>
  bnd (if p2 = ((0 : Int32)) then (ltt (M.1 a 8) fun x29 =>
  some (x29)) else
  (some ((0 : Int32)))) fun (y2 : Int32) =>
  ltt (uI M a 12 y2) fun M3 =>
  dr G 13 p0 fun b4 =>
  chk (¬ (((5 : Int32)) < 0 ∨ G.2.2 b4 ≤ ((5 : Int32)).toNatClampNeg)) <|
  ltt (M3.1 b4 ((5 : Int32)).toNatClampNeg) fun x5 =>
  ltt ((y1 - x5)) fun x6 =>
  ltt (p1 / ((2 : Int32))) fun x7 =>
  bnd (if x6 < x7 then (chk (¬ (((5 : Int32)) < 0 ∨ G.2.2 b4 ≤ ((5 : Int32)).toNatClampNeg)) <|
  ltt (M3.1 b4 ((5 : Int32)).toNatClampNeg) fun x17 =>
  ltt ((x17 - y1)) fun x18 =>
  ltt (p1 / ((2 : Int32))) fun x19 =>
  bnd (if x18 ≤ x19 then (some (M3)) else
  (ltt (M3.1 a 12) fun x22 =>
  ltt ((x22 - p1)) fun x23 =>
  ltt (uI M3 a 12 x23) fun M24 =>
  some (M24))) fun (y20 : DD) =>
  some (y20)) else
  (ltt (M3.1 a 12) fun x25 =>
  ltt ((x25 + p1)) fun x26 =>
  ltt (uI M3 a 12 x26) fun M27 =>
  some (M27))) fun (y8 : DD) =>
  ltt (y8.1 a 12) fun x9 =>
  chk (¬ (((5 : Int32)) < 0 ∨ G.2.2 b4 ≤ ((5 : Int32)).toNatClampNeg)) <|
  ltt (y8.1 b4 ((5 : Int32)).toNatClampNeg) fun x10 =>
  ltt ((x9 + x10)) fun x11 =>
  chk (¬ (((6 : Int32)) < 0 ∨ G.2.2 b4 ≤ ((6 : Int32)).toNatClampNeg)) <|
  ltt (y8.1 b4 ((6 : Int32)).toNatClampNeg) fun x12 =>
  ltt ((x11 + x12)) fun x13 =>
  bnd (if x13 ≤ x11 then (some (x13)) else
  (some (x11))) fun (y14 : Int32) =>
  some (y8, y14)
set_option maxHeartbeats 4000000 in
set_option maxRecDepth 100000 in
def FX7_orderOf (G : GG) (M : DD) (a : Nat) (p0 : Option Nat) (p1 : Option Nat) : Option (DD × Int32) :=
  dr G 3 p0 fun b2 =>
  bnd (FX3_isOwn G M b2) fun y3 =>
  dr G 13 ((M.2 b2 0)) fun b4 =>
  chk (¬ (((11 : Int32)) < 0 ∨ G.2.2 b4 ≤ ((11 : Int32)).toNatClampNeg)) <|
  ltt (y3.1.1 b4 ((11 : Int32)).toNatClampNeg) fun x5 =>
  bnd (if x5 = ((0 : Int32)) then (some ((1 : Int32))) else
  (some ((0 : Int32)))) fun (y6 : Int32) =>
  ltt (uI y3.1 a 12 ((0 : Int32))) fun M7 =>
  bnd (if y3.2 = ((0 : Int32)) then (ltt (M7.1 a 10) fun x73 =>
  ltt (M7.1 a 11) fun x74 =>
  chk (¬ (((3 : Int32)) < 0 ∨ G.2.2 b4 ≤ ((3 : Int32)).toNatClampNeg)) <|
  ltt (M7.1 b4 ((3 : Int32)).toNatClampNeg) fun x75 =>
  bnd (if x74 ≤ x75 then (some ((0 : Int32))) else
  (dr G 13 p1 fun b79 =>
  chk (¬ (((2 : Int32)) < 0 ∨ G.2.2 b79 ≤ ((2 : Int32)).toNatClampNeg)) <|
  ltt (M7.1 b79 ((2 : Int32)).toNatClampNeg) fun x80 =>
  ltt ((((1 : Int32)) <<< (x80 &&& 31))) fun x81 =>
  some (x81))) fun (y76 : Int32) =>
  ltt ((x73 + y76)) fun x77 =>
  some (x77)) else
  (some ((0 : Int32)))) fun (y8 : Int32) =>
  ltt (uI M7 a 13 y8) fun M9 =>
  dr G 13 p1 fun b10 =>
  chk (¬ (((3 : Int32)) < 0 ∨ G.2.2 b10 ≤ ((3 : Int32)).toNatClampNeg)) <|
  ltt (M9.1 b10 ((3 : Int32)).toNatClampNeg) fun x11 =>
  if x11 = ((0 : Int32)) then (chk (¬ (((4 : Int32)) < 0 ∨ G.2.2 b10 ≤ ((4 : Int32)).toNatClampNeg)) <|
  ltt (M9.1 b10 ((4 : Int32)).toNatClampNeg) fun x69 =>
  ltt ((((1 : Int32)) <<< (x69 &&& 31))) fun x70 =>
  bnd (FX7_orderByLow G M9 a ((M.2 b2 0)) x70 y3.2) fun y71 =>
  some (y71.1, y71.2)) else
  (chk (¬ (((3 : Int32)) < 0 ∨ G.2.2 b10 ≤ ((3 : Int32)).toNatClampNeg)) <|
  ltt (M9.1 b10 ((3 : Int32)).toNatClampNeg) fun x13 =>
  if x13 = ((2 : Int32)) then (bnd (if y3.2 = ((0 : Int32)) then (ltt (M9.1 a 13) fun x64 =>
  chk (¬ (((3 : Int32)) < 0 ∨ G.2.2 b4 ≤ ((3 : Int32)).toNatClampNeg)) <|
  ltt (M9.1 b4 ((3 : Int32)).toNatClampNeg) fun x65 =>
  ltt ((x64 + x65)) fun x66 =>
  ltt ((((2 : Int32)) * x66)) fun x67 =>
  ltt ((x67 - y6)) fun x68 =>
  some (x68)) else
  (some ((0 : Int32)))) fun (y62 : Int32) =>
  some (M9, y62)) else
  (chk (¬ (((14 : Int32)) < 0 ∨ G.2.2 b10 ≤ ((14 : Int32)).toNatClampNeg)) <|
  ltt (M9.1 b10 ((14 : Int32)).toNatClampNeg) fun x15 =>
  bnd (if x15 = ((0 : Int32)) then (some ((0 : Int32))) else
  (ltt (M9.1 a 13) fun x59 =>
  chk (¬ (((3 : Int32)) < 0 ∨ G.2.2 b4 ≤ ((3 : Int32)).toNatClampNeg)) <|
  ltt (M9.1 b4 ((3 : Int32)).toNatClampNeg) fun x60 =>
  ltt ((x59 + x60)) fun x61 =>
  some (x61))) fun (y16 : Int32) =>
  bnd (if y16 ≤ ((0 : Int32)) then (some ((0 : Int32))) else
  (some (y6))) fun (y17 : Int32) =>
  ltt ((y16 - y17)) fun x18 =>
  bnd (if x18 ≤ ((0 : Int32)) then (some ((0 : Int32))) else
  (bnd (if x15 ≤ ((0 : Int32)) then (some ((0 : Int32))) else
  (bnd (itr (fun (s36 : Int32 × Int32 × Int32) => ((if x15 ≤ s36.2.2 then (some (.inr (s36.1, s36.2.1, s36.2.2))) else
  (ltt ((((15 : Int32)) + s36.2.2)) fun x44 =>
  if ((23 : Int32)) ≤ x44 then (some (.inr (s36.1, s36.2.1, s36.2.2))) else
  (ltt ((((15 : Int32)) + s36.2.2)) fun x46 =>
  chk (¬ (x46 < 0 ∨ G.2.2 b10 ≤ x46.toNatClampNeg)) <|
  ltt (M9.1 b10 x46.toNatClampNeg) fun x47 =>
  ltt ((s36.1 + x47)) fun x48 =>
  ltt ((x18 - ((1 : Int32)))) fun x49 =>
  chk (¬ x15 = 0) <|
  ltt (x49 - x49 / x15 * x15) fun x50 =>
  bnd (if x50 < s36.2.2 then (some ((0 : Int32))) else
  (ltt ((((15 : Int32)) + s36.2.2)) fun x55 =>
  chk (¬ (x55 < 0 ∨ G.2.2 b10 ≤ x55.toNatClampNeg)) <|
  ltt (M9.1 b10 x55.toNatClampNeg) fun x56 =>
  some (x56))) fun (y51 : Int32) =>
  ltt ((s36.2.1 + y51)) fun x52 =>
  ltt (s36.2.2 + (1 : Int32)) fun x53 =>
  some (.inl (x48, x52, x53))))) : Option ((Int32 × Int32 × Int32) ⊕ (Int32 × Int32 × Int32)))) 1000000 ((0 : Int32), (0 : Int32), (0 : Int32))) fun (y35 : Int32 × Int32 × Int32) =>
  ltt ((x18 - ((1 : Int32)))) fun x38 =>
  chk (¬ x15 = 0) <|
  ltt (x38 / x15) fun x39 =>
  ltt ((x39 * y35.1)) fun x40 =>
  ltt ((x40 + y35.2.1)) fun x41 =>
  some (x41))) fun (y33 : Int32) =>
  some (y33))) fun (y19 : Int32) =>
  bnd (if y6 = ((1 : Int32)) then (chk (¬ (((12 : Int32)) < 0 ∨ G.2.2 b10 ≤ ((12 : Int32)).toNatClampNeg)) <|
  ltt (M9.1 b10 ((12 : Int32)).toNatClampNeg) fun x31 =>
  some (x31)) else
  (some ((0 : Int32)))) fun (y20 : Int32) =>
  ltt ((y19 + y20)) fun x21 =>
  chk (¬ (((6 : Int32)) < 0 ∨ G.2.2 b4 ≤ ((6 : Int32)).toNatClampNeg)) <|
  ltt (M9.1 b4 ((6 : Int32)).toNatClampNeg) fun x22 =>
  ltt ((x21 + x22)) fun x23 =>
  chk (¬ (((13 : Int32)) < 0 ∨ G.2.2 b10 ≤ ((13 : Int32)).toNatClampNeg)) <|
  ltt (M9.1 b10 ((13 : Int32)).toNatClampNeg) fun x24 =>
  ltt ((x23 + x24)) fun x25 =>
  chk (¬ (((7 : Int32)) < 0 ∨ G.2.2 b4 ≤ ((7 : Int32)).toNatClampNeg)) <|
  ltt (M9.1 b4 ((7 : Int32)).toNatClampNeg) fun x26 =>
  ltt ((x25 + x26)) fun x27 =>
  bnd (if x27 ≤ x23 then (some (x27)) else
  (some (x23))) fun (y28 : Int32) =>
  some (M9, y28)))
set_option maxHeartbeats 4000000 in
set_option maxRecDepth 100000 in
def FX7_references (G : GG) (M : DD) (a : Nat)  : Option (DD × Int32) :=
  bnd (itr (fun (s2 : Int32 × Int32) => ((ltt (M.1 a 3) fun x5 =>
  if x5 ≤ s2.2 then (some (.inr (s2.1, s2.2))) else
  (dr G 14 ((M.2 a 2)) fun b7 =>
  chk (¬ (s2.2 < 0 ∨ G.2.2 b7 ≤ s2.2.toNatClampNeg)) <|
  dr G 4 ((M.2 b7 s2.2.toNatClampNeg)) fun b8 =>
  ltt (M.1 b8 10) fun x9 =>
  bnd (if x9 = ((0 : Int32)) then (some ((0 : Int32))) else
  (some ((1 : Int32)))) fun (y10 : Int32) =>
  ltt ((s2.1 + y10)) fun x11 =>
  ltt (s2.2 + (1 : Int32)) fun x12 =>
  some (.inl (x11, x12)))) : Option ((Int32 × Int32) ⊕ (Int32 × Int32)))) 1000000 ((0 : Int32), (0 : Int32))) fun (y1 : Int32 × Int32) =>
  some (M, y1.1)
set_option maxHeartbeats 4000000 in
set_option maxRecDepth 100000 in
def FX7_release (G : GG) (M : DD) (p0 : Option Nat) : Option (DD) :=
  dr G 4 p0 fun b1 =>
  ltt (uI M b1 10 ((0 : Int32))) fun M2 =>
  ltt (uI M2 b1 11 ((-1 : Int32))) fun M3 =>
  some M3
set_option maxHeartbeats 4000000 in
set_option maxRecDepth 100000 in
def FX7_releaseAll (G : GG) (M : DD) (a : Nat)  : Option (DD) :=
  bnd (itr (fun (s2 : Int32 × DD) => ((ltt (s2.2.1 a 3) fun x5 =>
  if x5 ≤ s2.1 then (some (.inr (s2.1, s2.2))) else
  (dr G 14 ((s2.2.2 a 2)) fun b7 =>
  chk (¬ (s2.1 < 0 ∨ G.2.2 b7 ≤ s2.1.toNatClampNeg)) <|
  bnd (FX7_release G s2.2 ((s2.2.2 b7 s2.1.toNatClampNeg))) fun y8 =>
  ltt (s2.1 + (1 : Int32)) fun x9 =>
  some (.inl (x9, y8)))) : Option ((Int32 × DD) ⊕ (Int32 × DD)))) 1000000 ((0 : Int32), M)) fun (y1 : Int32 × DD) =>
  some y1.2
set_option maxHeartbeats 4000000 in
set_option maxRecDepth 100000 in
def FX7_shorts (G : GG) (M : DD) (a : Nat)  : Option (DD × Int32) :=
  bnd (itr (fun (s2 : Int32 × Int32) => ((ltt (M.1 a 3) fun x5 =>
  if x5 ≤ s2.2 then (some (.inr (s2.1, s2.2))) else
  (dr G 14 ((M.2 a 2)) fun b7 =>
  chk (¬ (s2.2 < 0 ∨ G.2.2 b7 ≤ s2.2.toNatClampNeg)) <|
  dr G 4 ((M.2 b7 s2.2.toNatClampNeg)) fun b8 =>
  ltt (M.1 b8 10) fun x9 =>
  bnd (if x9 = ((1 : Int32)) then (some ((1 : Int32))) else
  (some ((0 : Int32)))) fun (y10 : Int32) =>
  ltt ((s2.1 + y10)) fun x11 =>
  ltt (s2.2 + (1 : Int32)) fun x12 =>
  some (.inl (x11, x12)))) : Option ((Int32 × Int32) ⊕ (Int32 × Int32)))) 1000000 ((0 : Int32), (0 : Int32))) fun (y1 : Int32 × Int32) =>
  some (M, y1.1)
set_option maxHeartbeats 4000000 in
set_option maxRecDepth 100000 in
def FX7_slide (G : GG) (M : DD) (a : Nat) (p0 : Int32) (p1 : Int32) (p2 : Int32) : Option (DD) :=
  bnd (FX7_leastShort G M a p0 p1) fun y1 =>
  bnd (FX7_references G y1.1 a) fun y2 =>
  bnd (if y2.2 < p2 then (some (y2.1)) else
  (bnd (if y1.2 = none then (some (y2.1)) else
  (bnd (FX7_release G y2.1 y1.2) fun y7 =>
  some (y7))) fun (y5 : DD) =>
  some (y5))) fun (y3 : DD) =>
  some y3
set_option maxHeartbeats 4000000 in
set_option maxRecDepth 100000 in
def FX7_sweep (G : GG) (M : DD) (a : Nat)  : Option (DD) :=
  bnd (itr (fun (s2 : Int32 × Int32 × DD) => ((ltt (s2.2.2.1 a 3) fun x15 =>
  if x15 ≤ s2.2.1 then (some (.inr (s2.1, s2.2.1, s2.2.2))) else
  (dr G 14 ((s2.2.2.2 a 2)) fun b17 =>
  chk (¬ (s2.2.1 < 0 ∨ G.2.2 b17 ≤ s2.2.1.toNatClampNeg)) <|
  dr G 4 ((s2.2.2.2 b17 s2.2.1.toNatClampNeg)) fun b18 =>
  ltt (s2.2.2.1 b18 10) fun x19 =>
  bnd (if x19 = ((0 : Int32)) then (ltt (s2.2.2.1 b18 12) fun x25 =>
  bnd (if x25 = ((0 : Int32)) then (some (s2.1, s2.2.2)) else
  (chk (¬ (s2.1 < 0 ∨ G.2.2 b17 ≤ s2.1.toNatClampNeg)) <|
  chk (okr G 4 ((s2.2.2.2 b17 s2.2.1.toNatClampNeg)) = true) <|
  ltt (uP s2.2.2 b17 s2.1.toNatClampNeg ((s2.2.2.2 b17 s2.2.1.toNatClampNeg))) fun M28 =>
  ltt (s2.1 + (1 : Int32)) fun x29 =>
  some (x29, M28))) fun (y26 : Int32 × DD) =>
  some (y26.1, y26.2)) else
  (chk (¬ (s2.1 < 0 ∨ G.2.2 b17 ≤ s2.1.toNatClampNeg)) <|
  chk (okr G 4 ((s2.2.2.2 b17 s2.2.1.toNatClampNeg)) = true) <|
  ltt (uP s2.2.2 b17 s2.1.toNatClampNeg ((s2.2.2.2 b17 s2.2.1.toNatClampNeg))) fun M23 =>
  ltt (s2.1 + (1 : Int32)) fun x24 =>
  some (x24, M23))) fun (y20 : Int32 × DD) =>
  ltt (s2.2.1 + (1 : Int32)) fun x21 =>
  some (.inl (y20.1, x21, y20.2)))) : Option ((Int32 × Int32 × DD) ⊕ (Int32 × Int32 × DD)))) 1000000 ((0 : Int32), (0 : Int32), M)) fun (y1 : Int32 × Int32 × DD) =>
  bnd (itr (fun (s5 : Int32 × DD) => ((ltt (s5.2.1 a 3) fun x9 =>
  if x9 ≤ s5.1 then (some (.inr (s5.1, s5.2))) else
  (dr G 14 ((s5.2.2 a 2)) fun b11 =>
  chk (¬ (s5.1 < 0 ∨ G.2.2 b11 ≤ s5.1.toNatClampNeg)) <|
  chk (okr G 4 none = true) <|
  ltt (uP s5.2 b11 s5.1.toNatClampNeg none) fun M12 =>
  ltt (s5.1 + (1 : Int32)) fun x13 =>
  some (.inl (x13, M12)))) : Option ((Int32 × DD) ⊕ (Int32 × DD)))) 1000000 (y1.1, y1.2.2)) fun (y4 : Int32 × DD) =>
  ltt (uI y4.2 a 3 y1.1) fun M7 =>
  some M7
set_option maxHeartbeats 4000000 in
set_option maxRecDepth 100000 in
def FX7_tellApart (G : GG) (M : DD) (p0 : Option Nat) (p1 : Int32) : Option (DD) :=
  bnd (itr (fun (s2 : Int32) => ((if p1 ≤ s2 then (some (.inr (.inl (s2)))) else
  (if ((9 : Int32)) ≤ s2 then (some (.inr (.inl (s2)))) else
  (dr G 14 p0 fun b12 =>
  chk (¬ (s2 < 0 ∨ G.2.2 b12 ≤ s2.toNatClampNeg)) <|
  ltt ((((9 : Int32)) + s2)) fun x13 =>
  chk (¬ (x13 < 0 ∨ G.2.2 b12 ≤ x13.toNatClampNeg)) <|
  chk (okd G ((M.2 b12 s2.toNatClampNeg)) = true ∧ okd G ((M.2 b12 x13.toNatClampNeg)) = true) <|
  if ((M.2 b12 s2.toNatClampNeg)) = ((M.2 b12 x13.toNatClampNeg)) then (ltt (s2 + (1 : Int32)) fun x15 =>
  some (.inl (x15))) else
  (some (.inr (.inr M)))))) : Option ((Int32) ⊕ ((Int32) ⊕ (DD))))) 1000000 ((0 : Int32))) fun (y1 : (Int32) ⊕ (DD)) =>
  sel y1 (fun (z1k : Int32) =>
  bnd (if p1 ≤ ((1 : Int32)) then (some (M)) else
  (dr G 14 p0 fun b6 =>
  chk (¬ (((9 : Int32)) < 0 ∨ G.2.2 b6 ≤ ((9 : Int32)).toNatClampNeg)) <|
  chk (¬ (((10 : Int32)) < 0 ∨ G.2.2 b6 ≤ ((10 : Int32)).toNatClampNeg)) <|
  chk (¬ (((9 : Int32)) < 0 ∨ G.2.2 b6 ≤ ((9 : Int32)).toNatClampNeg)) <|
  chk (okr G 4 ((M.2 b6 ((10 : Int32)).toNatClampNeg)) = true) <|
  ltt (uP M b6 ((9 : Int32)).toNatClampNeg ((M.2 b6 ((10 : Int32)).toNatClampNeg))) fun M7 =>
  chk (¬ (((10 : Int32)) < 0 ∨ G.2.2 b6 ≤ ((10 : Int32)).toNatClampNeg)) <|
  chk (okr G 4 ((M.2 b6 ((9 : Int32)).toNatClampNeg)) = true) <|
  ltt (uP M7 b6 ((10 : Int32)).toNatClampNeg ((M.2 b6 ((9 : Int32)).toNatClampNeg))) fun M8 =>
  some (M8))) fun (y4 : DD) =>
  some y4) fun r9 => some r9
set_option maxHeartbeats 4000000 in
set_option maxRecDepth 100000 in
def FX7_wide (G : GG) (M : DD) (a : Nat) (p0 : Int32) (p1 : Int32) : Option (DD × Int32) :=
  bnd (if p1 = ((0 : Int32)) then (ltt ((((7 : Int32)) * p0)) fun x7 =>
  dr G 13 ((M.2 a 16)) fun b8 =>
  chk (¬ (x7 < 0 ∨ G.2.2 b8 ≤ x7.toNatClampNeg)) <|
  ltt (M.1 b8 x7.toNatClampNeg) fun x9 =>
  some (x9)) else
  (ltt ((((7 : Int32)) * p0)) fun x3 =>
  dr G 13 ((M.2 a 16)) fun b4 =>
  chk (¬ (x3 < 0 ∨ G.2.2 b4 ≤ x3.toNatClampNeg)) <|
  ltt (M.1 b4 x3.toNatClampNeg) fun x5 =>
  ltt (x5 / ((2 : Int32))) fun x6 =>
  some (x6))) fun (y1 : Int32) =>
  some (M, y1)
set_option maxHeartbeats 4000000 in
set_option maxRecDepth 100000 in
def FX8_byteAt (G : GG) (M : DD) (a : Nat) (p0 : Int32) (p1 : Int32) : Option (DD × Int32) :=
  dr G 13 ((M.2 a 1)) fun b1 =>
  chk (¬ (p0 < 0 ∨ G.2.2 b1 ≤ p0.toNatClampNeg)) <|
  ltt (M.1 b1 p0.toNatClampNeg) fun x2 =>
  ltt ((x2 + p1)) fun x3 =>
  dr G 12 ((M.2 a 0)) fun b4 =>
  chk (¬ (x3 < 0 ∨ G.2.2 b4 ≤ x3.toNatClampNeg)) <|
  ltt (M.1 b4 x3.toNatClampNeg) fun x5 =>
  ltt ((x5 &&& ((255 : Int32)))) fun x6 =>
  some (M, x6)
set_option maxHeartbeats 4000000 in
set_option maxRecDepth 100000 in
def FX8_contentLength (G : GG) (M : DD) (a : Nat)  : Option (DD × Int32) :=
  bnd (itr (fun (s2 : Int32 × Int32) => ((ltt (M.1 a 3) fun x5 =>
  if x5 ≤ s2.2 then (some (.inr (s2.1, s2.2))) else
  (dr G 13 ((M.2 a 2)) fun b7 =>
  chk (¬ (s2.2 < 0 ∨ G.2.2 b7 ≤ s2.2.toNatClampNeg)) <|
  ltt (M.1 b7 s2.2.toNatClampNeg) fun x8 =>
  ltt ((((4 : Int32)) + x8)) fun x9 =>
  ltt ((s2.1 + x9)) fun x10 =>
  ltt (s2.2 + (1 : Int32)) fun x11 =>
  some (.inl (x10, x11)))) : Option ((Int32 × Int32) ⊕ (Int32 × Int32)))) 1000000 ((0 : Int32), (0 : Int32))) fun (y1 : Int32 × Int32) =>
  some (M, y1.1)
set_option maxHeartbeats 4000000 in
set_option maxRecDepth 100000 in
def FX8_endsUnit (G : GG) (M : DD) (p0 : Option Nat) (p1 : Int32) (p2 : Int32) : Option (DD × Int32) :=
  ltt ((p1 + ((2 : Int32)))) fun x1 =>
  bnd (if p2 ≤ x1 then (some ((0 : Int32))) else
  (dr G 12 p0 fun b4 =>
  chk (¬ (p1 < 0 ∨ G.2.2 b4 ≤ p1.toNatClampNeg)) <|
  ltt (M.1 b4 p1.toNatClampNeg) fun x5 =>
  bnd (if x5 = ((0 : Int32)) then (ltt ((p1 + ((1 : Int32)))) fun x8 =>
  chk (¬ (x8 < 0 ∨ G.2.2 b4 ≤ x8.toNatClampNeg)) <|
  ltt (M.1 b4 x8.toNatClampNeg) fun x9 =>
  bnd (if x9 = ((0 : Int32)) then (ltt ((p1 + ((2 : Int32)))) fun x12 =>
  chk (¬ (x12 < 0 ∨ G.2.2 b4 ≤ x12.toNatClampNeg)) <|
  ltt (M.1 b4 x12.toNatClampNeg) fun x13 =>
  bnd (if x13 = ((0 : Int32)) then (some ((1 : Int32))) else
  (ltt ((p1 + ((2 : Int32)))) fun x16 =>
  chk (¬ (x16 < 0 ∨ G.2.2 b4 ≤ x16.toNatClampNeg)) <|
  ltt (M.1 b4 x16.toNatClampNeg) fun x17 =>
  bnd (if x17 = ((1 : Int32)) then (some ((1 : Int32))) else
  (some ((0 : Int32)))) fun (y18 : Int32) =>
  some (y18))) fun (y14 : Int32) =>
  some (y14)) else
  (some ((0 : Int32)))) fun (y10 : Int32) =>
  some (y10)) else
  (some ((0 : Int32)))) fun (y6 : Int32) =>
  some (y6))) fun (y2 : Int32) =>
  chk (y2 = 0 ∨ y2 = 1) <|
  some (M, y2)
set_option maxHeartbeats 4000000 in
set_option maxRecDepth 100000 in
noncomputable def FX8_init (G : GG) (M : DD) (a : Nat)  : Option (NN × DD) :=
  chkP (Clo (xt G []) M) <|
  chk (¬ ((65536 : Int32)) < 0 ∧ ((65536 : Int32)).toNatClampNeg * 4 ≤ 536870912) <|
  ltt ((xt G []).1) fun c2 =>
  app [(12, ((65536 : Int32)).toNatClampNeg)] <|
  ltt ([] ++ [(12, ((65536 : Int32)).toNatClampNeg)]) fun L4 =>
  ltt (rO M c2) fun M5 =>
  ltt (uP M5 a 0 (some c2)) fun M8 =>
  chkP (Clo (xt G L4) M8) <|
  chk (¬ ((400 : Int32)) < 0 ∧ ((400 : Int32)).toNatClampNeg * 4 ≤ 536870912) <|
  ltt ((xt G L4).1) fun c10 =>
  app [(13, ((400 : Int32)).toNatClampNeg)] <|
  ltt (L4 ++ [(13, ((400 : Int32)).toNatClampNeg)]) fun L12 =>
  ltt (rO M8 c10) fun M13 =>
  ltt (uP M13 a 1 (some c10)) fun M16 =>
  chkP (Clo (xt G L12) M16) <|
  chk (¬ ((400 : Int32)) < 0 ∧ ((400 : Int32)).toNatClampNeg * 4 ≤ 536870912) <|
  ltt ((xt G L12).1) fun c18 =>
  app [(13, ((400 : Int32)).toNatClampNeg)] <|
  ltt (L12 ++ [(13, ((400 : Int32)).toNatClampNeg)]) fun L20 =>
  ltt (rO M16 c18) fun M21 =>
  ltt (uP M21 a 2 (some c18)) fun M24 =>
  chkP (Clo (xt G L20) M24) <|
  chk (¬ ((400 : Int32)) < 0 ∧ ((400 : Int32)).toNatClampNeg * 4 ≤ 536870912) <|
  ltt ((xt G L20).1) fun c26 =>
  app [(13, ((400 : Int32)).toNatClampNeg)] <|
  ltt (L20 ++ [(13, ((400 : Int32)).toNatClampNeg)]) fun L28 =>
  ltt (rO M24 c26) fun M29 =>
  ltt (uP M29 a 5 (some c26)) fun M32 =>
  chkP (Clo (xt G L28) M32) <|
  chk (¬ ((400 : Int32)) < 0 ∧ ((400 : Int32)).toNatClampNeg * 4 ≤ 536870912) <|
  ltt ((xt G L28).1) fun c34 =>
  app [(13, ((400 : Int32)).toNatClampNeg)] <|
  ltt (L28 ++ [(13, ((400 : Int32)).toNatClampNeg)]) fun L36 =>
  ltt (rO M32 c34) fun M37 =>
  ltt (uP M37 a 6 (some c34)) fun M40 =>
  chkP (Clo (xt G L36) M40) <|
  chk (¬ ((65536 : Int32)) < 0 ∧ ((65536 : Int32)).toNatClampNeg * 4 ≤ 536870912) <|
  ltt ((xt G L36).1) fun c42 =>
  app [(12, ((65536 : Int32)).toNatClampNeg)] <|
  ltt (L36 ++ [(12, ((65536 : Int32)).toNatClampNeg)]) fun L44 =>
  ltt (rO M40 c42) fun M45 =>
  ltt (uP M45 a 8 (some c42)) fun M48 =>
  chkP (Clo (xt G L44) M48) <|
  chk (¬ ((240 : Int32)) < 0 ∧ ((240 : Int32)).toNatClampNeg * 4 ≤ 536870912) <|
  ltt ((xt G L44).1) fun c50 =>
  app [(13, ((240 : Int32)).toNatClampNeg)] <|
  ltt (L44 ++ [(13, ((240 : Int32)).toNatClampNeg)]) fun L52 =>
  ltt (rO M48 c50) fun M53 =>
  ltt (uP M53 a 10 (some c50)) fun M56 =>
  chkP (Clo (xt G L52) M56) <|
  chk (¬ ((4 : Int32)) < 0 ∧ ((4 : Int32)).toNatClampNeg * 4 ≤ 536870912) <|
  ltt ((xt G L52).1) fun c58 =>
  app [(13, ((4 : Int32)).toNatClampNeg)] <|
  ltt (L52 ++ [(13, ((4 : Int32)).toNatClampNeg)]) fun L60 =>
  ltt (rO M56 c58) fun M61 =>
  ltt (uP M61 a 12 (some c58)) fun M64 =>
  chkP (Clo (xt G L60) M64) <|
  chk (¬ ((6 : Int32)) < 0 ∧ ((6 : Int32)).toNatClampNeg * 4 ≤ 536870912) <|
  ltt ((xt G L60).1) fun c66 =>
  app [(13, ((6 : Int32)).toNatClampNeg)] <|
  ltt (L60 ++ [(13, ((6 : Int32)).toNatClampNeg)]) fun L68 =>
  ltt (rO M64 c66) fun M69 =>
  ltt (uP M69 a 13 (some c66)) fun M72 =>
  some ([], M72)
set_option maxHeartbeats 4000000 in
set_option maxRecDepth 100000 in
def FX8_keepFound (G : GG) (M : DD) (a : Nat) (p0 : Option Nat) : Option (DD) :=
  bnd (itr (fun (s2 : Int32 × Int32 × DD) => ((ltt (s2.2.2.1 a 7) fun x8 =>
  if x8 ≤ s2.2.1 then (some (.inr (s2.1, s2.2.1, s2.2.2))) else
  (dr G 13 ((s2.2.2.2 a 6)) fun b10 =>
  chk (¬ (s2.2.1 < 0 ∨ G.2.2 b10 ≤ s2.2.1.toNatClampNeg)) <|
  ltt (s2.2.2.1 b10 s2.2.1.toNatClampNeg) fun x11 =>
  dr G 12 ((s2.2.2.2 a 0)) fun b12 =>
  ltt (Int32.ofNat (G.2.2 b12)) fun x13 =>
  ltt ((x13 - s2.1)) fun x14 =>
  bnd (if x14 < x11 then (some (s2.2.2)) else
  (dr G 12 p0 fun b23 =>
  ltt (Int32.ofNat (G.2.2 b23)) fun x24 =>
  dr G 13 ((s2.2.2.2 a 5)) fun b25 =>
  chk (¬ (s2.2.1 < 0 ∨ G.2.2 b25 ≤ s2.2.1.toNatClampNeg)) <|
  ltt (s2.2.2.1 b25 s2.2.1.toNatClampNeg) fun x26 =>
  ltt ((x24 - x26)) fun x27 =>
  bnd (if x27 < x11 then (some (s2.2.2)) else
  (chk (¬ (s2.2.1 < 0 ∨ G.2.2 b25 ≤ s2.2.1.toNatClampNeg)) <|
  ltt (s2.2.2.1 b25 s2.2.1.toNatClampNeg) fun x30 =>
  chk (¬ x30 < 0 ∧ ¬ s2.1 < 0 ∧ ¬ x11 < 0 ∧ x30.toNatClampNeg + x11.toNatClampNeg ≤ G.2.2 b23 ∧ s2.1.toNatClampNeg + x11.toNatClampNeg ≤ G.2.2 b12) <|
  chk (∀ i, i < x11.toNatClampNeg → fits .byte (.int (s2.2.2.1 b23 (x30.toNatClampNeg + i))) = true) <|
  ltt (rI s2.2.2 b12 (va_cpy (s2.2.2.1 b23) (s2.2.2.1 b12) x30.toNatClampNeg s2.1.toNatClampNeg x11.toNatClampNeg)) fun M31 =>
  some (M31))) fun (y28 : DD) =>
  some (y28))) fun (y15 : DD) =>
  dr G 13 ((y15.2 a 1)) fun b16 =>
  chk (¬ (s2.2.1 < 0 ∨ G.2.2 b16 ≤ s2.2.1.toNatClampNeg)) <|
  ltt (uI y15 b16 s2.2.1.toNatClampNeg s2.1) fun M17 =>
  dr G 13 ((M17.2 a 2)) fun b18 =>
  chk (¬ (s2.2.1 < 0 ∨ G.2.2 b18 ≤ s2.2.1.toNatClampNeg)) <|
  ltt (uI M17 b18 s2.2.1.toNatClampNeg x11) fun M19 =>
  ltt ((s2.1 + x11)) fun x20 =>
  ltt (s2.2.1 + (1 : Int32)) fun x21 =>
  some (.inl (x20, x21, M19)))) : Option ((Int32 × Int32 × DD) ⊕ (Int32 × Int32 × DD)))) 1000000 ((0 : Int32), (0 : Int32), M)) fun (y1 : Int32 × Int32 × DD) =>
  ltt (y1.2.2.1 a 7) fun x4 =>
  ltt (uI y1.2.2 a 3 x4) fun M5 =>
  ltt (uI M5 a 4 ((0 : Int32))) fun M6 =>
  some M6
set_option maxHeartbeats 4000000 in
set_option maxRecDepth 100000 in
def FX8_loadPayload (G : GG) (M : DD) (a : Nat) (p0 : Int32) : Option (DD) :=
  ltt (uI M a 9 ((0 : Int32))) fun M1 =>
  bnd (itr (fun (s3 : Int32 × Int32 × DD) => ((dr G 13 ((s3.2.2.2 a 2)) fun b6 =>
  chk (¬ (p0 < 0 ∨ G.2.2 b6 ≤ p0.toNatClampNeg)) <|
  ltt (s3.2.2.1 b6 p0.toNatClampNeg) fun x7 =>
  if x7 ≤ s3.2.1 then (some (.inr (s3.1, s3.2.1, s3.2.2))) else
  (dr G 13 ((s3.2.2.2 a 1)) fun b9 =>
  chk (¬ (p0 < 0 ∨ G.2.2 b9 ≤ p0.toNatClampNeg)) <|
  ltt (s3.2.2.1 b9 p0.toNatClampNeg) fun x10 =>
  ltt ((x10 + s3.2.1)) fun x11 =>
  dr G 12 ((s3.2.2.2 a 0)) fun b12 =>
  chk (¬ (x11 < 0 ∨ G.2.2 b12 ≤ x11.toNatClampNeg)) <|
  ltt (s3.2.2.1 b12 x11.toNatClampNeg) fun x13 =>
  bnd (if s3.1 < ((2 : Int32)) then (ltt (s3.2.2.1 a 9) fun x17 =>
  ltt ((x17 + ((1 : Int32)))) fun x18 =>
  ltt (uI s3.2.2 a 9 x18) fun M19 =>
  dr G 12 ((s3.2.2.2 a 8)) fun b20 =>
  chk (¬ (x17 < 0 ∨ G.2.2 b20 ≤ x17.toNatClampNeg)) <|
  ltt (uI M19 b20 x17.toNatClampNeg (vp_nar .byte x13)) fun M21 =>
  bnd (if x13 = ((0 : Int32)) then (ltt ((s3.1 + ((1 : Int32)))) fun x24 =>
  some (x24)) else
  (some ((0 : Int32)))) fun (y22 : Int32) =>
  some (y22, M21)) else
  (bnd (if x13 = ((3 : Int32)) then (some ((0 : Int32), s3.2.2)) else
  (ltt (s3.2.2.1 a 9) fun x27 =>
  ltt ((x27 + ((1 : Int32)))) fun x28 =>
  ltt (uI s3.2.2 a 9 x28) fun M29 =>
  dr G 12 ((s3.2.2.2 a 8)) fun b30 =>
  chk (¬ (x27 < 0 ∨ G.2.2 b30 ≤ x27.toNatClampNeg)) <|
  ltt (uI M29 b30 x27.toNatClampNeg (vp_nar .byte x13)) fun M31 =>
  bnd (if x13 = ((0 : Int32)) then (ltt ((s3.1 + ((1 : Int32)))) fun x34 =>
  some (x34)) else
  (some ((0 : Int32)))) fun (y32 : Int32) =>
  some (y32, M31))) fun (y25 : Int32 × DD) =>
  some (y25.1, y25.2))) fun (y14 : Int32 × DD) =>
  ltt (s3.2.1 + (1 : Int32)) fun x15 =>
  some (.inl (y14.1, x15, y14.2)))) : Option ((Int32 × Int32 × DD) ⊕ (Int32 × Int32 × DD)))) 1000000 ((0 : Int32), (0 : Int32), M1)) fun (y2 : Int32 × Int32 × DD) =>
  some y2.2.2
set_option maxHeartbeats 4000000 in
set_option maxRecDepth 100000 in
def FX8_note (G : GG) (M : DD) (a : Nat) (p0 : Int32) (p1 : Int32) : Option (DD × Int32) :=
  ltt (M.1 a 7) fun x1 =>
  if x1 < ((400 : Int32)) then (ltt (M.1 a 7) fun x3 =>
  dr G 13 ((M.2 a 5)) fun b4 =>
  chk (¬ (x3 < 0 ∨ G.2.2 b4 ≤ x3.toNatClampNeg)) <|
  ltt (uI M b4 x3.toNatClampNeg p0) fun M5 =>
  ltt (M5.1 a 7) fun x6 =>
  dr G 13 ((M5.2 a 6)) fun b7 =>
  chk (¬ (x6 < 0 ∨ G.2.2 b7 ≤ x6.toNatClampNeg)) <|
  ltt (uI M5 b7 x6.toNatClampNeg p1) fun M8 =>
  ltt (M8.1 a 7) fun x9 =>
  ltt ((x9 + ((1 : Int32)))) fun x10 =>
  ltt (uI M8 a 7 x10) fun M11 =>
  chk (((1 : Int32)) = 0 ∨ ((1 : Int32)) = 1) <|
  some (M11, (1 : Int32))) else
  (chk (((0 : Int32)) = 0 ∨ ((0 : Int32)) = 1) <|
  some (M, (0 : Int32)))
set_option maxHeartbeats 4000000 in
set_option maxRecDepth 100000 in
def FX8_noteBox (G : GG) (M : DD) (a : Nat) (p0 : Int32) (p1 : Int32) (p2 : Int32) (p3 : Int32) : Option (DD) :=
  ltt (M.1 a 11) fun x1 =>
  bnd (if ((60 : Int32)) ≤ x1 then (some (M)) else
  (ltt (M.1 a 11) fun x20 =>
  ltt ((((4 : Int32)) * x20)) fun x21 =>
  dr G 13 ((M.2 a 10)) fun b22 =>
  chk (¬ (x21 < 0 ∨ G.2.2 b22 ≤ x21.toNatClampNeg)) <|
  ltt (uI M b22 x21.toNatClampNeg p0) fun M23 =>
  ltt ((x21 + ((1 : Int32)))) fun x24 =>
  dr G 13 ((M23.2 a 10)) fun b25 =>
  chk (¬ (x24 < 0 ∨ G.2.2 b25 ≤ x24.toNatClampNeg)) <|
  ltt (uI M23 b25 x24.toNatClampNeg p1) fun M26 =>
  ltt ((x21 + ((2 : Int32)))) fun x27 =>
  dr G 13 ((M26.2 a 10)) fun b28 =>
  chk (¬ (x27 < 0 ∨ G.2.2 b28 ≤ x27.toNatClampNeg)) <|
  ltt (uI M26 b28 x27.toNatClampNeg p2) fun M29 =>
  ltt ((x21 + ((3 : Int32)))) fun x30 =>
  dr G 13 ((M29.2 a 10)) fun b31 =>
  chk (¬ (x30 < 0 ∨ G.2.2 b31 ≤ x30.toNatClampNeg)) <|
  ltt (uI M29 b31 x30.toNatClampNeg p3) fun M32 =>
  ltt (M32.1 a 11) fun x33 =>
  ltt ((x33 + ((1 : Int32)))) fun x34 =>
  ltt (uI M32 a 11 x34) fun M35 =>
  some (M35))) fun (y2 : DD) =>
  bnd (if p0 = ((1937011578 : Int32)) then (some ((0 : Int32))) else
  (bnd (if p0 = ((1937007471 : Int32)) then (some ((2 : Int32))) else
  (some ((-1 : Int32)))) fun (y17 : Int32) =>
  some (y17))) fun (y3 : Int32) =>
  bnd (if y3 < ((0 : Int32)) then (some (y2)) else
  (dr G 13 ((y2.2 a 12)) fun b6 =>
  chk (¬ (y3 < 0 ∨ G.2.2 b6 ≤ y3.toNatClampNeg)) <|
  ltt (y2.1 b6 y3.toNatClampNeg) fun x7 =>
  bnd (if ((0 : Int32)) ≤ x7 then (some (y2)) else
  (ltt ((p1 + ((8 : Int32)))) fun x10 =>
  chk (¬ (y3 < 0 ∨ G.2.2 b6 ≤ y3.toNatClampNeg)) <|
  ltt (uI y2 b6 y3.toNatClampNeg x10) fun M11 =>
  ltt ((y3 + ((1 : Int32)))) fun x12 =>
  ltt ((p2 - ((8 : Int32)))) fun x13 =>
  dr G 13 ((M11.2 a 12)) fun b14 =>
  chk (¬ (x12 < 0 ∨ G.2.2 b14 ≤ x12.toNatClampNeg)) <|
  ltt (uI M11 b14 x12.toNatClampNeg x13) fun M15 =>
  some (M15))) fun (y8 : DD) =>
  some (y8))) fun (y4 : DD) =>
  some y4
set_option maxHeartbeats 4000000 in
set_option maxRecDepth 100000 in
def FX8_number4 (G : GG) (M : DD) (p0 : Option Nat) (p1 : Int32) : Option (DD × Int64) :=
  bnd (itr (fun (s2 : Int64 × Int32) => ((ltt ((p1 + ((4 : Int32)))) fun x5 =>
  if x5 ≤ s2.2 then (some (.inr (s2.1, s2.2))) else
  (dr G 12 p0 fun b7 =>
  ltt (Int32.ofNat (G.2.2 b7)) fun x8 =>
  if x8 ≤ s2.2 then (some (.inr (s2.1, s2.2))) else
  (ltt (s2.1 <<< (((8 : Int32)).toInt64 &&& 63)) fun x10 =>
  chk (¬ (s2.2 < 0 ∨ G.2.2 b7 ≤ s2.2.toNatClampNeg)) <|
  ltt (M.1 b7 s2.2.toNatClampNeg) fun x11 =>
  ltt ((x11 &&& ((255 : Int32)))) fun x12 =>
  ltt (x12.toInt64) fun x13 =>
  ltt (x10 ||| x13) fun x14 =>
  ltt (s2.2 + (1 : Int32)) fun x15 =>
  some (.inl (x14, x15))))) : Option ((Int64 × Int32) ⊕ (Int64 × Int32)))) 1000000 ((0 : Int64), p1)) fun (y1 : Int64 × Int32) =>
  some (M, y1.1)
set_option maxHeartbeats 4000000 in
set_option maxRecDepth 100000 in
def FX8_put4 (G : GG) (M : DD) (a : Nat) (p0 : Option Nat) (p1 : Int32) : Option (DD) :=
  bnd (itr (fun (s2 : Int32 × DD) => ((if s2.1 < ((0 : Int32)) then (some (.inr (s2.1, s2.2))) else
  (ltt (s2.2.1 a 14) fun x6 =>
  dr G 12 p0 fun b7 =>
  ltt (Int32.ofNat (G.2.2 b7)) fun x8 =>
  if x8 ≤ x6 then (some (.inr (s2.1, s2.2))) else
  (ltt (s2.2.1 a 14) fun x10 =>
  ltt ((x10 + ((1 : Int32)))) fun x11 =>
  ltt (uI s2.2 a 14 x11) fun M12 =>
  ltt ((p1 >>> (s2.1 &&& 31))) fun x13 =>
  ltt (x13.toInt8.toInt32) fun x14 =>
  chk (¬ (x10 < 0 ∨ G.2.2 b7 ≤ x10.toNatClampNeg)) <|
  ltt (uI M12 b7 x10.toNatClampNeg (vp_nar .byte x14)) fun M15 =>
  ltt (s2.1 + (-8 : Int32)) fun x16 =>
  some (.inl (x16, M15))))) : Option ((Int32 × DD) ⊕ (Int32 × DD)))) 1000000 ((24 : Int32), M)) fun (y1 : Int32 × DD) =>
  some y1.2
set_option maxHeartbeats 4000000 in
set_option maxRecDepth 100000 in
def FX8_readBoxes (G : GG) (M : DD) (a : Nat) (p0 : Option Nat) (p1 : Int32) : Option (DD × Int32) :=
  ltt (uI M a 11 ((0 : Int32))) fun M1 =>
  bnd (FJ7_fill_53178 G M1 ((M1.2 a 12)) ((-1 : Int32))) fun y2 =>
  dr G 13 ((y2.2 a 13)) fun b3 =>
  chk (¬ (((0 : Int32)) < 0 ∨ G.2.2 b3 ≤ ((0 : Int32)).toNatClampNeg)) <|
  ltt (uI y2 b3 ((0 : Int32)).toNatClampNeg p1) fun M4 =>
  dr G 13 ((M4.2 a 13)) fun b5 =>
  chk (¬ (((1 : Int32)) < 0 ∨ G.2.2 b5 ≤ ((1 : Int32)).toNatClampNeg)) <|
  ltt (uI M4 b5 ((1 : Int32)).toNatClampNeg ((-1 : Int32))) fun M6 =>
  bnd (itr (fun (s8 : Int32 × Int32 × DD) => ((if p1 ≤ s8.2.1 then (some (.inr (.inl (s8.1, s8.2.1, s8.2.2)))) else
  (ltt ((((2 : Int32)) * s8.1)) fun x12 =>
  dr G 13 ((s8.2.2.2 a 13)) fun b13 =>
  chk (¬ (x12 < 0 ∨ G.2.2 b13 ≤ x12.toNatClampNeg)) <|
  ltt (s8.2.2.1 b13 x12.toNatClampNeg) fun x14 =>
  if s8.2.1 = x14 then (if s8.1 ≤ ((0 : Int32)) then (ltt ((((2 : Int32)) * s8.1)) fun x67 =>
  chk (¬ (x67 < 0 ∨ G.2.2 b13 ≤ x67.toNatClampNeg)) <|
  ltt (s8.2.2.1 b13 x67.toNatClampNeg) fun x68 =>
  ltt ((x68 - s8.2.1)) fun x69 =>
  bnd (if ((8 : Int32)) ≤ x69 then (bnd (FX8_number4 G s8.2.2 p0 s8.2.1) fun y116 =>
  some (y116.2, y116.1)) else
  (some ((0 : Int64), s8.2.2))) fun (y70 : Int64 × DD) =>
  ltt (lg_cmp y70.1 ((8 : Int64))) fun x71 =>
  if x71 < ((0 : Int32)) then (chk (((0 : Int32)) = 0 ∨ ((0 : Int32)) = 1) <|
  some (.inr (.inr (y70.2, (0 : Int32))))) else
  (ltt (x69.toInt64) fun x73 =>
  ltt (lg_cmp y70.1 x73) fun x74 =>
  if x74 ≤ ((0 : Int32)) then (ltt ((s8.2.1 + ((4 : Int32)))) fun x76 =>
  bnd (FX8_number4 G y70.2 p0 x76) fun y77 =>
  ltt (y77.2.toInt32) fun x78 =>
  ltt (y77.1.1 a 11) fun x79 =>
  bnd (if ((60 : Int32)) ≤ x79 then (some ((0 : Int32))) else
  (some ((1 : Int32)))) fun (y80 : Int32) =>
  ltt (y70.1.toInt32) fun x81 =>
  ltt ((((2 : Int32)) * s8.1)) fun x82 =>
  ltt ((x82 + ((1 : Int32)))) fun x83 =>
  dr G 13 ((y77.1.2 a 13)) fun b84 =>
  chk (¬ (x83 < 0 ∨ G.2.2 b84 ≤ x83.toNatClampNeg)) <|
  ltt (y77.1.1 b84 x83.toNatClampNeg) fun x85 =>
  bnd (FX8_noteBox G y77.1 a x78 s8.2.1 x81 x85) fun y86 =>
  bnd (if y80 = ((0 : Int32)) then (ltt (y70.1.toInt32) fun x89 =>
  ltt ((s8.2.1 + x89)) fun x90 =>
  some (s8.1, x90, y86)) else
  (bnd (if ((2 : Int32)) ≤ s8.1 then (ltt (y70.1.toInt32) fun x93 =>
  ltt ((s8.2.1 + x93)) fun x94 =>
  some (s8.1, x94, y86)) else
  (bnd (if s8.1 = ((0 : Int32)) then (some ((1836019574 : Int32))) else
  (some ((1953653099 : Int32)))) fun (y95 : Int32) =>
  bnd (if x78 = y95 then (ltt (s8.1 + (1 : Int32)) fun x100 =>
  ltt ((((2 : Int32)) * x100)) fun x101 =>
  ltt (y70.1.toInt32) fun x102 =>
  ltt ((s8.2.1 + x102)) fun x103 =>
  dr G 13 ((y86.2 a 13)) fun b104 =>
  chk (¬ (x101 < 0 ∨ G.2.2 b104 ≤ x101.toNatClampNeg)) <|
  ltt (uI y86 b104 x101.toNatClampNeg x103) fun M105 =>
  ltt ((((2 : Int32)) * x100)) fun x106 =>
  ltt ((x106 + ((1 : Int32)))) fun x107 =>
  ltt (M105.1 a 11) fun x108 =>
  ltt ((x108 - ((1 : Int32)))) fun x109 =>
  dr G 13 ((M105.2 a 13)) fun b110 =>
  chk (¬ (x107 < 0 ∨ G.2.2 b110 ≤ x107.toNatClampNeg)) <|
  ltt (uI M105 b110 x107.toNatClampNeg x109) fun M111 =>
  ltt (s8.2.1 + (8 : Int32)) fun x112 =>
  some (x100, x112, M111)) else
  (ltt (y70.1.toInt32) fun x98 =>
  ltt ((s8.2.1 + x98)) fun x99 =>
  some (s8.1, x99, y86))) fun (y96 : Int32 × Int32 × DD) =>
  some (y96.1, y96.2.1, y96.2.2))) fun (y91 : Int32 × Int32 × DD) =>
  some (y91.1, y91.2.1, y91.2.2))) fun (y87 : Int32 × Int32 × DD) =>
  some (.inl (y87.1, y87.2.1, y87.2.2))) else
  (chk (((0 : Int32)) = 0 ∨ ((0 : Int32)) = 1) <|
  some (.inr (.inr (y70.2, (0 : Int32))))))) else
  (ltt (s8.1 + (-1 : Int32)) fun x117 =>
  some (.inl (x117, s8.2.1, s8.2.2)))) else
  (ltt ((((2 : Int32)) * s8.1)) fun x16 =>
  chk (¬ (x16 < 0 ∨ G.2.2 b13 ≤ x16.toNatClampNeg)) <|
  ltt (s8.2.2.1 b13 x16.toNatClampNeg) fun x17 =>
  ltt ((x17 - s8.2.1)) fun x18 =>
  bnd (if ((8 : Int32)) ≤ x18 then (bnd (FX8_number4 G s8.2.2 p0 s8.2.1) fun y65 =>
  some (y65.2, y65.1)) else
  (some ((0 : Int64), s8.2.2))) fun (y19 : Int64 × DD) =>
  ltt (lg_cmp y19.1 ((8 : Int64))) fun x20 =>
  if x20 < ((0 : Int32)) then (chk (((0 : Int32)) = 0 ∨ ((0 : Int32)) = 1) <|
  some (.inr (.inr (y19.2, (0 : Int32))))) else
  (ltt (x18.toInt64) fun x22 =>
  ltt (lg_cmp y19.1 x22) fun x23 =>
  if x23 ≤ ((0 : Int32)) then (ltt ((s8.2.1 + ((4 : Int32)))) fun x25 =>
  bnd (FX8_number4 G y19.2 p0 x25) fun y26 =>
  ltt (y26.2.toInt32) fun x27 =>
  ltt (y26.1.1 a 11) fun x28 =>
  bnd (if ((60 : Int32)) ≤ x28 then (some ((0 : Int32))) else
  (some ((1 : Int32)))) fun (y29 : Int32) =>
  ltt (y19.1.toInt32) fun x30 =>
  ltt ((((2 : Int32)) * s8.1)) fun x31 =>
  ltt ((x31 + ((1 : Int32)))) fun x32 =>
  dr G 13 ((y26.1.2 a 13)) fun b33 =>
  chk (¬ (x32 < 0 ∨ G.2.2 b33 ≤ x32.toNatClampNeg)) <|
  ltt (y26.1.1 b33 x32.toNatClampNeg) fun x34 =>
  bnd (FX8_noteBox G y26.1 a x27 s8.2.1 x30 x34) fun y35 =>
  bnd (if y29 = ((0 : Int32)) then (ltt (y19.1.toInt32) fun x38 =>
  ltt ((s8.2.1 + x38)) fun x39 =>
  some (s8.1, x39, y35)) else
  (bnd (if ((2 : Int32)) ≤ s8.1 then (ltt (y19.1.toInt32) fun x42 =>
  ltt ((s8.2.1 + x42)) fun x43 =>
  some (s8.1, x43, y35)) else
  (bnd (if s8.1 = ((0 : Int32)) then (some ((1836019574 : Int32))) else
  (some ((1953653099 : Int32)))) fun (y44 : Int32) =>
  bnd (if x27 = y44 then (ltt (s8.1 + (1 : Int32)) fun x49 =>
  ltt ((((2 : Int32)) * x49)) fun x50 =>
  ltt (y19.1.toInt32) fun x51 =>
  ltt ((s8.2.1 + x51)) fun x52 =>
  dr G 13 ((y35.2 a 13)) fun b53 =>
  chk (¬ (x50 < 0 ∨ G.2.2 b53 ≤ x50.toNatClampNeg)) <|
  ltt (uI y35 b53 x50.toNatClampNeg x52) fun M54 =>
  ltt ((((2 : Int32)) * x49)) fun x55 =>
  ltt ((x55 + ((1 : Int32)))) fun x56 =>
  ltt (M54.1 a 11) fun x57 =>
  ltt ((x57 - ((1 : Int32)))) fun x58 =>
  dr G 13 ((M54.2 a 13)) fun b59 =>
  chk (¬ (x56 < 0 ∨ G.2.2 b59 ≤ x56.toNatClampNeg)) <|
  ltt (uI M54 b59 x56.toNatClampNeg x58) fun M60 =>
  ltt (s8.2.1 + (8 : Int32)) fun x61 =>
  some (x49, x61, M60)) else
  (ltt (y19.1.toInt32) fun x47 =>
  ltt ((s8.2.1 + x47)) fun x48 =>
  some (s8.1, x48, y35))) fun (y45 : Int32 × Int32 × DD) =>
  some (y45.1, y45.2.1, y45.2.2))) fun (y40 : Int32 × Int32 × DD) =>
  some (y40.1, y40.2.1, y40.2.2))) fun (y36 : Int32 × Int32 × DD) =>
  some (.inl (y36.1, y36.2.1, y36.2.2))) else
  (chk (((0 : Int32)) = 0 ∨ ((0 : Int32)) = 1) <|
  some (.inr (.inr (y19.2, (0 : Int32))))))))) : Option ((Int32 × Int32 × DD) ⊕ ((Int32 × Int32 × DD) ⊕ (DD × Int32))))) 1000000 ((0 : Int32), (0 : Int32), M6)) fun (y7 : (Int32 × Int32 × DD) ⊕ (DD × Int32)) =>
  sel y7 (fun (z7k : Int32 × Int32 × DD) =>
  chk (((1 : Int32)) = 0 ∨ ((1 : Int32)) = 1) <|
  some (z7k.2.2, (1 : Int32))) fun r9 => some r9
set_option maxHeartbeats 4000000 in
set_option maxRecDepth 100000 in
def FX8_stopPlace (G : GG) (M : DD) (a : Nat)  : Option (DD × Int32) :=
  ltt (M.1 a 9) fun x1 =>
  ltt ((x1 - ((1 : Int32)))) fun x2 =>
  bnd (itr (fun (s4 : Int32) => ((if s4 ≤ ((0 : Int32)) then (some (.inr (.inl (s4)))) else
  (bnd (itr (fun (s9 : Int32) => ((if ((8 : Int32)) ≤ s9 then (some (.inr (.inl (s9)))) else
  (dr G 12 ((M.2 a 8)) fun b14 =>
  chk (¬ (s4 < 0 ∨ G.2.2 b14 ≤ s4.toNatClampNeg)) <|
  ltt (M.1 b14 s4.toNatClampNeg) fun x15 =>
  if x15 = ((0 : Int32)) then (some (.inr (.inl (s9)))) else
  (chk (¬ (s4 < 0 ∨ G.2.2 b14 ≤ s4.toNatClampNeg)) <|
  ltt (M.1 b14 s4.toNatClampNeg) fun x17 =>
  ltt ((x17 >>> (s9 &&& 31))) fun x18 =>
  ltt ((x18 &&& ((1 : Int32)))) fun x19 =>
  if x19 = ((1 : Int32)) then (ltt ((s4 - ((1 : Int32)))) fun x22 =>
  ltt ((((8 : Int32)) * x22)) fun x23 =>
  ltt ((x23 + ((7 : Int32)))) fun x24 =>
  ltt ((x24 - s9)) fun x25 =>
  some (.inr (.inr (M, x25)))) else
  (ltt (s9 + (1 : Int32)) fun x21 =>
  some (.inl (x21)))))) : Option ((Int32) ⊕ ((Int32) ⊕ (DD × Int32))))) 1000000 ((0 : Int32))) fun (y8 : (Int32) ⊕ (DD × Int32)) =>
  sel y8 (fun (z8k : Int32) =>
  ltt (s4 + (-1 : Int32)) fun x11 =>
  some (.inl (x11))) fun r9 => some (.inr (.inr r9)))) : Option ((Int32) ⊕ ((Int32) ⊕ (DD × Int32))))) 1000000 (x2)) fun (y3 : (Int32) ⊕ (DD × Int32)) =>
  sel y3 (fun (z3k : Int32) =>
  some (M, (-1 : Int32))) fun r9 => some r9
set_option maxHeartbeats 4000000 in
set_option maxRecDepth 100000 in
def FX8_trackLength (G : GG) (M : DD) (a : Nat)  : Option (DD × Int32) :=
  ltt (M.1 a 3) fun x1 =>
  ltt ((((4 : Int32)) * x1)) fun x2 =>
  ltt ((((28 : Int32)) + x2)) fun x3 =>
  ltt ((x3 + ((20 : Int32)))) fun x4 =>
  some (M, x4)
set_option maxHeartbeats 4000000 in
set_option maxRecDepth 100000 in
def FX8_writeTables (G : GG) (M : DD) (a : Nat) (p0 : Option Nat) : Option (DD) :=
  ltt (M.1 a 3) fun x1 =>
  ltt ((((4 : Int32)) * x1)) fun x2 =>
  ltt ((((20 : Int32)) + x2)) fun x3 =>
  bnd (FX8_put4 G M a p0 x3) fun y4 =>
  bnd (FX8_put4 G y4 a p0 ((1937011578 : Int32))) fun y5 =>
  bnd (FX8_put4 G y5 a p0 ((0 : Int32))) fun y6 =>
  bnd (FX8_put4 G y6 a p0 ((0 : Int32))) fun y7 =>
  ltt (y7.1 a 3) fun x8 =>
  bnd (FX8_put4 G y7 a p0 x8) fun y9 =>
  bnd (itr (fun (s11 : Int32 × DD) => ((ltt (s11.2.1 a 3) fun x22 =>
  if x22 ≤ s11.1 then (some (.inr (s11.1, s11.2))) else
  (dr G 13 ((s11.2.2 a 2)) fun b24 =>
  chk (¬ (s11.1 < 0 ∨ G.2.2 b24 ≤ s11.1.toNatClampNeg)) <|
  ltt (s11.2.1 b24 s11.1.toNatClampNeg) fun x25 =>
  ltt ((((4 : Int32)) + x25)) fun x26 =>
  bnd (FX8_put4 G s11.2 a p0 x26) fun y27 =>
  ltt (s11.1 + (1 : Int32)) fun x28 =>
  some (.inl (x28, y27)))) : Option ((Int32 × DD) ⊕ (Int32 × DD)))) 1000000 ((0 : Int32), y9)) fun (y10 : Int32 × DD) =>
  bnd (FX8_put4 G y10.2 a p0 ((20 : Int32))) fun y13 =>
  bnd (FX8_put4 G y13 a p0 ((1937007471 : Int32))) fun y14 =>
  bnd (FX8_put4 G y14 a p0 ((0 : Int32))) fun y15 =>
  bnd (FX8_put4 G y15 a p0 ((1 : Int32))) fun y16 =>
  ltt (y16.1 a 14) fun x17 =>
  ltt ((x17 + ((4 : Int32)))) fun x18 =>
  ltt ((x18 + ((8 : Int32)))) fun x19 =>
  bnd (FX8_put4 G y16 a p0 x19) fun y20 =>
  some y20
set_option maxHeartbeats 4000000 in
set_option maxRecDepth 100000 in
def FX9_addGroup (G : GG) (M : DD) (a : Nat) (p0 : Int32) (p1 : Int32) (p2 : Int32) (p3 : Int32) : Option (DD) :=
  ltt (M.1 a 16) fun x1 =>
  ltt ((((4 : Int32)) * x1)) fun x2 =>
  dr G 13 ((M.2 a 15)) fun b3 =>
  chk (¬ (x2 < 0 ∨ G.2.2 b3 ≤ x2.toNatClampNeg)) <|
  ltt (uI M b3 x2.toNatClampNeg p0) fun M4 =>
  ltt ((x2 + ((1 : Int32)))) fun x5 =>
  dr G 13 ((M4.2 a 15)) fun b6 =>
  chk (¬ (x5 < 0 ∨ G.2.2 b6 ≤ x5.toNatClampNeg)) <|
  ltt (uI M4 b6 x5.toNatClampNeg p1) fun M7 =>
  ltt ((x2 + ((2 : Int32)))) fun x8 =>
  dr G 13 ((M7.2 a 15)) fun b9 =>
  chk (¬ (x8 < 0 ∨ G.2.2 b9 ≤ x8.toNatClampNeg)) <|
  ltt (uI M7 b9 x8.toNatClampNeg p2) fun M10 =>
  ltt ((x2 + ((3 : Int32)))) fun x11 =>
  dr G 13 ((M10.2 a 15)) fun b12 =>
  chk (¬ (x11 < 0 ∨ G.2.2 b12 ≤ x11.toNatClampNeg)) <|
  ltt (uI M10 b12 x11.toNatClampNeg p3) fun M13 =>
  ltt (M13.1 a 16) fun x14 =>
  ltt ((x14 + ((1 : Int32)))) fun x15 =>
  ltt (uI M13 a 16 x15) fun M16 =>
  some M16
set_option maxHeartbeats 4000000 in
set_option maxRecDepth 100000 in
def FX9_addPart (G : GG) (M : DD) (a : Nat) (p0 : Int32) (p1 : Int32) (p2 : Int32) (p3 : Int32) : Option (DD) :=
  ltt (M.1 a 14) fun x1 =>
  ltt ((((5 : Int32)) * x1)) fun x2 =>
  dr G 13 ((M.2 a 13)) fun b3 =>
  chk (¬ (x2 < 0 ∨ G.2.2 b3 ≤ x2.toNatClampNeg)) <|
  ltt (uI M b3 x2.toNatClampNeg p0) fun M4 =>
  ltt ((x2 + ((1 : Int32)))) fun x5 =>
  dr G 13 ((M4.2 a 13)) fun b6 =>
  chk (¬ (x5 < 0 ∨ G.2.2 b6 ≤ x5.toNatClampNeg)) <|
  ltt (uI M4 b6 x5.toNatClampNeg p1) fun M7 =>
  ltt ((x2 + ((2 : Int32)))) fun x8 =>
  dr G 13 ((M7.2 a 13)) fun b9 =>
  chk (¬ (x8 < 0 ∨ G.2.2 b9 ≤ x8.toNatClampNeg)) <|
  ltt (uI M7 b9 x8.toNatClampNeg p2) fun M10 =>
  ltt ((x2 + ((3 : Int32)))) fun x11 =>
  ltt (M10.1 a 16) fun x12 =>
  ltt ((((4 : Int32)) * x12)) fun x13 =>
  ltt ((x13 - ((1 : Int32)))) fun x14 =>
  dr G 13 ((M10.2 a 15)) fun b15 =>
  chk (¬ (x14 < 0 ∨ G.2.2 b15 ≤ x14.toNatClampNeg)) <|
  ltt (M10.1 b15 x14.toNatClampNeg) fun x16 =>
  dr G 13 ((M10.2 a 13)) fun b17 =>
  chk (¬ (x11 < 0 ∨ G.2.2 b17 ≤ x11.toNatClampNeg)) <|
  ltt (uI M10 b17 x11.toNatClampNeg x16) fun M18 =>
  ltt ((x2 + ((4 : Int32)))) fun x19 =>
  dr G 13 ((M18.2 a 13)) fun b20 =>
  chk (¬ (x19 < 0 ∨ G.2.2 b20 ≤ x19.toNatClampNeg)) <|
  ltt (uI M18 b20 x19.toNatClampNeg p3) fun M21 =>
  ltt (M21.1 a 14) fun x22 =>
  ltt ((x22 + ((1 : Int32)))) fun x23 =>
  ltt (uI M21 a 14 x23) fun M24 =>
  some M24
set_option maxHeartbeats 4000000 in
set_option maxRecDepth 100000 in
def FX9_adopt (G : GG) (M : DD) (a : Nat) (p0 : Int32) (p1 : Int32) : Option (DD) :=
  ltt ((((512 : Int32)) * p0)) fun x1 =>
  ltt ((x1 + p1)) fun x2 =>
  ltt ((((2 : Int32)) * x2)) fun x3 =>
  dr G 4 ((M.2 a 0)) fun b4 =>
  dr G 13 ((M.2 b4 7)) fun b5 =>
  chk (¬ (x3 < 0 ∨ G.2.2 b5 ≤ x3.toNatClampNeg)) <|
  ltt (M.1 b5 x3.toNatClampNeg) fun x6 =>
  ltt (uI M a 18 x6) fun M7 =>
  dr G 4 ((M7.2 a 0)) fun b8 =>
  ltt ((x3 + ((1 : Int32)))) fun x9 =>
  dr G 13 ((M7.2 b8 7)) fun b10 =>
  chk (¬ (x9 < 0 ∨ G.2.2 b10 ≤ x9.toNatClampNeg)) <|
  ltt (M7.1 b10 x9.toNatClampNeg) fun x11 =>
  ltt (uI M7 a 19 x11) fun M12 =>
  some M12
set_option maxHeartbeats 4000000 in
set_option maxRecDepth 100000 in
def FX9_adoptMedian (G : GG) (M : DD) (a : Nat) (p0 : Int32) (p1 : Int32) (p2 : Int32) (p3 : Int32) : Option (DD) :=
  ltt ((((1024 : Int32)) * p0)) fun x1 =>
  bnd (itr (fun (s3 : Int32 × Int32 × Int32) => ((if ((2 : Int32)) ≤ s3.2.2 then (some (.inr (s3.1, s3.2.1, s3.2.2))) else
  (bnd (if ((0 : Int32)) ≤ p1 then (dr G 4 ((M.2 a 0)) fun b38 =>
  ltt ((((2 : Int32)) * p1)) fun x39 =>
  ltt ((x1 + x39)) fun x40 =>
  ltt ((x40 + s3.2.2)) fun x41 =>
  dr G 13 ((M.2 b38 7)) fun b42 =>
  chk (¬ (x41 < 0 ∨ G.2.2 b42 ≤ x41.toNatClampNeg)) <|
  ltt (M.1 b42 x41.toNatClampNeg) fun x43 =>
  some (x43)) else
  (some ((0 : Int32)))) fun (y9 : Int32) =>
  bnd (if ((0 : Int32)) ≤ p2 then (dr G 4 ((M.2 a 0)) fun b31 =>
  ltt ((((2 : Int32)) * p2)) fun x32 =>
  ltt ((x1 + x32)) fun x33 =>
  ltt ((x33 + s3.2.2)) fun x34 =>
  dr G 13 ((M.2 b31 7)) fun b35 =>
  chk (¬ (x34 < 0 ∨ G.2.2 b35 ≤ x34.toNatClampNeg)) <|
  ltt (M.1 b35 x34.toNatClampNeg) fun x36 =>
  some (x36)) else
  (some ((0 : Int32)))) fun (y10 : Int32) =>
  bnd (if ((0 : Int32)) ≤ p3 then (dr G 4 ((M.2 a 0)) fun b24 =>
  ltt ((((2 : Int32)) * p3)) fun x25 =>
  ltt ((x1 + x25)) fun x26 =>
  ltt ((x26 + s3.2.2)) fun x27 =>
  dr G 13 ((M.2 b24 7)) fun b28 =>
  chk (¬ (x27 < 0 ∨ G.2.2 b28 ≤ x27.toNatClampNeg)) <|
  ltt (M.1 b28 x27.toNatClampNeg) fun x29 =>
  some (x29)) else
  (some ((0 : Int32)))) fun (y11 : Int32) =>
  bnd (if y10 ≤ y9 then (some (y10)) else
  (some (y9))) fun (y12 : Int32) =>
  bnd (if y10 ≤ y9 then (some (y9)) else
  (some (y10))) fun (y13 : Int32) =>
  bnd (if y12 ≤ y11 then (bnd (if y11 ≤ y13 then (some (y11)) else
  (some (y13))) fun (y19 : Int32) =>
  some (y19)) else
  (some (y12))) fun (y14 : Int32) =>
  bnd (if s3.2.2 = ((0 : Int32)) then (some (y14)) else
  (some (s3.1))) fun (y15 : Int32) =>
  ltt (s3.2.2 + (1 : Int32)) fun x16 =>
  some (.inl (y15, y14, x16)))) : Option ((Int32 × Int32 × Int32) ⊕ (Int32 × Int32 × Int32)))) 1000000 ((0 : Int32), (0 : Int32), (0 : Int32))) fun (y2 : Int32 × Int32 × Int32) =>
  ltt (uI M a 18 y2.1) fun M5 =>
  ltt (uI M5 a 19 y2.2.1) fun M6 =>
  some M6
set_option maxHeartbeats 4000000 in
set_option maxRecDepth 100000 in
def FX9_endBlock (G : GG) (M : DD) (a : Nat) (p0 : Int32) : Option (DD) :=
  ltt ((((8 : Int32)) * p0)) fun x1 =>
  ltt ((x1 + ((6 : Int32)))) fun x2 =>
  ltt (M.1 a 11) fun x3 =>
  dr G 13 ((M.2 a 6)) fun b4 =>
  chk (¬ (x2 < 0 ∨ G.2.2 b4 ≤ x2.toNatClampNeg)) <|
  ltt (uI M b4 x2.toNatClampNeg x3) fun M5 =>
  ltt ((((3 : Int32)) * p0)) fun x6 =>
  dr G 3 ((M5.2 a 1)) fun b7 =>
  dr G 13 ((M5.2 b7 0)) fun b8 =>
  chk (¬ (((13 : Int32)) < 0 ∨ G.2.2 b8 ≤ ((13 : Int32)).toNatClampNeg)) <|
  ltt (M5.1 b8 ((13 : Int32)).toNatClampNeg) fun x9 =>
  dr G 13 ((M5.2 a 10)) fun b10 =>
  chk (¬ (x6 < 0 ∨ G.2.2 b10 ≤ x6.toNatClampNeg)) <|
  ltt (uI M5 b10 x6.toNatClampNeg x9) fun M11 =>
  ltt ((((3 : Int32)) * p0)) fun x12 =>
  ltt ((x12 + ((1 : Int32)))) fun x13 =>
  dr G 3 ((M11.2 a 1)) fun b14 =>
  dr G 13 ((M11.2 b14 0)) fun b15 =>
  chk (¬ (((14 : Int32)) < 0 ∨ G.2.2 b15 ≤ ((14 : Int32)).toNatClampNeg)) <|
  ltt (M11.1 b15 ((14 : Int32)).toNatClampNeg) fun x16 =>
  dr G 13 ((M11.2 a 10)) fun b17 =>
  chk (¬ (x13 < 0 ∨ G.2.2 b17 ≤ x13.toNatClampNeg)) <|
  ltt (uI M11 b17 x13.toNatClampNeg x16) fun M18 =>
  ltt ((((3 : Int32)) * p0)) fun x19 =>
  ltt ((x19 + ((2 : Int32)))) fun x20 =>
  dr G 3 ((M18.2 a 1)) fun b21 =>
  dr G 13 ((M18.2 b21 0)) fun b22 =>
  chk (¬ (((15 : Int32)) < 0 ∨ G.2.2 b22 ≤ ((15 : Int32)).toNatClampNeg)) <|
  ltt (M18.1 b22 ((15 : Int32)).toNatClampNeg) fun x23 =>
  dr G 13 ((M18.2 a 10)) fun b24 =>
  chk (¬ (x20 < 0 ∨ G.2.2 b24 ≤ x20.toNatClampNeg)) <|
  ltt (uI M18 b24 x20.toNatClampNeg x23) fun M25 =>
  bnd (itr (fun (s27 : Int32 × DD) => ((if ((2 : Int32)) ≤ s27.1 then (some (.inr (s27.1, s27.2))) else
  (bnd (itr (fun (s32 : Int32 × DD) => ((if ((16 : Int32)) ≤ s32.1 then (some (.inr (s32.1, s32.2))) else
  (dr G 4 ((s32.2.2 a 0)) fun b37 =>
  ltt ((((16 : Int32)) * p0)) fun x38 =>
  ltt ((x38 + s32.1)) fun x39 =>
  bnd (FX4_at G s32.2 s27.1 x39) fun y40 =>
  dr G 13 ((s32.2.2 b37 5)) fun b41 =>
  chk (¬ (y40.2 < 0 ∨ G.2.2 b41 ≤ y40.2.toNatClampNeg)) <|
  ltt (y40.1.1 b41 y40.2.toNatClampNeg) fun x42 =>
  bnd (if x42 < ((0 : Int32)) then (some (y40.1)) else
  (bnd (if ((9 : Int32)) ≤ x42 then (some (y40.1)) else
  (ltt ((((9 : Int32)) * s27.1)) fun x48 =>
  ltt ((x48 + x42)) fun x49 =>
  dr G 14 ((y40.1.2 a 3)) fun b50 =>
  chk (¬ (x49 < 0 ∨ G.2.2 b50 ≤ x49.toNatClampNeg)) <|
  bnd (if ((y40.1.2 b50 x49.toNatClampNeg)) = none then (some (y40.1)) else
  (ltt ((((9 : Int32)) * s27.1)) fun x53 =>
  ltt ((x53 + x42)) fun x54 =>
  chk (¬ (x54 < 0 ∨ G.2.2 b50 ≤ x54.toNatClampNeg)) <|
  dr G 4 ((y40.1.2 b50 x54.toNatClampNeg)) fun b55 =>
  ltt (y40.1.1 b55 14) fun x56 =>
  bnd (if x56 = ((0 : Int32)) then (dr G 4 ((y40.1.2 a 0)) fun b59 =>
  chk (((0 : Int32)) = 0 ∨ ((0 : Int32)) = 1) <|
  ltt (uI y40.1 b59 14 ((0 : Int32))) fun M60 =>
  some (M60)) else
  (some (y40.1))) fun (y57 : DD) =>
  some (y57))) fun (y51 : DD) =>
  some (y51))) fun (y46 : DD) =>
  some (y46))) fun (y43 : DD) =>
  ltt (s32.1 + (1 : Int32)) fun x44 =>
  some (.inl (x44, y43)))) : Option ((Int32 × DD) ⊕ (Int32 × DD)))) 1000000 ((0 : Int32), s27.2)) fun (y31 : Int32 × DD) =>
  ltt (s27.1 + (1 : Int32)) fun x34 =>
  some (.inl (x34, y31.2)))) : Option ((Int32 × DD) ⊕ (Int32 × DD)))) 1000000 ((0 : Int32), M25)) fun (y26 : Int32 × DD) =>
  some y26.2
set_option maxHeartbeats 4000000 in
set_option maxRecDepth 100000 in
def FX9_entryOf (G : GG) (M : DD) (a : Nat) (p0 : Int32) : Option (DD × Int32) :=
  bnd (itr (fun (s2 : Int32) => ((if ((8 : Int32)) ≤ s2 then (some (.inr (.inl (s2)))) else
  (dr G 14 ((M.2 a 3)) fun b6 =>
  chk (¬ (s2 < 0 ∨ G.2.2 b6 ≤ s2.toNatClampNeg)) <|
  if ((M.2 b6 s2.toNatClampNeg)) = none then (ltt (s2 + (1 : Int32)) fun x8 =>
  some (.inl (x8))) else
  (chk (¬ (s2 < 0 ∨ G.2.2 b6 ≤ s2.toNatClampNeg)) <|
  dr G 4 ((M.2 b6 s2.toNatClampNeg)) fun b9 =>
  ltt (M.1 b9 0) fun x10 =>
  if x10 = p0 then (some (.inr (.inr (M, s2)))) else
  (ltt (s2 + (1 : Int32)) fun x12 =>
  some (.inl (x12)))))) : Option ((Int32) ⊕ ((Int32) ⊕ (DD × Int32))))) 1000000 ((0 : Int32))) fun (y1 : (Int32) ⊕ (DD × Int32)) =>
  sel y1 (fun (z1k : Int32) =>
  some (M, (-1 : Int32))) fun r9 => some r9
set_option maxHeartbeats 4000000 in
set_option maxRecDepth 100000 in
noncomputable def FX9_init (G : GG) (M : DD) (a : Nat)  : Option (NN × DD) :=
  chkP (Clo (xt G []) M) <|
  chk (¬ ((18 : Int32)) < 0 ∧ ((18 : Int32)).toNatClampNeg * 4 ≤ 536870912) <|
  ltt ((xt G []).1) fun c2 =>
  app [(14, ((18 : Int32)).toNatClampNeg)] <|
  ltt ([] ++ [(14, ((18 : Int32)).toNatClampNeg)]) fun L4 =>
  ltt (rO M c2) fun M5 =>
  ltt (uP M5 a 3 (some c2)) fun M8 =>
  chkP (Clo (xt G L4) M8) <|
  chk (¬ ((18 : Int32)) < 0 ∧ ((18 : Int32)).toNatClampNeg * 4 ≤ 536870912) <|
  ltt ((xt G L4).1) fun c10 =>
  app [(13, ((18 : Int32)).toNatClampNeg)] <|
  ltt (L4 ++ [(13, ((18 : Int32)).toNatClampNeg)]) fun L12 =>
  ltt (rO M8 c10) fun M13 =>
  ltt (uP M13 a 4 (some c10)) fun M16 =>
  chkP (Clo (xt G L12) M16) <|
  chk (¬ ((18 : Int32)) < 0 ∧ ((18 : Int32)).toNatClampNeg * 4 ≤ 536870912) <|
  ltt ((xt G L12).1) fun c18 =>
  app [(13, ((18 : Int32)).toNatClampNeg)] <|
  ltt (L12 ++ [(13, ((18 : Int32)).toNatClampNeg)]) fun L20 =>
  ltt (rO M16 c18) fun M21 =>
  ltt (uP M21 a 5 (some c18)) fun M24 =>
  chkP (Clo (xt G L20) M24) <|
  chk (¬ ((256 : Int32)) < 0 ∧ ((256 : Int32)).toNatClampNeg * 4 ≤ 536870912) <|
  ltt ((xt G L20).1) fun c26 =>
  app [(13, ((256 : Int32)).toNatClampNeg)] <|
  ltt (L20 ++ [(13, ((256 : Int32)).toNatClampNeg)]) fun L28 =>
  ltt (rO M24 c26) fun M29 =>
  ltt (uP M29 a 6 (some c26)) fun M32 =>
  chkP (Clo (xt G L28) M32) <|
  chk (¬ ((512 : Int32)) < 0 ∧ ((512 : Int32)).toNatClampNeg * 4 ≤ 536870912) <|
  ltt ((xt G L28).1) fun c34 =>
  app [(13, ((512 : Int32)).toNatClampNeg)] <|
  ltt (L28 ++ [(13, ((512 : Int32)).toNatClampNeg)]) fun L36 =>
  ltt (rO M32 c34) fun M37 =>
  ltt (uP M37 a 7 (some c34)) fun M40 =>
  chkP (Clo (xt G L36) M40) <|
  chk (¬ ((768 : Int32)) < 0 ∧ ((768 : Int32)).toNatClampNeg * 4 ≤ 536870912) <|
  ltt ((xt G L36).1) fun c42 =>
  app [(13, ((768 : Int32)).toNatClampNeg)] <|
  ltt (L36 ++ [(13, ((768 : Int32)).toNatClampNeg)]) fun L44 =>
  ltt (rO M40 c42) fun M45 =>
  ltt (uP M45 a 8 (some c42)) fun M48 =>
  chkP (Clo (xt G L44) M48) <|
  chk (¬ ((13824 : Int32)) < 0 ∧ ((13824 : Int32)).toNatClampNeg * 4 ≤ 536870912) <|
  ltt ((xt G L44).1) fun c50 =>
  app [(13, ((13824 : Int32)).toNatClampNeg)] <|
  ltt (L44 ++ [(13, ((13824 : Int32)).toNatClampNeg)]) fun L52 =>
  ltt (rO M48 c50) fun M53 =>
  ltt (uP M53 a 9 (some c50)) fun M56 =>
  chkP (Clo (xt G L52) M56) <|
  chk (¬ ((96 : Int32)) < 0 ∧ ((96 : Int32)).toNatClampNeg * 4 ≤ 536870912) <|
  ltt ((xt G L52).1) fun c58 =>
  app [(13, ((96 : Int32)).toNatClampNeg)] <|
  ltt (L52 ++ [(13, ((96 : Int32)).toNatClampNeg)]) fun L60 =>
  ltt (rO M56 c58) fun M61 =>
  ltt (uP M61 a 10 (some c58)) fun M64 =>
  chkP (Clo (xt G L60) M64) <|
  chk (¬ ((4 : Int32)) < 0 ∧ ((4 : Int32)).toNatClampNeg * 4 ≤ 536870912) <|
  ltt ((xt G L60).1) fun c66 =>
  app [(13, ((4 : Int32)).toNatClampNeg)] <|
  ltt (L60 ++ [(13, ((4 : Int32)).toNatClampNeg)]) fun L68 =>
  ltt (rO M64 c66) fun M69 =>
  ltt (uP M69 a 12 (some c66)) fun M72 =>
  chkP (Clo (xt G L68) M72) <|
  chk (¬ ((80 : Int32)) < 0 ∧ ((80 : Int32)).toNatClampNeg * 4 ≤ 536870912) <|
  ltt ((xt G L68).1) fun c74 =>
  app [(13, ((80 : Int32)).toNatClampNeg)] <|
  ltt (L68 ++ [(13, ((80 : Int32)).toNatClampNeg)]) fun L76 =>
  ltt (rO M72 c74) fun M77 =>
  ltt (uP M77 a 13 (some c74)) fun M80 =>
  chkP (Clo (xt G L76) M80) <|
  chk (¬ ((16 : Int32)) < 0 ∧ ((16 : Int32)).toNatClampNeg * 4 ≤ 536870912) <|
  ltt ((xt G L76).1) fun c82 =>
  app [(13, ((16 : Int32)).toNatClampNeg)] <|
  ltt (L76 ++ [(13, ((16 : Int32)).toNatClampNeg)]) fun L84 =>
  ltt (rO M80 c82) fun M85 =>
  ltt (uP M85 a 15 (some c82)) fun M88 =>
  chkP (Clo (xt G L84) M88) <|
  chk (¬ ((64 : Int32)) < 0 ∧ ((64 : Int32)).toNatClampNeg * 4 ≤ 536870912) <|
  ltt ((xt G L84).1) fun c90 =>
  app [(13, ((64 : Int32)).toNatClampNeg)] <|
  ltt (L84 ++ [(13, ((64 : Int32)).toNatClampNeg)]) fun L92 =>
  ltt (rO M88 c90) fun M93 =>
  ltt (uP M93 a 17 (some c90)) fun M96 =>
  some ([], M96)
set_option maxHeartbeats 4000000 in
set_option maxRecDepth 100000 in
def FX9_isAtRest (G : GG) (M : DD) (a : Nat) (p0 : Int32) : Option (DD × Int32) :=
  dr G 4 ((M.2 a 0)) fun b1 =>
  dr G 13 ((M.2 b1 5)) fun b2 =>
  chk (¬ (p0 < 0 ∨ G.2.2 b2 ≤ p0.toNatClampNeg)) <|
  ltt (M.1 b2 p0.toNatClampNeg) fun x3 =>
  bnd (if x3 = ((0 : Int32)) then (ltt ((((2 : Int32)) * p0)) fun x6 =>
  dr G 13 ((M.2 b1 7)) fun b7 =>
  chk (¬ (x6 < 0 ∨ G.2.2 b7 ≤ x6.toNatClampNeg)) <|
  ltt (M.1 b7 x6.toNatClampNeg) fun x8 =>
  bnd (if x8 = ((0 : Int32)) then (ltt ((((2 : Int32)) * p0)) fun x11 =>
  ltt ((x11 + ((1 : Int32)))) fun x12 =>
  chk (¬ (x12 < 0 ∨ G.2.2 b7 ≤ x12.toNatClampNeg)) <|
  ltt (M.1 b7 x12.toNatClampNeg) fun x13 =>
  bnd (if x13 = ((0 : Int32)) then (some ((1 : Int32))) else
  (some ((0 : Int32)))) fun (y14 : Int32) =>
  some (y14)) else
  (some ((0 : Int32)))) fun (y9 : Int32) =>
  some (y9)) else
  (some ((0 : Int32)))) fun (y4 : Int32) =>
  chk (y4 = 0 ∨ y4 = 1) <|
  some (M, y4)
set_option maxHeartbeats 4000000 in
set_option maxRecDepth 100000 in
def FX9_isStill (G : GG) (M : DD) (p0 : Option Nat) (p1 : Int32) (p2 : Int32) : Option (DD × Int32) :=
  ltt ((((16 : Int32)) * p1)) fun x1 =>
  ltt ((((5 : Int32)) * p2)) fun x2 =>
  ltt ((x1 + x2)) fun x3 =>
  dr G 4 p0 fun b4 =>
  ltt (M.1 b4 10) fun x5 =>
  if x5 = ((2 : Int32)) then (chk (((0 : Int32)) = 0 ∨ ((0 : Int32)) = 1) <|
  some (M, (0 : Int32))) else
  (bnd (FX4_blocks G M b4) fun y7 =>
  if y7.2 ≤ p1 then (chk (((0 : Int32)) = 0 ∨ ((0 : Int32)) = 1) <|
  some (y7.1, (0 : Int32))) else
  (bnd (FX4_listOf G y7.1 b4 x3) fun y9 =>
  if ((0 : Int32)) ≤ y9.2 then (bnd (FX4_listOf G y9.1 b4 x3) fun y11 =>
  bnd (FX4_at G y11.1 y11.2 x3) fun y12 =>
  ltt ((((2 : Int32)) * y12.2)) fun x13 =>
  dr G 13 ((y12.1.2 b4 7)) fun b14 =>
  chk (¬ (x13 < 0 ∨ G.2.2 b14 ≤ x13.toNatClampNeg)) <|
  ltt (y12.1.1 b14 x13.toNatClampNeg) fun x15 =>
  ltt ((((2 : Int32)) * y12.2)) fun x16 =>
  ltt ((x16 + ((1 : Int32)))) fun x17 =>
  chk (¬ (x17 < 0 ∨ G.2.2 b14 ≤ x17.toNatClampNeg)) <|
  ltt (y12.1.1 b14 x17.toNatClampNeg) fun x18 =>
  dr G 13 ((y12.1.2 b4 5)) fun b19 =>
  chk (¬ (y12.2 < 0 ∨ G.2.2 b19 ≤ y12.2.toNatClampNeg)) <|
  ltt (y12.1.1 b19 y12.2.toNatClampNeg) fun x20 =>
  bnd (if x20 = ((0 : Int32)) then (bnd (if x15 < ((-1 : Int32)) then (some ((0 : Int32))) else
  (bnd (if ((1 : Int32)) < x15 then (some ((0 : Int32))) else
  (bnd (if x18 < ((-1 : Int32)) then (some ((0 : Int32))) else
  (bnd (if ((1 : Int32)) < x18 then (some ((0 : Int32))) else
  (some ((1 : Int32)))) fun (y29 : Int32) =>
  some (y29))) fun (y27 : Int32) =>
  some (y27))) fun (y25 : Int32) =>
  some (y25))) fun (y23 : Int32) =>
  some (y23)) else
  (some ((0 : Int32)))) fun (y21 : Int32) =>
  chk (y21 = 0 ∨ y21 = 1) <|
  some (y12.1, y21)) else
  (chk (((0 : Int32)) = 0 ∨ ((0 : Int32)) = 1) <|
  some (y9.1, (0 : Int32)))))
set_option maxHeartbeats 4000000 in
set_option maxRecDepth 100000 in
def FX9_levelAt (G : GG) (M : DD) (p0 : Int32) (p1 : Int32) : Option (DD × Int32) :=
  ltt ((((27 : Int32)) * p0)) fun x1 =>
  ltt ((x1 + p1)) fun x2 =>
  ltt ((((16 : Int32)) * x2)) fun x3 =>
  some (M, x3)
set_option maxHeartbeats 4000000 in
set_option maxRecDepth 100000 in
def FX9_mayBeColours (G : GG) (M : DD) (p0 : Int32) (p1 : Int32) : Option (DD × Int32) :=
  bnd (if p0 = ((0 : Int32)) then (some ((0 : Int32))) else
  (bnd (if p0 = ((1 : Int32)) then (some ((1 : Int32))) else
  (bnd (if p0 = ((2 : Int32)) then (some ((2 : Int32))) else
  (some ((7 : Int32)))) fun (y8 : Int32) =>
  some (y8))) fun (y6 : Int32) =>
  some (y6))) fun (y1 : Int32) =>
  ltt ((p1 &&& y1)) fun x2 =>
  bnd (if x2 = y1 then (some ((1 : Int32))) else
  (some ((0 : Int32)))) fun (y3 : Int32) =>
  chk (y3 = 0 ∨ y3 = 1) <|
  some (M, y3)
set_option maxHeartbeats 4000000 in
set_option maxRecDepth 100000 in
def FX9_mayBeFour (G : GG) (M : DD) (p0 : Int32) (p1 : Int32) : Option (DD × Int32) :=
  bnd (if p0 = ((2 : Int32)) then (some ((0 : Int32))) else
  (bnd (if p0 = ((1 : Int32)) then (some ((1 : Int32))) else
  (bnd (if p0 = ((8 : Int32)) then (some ((1 : Int32))) else
  (bnd (if p0 < ((4 : Int32)) then (some ((2 : Int32))) else
  (bnd (if p0 = ((7 : Int32)) then (some ((2 : Int32))) else
  (some ((7 : Int32)))) fun (y12 : Int32) =>
  some (y12))) fun (y10 : Int32) =>
  some (y10))) fun (y8 : Int32) =>
  some (y8))) fun (y6 : Int32) =>
  some (y6))) fun (y1 : Int32) =>
  ltt ((p1 &&& y1)) fun x2 =>
  bnd (if x2 = y1 then (some ((1 : Int32))) else
  (some ((0 : Int32)))) fun (y3 : Int32) =>
  chk (y3 = 0 ∨ y3 = 1) <|
  some (M, y3)
set_option maxHeartbeats 4000000 in
set_option maxRecDepth 100000 in
def FX9_mayBeSixteen (G : GG) (M : DD) (p0 : Int32) (p1 : Int32) : Option (DD × Int32) :=
  bnd (if p0 = ((0 : Int32)) then (some ((2 : Int32))) else
  (bnd (if p0 = ((1 : Int32)) then (some ((1 : Int32))) else
  (bnd (if p0 = ((2 : Int32)) then (some ((0 : Int32))) else
  (some ((7 : Int32)))) fun (y8 : Int32) =>
  some (y8))) fun (y6 : Int32) =>
  some (y6))) fun (y1 : Int32) =>
  ltt ((p1 &&& y1)) fun x2 =>
  bnd (if x2 = y1 then (some ((1 : Int32))) else
  (some ((0 : Int32)))) fun (y3 : Int32) =>
  chk (y3 = 0 ∨ y3 = 1) <|
  some (M, y3)
set_option maxHeartbeats 4000000 in
set_option maxRecDepth 100000 in
def FX9_mayUse (G : GG) (M : DD) (a : Nat) (p0 : Int32) : Option (DD × Int32) :=
  bnd (if p0 < ((0 : Int32)) then (some ((0 : Int32))) else
  (dr G 13 ((M.2 a 2)) fun b3 =>
  chk (¬ (((10 : Int32)) < 0 ∨ G.2.2 b3 ≤ ((10 : Int32)).toNatClampNeg)) <|
  ltt (M.1 b3 ((10 : Int32)).toNatClampNeg) fun x4 =>
  bnd (if x4 = ((0 : Int32)) then (some ((1 : Int32))) else
  (ltt ((p0 >>> (((4 : Int32)) &&& 31))) fun x7 =>
  ltt ((((8 : Int32)) * x7)) fun x8 =>
  ltt ((x8 + ((0 : Int32)))) fun x9 =>
  dr G 13 ((M.2 a 6)) fun b10 =>
  chk (¬ (x9 < 0 ∨ G.2.2 b10 ≤ x9.toNatClampNeg)) <|
  ltt (M.1 b10 x9.toNatClampNeg) fun x11 =>
  bnd (if x11 = ((3 : Int32)) then (some ((0 : Int32))) else
  (some ((1 : Int32)))) fun (y12 : Int32) =>
  some (y12))) fun (y5 : Int32) =>
  some (y5))) fun (y1 : Int32) =>
  chk (y1 = 0 ∨ y1 = 1) <|
  some (M, y1)
set_option maxHeartbeats 4000000 in
set_option maxRecDepth 100000 in
def FX9_modeAt (G : GG) (M : DD) (a : Nat) (p0 : Int32) : Option (DD × Int32) :=
  if ((0 : Int32)) ≤ p0 then (ltt ((p0 >>> (((4 : Int32)) &&& 31))) fun x2 =>
  ltt ((((8 : Int32)) * x2)) fun x3 =>
  ltt ((x3 + ((0 : Int32)))) fun x4 =>
  dr G 13 ((M.2 a 6)) fun b5 =>
  chk (¬ (x4 < 0 ∨ G.2.2 b5 ≤ x4.toNatClampNeg)) <|
  ltt (M.1 b5 x4.toNatClampNeg) fun x6 =>
  dr G 13 ((M.2 a 2)) fun b7 =>
  chk (¬ (((10 : Int32)) < 0 ∨ G.2.2 b7 ≤ ((10 : Int32)).toNatClampNeg)) <|
  ltt (M.1 b7 ((10 : Int32)).toNatClampNeg) fun x8 =>
  if x8 = ((1 : Int32)) then (if x6 = ((3 : Int32)) then (some (M, (-1 : Int32))) else
  (bnd (if x6 = ((0 : Int32)) then (dr G 13 ((M.2 a 7)) fun b17 =>
  chk (¬ (p0 < 0 ∨ G.2.2 b17 ≤ p0.toNatClampNeg)) <|
  ltt (M.1 b17 p0.toNatClampNeg) fun x18 =>
  some (x18)) else
  (some ((2 : Int32)))) fun (y15 : Int32) =>
  some (M, y15))) else
  (bnd (if x6 = ((0 : Int32)) then (dr G 13 ((M.2 a 7)) fun b12 =>
  chk (¬ (p0 < 0 ∨ G.2.2 b12 ≤ p0.toNatClampNeg)) <|
  ltt (M.1 b12 p0.toNatClampNeg) fun x13 =>
  some (x13)) else
  (some ((2 : Int32)))) fun (y10 : Int32) =>
  some (M, y10))) else
  (some (M, (-1 : Int32)))
set_option maxHeartbeats 4000000 in
set_option maxRecDepth 100000 in
def FX9_noteEntries (G : GG) (M : DD) (a : Nat)  : Option (DD) :=
  bnd (itr (fun (s2 : Int32 × DD) => ((if ((18 : Int32)) ≤ s2.1 then (some (.inr (s2.1, s2.2))) else
  (dr G 14 ((s2.2.2 a 3)) fun b6 =>
  chk (¬ (s2.1 < 0 ∨ G.2.2 b6 ≤ s2.1.toNatClampNeg)) <|
  bnd (if ((s2.2.2 b6 s2.1.toNatClampNeg)) = none then (some ((0 : Int32))) else
  (some ((1 : Int32)))) fun (y7 : Int32) =>
  dr G 13 ((s2.2.2 a 4)) fun b8 =>
  chk (¬ (s2.1 < 0 ∨ G.2.2 b8 ≤ s2.1.toNatClampNeg)) <|
  ltt (uI s2.2 b8 s2.1.toNatClampNeg y7) fun M9 =>
  dr G 14 ((M9.2 a 3)) fun b10 =>
  chk (¬ (s2.1 < 0 ∨ G.2.2 b10 ≤ s2.1.toNatClampNeg)) <|
  bnd (if ((M9.2 b10 s2.1.toNatClampNeg)) = none then (some ((0 : Int32))) else
  (chk (¬ (s2.1 < 0 ∨ G.2.2 b10 ≤ s2.1.toNatClampNeg)) <|
  dr G 4 ((M9.2 b10 s2.1.toNatClampNeg)) fun b16 =>
  ltt (M9.1 b16 9) fun x17 =>
  some (x17))) fun (y11 : Int32) =>
  dr G 13 ((M9.2 a 5)) fun b12 =>
  chk (¬ (s2.1 < 0 ∨ G.2.2 b12 ≤ s2.1.toNatClampNeg)) <|
  ltt (uI M9 b12 s2.1.toNatClampNeg y11) fun M13 =>
  ltt (s2.1 + (1 : Int32)) fun x14 =>
  some (.inl (x14, M13)))) : Option ((Int32 × DD) ⊕ (Int32 × DD)))) 1000000 ((0 : Int32), M)) fun (y1 : Int32 × DD) =>
  some y1.2
set_option maxHeartbeats 4000000 in
set_option maxRecDepth 100000 in
def FX9_pieceAt (G : GG) (M : DD) (a : Nat) (p0 : Int32) (p1 : Int32) (p2 : Int32) (p3 : Int32) : Option (DD × Int32) :=
  dr G 4 ((M.2 a 0)) fun b1 =>
  ltt (M.1 b1 1) fun x2 =>
  chk (¬ x2 = 0) <|
  ltt (p0 - p0 / x2 * x2) fun x3 =>
  bnd (if ((0 : Int32)) ≤ p1 then (bnd (if p1 ≤ ((15 : Int32)) then (some ((0 : Int32))) else
  (some ((1 : Int32)))) fun (y49 : Int32) =>
  some (y49)) else
  (some ((-1 : Int32)))) fun (y4 : Int32) =>
  ltt ((x3 + y4)) fun x5 =>
  ltt (M.1 b1 1) fun x6 =>
  chk (¬ x6 = 0) <|
  ltt (p0 / x6) fun x7 =>
  bnd (if ((0 : Int32)) ≤ p2 then (some ((0 : Int32))) else
  (some ((1 : Int32)))) fun (y8 : Int32) =>
  ltt ((x7 - y8)) fun x9 =>
  if x5 < ((0 : Int32)) then (some (M, (-1 : Int32))) else
  (ltt (M.1 b1 1) fun x11 =>
  if x11 ≤ x5 then (some (M, (-1 : Int32))) else
  (if ((0 : Int32)) ≤ x9 then (ltt (M.1 b1 1) fun x14 =>
  ltt ((x9 * x14)) fun x15 =>
  ltt ((x15 + x5)) fun x16 =>
  ltt ((p2 >>> (((3 : Int32)) &&& 31))) fun x17 =>
  ltt ((x17 &&& ((1 : Int32)))) fun x18 =>
  ltt ((x18 * ((8 : Int32)))) fun x19 =>
  ltt ((p1 >>> (((3 : Int32)) &&& 31))) fun x20 =>
  ltt ((x20 &&& ((1 : Int32)))) fun x21 =>
  ltt ((x21 * ((4 : Int32)))) fun x22 =>
  ltt ((x19 + x22)) fun x23 =>
  ltt ((p2 >>> (((2 : Int32)) &&& 31))) fun x24 =>
  ltt ((x24 &&& ((1 : Int32)))) fun x25 =>
  ltt ((x25 * ((2 : Int32)))) fun x26 =>
  ltt ((x23 + x26)) fun x27 =>
  ltt ((p1 >>> (((2 : Int32)) &&& 31))) fun x28 =>
  ltt ((x28 &&& ((1 : Int32)))) fun x29 =>
  ltt ((x27 + x29)) fun x30 =>
  if x16 = p0 then (bnd (if p3 ≤ x30 then (some ((-1 : Int32))) else
  (ltt ((((16 : Int32)) * p0)) fun x45 =>
  ltt ((x45 + x30)) fun x46 =>
  some (x46))) fun (y43 : Int32) =>
  some (M, y43)) else
  (bnd (if p0 ≤ x16 then (some ((-1 : Int32))) else
  (ltt ((((8 : Int32)) * x16)) fun x34 =>
  ltt ((x34 + ((6 : Int32)))) fun x35 =>
  dr G 13 ((M.2 a 6)) fun b36 =>
  chk (¬ (x35 < 0 ∨ G.2.2 b36 ≤ x35.toNatClampNeg)) <|
  ltt (M.1 b36 x35.toNatClampNeg) fun x37 =>
  ltt (M.1 a 11) fun x38 =>
  bnd (if x37 = x38 then (ltt ((((16 : Int32)) * x16)) fun x41 =>
  ltt ((x41 + x30)) fun x42 =>
  some (x42)) else
  (some ((-1 : Int32)))) fun (y39 : Int32) =>
  some (y39))) fun (y32 : Int32) =>
  some (M, y32))) else
  (some (M, (-1 : Int32)))))
set_option maxHeartbeats 4000000 in
set_option maxRecDepth 100000 in
def FX9_pieceX (G : GG) (M : DD) (p0 : Int32) : Option (DD × Int32) :=
  ltt (p0 / ((4 : Int32))) fun x1 =>
  ltt (x1 - x1 / ((2 : Int32)) * ((2 : Int32))) fun x2 =>
  ltt ((((8 : Int32)) * x2)) fun x3 =>
  ltt (p0 - p0 / ((2 : Int32)) * ((2 : Int32))) fun x4 =>
  ltt ((((4 : Int32)) * x4)) fun x5 =>
  ltt ((x3 + x5)) fun x6 =>
  some (M, x6)
set_option maxHeartbeats 4000000 in
set_option maxRecDepth 100000 in
def FX9_pieceY (G : GG) (M : DD) (p0 : Int32) : Option (DD × Int32) :=
  ltt (p0 / ((8 : Int32))) fun x1 =>
  ltt ((((8 : Int32)) * x1)) fun x2 =>
  ltt (p0 / ((2 : Int32))) fun x3 =>
  ltt (x3 - x3 / ((2 : Int32)) * ((2 : Int32))) fun x4 =>
  ltt ((((4 : Int32)) * x4)) fun x5 =>
  ltt ((x2 + x5)) fun x6 =>
  some (M, x6)
set_option maxHeartbeats 4000000 in
set_option maxRecDepth 100000 in
def FX9_planQuarter (G : GG) (M : DD) (a : Nat) (p0 : Int32) (p1 : Int32) : Option (DD) :=
  dr G 13 ((M.2 a 12)) fun b2 =>
  chk (¬ (p1 < 0 ∨ G.2.2 b2 ≤ p1.toNatClampNeg)) <|
  ltt (M.1 b2 p1.toNatClampNeg) fun x3 =>
  bnd (if p0 = ((0 : Int32)) then (some (x3)) else
  (chk (¬ (x3 < 0 ∨ 13 ≤ x3.toNatClampNeg)) <|
  ltt ((sT 17).getD x3.toNatClampNeg 0) fun x49 =>
  some (x49))) fun (y4 : Int32) =>
  bnd (if p0 = ((0 : Int32)) then (some ((1 : Int32))) else
  (chk (¬ (x3 < 0 ∨ 13 ≤ x3.toNatClampNeg)) <|
  ltt ((sT 18).getD x3.toNatClampNeg 0) fun x47 =>
  some (x47))) fun (y5 : Int32) =>
  if y5 = ((0 : Int32)) then (some M) else
  (ltt ((((4 : Int32)) * p1)) fun x7 =>
  bnd (FX9_addGroup G M a x7 ((8 : Int32)) ((8 : Int32)) y5) fun y8 =>
  bnd (if y4 ≤ ((1 : Int32)) then (some ((8 : Int32))) else
  (some ((4 : Int32)))) fun (y9 : Int32) =>
  ltt (y4 - y4 / ((2 : Int32)) * ((2 : Int32))) fun x10 =>
  bnd (if x10 = ((1 : Int32)) then (some ((4 : Int32))) else
  (some ((8 : Int32)))) fun (y11 : Int32) =>
  bnd (itr (fun (s13 : Int32 × DD) => ((if ((4 : Int32)) ≤ s13.1 then (some (.inr (s13.1, s13.2))) else
  (bnd (if y4 = ((0 : Int32)) then (bnd (if ((0 : Int32)) < s13.1 then (some (s13.2)) else
  (bnd (if y4 = ((2 : Int32)) then (bnd (if s13.1 ≤ ((1 : Int32)) then (ltt ((((4 : Int32)) * p1)) fun x41 =>
  ltt ((x41 + s13.1)) fun x42 =>
  bnd (FX9_addPart G s13.2 a x42 y9 y11 ((0 : Int32))) fun y43 =>
  some (y43)) else
  (some (s13.2))) fun (y39 : DD) =>
  some (y39)) else
  (ltt ((((4 : Int32)) * p1)) fun x36 =>
  ltt ((x36 + s13.1)) fun x37 =>
  bnd (FX9_addPart G s13.2 a x37 y9 y11 ((0 : Int32))) fun y38 =>
  some (y38))) fun (y34 : DD) =>
  some (y34))) fun (y32 : DD) =>
  some (y32)) else
  (bnd (if y4 = ((2 : Int32)) then (bnd (if s13.1 ≤ ((1 : Int32)) then (ltt ((((4 : Int32)) * p1)) fun x29 =>
  ltt ((x29 + s13.1)) fun x30 =>
  bnd (FX9_addPart G s13.2 a x30 y9 y11 ((0 : Int32))) fun y31 =>
  some (y31)) else
  (some (s13.2))) fun (y27 : DD) =>
  some (y27)) else
  (ltt ((((4 : Int32)) * p1)) fun x24 =>
  ltt ((x24 + s13.1)) fun x25 =>
  bnd (FX9_addPart G s13.2 a x25 y9 y11 ((0 : Int32))) fun y26 =>
  some (y26))) fun (y22 : DD) =>
  some (y22))) fun (y17 : DD) =>
  bnd (if y4 = ((1 : Int32)) then (some ((2 : Int32))) else
  (some ((1 : Int32)))) fun (y18 : Int32) =>
  ltt ((s13.1 + y18)) fun x19 =>
  some (.inl (x19, y17)))) : Option ((Int32 × DD) ⊕ (Int32 × DD)))) 1000000 ((0 : Int32), y8)) fun (y12 : Int32 × DD) =>
  some y12.2)
set_option maxHeartbeats 4000000 in
set_option maxRecDepth 100000 in
def FX9_referenceAt (G : GG) (M : DD) (a : Nat) (p0 : Int32) (p1 : Int32) : Option (DD × Int32) :=
  bnd (if ((0 : Int32)) ≤ p1 then (dr G 4 ((M.2 a 0)) fun b3 =>
  ltt ((((512 : Int32)) * p0)) fun x4 =>
  ltt ((x4 + p1)) fun x5 =>
  dr G 13 ((M.2 b3 5)) fun b6 =>
  chk (¬ (x5 < 0 ∨ G.2.2 b6 ≤ x5.toNatClampNeg)) <|
  ltt (M.1 b6 x5.toNatClampNeg) fun x7 =>
  some (x7)) else
  (some ((-1 : Int32)))) fun (y1 : Int32) =>
  some (M, y1)
set_option maxHeartbeats 4000000 in
set_option maxRecDepth 100000 in
def FX9_scaleBy (G : GG) (M : DD) (p0 : Int32) (p1 : Int32) : Option (DD × Int32) :=
  bnd (if p1 = ((0 : Int32)) then (some ((0 : Int32), M)) else
  (ltt (p1 / ((2 : Int32))) fun x10 =>
  ltt (if (0 : Int32) ≤ x10 then x10 else 0 - x10) fun x11 =>
  ltt ((((16384 : Int32)) + x11)) fun x12 =>
  chk (¬ p1 = 0) <|
  ltt (x12 / p1) fun x13 =>
  some (x13, M))) fun (y1 : Int32 × DD) =>
  ltt ((p0 * y1.1)) fun x2 =>
  ltt ((x2 + ((32 : Int32)))) fun x3 =>
  ltt ((x3 >>> (((6 : Int32)) &&& 31))) fun x4 =>
  bnd (if ((-1024 : Int32)) ≤ x4 then (bnd (if x4 ≤ ((1023 : Int32)) then (some (x4)) else
  (some ((1023 : Int32)))) fun (y7 : Int32) =>
  some (y7)) else
  (some ((-1024 : Int32)))) fun (y5 : Int32) =>
  some (y1.2, y5)
set_option maxHeartbeats 4000000 in
set_option maxRecDepth 100000 in
def FX9_setMove (G : GG) (M : DD) (a : Nat) (p0 : Int32) (p1 : Int32) (p2 : Int32) (p3 : Int32) (p4 : Int32) : Option (DD) :=
  ltt ((((5 : Int32)) * p2)) fun x1 =>
  dr G 13 ((M.2 a 13)) fun b2 =>
  chk (¬ (x1 < 0 ∨ G.2.2 b2 ≤ x1.toNatClampNeg)) <|
  ltt (M.1 b2 x1.toNatClampNeg) fun x3 =>
  bnd (FX9_pieceX G M x3) fun y4 =>
  ltt ((((5 : Int32)) * p2)) fun x5 =>
  dr G 13 ((y4.1.2 a 13)) fun b6 =>
  chk (¬ (x5 < 0 ∨ G.2.2 b6 ≤ x5.toNatClampNeg)) <|
  ltt (y4.1.1 b6 x5.toNatClampNeg) fun x7 =>
  bnd (FX9_pieceY G y4.1 x7) fun y8 =>
  bnd (itr (fun (s10 : Int32 × DD) => ((if ((16 : Int32)) ≤ s10.1 then (some (.inr (s10.1, s10.2))) else
  (bnd (FX9_pieceX G s10.2 s10.1) fun y14 =>
  ltt ((y14.2 - y4.2)) fun x15 =>
  bnd (FX9_pieceY G y14.1 s10.1) fun y16 =>
  ltt ((y16.2 - y8.2)) fun x17 =>
  bnd (if x15 < ((0 : Int32)) then (some (y16.1)) else
  (ltt ((((5 : Int32)) * p2)) fun x21 =>
  ltt ((x21 + ((1 : Int32)))) fun x22 =>
  dr G 13 ((y16.1.2 a 13)) fun b23 =>
  chk (¬ (x22 < 0 ∨ G.2.2 b23 ≤ x22.toNatClampNeg)) <|
  ltt (y16.1.1 b23 x22.toNatClampNeg) fun x24 =>
  bnd (if x24 ≤ x15 then (some (y16.1)) else
  (bnd (if x17 < ((0 : Int32)) then (some (y16.1)) else
  (ltt ((((5 : Int32)) * p2)) fun x29 =>
  ltt ((x29 + ((2 : Int32)))) fun x30 =>
  chk (¬ (x30 < 0 ∨ G.2.2 b23 ≤ x30.toNatClampNeg)) <|
  ltt (y16.1.1 b23 x30.toNatClampNeg) fun x31 =>
  bnd (if x31 ≤ x17 then (some (y16.1)) else
  (ltt ((((16 : Int32)) * p0)) fun x34 =>
  ltt ((x34 + s10.1)) fun x35 =>
  bnd (FX4_at G y16.1 p1 x35) fun y36 =>
  ltt ((((2 : Int32)) * y36.2)) fun x37 =>
  dr G 4 ((y36.1.2 a 0)) fun b38 =>
  dr G 13 ((y36.1.2 b38 7)) fun b39 =>
  chk (¬ (x37 < 0 ∨ G.2.2 b39 ≤ x37.toNatClampNeg)) <|
  ltt (uI y36.1 b39 x37.toNatClampNeg p3) fun M40 =>
  dr G 4 ((M40.2 a 0)) fun b41 =>
  ltt ((x37 + ((1 : Int32)))) fun x42 =>
  dr G 13 ((M40.2 b41 7)) fun b43 =>
  chk (¬ (x42 < 0 ∨ G.2.2 b43 ≤ x42.toNatClampNeg)) <|
  ltt (uI M40 b43 x42.toNatClampNeg p4) fun M44 =>
  some (M44))) fun (y32 : DD) =>
  some (y32))) fun (y27 : DD) =>
  some (y27))) fun (y25 : DD) =>
  some (y25))) fun (y18 : DD) =>
  ltt (s10.1 + (1 : Int32)) fun x19 =>
  some (.inl (x19, y18)))) : Option ((Int32 × DD) ⊕ (Int32 × DD)))) 1000000 ((0 : Int32), y8.1)) fun (y9 : Int32 × DD) =>
  some y9.2
set_option maxHeartbeats 4000000 in
set_option maxRecDepth 100000 in
def FX9_setQuarter (G : GG) (M : DD) (a : Nat) (p0 : Int32) (p1 : Int32) (p2 : Int32) (p3 : Int32) (p4 : Int32) (p5 : Int32) : Option (DD) :=
  bnd (if ((0 : Int32)) ≤ p3 then (ltt ((((9 : Int32)) * p1)) fun x34 =>
  ltt ((x34 + p3)) fun x35 =>
  dr G 14 ((M.2 a 3)) fun b36 =>
  chk (¬ (x35 < 0 ∨ G.2.2 b36 ≤ x35.toNatClampNeg)) <|
  some ((M.2 b36 x35.toNatClampNeg))) else
  (some (none))) fun (y1 : Option Nat) =>
  bnd (itr (fun (s3 : Int32 × DD) => ((if ((4 : Int32)) ≤ s3.1 then (some (.inr (s3.1, s3.2))) else
  (ltt ((((512 : Int32)) * p1)) fun x7 =>
  ltt ((((16 : Int32)) * p0)) fun x8 =>
  ltt ((x7 + x8)) fun x9 =>
  ltt ((((4 : Int32)) * p2)) fun x10 =>
  ltt ((x9 + x10)) fun x11 =>
  ltt ((x11 + s3.1)) fun x12 =>
  dr G 4 ((s3.2.2 a 0)) fun b13 =>
  dr G 13 ((s3.2.2 b13 5)) fun b14 =>
  chk (¬ (x12 < 0 ∨ G.2.2 b14 ≤ x12.toNatClampNeg)) <|
  ltt (uI s3.2 b14 x12.toNatClampNeg p3) fun M15 =>
  dr G 4 ((M15.2 a 0)) fun b16 =>
  bnd (if y1 = none then (some ((0 : Int32))) else
  (dr G 4 y1 fun b31 =>
  ltt (M15.1 b31 0) fun x32 =>
  some (x32))) fun (y17 : Int32) =>
  dr G 13 ((M15.2 b16 6)) fun b18 =>
  chk (¬ (x12 < 0 ∨ G.2.2 b18 ≤ x12.toNatClampNeg)) <|
  ltt (uI M15 b18 x12.toNatClampNeg y17) fun M19 =>
  dr G 4 ((M19.2 a 0)) fun b20 =>
  ltt ((((2 : Int32)) * x12)) fun x21 =>
  dr G 13 ((M19.2 b20 7)) fun b22 =>
  chk (¬ (x21 < 0 ∨ G.2.2 b22 ≤ x21.toNatClampNeg)) <|
  ltt (uI M19 b22 x21.toNatClampNeg p4) fun M23 =>
  dr G 4 ((M23.2 a 0)) fun b24 =>
  ltt ((((2 : Int32)) * x12)) fun x25 =>
  ltt ((x25 + ((1 : Int32)))) fun x26 =>
  dr G 13 ((M23.2 b24 7)) fun b27 =>
  chk (¬ (x26 < 0 ∨ G.2.2 b27 ≤ x26.toNatClampNeg)) <|
  ltt (uI M23 b27 x26.toNatClampNeg p5) fun M28 =>
  ltt (s3.1 + (1 : Int32)) fun x29 =>
  some (.inl (x29, M28)))) : Option ((Int32 × DD) ⊕ (Int32 × DD)))) 1000000 ((0 : Int32), M)) fun (y2 : Int32 × DD) =>
  some y2.2
set_option maxHeartbeats 4000000 in
set_option maxRecDepth 100000 in
def FX9_setReference (G : GG) (M : DD) (a : Nat) (p0 : Int32) (p1 : Int32) (p2 : Int32) (p3 : Int32) : Option (DD) :=
  ltt ((((9 : Int32)) * p1)) fun x1 =>
  ltt ((x1 + p3)) fun x2 =>
  dr G 14 ((M.2 a 3)) fun b3 =>
  chk (¬ (x2 < 0 ∨ G.2.2 b3 ≤ x2.toNatClampNeg)) <|
  ltt ((((4 : Int32)) * p2)) fun x4 =>
  dr G 13 ((M.2 a 15)) fun b5 =>
  chk (¬ (x4 < 0 ∨ G.2.2 b5 ≤ x4.toNatClampNeg)) <|
  ltt (M.1 b5 x4.toNatClampNeg) fun x6 =>
  bnd (FX9_pieceX G M x6) fun y7 =>
  ltt ((((4 : Int32)) * p2)) fun x8 =>
  dr G 13 ((y7.1.2 a 15)) fun b9 =>
  chk (¬ (x8 < 0 ∨ G.2.2 b9 ≤ x8.toNatClampNeg)) <|
  ltt (y7.1.1 b9 x8.toNatClampNeg) fun x10 =>
  bnd (FX9_pieceY G y7.1 x10) fun y11 =>
  bnd (itr (fun (s13 : Int32 × DD) => ((if ((16 : Int32)) ≤ s13.1 then (some (.inr (s13.1, s13.2))) else
  (bnd (FX9_pieceX G s13.2 s13.1) fun y17 =>
  ltt ((y17.2 - y7.2)) fun x18 =>
  bnd (FX9_pieceY G y17.1 s13.1) fun y19 =>
  ltt ((y19.2 - y11.2)) fun x20 =>
  bnd (if x18 < ((0 : Int32)) then (some (y19.1)) else
  (ltt ((((4 : Int32)) * p2)) fun x24 =>
  ltt ((x24 + ((1 : Int32)))) fun x25 =>
  dr G 13 ((y19.1.2 a 15)) fun b26 =>
  chk (¬ (x25 < 0 ∨ G.2.2 b26 ≤ x25.toNatClampNeg)) <|
  ltt (y19.1.1 b26 x25.toNatClampNeg) fun x27 =>
  bnd (if x27 ≤ x18 then (some (y19.1)) else
  (bnd (if x20 < ((0 : Int32)) then (some (y19.1)) else
  (ltt ((((4 : Int32)) * p2)) fun x32 =>
  ltt ((x32 + ((2 : Int32)))) fun x33 =>
  chk (¬ (x33 < 0 ∨ G.2.2 b26 ≤ x33.toNatClampNeg)) <|
  ltt (y19.1.1 b26 x33.toNatClampNeg) fun x34 =>
  bnd (if x34 ≤ x20 then (some (y19.1)) else
  (ltt ((((16 : Int32)) * p0)) fun x37 =>
  ltt ((x37 + s13.1)) fun x38 =>
  bnd (FX4_at G y19.1 p1 x38) fun y39 =>
  dr G 4 ((y39.1.2 a 0)) fun b40 =>
  dr G 13 ((y39.1.2 b40 5)) fun b41 =>
  chk (¬ (y39.2 < 0 ∨ G.2.2 b41 ≤ y39.2.toNatClampNeg)) <|
  ltt (uI y39.1 b41 y39.2.toNatClampNeg p3) fun M42 =>
  dr G 4 ((M42.2 a 0)) fun b43 =>
  bnd (if ((M.2 b3 x2.toNatClampNeg)) = none then (some ((0 : Int32))) else
  (dr G 4 ((M.2 b3 x2.toNatClampNeg)) fun b48 =>
  ltt (M42.1 b48 0) fun x49 =>
  some (x49))) fun (y44 : Int32) =>
  dr G 13 ((M42.2 b43 6)) fun b45 =>
  chk (¬ (y39.2 < 0 ∨ G.2.2 b45 ≤ y39.2.toNatClampNeg)) <|
  ltt (uI M42 b45 y39.2.toNatClampNeg y44) fun M46 =>
  some (M46))) fun (y35 : DD) =>
  some (y35))) fun (y30 : DD) =>
  some (y30))) fun (y28 : DD) =>
  some (y28))) fun (y21 : DD) =>
  ltt (s13.1 + (1 : Int32)) fun x22 =>
  some (.inl (x22, y21)))) : Option ((Int32 × DD) ⊕ (Int32 × DD)))) 1000000 ((0 : Int32), y11.1)) fun (y12 : Int32 × DD) =>
  some y12.2
set_option maxHeartbeats 4000000 in
set_option maxRecDepth 100000 in
def FX9_sides (G : GG) (M : DD) (a : Nat) (p0 : Int32) : Option (DD × Int32) :=
  bnd (FX9_pieceAt G M a p0 ((-1 : Int32)) ((0 : Int32)) ((0 : Int32))) fun y1 =>
  bnd (FX9_mayUse G y1.1 a y1.2) fun y2 =>
  bnd (if y2.2 = ((0 : Int32)) then (some ((0 : Int32))) else
  (some ((1 : Int32)))) fun (y3 : Int32) =>
  bnd (FX9_pieceAt G y2.1 a p0 ((0 : Int32)) ((-1 : Int32)) ((0 : Int32))) fun y4 =>
  bnd (FX9_mayUse G y4.1 a y4.2) fun y5 =>
  bnd (if y5.2 = ((0 : Int32)) then (some ((0 : Int32))) else
  (some ((2 : Int32)))) fun (y6 : Int32) =>
  ltt ((y3 ||| y6)) fun x7 =>
  bnd (FX9_pieceAt G y5.1 a p0 ((-1 : Int32)) ((-1 : Int32)) ((0 : Int32))) fun y8 =>
  bnd (FX9_mayUse G y8.1 a y8.2) fun y9 =>
  bnd (if y9.2 = ((0 : Int32)) then (some ((0 : Int32))) else
  (some ((4 : Int32)))) fun (y10 : Int32) =>
  ltt ((x7 ||| y10)) fun x11 =>
  bnd (FX9_pieceAt G y9.1 a p0 ((16 : Int32)) ((-1 : Int32)) ((0 : Int32))) fun y12 =>
  bnd (FX9_mayUse G y12.1 a y12.2) fun y13 =>
  bnd (if y13.2 = ((0 : Int32)) then (some ((0 : Int32))) else
  (some ((8 : Int32)))) fun (y14 : Int32) =>
  ltt ((x11 ||| y14)) fun x15 =>
  some (y13.1, x15)
set_option maxHeartbeats 4000000 in
set_option maxRecDepth 100000 in
def FX9_sidesOf (G : GG) (M : DD) (p0 : Int32) (p1 : Int32) : Option (DD × Int32) :=
  bnd (FX9_pieceX G M p0) fun y1 =>
  bnd (FX9_pieceY G y1.1 p0) fun y2 =>
  bnd (if ((0 : Int32)) < y1.2 then (some ((1 : Int32))) else
  (ltt ((p1 &&& ((1 : Int32)))) fun x42 =>
  bnd (if x42 = ((0 : Int32)) then (some ((0 : Int32))) else
  (some ((1 : Int32)))) fun (y43 : Int32) =>
  some (y43))) fun (y3 : Int32) =>
  bnd (if ((0 : Int32)) < y2.2 then (some ((1 : Int32))) else
  (ltt ((p1 &&& ((2 : Int32)))) fun x38 =>
  bnd (if x38 = ((0 : Int32)) then (some ((0 : Int32))) else
  (some ((1 : Int32)))) fun (y39 : Int32) =>
  some (y39))) fun (y4 : Int32) =>
  bnd (if y1.2 ≤ ((0 : Int32)) then (bnd (if y2.2 ≤ ((0 : Int32)) then (ltt ((p1 &&& ((4 : Int32)))) fun x34 =>
  bnd (if x34 = ((0 : Int32)) then (some ((0 : Int32))) else
  (some ((1 : Int32)))) fun (y35 : Int32) =>
  some (y35)) else
  (some (y3))) fun (y32 : Int32) =>
  some (y32)) else
  (some (y4))) fun (y5 : Int32) =>
  bnd (if p0 = ((5 : Int32)) then (ltt ((p1 &&& ((8 : Int32)))) fun x28 =>
  bnd (if x28 = ((0 : Int32)) then (some ((0 : Int32))) else
  (some ((1 : Int32)))) fun (y29 : Int32) =>
  some (y29)) else
  (bnd (if p0 = ((3 : Int32)) then (some ((0 : Int32))) else
  (bnd (if p0 = ((11 : Int32)) then (some ((0 : Int32))) else
  (ltt (p0 - p0 / ((8 : Int32)) * ((8 : Int32))) fun x23 =>
  bnd (if x23 = ((7 : Int32)) then (some ((0 : Int32))) else
  (bnd (if p0 = ((13 : Int32)) then (some ((0 : Int32))) else
  (some (y4))) fun (y26 : Int32) =>
  some (y26))) fun (y24 : Int32) =>
  some (y24))) fun (y21 : Int32) =>
  some (y21))) fun (y19 : Int32) =>
  some (y19))) fun (y6 : Int32) =>
  bnd (if y3 = ((0 : Int32)) then (some ((0 : Int32))) else
  (some ((1 : Int32)))) fun (y7 : Int32) =>
  bnd (if y4 = ((0 : Int32)) then (some ((0 : Int32))) else
  (some ((2 : Int32)))) fun (y8 : Int32) =>
  ltt ((y7 ||| y8)) fun x9 =>
  bnd (if y5 = ((0 : Int32)) then (some ((0 : Int32))) else
  (some ((4 : Int32)))) fun (y10 : Int32) =>
  ltt ((x9 ||| y10)) fun x11 =>
  bnd (if y6 = ((0 : Int32)) then (some ((0 : Int32))) else
  (some ((8 : Int32)))) fun (y12 : Int32) =>
  ltt ((x11 ||| y12)) fun x13 =>
  some (y2.1, x13)
set_option maxHeartbeats 4000000 in
set_option maxRecDepth 100000 in
def FX9_timeBetween (G : GG) (M : DD) (p0 : Int32) (p1 : Int32) : Option (DD × Int32) :=
  ltt ((p1 - p0)) fun x1 =>
  bnd (if ((-128 : Int32)) ≤ x1 then (bnd (if x1 ≤ ((127 : Int32)) then (some (x1)) else
  (some ((127 : Int32)))) fun (y4 : Int32) =>
  some (y4)) else
  (some ((-128 : Int32)))) fun (y2 : Int32) =>
  some (M, y2)
set_option maxHeartbeats 4000000 in
set_option maxRecDepth 100000 in
def FX9_totalAt (G : GG) (M : DD) (a : Nat) (p0 : Int32) (p1 : Int32) : Option (DD × Int32) :=
  bnd (if ((0 : Int32)) ≤ p0 then (ltt ((p0 >>> (((4 : Int32)) &&& 31))) fun x3 =>
  ltt ((((24 : Int32)) * x3)) fun x4 =>
  bnd (if ((0 : Int32)) ≤ p1 then (some (p1)) else
  (ltt ((p0 &&& ((15 : Int32)))) fun x10 =>
  some (x10))) fun (y5 : Int32) =>
  ltt ((x4 + y5)) fun x6 =>
  dr G 13 ((M.2 a 8)) fun b7 =>
  chk (¬ (x6 < 0 ∨ G.2.2 b7 ≤ x6.toNatClampNeg)) <|
  ltt (M.1 b7 x6.toNatClampNeg) fun x8 =>
  some (x8)) else
  (some ((-1 : Int32)))) fun (y1 : Int32) =>
  some (M, y1)
set_option maxHeartbeats 4000000 in
set_option maxRecDepth 100000 in
def FJ7_fill_fda19 (G : GG) (M : DD) (p0 : Option Nat) (p1 : Int32) (p2 : Int32) (p3 : Int32) : Option (DD) :=
  dr G 13 p0 fun b2 =>
  ltt (Int32.ofNat (G.2.2 b2)) fun x3 =>
  bnd (FJ7_rangeCheck_23922 G M x3 p1 p2) fun y4 =>
  bnd (itr (fun (s6 : Int32 × DD) => ((if p2 ≤ s6.1 then (some (.inr (s6.1, s6.2))) else
  (chk (¬ (s6.1 < 0 ∨ G.2.2 b2 ≤ s6.1.toNatClampNeg)) <|
  ltt (uI s6.2 b2 s6.1.toNatClampNeg p3) fun M10 =>
  ltt (s6.1 + (1 : Int32)) fun x11 =>
  some (.inl (x11, M10)))) : Option ((Int32 × DD) ⊕ (Int32 × DD)))) 1000000 (p1, y4)) fun (y5 : Int32 × DD) =>
  some y5.2
set_option maxHeartbeats 4000000 in
set_option maxRecDepth 100000 in
def FL_coded (G : GG) (M : DD) (p0 : Option Nat) (p1 : Int32) (p2 : Int32) (p3 : Option Nat) : Option (DD × Int32) :=
  dr G 11 p0 fun b2 =>
  bnd (FX11_coded G M b2 p1 p2) fun y3 =>
  dr G 13 p3 fun b4 =>
  chk (¬ (((0 : Int32)) < 0 ∨ G.2.2 b4 ≤ ((0 : Int32)).toNatClampNeg)) <|
  ltt (uI y3.1 b4 ((0 : Int32)).toNatClampNeg y3.2) fun M5 =>
  some (M5, (0 : Int32))
set_option maxHeartbeats 4000000 in
set_option maxRecDepth 100000 in
def FL_setting (G : GG) (M : DD) (p0 : Option Nat) (p1 : Int32) (p2 : Int32) (p3 : Option Nat) : Option (DD × Int32) :=
  dr G 11 p0 fun b2 =>
  bnd (FX11_setting G M b2 p1 p2) fun y3 =>
  dr G 13 p3 fun b4 =>
  chk (¬ (((0 : Int32)) < 0 ∨ G.2.2 b4 ≤ ((0 : Int32)).toNatClampNeg)) <|
  ltt (uI y3.1 b4 ((0 : Int32)).toNatClampNeg y3.2) fun M5 =>
  some (M5, (0 : Int32))
set_option maxHeartbeats 4000000 in
set_option maxRecDepth 100000 in
def FX0_drawStep (G : GG) (M : DD) (a : Nat) (p0 : Int32) : Option (DD × Int32) :=
  dr G 9 ((M.2 a 3)) fun b2 =>
  dr G 3 ((M.2 b2 1)) fun b3 =>
  dr G 13 ((M.2 b3 0)) fun b4 =>
  chk (¬ (((12 : Int32)) < 0 ∨ G.2.2 b4 ≤ ((12 : Int32)).toNatClampNeg)) <|
  ltt (M.1 b4 ((12 : Int32)).toNatClampNeg) fun x5 =>
  ltt ((((8 : Int32)) * p0)) fun x6 =>
  ltt ((x6 + ((0 : Int32)))) fun x7 =>
  dr G 13 ((M.2 b2 6)) fun b8 =>
  chk (¬ (x7 < 0 ∨ G.2.2 b8 ≤ x7.toNatClampNeg)) <|
  ltt (M.1 b8 x7.toNatClampNeg) fun x9 =>
  bnd (if x9 = ((3 : Int32)) then (ltt ((x6 + ((1 : Int32)))) fun x25 =>
  chk (¬ (x25 < 0 ∨ G.2.2 b8 ≤ x25.toNatClampNeg)) <|
  ltt (M.1 b8 x25.toNatClampNeg) fun x26 =>
  bnd (if ((0 : Int32)) ≤ x26 then (some ((0 : Int32))) else
  (some ((1 : Int32)))) fun (y27 : Int32) =>
  some (y27)) else
  (some ((0 : Int32)))) fun (y10 : Int32) =>
  dr G 13 ((M.2 a 1)) fun b11 =>
  chk (¬ (((8 : Int32)) < 0 ∨ G.2.2 b11 ≤ ((8 : Int32)).toNatClampNeg)) <|
  ltt (M.1 b11 ((8 : Int32)).toNatClampNeg) fun x12 =>
  if x12 = ((0 : Int32)) then (some (M, x5)) else
  (ltt ((x6 + ((0 : Int32)))) fun x14 =>
  chk (¬ (x14 < 0 ∨ G.2.2 b8 ≤ x14.toNatClampNeg)) <|
  ltt (M.1 b8 x14.toNatClampNeg) fun x15 =>
  if x15 = ((2 : Int32)) then (some (M, x5)) else
  (if y10 = ((0 : Int32)) then (bnd (FX0_draw G M a ((4 : Int32))) fun y18 =>
  if y18.2 = ((0 : Int32)) then (bnd (FX0_draw G y18.1 a ((5 : Int32))) fun y20 =>
  ltt ((x5 + y20.2)) fun x21 =>
  ltt ((x21 - ((2 : Int32)))) fun x22 =>
  bnd (FX11_clamp G y20.1 ((12 : Int32)) ((51 : Int32)) x22) fun y23 =>
  some (y23.1, y23.2)) else
  (some (y18.1, x5))) else
  (some (M, x5))))
set_option maxHeartbeats 4000000 in
set_option maxRecDepth 100000 in
def FX0_hold (G : GG) (M : DD) (a : Nat)  : Option (DD) :=
  bnd (itr (fun (s2 : Int32 × DD) => ((if ((3 : Int32)) ≤ s2.1 then (some (.inr (s2.1, s2.2))) else
  (ltt ((((9 : Int32)) + s2.1)) fun x12 =>
  dr G 15 ((s2.2.2 a 8)) fun b13 =>
  chk (¬ (x12 < 0 ∨ G.2.2 b13 ≤ x12.toNatClampNeg)) <|
  ltt (s2.2.1 a 10) fun x14 =>
  ltt ((((3 : Int32)) * x14)) fun x15 =>
  ltt ((x15 + s2.1)) fun x16 =>
  chk (¬ (x16 < 0 ∨ G.2.2 b13 ≤ x16.toNatClampNeg)) <|
  bnd (FX0_wide G s2.2 a s2.1) fun y17 =>
  bnd (FX0_high G y17.1 a s2.1) fun y18 =>
  ltt ((y17.2 * y18.2)) fun x19 =>
  dr G 13 ((s2.2.2 b13 x12.toNatClampNeg)) fun b20 =>
  dr G 13 ((s2.2.2 b13 x16.toNatClampNeg)) fun b21 =>
  chk (¬ ((0 : Int32)) < 0 ∧ ¬ ((0 : Int32)) < 0 ∧ ¬ x19 < 0 ∧ ((0 : Int32)).toNatClampNeg + x19.toNatClampNeg ≤ G.2.2 b20 ∧ ((0 : Int32)).toNatClampNeg + x19.toNatClampNeg ≤ G.2.2 b21) <|
  ltt (rI y18.1 b21 (va_cpy (y18.1.1 b20) (y18.1.1 b21) ((0 : Int32)).toNatClampNeg ((0 : Int32)).toNatClampNeg x19.toNatClampNeg)) fun M22 =>
  ltt (s2.1 + (1 : Int32)) fun x23 =>
  some (.inl (x23, M22)))) : Option ((Int32 × DD) ⊕ (Int32 × DD)))) 1000000 ((0 : Int32), M)) fun (y1 : Int32 × DD) =>
  ltt (y1.2.1 a 10) fun x4 =>
  ltt ((x4 + ((1 : Int32)))) fun x5 =>
  ltt (uI y1.2 a 10 x5) fun M6 =>
  ltt (M6.1 a 11) fun x7 =>
  ltt ((x7 + ((1 : Int32)))) fun x8 =>
  ltt (uI M6 a 11 x8) fun M9 =>
  some M9
set_option maxHeartbeats 4000000 in
set_option maxRecDepth 100000 in
noncomputable def FX0_init (G : GG) (M : DD) (a : Nat)  : Option (NN × DD) :=
  chkP (Clo (xt G []) M) <|
  ltt ((xt G []).1) fun c2 =>
  app [(13, 24)] <|
  ltt ([] ++ [(13, 24)]) fun L4 =>
  ltt (rI (rO M c2) c2 (fun j => (sT 0).getD j 0)) fun M5 =>
  ltt (uP M5 a 0 (some c2)) fun M8 =>
  chkP (Clo (xt G L4) M8) <|
  chk (¬ ((24 : Int32)) < 0 ∧ ((24 : Int32)).toNatClampNeg * 4 ≤ 536870912) <|
  ltt ((xt G L4).1) fun c10 =>
  app [(13, ((24 : Int32)).toNatClampNeg)] <|
  ltt (L4 ++ [(13, ((24 : Int32)).toNatClampNeg)]) fun L12 =>
  ltt (rO M8 c10) fun M13 =>
  ltt (uP M13 a 1 (some c10)) fun M16 =>
  chkP (Clo (xt G L12) M16) <|
  ltt ((xt G L12).1) fun c18 =>
  app [(10, 0)] <|
  ltt (L12 ++ [(10, 0)]) fun L20 =>
  ltt (rO M16 c18) fun M21 =>
  bnd (FX10_init (xt G L20) M21 c18) fun y24 =>
  app y24.1 <|
  ltt (L20 ++ y24.1) fun L26 =>
  ltt (uP y24.2 a 2 (some c18)) fun M29 =>
  chkP (Clo (xt G L26) M29) <|
  ltt ((xt G L26).1) fun c31 =>
  app [(9, 0)] <|
  ltt (L26 ++ [(9, 0)]) fun L33 =>
  ltt (rO M29 c31) fun M34 =>
  bnd (FX9_init (xt G L33) M34 c31) fun y37 =>
  app y37.1 <|
  ltt (L33 ++ y37.1) fun L39 =>
  ltt (uP y37.2 a 3 (some c31)) fun M42 =>
  chkP (Clo (xt G L39) M42) <|
  ltt ((xt G L39).1) fun c44 =>
  app [(6, 0)] <|
  ltt (L39 ++ [(6, 0)]) fun L46 =>
  ltt (rO M42 c44) fun M47 =>
  bnd (FX6_init (xt G L46) M47 c44) fun y50 =>
  app y50.1 <|
  ltt (L46 ++ y50.1) fun L52 =>
  ltt (uP y50.2 a 4 (some c44)) fun M55 =>
  chkP (Clo (xt G L52) M55) <|
  ltt ((xt G L52).1) fun c57 =>
  app [(2, 0)] <|
  ltt (L52 ++ [(2, 0)]) fun L59 =>
  ltt (rO M55 c57) fun M60 =>
  bnd (FX2_init (xt G L59) M60 c57) fun y63 =>
  app y63.1 <|
  ltt (L59 ++ y63.1) fun L65 =>
  ltt (uP y63.2 a 5 (some c57)) fun M68 =>
  chkP (Clo (xt G L65) M68) <|
  ltt ((xt G L65).1) fun c70 =>
  app [(7, 0)] <|
  ltt (L65 ++ [(7, 0)]) fun L72 =>
  ltt (rO M68 c70) fun M73 =>
  bnd (FX7_init (xt G L72) M73 c70) fun y76 =>
  app y76.1 <|
  ltt (L72 ++ y76.1) fun L78 =>
  ltt (uP y76.2 a 6 (some c70)) fun M81 =>
  chkP (Clo (xt G L78) M81) <|
  chk (¬ ((24 : Int32)) < 0 ∧ ((24 : Int32)).toNatClampNeg * 4 ≤ 536870912) <|
  ltt ((xt G L78).1) fun c83 =>
  app [(13, ((24 : Int32)).toNatClampNeg)] <|
  ltt (L78 ++ [(13, ((24 : Int32)).toNatClampNeg)]) fun L85 =>
  ltt (rO M81 c83) fun M86 =>
  ltt (uP M86 a 7 (some c83)) fun M89 =>
  chkP (Clo (xt G L85) M89) <|
  ltt ((xt G L85).1) fun c91 =>
  app (mrel 12 0) <|
  ltt (L85 ++ mrel 12 0) fun L93 =>
  ltt (mM M89 c91 12) fun M94 =>
  ltt (uP M94 a 8 (some c91)) fun M97 =>
  chkP (Clo (xt G L93) M97) <|
  ltt ((xt G L93).1) fun c99 =>
  app (mrel 3 0) <|
  ltt (L93 ++ mrel 3 0) fun L101 =>
  ltt (mM M97 c99 3) fun M102 =>
  ltt (uP M102 a 9 (some c99)) fun M105 =>
  chkP (Clo (xt G L101) M105) <|
  chk (¬ ((420 : Int32)) < 0 ∧ ((420 : Int32)).toNatClampNeg * 4 ≤ 536870912) <|
  ltt ((xt G L101).1) fun c107 =>
  app [(13, ((420 : Int32)).toNatClampNeg)] <|
  ltt (L101 ++ [(13, ((420 : Int32)).toNatClampNeg)]) fun L109 =>
  ltt (rO M105 c107) fun M110 =>
  ltt (uP M110 a 17 (some c107)) fun M113 =>
  chkP (Clo (xt G L109) M113) <|
  chk (¬ ((29 : Int32)) < 0 ∧ ((29 : Int32)).toNatClampNeg * 4 ≤ 536870912) <|
  ltt ((xt G L109).1) fun c115 =>
  app [(13, ((29 : Int32)).toNatClampNeg)] <|
  ltt (L109 ++ [(13, ((29 : Int32)).toNatClampNeg)]) fun L117 =>
  ltt (rO M113 c115) fun M118 =>
  ltt (uP M118 a 20 (some c115)) fun M121 =>
  chkP (Clo (xt G L117) M121) <|
  chk (okd (xt G L117) ((M121.2 a 3)) = true) <|
  ltt ((xt G L117).1) fun c124 =>
  app [(3, 0)] <|
  ltt (L117 ++ [(3, 0)]) fun L126 =>
  ltt (rO M121 c124) fun M127 =>
  chk (okd (xt G L126) ((M121.2 a 3)) = true) <|
  bnd (FX3_init (xt G L126) M127 c124) fun y130 =>
  app y130.1 <|
  ltt (L126 ++ y130.1) fun L133 =>
  dr (xt G L133) 9 ((M121.2 a 3)) fun b136 =>
  ltt (uP y130.2 b136 1 (some c124)) fun M137 =>
  chkP (Clo (xt G L133) M137) <|
  chk (¬ ((12 : Int32)) < 0 ∧ ((12 : Int32)).toNatClampNeg * 4 ≤ 536870912) <|
  chk (okd (xt G L133) ((M137.2 a 3)) = true) <|
  ltt ((xt G L133).1) fun c140 =>
  app [(13, ((12 : Int32)).toNatClampNeg)] <|
  ltt (L133 ++ [(13, ((12 : Int32)).toNatClampNeg)]) fun L142 =>
  ltt (rO M137 c140) fun M143 =>
  dr (xt G L142) 9 ((M137.2 a 3)) fun b146 =>
  ltt (uP M143 b146 2 (some c140)) fun M147 =>
  some ([], M147)
set_option maxHeartbeats 4000000 in
set_option maxRecDepth 100000 in
def FX0_inputSum (G : GG) (M : DD) (a : Nat)  : Option (DD × Int32) :=
  dr G 15 ((M.2 a 8)) fun b2 =>
  chk (¬ (((9 : Int32)) < 0 ∨ G.2.2 b2 ≤ ((9 : Int32)).toNatClampNeg)) <|
  bnd (FX0_wide G M a ((0 : Int32))) fun y3 =>
  bnd (FX0_high G y3.1 a ((0 : Int32))) fun y4 =>
  ltt ((y3.2 * y4.2)) fun x5 =>
  bnd (FX11_hash G y4.1 ((M.2 b2 ((9 : Int32)).toNatClampNeg)) ((0 : Int32)) x5) fun y6 =>
  some (y6.1, y6.2)
set_option maxHeartbeats 4000000 in
set_option maxRecDepth 100000 in
def FX0_mayBe (G : GG) (M : DD) (p0 : Int32) (p1 : Int32) (p2 : Int32) : Option (DD × Int32) :=
  if p0 = ((-1 : Int32)) then (bnd (FX9_mayBeColours G M p1 p2) fun y6 =>
  chk (y6.2 = 0 ∨ y6.2 = 1) <|
  some (y6.1, y6.2)) else
  (bnd (if p0 = ((0 : Int32)) then (bnd (FX9_mayBeFour G M p1 p2) fun y5 =>
  some (y5.2, y5.1)) else
  (bnd (FX9_mayBeSixteen G M p1 p2) fun y4 =>
  some (y4.2, y4.1))) fun (y2 : Int32 × DD) =>
  chk (y2.1 = 0 ∨ y2.1 = 1) <|
  some (y2.2, y2.1))
set_option maxHeartbeats 4000000 in
set_option maxRecDepth 100000 in
def FX0_paintMoved (G : GG) (M : DD) (a : Nat) (p0 : Int32) (p1 : Int32) : Option (DD) :=
  bnd (itr (fun (s2 : Int32 × DD) => ((if ((3 : Int32)) ≤ s2.1 then (some (.inr (s2.1, s2.2))) else
  (bnd (FX0_wide G s2.2 a s2.1) fun y6 =>
  bnd (FX0_high G y6.1 a s2.1) fun y7 =>
  ltt ((y6.2 * y7.2)) fun x8 =>
  ltt ((((9 : Int32)) + s2.1)) fun x9 =>
  dr G 15 ((y7.1.2 a 8)) fun b10 =>
  chk (¬ (x9 < 0 ∨ G.2.2 b10 ≤ x9.toNatClampNeg)) <|
  ltt ((((6 : Int32)) + s2.1)) fun x11 =>
  chk (¬ (x11 < 0 ∨ G.2.2 b10 ≤ x11.toNatClampNeg)) <|
  dr G 13 ((y7.1.2 b10 x9.toNatClampNeg)) fun b12 =>
  dr G 13 ((y7.1.2 b10 x11.toNatClampNeg)) fun b13 =>
  chk (¬ ((0 : Int32)) < 0 ∧ ¬ ((0 : Int32)) < 0 ∧ ¬ x8 < 0 ∧ ((0 : Int32)).toNatClampNeg + x8.toNatClampNeg ≤ G.2.2 b12 ∧ ((0 : Int32)).toNatClampNeg + x8.toNatClampNeg ≤ G.2.2 b13) <|
  ltt (rI y7.1 b13 (va_cpy (y7.1.1 b12) (y7.1.1 b13) ((0 : Int32)).toNatClampNeg ((0 : Int32)).toNatClampNeg x8.toNatClampNeg)) fun M14 =>
  bnd (itr (fun (s16 : Int32 × DD) => ((if x8 ≤ s16.1 then (some (.inr (s16.1, s16.2))) else
  (chk (¬ y6.2 = 0) <|
  ltt (s16.1 - s16.1 / y6.2 * y6.2) fun x21 =>
  bnd (if s2.1 = ((0 : Int32)) then (some (p0)) else
  (ltt (p0 / ((2 : Int32))) fun x41 =>
  some (x41))) fun (y22 : Int32) =>
  bnd (FX0_moved G s16.2 x21 y22 y6.2) fun y23 =>
  chk (¬ y6.2 = 0) <|
  ltt (s16.1 / y6.2) fun x24 =>
  bnd (if s2.1 = ((0 : Int32)) then (some (p1)) else
  (ltt (p1 / ((2 : Int32))) fun x39 =>
  some (x39))) fun (y25 : Int32) =>
  bnd (FX0_high G y23.1 a s2.1) fun y26 =>
  bnd (FX0_moved G y26.1 x24 y25 y26.2) fun y27 =>
  ltt ((((9 : Int32)) + s2.1)) fun x28 =>
  dr G 15 ((y27.1.2 a 8)) fun b29 =>
  chk (¬ (x28 < 0 ∨ G.2.2 b29 ≤ x28.toNatClampNeg)) <|
  ltt ((((6 : Int32)) + s2.1)) fun x30 =>
  chk (¬ (x30 < 0 ∨ G.2.2 b29 ≤ x30.toNatClampNeg)) <|
  ltt ((y27.2 * y6.2)) fun x31 =>
  ltt ((x31 + y23.2)) fun x32 =>
  dr G 13 ((y27.1.2 b29 x30.toNatClampNeg)) fun b33 =>
  chk (¬ (x32 < 0 ∨ G.2.2 b33 ≤ x32.toNatClampNeg)) <|
  ltt (y27.1.1 b33 x32.toNatClampNeg) fun x34 =>
  dr G 13 ((y27.1.2 b29 x28.toNatClampNeg)) fun b35 =>
  chk (¬ (s16.1 < 0 ∨ G.2.2 b35 ≤ s16.1.toNatClampNeg)) <|
  ltt (uI y27.1 b35 s16.1.toNatClampNeg x34) fun M36 =>
  ltt (s16.1 + (1 : Int32)) fun x37 =>
  some (.inl (x37, M36)))) : Option ((Int32 × DD) ⊕ (Int32 × DD)))) 1000000 ((0 : Int32), M14)) fun (y15 : Int32 × DD) =>
  ltt (s2.1 + (1 : Int32)) fun x18 =>
  some (.inl (x18, y15.2)))) : Option ((Int32 × DD) ⊕ (Int32 × DD)))) 1000000 ((0 : Int32), M)) fun (y1 : Int32 × DD) =>
  some y1.2
set_option maxHeartbeats 4000000 in
set_option maxRecDepth 100000 in
def FX0_paintNoise (G : GG) (M : DD) (a : Nat) (p0 : Int32) (p1 : Int32) (p2 : Int32) : Option (DD) :=
  ltt ((p0 &&& ((255 : Int32)))) fun x1 =>
  bnd (if x1 = ((0 : Int32)) then (some ((256 : Int32))) else
  (ltt ((p0 &&& ((255 : Int32)))) fun x31 =>
  some (x31))) fun (y2 : Int32) =>
  bnd (itr (fun (s4 : Int32 × Int32 × DD) => ((if ((3 : Int32)) ≤ s4.2.1 then (some (.inr (s4.1, s4.2.1, s4.2.2))) else
  (ltt ((((9 : Int32)) + s4.2.1)) fun x8 =>
  dr G 15 ((s4.2.2.2 a 8)) fun b9 =>
  chk (¬ (x8 < 0 ∨ G.2.2 b9 ≤ x8.toNatClampNeg)) <|
  bnd (itr (fun (s11 : Int32 × Int32 × DD) => ((bnd (FX0_wide G s11.2.2 a s4.2.1) fun y15 =>
  bnd (FX0_high G y15.1 a s4.2.1) fun y16 =>
  ltt ((y15.2 * y16.2)) fun x17 =>
  if x17 ≤ s11.2.1 then (some (.inr (s11.1, s11.2.1, y16.1))) else
  (ltt ((((1664525 : Int32)) * s11.1)) fun x19 =>
  ltt ((x19 + ((1013904223 : Int32)))) fun x20 =>
  dr G 13 ((s4.2.2.2 b9 x8.toNatClampNeg)) fun b21 =>
  chk (¬ (s11.2.1 < 0 ∨ G.2.2 b21 ≤ s11.2.1.toNatClampNeg)) <|
  ltt (y16.1.1 b21 s11.2.1.toNatClampNeg) fun x22 =>
  ltt ((x20.toUInt32 >>> (((24 : Int32)).toUInt32 &&& Int32.toUInt32 31)).toInt32) fun x23 =>
  chk (¬ y2 = 0) <|
  ltt (x23 - x23 / y2 * y2) fun x24 =>
  ltt ((x22 + x24)) fun x25 =>
  ltt ((x25 - p1)) fun x26 =>
  bnd (FX11_clip G y16.1 x26) fun y27 =>
  chk (¬ (s11.2.1 < 0 ∨ G.2.2 b21 ≤ s11.2.1.toNatClampNeg)) <|
  ltt (uI y27.1 b21 s11.2.1.toNatClampNeg y27.2) fun M28 =>
  ltt (s11.2.1 + (1 : Int32)) fun x29 =>
  some (.inl (x20, x29, M28)))) : Option ((Int32 × Int32 × DD) ⊕ (Int32 × Int32 × DD)))) 1000000 (s4.1, (0 : Int32), s4.2.2)) fun (y10 : Int32 × Int32 × DD) =>
  ltt (s4.2.1 + (1 : Int32)) fun x13 =>
  some (.inl (y10.1, x13, y10.2.2)))) : Option ((Int32 × Int32 × DD) ⊕ (Int32 × Int32 × DD)))) 1000000 (p2, (0 : Int32), M)) fun (y3 : Int32 × Int32 × DD) =>
  some y3.2.2
set_option maxHeartbeats 4000000 in
set_option maxRecDepth 100000 in
def FX0_paintSlope (G : GG) (M : DD) (a : Nat) (p0 : Int32) (p1 : Int32) (p2 : Int32) : Option (DD) :=
  bnd (itr (fun (s2 : Int32 × DD) => ((if ((3 : Int32)) ≤ s2.1 then (some (.inr (s2.1, s2.2))) else
  (bnd (if s2.1 = ((0 : Int32)) then (some ((1 : Int32))) else
  (some ((2 : Int32)))) fun (y6 : Int32) =>
  bnd (itr (fun (s8 : Int32 × DD) => ((bnd (FX0_wide G s8.2 a s2.1) fun y12 =>
  bnd (FX0_high G y12.1 a s2.1) fun y13 =>
  ltt ((y12.2 * y13.2)) fun x14 =>
  if x14 ≤ s8.1 then (some (.inr (s8.1, y13.1))) else
  (bnd (FX0_wide G y13.1 a s2.1) fun y16 =>
  chk (¬ y16.2 = 0) <|
  ltt (s8.1 - s8.1 / y16.2 * y16.2) fun x17 =>
  ltt ((y6 * x17)) fun x18 =>
  bnd (FX0_wide G y16.1 a s2.1) fun y19 =>
  chk (¬ y19.2 = 0) <|
  ltt (s8.1 / y19.2) fun x20 =>
  ltt ((y6 * x20)) fun x21 =>
  ltt ((((9 : Int32)) + s2.1)) fun x22 =>
  dr G 15 ((y19.1.2 a 8)) fun b23 =>
  chk (¬ (x22 < 0 ∨ G.2.2 b23 ≤ x22.toNatClampNeg)) <|
  ltt ((p0 * x18)) fun x24 =>
  ltt ((p1 * x21)) fun x25 =>
  ltt ((x24 + x25)) fun x26 =>
  ltt ((x26 + p2)) fun x27 =>
  ltt ((((40 : Int32)) * s2.1)) fun x28 =>
  ltt ((x27 + x28)) fun x29 =>
  ltt ((x29 &&& ((255 : Int32)))) fun x30 =>
  dr G 13 ((y19.1.2 b23 x22.toNatClampNeg)) fun b31 =>
  chk (¬ (s8.1 < 0 ∨ G.2.2 b31 ≤ s8.1.toNatClampNeg)) <|
  ltt (uI y19.1 b31 s8.1.toNatClampNeg x30) fun M32 =>
  ltt (s8.1 + (1 : Int32)) fun x33 =>
  some (.inl (x33, M32)))) : Option ((Int32 × DD) ⊕ (Int32 × DD)))) 1000000 ((0 : Int32), s2.2)) fun (y7 : Int32 × DD) =>
  ltt (s2.1 + (1 : Int32)) fun x10 =>
  some (.inl (x10, y7.2)))) : Option ((Int32 × DD) ⊕ (Int32 × DD)))) 1000000 ((0 : Int32), M)) fun (y1 : Int32 × DD) =>
  some y1.2
set_option maxHeartbeats 4000000 in
set_option maxRecDepth 100000 in
def FX0_paintSquare (G : GG) (M : DD) (a : Nat) (p0 : Int32) (p1 : Int32) (p2 : Int32) : Option (DD) :=
  bnd (itr (fun (s2 : Int32 × DD) => ((ltt ((p1 + ((8 : Int32)))) fun x5 =>
  if x5 ≤ s2.1 then (some (.inr (s2.1, s2.2))) else
  (bnd (FX0_high G s2.2 a ((0 : Int32))) fun y7 =>
  if y7.2 ≤ s2.1 then (some (.inr (s2.1, y7.1))) else
  (bnd (itr (fun (s10 : Int32 × DD) => ((ltt ((p0 + ((8 : Int32)))) fun x14 =>
  if x14 ≤ s10.1 then (some (.inr (s10.1, s10.2))) else
  (bnd (FX0_wide G s10.2 a ((0 : Int32))) fun y16 =>
  if y16.2 ≤ s10.1 then (some (.inr (s10.1, y16.1))) else
  (dr G 15 ((y16.1.2 a 8)) fun b18 =>
  chk (¬ (((9 : Int32)) < 0 ∨ G.2.2 b18 ≤ ((9 : Int32)).toNatClampNeg)) <|
  bnd (FX0_wide G y16.1 a ((0 : Int32))) fun y19 =>
  ltt ((s2.1 * y19.2)) fun x20 =>
  ltt ((x20 + s10.1)) fun x21 =>
  dr G 13 ((y16.1.2 b18 ((9 : Int32)).toNatClampNeg)) fun b22 =>
  chk (¬ (x21 < 0 ∨ G.2.2 b22 ≤ x21.toNatClampNeg)) <|
  ltt (uI y19.1 b22 x21.toNatClampNeg p2) fun M23 =>
  ltt (s10.1 + (1 : Int32)) fun x24 =>
  some (.inl (x24, M23))))) : Option ((Int32 × DD) ⊕ (Int32 × DD)))) 1000000 (p0, y7.1)) fun (y9 : Int32 × DD) =>
  ltt (s2.1 + (1 : Int32)) fun x12 =>
  some (.inl (x12, y9.2))))) : Option ((Int32 × DD) ⊕ (Int32 × DD)))) 1000000 (p1, M)) fun (y1 : Int32 × DD) =>
  some y1.2
set_option maxHeartbeats 4000000 in
set_option maxRecDepth 100000 in
def FX0_setVector (G : GG) (M : DD) (a : Nat) (p0 : Int32) (p1 : Int32) (p2 : Int32) (p3 : Int32) (p4 : Int32) : Option (DD) :=
  dr G 9 ((M.2 a 3)) fun b2 =>
  ltt ((((16 : Int32)) * p1)) fun x3 =>
  ltt ((x3 + p2)) fun x4 =>
  ltt ((((2 : Int32)) * x4)) fun x5 =>
  ltt (M.1 b2 18) fun x6 =>
  ltt ((p3 - x6)) fun x7 =>
  dr G 13 ((M.2 b2 17)) fun b8 =>
  chk (¬ (x5 < 0 ∨ G.2.2 b8 ≤ x5.toNatClampNeg)) <|
  ltt (uI M b8 x5.toNatClampNeg x7) fun M9 =>
  dr G 9 ((M9.2 a 3)) fun b10 =>
  ltt ((((16 : Int32)) * p1)) fun x11 =>
  ltt ((x11 + p2)) fun x12 =>
  ltt ((((2 : Int32)) * x12)) fun x13 =>
  ltt ((x13 + ((1 : Int32)))) fun x14 =>
  ltt (M9.1 b10 19) fun x15 =>
  ltt ((p4 - x15)) fun x16 =>
  dr G 13 ((M9.2 b10 17)) fun b17 =>
  chk (¬ (x14 < 0 ∨ G.2.2 b17 ≤ x14.toNatClampNeg)) <|
  ltt (uI M9 b17 x14.toNatClampNeg x16) fun M18 =>
  dr G 9 ((M18.2 a 3)) fun b19 =>
  bnd (FX9_setMove G M18 b19 p0 p1 p2 p3 p4) fun y20 =>
  some y20
set_option maxHeartbeats 4000000 in
set_option maxRecDepth 100000 in
def FX10_bitsOfTe (G : GG) (M : DD) (p0 : Int32) (p1 : Int32) : Option (DD × Int32) :=
  bnd (if p0 = ((1 : Int32)) then (some ((1 : Int32), M)) else
  (bnd (FX10_bitsOfUe G M p1) fun y3 =>
  some (y3.2, y3.1))) fun (y1 : Int32 × DD) =>
  some (y1.2, y1.1)
set_option maxHeartbeats 4000000 in
set_option maxRecDepth 100000 in
noncomputable def FX10_code (G : GG) (M : DD) (a : Nat) (p0 : Int32) (p1 : Int64) (p2 : Int32) : Option (NN × DD) :=
  bnd (itrA (fun (s2 : NN × Int32 × DD) => ((if p2 ≤ s2.2.1 then (some ([], .inr ((s2.2.1, s2.2.2)))) else
  (ltt ((p2 - ((1 : Int32)))) fun x12 =>
  ltt ((x12 - s2.2.1)) fun x13 =>
  ltt (p1 >>> (x13.toInt64 &&& 63)) fun x14 =>
  ltt (x14.toInt32) fun x15 =>
  ltt ((x15 &&& ((1 : Int32)))) fun x16 =>
  ltt (s2.2.2.1 a 8) fun x17 =>
  bnd (if x17 = ((0 : Int32)) then (bnd (FX10_put (xt G s2.1) s2.2.2 a x16) fun y65 =>
  app y65.1 <|
  ltt (s2.1 ++ y65.1) fun L67 =>
  some ([], y65.2)) else
  (ltt ((((16 : Int32)) * p0)) fun x25 =>
  bnd (if ((15 : Int32)) ≤ s2.2.1 then (some ((15 : Int32))) else
  (some (s2.2.1))) fun (y26 : Int32) =>
  ltt ((x25 + y26)) fun x27 =>
  dr (xt G s2.1) 13 ((s2.2.2.2 a 13)) fun b28 =>
  chk (¬ (x27 < 0 ∨ (xt G s2.1).2.2 b28 ≤ x27.toNatClampNeg)) <|
  ltt (s2.2.2.1 b28 x27.toNatClampNeg) fun x29 =>
  ltt ((x29 >>> (((1 : Int32)) &&& 31))) fun x30 =>
  chk (¬ (x27 < 0 ∨ (xt G s2.1).2.2 b28 ≤ x27.toNatClampNeg)) <|
  ltt (s2.2.2.1 b28 x27.toNatClampNeg) fun x31 =>
  ltt ((x31 &&& ((1 : Int32)))) fun x32 =>
  ltt ((((4 : Int32)) * x30)) fun x33 =>
  ltt (s2.2.2.1 a 10) fun x34 =>
  ltt ((x34 >>> (((6 : Int32)) &&& 31))) fun x35 =>
  ltt ((x35 &&& ((3 : Int32)))) fun x36 =>
  ltt ((x33 + x36)) fun x37 =>
  chk (¬ (x37 < 0 ∨ 256 ≤ x37.toNatClampNeg)) <|
  ltt ((sT 8).getD x37.toNatClampNeg 0) fun x38 =>
  ltt (s2.2.2.1 a 10) fun x39 =>
  ltt ((x39 - x38)) fun x40 =>
  ltt (uI s2.2.2 a 10 x40) fun M41 =>
  bnd (if x16 = x32 then (bnd (if ((62 : Int32)) ≤ x30 then (some ((62 : Int32))) else
  (ltt ((x30 + ((1 : Int32)))) fun x63 =>
  some (x63))) fun (y61 : Int32) =>
  some (y61, x32, M41)) else
  (ltt (M41.1 a 9) fun x53 =>
  ltt (M41.1 a 10) fun x54 =>
  ltt ((x53 + x54)) fun x55 =>
  ltt (uI M41 a 9 x55) fun M56 =>
  ltt (uI M56 a 10 x38) fun M57 =>
  bnd (if x30 = ((0 : Int32)) then (some (x16)) else
  (some (x32))) fun (y58 : Int32) =>
  chk (¬ (x30 < 0 ∨ 64 ≤ x30.toNatClampNeg)) <|
  ltt ((sT 7).getD x30.toNatClampNeg 0) fun x59 =>
  some (x59, y58, M57))) fun (y42 : Int32 × Int32 × DD) =>
  ltt ((y42.1 <<< (((1 : Int32)) &&& 31))) fun x43 =>
  ltt ((x43 ||| y42.2.1)) fun x44 =>
  dr (xt G s2.1) 13 ((y42.2.2.2 a 13)) fun b45 =>
  chk (¬ (x27 < 0 ∨ (xt G s2.1).2.2 b45 ≤ x27.toNatClampNeg)) <|
  ltt (uI y42.2.2 b45 x27.toNatClampNeg x44) fun M46 =>
  bnd (FX10_widen (xt G s2.1) M46 a) fun y47 =>
  app y47.1 <|
  ltt (s2.1 ++ y47.1) fun L49 =>
  some ([], y47.2))) fun (y18 : NN × DD) =>
  app y18.1 <|
  ltt (s2.1 ++ y18.1) fun L20 =>
  ltt (s2.2.1 + (1 : Int32)) fun x22 =>
  some ([], .inl (L20, (x22, y18.2))))) : Option (NN × ((NN × Int32 × DD) ⊕ (Int32 × DD))))) 1000000 ([], ((0 : Int32), M))) fun (y1 : NN × Int32 × DD) =>
  app y1.1 <|
  ltt ([] ++ y1.1) fun L4 =>
  some ([], y1.2.2)
set_option maxHeartbeats 4000000 in
set_option maxRecDepth 100000 in
noncomputable def FX10_fill (G : GG) (M : DD) (a : Nat) (p0 : Int32) : Option (NN × DD) :=
  bnd (itrA (fun (s2 : NN × Int32 × DD) => ((if ((8 : Int32)) ≤ s2.2.1 then (some ([], .inr ((s2.2.1, s2.2.2)))) else
  (ltt (s2.2.2.1 a 7) fun x12 =>
  if x12 ≤ ((0 : Int32)) then (some ([], .inr ((s2.2.1, s2.2.2)))) else
  (bnd (FX10_put (xt G s2.1) s2.2.2 a p0) fun y14 =>
  app y14.1 <|
  ltt (s2.1 ++ y14.1) fun L16 =>
  ltt (s2.2.1 + (1 : Int32)) fun x19 =>
  some ([], .inl (L16, (x19, y14.2)))))) : Option (NN × ((NN × Int32 × DD) ⊕ (Int32 × DD))))) 1000000 ([], ((0 : Int32), M))) fun (y1 : NN × Int32 × DD) =>
  app y1.1 <|
  ltt ([] ++ y1.1) fun L4 =>
  some ([], y1.2.2)
set_option maxHeartbeats 4000000 in
set_option maxRecDepth 100000 in
noncomputable def FX10_last (G : GG) (M : DD) (a : Nat) (p0 : Int32) : Option (NN × DD) :=
  ltt (M.1 a 10) fun x1 =>
  ltt ((x1 - ((2 : Int32)))) fun x2 =>
  ltt (uI M a 10 x2) fun M3 =>
  bnd (if p0 = ((0 : Int32)) then (some (M3)) else
  (ltt (M3.1 a 9) fun x39 =>
  ltt (M3.1 a 10) fun x40 =>
  ltt ((x39 + x40)) fun x41 =>
  ltt (uI M3 a 9 x41) fun M42 =>
  ltt (uI M42 a 10 ((2 : Int32))) fun M43 =>
  some (M43))) fun (y4 : DD) =>
  bnd (FX10_widen (xt G []) y4 a) fun y5 =>
  app y5.1 <|
  ltt ([] ++ y5.1) fun L7 =>
  bnd (if p0 = ((0 : Int32)) then (some ([], y5.2)) else
  (ltt (y5.2.1 a 9) fun x16 =>
  ltt ((x16 >>> (((9 : Int32)) &&& 31))) fun x17 =>
  ltt ((x17 &&& ((1 : Int32)))) fun x18 =>
  bnd (FX10_put (xt G L7) y5.2 a x18) fun y19 =>
  app y19.1 <|
  ltt (L7 ++ y19.1) fun L21 =>
  ltt (y19.2.1 a 9) fun x24 =>
  ltt ((x24 >>> (((8 : Int32)) &&& 31))) fun x25 =>
  ltt ((x25 &&& ((1 : Int32)))) fun x26 =>
  bnd (FX10_put (xt G L21) y19.2 a x26) fun y27 =>
  app y27.1 <|
  ltt (L21 ++ y27.1) fun L29 =>
  bnd (FX10_put (xt G L29) y27.2 a ((1 : Int32))) fun y32 =>
  app y32.1 <|
  ltt (L29 ++ y32.1) fun L34 =>
  chk (((0 : Int32)) = 0 ∨ ((0 : Int32)) = 1) <|
  ltt (uI y32.2 a 8 ((0 : Int32))) fun M37 =>
  some ([], M37))) fun (y10 : NN × DD) =>
  app y10.1 <|
  ltt (L7 ++ y10.1) fun L12 =>
  some ([], y10.2)
set_option maxHeartbeats 4000000 in
set_option maxRecDepth 100000 in
noncomputable def FX10_levels (G : GG) (M : DD) (a : Nat) (p0 : Int32) (p1 : Int32) (p2 : Option Nat) (p3 : Int32) : Option (NN × DD) :=
  bnd (if p1 = ((15 : Int32)) then (ltt ((p3 + ((1 : Int32)))) fun x168 =>
  some (x168)) else
  (some (p3))) fun (y1 : Int32) =>
  bnd (FX10_collect (xt G []) M a p2 y1 p1) fun y2 =>
  bnd (FX10_countOnes (xt G []) y2.1 a y2.2) fun y3 =>
  bnd (if p0 = ((4 : Int32)) then (some ((3 : Int32))) else
  (some (p0))) fun (y4 : Int32) =>
  bnd (if ((3 : Int32)) ≤ y2.2 then (ltt ((((4 : Int32)) * y2.2)) fun x159 =>
  ltt ((x159 - ((6 : Int32)))) fun x160 =>
  ltt ((x160 + y3.2)) fun x161 =>
  some (x161)) else
  (ltt ((y2.2 + ((1 : Int32)))) fun x162 =>
  ltt ((y2.2 * x162)) fun x163 =>
  ltt (x163 / ((2 : Int32))) fun x164 =>
  ltt ((x164 + y3.2)) fun x165 =>
  some (x165))) fun (y5 : Int32) =>
  bnd (if p0 = ((3 : Int32)) then (bnd (if y2.2 = ((0 : Int32)) then (some ((3 : Int64))) else
  (ltt ((y2.2 - ((1 : Int32)))) fun x154 =>
  ltt ((((4 : Int32)) * x154)) fun x155 =>
  ltt ((x155 + y3.2)) fun x156 =>
  ltt (x156.toInt64) fun x157 =>
  some (x157))) fun (y147 : Int64) =>
  bnd (FX10_code (xt G []) y3.1 a ((11 : Int32)) y147 ((6 : Int32))) fun y148 =>
  app y148.1 <|
  ltt ([] ++ y148.1) fun L150 =>
  some ([], y148.2)) else
  (bnd (FX5_valueOf (xt G []) y3.1 y4 y5) fun y139 =>
  ltt (y139.2.toInt64) fun x140 =>
  bnd (FX5_lengthOf (xt G []) y139.1 y4 y5) fun y141 =>
  bnd (FX10_code (xt G []) y141.1 a ((11 : Int32)) x140 y141.2) fun y142 =>
  app y142.1 <|
  ltt ([] ++ y142.1) fun L144 =>
  some ([], y142.2))) fun (y6 : NN × DD) =>
  app y6.1 <|
  ltt ([] ++ y6.1) fun L8 =>
  bnd (if y2.2 ≤ ((10 : Int32)) then (some ((0 : Int32))) else
  (bnd (if ((3 : Int32)) ≤ y3.2 then (some ((0 : Int32))) else
  (some ((1 : Int32)))) fun (y135 : Int32) =>
  some (y135))) fun (y10 : Int32) =>
  bnd (itrA (fun (s12 : NN × Int32 × Int32 × DD) => ((if y2.2 ≤ s12.2.2.1 then (some ([], .inr ((s12.2.1, s12.2.2.1, s12.2.2.2)))) else
  (bnd (if y3.2 ≤ s12.2.2.1 then (dr (xt G s12.1) 13 ((s12.2.2.2.2 a 14)) fun b91 =>
  chk (¬ (s12.2.2.1 < 0 ∨ (xt G s12.1).2.2 b91 ≤ s12.2.2.1.toNatClampNeg)) <|
  ltt (s12.2.2.2.1 b91 s12.2.2.1.toNatClampNeg) fun x92 =>
  bnd (if s12.2.2.1 = y3.2 then (bnd (if ((3 : Int32)) ≤ y3.2 then (some ((0 : Int32))) else
  (some ((1 : Int32)))) fun (y123 : Int32) =>
  some (y123)) else
  (some ((0 : Int32)))) fun (y93 : Int32) =>
  bnd (FX10_cut (xt G s12.1) s12.2.2.2 a s12.2.1 x92 y93) fun y94 =>
  ltt (y94.1 a 17) fun x95 =>
  ltt ((x95 + ((1 : Int32)))) fun x96 =>
  bnd (FX10_code (xt G s12.1) y94 a ((13 : Int32)) ((1 : Int64)) x96) fun y97 =>
  app y97.1 <|
  ltt (s12.1 ++ y97.1) fun L99 =>
  ltt (y97.2.1 a 18) fun x102 =>
  ltt (x102.toInt64) fun x103 =>
  ltt (y97.2.1 a 19) fun x104 =>
  bnd (FX10_code (xt G L99) y97.2 a ((14 : Int32)) x103 x104) fun y105 =>
  app y105.1 <|
  ltt (L99 ++ y105.1) fun L107 =>
  bnd (if s12.2.1 = ((0 : Int32)) then (some ((1 : Int32))) else
  (some (s12.2.1))) fun (y110 : Int32) =>
  bnd (if ((6 : Int32)) ≤ y110 then (some (y110, y105.2)) else
  (dr (xt G L107) 13 ((y105.2.2 a 14)) fun b113 =>
  chk (¬ (s12.2.2.1 < 0 ∨ (xt G L107).2.2 b113 ≤ s12.2.2.1.toNatClampNeg)) <|
  ltt (y105.2.1 b113 s12.2.2.1.toNatClampNeg) fun x114 =>
  ltt (if (0 : Int32) ≤ x114 then x114 else 0 - x114) fun x115 =>
  ltt ((y110 - ((1 : Int32)))) fun x116 =>
  ltt ((((3 : Int32)) <<< (x116 &&& 31))) fun x117 =>
  bnd (if x115 ≤ x117 then (some (y110)) else
  (ltt ((y110 + ((1 : Int32)))) fun x120 =>
  some (x120))) fun (y118 : Int32) =>
  some (y118, y105.2))) fun (y111 : Int32 × DD) =>
  some ([], (y111.1, y111.2))) else
  (dr (xt G s12.1) 13 ((s12.2.2.2.2 a 14)) fun b125 =>
  chk (¬ (s12.2.2.1 < 0 ∨ (xt G s12.1).2.2 b125 ≤ s12.2.2.1.toNatClampNeg)) <|
  ltt (s12.2.2.2.1 b125 s12.2.2.1.toNatClampNeg) fun x126 =>
  bnd (if ((0 : Int32)) ≤ x126 then (some ((0 : Int64))) else
  (some ((1 : Int64)))) fun (y127 : Int64) =>
  bnd (FX10_code (xt G s12.1) s12.2.2.2 a ((12 : Int32)) y127 ((1 : Int32))) fun y128 =>
  app y128.1 <|
  ltt (s12.1 ++ y128.1) fun L130 =>
  some ([], (s12.2.1, y128.2)))) fun (y84 : NN × Int32 × DD) =>
  app y84.1 <|
  ltt (s12.1 ++ y84.1) fun L86 =>
  ltt (s12.2.2.1 + (1 : Int32)) fun x88 =>
  some ([], .inl (L86, (y84.2.1, x88, y84.2.2))))) : Option (NN × ((NN × Int32 × Int32 × DD) ⊕ (Int32 × Int32 × DD))))) 1000000 (L8, (y10, (0 : Int32), y6.2))) fun (y11 : NN × Int32 × Int32 × DD) =>
  app y11.1 <|
  ltt (L8 ++ y11.1) fun L14 =>
  bnd (if y2.2 ≤ ((0 : Int32)) then (some ([], y11.2.2.2)) else
  (bnd (if p1 ≤ y2.2 then (some ([], y11.2.2.2)) else
  (bnd (if p1 = ((4 : Int32)) then (some ((18 : Int32))) else
  (some ((3 : Int32)))) fun (y65 : Int32) =>
  ltt ((y65 + y2.2)) fun x66 =>
  ltt (y11.2.2.2.1 a 16) fun x67 =>
  bnd (FX5_valueOf (xt G L14) y11.2.2.2 x66 x67) fun y68 =>
  ltt (y68.2.toInt64) fun x69 =>
  ltt (y68.1.1 a 16) fun x70 =>
  bnd (FX5_lengthOf (xt G L14) y68.1 x66 x70) fun y71 =>
  bnd (FX10_code (xt G L14) y71.1 a ((15 : Int32)) x69 y71.2) fun y72 =>
  app y72.1 <|
  ltt (L14 ++ y72.1) fun L74 =>
  some ([], y72.2))) fun (y59 : NN × DD) =>
  app y59.1 <|
  ltt (L14 ++ y59.1) fun L61 =>
  some ([], y59.2))) fun (y16 : NN × DD) =>
  app y16.1 <|
  ltt (L14 ++ y16.1) fun L18 =>
  bnd (itrA (fun (s21 : NN × Int32 × DD) => ((ltt ((s21.2.1 + ((1 : Int32)))) fun x30 =>
  if y2.2 ≤ x30 then (some ([], .inr ((s21.2.1, s21.2.2)))) else
  (ltt (s21.2.2.1 a 16) fun x32 =>
  if x32 ≤ ((0 : Int32)) then (some ([], .inr ((s21.2.1, s21.2.2)))) else
  (ltt (s21.2.2.1 a 16) fun x34 =>
  bnd (if ((7 : Int32)) ≤ x34 then (some ((7 : Int32))) else
  (ltt (s21.2.2.1 a 16) fun x56 =>
  some (x56))) fun (y35 : Int32) =>
  ltt ((((21 : Int32)) + y35)) fun x36 =>
  dr (xt G s21.1) 13 ((s21.2.2.2 a 15)) fun b37 =>
  chk (¬ (s21.2.1 < 0 ∨ (xt G s21.1).2.2 b37 ≤ s21.2.1.toNatClampNeg)) <|
  ltt (s21.2.2.1 b37 s21.2.1.toNatClampNeg) fun x38 =>
  bnd (FX5_valueOf (xt G s21.1) s21.2.2 x36 x38) fun y39 =>
  ltt (y39.2.toInt64) fun x40 =>
  dr (xt G s21.1) 13 ((y39.1.2 a 15)) fun b41 =>
  chk (¬ (s21.2.1 < 0 ∨ (xt G s21.1).2.2 b41 ≤ s21.2.1.toNatClampNeg)) <|
  ltt (y39.1.1 b41 s21.2.1.toNatClampNeg) fun x42 =>
  bnd (FX5_lengthOf (xt G s21.1) y39.1 x36 x42) fun y43 =>
  bnd (FX10_code (xt G s21.1) y43.1 a ((16 : Int32)) x40 y43.2) fun y44 =>
  app y44.1 <|
  ltt (s21.1 ++ y44.1) fun L46 =>
  ltt (y44.2.1 a 16) fun x49 =>
  dr (xt G L46) 13 ((y44.2.2 a 15)) fun b50 =>
  chk (¬ (s21.2.1 < 0 ∨ (xt G L46).2.2 b50 ≤ s21.2.1.toNatClampNeg)) <|
  ltt (y44.2.1 b50 s21.2.1.toNatClampNeg) fun x51 =>
  ltt ((x49 - x51)) fun x52 =>
  ltt (uI y44.2 a 16 x52) fun M53 =>
  ltt (s21.2.1 + (1 : Int32)) fun x54 =>
  some ([], .inl (L46, (x54, M53)))))) : Option (NN × ((NN × Int32 × DD) ⊕ (Int32 × DD))))) 1000000 (L18, ((0 : Int32), y16.2))) fun (y20 : NN × Int32 × DD) =>
  app y20.1 <|
  ltt (L18 ++ y20.1) fun L23 =>
  some ([], y20.2.2)
set_option maxHeartbeats 4000000 in
set_option maxRecDepth 100000 in
noncomputable def FX10_rawSamples (G : GG) (M : DD) (a : Nat) (p0 : Option Nat) : Option (NN × DD) :=
  ltt (M.1 a 8) fun x1 =>
  bnd (if x1 = ((0 : Int32)) then (some ([], M)) else
  (chk (okd (xt G []) p0 = true) <|
  bnd (FX10_last (xt G []) M a ((1 : Int32))) fun y40 =>
  app y40.1 <|
  ltt ([] ++ y40.1) fun L43 =>
  some ([], y40.2))) fun (y2 : NN × DD) =>
  app y2.1 <|
  ltt ([] ++ y2.1) fun L4 =>
  chk (okd (xt G L4) p0 = true) <|
  bnd (FX10_fill (xt G L4) y2.2 a ((0 : Int32))) fun y6 =>
  app y6.1 <|
  ltt (L4 ++ y6.1) fun L9 =>
  bnd (itrA (fun (s13 : NN × Int32 × DD) => ((if ((384 : Int32)) ≤ s13.2.1 then (some ([], .inr ((s13.2.1, s13.2.2)))) else
  (dr (xt G s13.1) 13 p0 fun b26 =>
  ltt (Int32.ofNat ((xt G s13.1).2.2 b26)) fun x27 =>
  if x27 ≤ s13.2.1 then (some ([], .inr ((s13.2.1, s13.2.2)))) else
  (chk (¬ (s13.2.1 < 0 ∨ (xt G s13.1).2.2 b26 ≤ s13.2.1.toNatClampNeg)) <|
  ltt (s13.2.2.1 b26 s13.2.1.toNatClampNeg) fun x29 =>
  ltt (x29.toInt64) fun x30 =>
  chk (okd (xt G s13.1) p0 = true) <|
  bnd (FX10_code (xt G s13.1) s13.2.2 a ((0 : Int32)) x30 ((8 : Int32))) fun y31 =>
  app y31.1 <|
  ltt (s13.1 ++ y31.1) fun L34 =>
  ltt (s13.2.1 + (1 : Int32)) fun x37 =>
  some ([], .inl (L34, (x37, y31.2)))))) : Option (NN × ((NN × Int32 × DD) ⊕ (Int32 × DD))))) 1000000 (L9, ((0 : Int32), y6.2))) fun (y12 : NN × Int32 × DD) =>
  app y12.1 <|
  ltt (L9 ++ y12.1) fun L15 =>
  bnd (if x1 = ((0 : Int32)) then (some (y12.2.2)) else
  (bnd (FX10_beginArith (xt G L15) y12.2.2 a) fun y19 =>
  some (y19))) fun (y17 : DD) =>
  some ([], y17)
set_option maxHeartbeats 4000000 in
set_option maxRecDepth 100000 in
noncomputable def FX10_se (G : GG) (M : DD) (a : Nat) (p0 : Int32) (p1 : Int32) : Option (NN × DD) :=
  bnd (FX10_indexOfSe (xt G []) M p1) fun y1 =>
  ltt (y1.2.toInt64) fun x2 =>
  ltt (x2 + ((1 : Int64))) fun x3 =>
  bnd (FX10_bitsOfUe (xt G []) y1.1 y1.2) fun y4 =>
  bnd (FX10_code (xt G []) y4.1 a p0 x3 y4.2) fun y5 =>
  app y5.1 <|
  ltt ([] ++ y5.1) fun L7 =>
  some ([], y5.2)
set_option maxHeartbeats 4000000 in
set_option maxRecDepth 100000 in
noncomputable def FX10_te (G : GG) (M : DD) (a : Nat) (p0 : Int32) (p1 : Int32) (p2 : Int32) : Option (NN × DD) :=
  bnd (if p1 = ((1 : Int32)) then (ltt ((((1 : Int32)) - p2)) fun x15 =>
  ltt (x15.toInt64) fun x16 =>
  bnd (FX10_code (xt G []) M a p0 x16 ((1 : Int32))) fun y17 =>
  app y17.1 <|
  ltt ([] ++ y17.1) fun L19 =>
  some ([], y17.2)) else
  (ltt (p2.toInt64) fun x7 =>
  ltt (x7 + ((1 : Int64))) fun x8 =>
  bnd (FX10_bitsOfUe (xt G []) M p2) fun y9 =>
  bnd (FX10_code (xt G []) y9.1 a p0 x8 y9.2) fun y10 =>
  app y10.1 <|
  ltt ([] ++ y10.1) fun L12 =>
  some ([], y10.2))) fun (y1 : NN × DD) =>
  app y1.1 <|
  ltt ([] ++ y1.1) fun L3 =>
  some ([], y1.2)
set_option maxHeartbeats 4000000 in
set_option maxRecDepth 100000 in
noncomputable def FX10_ue (G : GG) (M : DD) (a : Nat) (p0 : Int32) (p1 : Int32) : Option (NN × DD) :=
  ltt (p1.toInt64) fun x1 =>
  ltt (x1 + ((1 : Int64))) fun x2 =>
  bnd (FX10_bitsOfUe (xt G []) M p1) fun y3 =>
  bnd (FX10_code (xt G []) y3.1 a p0 x2 y3.2) fun y4 =>
  app y4.1 <|
  ltt ([] ++ y4.1) fun L6 =>
  some ([], y4.2)
set_option maxHeartbeats 4000000 in
set_option maxRecDepth 100000 in
def FX11_paint (G : GG) (M : DD) (a : Nat) (p0 : Int32) (p1 : Int32) (p2 : Int32) (p3 : Int32) : Option (DD × Int32) :=
  bnd (if p0 < ((0 : Int32)) then (none) else
  (some ())) fun (y1 : Unit) =>
  bnd (if p0 ≤ ((4 : Int32)) then (some ()) else
  (none)) fun (y2 : Unit) =>
  dr G 0 ((M.2 a 4)) fun b3 =>
  bnd (FX0_isOpen G M b3) fun y4 =>
  bnd (if y4.2 = ((0 : Int32)) then (none) else
  (some ())) fun (y5 : Unit) =>
  bnd (if p0 = (0 : Int32) then (dr G 0 ((y4.1.2 a 4)) fun b10 =>
  bnd (FX0_paintFlat G y4.1 b10 p1 p2 p3) fun y11 =>
  some (y11)) else
  (if p0 = (1 : Int32) then (dr G 0 ((y4.1.2 a 4)) fun b13 =>
  bnd (FX0_paintSlope G y4.1 b13 p1 p2 p3) fun y14 =>
  some (y14)) else
  (if p0 = (2 : Int32) then (dr G 0 ((y4.1.2 a 4)) fun b16 =>
  bnd (FX0_paintNoise G y4.1 b16 p1 p2 p3) fun y17 =>
  some (y17)) else
  (if p0 = (3 : Int32) then (dr G 0 ((y4.1.2 a 4)) fun b19 =>
  bnd (FX0_paintMoved G y4.1 b19 p1 p2) fun y20 =>
  some (y20)) else
  (chk (p0.toInt < 0 ∨ 3 < p0.toInt) <|
  ltt ((p1 &&& ((127 : Int32)))) fun x21 =>
  ltt ((p2 &&& ((127 : Int32)))) fun x22 =>
  ltt ((p3 &&& ((255 : Int32)))) fun x23 =>
  dr G 0 ((y4.1.2 a 4)) fun b24 =>
  bnd (FX0_paintSquare G y4.1 b24 x21 x22 x23) fun y25 =>
  some (y25)))))) fun (y6 : DD) =>
  dr G 0 ((y6.2 a 4)) fun b7 =>
  bnd (FX0_inputSum G y6 b7) fun y8 =>
  some (y8.1, y8.2)
set_option maxHeartbeats 4000000 in
set_option maxRecDepth 100000 in
def FX11_picture (G : GG) (M : DD) (a : Nat) (p0 : Int32) (p1 : Int32) : Option (DD × Int32) :=
  bnd (if p1 < ((0 : Int32)) then (none) else
  (some ())) fun (y1 : Unit) =>
  bnd (if p1 ≤ ((6 : Int32)) then (some ()) else
  (none)) fun (y2 : Unit) =>
  dr G 1 ((M.2 a 3)) fun b3 =>
  dr G 7 ((M.2 b3 1)) fun b4 =>
  bnd (FX7_keeps G M b4 p0) fun y5 =>
  bnd (if y5.2 = ((0 : Int32)) then (none) else
  (some ())) fun (y6 : Unit) =>
  dr G 1 ((y5.1.2 a 3)) fun b7 =>
  dr G 7 ((y5.1.2 b7 1)) fun b8 =>
  bnd (FX7_fact G y5.1 b8 p0 p1) fun y9 =>
  some (y9.1, y9.2)
set_option maxHeartbeats 4000000 in
set_option maxRecDepth 100000 in
def FX1_bridge (G : GG) (M : DD) (a : Nat)  : Option (DD) :=
  dr G 13 ((M.2 a 7)) fun b2 =>
  chk (¬ (((2 : Int32)) < 0 ∨ G.2.2 b2 ≤ ((2 : Int32)).toNatClampNeg)) <|
  ltt (M.1 b2 ((2 : Int32)).toNatClampNeg) fun x3 =>
  ltt ((((1 : Int32)) <<< (x3 &&& 31))) fun x4 =>
  dr G 7 ((M.2 a 1)) fun b5 =>
  ltt (M.1 b5 5) fun x6 =>
  dr G 3 ((M.2 a 10)) fun b7 =>
  dr G 13 ((M.2 b7 0)) fun b8 =>
  chk (¬ (((3 : Int32)) < 0 ∨ G.2.2 b8 ≤ ((3 : Int32)).toNatClampNeg)) <|
  ltt (M.1 b8 ((3 : Int32)).toNatClampNeg) fun x9 =>
  ltt ((x9 - x6)) fun x10 =>
  ltt ((x4 - ((1 : Int32)))) fun x11 =>
  ltt ((x10 &&& x11)) fun x12 =>
  bnd (FX3_isOwn G M b7) fun y13 =>
  if y13.2 = ((0 : Int32)) then (if ((2 : Int32)) ≤ x12 then (dr G 13 ((y13.1.2 a 7)) fun b16 =>
  chk (¬ (((6 : Int32)) < 0 ∨ G.2.2 b16 ≤ ((6 : Int32)).toNatClampNeg)) <|
  ltt (y13.1.1 b16 ((6 : Int32)).toNatClampNeg) fun x17 =>
  bnd (if x17 = ((0 : Int32)) then (dr G 3 ((y13.1.2 a 10)) fun b31 =>
  dr G 13 ((y13.1.2 b31 0)) fun b32 =>
  chk (¬ (((21 : Int32)) < 0 ∨ G.2.2 b32 ≤ ((21 : Int32)).toNatClampNeg)) <|
  ltt (y13.1.1 b32 ((21 : Int32)).toNatClampNeg) fun x33 =>
  none) else
  (some (y13.1))) fun (y18 : DD) =>
  bnd (if x12 ≤ ((7 : Int32)) then (some ((1 : Int32))) else
  (ltt ((x12 - ((6 : Int32)))) fun x29 =>
  some (x29))) fun (y19 : Int32) =>
  bnd (itr (fun (s21 : DD) => ((if x12 ≤ y19 then (some (.inr (s21))) else
  (ltt ((x6 + y19)) fun x25 =>
  ltt ((x4 - ((1 : Int32)))) fun x26 =>
  ltt ((x25 &&& x26)) fun x27 =>
  none)) : Option ((DD) ⊕ (DD)))) 1000000 (y18)) fun (y20 : DD) =>
  some y20) else
  (some y13.1)) else
  (some y13.1)
set_option maxHeartbeats 4000000 in
set_option maxRecDepth 100000 in
def FX1_claim (G : GG) (M : DD) (a : Nat) (p0 : Int32) : Option (DD) :=
  ltt (uI M a 21 ((-1 : Int32))) fun M1 =>
  dr G 9 ((M1.2 a 2)) fun b2 =>
  dr G 4 ((M1.2 b2 0)) fun b3 =>
  bnd (FX4_blocks G M1 b3) fun y4 =>
  bnd (if y4.2 ≤ p0 then (none) else
  (some (y4.1))) fun (y5 : DD) =>
  dr G 9 ((y5.2 a 2)) fun b6 =>
  ltt ((((8 : Int32)) * p0)) fun x7 =>
  ltt ((x7 + ((0 : Int32)))) fun x8 =>
  dr G 13 ((y5.2 b6 6)) fun b9 =>
  chk (¬ (x8 < 0 ∨ G.2.2 b9 ≤ x8.toNatClampNeg)) <|
  ltt (y5.1 b9 x8.toNatClampNeg) fun x10 =>
  bnd (if x10 = ((-1 : Int32)) then (some (y5)) else
  (none)) fun (y11 : DD) =>
  some y11
set_option maxHeartbeats 4000000 in
set_option maxRecDepth 100000 in
def FX1_endBlock (G : GG) (M : DD) (a : Nat) (p0 : Int32) : Option (DD) :=
  dr G 9 ((M.2 a 2)) fun b2 =>
  bnd (FX9_endBlock G M b2 p0) fun y3 =>
  dr G 3 ((y3.2 a 11)) fun b4 =>
  dr G 13 ((y3.2 b4 0)) fun b5 =>
  chk (¬ (((16 : Int32)) < 0 ∨ G.2.2 b5 ≤ ((16 : Int32)).toNatClampNeg)) <|
  ltt (y3.1 b5 ((16 : Int32)).toNatClampNeg) fun x6 =>
  ltt ((x6 + ((1 : Int32)))) fun x7 =>
  chk (¬ (((16 : Int32)) < 0 ∨ G.2.2 b5 ≤ ((16 : Int32)).toNatClampNeg)) <|
  ltt (uI y3 b5 ((16 : Int32)).toNatClampNeg x7) fun M8 =>
  ltt (uI M8 a 21 ((-1 : Int32))) fun M9 =>
  some M9
set_option maxHeartbeats 4000000 in
set_option maxRecDepth 100000 in
def FX1_restart (G : GG) (M : DD) (a : Nat)  : Option (DD) :=
  bnd (itr (fun (s2 : Int32 × DD) => ((if ((4 : Int32)) ≤ s2.1 then (some (.inr (s2.1, s2.2))) else
  (dr G 15 ((s2.2.2 a 5)) fun b21 =>
  chk (¬ (s2.1 < 0 ∨ G.2.2 b21 ≤ s2.1.toNatClampNeg)) <|
  dr G 13 ((s2.2.2 b21 s2.1.toNatClampNeg)) fun b22 =>
  chk (¬ (((23 : Int32)) < 0 ∨ G.2.2 b22 ≤ ((23 : Int32)).toNatClampNeg)) <|
  ltt (uI s2.2 b22 ((23 : Int32)).toNatClampNeg ((0 : Int32))) fun M23 =>
  dr G 15 ((M23.2 a 6)) fun b24 =>
  chk (¬ (s2.1 < 0 ∨ G.2.2 b24 ≤ s2.1.toNatClampNeg)) <|
  dr G 13 ((M23.2 b24 s2.1.toNatClampNeg)) fun b25 =>
  chk (¬ (((11 : Int32)) < 0 ∨ G.2.2 b25 ≤ ((11 : Int32)).toNatClampNeg)) <|
  ltt (uI M23 b25 ((11 : Int32)).toNatClampNeg ((0 : Int32))) fun M26 =>
  ltt (s2.1 + (1 : Int32)) fun x27 =>
  some (.inl (x27, M26)))) : Option ((Int32 × DD) ⊕ (Int32 × DD)))) 1000000 ((0 : Int32), M)) fun (y1 : Int32 × DD) =>
  ltt (uI y1.2 a 8 ((-1 : Int32))) fun M4 =>
  dr G 7 ((M4.2 a 1)) fun b5 =>
  bnd (FX7_clear G M4 b5) fun y6 =>
  dr G 9 ((y6.2 a 2)) fun b7 =>
  ltt (uP y6 b7 0 none) fun M8 =>
  dr G 9 ((M8.2 a 2)) fun b9 =>
  bnd (FJ7_fill_53178 G M8 ((M8.2 b9 4)) ((0 : Int32))) fun y10 =>
  dr G 2 ((y10.2 a 4)) fun b11 =>
  ltt (uI y10 b11 1 ((0 : Int32))) fun M12 =>
  dr G 5 ((M12.2 a 0)) fun b13 =>
  ltt (uI M12 b13 12 ((0 : Int32))) fun M14 =>
  ltt (uI M14 a 14 ((0 : Int32))) fun M15 =>
  ltt (uI M15 a 15 ((0 : Int32))) fun M16 =>
  chk (((0 : Int32)) = 0 ∨ ((0 : Int32)) = 1) <|
  ltt (uI M16 a 16 ((0 : Int32))) fun M17 =>
  ltt (uI M17 a 18 ((0 : Int32))) fun M18 =>
  some M18
set_option maxHeartbeats 4000000 in
set_option maxRecDepth 100000 in
def FX2_filterLine (G : GG) (M : DD) (a : Nat) (p0 : Option Nat) (p1 : Int32) (p2 : Int32) (p3 : Int32) (p4 : Int32) : Option (DD) :=
  ltt ((p1 - p2)) fun x1 =>
  dr G 13 p0 fun b2 =>
  chk (¬ (x1 < 0 ∨ G.2.2 b2 ≤ x1.toNatClampNeg)) <|
  ltt (M.1 b2 x1.toNatClampNeg) fun x3 =>
  ltt ((((2 : Int32)) * p2)) fun x4 =>
  ltt ((p1 - x4)) fun x5 =>
  chk (¬ (x5 < 0 ∨ G.2.2 b2 ≤ x5.toNatClampNeg)) <|
  ltt (M.1 b2 x5.toNatClampNeg) fun x6 =>
  chk (¬ (p1 < 0 ∨ G.2.2 b2 ≤ p1.toNatClampNeg)) <|
  ltt (M.1 b2 p1.toNatClampNeg) fun x7 =>
  ltt ((p1 + p2)) fun x8 =>
  chk (¬ (x8 < 0 ∨ G.2.2 b2 ≤ x8.toNatClampNeg)) <|
  ltt (M.1 b2 x8.toNatClampNeg) fun x9 =>
  ltt ((x3 - x7)) fun x10 =>
  ltt (if (0 : Int32) ≤ x10 then x10 else 0 - x10) fun x11 =>
  ltt (M.1 a 2) fun x12 =>
  if x12 ≤ x11 then (some M) else
  (ltt ((x6 - x3)) fun x14 =>
  ltt (if (0 : Int32) ≤ x14 then x14 else 0 - x14) fun x15 =>
  ltt (M.1 a 3) fun x16 =>
  if x16 ≤ x15 then (some M) else
  (ltt ((x9 - x7)) fun x18 =>
  ltt (if (0 : Int32) ≤ x18 then x18 else 0 - x18) fun x19 =>
  ltt (M.1 a 3) fun x20 =>
  if x19 < x20 then (bnd (if p4 = ((0 : Int32)) then (some ((0 : Int32), M)) else
  (ltt ((((3 : Int32)) * p2)) fun x131 =>
  ltt ((p1 - x131)) fun x132 =>
  chk (¬ (x132 < 0 ∨ G.2.2 b2 ≤ x132.toNatClampNeg)) <|
  ltt (M.1 b2 x132.toNatClampNeg) fun x133 =>
  ltt ((x133 - x3)) fun x134 =>
  ltt (if (0 : Int32) ≤ x134 then x134 else 0 - x134) fun x135 =>
  ltt (M.1 a 3) fun x136 =>
  bnd (if x136 ≤ x135 then (some ((0 : Int32))) else
  (some ((1 : Int32)))) fun (y137 : Int32) =>
  some (y137, M))) fun (y22 : Int32 × DD) =>
  bnd (if p4 = ((0 : Int32)) then (some ((0 : Int32), y22.2)) else
  (ltt ((((2 : Int32)) * p2)) fun x122 =>
  ltt ((p1 + x122)) fun x123 =>
  chk (¬ (x123 < 0 ∨ G.2.2 b2 ≤ x123.toNatClampNeg)) <|
  ltt (y22.2.1 b2 x123.toNatClampNeg) fun x124 =>
  ltt ((x124 - x7)) fun x125 =>
  ltt (if (0 : Int32) ≤ x125 then x125 else 0 - x125) fun x126 =>
  ltt (y22.2.1 a 3) fun x127 =>
  bnd (if x127 ≤ x126 then (some ((0 : Int32))) else
  (some ((1 : Int32)))) fun (y128 : Int32) =>
  some (y128, y22.2))) fun (y23 : Int32 × DD) =>
  if p3 = ((4 : Int32)) then (ltt ((x3 - x7)) fun x102 =>
  ltt (if (0 : Int32) ≤ x102 then x102 else 0 - x102) fun x103 =>
  ltt (y23.2.1 a 2) fun x104 =>
  ltt ((x104 >>> (((2 : Int32)) &&& 31))) fun x105 =>
  ltt ((x105 + ((2 : Int32)))) fun x106 =>
  bnd (if x106 ≤ x103 then (some ((0 : Int32))) else
  (some ((1 : Int32)))) fun (y107 : Int32) =>
  ltt ((p1 - p2)) fun x108 =>
  ltt (-p2) fun x109 =>
  bnd (if y22.1 = ((0 : Int32)) then (some ((0 : Int32))) else
  (bnd (if y107 = ((0 : Int32)) then (some ((0 : Int32))) else
  (some ((1 : Int32)))) fun (y118 : Int32) =>
  some (y118))) fun (y110 : Int32) =>
  bnd (FX2_smooth G y23.2 p0 x108 x109 y110 x7 x9) fun y111 =>
  bnd (if y23.1 = ((0 : Int32)) then (some ((0 : Int32))) else
  (bnd (if y107 = ((0 : Int32)) then (some ((0 : Int32))) else
  (some ((1 : Int32)))) fun (y115 : Int32) =>
  some (y115))) fun (y112 : Int32) =>
  bnd (FX2_smooth G y111 p0 p1 p2 y112 x3 x6) fun y113 =>
  some y113) else
  (ltt (y23.2.1 a 4) fun x25 =>
  bnd (if ((17 : Int32)) ≤ x25 then (ltt (y23.2.1 a 4) fun x96 =>
  ltt ((x96 - ((17 : Int32)))) fun x97 =>
  ltt ((((3 : Int32)) * x97)) fun x98 =>
  ltt ((x98 + p3)) fun x99 =>
  ltt ((x99 - ((1 : Int32)))) fun x100 =>
  chk (¬ (x100 < 0 ∨ 105 ≤ x100.toNatClampNeg)) <|
  ltt ((sT 5).getD x100.toNatClampNeg 0) fun x101 =>
  some (x101)) else
  (some ((0 : Int32)))) fun (y26 : Int32) =>
  bnd (if p4 = ((0 : Int32)) then (ltt ((y26 + ((1 : Int32)))) fun x88 =>
  some (x88)) else
  (bnd (if y22.1 = ((0 : Int32)) then (some ((0 : Int32))) else
  (some ((1 : Int32)))) fun (y89 : Int32) =>
  ltt ((y26 + y89)) fun x90 =>
  bnd (if y23.1 = ((0 : Int32)) then (some ((0 : Int32))) else
  (some ((1 : Int32)))) fun (y91 : Int32) =>
  ltt ((x90 + y91)) fun x92 =>
  some (x92))) fun (y27 : Int32) =>
  ltt ((x7 - x3)) fun x28 =>
  ltt ((x28 * ((4 : Int32)))) fun x29 =>
  ltt ((x6 - x9)) fun x30 =>
  ltt ((x29 + x30)) fun x31 =>
  ltt ((x31 + ((4 : Int32)))) fun x32 =>
  ltt ((x32 >>> (((3 : Int32)) &&& 31))) fun x33 =>
  ltt (-y27) fun x34 =>
  bnd (if x34 ≤ x33 then (bnd (if x33 ≤ y27 then (some (x33)) else
  (some (y27))) fun (y84 : Int32) =>
  some (y84)) else
  (ltt (-y27) fun x86 =>
  some (x86))) fun (y35 : Int32) =>
  ltt ((x3 + x7)) fun x36 =>
  ltt ((x36 + ((1 : Int32)))) fun x37 =>
  ltt ((x37 >>> (((1 : Int32)) &&& 31))) fun x38 =>
  bnd (if y22.1 = ((0 : Int32)) then (some (y23.2)) else
  (ltt ((((3 : Int32)) * p2)) fun x66 =>
  ltt ((p1 - x66)) fun x67 =>
  chk (¬ (x67 < 0 ∨ G.2.2 b2 ≤ x67.toNatClampNeg)) <|
  ltt (y23.2.1 b2 x67.toNatClampNeg) fun x68 =>
  ltt ((x68 + x38)) fun x69 =>
  ltt ((((2 : Int32)) * x6)) fun x70 =>
  ltt ((x69 - x70)) fun x71 =>
  ltt ((x71 >>> (((1 : Int32)) &&& 31))) fun x72 =>
  ltt ((((2 : Int32)) * p2)) fun x73 =>
  ltt ((p1 - x73)) fun x74 =>
  ltt (-y26) fun x75 =>
  bnd (if x75 ≤ x72 then (bnd (if x72 ≤ y26 then (some (x72)) else
  (some (y26))) fun (y80 : Int32) =>
  some (y80)) else
  (ltt (-y26) fun x82 =>
  some (x82))) fun (y76 : Int32) =>
  ltt ((x6 + y76)) fun x77 =>
  chk (¬ (x74 < 0 ∨ G.2.2 b2 ≤ x74.toNatClampNeg)) <|
  ltt (uI y23.2 b2 x74.toNatClampNeg x77) fun M78 =>
  some (M78))) fun (y39 : DD) =>
  bnd (if y23.1 = ((0 : Int32)) then (some (y39)) else
  (ltt ((((2 : Int32)) * p2)) fun x49 =>
  ltt ((p1 + x49)) fun x50 =>
  chk (¬ (x50 < 0 ∨ G.2.2 b2 ≤ x50.toNatClampNeg)) <|
  ltt (y39.1 b2 x50.toNatClampNeg) fun x51 =>
  ltt ((x51 + x38)) fun x52 =>
  ltt ((((2 : Int32)) * x9)) fun x53 =>
  ltt ((x52 - x53)) fun x54 =>
  ltt ((x54 >>> (((1 : Int32)) &&& 31))) fun x55 =>
  ltt ((p1 + p2)) fun x56 =>
  ltt (-y26) fun x57 =>
  bnd (if x57 ≤ x55 then (bnd (if x55 ≤ y26 then (some (x55)) else
  (some (y26))) fun (y62 : Int32) =>
  some (y62)) else
  (ltt (-y26) fun x64 =>
  some (x64))) fun (y58 : Int32) =>
  ltt ((x9 + y58)) fun x59 =>
  chk (¬ (x56 < 0 ∨ G.2.2 b2 ≤ x56.toNatClampNeg)) <|
  ltt (uI y39 b2 x56.toNatClampNeg x59) fun M60 =>
  some (M60))) fun (y40 : DD) =>
  ltt ((p1 - p2)) fun x41 =>
  ltt ((x3 + y35)) fun x42 =>
  bnd (FX11_clip G y40 x42) fun y43 =>
  chk (¬ (x41 < 0 ∨ G.2.2 b2 ≤ x41.toNatClampNeg)) <|
  ltt (uI y43.1 b2 x41.toNatClampNeg y43.2) fun M44 =>
  ltt ((x7 - y35)) fun x45 =>
  bnd (FX11_clip G M44 x45) fun y46 =>
  chk (¬ (p1 < 0 ∨ G.2.2 b2 ≤ p1.toNatClampNeg)) <|
  ltt (uI y46.1 b2 p1.toNatClampNeg y46.2) fun M47 =>
  some M47)) else
  (some M)))
set_option maxHeartbeats 4000000 in
set_option maxRecDepth 100000 in
def FX2_mend (G : GG) (M : DD) (a : Nat) (p0 : Option Nat) (p1 : Option Nat) (p2 : Int32) : Option (DD × Int32) :=
  bnd (itr (fun (s2 : Int32 × Int32 × DD) => ((dr G 9 p0 fun b5 =>
  dr G 4 ((s2.2.2.2 b5 0)) fun b6 =>
  bnd (FX4_blocks G s2.2.2 b6) fun y7 =>
  if y7.2 ≤ s2.2.1 then (some (.inr (s2.1, s2.2.1, y7.1))) else
  (ltt ((((8 : Int32)) * s2.2.1)) fun x9 =>
  ltt ((x9 + ((0 : Int32)))) fun x10 =>
  dr G 13 ((y7.1.2 b5 6)) fun b11 =>
  chk (¬ (x10 < 0 ∨ G.2.2 b11 ≤ x10.toNatClampNeg)) <|
  ltt (y7.1.1 b11 x10.toNatClampNeg) fun x12 =>
  bnd (if x12 = ((-1 : Int32)) then (ltt ((((8 : Int32)) * s2.2.1)) fun x16 =>
  ltt ((x16 + ((0 : Int32)))) fun x17 =>
  chk (¬ (x17 < 0 ∨ G.2.2 b11 ≤ x17.toNatClampNeg)) <|
  ltt (uI y7.1 b11 x17.toNatClampNeg ((4 : Int32))) fun M18 =>
  ltt (s2.1 + (1 : Int32)) fun x19 =>
  ltt (uI M18 a 5 ((0 : Int32))) fun M20 =>
  ltt (uI M20 a 6 ((0 : Int32))) fun M21 =>
  bnd (if p2 = ((3 : Int32)) then (none) else
  (some (M21))) fun (y22 : DD) =>
  bnd (itr (fun (s24 : DD) => ((if ((3 : Int32)) ≤ ((0 : Int32)) then (some (.inr (s24))) else
  (if p2 = ((2 : Int32)) then (none) else
  (bnd (if p2 = ((0 : Int32)) then (some (none)) else
  (some (p1))) fun (y29 : Option Nat) =>
  none))) : Option ((DD) ⊕ (DD)))) 1000000 (y22)) fun (y23 : DD) =>
  some (x19, y23)) else
  (some (s2.1, y7.1))) fun (y13 : Int32 × DD) =>
  ltt (s2.2.1 + (1 : Int32)) fun x14 =>
  some (.inl (y13.1, x14, y13.2)))) : Option ((Int32 × Int32 × DD) ⊕ (Int32 × Int32 × DD)))) 1000000 ((0 : Int32), (0 : Int32), M)) fun (y1 : Int32 × Int32 × DD) =>
  some (y1.2.2, y1.1)
set_option maxHeartbeats 4000000 in
set_option maxRecDepth 100000 in
def FX2_setThresholds (G : GG) (M : DD) (a : Nat) (p0 : Option Nat) (p1 : Int32) (p2 : Int32) (p3 : Int32) : Option (DD) :=
  dr G 9 p0 fun b2 =>
  ltt ((((8 : Int32)) * p1)) fun x3 =>
  ltt ((x3 + ((2 : Int32)))) fun x4 =>
  dr G 13 ((M.2 b2 6)) fun b5 =>
  chk (¬ (x4 < 0 ∨ G.2.2 b5 ≤ x4.toNatClampNeg)) <|
  ltt (M.1 b5 x4.toNatClampNeg) fun x6 =>
  ltt ((((8 : Int32)) * p2)) fun x7 =>
  ltt ((x7 + ((2 : Int32)))) fun x8 =>
  chk (¬ (x8 < 0 ∨ G.2.2 b5 ≤ x8.toNatClampNeg)) <|
  ltt (M.1 b5 x8.toNatClampNeg) fun x9 =>
  bnd (if p3 ≤ ((0 : Int32)) then (some (x6, x9, M)) else
  (dr G 13 ((M.2 b2 2)) fun b42 =>
  chk (¬ (((8 : Int32)) < 0 ∨ G.2.2 b42 ≤ ((8 : Int32)).toNatClampNeg)) <|
  ltt (M.1 b42 ((8 : Int32)).toNatClampNeg) fun x43 =>
  bnd (FX6_colourStep G M x6 x43) fun y44 =>
  dr G 13 ((y44.1.2 b2 2)) fun b45 =>
  chk (¬ (((8 : Int32)) < 0 ∨ G.2.2 b45 ≤ ((8 : Int32)).toNatClampNeg)) <|
  ltt (y44.1.1 b45 ((8 : Int32)).toNatClampNeg) fun x46 =>
  bnd (FX6_colourStep G y44.1 x9 x46) fun y47 =>
  some (y44.2, y47.2, y47.1))) fun (y10 : Int32 × Int32 × DD) =>
  ltt ((y10.1 + y10.2.1)) fun x11 =>
  ltt ((x11 + ((1 : Int32)))) fun x12 =>
  ltt ((x12 >>> (((1 : Int32)) &&& 31))) fun x13 =>
  ltt ((((3 : Int32)) * p2)) fun x14 =>
  ltt ((x14 + ((1 : Int32)))) fun x15 =>
  dr G 13 ((y10.2.2.2 b2 10)) fun b16 =>
  chk (¬ (x15 < 0 ∨ G.2.2 b16 ≤ x15.toNatClampNeg)) <|
  ltt (y10.2.2.1 b16 x15.toNatClampNeg) fun x17 =>
  ltt ((((2 : Int32)) * x17)) fun x18 =>
  ltt ((x13 + x18)) fun x19 =>
  bnd (FX11_clamp G y10.2.2 ((0 : Int32)) ((51 : Int32)) x19) fun y20 =>
  ltt (uI y20.1 a 4 y20.2) fun M21 =>
  ltt ((((3 : Int32)) * p2)) fun x22 =>
  ltt ((x22 + ((2 : Int32)))) fun x23 =>
  dr G 13 ((M21.2 b2 10)) fun b24 =>
  chk (¬ (x23 < 0 ∨ G.2.2 b24 ≤ x23.toNatClampNeg)) <|
  ltt (M21.1 b24 x23.toNatClampNeg) fun x25 =>
  ltt ((((2 : Int32)) * x25)) fun x26 =>
  ltt ((x13 + x26)) fun x27 =>
  bnd (FX11_clamp G M21 ((0 : Int32)) ((51 : Int32)) x27) fun y28 =>
  ltt (y28.1.1 a 4) fun x29 =>
  bnd (if ((16 : Int32)) ≤ x29 then (ltt (y28.1.1 a 4) fun x38 =>
  ltt ((x38 - ((16 : Int32)))) fun x39 =>
  chk (¬ (x39 < 0 ∨ 36 ≤ x39.toNatClampNeg)) <|
  ltt ((sT 3).getD x39.toNatClampNeg 0) fun x40 =>
  some (x40)) else
  (some ((0 : Int32)))) fun (y30 : Int32) =>
  ltt (uI y28.1 a 2 y30) fun M31 =>
  bnd (if ((16 : Int32)) ≤ y28.2 then (ltt ((y28.2 - ((16 : Int32)))) fun x35 =>
  chk (¬ (x35 < 0 ∨ 36 ≤ x35.toNatClampNeg)) <|
  ltt ((sT 4).getD x35.toNatClampNeg 0) fun x36 =>
  some (x36)) else
  (some ((0 : Int32)))) fun (y32 : Int32) =>
  ltt (uI M31 a 3 y32) fun M33 =>
  some M33
set_option maxHeartbeats 4000000 in
set_option maxRecDepth 100000 in
def FX2_strengthOf (G : GG) (M : DD) (p0 : Option Nat) (p1 : Int32) (p2 : Int32) : Option (DD × Int32) :=
  ltt ((p1 >>> (((4 : Int32)) &&& 31))) fun x1 =>
  ltt ((p2 >>> (((4 : Int32)) &&& 31))) fun x2 =>
  dr G 9 p0 fun b3 =>
  ltt ((((8 : Int32)) * x1)) fun x4 =>
  ltt ((x4 + ((0 : Int32)))) fun x5 =>
  dr G 13 ((M.2 b3 6)) fun b6 =>
  chk (¬ (x5 < 0 ∨ G.2.2 b6 ≤ x5.toNatClampNeg)) <|
  ltt (M.1 b6 x5.toNatClampNeg) fun x7 =>
  if x7 = ((3 : Int32)) then (ltt ((((8 : Int32)) * x2)) fun x11 =>
  ltt ((x11 + ((0 : Int32)))) fun x12 =>
  chk (¬ (x12 < 0 ∨ G.2.2 b6 ≤ x12.toNatClampNeg)) <|
  ltt (M.1 b6 x12.toNatClampNeg) fun x13 =>
  if x13 = ((3 : Int32)) then (ltt ((((24 : Int32)) * x1)) fun x15 =>
  ltt ((p1 &&& ((15 : Int32)))) fun x16 =>
  ltt ((x15 + x16)) fun x17 =>
  dr G 13 ((M.2 b3 8)) fun b18 =>
  chk (¬ (x17 < 0 ∨ G.2.2 b18 ≤ x17.toNatClampNeg)) <|
  ltt (M.1 b18 x17.toNatClampNeg) fun x19 =>
  if ((0 : Int32)) < x19 then (some (M, (2 : Int32))) else
  (ltt ((((24 : Int32)) * x2)) fun x21 =>
  ltt ((p2 &&& ((15 : Int32)))) fun x22 =>
  ltt ((x21 + x22)) fun x23 =>
  chk (¬ (x23 < 0 ∨ G.2.2 b18 ≤ x23.toNatClampNeg)) <|
  ltt (M.1 b18 x23.toNatClampNeg) fun x24 =>
  if x24 ≤ ((0 : Int32)) then (dr G 4 ((M.2 b3 0)) fun b26 =>
  bnd (FX4_movesApart G M b26 p1 p2) fun y27 =>
  bnd (if y27.2 = ((0 : Int32)) then (some ((0 : Int32))) else
  (some ((1 : Int32)))) fun (y28 : Int32) =>
  some (y27.1, y28)) else
  (some (M, (2 : Int32))))) else
  (bnd (if x1 = x2 then (some ((3 : Int32))) else
  (some ((4 : Int32)))) fun (y30 : Int32) =>
  some (M, y30))) else
  (bnd (if x1 = x2 then (some ((3 : Int32))) else
  (some ((4 : Int32)))) fun (y9 : Int32) =>
  some (M, y9))
set_option maxHeartbeats 4000000 in
set_option maxRecDepth 100000 in
def FX5_beginArith (G : GG) (M : DD) (a : Nat)  : Option (DD) :=
  ltt (uI M a 8 ((510 : Int32))) fun M1 =>
  ltt (uI M1 a 9 ((0 : Int32))) fun M2 =>
  bnd (itr (fun (s4 : Int32 × DD) => ((if ((9 : Int32)) ≤ s4.1 then (some (.inr (s4.1, s4.2))) else
  (ltt (s4.2.1 a 9) fun x9 =>
  ltt ((x9 <<< (((1 : Int32)) &&& 31))) fun x10 =>
  bnd (FX5_plainBit G s4.2 a) fun y11 =>
  ltt ((x10 ||| y11.2)) fun x12 =>
  ltt (uI y11.1 a 9 x12) fun M13 =>
  ltt (s4.1 + (1 : Int32)) fun x14 =>
  some (.inl (x14, M13)))) : Option ((Int32 × DD) ⊕ (Int32 × DD)))) 1000000 ((0 : Int32), M2)) fun (y3 : Int32 × DD) =>
  chk (((1 : Int32)) = 0 ∨ ((1 : Int32)) = 1) <|
  ltt (uI y3.2 a 6 ((1 : Int32))) fun M6 =>
  some M6
set_option maxHeartbeats 4000000 in
set_option maxRecDepth 100000 in
def FX5_beginData (G : GG) (M : DD) (a : Nat)  : Option (DD) :=
  chk (((1 : Int32)) = 0 ∨ ((1 : Int32)) = 1) <|
  ltt (uI M a 7 ((1 : Int32))) fun M1 =>
  bnd (itr (fun (s3 : Int32 × DD) => ((if ((8 : Int32)) ≤ s3.1 then (some (.inr (s3.1, s3.2))) else
  (ltt (s3.2.1 a 2) fun x9 =>
  ltt ((x9 &&& ((7 : Int32)))) fun x10 =>
  if x10 = ((0 : Int32)) then (some (.inr (s3.1, s3.2))) else
  (bnd (FX5_plainBit G s3.2 a) fun y12 =>
  bnd (if y12.2 = ((0 : Int32)) then (ltt (y12.1.1 a 2) fun x16 =>
  none) else
  (some (y12.1))) fun (y13 : DD) =>
  ltt (s3.1 + (1 : Int32)) fun x14 =>
  some (.inl (x14, y13))))) : Option ((Int32 × DD) ⊕ (Int32 × DD)))) 1000000 ((0 : Int32), M1)) fun (y2 : Int32 × DD) =>
  bnd (FJ7_fill_53178 G y2.2 ((y2.2.2 a 10)) ((0 : Int32))) fun y5 =>
  bnd (FX5_beginArith G y5 a) fun y6 =>
  some y6
set_option maxHeartbeats 4000000 in
set_option maxRecDepth 100000 in
def FX5_code (G : GG) (M : DD) (a : Nat) (p0 : Int32) (p1 : Int32) : Option (DD × Int32) :=
  ltt (M.1 a 2) fun x1 =>
  ltt (uI M a 4 x1) fun M2 =>
  bnd (itr (fun (s4 : Int32 × Int32 × DD) => ((if ((17 : Int32)) ≤ s4.2.1 then (some (.inr (s4.1, s4.2.1, s4.2.2))) else
  (if s4.1 < ((0 : Int32)) then (some (.inr (s4.1, s4.2.1, s4.2.2))) else
  (ltt ((((2 : Int32)) * s4.1)) fun x20 =>
  bnd (FX5_bit G s4.2.2 a p0 s4.2.1) fun y21 =>
  ltt ((x20 + y21.2)) fun x22 =>
  dr G 13 ((s4.2.2.2 a 13)) fun b23 =>
  chk (¬ (x22 < 0 ∨ G.2.2 b23 ≤ x22.toNatClampNeg)) <|
  ltt (y21.1.1 b23 x22.toNatClampNeg) fun x24 =>
  bnd (if x24 = ((0 : Int32)) then (ltt (y21.1.1 a 4) fun x28 =>
  none) else
  (some (y21.1))) fun (y25 : DD) =>
  ltt (s4.2.1 + (1 : Int32)) fun x26 =>
  some (.inl (x24, x26, y25))))) : Option ((Int32 × Int32 × DD) ⊕ (Int32 × Int32 × DD)))) 1000000 (p1, (0 : Int32), M2)) fun (y3 : Int32 × Int32 × DD) =>
  ltt ((((-1 : Int32)) - y3.1)) fun x6 =>
  bnd (if ((4 : Int32)) ≤ p1 then (some (x6)) else
  (bnd (if ((1 : Int32)) ≤ x6 then (bnd (if ((3 : Int32)) ≤ x6 then (bnd (if ((6 : Int32)) ≤ x6 then (some ((6 : Int32))) else
  (some ((5 : Int32)))) fun (y15 : Int32) =>
  some (y15)) else
  (some ((3 : Int32)))) fun (y13 : Int32) =>
  some (y13)) else
  (some ((0 : Int32)))) fun (y10 : Int32) =>
  ltt ((x6 + y10)) fun x11 =>
  some (x11))) fun (y7 : Int32) =>
  bnd (FX5_record G y3.2.2 a y7) fun y8 =>
  some (y8, y7)
set_option maxHeartbeats 4000000 in
set_option maxRecDepth 100000 in
def FX5_fixed (G : GG) (M : DD) (a : Nat) (p0 : Int32) (p1 : Int32) : Option (DD × Int32) :=
  ltt (M.1 a 2) fun x1 =>
  ltt (uI M a 4 x1) fun M2 =>
  bnd (itr (fun (s4 : Int32 × Int32 × DD) => ((if p1 ≤ s4.2.1 then (some (.inr (s4.1, s4.2.1, s4.2.2))) else
  (ltt ((s4.1 <<< (((1 : Int32)) &&& 31))) fun x9 =>
  bnd (FX5_bit G s4.2.2 a p0 s4.2.1) fun y10 =>
  ltt ((x9 ||| y10.2)) fun x11 =>
  ltt (s4.2.1 + (1 : Int32)) fun x12 =>
  some (.inl (x11, x12, y10.1)))) : Option ((Int32 × Int32 × DD) ⊕ (Int32 × Int32 × DD)))) 1000000 ((0 : Int32), (0 : Int32), M2)) fun (y3 : Int32 × Int32 × DD) =>
  bnd (FX5_record G y3.2.2 a y3.1) fun y6 =>
  some (y6, y3.1)
set_option maxHeartbeats 4000000 in
set_option maxRecDepth 100000 in
noncomputable def FX5_init (G : GG) (M : DD) (a : Nat)  : Option (NN × DD) :=
  chkP (Clo (xt G []) M) <|
  chk (¬ ((272 : Int32)) < 0 ∧ ((272 : Int32)).toNatClampNeg * 4 ≤ 536870912) <|
  ltt ((xt G []).1) fun c2 =>
  app [(13, ((272 : Int32)).toNatClampNeg)] <|
  ltt ([] ++ [(13, ((272 : Int32)).toNatClampNeg)]) fun L4 =>
  ltt (rO M c2) fun M5 =>
  ltt (uP M5 a 10 (some c2)) fun M8 =>
  chkP (Clo (xt G L4) M8) <|
  chk (¬ ((12000 : Int32)) < 0 ∧ ((12000 : Int32)).toNatClampNeg * 4 ≤ 536870912) <|
  ltt ((xt G L4).1) fun c10 =>
  app [(13, ((12000 : Int32)).toNatClampNeg)] <|
  ltt (L4 ++ [(13, ((12000 : Int32)).toNatClampNeg)]) fun L12 =>
  ltt (rO M8 c10) fun M13 =>
  ltt (uP M13 a 11 (some c10)) fun M16 =>
  chkP (Clo (xt G L12) M16) <|
  chk (¬ ((800 : Int32)) < 0 ∧ ((800 : Int32)).toNatClampNeg * 4 ≤ 536870912) <|
  ltt ((xt G L12).1) fun c18 =>
  app [(13, ((800 : Int32)).toNatClampNeg)] <|
  ltt (L12 ++ [(13, ((800 : Int32)).toNatClampNeg)]) fun L20 =>
  ltt (rO M16 c18) fun M21 =>
  ltt (uP M21 a 13 (some c18)) fun M24 =>
  chkP (Clo (xt G L20) M24) <|
  chk (¬ ((16 : Int32)) < 0 ∧ ((16 : Int32)).toNatClampNeg * 4 ≤ 536870912) <|
  ltt ((xt G L20).1) fun c26 =>
  app [(13, ((16 : Int32)).toNatClampNeg)] <|
  ltt (L20 ++ [(13, ((16 : Int32)).toNatClampNeg)]) fun L28 =>
  ltt (rO M24 c26) fun M29 =>
  ltt (uP M29 a 14 (some c26)) fun M32 =>
  bnd (itr (fun (s34 : Int32 × Int32 × DD) => ((if ((29 : Int32)) ≤ s34.2.1 then (some (.inr (s34.1, s34.2.1, s34.2.2))) else
  (chk (¬ (s34.2.1 < 0 ∨ 30 ≤ s34.2.1.toNatClampNeg)) <|
  ltt ((sT 10).getD s34.2.1.toNatClampNeg 0) fun x38 =>
  bnd (itr (fun (s40 : Int32 × Int32 × DD) => ((ltt ((s34.2.1 + ((1 : Int32)))) fun x44 =>
  chk (¬ (x44 < 0 ∨ 30 ≤ x44.toNatClampNeg)) <|
  ltt ((sT 10).getD x44.toNatClampNeg 0) fun x45 =>
  if x45 ≤ s40.2.1 then (some (.inr (s40.1, s40.2.1, s40.2.2))) else
  (chk (¬ (s34.2.1 < 0 ∨ 30 ≤ s34.2.1.toNatClampNeg)) <|
  ltt ((sT 10).getD s34.2.1.toNatClampNeg 0) fun x47 =>
  ltt ((s40.2.1 - x47)) fun x48 =>
  ltt ((((2 : Int32)) * s40.2.1)) fun x49 =>
  chk (¬ (x49 < 0 ∨ 772 ≤ x49.toNatClampNeg)) <|
  ltt ((sT 6).getD x49.toNatClampNeg 0) fun x50 =>
  ltt ((((2 : Int32)) * s40.2.1)) fun x51 =>
  ltt ((x51 + ((1 : Int32)))) fun x52 =>
  chk (¬ (x52 < 0 ∨ 772 ≤ x52.toNatClampNeg)) <|
  ltt ((sT 6).getD x52.toNatClampNeg 0) fun x53 =>
  bnd (FX5_plant (xt G L28) s40.2.2 a s34.2.1 x48 x50 x53 s40.1) fun y54 =>
  ltt (s40.2.1 + (1 : Int32)) fun x55 =>
  some (.inl (y54.2, x55, y54.1)))) : Option ((Int32 × Int32 × DD) ⊕ (Int32 × Int32 × DD)))) 1000000 (s34.1, x38, s34.2.2)) fun (y39 : Int32 × Int32 × DD) =>
  ltt (s34.2.1 + (1 : Int32)) fun x42 =>
  some (.inl (y39.1, x42, y39.2.2)))) : Option ((Int32 × Int32 × DD) ⊕ (Int32 × Int32 × DD)))) 1000000 ((29 : Int32), (0 : Int32), M32)) fun (y33 : Int32 × Int32 × DD) =>
  some ([], y33.2.2)
set_option maxHeartbeats 4000000 in
set_option maxRecDepth 100000 in
def FX5_isLast (G : GG) (M : DD) (a : Nat)  : Option (DD × Int32) :=
  ltt (M.1 a 8) fun x1 =>
  ltt ((x1 - ((2 : Int32)))) fun x2 =>
  ltt (uI M a 8 x2) fun M3 =>
  ltt (M3.1 a 9) fun x4 =>
  ltt (M3.1 a 8) fun x5 =>
  if x4 < x5 then (bnd (FX5_widen G M3 a) fun y7 =>
  chk (((0 : Int32)) = 0 ∨ ((0 : Int32)) = 1) <|
  some (y7, (0 : Int32))) else
  (chk (((1 : Int32)) = 0 ∨ ((1 : Int32)) = 1) <|
  some (M3, (1 : Int32)))
set_option maxHeartbeats 4000000 in
set_option maxRecDepth 100000 in
def FX5_load (G : GG) (M : DD) (a : Nat) (p0 : Option Nat) : Option (DD) :=
  dr G 8 p0 fun b2 =>
  ltt (uP M a 0 ((M.2 b2 8))) fun M3 =>
  ltt (M3.1 b2 9) fun x4 =>
  ltt ((x4 - ((1 : Int32)))) fun x5 =>
  ltt ((((8 : Int32)) * x5)) fun x6 =>
  ltt (uI M3 a 1 x6) fun M7 =>
  bnd (FX8_stopPlace G M7 b2) fun y8 =>
  ltt (uI y8.1 a 3 y8.2) fun M9 =>
  ltt (uI M9 a 2 ((0 : Int32))) fun M10 =>
  ltt (uI M10 a 4 ((0 : Int32))) fun M11 =>
  ltt (uI M11 a 5 ((0 : Int32))) fun M12 =>
  chk (((0 : Int32)) = 0 ∨ ((0 : Int32)) = 1) <|
  ltt (uI M12 a 6 ((0 : Int32))) fun M13 =>
  chk (((0 : Int32)) = 0 ∨ ((0 : Int32)) = 1) <|
  ltt (uI M13 a 7 ((0 : Int32))) fun M14 =>
  ltt (uI M14 a 12 ((0 : Int32))) fun M15 =>
  some M15
set_option maxHeartbeats 4000000 in
set_option maxRecDepth 100000 in
def FX5_number (G : GG) (M : DD) (a : Nat) (p0 : Int32) (p1 : Int32) (p2 : Int64) (p3 : Int64) : Option (DD × Int32) :=
  ltt (M.1 a 2) fun x1 =>
  ltt (uI M a 4 x1) fun M2 =>
  bnd (if p1 = ((2 : Int32)) then (ltt (lg_cmp p3 ((1 : Int64))) fun x52 =>
  bnd (if x52 = ((0 : Int32)) then (bnd (FX5_bit G M2 a p0 ((0 : Int32))) fun y91 =>
  ltt ((((1 : Int32)) - y91.2)) fun x92 =>
  ltt (x92.toInt64) fun x93 =>
  some (x93, y91.1)) else
  (bnd (itr (fun (s56 : Int32 × DD) => ((if ((32 : Int32)) ≤ s56.1 then (some (.inr (s56.1, s56.2))) else
  (bnd (FX5_bit G s56.2 a p0 s56.1) fun y88 =>
  if y88.2 = ((0 : Int32)) then (ltt (s56.1 + (1 : Int32)) fun x90 =>
  some (.inl (x90, y88.1))) else
  (some (.inr (s56.1, y88.1))))) : Option ((Int32 × DD) ⊕ (Int32 × DD)))) 1000000 ((0 : Int32), M2)) fun (y55 : Int32 × DD) =>
  bnd (if y55.1 ≤ ((31 : Int32)) then (some (y55.2)) else
  (ltt (y55.2.1 a 4) fun x85 =>
  none)) fun (y58 : DD) =>
  bnd (itr (fun (s60 : Int64 × Int32 × DD) => ((if y55.1 ≤ s60.2.1 then (some (.inr (s60.1, s60.2.1, s60.2.2))) else
  (ltt (s60.1 <<< (((1 : Int32)).toInt64 &&& 63)) fun x77 =>
  ltt ((y55.1 + ((1 : Int32)))) fun x78 =>
  ltt ((x78 + s60.2.1)) fun x79 =>
  bnd (FX5_bit G s60.2.2 a p0 x79) fun y80 =>
  ltt (y80.2.toInt64) fun x81 =>
  ltt (x77 ||| x81) fun x82 =>
  ltt (s60.2.1 + (1 : Int32)) fun x83 =>
  some (.inl (x82, x83, y80.1)))) : Option ((Int64 × Int32 × DD) ⊕ (Int64 × Int32 × DD)))) 1000000 ((0 : Int64), (0 : Int32), y58)) fun (y59 : Int64 × Int32 × DD) =>
  ltt (((1 : Int64)) <<< (y55.1.toInt64 &&& 63)) fun x62 =>
  ltt (x62 - ((1 : Int64))) fun x63 =>
  ltt (x63 + y59.1) fun x64 =>
  bnd (if p1 = ((1 : Int32)) then (ltt (x64 &&& ((1 : Int64))) fun x67 =>
  ltt (lg_cmp x67 ((1 : Int64))) fun x68 =>
  bnd (if x68 = ((0 : Int32)) then (ltt (x64 + ((1 : Int64))) fun x73 =>
  chk (¬ ((2 : Int64)) = 0) <|
  ltt (x73 / ((2 : Int64))) fun x74 =>
  some (x74)) else
  (chk (¬ ((2 : Int64)) = 0) <|
  ltt (x64 / ((2 : Int64))) fun x71 =>
  ltt (-x71) fun x72 =>
  some (x72))) fun (y69 : Int64) =>
  some (y69)) else
  (some (x64))) fun (y65 : Int64) =>
  some (y65, y59.2.2))) fun (y53 : Int64 × DD) =>
  some (y53.1, y53.2)) else
  (bnd (itr (fun (s17 : Int32 × DD) => ((if ((32 : Int32)) ≤ s17.1 then (some (.inr (s17.1, s17.2))) else
  (bnd (FX5_bit G s17.2 a p0 s17.1) fun y49 =>
  if y49.2 = ((0 : Int32)) then (ltt (s17.1 + (1 : Int32)) fun x51 =>
  some (.inl (x51, y49.1))) else
  (some (.inr (s17.1, y49.1))))) : Option ((Int32 × DD) ⊕ (Int32 × DD)))) 1000000 ((0 : Int32), M2)) fun (y16 : Int32 × DD) =>
  bnd (if y16.1 ≤ ((31 : Int32)) then (some (y16.2)) else
  (ltt (y16.2.1 a 4) fun x46 =>
  none)) fun (y19 : DD) =>
  bnd (itr (fun (s21 : Int64 × Int32 × DD) => ((if y16.1 ≤ s21.2.1 then (some (.inr (s21.1, s21.2.1, s21.2.2))) else
  (ltt (s21.1 <<< (((1 : Int32)).toInt64 &&& 63)) fun x38 =>
  ltt ((y16.1 + ((1 : Int32)))) fun x39 =>
  ltt ((x39 + s21.2.1)) fun x40 =>
  bnd (FX5_bit G s21.2.2 a p0 x40) fun y41 =>
  ltt (y41.2.toInt64) fun x42 =>
  ltt (x38 ||| x42) fun x43 =>
  ltt (s21.2.1 + (1 : Int32)) fun x44 =>
  some (.inl (x43, x44, y41.1)))) : Option ((Int64 × Int32 × DD) ⊕ (Int64 × Int32 × DD)))) 1000000 ((0 : Int64), (0 : Int32), y19)) fun (y20 : Int64 × Int32 × DD) =>
  ltt (((1 : Int64)) <<< (y16.1.toInt64 &&& 63)) fun x23 =>
  ltt (x23 - ((1 : Int64))) fun x24 =>
  ltt (x24 + y20.1) fun x25 =>
  bnd (if p1 = ((1 : Int32)) then (ltt (x25 &&& ((1 : Int64))) fun x28 =>
  ltt (lg_cmp x28 ((1 : Int64))) fun x29 =>
  bnd (if x29 = ((0 : Int32)) then (ltt (x25 + ((1 : Int64))) fun x34 =>
  chk (¬ ((2 : Int64)) = 0) <|
  ltt (x34 / ((2 : Int64))) fun x35 =>
  some (x35)) else
  (chk (¬ ((2 : Int64)) = 0) <|
  ltt (x25 / ((2 : Int64))) fun x32 =>
  ltt (-x32) fun x33 =>
  some (x33))) fun (y30 : Int64) =>
  some (y30)) else
  (some (x25))) fun (y26 : Int64) =>
  some (y26, y20.2.2))) fun (y3 : Int64 × DD) =>
  ltt (lg_cmp y3.1 p2) fun x4 =>
  bnd (if x4 < ((0 : Int32)) then (ltt (y3.2.1 a 4) fun x14 =>
  none) else
  (some (y3.2))) fun (y5 : DD) =>
  ltt (lg_cmp y3.1 p3) fun x6 =>
  bnd (if x6 ≤ ((0 : Int32)) then (some (y5)) else
  (ltt (y5.1 a 4) fun x12 =>
  none)) fun (y7 : DD) =>
  ltt (y3.1.toInt32) fun x8 =>
  bnd (FX5_record G y7 a x8) fun y9 =>
  ltt (y3.1.toInt32) fun x10 =>
  some (y9, x10)
set_option maxHeartbeats 4000000 in
set_option maxRecDepth 100000 in
def FX5_oneLevel (G : GG) (M : DD) (a : Nat) (p0 : Int32) (p1 : Int32) : Option (DD × Int32) :=
  ltt (M.1 a 2) fun x1 =>
  ltt (uI M a 4 x1) fun M2 =>
  bnd (itr (fun (s4 : Int32 × DD) => ((if ((16 : Int32)) ≤ s4.1 then (some (.inr (s4.1, s4.2))) else
  (bnd (FX5_bit G s4.2 a ((13 : Int32)) s4.1) fun y41 =>
  if y41.2 = ((0 : Int32)) then (ltt (s4.1 + (1 : Int32)) fun x43 =>
  some (.inl (x43, y41.1))) else
  (some (.inr (s4.1, y41.1))))) : Option ((Int32 × DD) ⊕ (Int32 × DD)))) 1000000 ((0 : Int32), M2)) fun (y3 : Int32 × DD) =>
  bnd (if y3.1 ≤ ((15 : Int32)) then (some (y3.2)) else
  (ltt (y3.2.1 a 4) fun x38 =>
  none)) fun (y6 : DD) =>
  bnd (FX5_record G y6 a y3.1) fun y7 =>
  bnd (if y3.1 = ((15 : Int32)) then (some ((12 : Int32))) else
  (bnd (if y3.1 = ((14 : Int32)) then (bnd (if p0 = ((0 : Int32)) then (some ((4 : Int32))) else
  (some (p0))) fun (y35 : Int32) =>
  some (y35)) else
  (some (p0))) fun (y33 : Int32) =>
  some (y33))) fun (y8 : Int32) =>
  bnd (if ((15 : Int32)) ≤ y3.1 then (some ((15 : Int32))) else
  (some (y3.1))) fun (y9 : Int32) =>
  ltt ((y9 <<< (p0 &&& 31))) fun x10 =>
  bnd (if y8 ≤ ((0 : Int32)) then (some (x10, y7)) else
  (bnd (FX5_fixed G y7 a ((14 : Int32)) y8) fun y29 =>
  ltt ((x10 + y29.2)) fun x30 =>
  some (x30, y29.1))) fun (y11 : Int32 × DD) =>
  bnd (if y3.1 = ((15 : Int32)) then (bnd (if p0 = ((0 : Int32)) then (some ((15 : Int32))) else
  (some ((0 : Int32)))) fun (y26 : Int32) =>
  some (y26)) else
  (some ((0 : Int32)))) fun (y12 : Int32) =>
  ltt ((y11.1 + y12)) fun x13 =>
  bnd (if p1 = ((0 : Int32)) then (some ((0 : Int32))) else
  (some ((2 : Int32)))) fun (y14 : Int32) =>
  ltt ((x13 + y14)) fun x15 =>
  ltt ((x15 &&& ((1 : Int32)))) fun x16 =>
  bnd (if x16 = ((0 : Int32)) then (ltt ((x15 + ((2 : Int32)))) fun x22 =>
  ltt (x22 / ((2 : Int32))) fun x23 =>
  some (x23)) else
  (ltt ((x15 + ((1 : Int32)))) fun x19 =>
  ltt (-x19) fun x20 =>
  ltt (x20 / ((2 : Int32))) fun x21 =>
  some (x21))) fun (y17 : Int32) =>
  some (y11.2, y17)
set_option maxHeartbeats 4000000 in
set_option maxRecDepth 100000 in
def FX5_rawSamples (G : GG) (M : DD) (a : Nat) (p0 : Option Nat) : Option (DD) :=
  ltt (M.1 a 6) fun x1 =>
  bnd (if x1 = ((0 : Int32)) then (some (M)) else
  (bnd (FX5_isLast G M a) fun y28 =>
  bnd (if y28.2 = ((0 : Int32)) then (none) else
  (some (y28.1))) fun (y29 : DD) =>
  some (y29))) fun (y2 : DD) =>
  chk (((0 : Int32)) = 0 ∨ ((0 : Int32)) = 1) <|
  ltt (uI y2 a 6 ((0 : Int32))) fun M3 =>
  ltt (M3.1 a 2) fun x4 =>
  ltt (-x4) fun x5 =>
  ltt ((x5 &&& ((7 : Int32)))) fun x6 =>
  bnd (if x6 ≤ ((0 : Int32)) then (some (M3)) else
  (bnd (FX5_fixed G M3 a ((0 : Int32)) x6) fun y23 =>
  bnd (if y23.2 = ((0 : Int32)) then (some (y23.1)) else
  (ltt (y23.1.1 a 4) fun x26 =>
  none)) fun (y24 : DD) =>
  some (y24))) fun (y7 : DD) =>
  bnd (itr (fun (s9 : Int32 × DD) => ((if ((384 : Int32)) ≤ s9.1 then (some (.inr (s9.1, s9.2))) else
  (dr G 13 p0 fun b16 =>
  ltt (Int32.ofNat (G.2.2 b16)) fun x17 =>
  if x17 ≤ s9.1 then (some (.inr (s9.1, s9.2))) else
  (bnd (FX5_fixed G s9.2 a ((0 : Int32)) ((8 : Int32))) fun y19 =>
  chk (¬ (s9.1 < 0 ∨ G.2.2 b16 ≤ s9.1.toNatClampNeg)) <|
  ltt (uI y19.1 b16 s9.1.toNatClampNeg y19.2) fun M20 =>
  ltt (s9.1 + (1 : Int32)) fun x21 =>
  some (.inl (x21, M20))))) : Option ((Int32 × DD) ⊕ (Int32 × DD)))) 1000000 ((0 : Int32), y7)) fun (y8 : Int32 × DD) =>
  bnd (if x1 = ((0 : Int32)) then (some (y8.2)) else
  (bnd (FX5_beginArith G y8.2 a) fun y13 =>
  some (y13))) fun (y11 : DD) =>
  some y11
set_option maxHeartbeats 4000000 in
set_option maxRecDepth 100000 in
def FX5_spread (G : GG) (M : DD) (a : Nat) (p0 : Int32) (p1 : Int32) (p2 : Option Nat) (p3 : Int32) : Option (DD) :=
  bnd (if p1 ≤ ((0 : Int32)) then (some ((0 : Int32), M)) else
  (bnd (if p0 ≤ p1 then (some ((0 : Int32), M)) else
  (bnd (if p0 = ((4 : Int32)) then (some ((18 : Int32))) else
  (some ((3 : Int32)))) fun (y34 : Int32) =>
  ltt ((y34 + p1)) fun x35 =>
  bnd (FX5_code G M a ((15 : Int32)) x35) fun y36 =>
  ltt ((y36.2 + p1)) fun x37 =>
  bnd (if x37 ≤ p0 then (some (y36.1)) else
  (none)) fun (y38 : DD) =>
  some (y36.2, y38))) fun (y32 : Int32 × DD) =>
  some (y32.1, y32.2))) fun (y1 : Int32 × DD) =>
  ltt ((p3 + y1.1)) fun x2 =>
  ltt ((x2 + p1)) fun x3 =>
  bnd (if p0 = ((15 : Int32)) then (some ((0 : Int32))) else
  (some ((1 : Int32)))) fun (y4 : Int32) =>
  ltt ((x3 - y4)) fun x5 =>
  bnd (itr (fun (s7 : Int32 × Int32 × Int32 × DD) => ((if p1 ≤ s7.2.2.1 then (some (.inr (s7.1, s7.2.1, s7.2.2.1, s7.2.2.2))) else
  (dr G 13 ((s7.2.2.2.2 a 14)) fun b11 =>
  chk (¬ (s7.2.2.1 < 0 ∨ G.2.2 b11 ≤ s7.2.2.1.toNatClampNeg)) <|
  ltt (s7.2.2.2.1 b11 s7.2.2.1.toNatClampNeg) fun x12 =>
  dr G 13 p2 fun b13 =>
  chk (¬ (s7.2.1 < 0 ∨ G.2.2 b13 ≤ s7.2.1.toNatClampNeg)) <|
  ltt (uI s7.2.2.2 b13 s7.2.1.toNatClampNeg x12) fun M14 =>
  ltt ((s7.2.2.1 + ((1 : Int32)))) fun x15 =>
  bnd (if p1 ≤ x15 then (some (s7.1, s7.2.1, M14)) else
  (bnd (if s7.1 ≤ ((0 : Int32)) then (some (s7.1, s7.2.1, M14)) else
  (bnd (if ((7 : Int32)) ≤ s7.1 then (some ((7 : Int32))) else
  (some (s7.1))) fun (y22 : Int32) =>
  ltt ((((21 : Int32)) + y22)) fun x23 =>
  bnd (FX5_code G M14 a ((16 : Int32)) x23) fun y24 =>
  bnd (if y24.2 ≤ s7.1 then (some (y24.1)) else
  (none)) fun (y25 : DD) =>
  ltt ((s7.1 - y24.2)) fun x26 =>
  ltt ((s7.2.1 - y24.2)) fun x27 =>
  some (x26, x27, y25))) fun (y20 : Int32 × Int32 × DD) =>
  some (y20.1, y20.2.1, y20.2.2))) fun (y16 : Int32 × Int32 × DD) =>
  ltt (y16.2.1 + (-1 : Int32)) fun x17 =>
  ltt (s7.2.2.1 + (1 : Int32)) fun x18 =>
  some (.inl (y16.1, x17, x18, y16.2.2)))) : Option ((Int32 × Int32 × Int32 × DD) ⊕ (Int32 × Int32 × Int32 × DD)))) 1000000 (y1.1, x5, (0 : Int32), y1.2)) fun (y6 : Int32 × Int32 × Int32 × DD) =>
  some y6.2.2.2
set_option maxHeartbeats 4000000 in
set_option maxRecDepth 100000 in
def FX6_chooseWeights (G : GG) (M : DD) (a : Nat) (p0 : Option Nat) (p1 : Int32) : Option (DD × Int32) :=
  dr G 9 p0 fun b2 =>
  dr G 13 ((M.2 a 5)) fun b3 =>
  chk (¬ (((0 : Int32)) < 0 ∨ G.2.2 b3 ≤ ((0 : Int32)).toNatClampNeg)) <|
  ltt (M.1 b3 ((0 : Int32)).toNatClampNeg) fun x4 =>
  chk (¬ (((3 : Int32)) < 0 ∨ G.2.2 b3 ≤ ((3 : Int32)).toNatClampNeg)) <|
  ltt (M.1 b3 ((3 : Int32)).toNatClampNeg) fun x5 =>
  bnd (if x4 < ((0 : Int32)) then (some ((0 : Int32))) else
  (bnd (if x5 < ((0 : Int32)) then (some ((0 : Int32))) else
  (some ((1 : Int32)))) fun (y242 : Int32) =>
  some (y242))) fun (y6 : Int32) =>
  dr G 3 ((M.2 b2 1)) fun b7 =>
  dr G 13 ((M.2 b7 0)) fun b8 =>
  chk (¬ (((1 : Int32)) < 0 ∨ G.2.2 b8 ≤ ((1 : Int32)).toNatClampNeg)) <|
  ltt (M.1 b8 ((1 : Int32)).toNatClampNeg) fun x9 =>
  bnd (if x9 = ((1 : Int32)) then (some ((1 : Int32))) else
  (some ((0 : Int32)))) fun (y10 : Int32) =>
  bnd (if y6 = ((0 : Int32)) then (bnd (if x4 < ((0 : Int32)) then (some ((1 : Int32))) else
  (some ((0 : Int32)))) fun (y238 : Int32) =>
  some (y238)) else
  (some ((2 : Int32)))) fun (y11 : Int32) =>
  if y10 = ((0 : Int32)) then (if y10 = ((0 : Int32)) then (dr G 13 ((M.2 b2 2)) fun b14 =>
  chk (¬ (((5 : Int32)) < 0 ∨ G.2.2 b14 ≤ ((5 : Int32)).toNatClampNeg)) <|
  ltt (M.1 b14 ((5 : Int32)).toNatClampNeg) fun x15 =>
  if x15 = ((0 : Int32)) then (some (M, y11)) else
  (bnd (if p1 = ((0 : Int32)) then (some ((22 : Int32))) else
  (some ((23 : Int32)))) fun (y17 : Int32) =>
  chk (¬ (y17 < 0 ∨ G.2.2 b8 ≤ y17.toNatClampNeg)) <|
  ltt (M.1 b8 y17.toNatClampNeg) fun x18 =>
  ltt (uI M a 13 x18) fun M19 =>
  bnd (if x4 < ((0 : Int32)) then (some (M19)) else
  (bnd (FX3_weightAt G M19 ((0 : Int32)) x4 p1) fun y34 =>
  dr G 13 ((M19.2 b7 3)) fun b35 =>
  chk (¬ (y34.2 < 0 ∨ G.2.2 b35 ≤ y34.2.toNatClampNeg)) <|
  ltt (y34.1.1 b35 y34.2.toNatClampNeg) fun x36 =>
  ltt (uI y34.1 a 9 x36) fun M37 =>
  bnd (FX3_weightAt G M37 ((0 : Int32)) x4 p1) fun y38 =>
  ltt ((y38.2 + ((1 : Int32)))) fun x39 =>
  dr G 13 ((M37.2 b7 3)) fun b40 =>
  chk (¬ (x39 < 0 ∨ G.2.2 b40 ≤ x39.toNatClampNeg)) <|
  ltt (y38.1.1 b40 x39.toNatClampNeg) fun x41 =>
  ltt (uI y38.1 a 11 x41) fun M42 =>
  some (M42))) fun (y20 : DD) =>
  bnd (if x5 < ((0 : Int32)) then (some (y20)) else
  (bnd (FX3_weightAt G y20 ((1 : Int32)) x5 p1) fun y24 =>
  dr G 13 ((y20.2 b7 3)) fun b25 =>
  chk (¬ (y24.2 < 0 ∨ G.2.2 b25 ≤ y24.2.toNatClampNeg)) <|
  ltt (y24.1.1 b25 y24.2.toNatClampNeg) fun x26 =>
  ltt (uI y24.1 a 10 x26) fun M27 =>
  bnd (FX3_weightAt G M27 ((1 : Int32)) x5 p1) fun y28 =>
  ltt ((y28.2 + ((1 : Int32)))) fun x29 =>
  dr G 13 ((M27.2 b7 3)) fun b30 =>
  chk (¬ (x29 < 0 ∨ G.2.2 b30 ≤ x29.toNatClampNeg)) <|
  ltt (y28.1.1 b30 x29.toNatClampNeg) fun x31 =>
  ltt (uI y28.1 a 12 x31) fun M32 =>
  some (M32))) fun (y21 : DD) =>
  ltt ((y11 + ((3 : Int32)))) fun x22 =>
  some (y21, x22))) else
  (dr G 13 ((M.2 b2 2)) fun b44 =>
  chk (¬ (((6 : Int32)) < 0 ∨ G.2.2 b44 ≤ ((6 : Int32)).toNatClampNeg)) <|
  ltt (M.1 b44 ((6 : Int32)).toNatClampNeg) fun x45 =>
  if x45 = ((1 : Int32)) then (bnd (if p1 = ((0 : Int32)) then (some ((22 : Int32))) else
  (some ((23 : Int32)))) fun (y47 : Int32) =>
  chk (¬ (y47 < 0 ∨ G.2.2 b8 ≤ y47.toNatClampNeg)) <|
  ltt (M.1 b8 y47.toNatClampNeg) fun x48 =>
  ltt (uI M a 13 x48) fun M49 =>
  bnd (if x4 < ((0 : Int32)) then (some (M49)) else
  (bnd (FX3_weightAt G M49 ((0 : Int32)) x4 p1) fun y64 =>
  dr G 13 ((M49.2 b7 3)) fun b65 =>
  chk (¬ (y64.2 < 0 ∨ G.2.2 b65 ≤ y64.2.toNatClampNeg)) <|
  ltt (y64.1.1 b65 y64.2.toNatClampNeg) fun x66 =>
  ltt (uI y64.1 a 9 x66) fun M67 =>
  bnd (FX3_weightAt G M67 ((0 : Int32)) x4 p1) fun y68 =>
  ltt ((y68.2 + ((1 : Int32)))) fun x69 =>
  dr G 13 ((M67.2 b7 3)) fun b70 =>
  chk (¬ (x69 < 0 ∨ G.2.2 b70 ≤ x69.toNatClampNeg)) <|
  ltt (y68.1.1 b70 x69.toNatClampNeg) fun x71 =>
  ltt (uI y68.1 a 11 x71) fun M72 =>
  some (M72))) fun (y50 : DD) =>
  bnd (if x5 < ((0 : Int32)) then (some (y50)) else
  (bnd (FX3_weightAt G y50 ((1 : Int32)) x5 p1) fun y54 =>
  dr G 13 ((y50.2 b7 3)) fun b55 =>
  chk (¬ (y54.2 < 0 ∨ G.2.2 b55 ≤ y54.2.toNatClampNeg)) <|
  ltt (y54.1.1 b55 y54.2.toNatClampNeg) fun x56 =>
  ltt (uI y54.1 a 10 x56) fun M57 =>
  bnd (FX3_weightAt G M57 ((1 : Int32)) x5 p1) fun y58 =>
  ltt ((y58.2 + ((1 : Int32)))) fun x59 =>
  dr G 13 ((M57.2 b7 3)) fun b60 =>
  chk (¬ (x59 < 0 ∨ G.2.2 b60 ≤ x59.toNatClampNeg)) <|
  ltt (y58.1.1 b60 x59.toNatClampNeg) fun x61 =>
  ltt (uI y58.1 a 12 x61) fun M62 =>
  some (M62))) fun (y51 : DD) =>
  ltt ((y11 + ((3 : Int32)))) fun x52 =>
  some (y51, x52)) else
  (some (M, y11)))) else
  (dr G 13 ((M.2 b2 2)) fun b74 =>
  chk (¬ (((6 : Int32)) < 0 ∨ G.2.2 b74 ≤ ((6 : Int32)).toNatClampNeg)) <|
  ltt (M.1 b74 ((6 : Int32)).toNatClampNeg) fun x75 =>
  if x75 = ((2 : Int32)) then (if y6 = ((0 : Int32)) then (if y10 = ((0 : Int32)) then (chk (¬ (((5 : Int32)) < 0 ∨ G.2.2 b74 ≤ ((5 : Int32)).toNatClampNeg)) <|
  ltt (M.1 b74 ((5 : Int32)).toNatClampNeg) fun x138 =>
  if x138 = ((0 : Int32)) then (some (M, y11)) else
  (bnd (if p1 = ((0 : Int32)) then (some ((22 : Int32))) else
  (some ((23 : Int32)))) fun (y140 : Int32) =>
  chk (¬ (y140 < 0 ∨ G.2.2 b8 ≤ y140.toNatClampNeg)) <|
  ltt (M.1 b8 y140.toNatClampNeg) fun x141 =>
  ltt (uI M a 13 x141) fun M142 =>
  bnd (if x4 < ((0 : Int32)) then (some (M142)) else
  (bnd (FX3_weightAt G M142 ((0 : Int32)) x4 p1) fun y157 =>
  dr G 13 ((M142.2 b7 3)) fun b158 =>
  chk (¬ (y157.2 < 0 ∨ G.2.2 b158 ≤ y157.2.toNatClampNeg)) <|
  ltt (y157.1.1 b158 y157.2.toNatClampNeg) fun x159 =>
  ltt (uI y157.1 a 9 x159) fun M160 =>
  bnd (FX3_weightAt G M160 ((0 : Int32)) x4 p1) fun y161 =>
  ltt ((y161.2 + ((1 : Int32)))) fun x162 =>
  dr G 13 ((M160.2 b7 3)) fun b163 =>
  chk (¬ (x162 < 0 ∨ G.2.2 b163 ≤ x162.toNatClampNeg)) <|
  ltt (y161.1.1 b163 x162.toNatClampNeg) fun x164 =>
  ltt (uI y161.1 a 11 x164) fun M165 =>
  some (M165))) fun (y143 : DD) =>
  bnd (if x5 < ((0 : Int32)) then (some (y143)) else
  (bnd (FX3_weightAt G y143 ((1 : Int32)) x5 p1) fun y147 =>
  dr G 13 ((y143.2 b7 3)) fun b148 =>
  chk (¬ (y147.2 < 0 ∨ G.2.2 b148 ≤ y147.2.toNatClampNeg)) <|
  ltt (y147.1.1 b148 y147.2.toNatClampNeg) fun x149 =>
  ltt (uI y147.1 a 10 x149) fun M150 =>
  bnd (FX3_weightAt G M150 ((1 : Int32)) x5 p1) fun y151 =>
  ltt ((y151.2 + ((1 : Int32)))) fun x152 =>
  dr G 13 ((M150.2 b7 3)) fun b153 =>
  chk (¬ (x152 < 0 ∨ G.2.2 b153 ≤ x152.toNatClampNeg)) <|
  ltt (y151.1.1 b153 x152.toNatClampNeg) fun x154 =>
  ltt (uI y151.1 a 12 x154) fun M155 =>
  some (M155))) fun (y144 : DD) =>
  ltt ((y11 + ((3 : Int32)))) fun x145 =>
  some (y144, x145))) else
  (chk (¬ (((6 : Int32)) < 0 ∨ G.2.2 b74 ≤ ((6 : Int32)).toNatClampNeg)) <|
  ltt (M.1 b74 ((6 : Int32)).toNatClampNeg) fun x167 =>
  if x167 = ((1 : Int32)) then (bnd (if p1 = ((0 : Int32)) then (some ((22 : Int32))) else
  (some ((23 : Int32)))) fun (y169 : Int32) =>
  chk (¬ (y169 < 0 ∨ G.2.2 b8 ≤ y169.toNatClampNeg)) <|
  ltt (M.1 b8 y169.toNatClampNeg) fun x170 =>
  ltt (uI M a 13 x170) fun M171 =>
  bnd (if x4 < ((0 : Int32)) then (some (M171)) else
  (bnd (FX3_weightAt G M171 ((0 : Int32)) x4 p1) fun y186 =>
  dr G 13 ((M171.2 b7 3)) fun b187 =>
  chk (¬ (y186.2 < 0 ∨ G.2.2 b187 ≤ y186.2.toNatClampNeg)) <|
  ltt (y186.1.1 b187 y186.2.toNatClampNeg) fun x188 =>
  ltt (uI y186.1 a 9 x188) fun M189 =>
  bnd (FX3_weightAt G M189 ((0 : Int32)) x4 p1) fun y190 =>
  ltt ((y190.2 + ((1 : Int32)))) fun x191 =>
  dr G 13 ((M189.2 b7 3)) fun b192 =>
  chk (¬ (x191 < 0 ∨ G.2.2 b192 ≤ x191.toNatClampNeg)) <|
  ltt (y190.1.1 b192 x191.toNatClampNeg) fun x193 =>
  ltt (uI y190.1 a 11 x193) fun M194 =>
  some (M194))) fun (y172 : DD) =>
  bnd (if x5 < ((0 : Int32)) then (some (y172)) else
  (bnd (FX3_weightAt G y172 ((1 : Int32)) x5 p1) fun y176 =>
  dr G 13 ((y172.2 b7 3)) fun b177 =>
  chk (¬ (y176.2 < 0 ∨ G.2.2 b177 ≤ y176.2.toNatClampNeg)) <|
  ltt (y176.1.1 b177 y176.2.toNatClampNeg) fun x178 =>
  ltt (uI y176.1 a 10 x178) fun M179 =>
  bnd (FX3_weightAt G M179 ((1 : Int32)) x5 p1) fun y180 =>
  ltt ((y180.2 + ((1 : Int32)))) fun x181 =>
  dr G 13 ((M179.2 b7 3)) fun b182 =>
  chk (¬ (x181 < 0 ∨ G.2.2 b182 ≤ x181.toNatClampNeg)) <|
  ltt (y180.1.1 b182 x181.toNatClampNeg) fun x183 =>
  ltt (uI y180.1 a 12 x183) fun M184 =>
  some (M184))) fun (y173 : DD) =>
  ltt ((y11 + ((3 : Int32)))) fun x174 =>
  some (y173, x174)) else
  (some (M, y11)))) else
  (dr G 14 ((M.2 b2 3)) fun b196 =>
  chk (¬ (x4 < 0 ∨ G.2.2 b196 ≤ x4.toNatClampNeg)) <|
  ltt ((((9 : Int32)) + x5)) fun x197 =>
  chk (¬ (x197 < 0 ∨ G.2.2 b196 ≤ x197.toNatClampNeg)) <|
  bnd (if ((M.2 b196 x4.toNatClampNeg)) = none then (some ((0 : Int32), M)) else
  (bnd (if ((M.2 b196 x197.toNatClampNeg)) = none then (some ((0 : Int32), M)) else
  (dr G 4 ((M.2 b196 x4.toNatClampNeg)) fun b232 =>
  ltt (M.1 b232 9) fun x233 =>
  dr G 4 ((M.2 b196 x197.toNatClampNeg)) fun b234 =>
  ltt (M.1 b234 9) fun x235 =>
  bnd (FX9_timeBetween G M x233 x235) fun y236 =>
  some (y236.2, y236.1))) fun (y230 : Int32 × DD) =>
  some (y230.1, y230.2))) fun (y198 : Int32 × DD) =>
  bnd (if y198.1 = ((0 : Int32)) then (some ((1 : Int32))) else
  (dr G 4 ((M.2 b196 x4.toNatClampNeg)) fun b221 =>
  ltt (y198.2.1 b221 10) fun x222 =>
  bnd (if x222 = ((2 : Int32)) then (some ((1 : Int32))) else
  (dr G 4 ((M.2 b196 x197.toNatClampNeg)) fun b225 =>
  ltt (y198.2.1 b225 10) fun x226 =>
  bnd (if x226 = ((2 : Int32)) then (some ((1 : Int32))) else
  (some ((0 : Int32)))) fun (y227 : Int32) =>
  some (y227))) fun (y223 : Int32) =>
  some (y223))) fun (y199 : Int32) =>
  bnd (if y199 = ((0 : Int32)) then (dr G 4 ((M.2 b196 x4.toNatClampNeg)) fun b213 =>
  ltt (y198.2.1 b213 9) fun x214 =>
  dr G 4 ((y198.2.2 b2 0)) fun b215 =>
  ltt (y198.2.1 b215 9) fun x216 =>
  bnd (FX9_timeBetween G y198.2 x214 x216) fun y217 =>
  bnd (FX9_scaleBy G y217.1 y217.2 y198.1) fun y218 =>
  ltt ((y218.2 >>> (((2 : Int32)) &&& 31))) fun x219 =>
  some (x219, y218.1)) else
  (some ((32 : Int32), y198.2))) fun (y200 : Int32 × DD) =>
  bnd (if y200.1 < ((-64 : Int32)) then (some ((32 : Int32))) else
  (bnd (if y200.1 ≤ ((128 : Int32)) then (some (y200.1)) else
  (some ((32 : Int32)))) fun (y210 : Int32) =>
  some (y210))) fun (y201 : Int32) =>
  ltt (uI y200.2 a 10 y201) fun M202 =>
  ltt (M202.1 a 10) fun x203 =>
  ltt ((((64 : Int32)) - x203)) fun x204 =>
  ltt (uI M202 a 9 x204) fun M205 =>
  ltt (uI M205 a 11 ((0 : Int32))) fun M206 =>
  ltt (uI M206 a 12 ((0 : Int32))) fun M207 =>
  ltt (uI M207 a 13 ((5 : Int32))) fun M208 =>
  some (M208, (5 : Int32)))) else
  (if y10 = ((0 : Int32)) then (chk (¬ (((5 : Int32)) < 0 ∨ G.2.2 b74 ≤ ((5 : Int32)).toNatClampNeg)) <|
  ltt (M.1 b74 ((5 : Int32)).toNatClampNeg) fun x78 =>
  if x78 = ((0 : Int32)) then (some (M, y11)) else
  (bnd (if p1 = ((0 : Int32)) then (some ((22 : Int32))) else
  (some ((23 : Int32)))) fun (y80 : Int32) =>
  chk (¬ (y80 < 0 ∨ G.2.2 b8 ≤ y80.toNatClampNeg)) <|
  ltt (M.1 b8 y80.toNatClampNeg) fun x81 =>
  ltt (uI M a 13 x81) fun M82 =>
  bnd (if x4 < ((0 : Int32)) then (some (M82)) else
  (bnd (FX3_weightAt G M82 ((0 : Int32)) x4 p1) fun y97 =>
  dr G 13 ((M82.2 b7 3)) fun b98 =>
  chk (¬ (y97.2 < 0 ∨ G.2.2 b98 ≤ y97.2.toNatClampNeg)) <|
  ltt (y97.1.1 b98 y97.2.toNatClampNeg) fun x99 =>
  ltt (uI y97.1 a 9 x99) fun M100 =>
  bnd (FX3_weightAt G M100 ((0 : Int32)) x4 p1) fun y101 =>
  ltt ((y101.2 + ((1 : Int32)))) fun x102 =>
  dr G 13 ((M100.2 b7 3)) fun b103 =>
  chk (¬ (x102 < 0 ∨ G.2.2 b103 ≤ x102.toNatClampNeg)) <|
  ltt (y101.1.1 b103 x102.toNatClampNeg) fun x104 =>
  ltt (uI y101.1 a 11 x104) fun M105 =>
  some (M105))) fun (y83 : DD) =>
  bnd (if x5 < ((0 : Int32)) then (some (y83)) else
  (bnd (FX3_weightAt G y83 ((1 : Int32)) x5 p1) fun y87 =>
  dr G 13 ((y83.2 b7 3)) fun b88 =>
  chk (¬ (y87.2 < 0 ∨ G.2.2 b88 ≤ y87.2.toNatClampNeg)) <|
  ltt (y87.1.1 b88 y87.2.toNatClampNeg) fun x89 =>
  ltt (uI y87.1 a 10 x89) fun M90 =>
  bnd (FX3_weightAt G M90 ((1 : Int32)) x5 p1) fun y91 =>
  ltt ((y91.2 + ((1 : Int32)))) fun x92 =>
  dr G 13 ((M90.2 b7 3)) fun b93 =>
  chk (¬ (x92 < 0 ∨ G.2.2 b93 ≤ x92.toNatClampNeg)) <|
  ltt (y91.1.1 b93 x92.toNatClampNeg) fun x94 =>
  ltt (uI y91.1 a 12 x94) fun M95 =>
  some (M95))) fun (y84 : DD) =>
  ltt ((y11 + ((3 : Int32)))) fun x85 =>
  some (y84, x85))) else
  (chk (¬ (((6 : Int32)) < 0 ∨ G.2.2 b74 ≤ ((6 : Int32)).toNatClampNeg)) <|
  ltt (M.1 b74 ((6 : Int32)).toNatClampNeg) fun x107 =>
  if x107 = ((1 : Int32)) then (bnd (if p1 = ((0 : Int32)) then (some ((22 : Int32))) else
  (some ((23 : Int32)))) fun (y109 : Int32) =>
  chk (¬ (y109 < 0 ∨ G.2.2 b8 ≤ y109.toNatClampNeg)) <|
  ltt (M.1 b8 y109.toNatClampNeg) fun x110 =>
  ltt (uI M a 13 x110) fun M111 =>
  bnd (if x4 < ((0 : Int32)) then (some (M111)) else
  (bnd (FX3_weightAt G M111 ((0 : Int32)) x4 p1) fun y126 =>
  dr G 13 ((M111.2 b7 3)) fun b127 =>
  chk (¬ (y126.2 < 0 ∨ G.2.2 b127 ≤ y126.2.toNatClampNeg)) <|
  ltt (y126.1.1 b127 y126.2.toNatClampNeg) fun x128 =>
  ltt (uI y126.1 a 9 x128) fun M129 =>
  bnd (FX3_weightAt G M129 ((0 : Int32)) x4 p1) fun y130 =>
  ltt ((y130.2 + ((1 : Int32)))) fun x131 =>
  dr G 13 ((M129.2 b7 3)) fun b132 =>
  chk (¬ (x131 < 0 ∨ G.2.2 b132 ≤ x131.toNatClampNeg)) <|
  ltt (y130.1.1 b132 x131.toNatClampNeg) fun x133 =>
  ltt (uI y130.1 a 11 x133) fun M134 =>
  some (M134))) fun (y112 : DD) =>
  bnd (if x5 < ((0 : Int32)) then (some (y112)) else
  (bnd (FX3_weightAt G y112 ((1 : Int32)) x5 p1) fun y116 =>
  dr G 13 ((y112.2 b7 3)) fun b117 =>
  chk (¬ (y116.2 < 0 ∨ G.2.2 b117 ≤ y116.2.toNatClampNeg)) <|
  ltt (y116.1.1 b117 y116.2.toNatClampNeg) fun x118 =>
  ltt (uI y116.1 a 10 x118) fun M119 =>
  bnd (FX3_weightAt G M119 ((1 : Int32)) x5 p1) fun y120 =>
  ltt ((y120.2 + ((1 : Int32)))) fun x121 =>
  dr G 13 ((M119.2 b7 3)) fun b122 =>
  chk (¬ (x121 < 0 ∨ G.2.2 b122 ≤ x121.toNatClampNeg)) <|
  ltt (y120.1.1 b122 x121.toNatClampNeg) fun x123 =>
  ltt (uI y120.1 a 12 x123) fun M124 =>
  some (M124))) fun (y113 : DD) =>
  ltt ((y11 + ((3 : Int32)))) fun x114 =>
  some (y113, x114)) else
  (some (M, y11)))))
set_option maxHeartbeats 4000000 in
set_option maxRecDepth 100000 in
def FX6_colourMean (G : GG) (M : DD) (a : Nat) (p0 : Int32) (p1 : Int32) : Option (DD × Int32) :=
  ltt ((p1 &&& ((1 : Int32)))) fun x1 =>
  bnd (if x1 = ((0 : Int32)) then (some ((0 : Int32))) else
  (some ((1 : Int32)))) fun (y2 : Int32) =>
  ltt ((p1 &&& ((2 : Int32)))) fun x3 =>
  bnd (if x3 = ((0 : Int32)) then (some ((0 : Int32))) else
  (some ((1 : Int32)))) fun (y4 : Int32) =>
  ltt (p0 - p0 / ((2 : Int32)) * ((2 : Int32))) fun x5 =>
  ltt ((x5 * ((4 : Int32)))) fun x6 =>
  ltt ((((1 : Int32)) + x6)) fun x7 =>
  bnd (FX6_sumAround G M a x7 ((4 : Int32))) fun y8 =>
  ltt (p0 / ((2 : Int32))) fun x9 =>
  ltt ((x9 * ((4 : Int32)))) fun x10 =>
  ltt ((((10 : Int32)) + x10)) fun x11 =>
  bnd (FX6_sumAround G y8.1 a x11 ((4 : Int32))) fun y12 =>
  if y2 = ((0 : Int32)) then (if y4 = ((0 : Int32)) then (some (y12.1, (128 : Int32))) else
  (if p0 = ((1 : Int32)) then (bnd (if y4 = ((0 : Int32)) then (some (y12.2)) else
  (some (y8.2))) fun (y61 : Int32) =>
  ltt ((y61 + ((2 : Int32)))) fun x62 =>
  ltt ((x62 >>> (((2 : Int32)) &&& 31))) fun x63 =>
  some (y12.1, x63)) else
  (if p0 = ((2 : Int32)) then (bnd (if y2 = ((0 : Int32)) then (some (y8.2)) else
  (some (y12.2))) fun (y57 : Int32) =>
  ltt ((y57 + ((2 : Int32)))) fun x58 =>
  ltt ((x58 >>> (((2 : Int32)) &&& 31))) fun x59 =>
  some (y12.1, x59)) else
  (bnd (if y2 = ((0 : Int32)) then (bnd (if y2 = ((0 : Int32)) then (some (y8.2)) else
  (some (y12.2))) fun (y44 : Int32) =>
  ltt ((y44 + ((2 : Int32)))) fun x45 =>
  ltt ((x45 >>> (((2 : Int32)) &&& 31))) fun x46 =>
  some (x46)) else
  (bnd (if y4 = ((0 : Int32)) then (bnd (if y2 = ((0 : Int32)) then (some (y8.2)) else
  (some (y12.2))) fun (y50 : Int32) =>
  ltt ((y50 + ((2 : Int32)))) fun x51 =>
  ltt ((x51 >>> (((2 : Int32)) &&& 31))) fun x52 =>
  some (x52)) else
  (ltt ((y8.2 + y12.2)) fun x54 =>
  ltt ((x54 + ((4 : Int32)))) fun x55 =>
  ltt ((x55 >>> (((3 : Int32)) &&& 31))) fun x56 =>
  some (x56))) fun (y48 : Int32) =>
  some (y48))) fun (y42 : Int32) =>
  some (y12.1, y42))))) else
  (if p0 = ((1 : Int32)) then (bnd (if y4 = ((0 : Int32)) then (some (y12.2)) else
  (some (y8.2))) fun (y35 : Int32) =>
  ltt ((y35 + ((2 : Int32)))) fun x36 =>
  ltt ((x36 >>> (((2 : Int32)) &&& 31))) fun x37 =>
  some (y12.1, x37)) else
  (if p0 = ((2 : Int32)) then (bnd (if y2 = ((0 : Int32)) then (some (y8.2)) else
  (some (y12.2))) fun (y31 : Int32) =>
  ltt ((y31 + ((2 : Int32)))) fun x32 =>
  ltt ((x32 >>> (((2 : Int32)) &&& 31))) fun x33 =>
  some (y12.1, x33)) else
  (bnd (if y2 = ((0 : Int32)) then (bnd (if y2 = ((0 : Int32)) then (some (y8.2)) else
  (some (y12.2))) fun (y18 : Int32) =>
  ltt ((y18 + ((2 : Int32)))) fun x19 =>
  ltt ((x19 >>> (((2 : Int32)) &&& 31))) fun x20 =>
  some (x20)) else
  (bnd (if y4 = ((0 : Int32)) then (bnd (if y2 = ((0 : Int32)) then (some (y8.2)) else
  (some (y12.2))) fun (y24 : Int32) =>
  ltt ((y24 + ((2 : Int32)))) fun x25 =>
  ltt ((x25 >>> (((2 : Int32)) &&& 31))) fun x26 =>
  some (x26)) else
  (ltt ((y8.2 + y12.2)) fun x28 =>
  ltt ((x28 + ((4 : Int32)))) fun x29 =>
  ltt ((x29 >>> (((3 : Int32)) &&& 31))) fun x30 =>
  some (x30))) fun (y22 : Int32) =>
  some (y22))) fun (y16 : Int32) =>
  some (y12.1, y16))))
set_option maxHeartbeats 4000000 in
set_option maxRecDepth 100000 in
def FX6_differences (G : GG) (M : DD) (a : Nat) (p0 : Option Nat) (p1 : Option Nat) (p2 : Int32) (p3 : Int32) (p4 : Int32) : Option (DD × Int32) :=
  bnd (FX9_pieceX G M p3) fun y1 =>
  bnd (FX9_pieceY G y1.1 p3) fun y2 =>
  bnd (itr (fun (s4 : Int32 × Int32 × DD) => ((if p4 ≤ s4.2.1 then (some (.inr (s4.1, s4.2.1, s4.2.2))) else
  (dr G 9 p0 fun b8 =>
  ltt ((y2.2 + s4.2.1)) fun x9 =>
  bnd (FX6_lumaAt G s4.2.2 ((s4.2.2.2 b8 0)) p2 y1.2 x9) fun y10 =>
  bnd (itr (fun (s12 : Int32 × Int32) => ((if p4 ≤ s12.2 then (some (.inr (s12.1, s12.2))) else
  (ltt ((y10.2 + s12.2)) fun x17 =>
  dr G 13 p1 fun b18 =>
  chk (¬ (x17 < 0 ∨ G.2.2 b18 ≤ x17.toNatClampNeg)) <|
  ltt (y10.1.1 b18 x17.toNatClampNeg) fun x19 =>
  ltt ((y2.2 + s4.2.1)) fun x20 =>
  ltt ((((16 : Int32)) * x20)) fun x21 =>
  ltt ((x21 + y1.2)) fun x22 =>
  ltt ((x22 + s12.2)) fun x23 =>
  dr G 13 ((y10.1.2 a 0)) fun b24 =>
  chk (¬ (x23 < 0 ∨ G.2.2 b24 ≤ x23.toNatClampNeg)) <|
  ltt (y10.1.1 b24 x23.toNatClampNeg) fun x25 =>
  ltt ((x19 - x25)) fun x26 =>
  bnd (if ((0 : Int32)) ≤ x26 then (some (x26)) else
  (ltt (-x26) fun x31 =>
  some (x31))) fun (y27 : Int32) =>
  ltt ((s12.1 + y27)) fun x28 =>
  ltt (s12.2 + (1 : Int32)) fun x29 =>
  some (.inl (x28, x29)))) : Option ((Int32 × Int32) ⊕ (Int32 × Int32)))) 1000000 (s4.1, (0 : Int32))) fun (y11 : Int32 × Int32) =>
  ltt (s4.2.1 + (1 : Int32)) fun x14 =>
  some (.inl (y11.1, x14, y10.1)))) : Option ((Int32 × Int32 × DD) ⊕ (Int32 × Int32 × DD)))) 1000000 ((0 : Int32), (0 : Int32), y2.1)) fun (y3 : Int32 × Int32 × DD) =>
  some (y3.2.2, y3.1)
set_option maxHeartbeats 4000000 in
set_option maxRecDepth 100000 in
def FX6_fillPiece (G : GG) (M : DD) (a : Nat) (p0 : Option Nat) (p1 : Int32) (p2 : Int32) (p3 : Int32) (p4 : Int32) : Option (DD) :=
  bnd (FX6_turnBack G M a ((1 : Int32)) ((4 : Int32))) fun y1 =>
  bnd (FX6_turnBack G y1 a ((4 : Int32)) ((1 : Int32))) fun y2 =>
  bnd (itr (fun (s4 : Int32 × DD) => ((if ((16 : Int32)) ≤ s4.1 then (some (.inr (s4.1, s4.2))) else
  (ltt (s4.1 / ((4 : Int32))) fun x8 =>
  ltt ((x8 * p4)) fun x9 =>
  ltt ((p3 + x9)) fun x10 =>
  ltt (s4.1 - s4.1 / ((4 : Int32)) * ((4 : Int32))) fun x11 =>
  ltt ((x10 + x11)) fun x12 =>
  dr G 13 ((s4.2.2 a 0)) fun b13 =>
  chk (¬ (x12 < 0 ∨ G.2.2 b13 ≤ x12.toNatClampNeg)) <|
  ltt (s4.2.1 b13 x12.toNatClampNeg) fun x14 =>
  dr G 13 ((s4.2.2 a 6)) fun b15 =>
  chk (¬ (s4.1 < 0 ∨ G.2.2 b15 ≤ s4.1.toNatClampNeg)) <|
  ltt (s4.2.1 b15 s4.1.toNatClampNeg) fun x16 =>
  ltt ((x16 + ((32 : Int32)))) fun x17 =>
  ltt ((x17 >>> (((6 : Int32)) &&& 31))) fun x18 =>
  ltt ((x14 + x18)) fun x19 =>
  ltt (s4.1 / ((4 : Int32))) fun x20 =>
  ltt ((x20 * p2)) fun x21 =>
  ltt ((p1 + x21)) fun x22 =>
  ltt (s4.1 - s4.1 / ((4 : Int32)) * ((4 : Int32))) fun x23 =>
  ltt ((x22 + x23)) fun x24 =>
  bnd (if ((0 : Int32)) ≤ x19 then (bnd (if x19 ≤ ((255 : Int32)) then (some (x19)) else
  (some ((255 : Int32)))) fun (y30 : Int32) =>
  some (y30)) else
  (some ((0 : Int32)))) fun (y25 : Int32) =>
  dr G 13 p0 fun b26 =>
  chk (¬ (x24 < 0 ∨ G.2.2 b26 ≤ x24.toNatClampNeg)) <|
  ltt (uI s4.2 b26 x24.toNatClampNeg y25) fun M27 =>
  ltt (s4.1 + (1 : Int32)) fun x28 =>
  some (.inl (x28, M27)))) : Option ((Int32 × DD) ⊕ (Int32 × DD)))) 1000000 ((0 : Int32), y2)) fun (y3 : Int32 × DD) =>
  some y3.2
set_option maxHeartbeats 4000000 in
set_option maxRecDepth 100000 in
def FX6_fillRaw (G : GG) (M : DD) (a : Nat) (p0 : Option Nat) (p1 : Int32) : Option (DD) :=
  bnd (itr (fun (s2 : Int32 × DD) => ((if ((16 : Int32)) ≤ s2.1 then (some (.inr (s2.1, s2.2))) else
  (ltt ((((16 : Int32)) * s2.1)) fun x29 =>
  dr G 9 p0 fun b30 =>
  dr G 4 ((s2.2.2 b30 0)) fun b31 =>
  dr G 15 ((s2.2.2 b31 4)) fun b32 =>
  chk (¬ (((0 : Int32)) < 0 ∨ G.2.2 b32 ≤ ((0 : Int32)).toNatClampNeg)) <|
  bnd (FX6_lumaAt G s2.2 ((s2.2.2 b30 0)) p1 ((0 : Int32)) s2.1) fun y33 =>
  dr G 13 ((s2.2.2 a 0)) fun b34 =>
  dr G 13 ((s2.2.2 b32 ((0 : Int32)).toNatClampNeg)) fun b35 =>
  chk (¬ x29 < 0 ∧ ¬ y33.2 < 0 ∧ ¬ ((16 : Int32)) < 0 ∧ x29.toNatClampNeg + ((16 : Int32)).toNatClampNeg ≤ G.2.2 b34 ∧ y33.2.toNatClampNeg + ((16 : Int32)).toNatClampNeg ≤ G.2.2 b35) <|
  ltt (rI y33.1 b35 (va_cpy (y33.1.1 b34) (y33.1.1 b35) x29.toNatClampNeg y33.2.toNatClampNeg ((16 : Int32)).toNatClampNeg)) fun M36 =>
  ltt (s2.1 + (1 : Int32)) fun x37 =>
  some (.inl (x37, M36)))) : Option ((Int32 × DD) ⊕ (Int32 × DD)))) 1000000 ((0 : Int32), M)) fun (y1 : Int32 × DD) =>
  bnd (itr (fun (s5 : Int32 × DD) => ((if ((3 : Int32)) ≤ s5.1 then (some (.inr (s5.1, s5.2))) else
  (bnd (itr (fun (s10 : Int32 × DD) => ((if ((8 : Int32)) ≤ s10.1 then (some (.inr (s10.1, s10.2))) else
  (ltt ((((64 : Int32)) * s5.1)) fun x15 =>
  ltt ((((192 : Int32)) + x15)) fun x16 =>
  ltt ((((8 : Int32)) * s10.1)) fun x17 =>
  ltt ((x16 + x17)) fun x18 =>
  dr G 9 p0 fun b19 =>
  dr G 4 ((s10.2.2 b19 0)) fun b20 =>
  dr G 15 ((s10.2.2 b20 4)) fun b21 =>
  chk (¬ (s5.1 < 0 ∨ G.2.2 b21 ≤ s5.1.toNatClampNeg)) <|
  bnd (FX6_colourAt G s10.2 ((s10.2.2 b19 0)) p1 ((0 : Int32)) s10.1) fun y22 =>
  dr G 13 ((s10.2.2 a 0)) fun b23 =>
  dr G 13 ((s10.2.2 b21 s5.1.toNatClampNeg)) fun b24 =>
  chk (¬ x18 < 0 ∧ ¬ y22.2 < 0 ∧ ¬ ((8 : Int32)) < 0 ∧ x18.toNatClampNeg + ((8 : Int32)).toNatClampNeg ≤ G.2.2 b23 ∧ y22.2.toNatClampNeg + ((8 : Int32)).toNatClampNeg ≤ G.2.2 b24) <|
  ltt (rI y22.1 b24 (va_cpy (y22.1.1 b23) (y22.1.1 b24) x18.toNatClampNeg y22.2.toNatClampNeg ((8 : Int32)).toNatClampNeg)) fun M25 =>
  ltt (s10.1 + (1 : Int32)) fun x26 =>
  some (.inl (x26, M25)))) : Option ((Int32 × DD) ⊕ (Int32 × DD)))) 1000000 ((0 : Int32), s5.2)) fun (y9 : Int32 × DD) =>
  ltt (s5.1 + (1 : Int32)) fun x12 =>
  some (.inl (x12, y9.2)))) : Option ((Int32 × DD) ⊕ (Int32 × DD)))) 1000000 ((1 : Int32), y1.2)) fun (y4 : Int32 × DD) =>
  some y4.2
set_option maxHeartbeats 4000000 in
set_option maxRecDepth 100000 in
def FX6_fillSixteen (G : GG) (M : DD) (a : Nat) (p0 : Option Nat) (p1 : Int32) (p2 : Int32) : Option (DD) :=
  bnd (FX9_levelAt G M p1 ((16 : Int32))) fun y1 =>
  bnd (itr (fun (s3 : Int32 × DD) => ((if ((16 : Int32)) ≤ s3.1 then (some (.inr (s3.1, s3.2))) else
  (chk (¬ (s3.1 < 0 ∨ 16 ≤ s3.1.toNatClampNeg)) <|
  ltt ((sT 15).getD s3.1.toNatClampNeg 0) fun x41 =>
  ltt ((((4 : Int32)) * x41)) fun x42 =>
  chk (¬ (s3.1 < 0 ∨ 16 ≤ s3.1.toNatClampNeg)) <|
  ltt ((sT 14).getD s3.1.toNatClampNeg 0) fun x43 =>
  ltt ((x42 + x43)) fun x44 =>
  dr G 9 p0 fun b45 =>
  ltt ((y1.2 + s3.1)) fun x46 =>
  dr G 13 ((s3.2.2 b45 9)) fun b47 =>
  chk (¬ (x46 < 0 ∨ G.2.2 b47 ≤ x46.toNatClampNeg)) <|
  ltt (s3.2.1 b47 x46.toNatClampNeg) fun x48 =>
  dr G 13 ((s3.2.2 a 7)) fun b49 =>
  chk (¬ (x44 < 0 ∨ G.2.2 b49 ≤ x44.toNatClampNeg)) <|
  ltt (uI s3.2 b49 x44.toNatClampNeg x48) fun M50 =>
  ltt (s3.1 + (1 : Int32)) fun x51 =>
  some (.inl (x51, M50)))) : Option ((Int32 × DD) ⊕ (Int32 × DD)))) 1000000 ((0 : Int32), y1.1)) fun (y2 : Int32 × DD) =>
  bnd (FX6_turnEven G y2.2 a) fun y5 =>
  bnd (itr (fun (s7 : Int32 × DD) => ((if ((16 : Int32)) ≤ s7.1 then (some (.inr (s7.1, s7.2))) else
  (bnd (FX9_pieceX G s7.2 s7.1) fun y11 =>
  bnd (FX9_pieceY G y11.1 s7.1) fun y12 =>
  dr G 9 p0 fun b13 =>
  bnd (FX9_levelAt G y12.1 p1 s7.1) fun y14 =>
  bnd (FX6_unfold G y14.1 a ((y12.1.2 b13 9)) y14.2 ((1 : Int32)) p2) fun y15 =>
  ltt (y11.2 / ((4 : Int32))) fun x16 =>
  ltt ((y12.2 + x16)) fun x17 =>
  dr G 13 ((y15.2 a 7)) fun b18 =>
  chk (¬ (x17 < 0 ∨ G.2.2 b18 ≤ x17.toNatClampNeg)) <|
  ltt (y15.1 b18 x17.toNatClampNeg) fun x19 =>
  bnd (FX6_normAt G y15 p2 ((0 : Int32)) ((0 : Int32))) fun y20 =>
  chk (¬ (y20.2 < 0 ∨ 18 ≤ y20.2.toNatClampNeg)) <|
  ltt ((sT 13).getD y20.2.toNatClampNeg 0) fun x21 =>
  ltt ((x19 * x21)) fun x22 =>
  ltt (p2 / ((6 : Int32))) fun x23 =>
  ltt ((x22 <<< (x23 &&& 31))) fun x24 =>
  ltt ((x24 + ((2 : Int32)))) fun x25 =>
  ltt ((x25 >>> (((2 : Int32)) &&& 31))) fun x26 =>
  dr G 13 ((y15.2 a 6)) fun b27 =>
  chk (¬ (((0 : Int32)) < 0 ∨ G.2.2 b27 ≤ ((0 : Int32)).toNatClampNeg)) <|
  ltt (uI y20.1 b27 ((0 : Int32)).toNatClampNeg x26) fun M28 =>
  dr G 4 ((M28.2 b13 0)) fun b29 =>
  dr G 15 ((M28.2 b29 4)) fun b30 =>
  chk (¬ (((0 : Int32)) < 0 ∨ G.2.2 b30 ≤ ((0 : Int32)).toNatClampNeg)) <|
  bnd (FX6_lumaAt G M28 ((M28.2 b13 0)) p1 y11.2 y12.2) fun y31 =>
  dr G 4 ((y31.1.2 b13 0)) fun b32 =>
  ltt (y31.1.1 b32 1) fun x33 =>
  ltt ((((16 : Int32)) * x33)) fun x34 =>
  ltt ((((16 : Int32)) * y12.2)) fun x35 =>
  ltt ((x35 + y11.2)) fun x36 =>
  bnd (FX6_fillPiece G y31.1 a ((M28.2 b30 ((0 : Int32)).toNatClampNeg)) y31.2 x34 x36 ((16 : Int32))) fun y37 =>
  ltt (s7.1 + (1 : Int32)) fun x38 =>
  some (.inl (x38, y37)))) : Option ((Int32 × DD) ⊕ (Int32 × DD)))) 1000000 ((0 : Int32), y5)) fun (y6 : Int32 × DD) =>
  some y6.2
set_option maxHeartbeats 4000000 in
set_option maxRecDepth 100000 in
def FX6_measure (G : GG) (M : DD) (a : Nat) (p0 : Option Nat) (p1 : Int32) (p2 : Int32) (p3 : Int32) (p4 : Int32) : Option (DD × Int32) :=
  bnd (itr (fun (s2 : Int32 × Int32 × DD) => ((if ((16 : Int32)) ≤ s2.2.1 then (some (.inr (s2.1, s2.2.1, s2.2.2))) else
  (chk (¬ (s2.2.1 < 0 ∨ 16 ≤ s2.2.1.toNatClampNeg)) <|
  ltt ((sT 14).getD s2.2.1.toNatClampNeg 0) fun x6 =>
  chk (¬ (s2.2.1 < 0 ∨ 16 ≤ s2.2.1.toNatClampNeg)) <|
  ltt ((sT 15).getD s2.2.1.toNatClampNeg 0) fun x7 =>
  ltt ((((4 : Int32)) * x7)) fun x8 =>
  ltt ((x8 + x6)) fun x9 =>
  dr G 13 ((s2.2.2.2 a 6)) fun b10 =>
  chk (¬ (x9 < 0 ∨ G.2.2 b10 ≤ x9.toNatClampNeg)) <|
  ltt (s2.2.2.1 b10 x9.toNatClampNeg) fun x11 =>
  bnd (FX6_normAt G s2.2.2 p3 x6 x7) fun y12 =>
  chk (¬ (y12.2 < 0 ∨ 18 ≤ y12.2.toNatClampNeg)) <|
  ltt ((sT 12).getD y12.2.toNatClampNeg 0) fun x13 =>
  bnd (FX6_roundingOf G y12.1 p3 p4) fun y14 =>
  ltt (p3 / ((6 : Int32))) fun x15 =>
  ltt ((((15 : Int32)) + x15)) fun x16 =>
  bnd (FX6_measured G y14.1 x11 x13 y14.2 x16) fun y17 =>
  ltt ((p1 + s2.2.1)) fun x18 =>
  dr G 13 p0 fun b19 =>
  chk (¬ (x18 < 0 ∨ G.2.2 b19 ≤ x18.toNatClampNeg)) <|
  ltt (uI y17.1 b19 x18.toNatClampNeg y17.2) fun M20 =>
  bnd (if y17.2 = ((0 : Int32)) then (some ((0 : Int32))) else
  (some ((1 : Int32)))) fun (y21 : Int32) =>
  ltt ((s2.1 + y21)) fun x22 =>
  ltt (s2.2.1 + (1 : Int32)) fun x23 =>
  some (.inl (x22, x23, M20)))) : Option ((Int32 × Int32 × DD) ⊕ (Int32 × Int32 × DD)))) 1000000 ((0 : Int32), p2, M)) fun (y1 : Int32 × Int32 × DD) =>
  some (y1.2.2, y1.1)
set_option maxHeartbeats 4000000 in
set_option maxRecDepth 100000 in
def FX6_measureColours (G : GG) (M : DD) (a : Nat) (p0 : Option Nat) (p1 : Option Nat) (p2 : Int32) (p3 : Int32) (p4 : Int32) : Option (DD × Int32) :=
  bnd (itr (fun (s2 : Int32 × Int32 × DD) => ((if ((3 : Int32)) ≤ s2.2.1 then (some (.inr (s2.1, s2.2.1, s2.2.2))) else
  (bnd (itr (fun (s7 : Int32 × Int32 × DD) => ((if ((4 : Int32)) ≤ s7.2.1 then (some (.inr (s7.1, s7.2.1, s7.2.2))) else
  (ltt (s7.2.1 - s7.2.1 / ((2 : Int32)) * ((2 : Int32))) fun x38 =>
  ltt ((x38 * ((4 : Int32)))) fun x39 =>
  ltt (s7.2.1 / ((2 : Int32))) fun x40 =>
  ltt ((x40 * ((4 : Int32)))) fun x41 =>
  dr G 15 p1 fun b42 =>
  chk (¬ (s2.2.1 < 0 ∨ G.2.2 b42 ≤ s2.2.1.toNatClampNeg)) <|
  dr G 9 p0 fun b43 =>
  bnd (FX6_colourAt G s7.2.2 ((s7.2.2.2 b43 0)) p2 x39 x41) fun y44 =>
  dr G 4 ((y44.1.2 b43 0)) fun b45 =>
  ltt (y44.1.1 b45 1) fun x46 =>
  ltt ((((8 : Int32)) * x46)) fun x47 =>
  ltt ((((64 : Int32)) * s2.2.1)) fun x48 =>
  ltt ((((192 : Int32)) + x48)) fun x49 =>
  ltt ((((8 : Int32)) * x41)) fun x50 =>
  ltt ((x49 + x50)) fun x51 =>
  ltt ((x51 + x39)) fun x52 =>
  bnd (FX6_turn G y44.1 a ((s7.2.2.2 b42 s2.2.1.toNatClampNeg)) y44.2 x47 x52 ((8 : Int32))) fun y53 =>
  dr G 13 ((y53.2 a 6)) fun b54 =>
  chk (¬ (((0 : Int32)) < 0 ∨ G.2.2 b54 ≤ ((0 : Int32)).toNatClampNeg)) <|
  ltt (y53.1 b54 ((0 : Int32)).toNatClampNeg) fun x55 =>
  dr G 13 ((y53.2 a 7)) fun b56 =>
  chk (¬ (s7.2.1 < 0 ∨ G.2.2 b56 ≤ s7.2.1.toNatClampNeg)) <|
  ltt (uI y53 b56 s7.2.1.toNatClampNeg x55) fun M57 =>
  ltt ((((4 : Int32)) * s2.2.1)) fun x58 =>
  ltt ((((15 : Int32)) + x58)) fun x59 =>
  ltt ((x59 + s7.2.1)) fun x60 =>
  bnd (FX9_levelAt G M57 p2 x60) fun y61 =>
  bnd (FX6_measure G y61.1 a ((M57.2 b43 9)) y61.2 ((1 : Int32)) p3 p4) fun y62 =>
  ltt ((((24 : Int32)) * p2)) fun x63 =>
  ltt ((x63 + ((12 : Int32)))) fun x64 =>
  ltt ((((4 : Int32)) * s2.2.1)) fun x65 =>
  ltt ((x64 + x65)) fun x66 =>
  ltt ((x66 + s7.2.1)) fun x67 =>
  dr G 13 ((y62.1.2 b43 8)) fun b68 =>
  chk (¬ (x67 < 0 ∨ G.2.2 b68 ≤ x67.toNatClampNeg)) <|
  ltt (uI y62.1 b68 x67.toNatClampNeg y62.2) fun M69 =>
  bnd (if y62.2 ≤ ((0 : Int32)) then (some (s7.1)) else
  (some ((2 : Int32)))) fun (y70 : Int32) =>
  ltt (s7.2.1 + (1 : Int32)) fun x71 =>
  some (.inl (y70, x71, M69)))) : Option ((Int32 × Int32 × DD) ⊕ (Int32 × Int32 × DD)))) 1000000 (s2.1, (0 : Int32), s2.2.2)) fun (y6 : Int32 × Int32 × DD) =>
  bnd (FX6_turnFour G y6.2.2 a) fun y9 =>
  ltt ((((16 : Int32)) + s2.2.1)) fun x10 =>
  bnd (FX9_levelAt G y9 p2 x10) fun y11 =>
  bnd (itr (fun (s13 : Int32 × Int32 × DD) => ((if ((4 : Int32)) ≤ s13.2.1 then (some (.inr (s13.1, s13.2.1, s13.2.2))) else
  (dr G 13 ((s13.2.2.2 a 7)) fun b18 =>
  chk (¬ (s13.2.1 < 0 ∨ G.2.2 b18 ≤ s13.2.1.toNatClampNeg)) <|
  ltt (s13.2.2.1 b18 s13.2.1.toNatClampNeg) fun x19 =>
  bnd (FX6_normAt G s13.2.2 p3 ((0 : Int32)) ((0 : Int32))) fun y20 =>
  chk (¬ (y20.2 < 0 ∨ 18 ≤ y20.2.toNatClampNeg)) <|
  ltt ((sT 12).getD y20.2.toNatClampNeg 0) fun x21 =>
  bnd (FX6_roundingOf G y20.1 p3 p4) fun y22 =>
  ltt ((((2 : Int32)) * y22.2)) fun x23 =>
  ltt (p3 / ((6 : Int32))) fun x24 =>
  ltt ((((16 : Int32)) + x24)) fun x25 =>
  bnd (FX6_measured G y22.1 x19 x21 x23 x25) fun y26 =>
  dr G 9 p0 fun b27 =>
  ltt ((y11.2 + s13.2.1)) fun x28 =>
  dr G 13 ((y26.1.2 b27 9)) fun b29 =>
  chk (¬ (x28 < 0 ∨ G.2.2 b29 ≤ x28.toNatClampNeg)) <|
  ltt (uI y26.1 b29 x28.toNatClampNeg y26.2) fun M30 =>
  bnd (if y26.2 = ((0 : Int32)) then (some (s13.1)) else
  (bnd (if s13.1 = ((0 : Int32)) then (some ((1 : Int32))) else
  (some (s13.1))) fun (y34 : Int32) =>
  some (y34))) fun (y31 : Int32) =>
  ltt (s13.2.1 + (1 : Int32)) fun x32 =>
  some (.inl (y31, x32, M30)))) : Option ((Int32 × Int32 × DD) ⊕ (Int32 × Int32 × DD)))) 1000000 (y6.1, (0 : Int32), y11.1)) fun (y12 : Int32 × Int32 × DD) =>
  ltt (s2.2.1 + (1 : Int32)) fun x15 =>
  some (.inl (y12.1, x15, y12.2.2)))) : Option ((Int32 × Int32 × DD) ⊕ (Int32 × Int32 × DD)))) 1000000 ((0 : Int32), (1 : Int32), M)) fun (y1 : Int32 × Int32 × DD) =>
  some (y1.2.2, y1.1)
set_option maxHeartbeats 4000000 in
set_option maxRecDepth 100000 in
def FX6_measureLuma (G : GG) (M : DD) (a : Nat) (p0 : Option Nat) (p1 : Option Nat) (p2 : Int32) (p3 : Int32) (p4 : Int32) (p5 : Int32) : Option (DD × Int32) :=
  bnd (FX9_pieceX G M p3) fun y1 =>
  bnd (FX9_pieceY G y1.1 p3) fun y2 =>
  dr G 9 p0 fun b3 =>
  bnd (FX6_lumaAt G y2.1 ((y2.1.2 b3 0)) p2 y1.2 y2.2) fun y4 =>
  dr G 4 ((y4.1.2 b3 0)) fun b5 =>
  ltt (y4.1.1 b5 1) fun x6 =>
  ltt ((((16 : Int32)) * x6)) fun x7 =>
  ltt ((((16 : Int32)) * y2.2)) fun x8 =>
  ltt ((x8 + y1.2)) fun x9 =>
  bnd (FX6_turn G y4.1 a p1 y4.2 x7 x9 ((16 : Int32))) fun y10 =>
  bnd (FX9_levelAt G y10 p2 p3) fun y11 =>
  bnd (FX6_measure G y11.1 a ((y10.2 b3 9)) y11.2 ((0 : Int32)) p4 p5) fun y12 =>
  ltt ((((24 : Int32)) * p2)) fun x13 =>
  ltt ((x13 + p3)) fun x14 =>
  dr G 13 ((y12.1.2 b3 8)) fun b15 =>
  chk (¬ (x14 < 0 ∨ G.2.2 b15 ≤ x14.toNatClampNeg)) <|
  ltt (uI y12.1 b15 x14.toNatClampNeg y12.2) fun M16 =>
  some (M16, y12.2)
set_option maxHeartbeats 4000000 in
set_option maxRecDepth 100000 in
def FX6_measureSixteen (G : GG) (M : DD) (a : Nat) (p0 : Option Nat) (p1 : Option Nat) (p2 : Int32) (p3 : Int32) : Option (DD × Int32) :=
  bnd (itr (fun (s2 : Int32 × Int32 × DD) => ((if ((16 : Int32)) ≤ s2.2.1 then (some (.inr (s2.1, s2.2.1, s2.2.2))) else
  (bnd (FX9_pieceX G s2.2.2 s2.2.1) fun y34 =>
  bnd (FX9_pieceY G y34.1 s2.2.1) fun y35 =>
  dr G 9 p0 fun b36 =>
  bnd (FX6_lumaAt G y35.1 ((y35.1.2 b36 0)) p2 y34.2 y35.2) fun y37 =>
  dr G 4 ((y37.1.2 b36 0)) fun b38 =>
  ltt (y37.1.1 b38 1) fun x39 =>
  ltt ((((16 : Int32)) * x39)) fun x40 =>
  ltt ((((16 : Int32)) * y35.2)) fun x41 =>
  ltt ((x41 + y34.2)) fun x42 =>
  bnd (FX6_turn G y37.1 a p1 y37.2 x40 x42 ((16 : Int32))) fun y43 =>
  ltt (y34.2 / ((4 : Int32))) fun x44 =>
  ltt ((y35.2 + x44)) fun x45 =>
  dr G 13 ((y43.2 a 6)) fun b46 =>
  chk (¬ (((0 : Int32)) < 0 ∨ G.2.2 b46 ≤ ((0 : Int32)).toNatClampNeg)) <|
  ltt (y43.1 b46 ((0 : Int32)).toNatClampNeg) fun x47 =>
  dr G 13 ((y43.2 a 7)) fun b48 =>
  chk (¬ (x45 < 0 ∨ G.2.2 b48 ≤ x45.toNatClampNeg)) <|
  ltt (uI y43 b48 x45.toNatClampNeg x47) fun M49 =>
  bnd (FX9_levelAt G M49 p2 s2.2.1) fun y50 =>
  bnd (FX6_measure G y50.1 a ((M49.2 b36 9)) y50.2 ((1 : Int32)) p3 ((1 : Int32))) fun y51 =>
  ltt ((((24 : Int32)) * p2)) fun x52 =>
  ltt ((x52 + s2.2.1)) fun x53 =>
  dr G 13 ((y51.1.2 b36 8)) fun b54 =>
  chk (¬ (x53 < 0 ∨ G.2.2 b54 ≤ x53.toNatClampNeg)) <|
  ltt (uI y51.1 b54 x53.toNatClampNeg y51.2) fun M55 =>
  ltt ((s2.1 + y51.2)) fun x56 =>
  ltt (s2.2.1 + (1 : Int32)) fun x57 =>
  some (.inl (x56, x57, M55)))) : Option ((Int32 × Int32 × DD) ⊕ (Int32 × Int32 × DD)))) 1000000 ((0 : Int32), (0 : Int32), M)) fun (y1 : Int32 × Int32 × DD) =>
  bnd (FX6_turnEven G y1.2.2 a) fun y4 =>
  bnd (FX9_levelAt G y4 p2 ((16 : Int32))) fun y5 =>
  bnd (itr (fun (s7 : Int32 × DD) => ((if ((16 : Int32)) ≤ s7.1 then (some (.inr (s7.1, s7.2))) else
  (chk (¬ (s7.1 < 0 ∨ 16 ≤ s7.1.toNatClampNeg)) <|
  ltt ((sT 15).getD s7.1.toNatClampNeg 0) fun x13 =>
  ltt ((((4 : Int32)) * x13)) fun x14 =>
  chk (¬ (s7.1 < 0 ∨ 16 ≤ s7.1.toNatClampNeg)) <|
  ltt ((sT 14).getD s7.1.toNatClampNeg 0) fun x15 =>
  ltt ((x14 + x15)) fun x16 =>
  dr G 13 ((s7.2.2 a 7)) fun b17 =>
  chk (¬ (x16 < 0 ∨ G.2.2 b17 ≤ x16.toNatClampNeg)) <|
  ltt (s7.2.1 b17 x16.toNatClampNeg) fun x18 =>
  ltt (x18 / ((2 : Int32))) fun x19 =>
  dr G 9 p0 fun b20 =>
  ltt ((y5.2 + s7.1)) fun x21 =>
  bnd (FX6_normAt G s7.2 p3 ((0 : Int32)) ((0 : Int32))) fun y22 =>
  chk (¬ (y22.2 < 0 ∨ 18 ≤ y22.2.toNatClampNeg)) <|
  ltt ((sT 12).getD y22.2.toNatClampNeg 0) fun x23 =>
  bnd (FX6_roundingOf G y22.1 p3 ((1 : Int32))) fun y24 =>
  ltt ((((2 : Int32)) * y24.2)) fun x25 =>
  ltt (p3 / ((6 : Int32))) fun x26 =>
  ltt ((((16 : Int32)) + x26)) fun x27 =>
  bnd (FX6_measured G y24.1 x19 x23 x25 x27) fun y28 =>
  dr G 13 ((s7.2.2 b20 9)) fun b29 =>
  chk (¬ (x21 < 0 ∨ G.2.2 b29 ≤ x21.toNatClampNeg)) <|
  ltt (uI y28.1 b29 x21.toNatClampNeg y28.2) fun M30 =>
  ltt (s7.1 + (1 : Int32)) fun x31 =>
  some (.inl (x31, M30)))) : Option ((Int32 × DD) ⊕ (Int32 × DD)))) 1000000 ((0 : Int32), y5.1)) fun (y6 : Int32 × DD) =>
  bnd (if y1.1 ≤ ((0 : Int32)) then (some ((0 : Int32))) else
  (some ((1 : Int32)))) fun (y9 : Int32) =>
  chk (y9 = 0 ∨ y9 = 1) <|
  some (y6.2, y9)
set_option maxHeartbeats 4000000 in
set_option maxRecDepth 100000 in
def FX6_predictColours_ (G : GG) (M : DD) (a : Nat) (p0 : Option Nat) (p1 : Int32) (p2 : Int32) (p3 : Int32) : Option (DD) :=
  bnd (itr (fun (s2 : Int32 × DD) => ((if ((3 : Int32)) ≤ s2.1 then (some (.inr (s2.1, s2.2))) else
  (ltt ((((64 : Int32)) * s2.1)) fun x6 =>
  ltt ((((192 : Int32)) + x6)) fun x7 =>
  dr G 9 p0 fun b8 =>
  dr G 4 ((s2.2.2 b8 0)) fun b9 =>
  dr G 15 ((s2.2.2 b9 4)) fun b10 =>
  chk (¬ (s2.1 < 0 ∨ G.2.2 b10 ≤ s2.1.toNatClampNeg)) <|
  bnd (FX6_colourAt G s2.2 ((s2.2.2 b8 0)) p1 ((0 : Int32)) ((0 : Int32))) fun y11 =>
  dr G 4 ((y11.1.2 b8 0)) fun b12 =>
  ltt (y11.1.1 b12 1) fun x13 =>
  ltt ((((8 : Int32)) * x13)) fun x14 =>
  bnd (FX6_takeSides G y11.1 a ((s2.2.2 b10 s2.1.toNatClampNeg)) y11.2 x14 ((8 : Int32)) p3) fun y15 =>
  bnd (if p2 = ((3 : Int32)) then (bnd (FX6_fillPlane G y15 a x7 ((8 : Int32)) ((34 : Int32))) fun y67 =>
  some (y67)) else
  (bnd (itr (fun (s20 : Int32 × DD) => ((if ((64 : Int32)) ≤ s20.1 then (some (.inr (s20.1, s20.2))) else
  (ltt (s20.1 - s20.1 / ((8 : Int32)) * ((8 : Int32))) fun x51 =>
  ltt (s20.1 / ((8 : Int32))) fun x52 =>
  ltt ((x7 + s20.1)) fun x53 =>
  bnd (if p2 = ((1 : Int32)) then (ltt ((((10 : Int32)) + x52)) fun x64 =>
  dr G 13 ((s20.2.2 a 8)) fun b65 =>
  chk (¬ (x64 < 0 ∨ G.2.2 b65 ≤ x64.toNatClampNeg)) <|
  ltt (s20.2.1 b65 x64.toNatClampNeg) fun x66 =>
  some (x66)) else
  (bnd (if p2 = ((2 : Int32)) then (ltt ((((1 : Int32)) + x51)) fun x61 =>
  dr G 13 ((s20.2.2 a 8)) fun b62 =>
  chk (¬ (x61 < 0 ∨ G.2.2 b62 ≤ x61.toNatClampNeg)) <|
  ltt (s20.2.1 b62 x61.toNatClampNeg) fun x63 =>
  some (x63)) else
  (some ((0 : Int32)))) fun (y59 : Int32) =>
  some (y59))) fun (y54 : Int32) =>
  dr G 13 ((s20.2.2 a 0)) fun b55 =>
  chk (¬ (x53 < 0 ∨ G.2.2 b55 ≤ x53.toNatClampNeg)) <|
  ltt (uI s20.2 b55 x53.toNatClampNeg y54) fun M56 =>
  ltt (s20.1 + (1 : Int32)) fun x57 =>
  some (.inl (x57, M56)))) : Option ((Int32 × DD) ⊕ (Int32 × DD)))) 1000000 ((0 : Int32), y15)) fun (y19 : Int32 × DD) =>
  bnd (itr (fun (s23 : Int32 × DD) => ((if ((4 : Int32)) ≤ s23.1 then (some (.inr (s23.1, s23.2))) else
  (if p2 = ((0 : Int32)) then (bnd (FX6_colourMean G s23.2 a s23.1 p3) fun y28 =>
  bnd (itr (fun (s30 : Int32 × DD) => ((if ((16 : Int32)) ≤ s30.1 then (some (.inr (s30.1, s30.2))) else
  (ltt (s23.1 / ((2 : Int32))) fun x35 =>
  ltt ((x35 * ((4 : Int32)))) fun x36 =>
  ltt (s30.1 / ((4 : Int32))) fun x37 =>
  ltt ((x36 + x37)) fun x38 =>
  ltt ((x38 * ((8 : Int32)))) fun x39 =>
  ltt ((x7 + x39)) fun x40 =>
  ltt (s23.1 - s23.1 / ((2 : Int32)) * ((2 : Int32))) fun x41 =>
  ltt ((x41 * ((4 : Int32)))) fun x42 =>
  ltt ((x40 + x42)) fun x43 =>
  ltt (s30.1 - s30.1 / ((4 : Int32)) * ((4 : Int32))) fun x44 =>
  ltt ((x43 + x44)) fun x45 =>
  dr G 13 ((s30.2.2 a 0)) fun b46 =>
  chk (¬ (x45 < 0 ∨ G.2.2 b46 ≤ x45.toNatClampNeg)) <|
  ltt (uI s30.2 b46 x45.toNatClampNeg y28.2) fun M47 =>
  ltt (s30.1 + (1 : Int32)) fun x48 =>
  some (.inl (x48, M47)))) : Option ((Int32 × DD) ⊕ (Int32 × DD)))) 1000000 ((0 : Int32), y28.1)) fun (y29 : Int32 × DD) =>
  ltt (s23.1 + (1 : Int32)) fun x32 =>
  some (.inl (x32, y29.2))) else
  (some (.inr (s23.1, s23.2))))) : Option ((Int32 × DD) ⊕ (Int32 × DD)))) 1000000 ((0 : Int32), y19.2)) fun (y22 : Int32 × DD) =>
  some (y22.2))) fun (y16 : DD) =>
  ltt (s2.1 + (1 : Int32)) fun x17 =>
  some (.inl (x17, y16)))) : Option ((Int32 × DD) ⊕ (Int32 × DD)))) 1000000 ((1 : Int32), M)) fun (y1 : Int32 × DD) =>
  some y1.2
set_option maxHeartbeats 4000000 in
set_option maxRecDepth 100000 in
def FX6_predictLuma (G : GG) (M : DD) (a : Nat) (p0 : Option Nat) (p1 : Int32) (p2 : Int32) (p3 : Int32) (p4 : Option Nat) (p5 : Int32) : Option (DD) :=
  ltt ((p1 &&& ((3 : Int32)))) fun x1 =>
  ltt ((p2 &&& ((3 : Int32)))) fun x2 =>
  ltt ((p1 >>> (((2 : Int32)) &&& 31))) fun x3 =>
  ltt ((x3 - ((2 : Int32)))) fun x4 =>
  ltt ((p2 >>> (((2 : Int32)) &&& 31))) fun x5 =>
  ltt ((x5 - ((2 : Int32)))) fun x6 =>
  ltt ((p3 + ((5 : Int32)))) fun x7 =>
  bnd (FX6_fillWindow G M a p0 x4 x6 x7) fun y8 =>
  bnd (if x2 = ((0 : Int32)) then (bnd (if x1 = ((2 : Int32)) then (bnd (if x1 = ((0 : Int32)) then (bnd (if x2 = ((2 : Int32)) then (some ((0 : Int32), y8)) else
  (bnd (if x2 = ((3 : Int32)) then (some ((1 : Int32))) else
  (some ((0 : Int32)))) fun (y110 : Int32) =>
  ltt ((((2 : Int32)) + y110)) fun x111 =>
  ltt ((x111 * ((21 : Int32)))) fun x112 =>
  ltt ((x112 + ((2 : Int32)))) fun x113 =>
  bnd (if x1 = ((3 : Int32)) then (some ((1 : Int32))) else
  (some ((0 : Int32)))) fun (y114 : Int32) =>
  ltt ((x113 + y114)) fun x115 =>
  bnd (itr (fun (s117 : Int32 × DD) => ((ltt ((p3 * p3)) fun x120 =>
  if x120 ≤ s117.1 then (some (.inr (s117.1, s117.2))) else
  (chk (¬ p3 = 0) <|
  ltt (s117.1 / p3) fun x122 =>
  ltt ((x122 * ((16 : Int32)))) fun x123 =>
  ltt ((p5 + x123)) fun x124 =>
  chk (¬ p3 = 0) <|
  ltt (s117.1 - s117.1 / p3 * p3) fun x125 =>
  ltt ((x124 + x125)) fun x126 =>
  chk (¬ p3 = 0) <|
  ltt (s117.1 / p3) fun x127 =>
  ltt ((x127 * ((21 : Int32)))) fun x128 =>
  ltt ((x115 + x128)) fun x129 =>
  chk (¬ p3 = 0) <|
  ltt (s117.1 - s117.1 / p3 * p3) fun x130 =>
  ltt ((x129 + x130)) fun x131 =>
  dr G 13 ((s117.2.2 a 3)) fun b132 =>
  chk (¬ (x131 < 0 ∨ G.2.2 b132 ≤ x131.toNatClampNeg)) <|
  ltt (s117.2.1 b132 x131.toNatClampNeg) fun x133 =>
  dr G 13 p4 fun b134 =>
  chk (¬ (x126 < 0 ∨ G.2.2 b134 ≤ x126.toNatClampNeg)) <|
  ltt (uI s117.2 b134 x126.toNatClampNeg x133) fun M135 =>
  ltt (s117.1 + (1 : Int32)) fun x136 =>
  some (.inl (x136, M135)))) : Option ((Int32 × DD) ⊕ (Int32 × DD)))) 1000000 ((0 : Int32), y8)) fun (y116 : Int32 × DD) =>
  some ((1 : Int32), y116.2))) fun (y108 : Int32 × DD) =>
  some (y108.1, y108.2)) else
  (some ((0 : Int32), y8))) fun (y106 : Int32 × DD) =>
  some (y106.1, y106.2)) else
  (bnd (if x2 = ((3 : Int32)) then (some ((1 : Int32))) else
  (some ((0 : Int32)))) fun (y77 : Int32) =>
  ltt ((((2 : Int32)) + y77)) fun x78 =>
  ltt ((x78 * ((21 : Int32)))) fun x79 =>
  ltt ((x79 + ((2 : Int32)))) fun x80 =>
  bnd (if x1 = ((3 : Int32)) then (some ((1 : Int32))) else
  (some ((0 : Int32)))) fun (y81 : Int32) =>
  ltt ((x80 + y81)) fun x82 =>
  bnd (itr (fun (s84 : Int32 × DD) => ((ltt ((p3 * p3)) fun x87 =>
  if x87 ≤ s84.1 then (some (.inr (s84.1, s84.2))) else
  (chk (¬ p3 = 0) <|
  ltt (s84.1 / p3) fun x89 =>
  ltt ((x89 * ((16 : Int32)))) fun x90 =>
  ltt ((p5 + x90)) fun x91 =>
  chk (¬ p3 = 0) <|
  ltt (s84.1 - s84.1 / p3 * p3) fun x92 =>
  ltt ((x91 + x92)) fun x93 =>
  chk (¬ p3 = 0) <|
  ltt (s84.1 / p3) fun x94 =>
  ltt ((x94 * ((21 : Int32)))) fun x95 =>
  ltt ((x82 + x95)) fun x96 =>
  chk (¬ p3 = 0) <|
  ltt (s84.1 - s84.1 / p3 * p3) fun x97 =>
  ltt ((x96 + x97)) fun x98 =>
  dr G 13 ((s84.2.2 a 3)) fun b99 =>
  chk (¬ (x98 < 0 ∨ G.2.2 b99 ≤ x98.toNatClampNeg)) <|
  ltt (s84.2.1 b99 x98.toNatClampNeg) fun x100 =>
  dr G 13 p4 fun b101 =>
  chk (¬ (x93 < 0 ∨ G.2.2 b101 ≤ x93.toNatClampNeg)) <|
  ltt (uI s84.2 b101 x93.toNatClampNeg x100) fun M102 =>
  ltt (s84.1 + (1 : Int32)) fun x103 =>
  some (.inl (x103, M102)))) : Option ((Int32 × DD) ⊕ (Int32 × DD)))) 1000000 ((0 : Int32), y8)) fun (y83 : Int32 × DD) =>
  some ((1 : Int32), y83.2))) fun (y75 : Int32 × DD) =>
  some (y75.1, y75.2)) else
  (bnd (if x1 = ((0 : Int32)) then (bnd (if x2 = ((2 : Int32)) then (some ((0 : Int32), y8)) else
  (bnd (if x2 = ((3 : Int32)) then (some ((1 : Int32))) else
  (some ((0 : Int32)))) fun (y46 : Int32) =>
  ltt ((((2 : Int32)) + y46)) fun x47 =>
  ltt ((x47 * ((21 : Int32)))) fun x48 =>
  ltt ((x48 + ((2 : Int32)))) fun x49 =>
  bnd (if x1 = ((3 : Int32)) then (some ((1 : Int32))) else
  (some ((0 : Int32)))) fun (y50 : Int32) =>
  ltt ((x49 + y50)) fun x51 =>
  bnd (itr (fun (s53 : Int32 × DD) => ((ltt ((p3 * p3)) fun x56 =>
  if x56 ≤ s53.1 then (some (.inr (s53.1, s53.2))) else
  (chk (¬ p3 = 0) <|
  ltt (s53.1 / p3) fun x58 =>
  ltt ((x58 * ((16 : Int32)))) fun x59 =>
  ltt ((p5 + x59)) fun x60 =>
  chk (¬ p3 = 0) <|
  ltt (s53.1 - s53.1 / p3 * p3) fun x61 =>
  ltt ((x60 + x61)) fun x62 =>
  chk (¬ p3 = 0) <|
  ltt (s53.1 / p3) fun x63 =>
  ltt ((x63 * ((21 : Int32)))) fun x64 =>
  ltt ((x51 + x64)) fun x65 =>
  chk (¬ p3 = 0) <|
  ltt (s53.1 - s53.1 / p3 * p3) fun x66 =>
  ltt ((x65 + x66)) fun x67 =>
  dr G 13 ((s53.2.2 a 3)) fun b68 =>
  chk (¬ (x67 < 0 ∨ G.2.2 b68 ≤ x67.toNatClampNeg)) <|
  ltt (s53.2.1 b68 x67.toNatClampNeg) fun x69 =>
  dr G 13 p4 fun b70 =>
  chk (¬ (x62 < 0 ∨ G.2.2 b70 ≤ x62.toNatClampNeg)) <|
  ltt (uI s53.2 b70 x62.toNatClampNeg x69) fun M71 =>
  ltt (s53.1 + (1 : Int32)) fun x72 =>
  some (.inl (x72, M71)))) : Option ((Int32 × DD) ⊕ (Int32 × DD)))) 1000000 ((0 : Int32), y8)) fun (y52 : Int32 × DD) =>
  some ((1 : Int32), y52.2))) fun (y44 : Int32 × DD) =>
  some (y44.1, y44.2)) else
  (some ((0 : Int32), y8))) fun (y42 : Int32 × DD) =>
  some (y42.1, y42.2))) fun (y9 : Int32 × DD) =>
  bnd (if x1 = ((0 : Int32)) then (some (y9.1, y9.2)) else
  (bnd (if x2 = ((2 : Int32)) then (some (y9.1, y9.2)) else
  (bnd (if x2 = ((3 : Int32)) then (some ((1 : Int32))) else
  (some ((0 : Int32)))) fun (y37 : Int32) =>
  ltt ((((2 : Int32)) + y37)) fun x38 =>
  bnd (FX6_tapRows G y9.2 a p3 x38 p4 p5 y9.1) fun y39 =>
  some ((1 : Int32), y39))) fun (y35 : Int32 × DD) =>
  some (y35.1, y35.2))) fun (y10 : Int32 × DD) =>
  bnd (if x2 = ((0 : Int32)) then (some (y10.1, y10.2)) else
  (bnd (if x1 = ((2 : Int32)) then (some (y10.1, y10.2)) else
  (bnd (if x1 = ((3 : Int32)) then (some ((1 : Int32))) else
  (some ((0 : Int32)))) fun (y30 : Int32) =>
  ltt ((((2 : Int32)) + y30)) fun x31 =>
  bnd (FX6_tapColumns G y10.2 a p3 x31 p4 p5 y10.1) fun y32 =>
  some ((1 : Int32), y32))) fun (y28 : Int32 × DD) =>
  some (y28.1, y28.2))) fun (y11 : Int32 × DD) =>
  bnd (if x1 = ((2 : Int32)) then (bnd (if x2 = ((0 : Int32)) then (bnd (if x2 = ((2 : Int32)) then (bnd (if x1 = ((0 : Int32)) then (some (y11.2)) else
  (bnd (FX6_tapBoth G y11.2 a p3 p4 p5 y11.1) fun y26 =>
  some (y26))) fun (y24 : DD) =>
  some (y24)) else
  (some (y11.2))) fun (y22 : DD) =>
  some (y22)) else
  (bnd (FX6_tapBoth G y11.2 a p3 p4 p5 y11.1) fun y21 =>
  some (y21))) fun (y19 : DD) =>
  some (y19)) else
  (bnd (if x2 = ((2 : Int32)) then (bnd (if x1 = ((0 : Int32)) then (some (y11.2)) else
  (bnd (FX6_tapBoth G y11.2 a p3 p4 p5 y11.1) fun y18 =>
  some (y18))) fun (y16 : DD) =>
  some (y16)) else
  (some (y11.2))) fun (y14 : DD) =>
  some (y14))) fun (y12 : DD) =>
  some y12
set_option maxHeartbeats 4000000 in
set_option maxRecDepth 100000 in
def FX6_predictRegion (G : GG) (M : DD) (a : Nat) (p0 : Option Nat) (p1 : Int32) (p2 : Int32) (p3 : Int32) (p4 : Int32) : Option (DD) :=
  bnd (FX9_pieceX G M p2) fun y1 =>
  bnd (FX9_pieceY G y1.1 p2) fun y2 =>
  dr G 9 p0 fun b3 =>
  dr G 4 ((y2.1.2 b3 0)) fun b4 =>
  ltt (y2.1.1 b4 1) fun x5 =>
  chk (¬ x5 = 0) <|
  ltt (p1 - p1 / x5 * x5) fun x6 =>
  ltt ((((16 : Int32)) * x6)) fun x7 =>
  ltt ((x7 + y1.2)) fun x8 =>
  ltt (y2.1.1 b4 1) fun x9 =>
  chk (¬ x9 = 0) <|
  ltt (p1 / x9) fun x10 =>
  ltt ((((16 : Int32)) * x10)) fun x11 =>
  ltt ((x11 + y2.2)) fun x12 =>
  ltt ((((16 : Int32)) * y2.2)) fun x13 =>
  ltt ((x13 + y1.2)) fun x14 =>
  ltt ((((4 : Int32)) * y2.2)) fun x15 =>
  ltt ((((256 : Int32)) + x15)) fun x16 =>
  ltt (y1.2 / ((2 : Int32))) fun x17 =>
  ltt ((x16 + x17)) fun x18 =>
  bnd (itr (fun (s20 : Int32 × DD) => ((if ((2 : Int32)) ≤ s20.1 then (some (.inr (s20.1, s20.2))) else
  (ltt ((((3 : Int32)) * s20.1)) fun x41 =>
  dr G 13 ((s20.2.2 a 5)) fun b42 =>
  chk (¬ (x41 < 0 ∨ G.2.2 b42 ≤ x41.toNatClampNeg)) <|
  ltt (s20.2.1 b42 x41.toNatClampNeg) fun x43 =>
  bnd (if x43 < ((0 : Int32)) then (some (none)) else
  (bnd (if x43 ≤ ((8 : Int32)) then (ltt ((((9 : Int32)) * s20.1)) fun x70 =>
  ltt ((x70 + x43)) fun x71 =>
  dr G 14 ((s20.2.2 b3 3)) fun b72 =>
  chk (¬ (x71 < 0 ∨ G.2.2 b72 ≤ x71.toNatClampNeg)) <|
  some ((s20.2.2 b72 x71.toNatClampNeg))) else
  (some (none))) fun (y68 : Option Nat) =>
  some (y68))) fun (y44 : Option Nat) =>
  bnd (if y44 = none then (some (s20.2)) else
  (ltt ((((4 : Int32)) * x8)) fun x48 =>
  ltt ((((3 : Int32)) * s20.1)) fun x49 =>
  ltt ((x49 + ((1 : Int32)))) fun x50 =>
  chk (¬ (x50 < 0 ∨ G.2.2 b42 ≤ x50.toNatClampNeg)) <|
  ltt (s20.2.1 b42 x50.toNatClampNeg) fun x51 =>
  ltt ((x48 + x51)) fun x52 =>
  ltt ((((4 : Int32)) * x12)) fun x53 =>
  ltt ((((3 : Int32)) * s20.1)) fun x54 =>
  ltt ((x54 + ((2 : Int32)))) fun x55 =>
  chk (¬ (x55 < 0 ∨ G.2.2 b42 ≤ x55.toNatClampNeg)) <|
  ltt (s20.2.1 b42 x55.toNatClampNeg) fun x56 =>
  ltt ((x53 + x56)) fun x57 =>
  bnd (if s20.1 = ((0 : Int32)) then (some ((s20.2.2 a 1))) else
  (some ((s20.2.2 a 2)))) fun (y58 : Option Nat) =>
  bnd (FX6_predictLuma G s20.2 a y44 x52 x57 p3 y58 x14) fun y59 =>
  bnd (if p4 = ((0 : Int32)) then (some (y59)) else
  (ltt (p3 / ((2 : Int32))) fun x62 =>
  bnd (if s20.1 = ((0 : Int32)) then (some ((y59.2 a 1))) else
  (some ((y59.2 a 2)))) fun (y63 : Option Nat) =>
  bnd (FX6_predictColours G y59 a y44 x52 x57 x62 y63 x18) fun y64 =>
  some (y64))) fun (y60 : DD) =>
  some (y60))) fun (y45 : DD) =>
  ltt (s20.1 + (1 : Int32)) fun x46 =>
  some (.inl (x46, y45)))) : Option ((Int32 × DD) ⊕ (Int32 × DD)))) 1000000 ((0 : Int32), y2.1)) fun (y19 : Int32 × DD) =>
  bnd (itr (fun (s23 : Int32 × DD) => ((bnd (if p4 = ((0 : Int32)) then (some ((1 : Int32))) else
  (some ((3 : Int32)))) fun (y26 : Int32) =>
  if y26 ≤ s23.1 then (some (.inr (s23.1, s23.2))) else
  (bnd (FX6_chooseWeights G s23.2 a p0 s23.1) fun y28 =>
  bnd (if s23.1 = ((0 : Int32)) then (bnd (FX6_blend G y28.1 a y28.2 x14 ((16 : Int32)) p3) fun y37 =>
  some (y37)) else
  (ltt ((s23.1 - ((1 : Int32)))) fun x32 =>
  ltt ((((64 : Int32)) * x32)) fun x33 =>
  ltt ((x18 + x33)) fun x34 =>
  ltt (p3 / ((2 : Int32))) fun x35 =>
  bnd (FX6_blend G y28.1 a y28.2 x34 ((8 : Int32)) x35) fun y36 =>
  some (y36))) fun (y29 : DD) =>
  ltt (s23.1 + (1 : Int32)) fun x30 =>
  some (.inl (x30, y29)))) : Option ((Int32 × DD) ⊕ (Int32 × DD)))) 1000000 ((0 : Int32), y19.2)) fun (y22 : Int32 × DD) =>
  some y22.2
set_option maxHeartbeats 4000000 in
set_option maxRecDepth 100000 in
def FX6_predictSixteen (G : GG) (M : DD) (a : Nat) (p0 : Option Nat) (p1 : Int32) (p2 : Int32) (p3 : Int32) : Option (DD) :=
  dr G 9 p0 fun b2 =>
  dr G 4 ((M.2 b2 0)) fun b3 =>
  dr G 15 ((M.2 b3 4)) fun b4 =>
  chk (¬ (((0 : Int32)) < 0 ∨ G.2.2 b4 ≤ ((0 : Int32)).toNatClampNeg)) <|
  bnd (FX6_lumaAt G M ((M.2 b2 0)) p1 ((0 : Int32)) ((0 : Int32))) fun y5 =>
  dr G 4 ((y5.1.2 b2 0)) fun b6 =>
  ltt (y5.1.1 b6 1) fun x7 =>
  ltt ((((16 : Int32)) * x7)) fun x8 =>
  bnd (FX6_takeSides G y5.1 a ((M.2 b4 ((0 : Int32)).toNatClampNeg)) y5.2 x8 ((16 : Int32)) p3) fun y9 =>
  if p2 = ((3 : Int32)) then (bnd (FX6_fillPlane G y9 a ((0 : Int32)) ((16 : Int32)) ((5 : Int32))) fun y64 =>
  some y64) else
  (ltt ((p3 &&& ((1 : Int32)))) fun x11 =>
  bnd (if x11 = ((0 : Int32)) then (some ((0 : Int32))) else
  (some ((1 : Int32)))) fun (y12 : Int32) =>
  ltt ((p3 &&& ((2 : Int32)))) fun x13 =>
  bnd (if x13 = ((0 : Int32)) then (some ((0 : Int32))) else
  (some ((1 : Int32)))) fun (y14 : Int32) =>
  bnd (FX6_sumAround G y9 a ((1 : Int32)) ((16 : Int32))) fun y15 =>
  bnd (FX6_sumAround G y15.1 a ((18 : Int32)) ((16 : Int32))) fun y16 =>
  ltt ((y15.2 + y16.2)) fun x17 =>
  bnd (if y12 = ((0 : Int32)) then (bnd (if y14 = ((0 : Int32)) then (some ((128 : Int32))) else
  (bnd (if y12 = ((0 : Int32)) then (ltt ((x17 + ((8 : Int32)))) fun x54 =>
  ltt ((x54 >>> (((4 : Int32)) &&& 31))) fun x55 =>
  some (x55)) else
  (bnd (if y14 = ((0 : Int32)) then (ltt ((x17 + ((8 : Int32)))) fun x58 =>
  ltt ((x58 >>> (((4 : Int32)) &&& 31))) fun x59 =>
  some (x59)) else
  (ltt ((x17 + ((16 : Int32)))) fun x60 =>
  ltt ((x60 >>> (((5 : Int32)) &&& 31))) fun x61 =>
  some (x61))) fun (y56 : Int32) =>
  some (y56))) fun (y52 : Int32) =>
  some (y52))) fun (y50 : Int32) =>
  some (y50)) else
  (bnd (if y12 = ((0 : Int32)) then (ltt ((x17 + ((8 : Int32)))) fun x42 =>
  ltt ((x42 >>> (((4 : Int32)) &&& 31))) fun x43 =>
  some (x43)) else
  (bnd (if y14 = ((0 : Int32)) then (ltt ((x17 + ((8 : Int32)))) fun x46 =>
  ltt ((x46 >>> (((4 : Int32)) &&& 31))) fun x47 =>
  some (x47)) else
  (ltt ((x17 + ((16 : Int32)))) fun x48 =>
  ltt ((x48 >>> (((5 : Int32)) &&& 31))) fun x49 =>
  some (x49))) fun (y44 : Int32) =>
  some (y44))) fun (y40 : Int32) =>
  some (y40))) fun (y18 : Int32) =>
  bnd (itr (fun (s20 : Int32 × DD) => ((if ((256 : Int32)) ≤ s20.1 then (some (.inr (s20.1, s20.2))) else
  (bnd (if p2 = ((0 : Int32)) then (ltt (s20.1 - s20.1 / ((16 : Int32)) * ((16 : Int32))) fun x35 =>
  ltt ((((1 : Int32)) + x35)) fun x36 =>
  dr G 13 ((s20.2.2 a 8)) fun b37 =>
  chk (¬ (x36 < 0 ∨ G.2.2 b37 ≤ x36.toNatClampNeg)) <|
  ltt (s20.2.1 b37 x36.toNatClampNeg) fun x38 =>
  some (x38)) else
  (bnd (if p2 = ((1 : Int32)) then (ltt (s20.1 / ((16 : Int32))) fun x31 =>
  ltt ((((18 : Int32)) + x31)) fun x32 =>
  dr G 13 ((s20.2.2 a 8)) fun b33 =>
  chk (¬ (x32 < 0 ∨ G.2.2 b33 ≤ x32.toNatClampNeg)) <|
  ltt (s20.2.1 b33 x32.toNatClampNeg) fun x34 =>
  some (x34)) else
  (some (y18))) fun (y29 : Int32) =>
  some (y29))) fun (y24 : Int32) =>
  dr G 13 ((s20.2.2 a 0)) fun b25 =>
  chk (¬ (s20.1 < 0 ∨ G.2.2 b25 ≤ s20.1.toNatClampNeg)) <|
  ltt (uI s20.2 b25 s20.1.toNatClampNeg y24) fun M26 =>
  ltt (s20.1 + (1 : Int32)) fun x27 =>
  some (.inl (x27, M26)))) : Option ((Int32 × DD) ⊕ (Int32 × DD)))) 1000000 ((0 : Int32), y16.1)) fun (y19 : Int32 × DD) =>
  some y19.2)
set_option maxHeartbeats 4000000 in
set_option maxRecDepth 100000 in
def FX6_slant (G : GG) (M : DD) (a : Nat) (p0 : Int32) (p1 : Int32) (p2 : Int32) : Option (DD × Int32) :=
  ltt ((((2 : Int32)) * p0)) fun x1 =>
  ltt ((x1 - p1)) fun x2 =>
  ltt ((p1 >>> (((1 : Int32)) &&& 31))) fun x3 =>
  ltt ((p0 - x3)) fun x4 =>
  if x2 < ((0 : Int32)) then (bnd (if x2 ≤ ((0 : Int32)) then (bnd (if x2 = ((-1 : Int32)) then (some ((0 : Int32))) else
  (ltt ((((1 : Int32)) - p1)) fun x19 =>
  some (x19))) fun (y17 : Int32) =>
  some (y17)) else
  (some (x4))) fun (y6 : Int32) =>
  ltt ((y6 - ((1 : Int32)))) fun x7 =>
  ltt ((p2 * x7)) fun x8 =>
  ltt ((((4 : Int32)) + x8)) fun x9 =>
  ltt ((p2 * y6)) fun x10 =>
  ltt ((((4 : Int32)) + x10)) fun x11 =>
  ltt ((y6 + ((1 : Int32)))) fun x12 =>
  ltt ((p2 * x12)) fun x13 =>
  ltt ((((4 : Int32)) + x13)) fun x14 =>
  bnd (FX6_three G M a x9 x11 x14) fun y15 =>
  some (y15.1, y15.2)) else
  (ltt (x2 - x2 / ((2 : Int32)) * ((2 : Int32))) fun x20 =>
  if x20 = ((0 : Int32)) then (ltt ((p2 * x4)) fun x36 =>
  ltt ((((4 : Int32)) + x36)) fun x37 =>
  ltt ((x4 + ((1 : Int32)))) fun x38 =>
  ltt ((p2 * x38)) fun x39 =>
  ltt ((((4 : Int32)) + x39)) fun x40 =>
  bnd (FX6_two G M a x37 x40) fun y41 =>
  some (y41.1, y41.2)) else
  (bnd (if x2 ≤ ((0 : Int32)) then (bnd (if x2 = ((-1 : Int32)) then (some ((0 : Int32))) else
  (ltt ((((1 : Int32)) - p1)) fun x35 =>
  some (x35))) fun (y33 : Int32) =>
  some (y33)) else
  (some (x4))) fun (y22 : Int32) =>
  ltt ((y22 - ((1 : Int32)))) fun x23 =>
  ltt ((p2 * x23)) fun x24 =>
  ltt ((((4 : Int32)) + x24)) fun x25 =>
  ltt ((p2 * y22)) fun x26 =>
  ltt ((((4 : Int32)) + x26)) fun x27 =>
  ltt ((y22 + ((1 : Int32)))) fun x28 =>
  ltt ((p2 * x28)) fun x29 =>
  ltt ((((4 : Int32)) + x29)) fun x30 =>
  bnd (FX6_three G M a x25 x27 x30) fun y31 =>
  some (y31.1, y31.2)))
set_option maxHeartbeats 4000000 in
set_option maxRecDepth 100000 in
noncomputable def FX7_copyOut (G : GG) (M : DD) (a : Nat) (p0 : Option Nat) (p1 : Int32) : Option (NN × DD) :=
  bnd (FX7_wide (xt G []) M a p1 ((0 : Int32))) fun y1 =>
  bnd (FX7_high (xt G []) y1.1 a p1 ((0 : Int32))) fun y2 =>
  ltt ((y1.2 * y2.2)) fun x3 =>
  ltt ((x3 * ((3 : Int32)))) fun x4 =>
  ltt (x4 / ((2 : Int32))) fun x5 =>
  dr (xt G []) 15 ((y2.1.2 a 15)) fun b6 =>
  chk (¬ (p1 < 0 ∨ (xt G []).2.2 b6 ≤ p1.toNatClampNeg)) <|
  dr (xt G []) 13 ((y2.1.2 b6 p1.toNatClampNeg)) fun b7 =>
  ltt (Int32.ofNat ((xt G []).2.2 b7)) fun x8 =>
  bnd (if x5 ≤ x8 then (some ([], y2.1)) else
  (chk (¬ (p1 < 0 ∨ (xt G []).2.2 b6 ≤ p1.toNatClampNeg)) <|
  ltt (Int32.ofNat ((xt G []).2.2 b7)) fun x55 =>
  bnd (if x55 = ((0 : Int32)) then (some (x5)) else
  (some ((12288 : Int32)))) fun (y56 : Int32) =>
  chkP (Clo (xt G []) y2.1) <|
  chk (¬ y56 < 0 ∧ y56.toNatClampNeg * 4 ≤ 536870912) <|
  chk (okd (xt G []) p0 = true) <|
  ltt ((xt G []).1) fun c59 =>
  app [(13, y56.toNatClampNeg)] <|
  ltt ([] ++ [(13, y56.toNatClampNeg)]) fun L61 =>
  ltt (rO y2.1 c59) fun M62 =>
  chk (¬ (p1 < 0 ∨ (xt G L61).2.2 b6 ≤ p1.toNatClampNeg)) <|
  ltt (uP M62 b6 p1.toNatClampNeg (some c59)) fun M65 =>
  some ([], M65))) fun (y9 : NN × DD) =>
  app y9.1 <|
  ltt ([] ++ y9.1) fun L11 =>
  bnd (itr (fun (s14 : Int32 × Int32 × DD) => ((if ((3 : Int32)) ≤ s14.2.1 then (some (.inr (s14.1, s14.2.1, s14.2.2))) else
  (bnd (if s14.2.1 = ((0 : Int32)) then (some ((2 : Int32))) else
  (some ((1 : Int32)))) fun (y18 : Int32) =>
  bnd (FX7_wide (xt G L11) s14.2.2 a p1 s14.2.1) fun y19 =>
  dr (xt G L11) 4 p0 fun b20 =>
  bnd (FX4_wide (xt G L11) y19.1 b20 s14.2.1) fun y21 =>
  dr (xt G L11) 13 ((y21.1.2 b20 3)) fun b22 =>
  chk (¬ (((2 : Int32)) < 0 ∨ (xt G L11).2.2 b22 ≤ ((2 : Int32)).toNatClampNeg)) <|
  ltt (y21.1.1 b22 ((2 : Int32)).toNatClampNeg) fun x23 =>
  ltt ((y18 * x23)) fun x24 =>
  ltt ((x24 * y21.2)) fun x25 =>
  chk (¬ (((0 : Int32)) < 0 ∨ (xt G L11).2.2 b22 ≤ ((0 : Int32)).toNatClampNeg)) <|
  ltt (y21.1.1 b22 ((0 : Int32)).toNatClampNeg) fun x26 =>
  ltt ((y18 * x26)) fun x27 =>
  ltt ((x25 + x27)) fun x28 =>
  bnd (itr (fun (s30 : Int32 × Int32 × Int32 × DD) => ((bnd (FX7_high (xt G L11) s30.2.2.2 a p1 s14.2.1) fun y34 =>
  if y34.2 ≤ s30.2.2.1 then (some (.inr (s30.1, s30.2.1, s30.2.2.1, y34.1))) else
  (ltt ((s30.2.1 + y19.2)) fun x36 =>
  dr (xt G L11) 15 ((y34.1.2 b20 4)) fun b37 =>
  chk (¬ (s14.2.1 < 0 ∨ (xt G L11).2.2 b37 ≤ s14.2.1.toNatClampNeg)) <|
  dr (xt G L11) 13 ((y34.1.2 b37 s14.2.1.toNatClampNeg)) fun b38 =>
  ltt (Int32.ofNat ((xt G L11).2.2 b38)) fun x39 =>
  bnd (if x39 < x36 then (some (y34.1)) else
  (ltt ((s30.1 + y19.2)) fun x45 =>
  dr (xt G L11) 15 ((y34.1.2 a 15)) fun b46 =>
  chk (¬ (p1 < 0 ∨ (xt G L11).2.2 b46 ≤ p1.toNatClampNeg)) <|
  dr (xt G L11) 13 ((y34.1.2 b46 p1.toNatClampNeg)) fun b47 =>
  ltt (Int32.ofNat ((xt G L11).2.2 b47)) fun x48 =>
  bnd (if x48 < x45 then (some (y34.1)) else
  (chk (¬ (s14.2.1 < 0 ∨ (xt G L11).2.2 b37 ≤ s14.2.1.toNatClampNeg)) <|
  chk (¬ (p1 < 0 ∨ (xt G L11).2.2 b46 ≤ p1.toNatClampNeg)) <|
  chk (¬ s30.2.1 < 0 ∧ ¬ s30.1 < 0 ∧ ¬ y19.2 < 0 ∧ s30.2.1.toNatClampNeg + y19.2.toNatClampNeg ≤ (xt G L11).2.2 b38 ∧ s30.1.toNatClampNeg + y19.2.toNatClampNeg ≤ (xt G L11).2.2 b47) <|
  ltt (rI y34.1 b47 (va_cpy (y34.1.1 b38) (y34.1.1 b47) s30.2.1.toNatClampNeg s30.1.toNatClampNeg y19.2.toNatClampNeg)) fun M51 =>
  some (M51))) fun (y49 : DD) =>
  some (y49))) fun (y40 : DD) =>
  ltt ((s30.2.1 + y21.2)) fun x41 =>
  ltt ((s30.1 + y19.2)) fun x42 =>
  ltt (s30.2.2.1 + (1 : Int32)) fun x43 =>
  some (.inl (x42, x41, x43, y40)))) : Option ((Int32 × Int32 × Int32 × DD) ⊕ (Int32 × Int32 × Int32 × DD)))) 1000000 (s14.1, x28, (0 : Int32), y21.1)) fun (y29 : Int32 × Int32 × Int32 × DD) =>
  ltt (s14.2.1 + (1 : Int32)) fun x32 =>
  some (.inl (y29.1, x32, y29.2.2.2)))) : Option ((Int32 × Int32 × DD) ⊕ (Int32 × Int32 × DD)))) 1000000 ((0 : Int32), (0 : Int32), y9.2)) fun (y13 : Int32 × Int32 × DD) =>
  some ([], y13.2.2)
set_option maxHeartbeats 4000000 in
set_option maxRecDepth 100000 in
noncomputable def FX7_fresh (G : GG) (M : DD) (a : Nat) (p0 : Int32) (p1 : Int32) : Option (NN × DD × Option Nat) :=
  bnd (itrA (fun (s2 : NN × Int32 × Int32 × DD) => ((dr (xt G s2.1) 14 ((s2.2.2.2.2 a 0)) fun b24 =>
  ltt (Int32.ofNat ((xt G s2.1).2.2 b24)) fun x25 =>
  if x25 ≤ s2.2.2.1 then (some ([], .inr ((s2.2.1, s2.2.2.1, s2.2.2.2)))) else
  (chk (¬ (s2.2.2.1 < 0 ∨ (xt G s2.1).2.2 b24 ≤ s2.2.2.1.toNatClampNeg)) <|
  bnd (if ((s2.2.2.2.2 b24 s2.2.2.1.toNatClampNeg)) = none then (chkP (Clo (xt G s2.1) s2.2.2.2) <|
  chk (okd (xt G s2.1) ((s2.2.2.2.2 a 0)) = true) <|
  ltt ((xt G s2.1).1) fun c39 =>
  app [(4, 0)] <|
  ltt (s2.1 ++ [(4, 0)]) fun L41 =>
  ltt (rO s2.2.2.2 c39) fun M42 =>
  chk (okd (xt G L41) ((s2.2.2.2.2 a 0)) = true) <|
  bnd (FX4_init (xt G L41) M42 c39) fun y45 =>
  app y45.1 <|
  ltt (L41 ++ y45.1) fun L48 =>
  chk (¬ (s2.2.2.1 < 0 ∨ (xt G L48).2.2 b24 ≤ s2.2.2.1.toNatClampNeg)) <|
  chk (okr (xt G L48) 4 (some c39) = true) <|
  ltt (uP y45.2 b24 s2.2.2.1.toNatClampNeg (some c39)) fun M51 =>
  some ([], M51)) else
  (some ([], s2.2.2.2))) fun (y27 : NN × DD) =>
  app y27.1 <|
  ltt (s2.1 ++ y27.1) fun L29 =>
  dr (xt G L29) 14 ((y27.2.2 a 0)) fun b31 =>
  chk (¬ (s2.2.2.1 < 0 ∨ (xt G L29).2.2 b31 ≤ s2.2.2.1.toNatClampNeg)) <|
  bnd (FX7_isNeeded (xt G L29) y27.2 a ((y27.2.2 b31 s2.2.2.1.toNatClampNeg))) fun y32 =>
  if y32.2 = ((0 : Int32)) then (some ([], .inr ((s2.2.2.1, s2.2.2.1, y32.1)))) else
  (ltt (s2.2.2.1 + (1 : Int32)) fun x34 =>
  some ([], .inl (L29, (s2.2.1, x34, y32.1)))))) : Option (NN × ((NN × Int32 × Int32 × DD) ⊕ (Int32 × Int32 × DD))))) 1000000 ([], ((0 : Int32), (0 : Int32), M))) fun (y1 : NN × Int32 × Int32 × DD) =>
  app y1.1 <|
  ltt ([] ++ y1.1) fun L4 =>
  ltt (y1.2.2.2.1 a 1) fun x6 =>
  ltt ((x6 + ((1 : Int32)))) fun x7 =>
  ltt (uI y1.2.2.2 a 1 x7) fun M8 =>
  dr (xt G L4) 14 ((M8.2 a 0)) fun b9 =>
  chk (¬ (y1.2.1 < 0 ∨ (xt G L4).2.2 b9 ≤ y1.2.1.toNatClampNeg)) <|
  ltt (M8.1 a 1) fun x10 =>
  dr (xt G L4) 4 ((M8.2 b9 y1.2.1.toNatClampNeg)) fun b11 =>
  bnd (FX4_become (xt G L4) M8 b11 x10 p0 p1) fun y12 =>
  app y12.1 <|
  ltt (L4 ++ y12.1) fun L14 =>
  dr (xt G L14) 14 ((y12.2.2 a 0)) fun b17 =>
  chk (¬ (y1.2.1 < 0 ∨ (xt G L14).2.2 b17 ≤ y1.2.1.toNatClampNeg)) <|
  dr (xt G L14) 4 ((y12.2.2 b17 y1.2.1.toNatClampNeg)) fun b18 =>
  some ([], (y12.2, some b18))
set_option maxHeartbeats 4000000 in
set_option maxRecDepth 100000 in
def FX7_gather (G : GG) (M : DD) (a : Nat) (p0 : Option Nat) (p1 : Int32) (p2 : Int32) (p3 : Int32) (p4 : Int32) : Option (DD × Int32) :=
  dr G 9 p0 fun b2 =>
  bnd (itr (fun (s4 : Int32 × Int32 × DD) => ((ltt (s4.2.2.1 a 3) fun x7 =>
  if x7 ≤ s4.2.1 then (some (.inr (s4.1, s4.2.1, s4.2.2))) else
  (dr G 14 ((s4.2.2.2 a 2)) fun b9 =>
  chk (¬ (s4.2.1 < 0 ∨ G.2.2 b9 ≤ s4.2.1.toNatClampNeg)) <|
  bnd (if ((8 : Int32)) < s4.1 then (some (s4.1, s4.2.2)) else
  (bnd (FX7_belongs G s4.2.2 ((s4.2.2.2 b9 s4.2.1.toNatClampNeg)) ((M.2 b2 0)) p3) fun y13 =>
  bnd (if y13.2 = ((0 : Int32)) then (some (s4.1, y13.1)) else
  (bnd (FX7_keyOf G y13.1 ((s4.2.2.2 b9 s4.2.1.toNatClampNeg)) ((M.2 b2 0)) p3 p4) fun y16 =>
  ltt ((p1 + s4.1)) fun x17 =>
  bnd (itr (fun (s19 : Int32 × DD) => ((ltt ((p1 + p2)) fun x25 =>
  if s19.1 ≤ x25 then (some (.inr (s19.1, s19.2))) else
  (ltt ((s19.1 - ((1 : Int32)))) fun x27 =>
  dr G 14 ((M.2 b2 3)) fun b28 =>
  chk (¬ (x27 < 0 ∨ G.2.2 b28 ≤ x27.toNatClampNeg)) <|
  bnd (FX7_keyOf G s19.2 ((s19.2.2 b28 x27.toNatClampNeg)) ((M.2 b2 0)) p3 p4) fun y29 =>
  ltt (lg_cmp y29.2 y16.2) fun x30 =>
  if x30 ≤ ((0 : Int32)) then (some (.inr (s19.1, y29.1))) else
  (ltt ((s19.1 - ((1 : Int32)))) fun x32 =>
  chk (¬ (x32 < 0 ∨ G.2.2 b28 ≤ x32.toNatClampNeg)) <|
  chk (¬ (s19.1 < 0 ∨ G.2.2 b28 ≤ s19.1.toNatClampNeg)) <|
  chk (okr G 4 ((y29.1.2 b28 x32.toNatClampNeg)) = true) <|
  ltt (uP y29.1 b28 s19.1.toNatClampNeg ((y29.1.2 b28 x32.toNatClampNeg))) fun M33 =>
  ltt (s19.1 + (-1 : Int32)) fun x34 =>
  some (.inl (x34, M33))))) : Option ((Int32 × DD) ⊕ (Int32 × DD)))) 1000000 (x17, y16.1)) fun (y18 : Int32 × DD) =>
  dr G 14 ((M.2 b2 3)) fun b21 =>
  chk (¬ (y18.1 < 0 ∨ G.2.2 b21 ≤ y18.1.toNatClampNeg)) <|
  chk (okr G 4 ((s4.2.2.2 b9 s4.2.1.toNatClampNeg)) = true) <|
  ltt (uP y18.2 b21 y18.1.toNatClampNeg ((s4.2.2.2 b9 s4.2.1.toNatClampNeg))) fun M22 =>
  ltt (s4.1 + (1 : Int32)) fun x23 =>
  some (x23, M22))) fun (y14 : Int32 × DD) =>
  some (y14.1, y14.2))) fun (y10 : Int32 × DD) =>
  ltt (s4.2.1 + (1 : Int32)) fun x11 =>
  some (.inl (y10.1, x11, y10.2)))) : Option ((Int32 × Int32 × DD) ⊕ (Int32 × Int32 × DD)))) 1000000 (p2, (0 : Int32), M)) fun (y3 : Int32 × Int32 × DD) =>
  some (y3.2.2, y3.1)
set_option maxHeartbeats 4000000 in
set_option maxRecDepth 100000 in
def FX7_makeLists (G : GG) (M : DD) (a : Nat) (p0 : Option Nat) (p1 : Int32) : Option (DD) :=
  dr G 9 p0 fun b2 =>
  dr G 3 ((M.2 b2 1)) fun b3 =>
  bnd (itr (fun (s5 : Int32 × DD) => ((dr G 14 ((M.2 b2 3)) fun b42 =>
  ltt (Int32.ofNat (G.2.2 b42)) fun x43 =>
  if x43 ≤ s5.1 then (some (.inr (s5.1, s5.2))) else
  (chk (¬ (s5.1 < 0 ∨ G.2.2 b42 ≤ s5.1.toNatClampNeg)) <|
  chk (okr G 4 none = true) <|
  ltt (uP s5.2 b42 s5.1.toNatClampNeg none) fun M45 =>
  ltt (s5.1 + (1 : Int32)) fun x46 =>
  some (.inl (x46, M45)))) : Option ((Int32 × DD) ⊕ (Int32 × DD)))) 1000000 ((0 : Int32), M)) fun (y4 : Int32 × DD) =>
  dr G 13 ((M.2 b3 0)) fun b7 =>
  chk (¬ (((1 : Int32)) < 0 ∨ G.2.2 b7 ≤ ((1 : Int32)).toNatClampNeg)) <|
  ltt (y4.2.1 b7 ((1 : Int32)).toNatClampNeg) fun x8 =>
  bnd (if x8 = ((0 : Int32)) then (bnd (FX7_gather G y4.2 a p0 ((0 : Int32)) ((0 : Int32)) ((0 : Int32)) p1) fun y39 =>
  bnd (FX7_gather G y39.1 a p0 ((0 : Int32)) y39.2 ((3 : Int32)) p1) fun y40 =>
  some (y39.2, y40.1)) else
  (chk (¬ (((1 : Int32)) < 0 ∨ G.2.2 b7 ≤ ((1 : Int32)).toNatClampNeg)) <|
  ltt (y4.2.1 b7 ((1 : Int32)).toNatClampNeg) fun x29 =>
  bnd (if x29 = ((1 : Int32)) then (bnd (FX7_gather G y4.2 a p0 ((0 : Int32)) ((0 : Int32)) ((1 : Int32)) p1) fun y32 =>
  bnd (FX7_gather G y32.1 a p0 ((0 : Int32)) y32.2 ((2 : Int32)) p1) fun y33 =>
  bnd (FX7_gather G y33.1 a p0 ((0 : Int32)) y33.2 ((3 : Int32)) p1) fun y34 =>
  bnd (FX7_gather G y34.1 a p0 ((9 : Int32)) ((0 : Int32)) ((2 : Int32)) p1) fun y35 =>
  bnd (FX7_gather G y35.1 a p0 ((9 : Int32)) y35.2 ((1 : Int32)) p1) fun y36 =>
  bnd (FX7_gather G y36.1 a p0 ((9 : Int32)) y36.2 ((3 : Int32)) p1) fun y37 =>
  bnd (FX7_tellApart G y37.1 ((M.2 b2 3)) y37.2) fun y38 =>
  some (y37.2, y38)) else
  (some (y4.1, y4.2))) fun (y30 : Int32 × DD) =>
  some (y30.1, y30.2))) fun (y9 : Int32 × DD) =>
  bnd (itr (fun (s11 : Int32 × DD) => ((if ((9 : Int32)) ≤ s11.1 then (some (.inr (s11.1, s11.2))) else
  (chk (¬ (((9 : Int32)) < 0 ∨ G.2.2 b7 ≤ ((9 : Int32)).toNatClampNeg)) <|
  ltt (s11.2.1 b7 ((9 : Int32)).toNatClampNeg) fun x15 =>
  bnd (if x15 ≤ s11.1 then (some (none)) else
  (dr G 14 ((M.2 b2 3)) fun b27 =>
  chk (¬ (s11.1 < 0 ∨ G.2.2 b27 ≤ s11.1.toNatClampNeg)) <|
  some ((s11.2.2 b27 s11.1.toNatClampNeg)))) fun (y16 : Option Nat) =>
  dr G 14 ((M.2 b2 3)) fun b17 =>
  chk (¬ (s11.1 < 0 ∨ G.2.2 b17 ≤ s11.1.toNatClampNeg)) <|
  chk (okr G 4 y16 = true) <|
  ltt (uP s11.2 b17 s11.1.toNatClampNeg y16) fun M18 =>
  ltt ((((9 : Int32)) + s11.1)) fun x19 =>
  chk (¬ (((10 : Int32)) < 0 ∨ G.2.2 b7 ≤ ((10 : Int32)).toNatClampNeg)) <|
  ltt (M18.1 b7 ((10 : Int32)).toNatClampNeg) fun x20 =>
  bnd (if x20 ≤ s11.1 then (some (none)) else
  (ltt ((((9 : Int32)) + s11.1)) fun x25 =>
  chk (¬ (x25 < 0 ∨ G.2.2 b17 ≤ x25.toNatClampNeg)) <|
  some ((M18.2 b17 x25.toNatClampNeg)))) fun (y21 : Option Nat) =>
  chk (¬ (x19 < 0 ∨ G.2.2 b17 ≤ x19.toNatClampNeg)) <|
  chk (okr G 4 y21 = true) <|
  ltt (uP M18 b17 x19.toNatClampNeg y21) fun M22 =>
  ltt (s11.1 + (1 : Int32)) fun x23 =>
  some (.inl (x23, M22)))) : Option ((Int32 × DD) ⊕ (Int32 × DD)))) 1000000 ((0 : Int32), y9.2)) fun (y10 : Int32 × DD) =>
  some y10.2
set_option maxHeartbeats 4000000 in
set_option maxRecDepth 100000 in
def FX7_mark (G : GG) (M : DD) (a : Nat) (p0 : Option Nat) (p1 : Option Nat) (p2 : Int32) (p3 : Int32) : Option (DD × Int32) :=
  dr G 3 p1 fun b2 =>
  bnd (FX3_isOwn G M b2) fun y3 =>
  bnd (if y3.2 = ((0 : Int32)) then (dr G 13 ((y3.1.2 b2 0)) fun b50 =>
  chk (¬ (((24 : Int32)) < 0 ∨ G.2.2 b50 ≤ ((24 : Int32)).toNatClampNeg)) <|
  ltt (y3.1.1 b50 ((24 : Int32)).toNatClampNeg) fun x51 =>
  bnd (if x51 = ((0 : Int32)) then (dr G 4 p0 fun b54 =>
  ltt (y3.1.1 b54 8) fun x55 =>
  bnd (FX7_slide G y3.1 a x55 p2 p3) fun y56 =>
  some (y56)) else
  (some (y3.1))) fun (y52 : DD) =>
  some (y52)) else
  (bnd (FX7_releaseAll G y3.1 a) fun y57 =>
  dr G 13 ((y57.2 b2 0)) fun b58 =>
  chk (¬ (((20 : Int32)) < 0 ∨ G.2.2 b58 ≤ ((20 : Int32)).toNatClampNeg)) <|
  ltt (y57.1 b58 ((20 : Int32)).toNatClampNeg) fun x59 =>
  ltt (uI y57 a 4 x59) fun M60 =>
  dr G 13 ((M60.2 b2 0)) fun b61 =>
  chk (¬ (((20 : Int32)) < 0 ∨ G.2.2 b61 ≤ ((20 : Int32)).toNatClampNeg)) <|
  ltt (M60.1 b61 ((20 : Int32)).toNatClampNeg) fun x62 =>
  bnd (if x62 = ((1 : Int32)) then (dr G 4 p0 fun b65 =>
  ltt (uI M60 b65 10 ((2 : Int32))) fun M66 =>
  ltt (uI M66 b65 11 ((0 : Int32))) fun M67 =>
  some (M67)) else
  (some (M60))) fun (y63 : DD) =>
  some (y63))) fun (y4 : DD) =>
  bnd (itr (fun (s6 : Int32 × DD) => ((dr G 13 ((s6.2.2 b2 0)) fun b31 =>
  chk (¬ (((24 : Int32)) < 0 ∨ G.2.2 b31 ≤ ((24 : Int32)).toNatClampNeg)) <|
  ltt (s6.2.1 b31 ((24 : Int32)).toNatClampNeg) fun x32 =>
  if x32 ≤ ((0 : Int32)) then (some (.inr (s6.1, s6.2))) else
  (bnd (FX3_isOwn G s6.2 b2) fun y34 =>
  if y34.2 = ((0 : Int32)) then (ltt ((((3 : Int32)) * ((0 : Int32)))) fun x36 =>
  dr G 13 ((y34.1.2 b2 2)) fun b37 =>
  chk (¬ (x36 < 0 ∨ G.2.2 b37 ≤ x36.toNatClampNeg)) <|
  ltt (y34.1.1 b37 x36.toNatClampNeg) fun x38 =>
  bnd (if s6.1 = ((0 : Int32)) then (bnd (if x38 = ((5 : Int32)) then (some ((1 : Int32))) else
  (some ((0 : Int32)))) fun (y47 : Int32) =>
  some (y47)) else
  (some ((1 : Int32)))) fun (y39 : Int32) =>
  ltt ((((3 : Int32)) * ((0 : Int32)))) fun x40 =>
  ltt ((x40 + ((1 : Int32)))) fun x41 =>
  chk (¬ (x41 < 0 ∨ G.2.2 b37 ≤ x41.toNatClampNeg)) <|
  ltt (y34.1.1 b37 x41.toNatClampNeg) fun x42 =>
  ltt ((((3 : Int32)) * ((0 : Int32)))) fun x43 =>
  ltt ((x43 + ((2 : Int32)))) fun x44 =>
  chk (¬ (x44 < 0 ∨ G.2.2 b37 ≤ x44.toNatClampNeg)) <|
  ltt (y34.1.1 b37 x44.toNatClampNeg) fun x45 =>
  none) else
  (some (.inr (s6.1, y34.1))))) : Option ((Int32 × DD) ⊕ (Int32 × DD)))) 1000000 ((0 : Int32), y4)) fun (y5 : Int32 × DD) =>
  dr G 4 p0 fun b8 =>
  ltt (y5.2.1 b8 10) fun x9 =>
  bnd (if x9 = ((2 : Int32)) then (some (y5.2)) else
  (ltt (uI y5.2 b8 10 ((1 : Int32))) fun M29 =>
  some (M29))) fun (y10 : DD) =>
  bnd (itr (fun (s12 : Int32 × DD) => ((if ((6 : Int32)) ≤ s12.1 then (some (.inr (s12.1, s12.2))) else
  (bnd (FX7_references G s12.2 a) fun y16 =>
  ltt ((y16.2 + ((1 : Int32)))) fun x17 =>
  if x17 ≤ p3 then (some (.inr (s12.1, y16.1))) else
  (ltt (y16.1.1 b8 8) fun x19 =>
  bnd (FX7_leastShort G y16.1 a x19 p2) fun y20 =>
  bnd (if y20.2 = none then (bnd (FX7_leastLong G y20.1 a) fun y27 =>
  some (y27.2, y27.1)) else
  (some (y20.2, y20.1))) fun (y21 : Option Nat × DD) =>
  bnd (if y21.1 = none then (some (y21.2)) else
  (bnd (FX7_release G y21.2 y21.1) fun y25 =>
  some (y25))) fun (y22 : DD) =>
  ltt (s12.1 + (1 : Int32)) fun x23 =>
  some (.inl (x23, y22))))) : Option ((Int32 × DD) ⊕ (Int32 × DD)))) 1000000 ((0 : Int32), y10)) fun (y11 : Int32 × DD) =>
  chk (y5.1 = 0 ∨ y5.1 = 1) <|
  some (y11.2, y5.1)
set_option maxHeartbeats 4000000 in
set_option maxRecDepth 100000 in
def FX7_planeAt (G : GG) (M : DD) (a : Nat) (p0 : Int32) (p1 : Int32) : Option (DD × Int32) :=
  bnd (FX7_wide G M a p0 ((0 : Int32))) fun y1 =>
  bnd (FX7_high G y1.1 a p0 ((0 : Int32))) fun y2 =>
  ltt ((y1.2 * y2.2)) fun x3 =>
  bnd (if p1 = ((0 : Int32)) then (some ((0 : Int32))) else
  (bnd (if p1 = ((1 : Int32)) then (some (x3)) else
  (ltt (x3 / ((4 : Int32))) fun x8 =>
  ltt ((x3 + x8)) fun x9 =>
  some (x9))) fun (y6 : Int32) =>
  some (y6))) fun (y4 : Int32) =>
  some (y2.1, y4)
set_option maxHeartbeats 4000000 in
set_option maxRecDepth 100000 in
noncomputable def FX7_putOut (G : GG) (M : DD) (a : Nat) (p0 : Option Nat) : Option (NN × DD) :=
  dr (xt G []) 4 p0 fun b2 =>
  chk (((0 : Int32)) = 0 ∨ ((0 : Int32)) = 1) <|
  ltt (uI M b2 12 ((0 : Int32))) fun M3 =>
  ltt (M3.1 a 14) fun x4 =>
  bnd (if ((40 : Int32)) ≤ x4 then (some ([], M3)) else
  (ltt (M3.1 a 14) fun x14 =>
  ltt ((((7 : Int32)) * x14)) fun x15 =>
  bnd (FX7_noteFacts (xt G []) M3 a p0 x15) fun y16 =>
  ltt (y16.1 a 14) fun x17 =>
  bnd (FX7_copyOut (xt G []) y16 a p0 x17) fun y18 =>
  app y18.1 <|
  ltt ([] ++ y18.1) fun L20 =>
  some ([], y18.2))) fun (y5 : NN × DD) =>
  app y5.1 <|
  ltt ([] ++ y5.1) fun L7 =>
  ltt (y5.2.1 a 14) fun x9 =>
  ltt ((x9 + ((1 : Int32)))) fun x10 =>
  ltt (uI y5.2 a 14 x10) fun M11 =>
  some ([], M11)
set_option maxHeartbeats 4000000 in
set_option maxRecDepth 100000 in
noncomputable def FX7_putOutAll (G : GG) (M : DD) (a : Nat)  : Option (NN × DD) :=
  bnd (itrA (fun (s2 : NN × Int32 × DD) => ((if ((6 : Int32)) ≤ s2.2.1 then (some ([], .inr ((s2.2.1, s2.2.2)))) else
  (bnd (FX7_nextOut (xt G s2.1) s2.2.2 a) fun y13 =>
  bnd (if y13.2 = none then (some ([], y13.1)) else
  (bnd (FX7_putOut (xt G s2.1) y13.1 a y13.2) fun y21 =>
  app y21.1 <|
  ltt (s2.1 ++ y21.1) fun L23 =>
  some ([], y21.2))) fun (y14 : NN × DD) =>
  app y14.1 <|
  ltt (s2.1 ++ y14.1) fun L16 =>
  ltt (s2.2.1 + (1 : Int32)) fun x18 =>
  some ([], .inl (L16, (x18, y14.2))))) : Option (NN × ((NN × Int32 × DD) ⊕ (Int32 × DD))))) 1000000 ([], ((0 : Int32), M))) fun (y1 : NN × Int32 × DD) =>
  app y1.1 <|
  ltt ([] ++ y1.1) fun L4 =>
  bnd (FX7_sweep (xt G L4) y1.2.2 a) fun y6 =>
  some ([], y6)
set_option maxHeartbeats 4000000 in
set_option maxRecDepth 100000 in
def FX7_sumOf (G : GG) (M : DD) (a : Nat) (p0 : Int32) (p1 : Int32) : Option (DD × Int32) :=
  dr G 15 ((M.2 a 15)) fun b2 =>
  chk (¬ (p0 < 0 ∨ G.2.2 b2 ≤ p0.toNatClampNeg)) <|
  bnd (FX7_planeAt G M a p0 p1) fun y3 =>
  bnd (FX7_wide G y3.1 a p0 p1) fun y4 =>
  bnd (FX7_high G y4.1 a p0 p1) fun y5 =>
  ltt ((y4.2 * y5.2)) fun x6 =>
  bnd (FX11_hash G y5.1 ((M.2 b2 p0.toNatClampNeg)) y3.2 x6) fun y7 =>
  some (y7.1, y7.2)
set_option maxHeartbeats 4000000 in
set_option maxRecDepth 100000 in
def FX8_cutByLengths (G : GG) (M : DD) (a : Nat) (p0 : Option Nat) (p1 : Int32) (p2 : Int32) (p3 : Int32) : Option (DD × Int32) :=
  bnd (itr (fun (s2 : Int32 × DD) => ((if p2 ≤ s2.1 then (some (.inr (.inl (s2.1, s2.2)))) else
  (ltt ((p2 - s2.1)) fun x6 =>
  if p3 ≤ x6 then (bnd (itr (fun (s9 : Int64 × Int32) => ((if p3 ≤ s9.2 then (some (.inr (s9.1, s9.2))) else
  (ltt (s9.1 <<< (((8 : Int32)).toInt64 &&& 63)) fun x27 =>
  ltt ((s2.1 + s9.2)) fun x28 =>
  dr G 12 p0 fun b29 =>
  chk (¬ (x28 < 0 ∨ G.2.2 b29 ≤ x28.toNatClampNeg)) <|
  ltt (s2.2.1 b29 x28.toNatClampNeg) fun x30 =>
  ltt ((x30 &&& ((255 : Int32)))) fun x31 =>
  ltt (x31.toInt64) fun x32 =>
  ltt (x27 ||| x32) fun x33 =>
  ltt (s9.2 + (1 : Int32)) fun x34 =>
  some (.inl (x33, x34)))) : Option ((Int64 × Int32) ⊕ (Int64 × Int32)))) 1000000 ((0 : Int64), (0 : Int32))) fun (y8 : Int64 × Int32) =>
  ltt ((s2.1 + p3)) fun x11 =>
  ltt ((p2 - x11)) fun x12 =>
  ltt (x12.toInt64) fun x13 =>
  ltt (lg_cmp y8.1 x13) fun x14 =>
  if ((0 : Int32)) < x14 then (chk (((0 : Int32)) = 0 ∨ ((0 : Int32)) = 1) <|
  some (.inr (.inr (s2.2, (0 : Int32))))) else
  (ltt (lg_cmp y8.1 ((0 : Int64))) fun x16 =>
  if x16 ≤ ((0 : Int32)) then (ltt (y8.1.toInt32) fun x18 =>
  ltt ((x11 + x18)) fun x19 =>
  some (.inl (x19, s2.2))) else
  (ltt (y8.1.toInt32) fun x20 =>
  bnd (FX8_note G s2.2 a x11 x20) fun y21 =>
  if y21.2 = ((0 : Int32)) then (chk (((0 : Int32)) = 0 ∨ ((0 : Int32)) = 1) <|
  some (.inr (.inr (y21.1, (0 : Int32))))) else
  (ltt (y8.1.toInt32) fun x23 =>
  ltt ((x11 + x23)) fun x24 =>
  some (.inl (x24, y21.1)))))) else
  (chk (((0 : Int32)) = 0 ∨ ((0 : Int32)) = 1) <|
  some (.inr (.inr (s2.2, (0 : Int32))))))) : Option ((Int32 × DD) ⊕ ((Int32 × DD) ⊕ (DD × Int32))))) 1000000 (p1, M)) fun (y1 : (Int32 × DD) ⊕ (DD × Int32)) =>
  sel y1 (fun (z1k : Int32 × DD) =>
  chk (((1 : Int32)) = 0 ∨ ((1 : Int32)) = 1) <|
  some (z1k.2, (1 : Int32))) fun r9 => some r9
set_option maxHeartbeats 4000000 in
set_option maxRecDepth 100000 in
def FX8_cutByMarks (G : GG) (M : DD) (a : Nat) (p0 : Option Nat) (p1 : Int32) : Option (DD × Int32) :=
  bnd (itr (fun (s2 : Int32 × DD) => ((ltt ((s2.1 + ((2 : Int32)))) fun x5 =>
  if p1 ≤ x5 then (some (.inr (.inl (s2.1, s2.2)))) else
  (dr G 12 p0 fun b7 =>
  chk (¬ (s2.1 < 0 ∨ G.2.2 b7 ≤ s2.1.toNatClampNeg)) <|
  ltt (s2.2.1 b7 s2.1.toNatClampNeg) fun x8 =>
  if x8 = ((0 : Int32)) then (ltt ((s2.1 + ((1 : Int32)))) fun x11 =>
  chk (¬ (x11 < 0 ∨ G.2.2 b7 ≤ x11.toNatClampNeg)) <|
  ltt (s2.2.1 b7 x11.toNatClampNeg) fun x12 =>
  if x12 = ((0 : Int32)) then (ltt ((s2.1 + ((2 : Int32)))) fun x15 =>
  chk (¬ (x15 < 0 ∨ G.2.2 b7 ≤ x15.toNatClampNeg)) <|
  ltt (s2.2.1 b7 x15.toNatClampNeg) fun x16 =>
  if x16 = ((1 : Int32)) then (ltt ((s2.1 + ((3 : Int32)))) fun x18 =>
  bnd (itr (fun (s20 : Int32 × DD) => ((if p1 ≤ s20.1 then (some (.inr (s20.1, s20.2))) else
  (bnd (FX8_endsUnit G s20.2 p0 s20.1 p1) fun y28 =>
  if y28.2 = ((0 : Int32)) then (ltt (s20.1 + (1 : Int32)) fun x30 =>
  some (.inl (x30, y28.1))) else
  (some (.inr (s20.1, y28.1))))) : Option ((Int32 × DD) ⊕ (Int32 × DD)))) 1000000 (x18, s2.2)) fun (y19 : Int32 × DD) =>
  if y19.1 ≤ x18 then (some (.inl (y19.1, y19.2))) else
  (ltt ((y19.1 - x18)) fun x23 =>
  bnd (FX8_note G y19.2 a x18 x23) fun y24 =>
  if y24.2 = ((0 : Int32)) then (chk (((0 : Int32)) = 0 ∨ ((0 : Int32)) = 1) <|
  some (.inr (.inr (y24.1, (0 : Int32))))) else
  (some (.inl (y19.1, y24.1))))) else
  (ltt (s2.1 + (1 : Int32)) fun x31 =>
  some (.inl (x31, s2.2)))) else
  (ltt (s2.1 + (1 : Int32)) fun x14 =>
  some (.inl (x14, s2.2)))) else
  (ltt (s2.1 + (1 : Int32)) fun x10 =>
  some (.inl (x10, s2.2))))) : Option ((Int32 × DD) ⊕ ((Int32 × DD) ⊕ (DD × Int32))))) 1000000 ((0 : Int32), M)) fun (y1 : (Int32 × DD) ⊕ (DD × Int32)) =>
  sel y1 (fun (z1k : Int32 × DD) =>
  chk (((1 : Int32)) = 0 ∨ ((1 : Int32)) = 1) <|
  some (z1k.2, (1 : Int32))) fun r9 => some r9
set_option maxHeartbeats 4000000 in
set_option maxRecDepth 100000 in
def FX8_cutByTables (G : GG) (M : DD) (a : Nat) (p0 : Option Nat) (p1 : Int32) : Option (DD × Int32) :=
  dr G 13 ((M.2 a 12)) fun b2 =>
  chk (¬ (((0 : Int32)) < 0 ∨ G.2.2 b2 ≤ ((0 : Int32)).toNatClampNeg)) <|
  ltt (M.1 b2 ((0 : Int32)).toNatClampNeg) fun x3 =>
  if x3 < ((0 : Int32)) then (chk (((0 : Int32)) = 0 ∨ ((0 : Int32)) = 1) <|
  some (M, (0 : Int32))) else
  (chk (¬ (((2 : Int32)) < 0 ∨ G.2.2 b2 ≤ ((2 : Int32)).toNatClampNeg)) <|
  ltt (M.1 b2 ((2 : Int32)).toNatClampNeg) fun x5 =>
  if x5 < ((0 : Int32)) then (chk (((0 : Int32)) = 0 ∨ ((0 : Int32)) = 1) <|
  some (M, (0 : Int32))) else
  (chk (¬ (((1 : Int32)) < 0 ∨ G.2.2 b2 ≤ ((1 : Int32)).toNatClampNeg)) <|
  ltt (M.1 b2 ((1 : Int32)).toNatClampNeg) fun x7 =>
  if x7 < ((12 : Int32)) then (chk (((0 : Int32)) = 0 ∨ ((0 : Int32)) = 1) <|
  some (M, (0 : Int32))) else
  (chk (¬ (((3 : Int32)) < 0 ∨ G.2.2 b2 ≤ ((3 : Int32)).toNatClampNeg)) <|
  ltt (M.1 b2 ((3 : Int32)).toNatClampNeg) fun x9 =>
  if ((12 : Int32)) ≤ x9 then (chk (¬ (((0 : Int32)) < 0 ∨ G.2.2 b2 ≤ ((0 : Int32)).toNatClampNeg)) <|
  ltt (M.1 b2 ((0 : Int32)).toNatClampNeg) fun x11 =>
  ltt ((x11 + ((8 : Int32)))) fun x12 =>
  bnd (FX8_number4 G M p0 x12) fun y13 =>
  ltt (((4 : Int64)) * y13.2) fun x14 =>
  ltt (((12 : Int64)) + x14) fun x15 =>
  dr G 13 ((y13.1.2 a 12)) fun b16 =>
  chk (¬ (((1 : Int32)) < 0 ∨ G.2.2 b16 ≤ ((1 : Int32)).toNatClampNeg)) <|
  ltt (y13.1.1 b16 ((1 : Int32)).toNatClampNeg) fun x17 =>
  ltt (x17.toInt64) fun x18 =>
  ltt (lg_cmp x15 x18) fun x19 =>
  if x19 ≤ ((0 : Int32)) then (chk (¬ (((2 : Int32)) < 0 ∨ G.2.2 b16 ≤ ((2 : Int32)).toNatClampNeg)) <|
  ltt (y13.1.1 b16 ((2 : Int32)).toNatClampNeg) fun x21 =>
  ltt ((x21 + ((8 : Int32)))) fun x22 =>
  bnd (FX8_number4 G y13.1 p0 x22) fun y23 =>
  bnd (itr (fun (s25 : Int64 × Int32 × DD) => ((ltt (s25.2.1.toInt64) fun x28 =>
  ltt (lg_cmp x28 y13.2) fun x29 =>
  if ((0 : Int32)) ≤ x29 then (some (.inr (.inl (s25.1, s25.2.1, s25.2.2)))) else
  (dr G 13 ((s25.2.2.2 a 12)) fun b31 =>
  chk (¬ (((0 : Int32)) < 0 ∨ G.2.2 b31 ≤ ((0 : Int32)).toNatClampNeg)) <|
  ltt (s25.2.2.1 b31 ((0 : Int32)).toNatClampNeg) fun x32 =>
  ltt ((x32 + ((12 : Int32)))) fun x33 =>
  ltt ((((4 : Int32)) * s25.2.1)) fun x34 =>
  ltt ((x33 + x34)) fun x35 =>
  bnd (FX8_number4 G s25.2.2 p0 x35) fun y36 =>
  ltt (s25.1 + y36.2) fun x37 =>
  ltt (p1.toInt64) fun x38 =>
  ltt (lg_cmp x37 x38) fun x39 =>
  if ((0 : Int32)) < x39 then (chk (((0 : Int32)) = 0 ∨ ((0 : Int32)) = 1) <|
  some (.inr (.inr (y36.1, (0 : Int32))))) else
  (ltt (s25.1.toInt32) fun x41 =>
  ltt (s25.1 + y36.2) fun x42 =>
  ltt (x42.toInt32) fun x43 =>
  bnd (FX8_cutByLengths G y36.1 a p0 x41 x43 ((4 : Int32))) fun y44 =>
  if y44.2 = ((0 : Int32)) then (chk (((0 : Int32)) = 0 ∨ ((0 : Int32)) = 1) <|
  some (.inr (.inr (y44.1, (0 : Int32))))) else
  (ltt (s25.1 + y36.2) fun x46 =>
  ltt (s25.2.1 + (1 : Int32)) fun x47 =>
  some (.inl (x46, x47, y44.1)))))) : Option ((Int64 × Int32 × DD) ⊕ ((Int64 × Int32 × DD) ⊕ (DD × Int32))))) 1000000 (y23.2, (0 : Int32), y23.1)) fun (y24 : (Int64 × Int32 × DD) ⊕ (DD × Int32)) =>
  sel y24 (fun (z24k : Int64 × Int32 × DD) =>
  chk (((1 : Int32)) = 0 ∨ ((1 : Int32)) = 1) <|
  some (z24k.2.2, (1 : Int32))) fun r9 => some r9) else
  (chk (((0 : Int32)) = 0 ∨ ((0 : Int32)) = 1) <|
  some (y13.1, (0 : Int32)))) else
  (chk (((0 : Int32)) = 0 ∨ ((0 : Int32)) = 1) <|
  some (M, (0 : Int32))))))
set_option maxHeartbeats 4000000 in
set_option maxRecDepth 100000 in
def FX8_fileLength (G : GG) (M : DD) (a : Nat)  : Option (DD × Int32) :=
  bnd (FX8_trackLength G M a) fun y1 =>
  ltt ((((140 : Int32)) + y1.2)) fun x2 =>
  ltt ((x2 + ((8 : Int32)))) fun x3 =>
  bnd (FX8_contentLength G y1.1 a) fun y4 =>
  ltt ((x3 + y4.2)) fun x5 =>
  some (y4.1, x5)
set_option maxHeartbeats 4000000 in
set_option maxRecDepth 100000 in
def FX8_writeFile (G : GG) (M : DD) (a : Nat) (p0 : Option Nat) : Option (DD × Int32) :=
  ltt (uI M a 14 ((0 : Int32))) fun M1 =>
  bnd (FX8_put4 G M1 a p0 ((24 : Int32))) fun y2 =>
  bnd (FX8_put4 G y2 a p0 ((1718909296 : Int32))) fun y3 =>
  bnd (FX8_put4 G y3 a p0 ((1769172845 : Int32))) fun y4 =>
  bnd (FX8_put4 G y4 a p0 ((512 : Int32))) fun y5 =>
  bnd (FX8_put4 G y5 a p0 ((1769172845 : Int32))) fun y6 =>
  bnd (FX8_put4 G y6 a p0 ((1635148593 : Int32))) fun y7 =>
  bnd (FX8_trackLength G y7 a) fun y8 =>
  ltt ((((116 : Int32)) + y8.2)) fun x9 =>
  bnd (FX8_put4 G y8.1 a p0 x9) fun y10 =>
  bnd (FX8_put4 G y10 a p0 ((1836019574 : Int32))) fun y11 =>
  bnd (FX8_put4 G y11 a p0 ((108 : Int32))) fun y12 =>
  bnd (FX8_put4 G y12 a p0 ((1836476516 : Int32))) fun y13 =>
  bnd (itr (fun (s15 : Int32 × DD) => ((if ((25 : Int32)) ≤ s15.1 then (some (.inr (s15.1, s15.2))) else
  (bnd (FX8_put4 G s15.2 a p0 ((0 : Int32))) fun y59 =>
  ltt (s15.1 + (1 : Int32)) fun x60 =>
  some (.inl (x60, y59)))) : Option ((Int32 × DD) ⊕ (Int32 × DD)))) 1000000 ((0 : Int32), y13)) fun (y14 : Int32 × DD) =>
  bnd (FX8_trackLength G y14.2 a) fun y17 =>
  bnd (FX8_put4 G y17.1 a p0 y17.2) fun y18 =>
  bnd (FX8_put4 G y18 a p0 ((1953653099 : Int32))) fun y19 =>
  bnd (FX8_writeTables G y19 a p0) fun y20 =>
  bnd (FX8_contentLength G y20 a) fun y21 =>
  ltt ((((8 : Int32)) + y21.2)) fun x22 =>
  bnd (FX8_put4 G y21.1 a p0 x22) fun y23 =>
  bnd (FX8_put4 G y23 a p0 ((1835295092 : Int32))) fun y24 =>
  bnd (itr (fun (s26 : Int32 × DD) => ((ltt (s26.2.1 a 3) fun x30 =>
  if x30 ≤ s26.1 then (some (.inr (s26.1, s26.2))) else
  (dr G 13 ((s26.2.2 a 2)) fun b32 =>
  chk (¬ (s26.1 < 0 ∨ G.2.2 b32 ≤ s26.1.toNatClampNeg)) <|
  ltt (s26.2.1 b32 s26.1.toNatClampNeg) fun x33 =>
  bnd (FX8_put4 G s26.2 a p0 x33) fun y34 =>
  bnd (itr (fun (s36 : Int32 × DD) => ((dr G 13 ((s36.2.2 a 2)) fun b40 =>
  chk (¬ (s26.1 < 0 ∨ G.2.2 b40 ≤ s26.1.toNatClampNeg)) <|
  ltt (s36.2.1 b40 s26.1.toNatClampNeg) fun x41 =>
  if x41 ≤ s36.1 then (some (.inr (s36.1, s36.2))) else
  (ltt (s36.2.1 a 14) fun x43 =>
  dr G 12 p0 fun b44 =>
  ltt (Int32.ofNat (G.2.2 b44)) fun x45 =>
  if x45 ≤ x43 then (some (.inr (s36.1, s36.2))) else
  (ltt (s36.2.1 a 14) fun x47 =>
  ltt ((x47 + ((1 : Int32)))) fun x48 =>
  ltt (uI s36.2 a 14 x48) fun M49 =>
  dr G 13 ((M49.2 a 1)) fun b50 =>
  chk (¬ (s26.1 < 0 ∨ G.2.2 b50 ≤ s26.1.toNatClampNeg)) <|
  ltt (M49.1 b50 s26.1.toNatClampNeg) fun x51 =>
  ltt ((x51 + s36.1)) fun x52 =>
  dr G 12 ((M49.2 a 0)) fun b53 =>
  chk (¬ (x52 < 0 ∨ G.2.2 b53 ≤ x52.toNatClampNeg)) <|
  ltt (M49.1 b53 x52.toNatClampNeg) fun x54 =>
  chk (¬ (x47 < 0 ∨ G.2.2 b44 ≤ x47.toNatClampNeg)) <|
  ltt (uI M49 b44 x47.toNatClampNeg (vp_nar .byte x54)) fun M55 =>
  ltt (s36.1 + (1 : Int32)) fun x56 =>
  some (.inl (x56, M55))))) : Option ((Int32 × DD) ⊕ (Int32 × DD)))) 1000000 ((0 : Int32), y34)) fun (y35 : Int32 × DD) =>
  ltt (s26.1 + (1 : Int32)) fun x38 =>
  some (.inl (x38, y35.2)))) : Option ((Int32 × DD) ⊕ (Int32 × DD)))) 1000000 ((0 : Int32), y24)) fun (y25 : Int32 × DD) =>
  ltt (y25.2.1 a 14) fun x28 =>
  some (y25.2, x28)
set_option maxHeartbeats 4000000 in
set_option maxRecDepth 100000 in
def FX9_clearMoves (G : GG) (M : DD) (a : Nat) (p0 : Int32) : Option (DD) :=
  bnd (itr (fun (s2 : Int32 × DD) => ((if ((2 : Int32)) ≤ s2.1 then (some (.inr (s2.1, s2.2))) else
  (ltt ((((16 : Int32)) * p0)) fun x6 =>
  bnd (FX4_at G s2.2 s2.1 x6) fun y7 =>
  dr G 4 ((y7.1.2 a 0)) fun b8 =>
  ltt ((y7.2 + ((16 : Int32)))) fun x9 =>
  bnd (FJ7_fill_fda19 G y7.1 ((y7.1.2 b8 5)) y7.2 x9 ((-1 : Int32))) fun y10 =>
  dr G 4 ((y10.2 a 0)) fun b11 =>
  ltt ((y7.2 + ((16 : Int32)))) fun x12 =>
  bnd (FJ7_fill_fda19 G y10 ((y10.2 b11 6)) y7.2 x12 ((0 : Int32))) fun y13 =>
  dr G 4 ((y13.2 a 0)) fun b14 =>
  ltt ((((2 : Int32)) * y7.2)) fun x15 =>
  ltt ((((2 : Int32)) * y7.2)) fun x16 =>
  ltt ((x16 + ((32 : Int32)))) fun x17 =>
  bnd (FJ7_fill_fda19 G y13 ((y13.2 b14 7)) x15 x17 ((0 : Int32))) fun y18 =>
  ltt (s2.1 + (1 : Int32)) fun x19 =>
  some (.inl (x19, y18)))) : Option ((Int32 × DD) ⊕ (Int32 × DD)))) 1000000 ((0 : Int32), M)) fun (y1 : Int32 × DD) =>
  some y1.2
set_option maxHeartbeats 4000000 in
set_option maxRecDepth 100000 in
def FX9_directByTime (G : GG) (M : DD) (a : Nat) (p0 : Int32) (p1 : Int32) (p2 : Option Nat) : Option (DD × Int32) :=
  bnd (itr (fun (s2 : Int32 × DD) => ((if ((4 : Int32)) ≤ s2.1 then (some (.inr (.inl (s2.1, s2.2)))) else
  (ltt ((p1 >>> (s2.1 &&& 31))) fun x6 =>
  ltt ((x6 &&& ((1 : Int32)))) fun x7 =>
  if x7 = ((0 : Int32)) then (ltt (s2.1 + (1 : Int32)) fun x68 =>
  some (.inl (x68, s2.2))) else
  (ltt ((((16 : Int32)) * p0)) fun x9 =>
  ltt ((((5 : Int32)) * s2.1)) fun x10 =>
  ltt ((x9 + x10)) fun x11 =>
  dr G 4 p2 fun b12 =>
  bnd (FX4_blocks G s2.2 b12) fun y13 =>
  bnd (if y13.2 ≤ p0 then (some ((-1 : Int32), y13.1)) else
  (bnd (FX4_listOf G y13.1 b12 x11) fun y67 =>
  some (y67.2, y67.1))) fun (y14 : Int32 × DD) =>
  bnd (if ((0 : Int32)) ≤ y14.1 then (some (y14.1)) else
  (some ((0 : Int32)))) fun (y15 : Int32) =>
  bnd (FX4_at G y14.2 y15 x11) fun y16 =>
  bnd (if ((0 : Int32)) ≤ y14.1 then (dr G 13 ((y16.1.2 b12 6)) fun b62 =>
  chk (¬ (y16.2 < 0 ∨ G.2.2 b62 ≤ y16.2.toNatClampNeg)) <|
  ltt (y16.1.1 b62 y16.2.toNatClampNeg) fun x63 =>
  bnd (FX9_entryOf G y16.1 a x63) fun y64 =>
  some (y64.2, y64.1)) else
  (some ((0 : Int32), y16.1))) fun (y17 : Int32 × DD) =>
  if y17.1 < ((0 : Int32)) then (chk (((0 : Int32)) = 0 ∨ ((0 : Int32)) = 1) <|
  some (.inr (.inr (y17.2, (0 : Int32))))) else
  (dr G 14 ((y17.2.2 a 3)) fun b19 =>
  chk (¬ (y17.1 < 0 ∨ G.2.2 b19 ≤ y17.1.toNatClampNeg)) <|
  if ((y17.2.2 b19 y17.1.toNatClampNeg)) = none then (chk (((0 : Int32)) = 0 ∨ ((0 : Int32)) = 1) <|
  some (.inr (.inr (y17.2, (0 : Int32))))) else
  (bnd (if ((0 : Int32)) ≤ y14.1 then (ltt ((((2 : Int32)) * y16.2)) fun x58 =>
  dr G 13 ((y17.2.2 b12 7)) fun b59 =>
  chk (¬ (x58 < 0 ∨ G.2.2 b59 ≤ x58.toNatClampNeg)) <|
  ltt (y17.2.1 b59 x58.toNatClampNeg) fun x60 =>
  some (x60)) else
  (some ((0 : Int32)))) fun (y21 : Int32) =>
  bnd (if ((0 : Int32)) ≤ y14.1 then (ltt ((((2 : Int32)) * y16.2)) fun x53 =>
  ltt ((x53 + ((1 : Int32)))) fun x54 =>
  dr G 13 ((y17.2.2 b12 7)) fun b55 =>
  chk (¬ (x54 < 0 ∨ G.2.2 b55 ≤ x54.toNatClampNeg)) <|
  ltt (y17.2.1 b55 x54.toNatClampNeg) fun x56 =>
  some (x56)) else
  (some ((0 : Int32)))) fun (y22 : Int32) =>
  chk (¬ (y17.1 < 0 ∨ G.2.2 b19 ≤ y17.1.toNatClampNeg)) <|
  dr G 4 ((y17.2.2 b19 y17.1.toNatClampNeg)) fun b23 =>
  ltt (y17.2.1 b23 9) fun x24 =>
  ltt (y17.2.1 b12 9) fun x25 =>
  bnd (FX9_timeBetween G y17.2 x24 x25) fun y26 =>
  dr G 14 ((y26.1.2 a 3)) fun b27 =>
  chk (¬ (y17.1 < 0 ∨ G.2.2 b27 ≤ y17.1.toNatClampNeg)) <|
  dr G 4 ((y26.1.2 b27 y17.1.toNatClampNeg)) fun b28 =>
  ltt (y26.1.1 b28 10) fun x29 =>
  bnd (if x29 = ((2 : Int32)) then (some ((1 : Int32))) else
  (bnd (if y26.2 = ((0 : Int32)) then (some ((1 : Int32))) else
  (some ((0 : Int32)))) fun (y50 : Int32) =>
  some (y50))) fun (y30 : Int32) =>
  bnd (if y30 = ((0 : Int32)) then (chk (¬ (y17.1 < 0 ∨ G.2.2 b27 ≤ y17.1.toNatClampNeg)) <|
  ltt (y26.1.1 b28 9) fun x44 =>
  dr G 4 ((y26.1.2 a 0)) fun b45 =>
  ltt (y26.1.1 b45 9) fun x46 =>
  bnd (FX9_timeBetween G y26.1 x44 x46) fun y47 =>
  bnd (FX9_scaleBy G y47.1 y47.2 y26.2) fun y48 =>
  some (y48.2, y48.1)) else
  (some ((256 : Int32), y26.1))) fun (y31 : Int32 × DD) =>
  ltt ((y31.1 * y21)) fun x32 =>
  ltt ((x32 + ((128 : Int32)))) fun x33 =>
  ltt ((x33 >>> (((8 : Int32)) &&& 31))) fun x34 =>
  ltt ((y31.1 * y22)) fun x35 =>
  ltt ((x35 + ((128 : Int32)))) fun x36 =>
  ltt ((x36 >>> (((8 : Int32)) &&& 31))) fun x37 =>
  bnd (FX9_setQuarter G y31.2 a p0 ((0 : Int32)) s2.1 y17.1 x34 x37) fun y38 =>
  ltt ((x34 - y21)) fun x39 =>
  ltt ((x37 - y22)) fun x40 =>
  bnd (FX9_setQuarter G y38 a p0 ((1 : Int32)) s2.1 ((0 : Int32)) x39 x40) fun y41 =>
  ltt (s2.1 + (1 : Int32)) fun x42 =>
  some (.inl (x42, y41))))))) : Option ((Int32 × DD) ⊕ ((Int32 × DD) ⊕ (DD × Int32))))) 1000000 ((0 : Int32), M)) fun (y1 : (Int32 × DD) ⊕ (DD × Int32)) =>
  sel y1 (fun (z1k : Int32 × DD) =>
  chk (((1 : Int32)) = 0 ∨ ((1 : Int32)) = 1) <|
  some (z1k.2, (1 : Int32))) fun r9 => some r9
set_option maxHeartbeats 4000000 in
set_option maxRecDepth 100000 in
def FX9_guess (G : GG) (M : DD) (a : Nat) (p0 : Int32) (p1 : Int32) (p2 : Int32) (p3 : Int32) (p4 : Int32) (p5 : Int32) : Option (DD) :=
  bnd (FX9_pieceX G M p3) fun y1 =>
  bnd (FX9_pieceY G y1.1 p3) fun y2 =>
  ltt ((y1.2 - ((1 : Int32)))) fun x3 =>
  bnd (FX9_pieceAt G y2.1 a p0 x3 y2.2 p3) fun y4 =>
  ltt ((y2.2 - ((1 : Int32)))) fun x5 =>
  bnd (FX9_pieceAt G y4.1 a p0 y1.2 x5 p3) fun y6 =>
  ltt ((y1.2 + p4)) fun x7 =>
  ltt ((y2.2 - ((1 : Int32)))) fun x8 =>
  bnd (FX9_pieceAt G y6.1 a p0 x7 x8 p3) fun y9 =>
  bnd (if ((0 : Int32)) ≤ y9.2 then (some (y9.2, y9.1)) else
  (ltt ((y1.2 - ((1 : Int32)))) fun x456 =>
  ltt ((y2.2 - ((1 : Int32)))) fun x457 =>
  bnd (FX9_pieceAt G y9.1 a p0 x456 x457 p3) fun y458 =>
  some (y458.2, y458.1))) fun (y10 : Int32 × DD) =>
  bnd (FX9_referenceAt G y10.2 a p1 y4.2) fun y11 =>
  bnd (if y11.2 = p2 then (some ((1 : Int32))) else
  (some ((0 : Int32)))) fun (y12 : Int32) =>
  bnd (FX9_referenceAt G y11.1 a p1 y6.2) fun y13 =>
  bnd (if y13.2 = p2 then (some ((1 : Int32))) else
  (some ((0 : Int32)))) fun (y14 : Int32) =>
  bnd (FX9_referenceAt G y13.1 a p1 y10.1) fun y15 =>
  bnd (if y15.2 = p2 then (some ((1 : Int32))) else
  (some ((0 : Int32)))) fun (y16 : Int32) =>
  bnd (if y12 = ((0 : Int32)) then (some ((0 : Int32))) else
  (some ((1 : Int32)))) fun (y17 : Int32) =>
  bnd (if y14 = ((0 : Int32)) then (some ((0 : Int32))) else
  (some ((1 : Int32)))) fun (y18 : Int32) =>
  ltt ((y17 + y18)) fun x19 =>
  bnd (if y16 = ((0 : Int32)) then (some ((0 : Int32))) else
  (some ((1 : Int32)))) fun (y20 : Int32) =>
  ltt ((x19 + y20)) fun x21 =>
  bnd (if p5 = ((1 : Int32)) then (bnd (if y14 = ((0 : Int32)) then (bnd (if p5 = ((2 : Int32)) then (bnd (if y12 = ((0 : Int32)) then (bnd (if p5 = ((4 : Int32)) then (bnd (if y16 = ((0 : Int32)) then (bnd (if ((0 : Int32)) ≤ y6.2 then (bnd (if x21 = ((1 : Int32)) then (bnd (if y12 = ((0 : Int32)) then (bnd (if y14 = ((0 : Int32)) then (some (y10.1)) else
  (some (y6.2))) fun (y284 : Int32) =>
  some (y284)) else
  (some (y4.2))) fun (y281 : Int32) =>
  bnd (FX9_adopt G y15.1 a p1 y281) fun y282 =>
  some (y282)) else
  (bnd (FX9_adoptMedian G y15.1 a p1 y4.2 y6.2 y10.1) fun y280 =>
  some (y280))) fun (y278 : DD) =>
  some (y278)) else
  (bnd (if ((0 : Int32)) ≤ y10.1 then (bnd (if x21 = ((1 : Int32)) then (bnd (if y12 = ((0 : Int32)) then (bnd (if y14 = ((0 : Int32)) then (some (y10.1)) else
  (some (y6.2))) fun (y294 : Int32) =>
  some (y294)) else
  (some (y4.2))) fun (y291 : Int32) =>
  bnd (FX9_adopt G y15.1 a p1 y291) fun y292 =>
  some (y292)) else
  (bnd (FX9_adoptMedian G y15.1 a p1 y4.2 y6.2 y10.1) fun y290 =>
  some (y290))) fun (y288 : DD) =>
  some (y288)) else
  (bnd (if y4.2 < ((0 : Int32)) then (bnd (if x21 = ((1 : Int32)) then (bnd (if y12 = ((0 : Int32)) then (bnd (if y14 = ((0 : Int32)) then (some (y10.1)) else
  (some (y6.2))) fun (y304 : Int32) =>
  some (y304)) else
  (some (y4.2))) fun (y301 : Int32) =>
  bnd (FX9_adopt G y15.1 a p1 y301) fun y302 =>
  some (y302)) else
  (bnd (FX9_adoptMedian G y15.1 a p1 y4.2 y6.2 y10.1) fun y300 =>
  some (y300))) fun (y298 : DD) =>
  some (y298)) else
  (bnd (FX9_adopt G y15.1 a p1 y4.2) fun y306 =>
  some (y306))) fun (y296 : DD) =>
  some (y296))) fun (y286 : DD) =>
  some (y286))) fun (y276 : DD) =>
  some (y276)) else
  (bnd (FX9_adopt G y15.1 a p1 y10.1) fun y307 =>
  some (y307))) fun (y274 : DD) =>
  some (y274)) else
  (bnd (if ((0 : Int32)) ≤ y6.2 then (bnd (if x21 = ((1 : Int32)) then (bnd (if y12 = ((0 : Int32)) then (bnd (if y14 = ((0 : Int32)) then (some (y10.1)) else
  (some (y6.2))) fun (y251 : Int32) =>
  some (y251)) else
  (some (y4.2))) fun (y248 : Int32) =>
  bnd (FX9_adopt G y15.1 a p1 y248) fun y249 =>
  some (y249)) else
  (bnd (FX9_adoptMedian G y15.1 a p1 y4.2 y6.2 y10.1) fun y247 =>
  some (y247))) fun (y245 : DD) =>
  some (y245)) else
  (bnd (if ((0 : Int32)) ≤ y10.1 then (bnd (if x21 = ((1 : Int32)) then (bnd (if y12 = ((0 : Int32)) then (bnd (if y14 = ((0 : Int32)) then (some (y10.1)) else
  (some (y6.2))) fun (y261 : Int32) =>
  some (y261)) else
  (some (y4.2))) fun (y258 : Int32) =>
  bnd (FX9_adopt G y15.1 a p1 y258) fun y259 =>
  some (y259)) else
  (bnd (FX9_adoptMedian G y15.1 a p1 y4.2 y6.2 y10.1) fun y257 =>
  some (y257))) fun (y255 : DD) =>
  some (y255)) else
  (bnd (if y4.2 < ((0 : Int32)) then (bnd (if x21 = ((1 : Int32)) then (bnd (if y12 = ((0 : Int32)) then (bnd (if y14 = ((0 : Int32)) then (some (y10.1)) else
  (some (y6.2))) fun (y271 : Int32) =>
  some (y271)) else
  (some (y4.2))) fun (y268 : Int32) =>
  bnd (FX9_adopt G y15.1 a p1 y268) fun y269 =>
  some (y269)) else
  (bnd (FX9_adoptMedian G y15.1 a p1 y4.2 y6.2 y10.1) fun y267 =>
  some (y267))) fun (y265 : DD) =>
  some (y265)) else
  (bnd (FX9_adopt G y15.1 a p1 y4.2) fun y273 =>
  some (y273))) fun (y263 : DD) =>
  some (y263))) fun (y253 : DD) =>
  some (y253))) fun (y243 : DD) =>
  some (y243))) fun (y241 : DD) =>
  some (y241)) else
  (bnd (FX9_adopt G y15.1 a p1 y4.2) fun y308 =>
  some (y308))) fun (y239 : DD) =>
  some (y239)) else
  (bnd (if p5 = ((3 : Int32)) then (bnd (if y12 = ((0 : Int32)) then (bnd (if p5 = ((4 : Int32)) then (bnd (if y16 = ((0 : Int32)) then (bnd (if ((0 : Int32)) ≤ y6.2 then (bnd (if x21 = ((1 : Int32)) then (bnd (if y12 = ((0 : Int32)) then (bnd (if y14 = ((0 : Int32)) then (some (y10.1)) else
  (some (y6.2))) fun (y423 : Int32) =>
  some (y423)) else
  (some (y4.2))) fun (y420 : Int32) =>
  bnd (FX9_adopt G y15.1 a p1 y420) fun y421 =>
  some (y421)) else
  (bnd (FX9_adoptMedian G y15.1 a p1 y4.2 y6.2 y10.1) fun y419 =>
  some (y419))) fun (y417 : DD) =>
  some (y417)) else
  (bnd (if ((0 : Int32)) ≤ y10.1 then (bnd (if x21 = ((1 : Int32)) then (bnd (if y12 = ((0 : Int32)) then (bnd (if y14 = ((0 : Int32)) then (some (y10.1)) else
  (some (y6.2))) fun (y433 : Int32) =>
  some (y433)) else
  (some (y4.2))) fun (y430 : Int32) =>
  bnd (FX9_adopt G y15.1 a p1 y430) fun y431 =>
  some (y431)) else
  (bnd (FX9_adoptMedian G y15.1 a p1 y4.2 y6.2 y10.1) fun y429 =>
  some (y429))) fun (y427 : DD) =>
  some (y427)) else
  (bnd (if y4.2 < ((0 : Int32)) then (bnd (if x21 = ((1 : Int32)) then (bnd (if y12 = ((0 : Int32)) then (bnd (if y14 = ((0 : Int32)) then (some (y10.1)) else
  (some (y6.2))) fun (y443 : Int32) =>
  some (y443)) else
  (some (y4.2))) fun (y440 : Int32) =>
  bnd (FX9_adopt G y15.1 a p1 y440) fun y441 =>
  some (y441)) else
  (bnd (FX9_adoptMedian G y15.1 a p1 y4.2 y6.2 y10.1) fun y439 =>
  some (y439))) fun (y437 : DD) =>
  some (y437)) else
  (bnd (FX9_adopt G y15.1 a p1 y4.2) fun y445 =>
  some (y445))) fun (y435 : DD) =>
  some (y435))) fun (y425 : DD) =>
  some (y425))) fun (y415 : DD) =>
  some (y415)) else
  (bnd (FX9_adopt G y15.1 a p1 y10.1) fun y446 =>
  some (y446))) fun (y413 : DD) =>
  some (y413)) else
  (bnd (if ((0 : Int32)) ≤ y6.2 then (bnd (if x21 = ((1 : Int32)) then (bnd (if y12 = ((0 : Int32)) then (bnd (if y14 = ((0 : Int32)) then (some (y10.1)) else
  (some (y6.2))) fun (y390 : Int32) =>
  some (y390)) else
  (some (y4.2))) fun (y387 : Int32) =>
  bnd (FX9_adopt G y15.1 a p1 y387) fun y388 =>
  some (y388)) else
  (bnd (FX9_adoptMedian G y15.1 a p1 y4.2 y6.2 y10.1) fun y386 =>
  some (y386))) fun (y384 : DD) =>
  some (y384)) else
  (bnd (if ((0 : Int32)) ≤ y10.1 then (bnd (if x21 = ((1 : Int32)) then (bnd (if y12 = ((0 : Int32)) then (bnd (if y14 = ((0 : Int32)) then (some (y10.1)) else
  (some (y6.2))) fun (y400 : Int32) =>
  some (y400)) else
  (some (y4.2))) fun (y397 : Int32) =>
  bnd (FX9_adopt G y15.1 a p1 y397) fun y398 =>
  some (y398)) else
  (bnd (FX9_adoptMedian G y15.1 a p1 y4.2 y6.2 y10.1) fun y396 =>
  some (y396))) fun (y394 : DD) =>
  some (y394)) else
  (bnd (if y4.2 < ((0 : Int32)) then (bnd (if x21 = ((1 : Int32)) then (bnd (if y12 = ((0 : Int32)) then (bnd (if y14 = ((0 : Int32)) then (some (y10.1)) else
  (some (y6.2))) fun (y410 : Int32) =>
  some (y410)) else
  (some (y4.2))) fun (y407 : Int32) =>
  bnd (FX9_adopt G y15.1 a p1 y407) fun y408 =>
  some (y408)) else
  (bnd (FX9_adoptMedian G y15.1 a p1 y4.2 y6.2 y10.1) fun y406 =>
  some (y406))) fun (y404 : DD) =>
  some (y404)) else
  (bnd (FX9_adopt G y15.1 a p1 y4.2) fun y412 =>
  some (y412))) fun (y402 : DD) =>
  some (y402))) fun (y392 : DD) =>
  some (y392))) fun (y382 : DD) =>
  some (y382))) fun (y380 : DD) =>
  some (y380)) else
  (bnd (FX9_adopt G y15.1 a p1 y4.2) fun y447 =>
  some (y447))) fun (y378 : DD) =>
  some (y378)) else
  (bnd (if p5 = ((4 : Int32)) then (bnd (if y16 = ((0 : Int32)) then (bnd (if ((0 : Int32)) ≤ y6.2 then (bnd (if x21 = ((1 : Int32)) then (bnd (if y12 = ((0 : Int32)) then (bnd (if y14 = ((0 : Int32)) then (some (y10.1)) else
  (some (y6.2))) fun (y354 : Int32) =>
  some (y354)) else
  (some (y4.2))) fun (y351 : Int32) =>
  bnd (FX9_adopt G y15.1 a p1 y351) fun y352 =>
  some (y352)) else
  (bnd (FX9_adoptMedian G y15.1 a p1 y4.2 y6.2 y10.1) fun y350 =>
  some (y350))) fun (y348 : DD) =>
  some (y348)) else
  (bnd (if ((0 : Int32)) ≤ y10.1 then (bnd (if x21 = ((1 : Int32)) then (bnd (if y12 = ((0 : Int32)) then (bnd (if y14 = ((0 : Int32)) then (some (y10.1)) else
  (some (y6.2))) fun (y364 : Int32) =>
  some (y364)) else
  (some (y4.2))) fun (y361 : Int32) =>
  bnd (FX9_adopt G y15.1 a p1 y361) fun y362 =>
  some (y362)) else
  (bnd (FX9_adoptMedian G y15.1 a p1 y4.2 y6.2 y10.1) fun y360 =>
  some (y360))) fun (y358 : DD) =>
  some (y358)) else
  (bnd (if y4.2 < ((0 : Int32)) then (bnd (if x21 = ((1 : Int32)) then (bnd (if y12 = ((0 : Int32)) then (bnd (if y14 = ((0 : Int32)) then (some (y10.1)) else
  (some (y6.2))) fun (y374 : Int32) =>
  some (y374)) else
  (some (y4.2))) fun (y371 : Int32) =>
  bnd (FX9_adopt G y15.1 a p1 y371) fun y372 =>
  some (y372)) else
  (bnd (FX9_adoptMedian G y15.1 a p1 y4.2 y6.2 y10.1) fun y370 =>
  some (y370))) fun (y368 : DD) =>
  some (y368)) else
  (bnd (FX9_adopt G y15.1 a p1 y4.2) fun y376 =>
  some (y376))) fun (y366 : DD) =>
  some (y366))) fun (y356 : DD) =>
  some (y356))) fun (y346 : DD) =>
  some (y346)) else
  (bnd (FX9_adopt G y15.1 a p1 y10.1) fun y377 =>
  some (y377))) fun (y344 : DD) =>
  some (y344)) else
  (bnd (if ((0 : Int32)) ≤ y6.2 then (bnd (if x21 = ((1 : Int32)) then (bnd (if y12 = ((0 : Int32)) then (bnd (if y14 = ((0 : Int32)) then (some (y10.1)) else
  (some (y6.2))) fun (y321 : Int32) =>
  some (y321)) else
  (some (y4.2))) fun (y318 : Int32) =>
  bnd (FX9_adopt G y15.1 a p1 y318) fun y319 =>
  some (y319)) else
  (bnd (FX9_adoptMedian G y15.1 a p1 y4.2 y6.2 y10.1) fun y317 =>
  some (y317))) fun (y315 : DD) =>
  some (y315)) else
  (bnd (if ((0 : Int32)) ≤ y10.1 then (bnd (if x21 = ((1 : Int32)) then (bnd (if y12 = ((0 : Int32)) then (bnd (if y14 = ((0 : Int32)) then (some (y10.1)) else
  (some (y6.2))) fun (y331 : Int32) =>
  some (y331)) else
  (some (y4.2))) fun (y328 : Int32) =>
  bnd (FX9_adopt G y15.1 a p1 y328) fun y329 =>
  some (y329)) else
  (bnd (FX9_adoptMedian G y15.1 a p1 y4.2 y6.2 y10.1) fun y327 =>
  some (y327))) fun (y325 : DD) =>
  some (y325)) else
  (bnd (if y4.2 < ((0 : Int32)) then (bnd (if x21 = ((1 : Int32)) then (bnd (if y12 = ((0 : Int32)) then (bnd (if y14 = ((0 : Int32)) then (some (y10.1)) else
  (some (y6.2))) fun (y341 : Int32) =>
  some (y341)) else
  (some (y4.2))) fun (y338 : Int32) =>
  bnd (FX9_adopt G y15.1 a p1 y338) fun y339 =>
  some (y339)) else
  (bnd (FX9_adoptMedian G y15.1 a p1 y4.2 y6.2 y10.1) fun y337 =>
  some (y337))) fun (y335 : DD) =>
  some (y335)) else
  (bnd (FX9_adopt G y15.1 a p1 y4.2) fun y343 =>
  some (y343))) fun (y333 : DD) =>
  some (y333))) fun (y323 : DD) =>
  some (y323))) fun (y313 : DD) =>
  some (y313))) fun (y311 : DD) =>
  some (y311))) fun (y309 : DD) =>
  some (y309))) fun (y237 : DD) =>
  some (y237)) else
  (bnd (FX9_adopt G y15.1 a p1 y6.2) fun y448 =>
  some (y448))) fun (y235 : DD) =>
  some (y235)) else
  (bnd (if p5 = ((2 : Int32)) then (bnd (if y12 = ((0 : Int32)) then (bnd (if p5 = ((4 : Int32)) then (bnd (if y16 = ((0 : Int32)) then (bnd (if ((0 : Int32)) ≤ y6.2 then (bnd (if x21 = ((1 : Int32)) then (bnd (if y12 = ((0 : Int32)) then (bnd (if y14 = ((0 : Int32)) then (some (y10.1)) else
  (some (y6.2))) fun (y71 : Int32) =>
  some (y71)) else
  (some (y4.2))) fun (y68 : Int32) =>
  bnd (FX9_adopt G y15.1 a p1 y68) fun y69 =>
  some (y69)) else
  (bnd (FX9_adoptMedian G y15.1 a p1 y4.2 y6.2 y10.1) fun y67 =>
  some (y67))) fun (y65 : DD) =>
  some (y65)) else
  (bnd (if ((0 : Int32)) ≤ y10.1 then (bnd (if x21 = ((1 : Int32)) then (bnd (if y12 = ((0 : Int32)) then (bnd (if y14 = ((0 : Int32)) then (some (y10.1)) else
  (some (y6.2))) fun (y81 : Int32) =>
  some (y81)) else
  (some (y4.2))) fun (y78 : Int32) =>
  bnd (FX9_adopt G y15.1 a p1 y78) fun y79 =>
  some (y79)) else
  (bnd (FX9_adoptMedian G y15.1 a p1 y4.2 y6.2 y10.1) fun y77 =>
  some (y77))) fun (y75 : DD) =>
  some (y75)) else
  (bnd (if y4.2 < ((0 : Int32)) then (bnd (if x21 = ((1 : Int32)) then (bnd (if y12 = ((0 : Int32)) then (bnd (if y14 = ((0 : Int32)) then (some (y10.1)) else
  (some (y6.2))) fun (y91 : Int32) =>
  some (y91)) else
  (some (y4.2))) fun (y88 : Int32) =>
  bnd (FX9_adopt G y15.1 a p1 y88) fun y89 =>
  some (y89)) else
  (bnd (FX9_adoptMedian G y15.1 a p1 y4.2 y6.2 y10.1) fun y87 =>
  some (y87))) fun (y85 : DD) =>
  some (y85)) else
  (bnd (FX9_adopt G y15.1 a p1 y4.2) fun y93 =>
  some (y93))) fun (y83 : DD) =>
  some (y83))) fun (y73 : DD) =>
  some (y73))) fun (y63 : DD) =>
  some (y63)) else
  (bnd (FX9_adopt G y15.1 a p1 y10.1) fun y94 =>
  some (y94))) fun (y61 : DD) =>
  some (y61)) else
  (bnd (if ((0 : Int32)) ≤ y6.2 then (bnd (if x21 = ((1 : Int32)) then (bnd (if y12 = ((0 : Int32)) then (bnd (if y14 = ((0 : Int32)) then (some (y10.1)) else
  (some (y6.2))) fun (y38 : Int32) =>
  some (y38)) else
  (some (y4.2))) fun (y35 : Int32) =>
  bnd (FX9_adopt G y15.1 a p1 y35) fun y36 =>
  some (y36)) else
  (bnd (FX9_adoptMedian G y15.1 a p1 y4.2 y6.2 y10.1) fun y34 =>
  some (y34))) fun (y32 : DD) =>
  some (y32)) else
  (bnd (if ((0 : Int32)) ≤ y10.1 then (bnd (if x21 = ((1 : Int32)) then (bnd (if y12 = ((0 : Int32)) then (bnd (if y14 = ((0 : Int32)) then (some (y10.1)) else
  (some (y6.2))) fun (y48 : Int32) =>
  some (y48)) else
  (some (y4.2))) fun (y45 : Int32) =>
  bnd (FX9_adopt G y15.1 a p1 y45) fun y46 =>
  some (y46)) else
  (bnd (FX9_adoptMedian G y15.1 a p1 y4.2 y6.2 y10.1) fun y44 =>
  some (y44))) fun (y42 : DD) =>
  some (y42)) else
  (bnd (if y4.2 < ((0 : Int32)) then (bnd (if x21 = ((1 : Int32)) then (bnd (if y12 = ((0 : Int32)) then (bnd (if y14 = ((0 : Int32)) then (some (y10.1)) else
  (some (y6.2))) fun (y58 : Int32) =>
  some (y58)) else
  (some (y4.2))) fun (y55 : Int32) =>
  bnd (FX9_adopt G y15.1 a p1 y55) fun y56 =>
  some (y56)) else
  (bnd (FX9_adoptMedian G y15.1 a p1 y4.2 y6.2 y10.1) fun y54 =>
  some (y54))) fun (y52 : DD) =>
  some (y52)) else
  (bnd (FX9_adopt G y15.1 a p1 y4.2) fun y60 =>
  some (y60))) fun (y50 : DD) =>
  some (y50))) fun (y40 : DD) =>
  some (y40))) fun (y30 : DD) =>
  some (y30))) fun (y28 : DD) =>
  some (y28)) else
  (bnd (FX9_adopt G y15.1 a p1 y4.2) fun y95 =>
  some (y95))) fun (y26 : DD) =>
  some (y26)) else
  (bnd (if p5 = ((3 : Int32)) then (bnd (if y12 = ((0 : Int32)) then (bnd (if p5 = ((4 : Int32)) then (bnd (if y16 = ((0 : Int32)) then (bnd (if ((0 : Int32)) ≤ y6.2 then (bnd (if x21 = ((1 : Int32)) then (bnd (if y12 = ((0 : Int32)) then (bnd (if y14 = ((0 : Int32)) then (some (y10.1)) else
  (some (y6.2))) fun (y210 : Int32) =>
  some (y210)) else
  (some (y4.2))) fun (y207 : Int32) =>
  bnd (FX9_adopt G y15.1 a p1 y207) fun y208 =>
  some (y208)) else
  (bnd (FX9_adoptMedian G y15.1 a p1 y4.2 y6.2 y10.1) fun y206 =>
  some (y206))) fun (y204 : DD) =>
  some (y204)) else
  (bnd (if ((0 : Int32)) ≤ y10.1 then (bnd (if x21 = ((1 : Int32)) then (bnd (if y12 = ((0 : Int32)) then (bnd (if y14 = ((0 : Int32)) then (some (y10.1)) else
  (some (y6.2))) fun (y220 : Int32) =>
  some (y220)) else
  (some (y4.2))) fun (y217 : Int32) =>
  bnd (FX9_adopt G y15.1 a p1 y217) fun y218 =>
  some (y218)) else
  (bnd (FX9_adoptMedian G y15.1 a p1 y4.2 y6.2 y10.1) fun y216 =>
  some (y216))) fun (y214 : DD) =>
  some (y214)) else
  (bnd (if y4.2 < ((0 : Int32)) then (bnd (if x21 = ((1 : Int32)) then (bnd (if y12 = ((0 : Int32)) then (bnd (if y14 = ((0 : Int32)) then (some (y10.1)) else
  (some (y6.2))) fun (y230 : Int32) =>
  some (y230)) else
  (some (y4.2))) fun (y227 : Int32) =>
  bnd (FX9_adopt G y15.1 a p1 y227) fun y228 =>
  some (y228)) else
  (bnd (FX9_adoptMedian G y15.1 a p1 y4.2 y6.2 y10.1) fun y226 =>
  some (y226))) fun (y224 : DD) =>
  some (y224)) else
  (bnd (FX9_adopt G y15.1 a p1 y4.2) fun y232 =>
  some (y232))) fun (y222 : DD) =>
  some (y222))) fun (y212 : DD) =>
  some (y212))) fun (y202 : DD) =>
  some (y202)) else
  (bnd (FX9_adopt G y15.1 a p1 y10.1) fun y233 =>
  some (y233))) fun (y200 : DD) =>
  some (y200)) else
  (bnd (if ((0 : Int32)) ≤ y6.2 then (bnd (if x21 = ((1 : Int32)) then (bnd (if y12 = ((0 : Int32)) then (bnd (if y14 = ((0 : Int32)) then (some (y10.1)) else
  (some (y6.2))) fun (y177 : Int32) =>
  some (y177)) else
  (some (y4.2))) fun (y174 : Int32) =>
  bnd (FX9_adopt G y15.1 a p1 y174) fun y175 =>
  some (y175)) else
  (bnd (FX9_adoptMedian G y15.1 a p1 y4.2 y6.2 y10.1) fun y173 =>
  some (y173))) fun (y171 : DD) =>
  some (y171)) else
  (bnd (if ((0 : Int32)) ≤ y10.1 then (bnd (if x21 = ((1 : Int32)) then (bnd (if y12 = ((0 : Int32)) then (bnd (if y14 = ((0 : Int32)) then (some (y10.1)) else
  (some (y6.2))) fun (y187 : Int32) =>
  some (y187)) else
  (some (y4.2))) fun (y184 : Int32) =>
  bnd (FX9_adopt G y15.1 a p1 y184) fun y185 =>
  some (y185)) else
  (bnd (FX9_adoptMedian G y15.1 a p1 y4.2 y6.2 y10.1) fun y183 =>
  some (y183))) fun (y181 : DD) =>
  some (y181)) else
  (bnd (if y4.2 < ((0 : Int32)) then (bnd (if x21 = ((1 : Int32)) then (bnd (if y12 = ((0 : Int32)) then (bnd (if y14 = ((0 : Int32)) then (some (y10.1)) else
  (some (y6.2))) fun (y197 : Int32) =>
  some (y197)) else
  (some (y4.2))) fun (y194 : Int32) =>
  bnd (FX9_adopt G y15.1 a p1 y194) fun y195 =>
  some (y195)) else
  (bnd (FX9_adoptMedian G y15.1 a p1 y4.2 y6.2 y10.1) fun y193 =>
  some (y193))) fun (y191 : DD) =>
  some (y191)) else
  (bnd (FX9_adopt G y15.1 a p1 y4.2) fun y199 =>
  some (y199))) fun (y189 : DD) =>
  some (y189))) fun (y179 : DD) =>
  some (y179))) fun (y169 : DD) =>
  some (y169))) fun (y167 : DD) =>
  some (y167)) else
  (bnd (FX9_adopt G y15.1 a p1 y4.2) fun y234 =>
  some (y234))) fun (y165 : DD) =>
  some (y165)) else
  (bnd (if p5 = ((4 : Int32)) then (bnd (if y16 = ((0 : Int32)) then (bnd (if ((0 : Int32)) ≤ y6.2 then (bnd (if x21 = ((1 : Int32)) then (bnd (if y12 = ((0 : Int32)) then (bnd (if y14 = ((0 : Int32)) then (some (y10.1)) else
  (some (y6.2))) fun (y141 : Int32) =>
  some (y141)) else
  (some (y4.2))) fun (y138 : Int32) =>
  bnd (FX9_adopt G y15.1 a p1 y138) fun y139 =>
  some (y139)) else
  (bnd (FX9_adoptMedian G y15.1 a p1 y4.2 y6.2 y10.1) fun y137 =>
  some (y137))) fun (y135 : DD) =>
  some (y135)) else
  (bnd (if ((0 : Int32)) ≤ y10.1 then (bnd (if x21 = ((1 : Int32)) then (bnd (if y12 = ((0 : Int32)) then (bnd (if y14 = ((0 : Int32)) then (some (y10.1)) else
  (some (y6.2))) fun (y151 : Int32) =>
  some (y151)) else
  (some (y4.2))) fun (y148 : Int32) =>
  bnd (FX9_adopt G y15.1 a p1 y148) fun y149 =>
  some (y149)) else
  (bnd (FX9_adoptMedian G y15.1 a p1 y4.2 y6.2 y10.1) fun y147 =>
  some (y147))) fun (y145 : DD) =>
  some (y145)) else
  (bnd (if y4.2 < ((0 : Int32)) then (bnd (if x21 = ((1 : Int32)) then (bnd (if y12 = ((0 : Int32)) then (bnd (if y14 = ((0 : Int32)) then (some (y10.1)) else
  (some (y6.2))) fun (y161 : Int32) =>
  some (y161)) else
  (some (y4.2))) fun (y158 : Int32) =>
  bnd (FX9_adopt G y15.1 a p1 y158) fun y159 =>
  some (y159)) else
  (bnd (FX9_adoptMedian G y15.1 a p1 y4.2 y6.2 y10.1) fun y157 =>
  some (y157))) fun (y155 : DD) =>
  some (y155)) else
  (bnd (FX9_adopt G y15.1 a p1 y4.2) fun y163 =>
  some (y163))) fun (y153 : DD) =>
  some (y153))) fun (y143 : DD) =>
  some (y143))) fun (y133 : DD) =>
  some (y133)) else
  (bnd (FX9_adopt G y15.1 a p1 y10.1) fun y164 =>
  some (y164))) fun (y131 : DD) =>
  some (y131)) else
  (bnd (if ((0 : Int32)) ≤ y6.2 then (bnd (if x21 = ((1 : Int32)) then (bnd (if y12 = ((0 : Int32)) then (bnd (if y14 = ((0 : Int32)) then (some (y10.1)) else
  (some (y6.2))) fun (y108 : Int32) =>
  some (y108)) else
  (some (y4.2))) fun (y105 : Int32) =>
  bnd (FX9_adopt G y15.1 a p1 y105) fun y106 =>
  some (y106)) else
  (bnd (FX9_adoptMedian G y15.1 a p1 y4.2 y6.2 y10.1) fun y104 =>
  some (y104))) fun (y102 : DD) =>
  some (y102)) else
  (bnd (if ((0 : Int32)) ≤ y10.1 then (bnd (if x21 = ((1 : Int32)) then (bnd (if y12 = ((0 : Int32)) then (bnd (if y14 = ((0 : Int32)) then (some (y10.1)) else
  (some (y6.2))) fun (y118 : Int32) =>
  some (y118)) else
  (some (y4.2))) fun (y115 : Int32) =>
  bnd (FX9_adopt G y15.1 a p1 y115) fun y116 =>
  some (y116)) else
  (bnd (FX9_adoptMedian G y15.1 a p1 y4.2 y6.2 y10.1) fun y114 =>
  some (y114))) fun (y112 : DD) =>
  some (y112)) else
  (bnd (if y4.2 < ((0 : Int32)) then (bnd (if x21 = ((1 : Int32)) then (bnd (if y12 = ((0 : Int32)) then (bnd (if y14 = ((0 : Int32)) then (some (y10.1)) else
  (some (y6.2))) fun (y128 : Int32) =>
  some (y128)) else
  (some (y4.2))) fun (y125 : Int32) =>
  bnd (FX9_adopt G y15.1 a p1 y125) fun y126 =>
  some (y126)) else
  (bnd (FX9_adoptMedian G y15.1 a p1 y4.2 y6.2 y10.1) fun y124 =>
  some (y124))) fun (y122 : DD) =>
  some (y122)) else
  (bnd (FX9_adopt G y15.1 a p1 y4.2) fun y130 =>
  some (y130))) fun (y120 : DD) =>
  some (y120))) fun (y110 : DD) =>
  some (y110))) fun (y100 : DD) =>
  some (y100))) fun (y98 : DD) =>
  some (y98))) fun (y96 : DD) =>
  some (y96))) fun (y24 : DD) =>
  some (y24))) fun (y22 : DD) =>
  some y22
set_option maxHeartbeats 4000000 in
set_option maxRecDepth 100000 in
def FX9_guessMode (G : GG) (M : DD) (a : Nat) (p0 : Int32) (p1 : Int32) : Option (DD × Int32) :=
  bnd (FX9_pieceX G M p1) fun y1 =>
  ltt ((y1.2 - ((1 : Int32)))) fun x2 =>
  bnd (FX9_pieceY G y1.1 p1) fun y3 =>
  bnd (FX9_pieceAt G y3.1 a p0 x2 y3.2 ((16 : Int32))) fun y4 =>
  bnd (FX9_modeAt G y4.1 a y4.2) fun y5 =>
  bnd (FX9_pieceX G y5.1 p1) fun y6 =>
  bnd (FX9_pieceY G y6.1 p1) fun y7 =>
  ltt ((y7.2 - ((1 : Int32)))) fun x8 =>
  bnd (FX9_pieceAt G y7.1 a p0 y6.2 x8 ((16 : Int32))) fun y9 =>
  bnd (FX9_modeAt G y9.1 a y9.2) fun y10 =>
  bnd (if y5.2 < ((0 : Int32)) then (some ((2 : Int32))) else
  (bnd (if ((0 : Int32)) ≤ y10.2 then (bnd (if y10.2 ≤ y5.2 then (some (y10.2)) else
  (some (y5.2))) fun (y15 : Int32) =>
  some (y15)) else
  (some ((2 : Int32)))) fun (y13 : Int32) =>
  some (y13))) fun (y11 : Int32) =>
  some (y10.1, y11)
set_option maxHeartbeats 4000000 in
set_option maxRecDepth 100000 in
def FX9_guessSkipped (G : GG) (M : DD) (a : Nat) (p0 : Int32) : Option (DD) :=
  bnd (FX9_pieceAt G M a p0 ((-1 : Int32)) ((0 : Int32)) ((0 : Int32))) fun y1 =>
  bnd (FX9_pieceAt G y1.1 a p0 ((0 : Int32)) ((-1 : Int32)) ((0 : Int32))) fun y2 =>
  ltt (uI y2.1 a 18 ((0 : Int32))) fun M3 =>
  ltt (uI M3 a 19 ((0 : Int32))) fun M4 =>
  bnd (if y1.2 < ((0 : Int32)) then (some (M4)) else
  (bnd (if y2.2 < ((0 : Int32)) then (some (M4)) else
  (bnd (FX9_isAtRest G M4 a y1.2) fun y9 =>
  bnd (if y9.2 = ((0 : Int32)) then (bnd (FX9_isAtRest G y9.1 a y2.2) fun y12 =>
  bnd (if y12.2 = ((0 : Int32)) then (bnd (FX9_guess G y12.1 a p0 ((0 : Int32)) ((0 : Int32)) ((0 : Int32)) ((16 : Int32)) ((0 : Int32))) fun y15 =>
  some (y15)) else
  (some (y12.1))) fun (y13 : DD) =>
  some (y13)) else
  (some (y9.1))) fun (y10 : DD) =>
  some (y10))) fun (y7 : DD) =>
  some (y7))) fun (y5 : DD) =>
  some y5
set_option maxHeartbeats 4000000 in
set_option maxRecDepth 100000 in
def FX9_leastReference (G : GG) (M : DD) (a : Nat) (p0 : Int32) (p1 : Int32) : Option (DD × Int32) :=
  bnd (FX9_pieceAt G M a p0 ((16 : Int32)) ((-1 : Int32)) ((0 : Int32))) fun y1 =>
  bnd (if ((0 : Int32)) ≤ y1.2 then (some (y1.2, y1.1)) else
  (bnd (FX9_pieceAt G y1.1 a p0 ((-1 : Int32)) ((-1 : Int32)) ((0 : Int32))) fun y21 =>
  some (y21.2, y21.1))) fun (y2 : Int32 × DD) =>
  bnd (FX9_pieceAt G y2.2 a p0 ((-1 : Int32)) ((0 : Int32)) ((0 : Int32))) fun y3 =>
  bnd (FX9_referenceAt G y3.1 a p1 y3.2) fun y4 =>
  bnd (FX9_pieceAt G y4.1 a p0 ((0 : Int32)) ((-1 : Int32)) ((0 : Int32))) fun y5 =>
  bnd (FX9_referenceAt G y5.1 a p1 y5.2) fun y6 =>
  bnd (FX9_referenceAt G y6.1 a p1 y2.1) fun y7 =>
  bnd (if y4.2 < ((0 : Int32)) then (some (y6.2)) else
  (bnd (if y6.2 < ((0 : Int32)) then (some (y4.2)) else
  (bnd (if y4.2 ≤ y6.2 then (some (y4.2)) else
  (some (y6.2))) fun (y18 : Int32) =>
  some (y18))) fun (y16 : Int32) =>
  some (y16))) fun (y8 : Int32) =>
  bnd (if y8 < ((0 : Int32)) then (some (y7.2)) else
  (bnd (if y7.2 < ((0 : Int32)) then (some (y8)) else
  (bnd (if y8 ≤ y7.2 then (some (y8)) else
  (some (y7.2))) fun (y13 : Int32) =>
  some (y13))) fun (y11 : Int32) =>
  some (y11))) fun (y9 : Int32) =>
  some (y7.1, y9)
set_option maxHeartbeats 4000000 in
set_option maxRecDepth 100000 in
def FX9_plan (G : GG) (M : DD) (a : Nat) (p0 : Int32) (p1 : Int32) : Option (DD) :=
  ltt (uI M a 14 ((0 : Int32))) fun M1 =>
  ltt (uI M1 a 16 ((0 : Int32))) fun M2 =>
  if p0 = ((0 : Int32)) then (if p1 ≤ ((2 : Int32)) then (bnd (if p0 = ((0 : Int32)) then (some (p1)) else
  (bnd (if ((4 : Int32)) ≤ p1 then (ltt (p1 - p1 / ((2 : Int32)) * ((2 : Int32))) fun x77 =>
  ltt ((((1 : Int32)) + x77)) fun x78 =>
  some (x78)) else
  (some ((0 : Int32)))) fun (y75 : Int32) =>
  some (y75))) fun (y46 : Int32) =>
  ltt ((p1 - ((4 : Int32)))) fun x47 =>
  ltt ((x47 &&& ((-2 : Int32)))) fun x48 =>
  bnd (if p0 = ((0 : Int32)) then (some ((1 : Int32))) else
  (bnd (if ((4 : Int32)) ≤ p1 then (chk (¬ (x48 < 0 ∨ 18 ≤ x48.toNatClampNeg)) <|
  ltt ((sT 16).getD x48.toNatClampNeg 0) fun x73 =>
  some (x73)) else
  (some (p1))) fun (y71 : Int32) =>
  some (y71))) fun (y49 : Int32) =>
  bnd (if p0 = ((0 : Int32)) then (some (y49)) else
  (bnd (if ((4 : Int32)) ≤ p1 then (ltt ((x48 + ((1 : Int32)))) fun x68 =>
  chk (¬ (x68 < 0 ∨ 18 ≤ x68.toNatClampNeg)) <|
  ltt ((sT 16).getD x68.toNatClampNeg 0) fun x69 =>
  some (x69)) else
  (some (y49))) fun (y66 : Int32) =>
  some (y66))) fun (y50 : Int32) =>
  bnd (if y46 = ((0 : Int32)) then (bnd (FX9_addGroup G M2 a ((0 : Int32)) ((16 : Int32)) ((16 : Int32)) y49) fun y63 =>
  bnd (FX9_addPart G y63 a ((0 : Int32)) ((16 : Int32)) ((16 : Int32)) ((0 : Int32))) fun y64 =>
  some (y64)) else
  (bnd (if y46 = ((1 : Int32)) then (bnd (FX9_addGroup G M2 a ((0 : Int32)) ((16 : Int32)) ((8 : Int32)) y49) fun y59 =>
  bnd (FX9_addPart G y59 a ((0 : Int32)) ((16 : Int32)) ((8 : Int32)) ((1 : Int32))) fun y60 =>
  bnd (FX9_addGroup G y60 a ((8 : Int32)) ((16 : Int32)) ((8 : Int32)) y50) fun y61 =>
  bnd (FX9_addPart G y61 a ((8 : Int32)) ((16 : Int32)) ((8 : Int32)) ((2 : Int32))) fun y62 =>
  some (y62)) else
  (bnd (FX9_addGroup G M2 a ((0 : Int32)) ((8 : Int32)) ((16 : Int32)) y49) fun y55 =>
  bnd (FX9_addPart G y55 a ((0 : Int32)) ((8 : Int32)) ((16 : Int32)) ((3 : Int32))) fun y56 =>
  bnd (FX9_addGroup G y56 a ((4 : Int32)) ((8 : Int32)) ((16 : Int32)) y50) fun y57 =>
  bnd (FX9_addPart G y57 a ((4 : Int32)) ((8 : Int32)) ((16 : Int32)) ((4 : Int32))) fun y58 =>
  some (y58))) fun (y53 : DD) =>
  some (y53))) fun (y51 : DD) =>
  some y51) else
  (bnd (itr (fun (s80 : Int32 × DD) => ((if ((4 : Int32)) ≤ s80.1 then (some (.inr (s80.1, s80.2))) else
  (bnd (FX9_planQuarter G s80.2 a p0 s80.1) fun y84 =>
  ltt (s80.1 + (1 : Int32)) fun x85 =>
  some (.inl (x85, y84)))) : Option ((Int32 × DD) ⊕ (Int32 × DD)))) 1000000 ((0 : Int32), M2)) fun (y79 : Int32 × DD) =>
  some y79.2)) else
  (if p1 = ((22 : Int32)) then (bnd (itr (fun (s39 : Int32 × DD) => ((if ((4 : Int32)) ≤ s39.1 then (some (.inr (s39.1, s39.2))) else
  (bnd (FX9_planQuarter G s39.2 a p0 s39.1) fun y43 =>
  ltt (s39.1 + (1 : Int32)) fun x44 =>
  some (.inl (x44, y43)))) : Option ((Int32 × DD) ⊕ (Int32 × DD)))) 1000000 ((0 : Int32), M2)) fun (y38 : Int32 × DD) =>
  some y38.2) else
  (bnd (if p0 = ((0 : Int32)) then (some (p1)) else
  (bnd (if ((4 : Int32)) ≤ p1 then (ltt (p1 - p1 / ((2 : Int32)) * ((2 : Int32))) fun x36 =>
  ltt ((((1 : Int32)) + x36)) fun x37 =>
  some (x37)) else
  (some ((0 : Int32)))) fun (y34 : Int32) =>
  some (y34))) fun (y5 : Int32) =>
  ltt ((p1 - ((4 : Int32)))) fun x6 =>
  ltt ((x6 &&& ((-2 : Int32)))) fun x7 =>
  bnd (if p0 = ((0 : Int32)) then (some ((1 : Int32))) else
  (bnd (if ((4 : Int32)) ≤ p1 then (chk (¬ (x7 < 0 ∨ 18 ≤ x7.toNatClampNeg)) <|
  ltt ((sT 16).getD x7.toNatClampNeg 0) fun x32 =>
  some (x32)) else
  (some (p1))) fun (y30 : Int32) =>
  some (y30))) fun (y8 : Int32) =>
  bnd (if p0 = ((0 : Int32)) then (some (y8)) else
  (bnd (if ((4 : Int32)) ≤ p1 then (ltt ((x7 + ((1 : Int32)))) fun x27 =>
  chk (¬ (x27 < 0 ∨ 18 ≤ x27.toNatClampNeg)) <|
  ltt ((sT 16).getD x27.toNatClampNeg 0) fun x28 =>
  some (x28)) else
  (some (y8))) fun (y25 : Int32) =>
  some (y25))) fun (y9 : Int32) =>
  bnd (if y5 = ((0 : Int32)) then (bnd (FX9_addGroup G M2 a ((0 : Int32)) ((16 : Int32)) ((16 : Int32)) y8) fun y22 =>
  bnd (FX9_addPart G y22 a ((0 : Int32)) ((16 : Int32)) ((16 : Int32)) ((0 : Int32))) fun y23 =>
  some (y23)) else
  (bnd (if y5 = ((1 : Int32)) then (bnd (FX9_addGroup G M2 a ((0 : Int32)) ((16 : Int32)) ((8 : Int32)) y8) fun y18 =>
  bnd (FX9_addPart G y18 a ((0 : Int32)) ((16 : Int32)) ((8 : Int32)) ((1 : Int32))) fun y19 =>
  bnd (FX9_addGroup G y19 a ((8 : Int32)) ((16 : Int32)) ((8 : Int32)) y9) fun y20 =>
  bnd (FX9_addPart G y20 a ((8 : Int32)) ((16 : Int32)) ((8 : Int32)) ((2 : Int32))) fun y21 =>
  some (y21)) else
  (bnd (FX9_addGroup G M2 a ((0 : Int32)) ((8 : Int32)) ((16 : Int32)) y8) fun y14 =>
  bnd (FX9_addPart G y14 a ((0 : Int32)) ((8 : Int32)) ((16 : Int32)) ((3 : Int32))) fun y15 =>
  bnd (FX9_addGroup G y15 a ((4 : Int32)) ((8 : Int32)) ((16 : Int32)) y9) fun y16 =>
  bnd (FX9_addPart G y16 a ((4 : Int32)) ((8 : Int32)) ((16 : Int32)) ((4 : Int32))) fun y17 =>
  some (y17))) fun (y12 : DD) =>
  some (y12))) fun (y10 : DD) =>
  some y10))
set_option maxHeartbeats 4000000 in
set_option maxRecDepth 100000 in
def FX9_skip (G : GG) (M : DD) (a : Nat) (p0 : Int32) : Option (DD) :=
  bnd (FX9_guessSkipped G M a p0) fun y1 =>
  bnd (FX9_plan G y1 a ((0 : Int32)) ((0 : Int32))) fun y2 =>
  bnd (FX9_setReference G y2 a p0 ((0 : Int32)) ((0 : Int32)) ((0 : Int32))) fun y3 =>
  ltt (y3.1 a 18) fun x4 =>
  ltt (y3.1 a 19) fun x5 =>
  bnd (FX9_setMove G y3 a p0 ((0 : Int32)) ((0 : Int32)) x4 x5) fun y6 =>
  some y6
set_option maxHeartbeats 4000000 in
set_option maxRecDepth 100000 in
def FX9_tokenTable (G : GG) (M : DD) (a : Nat) (p0 : Int32) (p1 : Int32) : Option (DD × Int32) :=
  bnd (if ((16 : Int32)) ≤ p1 then (ltt (p1 - p1 / ((2 : Int32)) * ((2 : Int32))) fun x16 =>
  bnd (if x16 = ((0 : Int32)) then (some ((-1 : Int32))) else
  (some ((0 : Int32)))) fun (y17 : Int32) =>
  bnd (FX9_pieceAt G M a p0 y17 ((0 : Int32)) ((16 : Int32))) fun y18 =>
  ltt ((p1 ^^^ ((1 : Int32)))) fun x19 =>
  bnd (FX9_totalAt G y18.1 a y18.2 x19) fun y20 =>
  ltt (p1 - p1 / ((4 : Int32)) * ((4 : Int32))) fun x21 =>
  bnd (if ((2 : Int32)) ≤ x21 then (some ((0 : Int32))) else
  (some ((-1 : Int32)))) fun (y22 : Int32) =>
  bnd (FX9_pieceAt G y20.1 a p0 ((0 : Int32)) y22 ((16 : Int32))) fun y23 =>
  ltt ((p1 ^^^ ((2 : Int32)))) fun x24 =>
  bnd (FX9_totalAt G y23.1 a y23.2 x24) fun y25 =>
  some (y20.2, y25.2, y25.1)) else
  (bnd (FX9_pieceX G M p1) fun y28 =>
  ltt ((y28.2 - ((1 : Int32)))) fun x29 =>
  bnd (FX9_pieceY G y28.1 p1) fun y30 =>
  bnd (FX9_pieceAt G y30.1 a p0 x29 y30.2 ((16 : Int32))) fun y31 =>
  bnd (FX9_totalAt G y31.1 a y31.2 ((-1 : Int32))) fun y32 =>
  bnd (FX9_pieceX G y32.1 p1) fun y33 =>
  bnd (FX9_pieceY G y33.1 p1) fun y34 =>
  ltt ((y34.2 - ((1 : Int32)))) fun x35 =>
  bnd (FX9_pieceAt G y34.1 a p0 y33.2 x35 ((16 : Int32))) fun y36 =>
  bnd (FX9_totalAt G y36.1 a y36.2 ((-1 : Int32))) fun y37 =>
  some (y32.2, y37.2, y37.1))) fun (y1 : Int32 × Int32 × DD) =>
  bnd (if ((0 : Int32)) ≤ y1.1 then (bnd (if ((0 : Int32)) ≤ y1.2.1 then (ltt ((y1.1 + y1.2.1)) fun x12 =>
  ltt ((x12 + ((1 : Int32)))) fun x13 =>
  ltt ((x13 >>> (((1 : Int32)) &&& 31))) fun x14 =>
  some (x14)) else
  (some (y1.1))) fun (y10 : Int32) =>
  some (y10)) else
  (some (y1.2.1))) fun (y2 : Int32) =>
  bnd (if ((2 : Int32)) ≤ y2 then (bnd (if ((4 : Int32)) ≤ y2 then (bnd (if ((8 : Int32)) ≤ y2 then (some ((3 : Int32))) else
  (some ((2 : Int32)))) fun (y7 : Int32) =>
  some (y7)) else
  (some ((1 : Int32)))) fun (y5 : Int32) =>
  some (y5)) else
  (some ((0 : Int32)))) fun (y3 : Int32) =>
  some (y1.2.2, y3)
set_option maxHeartbeats 4000000 in
set_option maxRecDepth 100000 in
def FL_paint (G : GG) (M : DD) (p0 : Option Nat) (p1 : Int32) (p2 : Int32) (p3 : Int32) (p4 : Int32) (p5 : Option Nat) : Option (DD × Int32) :=
  dr G 11 p0 fun b2 =>
  bnd (FX11_paint G M b2 p1 p2 p3 p4) fun y3 =>
  dr G 13 p5 fun b4 =>
  chk (¬ (((0 : Int32)) < 0 ∨ G.2.2 b4 ≤ ((0 : Int32)).toNatClampNeg)) <|
  ltt (uI y3.1 b4 ((0 : Int32)).toNatClampNeg y3.2) fun M5 =>
  some (M5, (0 : Int32))
set_option maxHeartbeats 4000000 in
set_option maxRecDepth 100000 in
def FL_picture (G : GG) (M : DD) (p0 : Option Nat) (p1 : Int32) (p2 : Int32) (p3 : Option Nat) : Option (DD × Int32) :=
  dr G 11 p0 fun b2 =>
  bnd (FX11_picture G M b2 p1 p2) fun y3 =>
  dr G 13 p3 fun b4 =>
  chk (¬ (((0 : Int32)) < 0 ∨ G.2.2 b4 ≤ ((0 : Int32)).toNatClampNeg)) <|
  ltt (uI y3.1 b4 ((0 : Int32)).toNatClampNeg y3.2) fun M5 =>
  some (M5, (0 : Int32))
set_option maxHeartbeats 4000000 in
set_option maxRecDepth 100000 in
noncomputable def FX0_beginPicture (G : GG) (M : DD) (a : Nat) (p0 : Int32) (p1 : Int32) : Option (NN × DD) :=
  ltt (M.1 a 11) fun x1 =>
  ltt (M.1 a 10) fun x2 =>
  ltt ((x1 - x2)) fun x3 =>
  ltt ((x3 + p0)) fun x4 =>
  bnd (if p1 = ((2 : Int32)) then (some ((1 : Int32))) else
  (some ((0 : Int32)))) fun (y5 : Int32) =>
  dr (xt G []) 9 ((M.2 a 3)) fun b6 =>
  dr (xt G []) 3 ((M.2 b6 1)) fun b7 =>
  bnd (FJ7_fill_53178 (xt G []) M ((M.2 b7 0)) ((0 : Int32))) fun y8 =>
  bnd (if y5 = ((0 : Int32)) then (ltt (y8.1 a 12) fun x107 =>
  some (x107)) else
  (some (x4))) fun (y9 : Int32) =>
  ltt (uI y8 a 12 y9) fun M10 =>
  bnd (if y5 = ((0 : Int32)) then (some ((1 : Int32))) else
  (some ((5 : Int32)))) fun (y11 : Int32) =>
  dr (xt G []) 13 ((M.2 b7 0)) fun b12 =>
  chk (¬ (((18 : Int32)) < 0 ∨ (xt G []).2.2 b12 ≤ ((18 : Int32)).toNatClampNeg)) <|
  ltt (uI M10 b12 ((18 : Int32)).toNatClampNeg y11) fun M13 =>
  chk (¬ (((1 : Int32)) < 0 ∨ (xt G []).2.2 b12 ≤ ((1 : Int32)).toNatClampNeg)) <|
  ltt (uI M13 b12 ((1 : Int32)).toNatClampNeg p1) fun M14 =>
  bnd (if p1 = ((1 : Int32)) then (some ((0 : Int32))) else
  (some ((1 : Int32)))) fun (y15 : Int32) =>
  chk (¬ (((11 : Int32)) < 0 ∨ (xt G []).2.2 b12 ≤ ((11 : Int32)).toNatClampNeg)) <|
  ltt (uI M14 b12 ((11 : Int32)).toNatClampNeg y15) fun M16 =>
  bnd (if y5 = ((0 : Int32)) then (dr (xt G []) 7 ((M16.2 a 6)) fun b100 =>
  ltt (M16.1 b100 5) fun x101 =>
  ltt ((x101 + ((1 : Int32)))) fun x102 =>
  ltt (x102 - x102 / ((256 : Int32)) * ((256 : Int32))) fun x103 =>
  some (x103)) else
  (some ((0 : Int32)))) fun (y17 : Int32) =>
  chk (¬ (((3 : Int32)) < 0 ∨ (xt G []).2.2 b12 ≤ ((3 : Int32)).toNatClampNeg)) <|
  ltt (uI M16 b12 ((3 : Int32)).toNatClampNeg y17) fun M18 =>
  ltt (M18.1 a 12) fun x19 =>
  ltt ((x4 - x19)) fun x20 =>
  ltt ((((2 : Int32)) * x20)) fun x21 =>
  chk (¬ (((17 : Int32)) < 0 ∨ (xt G []).2.2 b12 ≤ ((17 : Int32)).toNatClampNeg)) <|
  ltt (uI M18 b12 ((17 : Int32)).toNatClampNeg x21) fun M22 =>
  dr (xt G []) 13 ((M22.2 a 1)) fun b23 =>
  chk (¬ (((18 : Int32)) < 0 ∨ (xt G []).2.2 b23 ≤ ((18 : Int32)).toNatClampNeg)) <|
  ltt (M22.1 b23 ((18 : Int32)).toNatClampNeg) fun x24 =>
  bnd (if x24 = ((0 : Int32)) then (chk (¬ (((17 : Int32)) < 0 ∨ (xt G []).2.2 b12 ≤ ((17 : Int32)).toNatClampNeg)) <|
  ltt (M22.1 b12 ((17 : Int32)).toNatClampNeg) fun x97 =>
  ltt ((x97 &&& ((255 : Int32)))) fun x98 =>
  some (x98)) else
  (some ((0 : Int32)))) fun (y25 : Int32) =>
  chk (¬ (((5 : Int32)) < 0 ∨ (xt G []).2.2 b12 ≤ ((5 : Int32)).toNatClampNeg)) <|
  ltt (uI M22 b12 ((5 : Int32)).toNatClampNeg y25) fun M26 =>
  dr (xt G []) 13 ((M26.2 a 1)) fun b27 =>
  chk (¬ (((22 : Int32)) < 0 ∨ (xt G []).2.2 b27 ≤ ((22 : Int32)).toNatClampNeg)) <|
  ltt (M26.1 b27 ((22 : Int32)).toNatClampNeg) fun x28 =>
  chk (¬ (((8 : Int32)) < 0 ∨ (xt G []).2.2 b12 ≤ ((8 : Int32)).toNatClampNeg)) <|
  ltt (uI M26 b12 ((8 : Int32)).toNatClampNeg x28) fun M29 =>
  dr (xt G []) 13 ((M29.2 a 1)) fun b30 =>
  chk (¬ (((13 : Int32)) < 0 ∨ (xt G []).2.2 b30 ≤ ((13 : Int32)).toNatClampNeg)) <|
  ltt (M29.1 b30 ((13 : Int32)).toNatClampNeg) fun x31 =>
  chk (¬ (((13 : Int32)) < 0 ∨ (xt G []).2.2 b12 ≤ ((13 : Int32)).toNatClampNeg)) <|
  ltt (uI M29 b12 ((13 : Int32)).toNatClampNeg x31) fun M32 =>
  dr (xt G []) 13 ((M32.2 a 1)) fun b33 =>
  chk (¬ (((13 : Int32)) < 0 ∨ (xt G []).2.2 b33 ≤ ((13 : Int32)).toNatClampNeg)) <|
  ltt (M32.1 b33 ((13 : Int32)).toNatClampNeg) fun x34 =>
  bnd (if x34 = ((1 : Int32)) then (some ((0 : Int32))) else
  (chk (¬ (((14 : Int32)) < 0 ∨ (xt G []).2.2 b33 ≤ ((14 : Int32)).toNatClampNeg)) <|
  ltt (M32.1 b33 ((14 : Int32)).toNatClampNeg) fun x95 =>
  some (x95))) fun (y35 : Int32) =>
  chk (¬ (((14 : Int32)) < 0 ∨ (xt G []).2.2 b12 ≤ ((14 : Int32)).toNatClampNeg)) <|
  ltt (uI M32 b12 ((14 : Int32)).toNatClampNeg y35) fun M36 =>
  dr (xt G []) 13 ((M36.2 a 1)) fun b37 =>
  chk (¬ (((13 : Int32)) < 0 ∨ (xt G []).2.2 b37 ≤ ((13 : Int32)).toNatClampNeg)) <|
  ltt (M36.1 b37 ((13 : Int32)).toNatClampNeg) fun x38 =>
  bnd (if x38 = ((1 : Int32)) then (some ((0 : Int32))) else
  (chk (¬ (((15 : Int32)) < 0 ∨ (xt G []).2.2 b37 ≤ ((15 : Int32)).toNatClampNeg)) <|
  ltt (M36.1 b37 ((15 : Int32)).toNatClampNeg) fun x93 =>
  some (x93))) fun (y39 : Int32) =>
  chk (¬ (((15 : Int32)) < 0 ∨ (xt G []).2.2 b12 ≤ ((15 : Int32)).toNatClampNeg)) <|
  ltt (uI M36 b12 ((15 : Int32)).toNatClampNeg y39) fun M40 =>
  bnd (if y5 = ((0 : Int32)) then (dr (xt G []) 7 ((M40.2 a 6)) fun b76 =>
  bnd (FX7_shorts (xt G []) M40 b76) fun y77 =>
  dr (xt G []) 13 ((y77.1.2 a 1)) fun b78 =>
  chk (¬ (((7 : Int32)) < 0 ∨ (xt G []).2.2 b78 ≤ ((7 : Int32)).toNatClampNeg)) <|
  ltt (y77.1.1 b78 ((7 : Int32)).toNatClampNeg) fun x79 =>
  bnd (if x79 ≤ y77.2 then (chk (¬ (((7 : Int32)) < 0 ∨ (xt G []).2.2 b78 ≤ ((7 : Int32)).toNatClampNeg)) <|
  ltt (y77.1.1 b78 ((7 : Int32)).toNatClampNeg) fun x86 =>
  some (x86)) else
  (some (y77.2))) fun (y80 : Int32) =>
  chk (¬ (((9 : Int32)) < 0 ∨ (xt G []).2.2 b12 ≤ ((9 : Int32)).toNatClampNeg)) <|
  ltt (uI y77.1 b12 ((9 : Int32)).toNatClampNeg y80) fun M81 =>
  bnd (if p1 = ((1 : Int32)) then (some ((1 : Int32))) else
  (some ((0 : Int32)))) fun (y82 : Int32) =>
  chk (¬ (((10 : Int32)) < 0 ∨ (xt G []).2.2 b12 ≤ ((10 : Int32)).toNatClampNeg)) <|
  ltt (uI M81 b12 ((10 : Int32)).toNatClampNeg y82) fun M83 =>
  some (M83)) else
  (ltt (M40.1 a 13) fun x87 =>
  chk (¬ (((4 : Int32)) < 0 ∨ (xt G []).2.2 b12 ≤ ((4 : Int32)).toNatClampNeg)) <|
  ltt (uI M40 b12 ((4 : Int32)).toNatClampNeg x87) fun M88 =>
  ltt (M88.1 a 13) fun x89 =>
  ltt ((((1 : Int32)) - x89)) fun x90 =>
  ltt (uI M88 a 13 x90) fun M91 =>
  some (M91))) fun (y41 : DD) =>
  bnd (itr (fun (s43 : Int32 × DD) => ((if ((3 : Int32)) ≤ s43.1 then (some (.inr (s43.1, s43.2))) else
  (ltt ((((3 : Int32)) * p0)) fun x68 =>
  ltt ((x68 + s43.1)) fun x69 =>
  dr (xt G []) 15 ((s43.2.2 a 8)) fun b70 =>
  chk (¬ (x69 < 0 ∨ (xt G []).2.2 b70 ≤ x69.toNatClampNeg)) <|
  dr (xt G []) 15 ((s43.2.2 a 9)) fun b71 =>
  dr (xt G []) 13 ((s43.2.2 b70 x69.toNatClampNeg)) fun b72 =>
  chk (¬ (s43.1 < 0 ∨ (xt G []).2.2 b71 ≤ s43.1.toNatClampNeg)) <|
  ltt (uP s43.2 b71 s43.1.toNatClampNeg (some b72)) fun M73 =>
  ltt (s43.1 + (1 : Int32)) fun x74 =>
  some (.inl (x74, M73)))) : Option ((Int32 × DD) ⊕ (Int32 × DD)))) 1000000 ((0 : Int32), y41)) fun (y42 : Int32 × DD) =>
  dr (xt G []) 13 ((y42.2.2 a 1)) fun b45 =>
  chk (¬ (((0 : Int32)) < 0 ∨ (xt G []).2.2 b45 ≤ ((0 : Int32)).toNatClampNeg)) <|
  ltt (y42.2.1 b45 ((0 : Int32)).toNatClampNeg) fun x46 =>
  chk (¬ (((1 : Int32)) < 0 ∨ (xt G []).2.2 b45 ≤ ((1 : Int32)).toNatClampNeg)) <|
  ltt (y42.2.1 b45 ((1 : Int32)).toNatClampNeg) fun x47 =>
  dr (xt G []) 7 ((y42.2.2 a 6)) fun b48 =>
  chk (okd (xt G []) ((M.2 b7 0)) = true) <|
  chk (okd (xt G []) ((y42.2.2 a 3)) = true) <|
  bnd (FX7_fresh (xt G []) y42.2 b48 x46 x47) fun y49 =>
  app y49.1 <|
  ltt ([] ++ y49.1) fun L53 =>
  dr (xt G L53) 9 ((y42.2.2 a 3)) fun b56 =>
  ltt (uP y49.2.1 b56 0 y49.2.2) fun M57 =>
  dr (xt G L53) 9 ((M57.2 a 3)) fun b58 =>
  chk (¬ (((3 : Int32)) < 0 ∨ (xt G L53).2.2 b12 ≤ ((3 : Int32)).toNatClampNeg)) <|
  ltt (M57.1 b12 ((3 : Int32)).toNatClampNeg) fun x59 =>
  dr (xt G L53) 4 ((M57.2 b58 0)) fun b60 =>
  ltt (uI M57 b60 8 x59) fun M61 =>
  dr (xt G L53) 9 ((M61.2 a 3)) fun b62 =>
  chk (¬ (((17 : Int32)) < 0 ∨ (xt G L53).2.2 b12 ≤ ((17 : Int32)).toNatClampNeg)) <|
  ltt (M61.1 b12 ((17 : Int32)).toNatClampNeg) fun x63 =>
  dr (xt G L53) 4 ((M61.2 b62 0)) fun b64 =>
  ltt (uI M61 b64 9 x63) fun M65 =>
  some ([], M65)
set_option maxHeartbeats 4000000 in
set_option maxRecDepth 100000 in
def FX0_beginSlice (G : GG) (M : DD) (a : Nat) (p0 : Int32) : Option (DD) :=
  dr G 9 ((M.2 a 3)) fun b2 =>
  dr G 3 ((M.2 b2 1)) fun b3 =>
  dr G 13 ((M.2 b3 0)) fun b4 =>
  chk (¬ (((0 : Int32)) < 0 ∨ G.2.2 b4 ≤ ((0 : Int32)).toNatClampNeg)) <|
  ltt (uI M b4 ((0 : Int32)).toNatClampNeg p0) fun M5 =>
  chk (¬ (((12 : Int32)) < 0 ∨ G.2.2 b4 ≤ ((12 : Int32)).toNatClampNeg)) <|
  ltt (M5.1 b4 ((12 : Int32)).toNatClampNeg) fun x6 =>
  ltt (uI M5 a 19 x6) fun M7 =>
  dr G 9 ((M7.2 a 3)) fun b8 =>
  ltt (M7.1 b8 11) fun x9 =>
  ltt ((x9 + ((1 : Int32)))) fun x10 =>
  ltt (uI M7 b8 11 x10) fun M11 =>
  dr G 7 ((M11.2 a 6)) fun b12 =>
  bnd (FX7_makeLists G M11 b12 ((M11.2 a 3)) ((256 : Int32))) fun y13 =>
  chk (¬ (((11 : Int32)) < 0 ∨ G.2.2 b4 ≤ ((11 : Int32)).toNatClampNeg)) <|
  ltt (y13.1 b4 ((11 : Int32)).toNatClampNeg) fun x14 =>
  ltt ((x14 <<< (((5 : Int32)) &&& 31))) fun x15 =>
  chk (¬ (((18 : Int32)) < 0 ∨ G.2.2 b4 ≤ ((18 : Int32)).toNatClampNeg)) <|
  ltt (y13.1 b4 ((18 : Int32)).toNatClampNeg) fun x16 =>
  ltt ((x15 ||| x16)) fun x17 =>
  dr G 10 ((y13.2 a 2)) fun b18 =>
  bnd (FX10_beginUnit G y13 b18 x17) fun y19 =>
  dr G 10 ((y19.2 a 2)) fun b20 =>
  ltt (uI y19 b20 3 ((0 : Int32))) fun M21 =>
  some M21
set_option maxHeartbeats 4000000 in
set_option maxRecDepth 100000 in
def FX0_bitsOf (G : GG) (M : DD) (a : Nat) (p0 : Int32) (p1 : Int32) (p2 : Int32) (p3 : Int32) : Option (DD × Int32) :=
  dr G 9 ((M.2 a 3)) fun b2 =>
  dr G 3 ((M.2 b2 1)) fun b3 =>
  ltt ((((9 : Int32)) + p0)) fun x4 =>
  dr G 13 ((M.2 b3 0)) fun b5 =>
  chk (¬ (x4 < 0 ∨ G.2.2 b5 ≤ x4.toNatClampNeg)) <|
  ltt (M.1 b5 x4.toNatClampNeg) fun x6 =>
  ltt (M.1 b2 18) fun x7 =>
  ltt ((p2 - x7)) fun x8 =>
  bnd (FX10_indexOfSe G M x8) fun y9 =>
  bnd (FX10_bitsOfUe G y9.1 y9.2) fun y10 =>
  dr G 9 ((y10.1.2 a 3)) fun b11 =>
  ltt (y10.1.1 b11 19) fun x12 =>
  ltt ((p3 - x12)) fun x13 =>
  bnd (FX10_indexOfSe G y10.1 x13) fun y14 =>
  bnd (FX10_bitsOfUe G y14.1 y14.2) fun y15 =>
  ltt ((y10.2 + y15.2)) fun x16 =>
  bnd (if x6 ≤ ((1 : Int32)) then (some ((0 : Int32), y15.1)) else
  (ltt ((x6 - ((1 : Int32)))) fun x20 =>
  bnd (FX10_bitsOfTe G y15.1 x20 p1) fun y21 =>
  some (y21.2, y21.1))) fun (y17 : Int32 × DD) =>
  ltt ((x16 + y17.1)) fun x18 =>
  some (y17.2, x18)
set_option maxHeartbeats 4000000 in
set_option maxRecDepth 100000 in
def FX0_chooseColours (G : GG) (M : DD) (a : Nat) (p0 : Int32) (p1 : Int32) : Option (DD) :=
  bnd (itr (fun (s2 : Int32 × Int32 × DD) => ((if ((4 : Int32)) ≤ s2.2.1 then (some (.inr (s2.1, s2.2.1, s2.2.2))) else
  (bnd (FX9_mayBeColours G s2.2.2 s2.2.1 p1) fun y6 =>
  bnd (if y6.2 = ((0 : Int32)) then (some (s2.1, y6.1)) else
  (dr G 6 ((y6.1.2 a 4)) fun b10 =>
  bnd (FX6_predictColours_ G y6.1 b10 ((y6.1.2 a 3)) p0 s2.2.1 p1) fun y11 =>
  dr G 6 ((y11.2 a 4)) fun b12 =>
  bnd (FX6_colourDifferences G y11 b12 ((y11.2 a 3)) ((y11.2 a 9)) p0) fun y13 =>
  bnd (if s2.1 ≤ y13.2 then (some (s2.1, y13.1)) else
  (dr G 9 ((y13.1.2 a 3)) fun b16 =>
  ltt ((((8 : Int32)) * p0)) fun x17 =>
  ltt ((x17 + ((5 : Int32)))) fun x18 =>
  dr G 13 ((y13.1.2 b16 6)) fun b19 =>
  chk (¬ (x18 < 0 ∨ G.2.2 b19 ≤ x18.toNatClampNeg)) <|
  ltt (uI y13.1 b19 x18.toNatClampNeg s2.2.1) fun M20 =>
  some (y13.2, M20))) fun (y14 : Int32 × DD) =>
  some (y14.1, y14.2))) fun (y7 : Int32 × DD) =>
  ltt (s2.2.1 + (1 : Int32)) fun x8 =>
  some (.inl (y7.1, x8, y7.2)))) : Option ((Int32 × Int32 × DD) ⊕ (Int32 × Int32 × DD)))) 1000000 ((2147483647 : Int32), (0 : Int32), M)) fun (y1 : Int32 × Int32 × DD) =>
  some y1.2.2
set_option maxHeartbeats 4000000 in
set_option maxRecDepth 100000 in
def FX0_costOf (G : GG) (M : DD) (a : Nat) (p0 : Int32) (p1 : Int32) (p2 : Int32) (p3 : Int32) (p4 : Int32) : Option (DD × Int32) :=
  if p3 < ((-2048 : Int32)) then (some (M, (2147483647 : Int32))) else
  (if ((2047 : Int32)) < p3 then (some (M, (2147483647 : Int32))) else
  (if p4 < ((-2048 : Int32)) then (some (M, (2147483647 : Int32))) else
  (if p4 ≤ ((2047 : Int32)) then (dr G 6 ((M.2 a 4)) fun b5 =>
  ltt ((((3 : Int32)) * p1)) fun x6 =>
  ltt ((((3 : Int32)) - x6)) fun x7 =>
  dr G 13 ((M.2 b5 5)) fun b8 =>
  chk (¬ (x7 < 0 ∨ G.2.2 b8 ≤ x7.toNatClampNeg)) <|
  ltt (uI M b8 x7.toNatClampNeg ((-1 : Int32))) fun M9 =>
  ltt ((((3 : Int32)) * p1)) fun x10 =>
  chk (¬ (x10 < 0 ∨ G.2.2 b8 ≤ x10.toNatClampNeg)) <|
  ltt (uI M9 b8 x10.toNatClampNeg p2) fun M11 =>
  ltt ((((3 : Int32)) * p1)) fun x12 =>
  ltt ((x12 + ((1 : Int32)))) fun x13 =>
  chk (¬ (x13 < 0 ∨ G.2.2 b8 ≤ x13.toNatClampNeg)) <|
  ltt (uI M11 b8 x13.toNatClampNeg p3) fun M14 =>
  ltt ((((3 : Int32)) * p1)) fun x15 =>
  ltt ((x15 + ((2 : Int32)))) fun x16 =>
  chk (¬ (x16 < 0 ∨ G.2.2 b8 ≤ x16.toNatClampNeg)) <|
  ltt (uI M14 b8 x16.toNatClampNeg p4) fun M17 =>
  dr G 6 ((M17.2 a 4)) fun b18 =>
  bnd (FX6_predictRegion G M17 b18 ((M17.2 a 3)) p0 ((0 : Int32)) ((16 : Int32)) ((0 : Int32))) fun y19 =>
  dr G 15 ((y19.2 a 9)) fun b20 =>
  chk (¬ (((0 : Int32)) < 0 ∨ G.2.2 b20 ≤ ((0 : Int32)).toNatClampNeg)) <|
  dr G 6 ((y19.2 a 4)) fun b21 =>
  bnd (FX6_differences G y19 b21 ((y19.2 a 3)) ((y19.2 b20 ((0 : Int32)).toNatClampNeg)) p0 ((0 : Int32)) ((16 : Int32))) fun y22 =>
  bnd (FX0_priceOfBit G y22.1 a) fun y23 =>
  bnd (FX0_bitsOf G y23.1 a p1 p2 p3 p4) fun y24 =>
  ltt ((y23.2 * y24.2)) fun x25 =>
  ltt ((y22.2 + x25)) fun x26 =>
  some (y24.1, x26)) else
  (some (M, (2147483647 : Int32))))))
set_option maxHeartbeats 4000000 in
set_option maxRecDepth 100000 in
def FX0_costOfBoth (G : GG) (M : DD) (a : Nat) (p0 : Int32) : Option (DD × Int32) :=
  dr G 13 ((M.2 a 20)) fun b2 =>
  chk (¬ (((0 : Int32)) < 0 ∨ G.2.2 b2 ≤ ((0 : Int32)).toNatClampNeg)) <|
  ltt (M.1 b2 ((0 : Int32)).toNatClampNeg) fun x3 =>
  if x3 = ((2147483647 : Int32)) then (some (M, (2147483647 : Int32))) else
  (chk (¬ (((5 : Int32)) < 0 ∨ G.2.2 b2 ≤ ((5 : Int32)).toNatClampNeg)) <|
  ltt (M.1 b2 ((5 : Int32)).toNatClampNeg) fun x5 =>
  if x5 = ((2147483647 : Int32)) then (some (M, (2147483647 : Int32))) else
  (bnd (itr (fun (s8 : Int32 × DD) => ((if ((2 : Int32)) ≤ s8.1 then (some (.inr (s8.1, s8.2))) else
  (ltt ((((5 : Int32)) * s8.1)) fun x24 =>
  ltt ((x24 + ((1 : Int32)))) fun x25 =>
  dr G 6 ((s8.2.2 a 4)) fun b26 =>
  ltt ((((3 : Int32)) * s8.1)) fun x27 =>
  dr G 13 ((s8.2.2 a 20)) fun b28 =>
  dr G 13 ((s8.2.2 b26 5)) fun b29 =>
  chk (¬ x25 < 0 ∧ ¬ x27 < 0 ∧ ¬ ((3 : Int32)) < 0 ∧ x25.toNatClampNeg + ((3 : Int32)).toNatClampNeg ≤ G.2.2 b28 ∧ x27.toNatClampNeg + ((3 : Int32)).toNatClampNeg ≤ G.2.2 b29) <|
  ltt (rI s8.2 b29 (va_cpy (s8.2.1 b28) (s8.2.1 b29) x25.toNatClampNeg x27.toNatClampNeg ((3 : Int32)).toNatClampNeg)) fun M30 =>
  ltt (s8.1 + (1 : Int32)) fun x31 =>
  some (.inl (x31, M30)))) : Option ((Int32 × DD) ⊕ (Int32 × DD)))) 1000000 ((0 : Int32), M)) fun (y7 : Int32 × DD) =>
  dr G 6 ((y7.2.2 a 4)) fun b10 =>
  bnd (FX6_predictRegion G y7.2 b10 ((y7.2.2 a 3)) p0 ((0 : Int32)) ((16 : Int32)) ((0 : Int32))) fun y11 =>
  dr G 15 ((y11.2 a 9)) fun b12 =>
  chk (¬ (((0 : Int32)) < 0 ∨ G.2.2 b12 ≤ ((0 : Int32)).toNatClampNeg)) <|
  dr G 6 ((y11.2 a 4)) fun b13 =>
  bnd (FX6_differences G y11 b13 ((y11.2 a 3)) ((y11.2 b12 ((0 : Int32)).toNatClampNeg)) p0 ((0 : Int32)) ((16 : Int32))) fun y14 =>
  bnd (FX0_priceOfBit G y14.1 a) fun y15 =>
  dr G 13 ((y15.1.2 a 20)) fun b16 =>
  chk (¬ (((4 : Int32)) < 0 ∨ G.2.2 b16 ≤ ((4 : Int32)).toNatClampNeg)) <|
  ltt (y15.1.1 b16 ((4 : Int32)).toNatClampNeg) fun x17 =>
  chk (¬ (((9 : Int32)) < 0 ∨ G.2.2 b16 ≤ ((9 : Int32)).toNatClampNeg)) <|
  ltt (y15.1.1 b16 ((9 : Int32)).toNatClampNeg) fun x18 =>
  ltt ((x17 + x18)) fun x19 =>
  ltt ((y15.2 * x19)) fun x20 =>
  ltt ((y14.2 + x20)) fun x21 =>
  some (y15.1, x21)))
set_option maxHeartbeats 4000000 in
set_option maxRecDepth 100000 in
def FX0_drawMode (G : GG) (M : DD) (a : Nat) (p0 : Int32) (p1 : Int32) (p2 : Int32) : Option (DD × Int32) :=
  bnd (itr (fun (s2 : Int32 × Int32 × DD) => ((if p1 ≤ s2.2.1 then (some (.inr (s2.1, s2.2.1, s2.2.2))) else
  (bnd (FX0_mayBe G s2.2.2 p0 s2.2.1 p2) fun y18 =>
  bnd (if y18.2 = ((0 : Int32)) then (some ((0 : Int32))) else
  (some ((1 : Int32)))) fun (y19 : Int32) =>
  ltt ((s2.1 + y19)) fun x20 =>
  ltt (s2.2.1 + (1 : Int32)) fun x21 =>
  some (.inl (x20, x21, y18.1)))) : Option ((Int32 × Int32 × DD) ⊕ (Int32 × Int32 × DD)))) 1000000 ((0 : Int32), (0 : Int32), M)) fun (y1 : Int32 × Int32 × DD) =>
  bnd (FX0_draw G y1.2.2 a y1.1) fun y4 =>
  bnd (itr (fun (s6 : Int32 × Int32 × DD) => ((if p1 ≤ s6.2.1 then (some (.inr (.inl (s6.1, s6.2.1, s6.2.2)))) else
  (bnd (FX0_mayBe G s6.2.2 p0 s6.2.1 p2) fun y10 =>
  bnd (if y10.2 = ((0 : Int32)) then (some ((0 : Int32))) else
  (some ((1 : Int32)))) fun (y11 : Int32) =>
  ltt ((s6.1 - y11)) fun x12 =>
  if ((0 : Int32)) ≤ x12 then (ltt (s6.2.1 + (1 : Int32)) fun x14 =>
  some (.inl (x12, x14, y10.1))) else
  (some (.inr (.inr (y10.1, s6.2.1)))))) : Option ((Int32 × Int32 × DD) ⊕ ((Int32 × Int32 × DD) ⊕ (DD × Int32))))) 1000000 (y4.2, (0 : Int32), y4.1)) fun (y5 : (Int32 × Int32 × DD) ⊕ (DD × Int32)) =>
  sel y5 (fun (z5k : Int32 × Int32 × DD) =>
  some (z5k.2.2, (0 : Int32))) fun r9 => some r9
set_option maxHeartbeats 4000000 in
set_option maxRecDepth 100000 in
def FX0_drawVectors (G : GG) (M : DD) (a : Nat) (p0 : Int32) (p1 : Int32) : Option (DD) :=
  dr G 9 ((M.2 a 3)) fun b2 =>
  bnd (itr (fun (s4 : Int32 × DD) => ((dr G 9 ((s4.2.2 a 3)) fun b7 =>
  ltt (s4.2.1 b7 14) fun x8 =>
  if x8 ≤ s4.1 then (some (.inr (s4.1, s4.2))) else
  (ltt ((((5 : Int32)) * s4.1)) fun x10 =>
  ltt ((x10 + ((3 : Int32)))) fun x11 =>
  dr G 13 ((M.2 b2 13)) fun b12 =>
  chk (¬ (x11 < 0 ∨ G.2.2 b12 ≤ x11.toNatClampNeg)) <|
  ltt (s4.2.1 b12 x11.toNatClampNeg) fun x13 =>
  ltt ((x13 >>> (p1 &&& 31))) fun x14 =>
  ltt ((x14 &&& ((1 : Int32)))) fun x15 =>
  bnd (if x15 = ((0 : Int32)) then (some (s4.2)) else
  (dr G 4 ((s4.2.2 b7 0)) fun b19 =>
  ltt ((((16 : Int32)) * p0)) fun x20 =>
  chk (¬ (x10 < 0 ∨ G.2.2 b12 ≤ x10.toNatClampNeg)) <|
  ltt (s4.2.1 b12 x10.toNatClampNeg) fun x21 =>
  ltt ((x20 + x21)) fun x22 =>
  bnd (FX4_at G s4.2 p1 x22) fun y23 =>
  dr G 13 ((s4.2.2 b19 5)) fun b24 =>
  chk (¬ (y23.2 < 0 ∨ G.2.2 b24 ≤ y23.2.toNatClampNeg)) <|
  ltt (y23.1.1 b24 y23.2.toNatClampNeg) fun x25 =>
  chk (¬ (x10 < 0 ∨ G.2.2 b12 ≤ x10.toNatClampNeg)) <|
  ltt (y23.1.1 b12 x10.toNatClampNeg) fun x26 =>
  ltt ((x10 + ((1 : Int32)))) fun x27 =>
  chk (¬ (x27 < 0 ∨ G.2.2 b12 ≤ x27.toNatClampNeg)) <|
  ltt (y23.1.1 b12 x27.toNatClampNeg) fun x28 =>
  ltt ((x10 + ((4 : Int32)))) fun x29 =>
  chk (¬ (x29 < 0 ∨ G.2.2 b12 ≤ x29.toNatClampNeg)) <|
  ltt (y23.1.1 b12 x29.toNatClampNeg) fun x30 =>
  dr G 9 ((y23.1.2 a 3)) fun b31 =>
  bnd (FX9_guess G y23.1 b31 p0 p1 x25 x26 x28 x30) fun y32 =>
  dr G 9 ((y32.2 a 3)) fun b33 =>
  ltt (y32.1 b33 18) fun x34 =>
  bnd (FX0_draw G y32 a ((33 : Int32))) fun y35 =>
  ltt ((x34 + y35.2)) fun x36 =>
  ltt ((x36 - ((16 : Int32)))) fun x37 =>
  bnd (FX11_clamp G y35.1 ((-2048 : Int32)) ((2047 : Int32)) x37) fun y38 =>
  dr G 9 ((y38.1.2 a 3)) fun b39 =>
  ltt (y38.1.1 b39 19) fun x40 =>
  bnd (FX0_draw G y38.1 a ((33 : Int32))) fun y41 =>
  ltt ((x40 + y41.2)) fun x42 =>
  ltt ((x42 - ((16 : Int32)))) fun x43 =>
  bnd (FX11_clamp G y41.1 ((-2048 : Int32)) ((2047 : Int32)) x43) fun y44 =>
  bnd (FX0_setVector G y44.1 a p0 p1 s4.1 y38.2 y44.2) fun y45 =>
  some (y45))) fun (y16 : DD) =>
  ltt (s4.1 + (1 : Int32)) fun x17 =>
  some (.inl (x17, y16)))) : Option ((Int32 × DD) ⊕ (Int32 × DD)))) 1000000 ((0 : Int32), M)) fun (y3 : Int32 × DD) =>
  some y3.2
set_option maxHeartbeats 4000000 in
set_option maxRecDepth 100000 in
noncomputable def FX0_flag (G : GG) (M : DD) (a : Nat) (p0 : Int32) : Option (NN × DD) :=
  ltt (p0.toInt64) fun x1 =>
  dr (xt G []) 10 ((M.2 a 2)) fun b2 =>
  bnd (FX10_code (xt G []) M b2 ((0 : Int32)) x1 ((1 : Int32))) fun y3 =>
  app y3.1 <|
  ltt ([] ++ y3.1) fun L5 =>
  some ([], y3.2)
set_option maxHeartbeats 4000000 in
set_option maxRecDepth 100000 in
def FX0_maySkip (G : GG) (M : DD) (a : Nat) (p0 : Int32) : Option (DD × Int32) :=
  ltt ((((8 : Int32)) * p0)) fun x1 =>
  dr G 9 ((M.2 a 3)) fun b2 =>
  ltt ((x1 + ((0 : Int32)))) fun x3 =>
  dr G 13 ((M.2 b2 6)) fun b4 =>
  chk (¬ (x3 < 0 ∨ G.2.2 b4 ≤ x3.toNatClampNeg)) <|
  ltt (M.1 b4 x3.toNatClampNeg) fun x5 =>
  if x5 = ((3 : Int32)) then (ltt ((x1 + ((1 : Int32)))) fun x7 =>
  chk (¬ (x7 < 0 ∨ G.2.2 b4 ≤ x7.toNatClampNeg)) <|
  ltt (M.1 b4 x7.toNatClampNeg) fun x8 =>
  if x8 = ((0 : Int32)) then (ltt ((x1 + ((3 : Int32)))) fun x10 =>
  chk (¬ (x10 < 0 ∨ G.2.2 b4 ≤ x10.toNatClampNeg)) <|
  ltt (M.1 b4 x10.toNatClampNeg) fun x11 =>
  ltt ((x1 + ((4 : Int32)))) fun x12 =>
  chk (¬ (x12 < 0 ∨ G.2.2 b4 ≤ x12.toNatClampNeg)) <|
  ltt (M.1 b4 x12.toNatClampNeg) fun x13 =>
  ltt ((x11 + x13)) fun x14 =>
  if x14 ≤ ((0 : Int32)) then (dr G 3 ((M.2 b2 1)) fun b16 =>
  dr G 13 ((M.2 b16 0)) fun b17 =>
  chk (¬ (((1 : Int32)) < 0 ∨ G.2.2 b17 ≤ ((1 : Int32)).toNatClampNeg)) <|
  ltt (M.1 b17 ((1 : Int32)).toNatClampNeg) fun x18 =>
  if x18 = ((1 : Int32)) then (chk (((1 : Int32)) = 0 ∨ ((1 : Int32)) = 1) <|
  some (M, (1 : Int32))) else
  (bnd (FX9_guessSkipped G M b2 p0) fun y20 =>
  ltt ((((16 : Int32)) * p0)) fun x21 =>
  dr G 9 ((y20.2 a 3)) fun b22 =>
  dr G 4 ((y20.2 b22 0)) fun b23 =>
  dr G 13 ((y20.2 b23 5)) fun b24 =>
  chk (¬ (x21 < 0 ∨ G.2.2 b24 ≤ x21.toNatClampNeg)) <|
  ltt (y20.1 b24 x21.toNatClampNeg) fun x25 =>
  bnd (if x25 = ((0 : Int32)) then (ltt ((((2 : Int32)) * x21)) fun x28 =>
  dr G 13 ((y20.2 b23 7)) fun b29 =>
  chk (¬ (x28 < 0 ∨ G.2.2 b29 ≤ x28.toNatClampNeg)) <|
  ltt (y20.1 b29 x28.toNatClampNeg) fun x30 =>
  ltt (y20.1 b22 18) fun x31 =>
  bnd (if x30 = x31 then (ltt ((((2 : Int32)) * x21)) fun x34 =>
  ltt ((x34 + ((1 : Int32)))) fun x35 =>
  chk (¬ (x35 < 0 ∨ G.2.2 b29 ≤ x35.toNatClampNeg)) <|
  ltt (y20.1 b29 x35.toNatClampNeg) fun x36 =>
  ltt (y20.1 b22 19) fun x37 =>
  bnd (if x36 = x37 then (some ((1 : Int32))) else
  (some ((0 : Int32)))) fun (y38 : Int32) =>
  some (y38)) else
  (some ((0 : Int32)))) fun (y32 : Int32) =>
  some (y32)) else
  (some ((0 : Int32)))) fun (y26 : Int32) =>
  chk (y26 = 0 ∨ y26 = 1) <|
  some (y20, y26))) else
  (chk (((0 : Int32)) = 0 ∨ ((0 : Int32)) = 1) <|
  some (M, (0 : Int32)))) else
  (chk (((0 : Int32)) = 0 ∨ ((0 : Int32)) = 1) <|
  some (M, (0 : Int32)))) else
  (chk (((0 : Int32)) = 0 ∨ ((0 : Int32)) = 1) <|
  some (M, (0 : Int32)))
set_option maxHeartbeats 4000000 in
set_option maxRecDepth 100000 in
def FX0_noteBest (G : GG) (M : DD) (a : Nat) (p0 : Int32) (p1 : Int32) (p2 : Int32) (p3 : Int32) (p4 : Int32) : Option (DD) :=
  ltt ((((5 : Int32)) * p0)) fun x1 =>
  dr G 13 ((M.2 a 20)) fun b2 =>
  chk (¬ (x1 < 0 ∨ G.2.2 b2 ≤ x1.toNatClampNeg)) <|
  ltt (M.1 b2 x1.toNatClampNeg) fun x3 =>
  bnd (if x3 ≤ p1 then (some (M)) else
  (chk (¬ (x1 < 0 ∨ G.2.2 b2 ≤ x1.toNatClampNeg)) <|
  ltt (uI M b2 x1.toNatClampNeg p1) fun M6 =>
  ltt ((x1 + ((1 : Int32)))) fun x7 =>
  dr G 13 ((M6.2 a 20)) fun b8 =>
  chk (¬ (x7 < 0 ∨ G.2.2 b8 ≤ x7.toNatClampNeg)) <|
  ltt (uI M6 b8 x7.toNatClampNeg p2) fun M9 =>
  ltt ((x1 + ((2 : Int32)))) fun x10 =>
  dr G 13 ((M9.2 a 20)) fun b11 =>
  chk (¬ (x10 < 0 ∨ G.2.2 b11 ≤ x10.toNatClampNeg)) <|
  ltt (uI M9 b11 x10.toNatClampNeg p3) fun M12 =>
  ltt ((x1 + ((3 : Int32)))) fun x13 =>
  dr G 13 ((M12.2 a 20)) fun b14 =>
  chk (¬ (x13 < 0 ∨ G.2.2 b14 ≤ x13.toNatClampNeg)) <|
  ltt (uI M12 b14 x13.toNatClampNeg p4) fun M15 =>
  ltt ((x1 + ((4 : Int32)))) fun x16 =>
  bnd (FX0_bitsOf G M15 a p0 p2 p3 p4) fun y17 =>
  dr G 13 ((M15.2 a 20)) fun b18 =>
  chk (¬ (x16 < 0 ∨ G.2.2 b18 ≤ x16.toNatClampNeg)) <|
  ltt (uI y17.1 b18 x16.toNatClampNeg y17.2) fun M19 =>
  some (M19))) fun (y4 : DD) =>
  some y4
set_option maxHeartbeats 4000000 in
set_option maxRecDepth 100000 in
def FX0_searchList (G : GG) (M : DD) (a : Nat) (p0 : Int32) (p1 : Int32) : Option (DD) :=
  ltt ((((5 : Int32)) * p1)) fun x1 =>
  dr G 13 ((M.2 a 20)) fun b2 =>
  chk (¬ (x1 < 0 ∨ G.2.2 b2 ≤ x1.toNatClampNeg)) <|
  ltt (uI M b2 x1.toNatClampNeg ((2147483647 : Int32))) fun M3 =>
  bnd (itr (fun (s5 : Int32 × DD) => ((dr G 9 ((s5.2.2 a 3)) fun b8 =>
  dr G 3 ((s5.2.2 b8 1)) fun b9 =>
  ltt ((((9 : Int32)) + p1)) fun x10 =>
  dr G 13 ((s5.2.2 b9 0)) fun b11 =>
  chk (¬ (x10 < 0 ∨ G.2.2 b11 ≤ x10.toNatClampNeg)) <|
  ltt (s5.2.1 b11 x10.toNatClampNeg) fun x12 =>
  if x12 ≤ s5.1 then (some (.inr (s5.1, s5.2))) else
  (bnd (FX9_guess G s5.2 b8 p0 p1 s5.1 ((0 : Int32)) ((16 : Int32)) ((0 : Int32))) fun y14 =>
  dr G 9 ((y14.2 a 3)) fun b15 =>
  ltt (y14.1 b15 18) fun x16 =>
  ltt ((x16 + ((2 : Int32)))) fun x17 =>
  ltt ((x17 >>> (((2 : Int32)) &&& 31))) fun x18 =>
  ltt (y14.1 b15 19) fun x19 =>
  ltt ((x19 + ((2 : Int32)))) fun x20 =>
  ltt ((x20 >>> (((2 : Int32)) &&& 31))) fun x21 =>
  dr G 13 ((y14.2 a 1)) fun b22 =>
  chk (¬ (((10 : Int32)) < 0 ∨ G.2.2 b22 ≤ ((10 : Int32)).toNatClampNeg)) <|
  ltt (y14.1 b22 ((10 : Int32)).toNatClampNeg) fun x23 =>
  bnd (itr (fun (s25 : Int32 × Int32 × Int32 × Int32 × DD) => ((ltt ((((2 : Int32)) * x23)) fun x56 =>
  ltt ((x56 + ((1 : Int32)))) fun x57 =>
  ltt ((((2 : Int32)) * x23)) fun x58 =>
  ltt ((x58 + ((1 : Int32)))) fun x59 =>
  ltt ((x57 * x59)) fun x60 =>
  if x60 ≤ s25.2.2.2.1 then (some (.inr (s25.1, s25.2.1, s25.2.2.1, s25.2.2.2.1, s25.2.2.2.2))) else
  (ltt ((((2 : Int32)) * x23)) fun x62 =>
  ltt ((x62 + ((1 : Int32)))) fun x63 =>
  chk (¬ x63 = 0) <|
  ltt (s25.2.2.2.1 - s25.2.2.2.1 / x63 * x63) fun x64 =>
  ltt ((x18 + x64)) fun x65 =>
  ltt ((x65 - x23)) fun x66 =>
  ltt ((((4 : Int32)) * x66)) fun x67 =>
  ltt ((((2 : Int32)) * x23)) fun x68 =>
  ltt ((x68 + ((1 : Int32)))) fun x69 =>
  chk (¬ x69 = 0) <|
  ltt (s25.2.2.2.1 / x69) fun x70 =>
  ltt ((x21 + x70)) fun x71 =>
  ltt ((x71 - x23)) fun x72 =>
  ltt ((((4 : Int32)) * x72)) fun x73 =>
  bnd (FX0_costOf G s25.2.2.2.2 a p0 p1 s5.1 x67 x73) fun y74 =>
  bnd (if s25.1 ≤ y74.2 then (some (s25.1, s25.2.1, s25.2.2.1)) else
  (some (y74.2, x67, x73))) fun (y75 : Int32 × Int32 × Int32) =>
  ltt (s25.2.2.2.1 + (1 : Int32)) fun x76 =>
  some (.inl (y75.1, y75.2.1, y75.2.2, x76, y74.1)))) : Option ((Int32 × Int32 × Int32 × Int32 × DD) ⊕ (Int32 × Int32 × Int32 × Int32 × DD)))) 1000000 ((2147483647 : Int32), (0 : Int32), (0 : Int32), (0 : Int32), y14)) fun (y24 : Int32 × Int32 × Int32 × Int32 × DD) =>
  bnd (itr (fun (s28 : Int32 × Int32 × Int32 × Int32 × DD) => ((if s28.2.2.2.1 ≤ ((0 : Int32)) then (some (.inr (s28.1, s28.2.1, s28.2.2.1, s28.2.2.2.1, s28.2.2.2.2))) else
  (if ((2147483647 : Int32)) ≤ s28.1 then (some (.inr (s28.1, s28.2.1, s28.2.2.1, s28.2.2.2.1, s28.2.2.2.2))) else
  (bnd (itr (fun (s36 : Int32 × Int32 × Int32 × Int32 × DD) => ((if ((9 : Int32)) ≤ s36.2.2.2.1 then (some (.inr (s36.1, s36.2.1, s36.2.2.1, s36.2.2.2.1, s36.2.2.2.2))) else
  (ltt (s36.2.2.2.1 - s36.2.2.2.1 / ((3 : Int32)) * ((3 : Int32))) fun x41 =>
  ltt ((x41 - ((1 : Int32)))) fun x42 =>
  ltt ((s28.2.2.2.1 * x42)) fun x43 =>
  ltt ((s28.2.1 + x43)) fun x44 =>
  ltt (s36.2.2.2.1 / ((3 : Int32))) fun x45 =>
  ltt ((x45 - ((1 : Int32)))) fun x46 =>
  ltt ((s28.2.2.2.1 * x46)) fun x47 =>
  ltt ((s28.2.2.1 + x47)) fun x48 =>
  bnd (if s36.2.2.2.1 = ((4 : Int32)) then (some ((2147483647 : Int32), s36.2.2.2.2)) else
  (bnd (FX0_costOf G s36.2.2.2.2 a p0 p1 s5.1 x44 x48) fun y54 =>
  some (y54.2, y54.1))) fun (y49 : Int32 × DD) =>
  bnd (if s36.1 ≤ y49.1 then (some (s36.1, s36.2.1, s36.2.2.1)) else
  (some (y49.1, x44, x48))) fun (y50 : Int32 × Int32 × Int32) =>
  ltt (s36.2.2.2.1 + (1 : Int32)) fun x51 =>
  some (.inl (y50.1, y50.2.1, y50.2.2, x51, y49.2)))) : Option ((Int32 × Int32 × Int32 × Int32 × DD) ⊕ (Int32 × Int32 × Int32 × Int32 × DD)))) 1000000 (s28.1, s28.2.1, s28.2.2.1, (0 : Int32), s28.2.2.2.2)) fun (y35 : Int32 × Int32 × Int32 × Int32 × DD) =>
  ltt (s28.2.2.2.1 + (-1 : Int32)) fun x38 =>
  some (.inl (y35.1, y35.2.1, y35.2.2.1, x38, y35.2.2.2.2))))) : Option ((Int32 × Int32 × Int32 × Int32 × DD) ⊕ (Int32 × Int32 × Int32 × Int32 × DD)))) 1000000 (y24.1, y24.2.1, y24.2.2.1, (2 : Int32), y24.2.2.2.2)) fun (y27 : Int32 × Int32 × Int32 × Int32 × DD) =>
  bnd (FX0_noteBest G y27.2.2.2.2 a p1 y27.1 s5.1 y27.2.1 y27.2.2.1) fun y30 =>
  ltt (s5.1 + (1 : Int32)) fun x31 =>
  some (.inl (x31, y30)))) : Option ((Int32 × DD) ⊕ (Int32 × DD)))) 1000000 ((0 : Int32), M3)) fun (y4 : Int32 × DD) =>
  some y4.2
set_option maxHeartbeats 4000000 in
set_option maxRecDepth 100000 in
noncomputable def FX0_writeLevels (G : GG) (M : DD) (a : Nat) (p0 : Int32) : Option (NN × DD) :=
  ltt ((((8 : Int32)) * p0)) fun x1 =>
  dr (xt G []) 9 ((M.2 a 3)) fun b2 =>
  ltt ((x1 + ((0 : Int32)))) fun x3 =>
  dr (xt G []) 13 ((M.2 b2 6)) fun b4 =>
  chk (¬ (x3 < 0 ∨ (xt G []).2.2 b4 ≤ x3.toNatClampNeg)) <|
  ltt (M.1 b4 x3.toNatClampNeg) fun x5 =>
  bnd (if x5 = ((1 : Int32)) then (some ((1 : Int32))) else
  (some ((0 : Int32)))) fun (y6 : Int32) =>
  bnd (if y6 = ((0 : Int32)) then (some ([], M)) else
  (bnd (FX9_tokenTable (xt G []) M b2 p0 ((0 : Int32))) fun y102 =>
  bnd (FX9_levelAt (xt G []) y102.1 p0 ((16 : Int32))) fun y103 =>
  dr (xt G []) 10 ((M.2 a 2)) fun b104 =>
  chk (okd (xt G []) ((M.2 b2 9)) = true) <|
  bnd (FX10_levels (xt G []) y103.1 b104 y102.2 ((16 : Int32)) ((M.2 b2 9)) y103.2) fun y105 =>
  app y105.1 <|
  ltt ([] ++ y105.1) fun L108 =>
  some ([], y105.2))) fun (y7 : NN × DD) =>
  app y7.1 <|
  ltt ([] ++ y7.1) fun L9 =>
  bnd (itrA (fun (s12 : NN × Int32 × DD) => ((if ((16 : Int32)) ≤ s12.2.1 then (some ([], .inr ((s12.2.1, s12.2.2)))) else
  (dr (xt G s12.1) 9 ((s12.2.2.2 a 3)) fun b75 =>
  ltt ((x1 + ((3 : Int32)))) fun x76 =>
  dr (xt G s12.1) 13 ((s12.2.2.2 b75 6)) fun b77 =>
  chk (¬ (x76 < 0 ∨ (xt G s12.1).2.2 b77 ≤ x76.toNatClampNeg)) <|
  ltt (s12.2.2.1 b77 x76.toNatClampNeg) fun x78 =>
  ltt (s12.2.1 / ((4 : Int32))) fun x79 =>
  ltt ((x78 >>> (x79 &&& 31))) fun x80 =>
  ltt ((x80 &&& ((1 : Int32)))) fun x81 =>
  bnd (if x81 = ((1 : Int32)) then (bnd (FX9_tokenTable (xt G s12.1) s12.2.2 b75 p0 s12.2.1) fun y89 =>
  bnd (if y6 = ((0 : Int32)) then (some ((16 : Int32))) else
  (some ((15 : Int32)))) fun (y90 : Int32) =>
  bnd (FX9_levelAt (xt G s12.1) y89.1 p0 s12.2.1) fun y91 =>
  dr (xt G s12.1) 10 ((s12.2.2.2 a 2)) fun b92 =>
  chk (okd (xt G s12.1) ((M.2 b2 9)) = true) <|
  bnd (FX10_levels (xt G s12.1) y91.1 b92 y89.2 y90 ((M.2 b2 9)) y91.2) fun y93 =>
  app y93.1 <|
  ltt (s12.1 ++ y93.1) fun L96 =>
  some ([], y93.2)) else
  (some ([], s12.2.2))) fun (y82 : NN × DD) =>
  app y82.1 <|
  ltt (s12.1 ++ y82.1) fun L84 =>
  ltt (s12.2.1 + (1 : Int32)) fun x86 =>
  some ([], .inl (L84, (x86, y82.2))))) : Option (NN × ((NN × Int32 × DD) ⊕ (Int32 × DD))))) 1000000 (L9, ((0 : Int32), y7.2))) fun (y11 : NN × Int32 × DD) =>
  app y11.1 <|
  ltt (L9 ++ y11.1) fun L14 =>
  bnd (itrA (fun (s17 : NN × Int32 × DD) => ((if ((3 : Int32)) ≤ s17.2.1 then (some ([], .inr ((s17.2.1, s17.2.2)))) else
  (dr (xt G s17.1) 9 ((s17.2.2.2 a 3)) fun b54 =>
  ltt ((x1 + ((4 : Int32)))) fun x55 =>
  dr (xt G s17.1) 13 ((s17.2.2.2 b54 6)) fun b56 =>
  chk (¬ (x55 < 0 ∨ (xt G s17.1).2.2 b56 ≤ x55.toNatClampNeg)) <|
  ltt (s17.2.2.1 b56 x55.toNatClampNeg) fun x57 =>
  if x57 ≤ ((0 : Int32)) then (some ([], .inr ((s17.2.1, s17.2.2)))) else
  (ltt ((((16 : Int32)) + s17.2.1)) fun x59 =>
  bnd (FX9_levelAt (xt G s17.1) s17.2.2 p0 x59) fun y60 =>
  dr (xt G s17.1) 10 ((s17.2.2.2 a 2)) fun b61 =>
  chk (okd (xt G s17.1) ((M.2 b2 9)) = true) <|
  bnd (FX10_levels (xt G s17.1) y60.1 b61 ((4 : Int32)) ((4 : Int32)) ((M.2 b2 9)) y60.2) fun y62 =>
  app y62.1 <|
  ltt (s17.1 ++ y62.1) fun L65 =>
  ltt (s17.2.1 + (1 : Int32)) fun x68 =>
  some ([], .inl (L65, (x68, y62.2)))))) : Option (NN × ((NN × Int32 × DD) ⊕ (Int32 × DD))))) 1000000 (L14, ((1 : Int32), y11.2.2))) fun (y16 : NN × Int32 × DD) =>
  app y16.1 <|
  ltt (L14 ++ y16.1) fun L19 =>
  bnd (itrA (fun (s22 : NN × Int32 × DD) => ((if ((24 : Int32)) ≤ s22.2.1 then (some ([], .inr ((s22.2.1, s22.2.2)))) else
  (dr (xt G s22.1) 9 ((s22.2.2.2 a 3)) fun b32 =>
  ltt ((x1 + ((4 : Int32)))) fun x33 =>
  dr (xt G s22.1) 13 ((s22.2.2.2 b32 6)) fun b34 =>
  chk (¬ (x33 < 0 ∨ (xt G s22.1).2.2 b34 ≤ x33.toNatClampNeg)) <|
  ltt (s22.2.2.1 b34 x33.toNatClampNeg) fun x35 =>
  if x35 = ((2 : Int32)) then (bnd (FX9_tokenTable (xt G s22.1) s22.2.2 b32 p0 s22.2.1) fun y37 =>
  ltt ((((3 : Int32)) + s22.2.1)) fun x38 =>
  bnd (FX9_levelAt (xt G s22.1) y37.1 p0 x38) fun y39 =>
  dr (xt G s22.1) 10 ((s22.2.2.2 a 2)) fun b40 =>
  chk (okd (xt G s22.1) ((M.2 b2 9)) = true) <|
  bnd (FX10_levels (xt G s22.1) y39.1 b40 y37.2 ((15 : Int32)) ((M.2 b2 9)) y39.2) fun y41 =>
  app y41.1 <|
  ltt (s22.1 ++ y41.1) fun L44 =>
  ltt (s22.2.1 + (1 : Int32)) fun x47 =>
  some ([], .inl (L44, (x47, y41.2)))) else
  (some ([], .inr ((s22.2.1, s22.2.2)))))) : Option (NN × ((NN × Int32 × DD) ⊕ (Int32 × DD))))) 1000000 (L19, ((16 : Int32), y16.2.2))) fun (y21 : NN × Int32 × DD) =>
  app y21.1 <|
  ltt (L19 ++ y21.1) fun L24 =>
  some ([], y21.2.2)
set_option maxHeartbeats 4000000 in
set_option maxRecDepth 100000 in
noncomputable def FX0_writeLists (G : GG) (M : DD) (a : Nat)  : Option (NN × DD) :=
  dr (xt G []) 9 ((M.2 a 3)) fun b2 =>
  dr (xt G []) 3 ((M.2 b2 1)) fun b3 =>
  dr (xt G []) 13 ((M.2 b3 0)) fun b4 =>
  chk (¬ (((1 : Int32)) < 0 ∨ (xt G []).2.2 b4 ≤ ((1 : Int32)).toNatClampNeg)) <|
  ltt (M.1 b4 ((1 : Int32)).toNatClampNeg) fun x5 =>
  bnd (if x5 = ((1 : Int32)) then (some ((1 : Int32))) else
  (some ((0 : Int32)))) fun (y6 : Int32) =>
  bnd (if y6 = ((0 : Int32)) then (some ([], M)) else
  (chk (¬ (((8 : Int32)) < 0 ∨ (xt G []).2.2 b4 ≤ ((8 : Int32)).toNatClampNeg)) <|
  ltt (M.1 b4 ((8 : Int32)).toNatClampNeg) fun x74 =>
  chk (okd (xt G []) ((M.2 b3 0)) = true) <|
  bnd (FX0_flag (xt G []) M a x74) fun y75 =>
  app y75.1 <|
  ltt ([] ++ y75.1) fun L78 =>
  some ([], y75.2))) fun (y7 : NN × DD) =>
  app y7.1 <|
  ltt ([] ++ y7.1) fun L9 =>
  chk (¬ (((9 : Int32)) < 0 ∨ (xt G L9).2.2 b4 ≤ ((9 : Int32)).toNatClampNeg)) <|
  ltt (y7.2.1 b4 ((9 : Int32)).toNatClampNeg) fun x11 =>
  dr (xt G L9) 13 ((y7.2.2 a 1)) fun b12 =>
  chk (¬ (((7 : Int32)) < 0 ∨ (xt G L9).2.2 b12 ≤ ((7 : Int32)).toNatClampNeg)) <|
  ltt (y7.2.1 b12 ((7 : Int32)).toNatClampNeg) fun x13 =>
  bnd (if x11 = x13 then (some ((0 : Int32))) else
  (some ((1 : Int32)))) fun (y14 : Int32) =>
  bnd (if y14 = ((0 : Int32)) then (some ((0 : Int32))) else
  (some ((1 : Int32)))) fun (y15 : Int32) =>
  chk (okd (xt G L9) ((M.2 b3 0)) = true) <|
  bnd (FX0_flag (xt G L9) y7.2 a y15) fun y16 =>
  app y16.1 <|
  ltt (L9 ++ y16.1) fun L19 =>
  bnd (if y14 = ((0 : Int32)) then (some ([], y16.2)) else
  (chk (¬ (((9 : Int32)) < 0 ∨ (xt G L19).2.2 b4 ≤ ((9 : Int32)).toNatClampNeg)) <|
  ltt (y16.2.1 b4 ((9 : Int32)).toNatClampNeg) fun x62 =>
  ltt ((x62 - ((1 : Int32)))) fun x63 =>
  dr (xt G L19) 10 ((y16.2.2 a 2)) fun b64 =>
  bnd (FX10_ue (xt G L19) y16.2 b64 ((0 : Int32)) x63) fun y65 =>
  app y65.1 <|
  ltt (L19 ++ y65.1) fun L67 =>
  some ([], y65.2))) fun (y22 : NN × DD) =>
  app y22.1 <|
  ltt (L19 ++ y22.1) fun L24 =>
  bnd (if y14 = ((0 : Int32)) then (some ([], y22.2)) else
  (bnd (if y6 = ((0 : Int32)) then (some ([], y22.2)) else
  (dr (xt G L24) 10 ((y22.2.2 a 2)) fun b54 =>
  bnd (FX10_ue (xt G L24) y22.2 b54 ((0 : Int32)) ((0 : Int32))) fun y55 =>
  app y55.1 <|
  ltt (L24 ++ y55.1) fun L57 =>
  some ([], y55.2))) fun (y48 : NN × DD) =>
  app y48.1 <|
  ltt (L24 ++ y48.1) fun L50 =>
  some ([], y48.2))) fun (y26 : NN × DD) =>
  app y26.1 <|
  ltt (L24 ++ y26.1) fun L28 =>
  bnd (FX0_flag (xt G L28) y26.2 a ((0 : Int32))) fun y30 =>
  app y30.1 <|
  ltt (L28 ++ y30.1) fun L32 =>
  bnd (if y6 = ((0 : Int32)) then (some ([], y30.2)) else
  (bnd (FX0_flag (xt G L32) y30.2 a ((0 : Int32))) fun y41 =>
  app y41.1 <|
  ltt (L32 ++ y41.1) fun L43 =>
  some ([], y41.2))) fun (y35 : NN × DD) =>
  app y35.1 <|
  ltt (L32 ++ y35.1) fun L37 =>
  some ([], y35.2)
set_option maxHeartbeats 4000000 in
set_option maxRecDepth 100000 in
noncomputable def FX0_writeModes (G : GG) (M : DD) (a : Nat) (p0 : Int32) : Option (NN × DD) :=
  bnd (itrA (fun (s2 : NN × Int32 × DD) => ((if ((16 : Int32)) ≤ s2.2.1 then (some ([], .inr ((s2.2.1, s2.2.2)))) else
  (dr (xt G s2.1) 9 ((s2.2.2.2 a 3)) fun b12 =>
  bnd (FX9_guessMode (xt G s2.1) s2.2.2 b12 p0 s2.2.1) fun y13 =>
  dr (xt G s2.1) 9 ((y13.1.2 a 3)) fun b14 =>
  ltt ((((16 : Int32)) * p0)) fun x15 =>
  ltt ((x15 + s2.2.1)) fun x16 =>
  dr (xt G s2.1) 13 ((y13.1.2 b14 7)) fun b17 =>
  chk (¬ (x16 < 0 ∨ (xt G s2.1).2.2 b17 ≤ x16.toNatClampNeg)) <|
  ltt (y13.1.1 b17 x16.toNatClampNeg) fun x18 =>
  bnd (if x18 = y13.2 then (some ((1 : Int64))) else
  (some ((0 : Int64)))) fun (y19 : Int64) =>
  dr (xt G s2.1) 10 ((y13.1.2 a 2)) fun b20 =>
  bnd (FX10_code (xt G s2.1) y13.1 b20 ((2 : Int32)) y19 ((1 : Int32))) fun y21 =>
  app y21.1 <|
  ltt (s2.1 ++ y21.1) fun L23 =>
  bnd (if x18 = y13.2 then (some ([], y21.2)) else
  (bnd (if y13.2 ≤ x18 then (ltt ((x18 - ((1 : Int32)))) fun x41 =>
  ltt (x41.toInt64) fun x42 =>
  some (x42)) else
  (ltt (x18.toInt64) fun x43 =>
  some (x43))) fun (y33 : Int64) =>
  dr (xt G L23) 10 ((y21.2.2 a 2)) fun b34 =>
  bnd (FX10_code (xt G L23) y21.2 b34 ((3 : Int32)) y33 ((3 : Int32))) fun y35 =>
  app y35.1 <|
  ltt (L23 ++ y35.1) fun L37 =>
  some ([], y35.2))) fun (y26 : NN × DD) =>
  app y26.1 <|
  ltt (L23 ++ y26.1) fun L28 =>
  ltt (s2.2.1 + (1 : Int32)) fun x30 =>
  some ([], .inl (L28, (x30, y26.2))))) : Option (NN × ((NN × Int32 × DD) ⊕ (Int32 × DD))))) 1000000 ([], ((0 : Int32), M))) fun (y1 : NN × Int32 × DD) =>
  app y1.1 <|
  ltt ([] ++ y1.1) fun L4 =>
  some ([], y1.2.2)
set_option maxHeartbeats 4000000 in
set_option maxRecDepth 100000 in
noncomputable def FX0_writeMotion (G : GG) (M : DD) (a : Nat) (p0 : Int32) : Option (NN × DD) :=
  dr (xt G []) 9 ((M.2 a 3)) fun b2 =>
  dr (xt G []) 3 ((M.2 b2 1)) fun b3 =>
  dr (xt G []) 13 ((M.2 b3 0)) fun b4 =>
  chk (¬ (((1 : Int32)) < 0 ∨ (xt G []).2.2 b4 ≤ ((1 : Int32)).toNatClampNeg)) <|
  ltt (M.1 b4 ((1 : Int32)).toNatClampNeg) fun x5 =>
  ltt ((((8 : Int32)) * p0)) fun x6 =>
  ltt ((x6 + ((1 : Int32)))) fun x7 =>
  dr (xt G []) 13 ((M.2 b2 6)) fun b8 =>
  chk (¬ (x7 < 0 ∨ (xt G []).2.2 b8 ≤ x7.toNatClampNeg)) <|
  ltt (M.1 b8 x7.toNatClampNeg) fun x9 =>
  ltt ((((8 : Int32)) * p0)) fun x10 =>
  ltt ((x10 + ((0 : Int32)))) fun x11 =>
  chk (¬ (x11 < 0 ∨ (xt G []).2.2 b8 ≤ x11.toNatClampNeg)) <|
  ltt (M.1 b8 x11.toNatClampNeg) fun x12 =>
  if x12 = ((3 : Int32)) then (if x9 < ((0 : Int32)) then (some ([], M)) else
  (if x5 = ((1 : Int32)) then (if x9 = ((0 : Int32)) then (some ([], M)) else
  (bnd (FX9_plan (xt G []) M b2 x5 x9) fun y139 =>
  bnd (itrA (fun (s141 : NN × Int32 × DD) => ((if ((2 : Int32)) ≤ s141.2.1 then (some ([], .inr ((s141.2.1, s141.2.2)))) else
  (dr (xt G s141.1) 9 ((s141.2.2.2 a 3)) fun b213 =>
  dr (xt G s141.1) 3 ((s141.2.2.2 b213 1)) fun b214 =>
  ltt ((((9 : Int32)) + s141.2.1)) fun x215 =>
  dr (xt G s141.1) 13 ((s141.2.2.2 b214 0)) fun b216 =>
  chk (¬ (x215 < 0 ∨ (xt G s141.1).2.2 b216 ≤ x215.toNatClampNeg)) <|
  ltt (s141.2.2.1 b216 x215.toNatClampNeg) fun x217 =>
  bnd (itrA (fun (s219 : NN × Int32 × DD) => ((dr (xt G s219.1) 9 ((s219.2.2.2 a 3)) fun b229 =>
  ltt (s219.2.2.1 b229 16) fun x230 =>
  if x230 ≤ s219.2.1 then (some ([], .inr ((s219.2.1, s219.2.2)))) else
  (if x217 ≤ ((1 : Int32)) then (some ([], .inr ((s219.2.1, s219.2.2)))) else
  (ltt ((((4 : Int32)) * s219.2.1)) fun x233 =>
  ltt ((x233 + ((3 : Int32)))) fun x234 =>
  dr (xt G s219.1) 13 ((s219.2.2.2 b229 15)) fun b235 =>
  chk (¬ (x234 < 0 ∨ (xt G s219.1).2.2 b235 ≤ x234.toNatClampNeg)) <|
  ltt (s219.2.2.1 b235 x234.toNatClampNeg) fun x236 =>
  ltt ((x236 >>> (s141.2.1 &&& 31))) fun x237 =>
  ltt ((x237 &&& ((1 : Int32)))) fun x238 =>
  bnd (if x238 = ((1 : Int32)) then (ltt ((((16 : Int32)) * p0)) fun x246 =>
  ltt ((((4 : Int32)) * s219.2.1)) fun x247 =>
  chk (¬ (x247 < 0 ∨ (xt G s219.1).2.2 b235 ≤ x247.toNatClampNeg)) <|
  ltt (s219.2.2.1 b235 x247.toNatClampNeg) fun x248 =>
  ltt ((x246 + x248)) fun x249 =>
  ltt ((x217 - ((1 : Int32)))) fun x250 =>
  dr (xt G s219.1) 4 ((s219.2.2.2 b229 0)) fun b251 =>
  bnd (FX4_at (xt G s219.1) s219.2.2 s141.2.1 x249) fun y252 =>
  dr (xt G s219.1) 13 ((s219.2.2.2 b251 5)) fun b253 =>
  chk (¬ (y252.2 < 0 ∨ (xt G s219.1).2.2 b253 ≤ y252.2.toNatClampNeg)) <|
  ltt (y252.1.1 b253 y252.2.toNatClampNeg) fun x254 =>
  dr (xt G s219.1) 10 ((s219.2.2.2 a 2)) fun b255 =>
  bnd (FX10_te (xt G s219.1) y252.1 b255 ((6 : Int32)) x250 x254) fun y256 =>
  app y256.1 <|
  ltt (s219.1 ++ y256.1) fun L258 =>
  some ([], y256.2)) else
  (some ([], s219.2.2))) fun (y239 : NN × DD) =>
  app y239.1 <|
  ltt (s219.1 ++ y239.1) fun L241 =>
  ltt (s219.2.1 + (1 : Int32)) fun x243 =>
  some ([], .inl (L241, (x243, y239.2)))))) : Option (NN × ((NN × Int32 × DD) ⊕ (Int32 × DD))))) 1000000 (s141.1, ((0 : Int32), s141.2.2))) fun (y218 : NN × Int32 × DD) =>
  app y218.1 <|
  ltt (s141.1 ++ y218.1) fun L221 =>
  ltt (s141.2.1 + (1 : Int32)) fun x223 =>
  some ([], .inl (L221, (x223, y218.2.2))))) : Option (NN × ((NN × Int32 × DD) ⊕ (Int32 × DD))))) 1000000 ([], ((0 : Int32), y139))) fun (y140 : NN × Int32 × DD) =>
  app y140.1 <|
  ltt ([] ++ y140.1) fun L143 =>
  bnd (itrA (fun (s146 : NN × Int32 × DD) => ((if ((2 : Int32)) ≤ s146.2.1 then (some ([], .inr ((s146.2.1, s146.2.2)))) else
  (bnd (itrA (fun (s157 : NN × Int32 × DD) => ((dr (xt G s157.1) 9 ((s157.2.2.2 a 3)) fun b167 =>
  ltt (s157.2.2.1 b167 14) fun x168 =>
  if x168 ≤ s157.2.1 then (some ([], .inr ((s157.2.1, s157.2.2)))) else
  (ltt ((((5 : Int32)) * s157.2.1)) fun x170 =>
  ltt ((x170 + ((3 : Int32)))) fun x171 =>
  dr (xt G s157.1) 13 ((s157.2.2.2 b167 13)) fun b172 =>
  chk (¬ (x171 < 0 ∨ (xt G s157.1).2.2 b172 ≤ x171.toNatClampNeg)) <|
  ltt (s157.2.2.1 b172 x171.toNatClampNeg) fun x173 =>
  ltt ((x173 >>> (s146.2.1 &&& 31))) fun x174 =>
  ltt ((x174 &&& ((1 : Int32)))) fun x175 =>
  bnd (if x175 = ((1 : Int32)) then (ltt ((((16 : Int32)) * s146.2.1)) fun x183 =>
  ltt ((x183 + s157.2.1)) fun x184 =>
  ltt ((((2 : Int32)) * x184)) fun x185 =>
  dr (xt G s157.1) 13 ((s157.2.2.2 b167 17)) fun b186 =>
  chk (¬ (x185 < 0 ∨ (xt G s157.1).2.2 b186 ≤ x185.toNatClampNeg)) <|
  ltt (s157.2.2.1 b186 x185.toNatClampNeg) fun x187 =>
  dr (xt G s157.1) 10 ((s157.2.2.2 a 2)) fun b188 =>
  bnd (FX10_se (xt G s157.1) s157.2.2 b188 ((7 : Int32)) x187) fun y189 =>
  app y189.1 <|
  ltt (s157.1 ++ y189.1) fun L191 =>
  dr (xt G L191) 9 ((y189.2.2 a 3)) fun b194 =>
  ltt ((((16 : Int32)) * s146.2.1)) fun x195 =>
  ltt ((x195 + s157.2.1)) fun x196 =>
  ltt ((((2 : Int32)) * x196)) fun x197 =>
  ltt ((x197 + ((1 : Int32)))) fun x198 =>
  dr (xt G L191) 13 ((y189.2.2 b194 17)) fun b199 =>
  chk (¬ (x198 < 0 ∨ (xt G L191).2.2 b199 ≤ x198.toNatClampNeg)) <|
  ltt (y189.2.1 b199 x198.toNatClampNeg) fun x200 =>
  dr (xt G L191) 10 ((y189.2.2 a 2)) fun b201 =>
  bnd (FX10_se (xt G L191) y189.2 b201 ((8 : Int32)) x200) fun y202 =>
  app y202.1 <|
  ltt (L191 ++ y202.1) fun L204 =>
  some ([], y202.2)) else
  (some ([], s157.2.2))) fun (y176 : NN × DD) =>
  app y176.1 <|
  ltt (s157.1 ++ y176.1) fun L178 =>
  ltt (s157.2.1 + (1 : Int32)) fun x180 =>
  some ([], .inl (L178, (x180, y176.2))))) : Option (NN × ((NN × Int32 × DD) ⊕ (Int32 × DD))))) 1000000 (s146.1, ((0 : Int32), s146.2.2))) fun (y156 : NN × Int32 × DD) =>
  app y156.1 <|
  ltt (s146.1 ++ y156.1) fun L159 =>
  ltt (s146.2.1 + (1 : Int32)) fun x161 =>
  some ([], .inl (L159, (x161, y156.2.2))))) : Option (NN × ((NN × Int32 × DD) ⊕ (Int32 × DD))))) 1000000 (L143, ((0 : Int32), y140.2.2))) fun (y145 : NN × Int32 × DD) =>
  app y145.1 <|
  ltt (L143 ++ y145.1) fun L148 =>
  some ([], y145.2.2))) else
  (bnd (FX9_plan (xt G []) M b2 x5 x9) fun y16 =>
  bnd (itrA (fun (s18 : NN × Int32 × DD) => ((if ((2 : Int32)) ≤ s18.2.1 then (some ([], .inr ((s18.2.1, s18.2.2)))) else
  (dr (xt G s18.1) 9 ((s18.2.2.2 a 3)) fun b90 =>
  dr (xt G s18.1) 3 ((s18.2.2.2 b90 1)) fun b91 =>
  ltt ((((9 : Int32)) + s18.2.1)) fun x92 =>
  dr (xt G s18.1) 13 ((s18.2.2.2 b91 0)) fun b93 =>
  chk (¬ (x92 < 0 ∨ (xt G s18.1).2.2 b93 ≤ x92.toNatClampNeg)) <|
  ltt (s18.2.2.1 b93 x92.toNatClampNeg) fun x94 =>
  bnd (itrA (fun (s96 : NN × Int32 × DD) => ((dr (xt G s96.1) 9 ((s96.2.2.2 a 3)) fun b106 =>
  ltt (s96.2.2.1 b106 16) fun x107 =>
  if x107 ≤ s96.2.1 then (some ([], .inr ((s96.2.1, s96.2.2)))) else
  (if x94 ≤ ((1 : Int32)) then (some ([], .inr ((s96.2.1, s96.2.2)))) else
  (ltt ((((4 : Int32)) * s96.2.1)) fun x110 =>
  ltt ((x110 + ((3 : Int32)))) fun x111 =>
  dr (xt G s96.1) 13 ((s96.2.2.2 b106 15)) fun b112 =>
  chk (¬ (x111 < 0 ∨ (xt G s96.1).2.2 b112 ≤ x111.toNatClampNeg)) <|
  ltt (s96.2.2.1 b112 x111.toNatClampNeg) fun x113 =>
  ltt ((x113 >>> (s18.2.1 &&& 31))) fun x114 =>
  ltt ((x114 &&& ((1 : Int32)))) fun x115 =>
  bnd (if x115 = ((1 : Int32)) then (ltt ((((16 : Int32)) * p0)) fun x123 =>
  ltt ((((4 : Int32)) * s96.2.1)) fun x124 =>
  chk (¬ (x124 < 0 ∨ (xt G s96.1).2.2 b112 ≤ x124.toNatClampNeg)) <|
  ltt (s96.2.2.1 b112 x124.toNatClampNeg) fun x125 =>
  ltt ((x123 + x125)) fun x126 =>
  ltt ((x94 - ((1 : Int32)))) fun x127 =>
  dr (xt G s96.1) 4 ((s96.2.2.2 b106 0)) fun b128 =>
  bnd (FX4_at (xt G s96.1) s96.2.2 s18.2.1 x126) fun y129 =>
  dr (xt G s96.1) 13 ((s96.2.2.2 b128 5)) fun b130 =>
  chk (¬ (y129.2 < 0 ∨ (xt G s96.1).2.2 b130 ≤ y129.2.toNatClampNeg)) <|
  ltt (y129.1.1 b130 y129.2.toNatClampNeg) fun x131 =>
  dr (xt G s96.1) 10 ((s96.2.2.2 a 2)) fun b132 =>
  bnd (FX10_te (xt G s96.1) y129.1 b132 ((6 : Int32)) x127 x131) fun y133 =>
  app y133.1 <|
  ltt (s96.1 ++ y133.1) fun L135 =>
  some ([], y133.2)) else
  (some ([], s96.2.2))) fun (y116 : NN × DD) =>
  app y116.1 <|
  ltt (s96.1 ++ y116.1) fun L118 =>
  ltt (s96.2.1 + (1 : Int32)) fun x120 =>
  some ([], .inl (L118, (x120, y116.2)))))) : Option (NN × ((NN × Int32 × DD) ⊕ (Int32 × DD))))) 1000000 (s18.1, ((0 : Int32), s18.2.2))) fun (y95 : NN × Int32 × DD) =>
  app y95.1 <|
  ltt (s18.1 ++ y95.1) fun L98 =>
  ltt (s18.2.1 + (1 : Int32)) fun x100 =>
  some ([], .inl (L98, (x100, y95.2.2))))) : Option (NN × ((NN × Int32 × DD) ⊕ (Int32 × DD))))) 1000000 ([], ((0 : Int32), y16))) fun (y17 : NN × Int32 × DD) =>
  app y17.1 <|
  ltt ([] ++ y17.1) fun L20 =>
  bnd (itrA (fun (s23 : NN × Int32 × DD) => ((if ((2 : Int32)) ≤ s23.2.1 then (some ([], .inr ((s23.2.1, s23.2.2)))) else
  (bnd (itrA (fun (s34 : NN × Int32 × DD) => ((dr (xt G s34.1) 9 ((s34.2.2.2 a 3)) fun b44 =>
  ltt (s34.2.2.1 b44 14) fun x45 =>
  if x45 ≤ s34.2.1 then (some ([], .inr ((s34.2.1, s34.2.2)))) else
  (ltt ((((5 : Int32)) * s34.2.1)) fun x47 =>
  ltt ((x47 + ((3 : Int32)))) fun x48 =>
  dr (xt G s34.1) 13 ((s34.2.2.2 b44 13)) fun b49 =>
  chk (¬ (x48 < 0 ∨ (xt G s34.1).2.2 b49 ≤ x48.toNatClampNeg)) <|
  ltt (s34.2.2.1 b49 x48.toNatClampNeg) fun x50 =>
  ltt ((x50 >>> (s23.2.1 &&& 31))) fun x51 =>
  ltt ((x51 &&& ((1 : Int32)))) fun x52 =>
  bnd (if x52 = ((1 : Int32)) then (ltt ((((16 : Int32)) * s23.2.1)) fun x60 =>
  ltt ((x60 + s34.2.1)) fun x61 =>
  ltt ((((2 : Int32)) * x61)) fun x62 =>
  dr (xt G s34.1) 13 ((s34.2.2.2 b44 17)) fun b63 =>
  chk (¬ (x62 < 0 ∨ (xt G s34.1).2.2 b63 ≤ x62.toNatClampNeg)) <|
  ltt (s34.2.2.1 b63 x62.toNatClampNeg) fun x64 =>
  dr (xt G s34.1) 10 ((s34.2.2.2 a 2)) fun b65 =>
  bnd (FX10_se (xt G s34.1) s34.2.2 b65 ((7 : Int32)) x64) fun y66 =>
  app y66.1 <|
  ltt (s34.1 ++ y66.1) fun L68 =>
  dr (xt G L68) 9 ((y66.2.2 a 3)) fun b71 =>
  ltt ((((16 : Int32)) * s23.2.1)) fun x72 =>
  ltt ((x72 + s34.2.1)) fun x73 =>
  ltt ((((2 : Int32)) * x73)) fun x74 =>
  ltt ((x74 + ((1 : Int32)))) fun x75 =>
  dr (xt G L68) 13 ((y66.2.2 b71 17)) fun b76 =>
  chk (¬ (x75 < 0 ∨ (xt G L68).2.2 b76 ≤ x75.toNatClampNeg)) <|
  ltt (y66.2.1 b76 x75.toNatClampNeg) fun x77 =>
  dr (xt G L68) 10 ((y66.2.2 a 2)) fun b78 =>
  bnd (FX10_se (xt G L68) y66.2 b78 ((8 : Int32)) x77) fun y79 =>
  app y79.1 <|
  ltt (L68 ++ y79.1) fun L81 =>
  some ([], y79.2)) else
  (some ([], s34.2.2))) fun (y53 : NN × DD) =>
  app y53.1 <|
  ltt (s34.1 ++ y53.1) fun L55 =>
  ltt (s34.2.1 + (1 : Int32)) fun x57 =>
  some ([], .inl (L55, (x57, y53.2))))) : Option (NN × ((NN × Int32 × DD) ⊕ (Int32 × DD))))) 1000000 (s23.1, ((0 : Int32), s23.2.2))) fun (y33 : NN × Int32 × DD) =>
  app y33.1 <|
  ltt (s23.1 ++ y33.1) fun L36 =>
  ltt (s23.2.1 + (1 : Int32)) fun x38 =>
  some ([], .inl (L36, (x38, y33.2.2))))) : Option (NN × ((NN × Int32 × DD) ⊕ (Int32 × DD))))) 1000000 (L20, ((0 : Int32), y17.2.2))) fun (y22 : NN × Int32 × DD) =>
  app y22.1 <|
  ltt (L20 ++ y22.1) fun L25 =>
  some ([], y22.2.2)))) else
  (some ([], M))
set_option maxHeartbeats 4000000 in
set_option maxRecDepth 100000 in
noncomputable def FX0_writePattern (G : GG) (M : DD) (a : Nat) (p0 : Int32) (p1 : Int32) : Option (NN × DD) :=
  ltt ((((8 : Int32)) * p0)) fun x1 =>
  dr (xt G []) 9 ((M.2 a 3)) fun b2 =>
  ltt ((x1 + ((0 : Int32)))) fun x3 =>
  dr (xt G []) 13 ((M.2 b2 6)) fun b4 =>
  chk (¬ (x3 < 0 ∨ (xt G []).2.2 b4 ≤ x3.toNatClampNeg)) <|
  ltt (M.1 b4 x3.toNatClampNeg) fun x5 =>
  if x5 = ((2 : Int32)) then (some ([], M)) else
  (ltt ((x1 + ((3 : Int32)))) fun x7 =>
  chk (¬ (x7 < 0 ∨ (xt G []).2.2 b4 ≤ x7.toNatClampNeg)) <|
  ltt (M.1 b4 x7.toNatClampNeg) fun x8 =>
  ltt ((x1 + ((4 : Int32)))) fun x9 =>
  chk (¬ (x9 < 0 ∨ (xt G []).2.2 b4 ≤ x9.toNatClampNeg)) <|
  ltt (M.1 b4 x9.toNatClampNeg) fun x10 =>
  ltt ((((16 : Int32)) * x10)) fun x11 =>
  ltt ((x8 + x11)) fun x12 =>
  bnd (if x5 = ((1 : Int32)) then (some ([], M)) else
  (bnd (FX0_isSkipped (xt G []) M a p0) fun y54 =>
  bnd (if y54.2 = ((0 : Int32)) then (bnd (if x5 = ((0 : Int32)) then (some ((0 : Int32))) else
  (some ((48 : Int32)))) fun (y61 : Int32) =>
  bnd (itrA (fun (s63 : NN × Int32 × DD) => ((if ((48 : Int32)) ≤ s63.2.1 then (some ([], .inr ((s63.2.1, s63.2.2)))) else
  (ltt ((y61 + s63.2.1)) fun x73 =>
  chk (¬ (x73 < 0 ∨ 96 ≤ x73.toNatClampNeg)) <|
  ltt ((sT 9).getD x73.toNatClampNeg 0) fun x74 =>
  bnd (if x74 = x12 then (dr (xt G s63.1) 10 ((s63.2.2.2 a 2)) fun b82 =>
  bnd (FX10_ue (xt G s63.1) s63.2.2 b82 ((9 : Int32)) s63.2.1) fun y83 =>
  app y83.1 <|
  ltt (s63.1 ++ y83.1) fun L85 =>
  some ([], y83.2)) else
  (some ([], s63.2.2))) fun (y75 : NN × DD) =>
  app y75.1 <|
  ltt (s63.1 ++ y75.1) fun L77 =>
  ltt (s63.2.1 + (1 : Int32)) fun x79 =>
  some ([], .inl (L77, (x79, y75.2))))) : Option (NN × ((NN × Int32 × DD) ⊕ (Int32 × DD))))) 1000000 ([], ((0 : Int32), y54.1))) fun (y62 : NN × Int32 × DD) =>
  app y62.1 <|
  ltt ([] ++ y62.1) fun L65 =>
  some ([], y62.2.2)) else
  (some ([], y54.1))) fun (y55 : NN × DD) =>
  app y55.1 <|
  ltt ([] ++ y55.1) fun L57 =>
  some ([], y55.2))) fun (y13 : NN × DD) =>
  app y13.1 <|
  ltt ([] ++ y13.1) fun L15 =>
  bnd (if x5 = ((1 : Int32)) then (ltt (y13.2.1 a 19) fun x28 =>
  ltt ((p1 - x28)) fun x29 =>
  dr (xt G L15) 10 ((y13.2.2 a 2)) fun b30 =>
  bnd (FX10_se (xt G L15) y13.2 b30 ((10 : Int32)) x29) fun y31 =>
  app y31.1 <|
  ltt (L15 ++ y31.1) fun L33 =>
  ltt (uI y31.2 a 19 p1) fun M36 =>
  some ([], M36)) else
  (bnd (if x12 ≤ ((0 : Int32)) then (some ([], y13.2)) else
  (ltt (y13.2.1 a 19) fun x43 =>
  ltt ((p1 - x43)) fun x44 =>
  dr (xt G L15) 10 ((y13.2.2 a 2)) fun b45 =>
  bnd (FX10_se (xt G L15) y13.2 b45 ((10 : Int32)) x44) fun y46 =>
  app y46.1 <|
  ltt (L15 ++ y46.1) fun L48 =>
  ltt (uI y46.2 a 19 p1) fun M51 =>
  some ([], M51))) fun (y37 : NN × DD) =>
  app y37.1 <|
  ltt (L15 ++ y37.1) fun L39 =>
  some ([], y37.2))) fun (y17 : NN × DD) =>
  app y17.1 <|
  ltt (L15 ++ y17.1) fun L19 =>
  dr (xt G L19) 9 ((y17.2.2 a 3)) fun b21 =>
  ltt ((x1 + ((2 : Int32)))) fun x22 =>
  ltt (y17.2.1 a 19) fun x23 =>
  dr (xt G L19) 13 ((y17.2.2 b21 6)) fun b24 =>
  chk (¬ (x22 < 0 ∨ (xt G L19).2.2 b24 ≤ x22.toNatClampNeg)) <|
  ltt (uI y17.2 b24 x22.toNatClampNeg x23) fun M25 =>
  some ([], M25))
set_option maxHeartbeats 4000000 in
set_option maxRecDepth 100000 in
noncomputable def FX0_writeWeights (G : GG) (M : DD) (a : Nat)  : Option (NN × DD) :=
  dr (xt G []) 9 ((M.2 a 3)) fun b2 =>
  dr (xt G []) 3 ((M.2 b2 1)) fun b3 =>
  dr (xt G []) 13 ((M.2 b3 0)) fun b4 =>
  chk (¬ (((22 : Int32)) < 0 ∨ (xt G []).2.2 b4 ≤ ((22 : Int32)).toNatClampNeg)) <|
  ltt (uI M b4 ((22 : Int32)).toNatClampNeg ((5 : Int32))) fun M5 =>
  dr (xt G []) 9 ((M5.2 a 3)) fun b6 =>
  dr (xt G []) 3 ((M5.2 b6 1)) fun b7 =>
  dr (xt G []) 13 ((M5.2 b7 0)) fun b8 =>
  chk (¬ (((23 : Int32)) < 0 ∨ (xt G []).2.2 b8 ≤ ((23 : Int32)).toNatClampNeg)) <|
  ltt (uI M5 b8 ((23 : Int32)).toNatClampNeg ((5 : Int32))) fun M9 =>
  dr (xt G []) 9 ((M9.2 a 3)) fun b10 =>
  dr (xt G []) 3 ((M9.2 b10 1)) fun b11 =>
  bnd (FX3_clearWeights (xt G []) M9 b11) fun y12 =>
  dr (xt G []) 10 ((y12.2 a 2)) fun b13 =>
  bnd (FX10_ue (xt G []) y12 b13 ((0 : Int32)) ((5 : Int32))) fun y14 =>
  app y14.1 <|
  ltt ([] ++ y14.1) fun L16 =>
  dr (xt G L16) 10 ((y14.2.2 a 2)) fun b19 =>
  bnd (FX10_ue (xt G L16) y14.2 b19 ((0 : Int32)) ((5 : Int32))) fun y20 =>
  app y20.1 <|
  ltt (L16 ++ y20.1) fun L22 =>
  bnd (itrA (fun (s26 : NN × Int32 × DD) => ((dr (xt G s26.1) 9 ((s26.2.2.2 a 3)) fun b35 =>
  dr (xt G s26.1) 3 ((s26.2.2.2 b35 1)) fun b36 =>
  dr (xt G s26.1) 13 ((s26.2.2.2 b36 0)) fun b37 =>
  chk (¬ (((9 : Int32)) < 0 ∨ (xt G s26.1).2.2 b37 ≤ ((9 : Int32)).toNatClampNeg)) <|
  ltt (s26.2.2.1 b37 ((9 : Int32)).toNatClampNeg) fun x38 =>
  if x38 ≤ s26.2.1 then (some ([], .inr ((s26.2.1, s26.2.2)))) else
  (if ((8 : Int32)) ≤ s26.2.1 then (some ([], .inr ((s26.2.1, s26.2.2)))) else
  (bnd (FX3_weightAt (xt G s26.1) s26.2.2 ((0 : Int32)) s26.2.1 ((0 : Int32))) fun y41 =>
  dr (xt G s26.1) 9 ((y41.1.2 a 3)) fun b42 =>
  dr (xt G s26.1) 3 ((y41.1.2 b42 1)) fun b43 =>
  bnd (FX0_draw (xt G s26.1) y41.1 a ((9 : Int32))) fun y44 =>
  ltt ((((32 : Int32)) + y44.2)) fun x45 =>
  ltt ((x45 - ((4 : Int32)))) fun x46 =>
  dr (xt G s26.1) 13 ((y41.1.2 b43 3)) fun b47 =>
  chk (¬ (y41.2 < 0 ∨ (xt G s26.1).2.2 b47 ≤ y41.2.toNatClampNeg)) <|
  ltt (uI y44.1 b47 y41.2.toNatClampNeg x46) fun M48 =>
  dr (xt G s26.1) 9 ((M48.2 a 3)) fun b49 =>
  dr (xt G s26.1) 3 ((M48.2 b49 1)) fun b50 =>
  ltt ((y41.2 + ((1 : Int32)))) fun x51 =>
  bnd (FX0_draw (xt G s26.1) M48 a ((9 : Int32))) fun y52 =>
  ltt ((y52.2 - ((4 : Int32)))) fun x53 =>
  dr (xt G s26.1) 13 ((M48.2 b50 3)) fun b54 =>
  chk (¬ (x51 < 0 ∨ (xt G s26.1).2.2 b54 ≤ x51.toNatClampNeg)) <|
  ltt (uI y52.1 b54 x51.toNatClampNeg x53) fun M55 =>
  bnd (FX0_flag (xt G s26.1) M55 a ((1 : Int32))) fun y56 =>
  app y56.1 <|
  ltt (s26.1 ++ y56.1) fun L58 =>
  dr (xt G L58) 9 ((y56.2.2 a 3)) fun b61 =>
  dr (xt G L58) 3 ((y56.2.2 b61 1)) fun b62 =>
  dr (xt G L58) 13 ((y56.2.2 b62 3)) fun b63 =>
  chk (¬ (y41.2 < 0 ∨ (xt G L58).2.2 b63 ≤ y41.2.toNatClampNeg)) <|
  ltt (y56.2.1 b63 y41.2.toNatClampNeg) fun x64 =>
  dr (xt G L58) 10 ((y56.2.2 a 2)) fun b65 =>
  bnd (FX10_se (xt G L58) y56.2 b65 ((0 : Int32)) x64) fun y66 =>
  app y66.1 <|
  ltt (L58 ++ y66.1) fun L68 =>
  dr (xt G L68) 9 ((y66.2.2 a 3)) fun b71 =>
  dr (xt G L68) 3 ((y66.2.2 b71 1)) fun b72 =>
  ltt ((y41.2 + ((1 : Int32)))) fun x73 =>
  dr (xt G L68) 13 ((y66.2.2 b72 3)) fun b74 =>
  chk (¬ (x73 < 0 ∨ (xt G L68).2.2 b74 ≤ x73.toNatClampNeg)) <|
  ltt (y66.2.1 b74 x73.toNatClampNeg) fun x75 =>
  dr (xt G L68) 10 ((y66.2.2 a 2)) fun b76 =>
  bnd (FX10_se (xt G L68) y66.2 b76 ((0 : Int32)) x75) fun y77 =>
  app y77.1 <|
  ltt (L68 ++ y77.1) fun L79 =>
  bnd (FX0_flag (xt G L79) y77.2 a ((0 : Int32))) fun y82 =>
  app y82.1 <|
  ltt (L79 ++ y82.1) fun L84 =>
  ltt (s26.2.1 + (1 : Int32)) fun x87 =>
  some ([], .inl (L84, (x87, y82.2)))))) : Option (NN × ((NN × Int32 × DD) ⊕ (Int32 × DD))))) 1000000 (L22, ((0 : Int32), y20.2))) fun (y25 : NN × Int32 × DD) =>
  app y25.1 <|
  ltt (L22 ++ y25.1) fun L28 =>
  some ([], y25.2.2)
set_option maxHeartbeats 4000000 in
set_option maxRecDepth 100000 in
noncomputable def FX10_beginData (G : GG) (M : DD) (a : Nat)  : Option (NN × DD) :=
  bnd (FX10_fill (xt G []) M a ((1 : Int32))) fun y1 =>
  app y1.1 <|
  ltt ([] ++ y1.1) fun L3 =>
  bnd (FJ7_fill_53178 (xt G L3) y1.2 ((y1.2.2 a 13)) ((0 : Int32))) fun y6 =>
  bnd (FX10_beginArith (xt G L3) y6 a) fun y7 =>
  some ([], y7)
set_option maxHeartbeats 4000000 in
set_option maxRecDepth 100000 in
noncomputable def FX10_endUnit (G : GG) (M : DD) (a : Nat) (p0 : Int32) : Option (NN × DD) :=
  bnd (if p0 = ((0 : Int32)) then (bnd (FX10_put (xt G []) M a ((1 : Int32))) fun y76 =>
  app y76.1 <|
  ltt ([] ++ y76.1) fun L78 =>
  some ([], y76.2)) else
  (some ([], M))) fun (y1 : NN × DD) =>
  app y1.1 <|
  ltt ([] ++ y1.1) fun L3 =>
  bnd (FX10_fill (xt G L3) y1.2 a ((0 : Int32))) fun y5 =>
  app y5.1 <|
  ltt (L3 ++ y5.1) fun L7 =>
  bnd (FX10_putByte (xt G L7) y5.2 a ((0 : Int32))) fun y10 =>
  app y10.1 <|
  ltt (L7 ++ y10.1) fun L12 =>
  bnd (FX10_putByte (xt G L12) y10.2 a ((0 : Int32))) fun y15 =>
  app y15.1 <|
  ltt (L12 ++ y15.1) fun L17 =>
  bnd (FX10_putByte (xt G L17) y15.2 a ((0 : Int32))) fun y20 =>
  app y20.1 <|
  ltt (L17 ++ y20.1) fun L22 =>
  bnd (FX10_putByte (xt G L22) y20.2 a ((1 : Int32))) fun y25 =>
  app y25.1 <|
  ltt (L22 ++ y25.1) fun L27 =>
  bnd (itrA (fun (s31 : NN × Int32 × Int32 × DD) => ((ltt (s31.2.2.2.1 a 5) fun x43 =>
  if x43 ≤ s31.2.2.1 then (some ([], .inr ((s31.2.1, s31.2.2.1, s31.2.2.2)))) else
  (dr (xt G s31.1) 12 ((s31.2.2.2.2 a 4)) fun b45 =>
  chk (¬ (s31.2.2.1 < 0 ∨ (xt G s31.1).2.2 b45 ≤ s31.2.2.1.toNatClampNeg)) <|
  ltt (s31.2.2.2.1 b45 s31.2.2.1.toNatClampNeg) fun x46 =>
  ltt ((x46 &&& ((255 : Int32)))) fun x47 =>
  bnd (if s31.2.1 < ((2 : Int32)) then (some ([], (s31.2.1, s31.2.2.2))) else
  (bnd (if ((4 : Int32)) ≤ x47 then (some ([], (s31.2.1, s31.2.2.2))) else
  (bnd (FX10_putByte (xt G s31.1) s31.2.2.2 a ((3 : Int32))) fun y69 =>
  app y69.1 <|
  ltt (s31.1 ++ y69.1) fun L71 =>
  some ([], ((0 : Int32), y69.2)))) fun (y63 : NN × Int32 × DD) =>
  app y63.1 <|
  ltt (s31.1 ++ y63.1) fun L65 =>
  some ([], (y63.2.1, y63.2.2)))) fun (y48 : NN × Int32 × DD) =>
  app y48.1 <|
  ltt (s31.1 ++ y48.1) fun L50 =>
  bnd (FX10_putByte (xt G L50) y48.2.2 a x47) fun y52 =>
  app y52.1 <|
  ltt (L50 ++ y52.1) fun L54 =>
  bnd (if x47 = ((0 : Int32)) then (ltt ((y48.2.1 + ((1 : Int32)))) fun x60 =>
  some (x60)) else
  (some ((0 : Int32)))) fun (y57 : Int32) =>
  ltt (s31.2.2.1 + (1 : Int32)) fun x58 =>
  some ([], .inl (L54, (y57, x58, y52.2))))) : Option (NN × ((NN × Int32 × Int32 × DD) ⊕ (Int32 × Int32 × DD))))) 1000000 (L27, ((0 : Int32), (0 : Int32), y25.2))) fun (y30 : NN × Int32 × Int32 × DD) =>
  app y30.1 <|
  ltt (L27 ++ y30.1) fun L33 =>
  ltt (y30.2.2.2.1 a 2) fun x35 =>
  ltt ((x35 + ((1 : Int32)))) fun x36 =>
  ltt (uI y30.2.2.2 a 2 x36) fun M37 =>
  some ([], M37)
set_option maxHeartbeats 4000000 in
set_option maxRecDepth 100000 in
def FX11_adopt (G : GG) (M : DD) (a : Nat) (p0 : Option Nat) : Option (DD × Int32) :=
  dr G 8 ((M.2 a 2)) fun b2 =>
  bnd (FX8_keepFound G M b2 p0) fun y3 =>
  dr G 1 ((y3.2 a 3)) fun b4 =>
  bnd (FX1_restart G y3 b4) fun y5 =>
  dr G 8 ((y5.2 a 2)) fun b6 =>
  ltt (y5.1 b6 3) fun x7 =>
  some (y5, x7)
set_option maxHeartbeats 4000000 in
set_option maxRecDepth 100000 in
def FX11_demux (G : GG) (M : DD) (a : Nat)  : Option (DD × Int32) :=
  ltt (M.1 a 1) fun x1 =>
  ltt (uI M a 1 ((0 : Int32))) fun M2 =>
  dr G 8 ((M2.2 a 2)) fun b3 =>
  ltt (uI M2 b3 7 ((0 : Int32))) fun M4 =>
  dr G 8 ((M4.2 a 2)) fun b5 =>
  bnd (FX8_readBoxes G M4 b5 ((M4.2 a 0)) x1) fun y6 =>
  bnd (if y6.2 = ((0 : Int32)) then (none) else
  (some ())) fun (y7 : Unit) =>
  dr G 8 ((y6.1.2 a 2)) fun b8 =>
  bnd (FX8_cutByTables G y6.1 b8 ((y6.1.2 a 0)) x1) fun y9 =>
  bnd (if y9.2 = ((0 : Int32)) then (none) else
  (some ())) fun (y10 : Unit) =>
  bnd (FX11_adopt G y9.1 a ((y9.1.2 a 0))) fun y11 =>
  some (y11.1, y11.2)
set_option maxHeartbeats 4000000 in
set_option maxRecDepth 100000 in
def FX11_mux (G : GG) (M : DD) (a : Nat)  : Option (DD × Int32) :=
  dr G 8 ((M.2 a 2)) fun b2 =>
  bnd (FX8_fileLength G M b2) fun y3 =>
  bnd (if y3.2 ≤ ((65536 : Int32)) then (some ()) else
  (none)) fun (y4 : Unit) =>
  dr G 8 ((y3.1.2 a 2)) fun b5 =>
  bnd (FX8_writeFile G y3.1 b5 ((y3.1.2 a 0))) fun y6 =>
  ltt (uI y6.1 a 1 y6.2) fun M7 =>
  ltt (M7.1 a 1) fun x8 =>
  some (M7, x8)
set_option maxHeartbeats 4000000 in
set_option maxRecDepth 100000 in
def FX11_sum (G : GG) (M : DD) (a : Nat) (p0 : Int32) (p1 : Int32) : Option (DD × Int32) :=
  dr G 1 ((M.2 a 3)) fun b2 =>
  dr G 7 ((M.2 b2 1)) fun b3 =>
  bnd (FX7_keeps G M b3 p0) fun y4 =>
  bnd (if y4.2 = ((0 : Int32)) then (none) else
  (some ())) fun (y5 : Unit) =>
  bnd (if p1 < ((0 : Int32)) then (none) else
  (some ())) fun (y6 : Unit) =>
  bnd (if p1 ≤ ((2 : Int32)) then (some ()) else
  (none)) fun (y7 : Unit) =>
  dr G 1 ((y4.1.2 a 3)) fun b8 =>
  dr G 7 ((y4.1.2 b8 1)) fun b9 =>
  bnd (FX7_sumOf G y4.1 b9 p0 p1) fun y10 =>
  some (y10.1, y10.2)
set_option maxHeartbeats 4000000 in
set_option maxRecDepth 100000 in
def FX11_take (G : GG) (M : DD) (a : Nat)  : Option (DD × Int32) :=
  dr G 8 ((M.2 a 2)) fun b2 =>
  ltt (uI M b2 7 ((0 : Int32))) fun M3 =>
  dr G 0 ((M3.2 a 4)) fun b4 =>
  dr G 10 ((M3.2 b4 2)) fun b5 =>
  ltt (M3.1 b5 1) fun x6 =>
  bnd (if ((65536 : Int32)) < x6 then (none) else
  (some ())) fun (y7 : Unit) =>
  ltt (M3.1 b5 1) fun x8 =>
  dr G 8 ((M3.2 a 2)) fun b9 =>
  bnd (FX8_cutByMarks G M3 b9 ((M3.2 b5 0)) x8) fun y10 =>
  bnd (if y10.2 = ((0 : Int32)) then (none) else
  (some ())) fun (y11 : Unit) =>
  dr G 0 ((y10.1.2 a 4)) fun b12 =>
  dr G 10 ((y10.1.2 b12 2)) fun b13 =>
  bnd (FX11_adopt G y10.1 a ((y10.1.2 b13 0))) fun y14 =>
  some (y14.1, y14.2)
set_option maxHeartbeats 4000000 in
set_option maxRecDepth 100000 in
def FX1_beginSlice (G : GG) (M : DD) (a : Nat)  : Option (DD) :=
  ltt (uP M a 10 ((M.2 a 11))) fun M1 =>
  ltt (uP M1 a 11 ((M.2 a 10))) fun M2 =>
  ltt (M2.1 a 15) fun x3 =>
  ltt ((x3 + ((1 : Int32)))) fun x4 =>
  ltt (uI M2 a 15 x4) fun M5 =>
  dr G 3 ((M5.2 a 11)) fun b6 =>
  dr G 13 ((M5.2 b6 0)) fun b7 =>
  chk (¬ (((16 : Int32)) < 0 ∨ G.2.2 b7 ≤ ((16 : Int32)).toNatClampNeg)) <|
  ltt (uI M5 b7 ((16 : Int32)).toNatClampNeg ((0 : Int32))) fun M8 =>
  dr G 9 ((M8.2 a 2)) fun b9 =>
  dr G 4 ((M8.2 b9 0)) fun b10 =>
  ltt (M8.1 b10 9) fun x11 =>
  chk (¬ (((17 : Int32)) < 0 ∨ G.2.2 b7 ≤ ((17 : Int32)).toNatClampNeg)) <|
  ltt (uI M8 b7 ((17 : Int32)).toNatClampNeg x11) fun M12 =>
  dr G 9 ((M12.2 a 2)) fun b13 =>
  ltt (uP M12 b13 1 ((M12.2 a 11))) fun M14 =>
  chk (¬ (((2 : Int32)) < 0 ∨ G.2.2 b7 ≤ ((2 : Int32)).toNatClampNeg)) <|
  ltt (M14.1 b7 ((2 : Int32)).toNatClampNeg) fun x15 =>
  dr G 15 ((M14.2 a 6)) fun b16 =>
  chk (¬ (x15 < 0 ∨ G.2.2 b16 ≤ x15.toNatClampNeg)) <|
  dr G 9 ((M14.2 a 2)) fun b17 =>
  ltt (uP M14 b17 2 ((M14.2 b16 x15.toNatClampNeg))) fun M18 =>
  dr G 9 ((M18.2 a 2)) fun b19 =>
  ltt (M18.1 b19 11) fun x20 =>
  ltt ((x20 + ((1 : Int32)))) fun x21 =>
  ltt (uI M18 b19 11 x21) fun M22 =>
  dr G 13 ((M22.2 a 7)) fun b23 =>
  chk (¬ (((2 : Int32)) < 0 ∨ G.2.2 b23 ≤ ((2 : Int32)).toNatClampNeg)) <|
  ltt (M22.1 b23 ((2 : Int32)).toNatClampNeg) fun x24 =>
  ltt ((((1 : Int32)) <<< (x24 &&& 31))) fun x25 =>
  dr G 7 ((M22.2 a 1)) fun b26 =>
  bnd (FX7_makeLists G M22 b26 ((M22.2 a 2)) x25) fun y27 =>
  dr G 7 ((y27.2 a 1)) fun b28 =>
  bnd (FX7_moveList G y27 b28 ((y27.2 a 2)) ((0 : Int32)) x25) fun y29 =>
  bnd (if y29.2 = ((0 : Int32)) then (some ((0 : Int32), y29.1)) else
  (dr G 7 ((y29.1.2 a 1)) fun b36 =>
  bnd (FX7_moveList G y29.1 b36 ((y29.1.2 a 2)) ((1 : Int32)) x25) fun y37 =>
  bnd (if y37.2 = ((0 : Int32)) then (some ((0 : Int32))) else
  (some ((1 : Int32)))) fun (y38 : Int32) =>
  some (y38, y37.1))) fun (y30 : Int32 × DD) =>
  dr G 9 ((y30.2.2 a 2)) fun b31 =>
  bnd (FX9_noteEntries G y30.2 b31) fun y32 =>
  bnd (if y30.1 = ((0 : Int32)) then (none) else
  (some (y32))) fun (y33 : DD) =>
  some y33
set_option maxHeartbeats 4000000 in
set_option maxRecDepth 100000 in
noncomputable def FX1_init (G : GG) (M : DD) (a : Nat)  : Option (NN × DD) :=
  chkP (Clo (xt G []) M) <|
  ltt ((xt G []).1) fun c2 =>
  app [(5, 0)] <|
  ltt ([] ++ [(5, 0)]) fun L4 =>
  ltt (rO M c2) fun M5 =>
  bnd (FX5_init (xt G L4) M5 c2) fun y8 =>
  app y8.1 <|
  ltt (L4 ++ y8.1) fun L10 =>
  ltt (uP y8.2 a 0 (some c2)) fun M13 =>
  chkP (Clo (xt G L10) M13) <|
  ltt ((xt G L10).1) fun c15 =>
  app [(7, 0)] <|
  ltt (L10 ++ [(7, 0)]) fun L17 =>
  ltt (rO M13 c15) fun M18 =>
  bnd (FX7_init (xt G L17) M18 c15) fun y21 =>
  app y21.1 <|
  ltt (L17 ++ y21.1) fun L23 =>
  ltt (uP y21.2 a 1 (some c15)) fun M26 =>
  chkP (Clo (xt G L23) M26) <|
  ltt ((xt G L23).1) fun c28 =>
  app [(9, 0)] <|
  ltt (L23 ++ [(9, 0)]) fun L30 =>
  ltt (rO M26 c28) fun M31 =>
  bnd (FX9_init (xt G L30) M31 c28) fun y34 =>
  app y34.1 <|
  ltt (L30 ++ y34.1) fun L36 =>
  ltt (uP y34.2 a 2 (some c28)) fun M39 =>
  chkP (Clo (xt G L36) M39) <|
  ltt ((xt G L36).1) fun c41 =>
  app [(6, 0)] <|
  ltt (L36 ++ [(6, 0)]) fun L43 =>
  ltt (rO M39 c41) fun M44 =>
  bnd (FX6_init (xt G L43) M44 c41) fun y47 =>
  app y47.1 <|
  ltt (L43 ++ y47.1) fun L49 =>
  ltt (uP y47.2 a 3 (some c41)) fun M52 =>
  chkP (Clo (xt G L49) M52) <|
  ltt ((xt G L49).1) fun c54 =>
  app [(2, 0)] <|
  ltt (L49 ++ [(2, 0)]) fun L56 =>
  ltt (rO M52 c54) fun M57 =>
  bnd (FX2_init (xt G L56) M57 c54) fun y60 =>
  app y60.1 <|
  ltt (L56 ++ y60.1) fun L62 =>
  ltt (uP y60.2 a 4 (some c54)) fun M65 =>
  chkP (Clo (xt G L62) M65) <|
  ltt ((xt G L62).1) fun c67 =>
  app (mrel 4 24) <|
  ltt (L62 ++ mrel 4 24) fun L69 =>
  ltt (mM M65 c67 4) fun M70 =>
  ltt (uP M70 a 5 (some c67)) fun M73 =>
  chkP (Clo (xt G L69) M73) <|
  ltt ((xt G L69).1) fun c75 =>
  app (mrel 4 12) <|
  ltt (L69 ++ mrel 4 12) fun L77 =>
  ltt (mM M73 c75 4) fun M78 =>
  ltt (uP M78 a 6 (some c75)) fun M81 =>
  chkP (Clo (xt G L77) M81) <|
  chk (¬ ((24 : Int32)) < 0 ∧ ((24 : Int32)).toNatClampNeg * 4 ≤ 536870912) <|
  ltt ((xt G L77).1) fun c83 =>
  app [(13, ((24 : Int32)).toNatClampNeg)] <|
  ltt (L77 ++ [(13, ((24 : Int32)).toNatClampNeg)]) fun L85 =>
  ltt (rO M81 c83) fun M86 =>
  ltt (uP M86 a 7 (some c83)) fun M89 =>
  ltt (uI M89 a 8 ((-1 : Int32))) fun M90 =>
  chkP (Clo (xt G L85) M90) <|
  chk (¬ ((24 : Int32)) < 0 ∧ ((24 : Int32)).toNatClampNeg * 4 ≤ 536870912) <|
  ltt ((xt G L85).1) fun c92 =>
  app [(13, ((24 : Int32)).toNatClampNeg)] <|
  ltt (L85 ++ [(13, ((24 : Int32)).toNatClampNeg)]) fun L94 =>
  ltt (rO M90 c92) fun M95 =>
  ltt (uP M95 a 9 (some c92)) fun M98 =>
  chkP (Clo (xt G L94) M98) <|
  ltt ((xt G L94).1) fun c100 =>
  app [(3, 0)] <|
  ltt (L94 ++ [(3, 0)]) fun L102 =>
  ltt (rO M98 c100) fun M103 =>
  bnd (FX3_init (xt G L102) M103 c100) fun y106 =>
  app y106.1 <|
  ltt (L102 ++ y106.1) fun L108 =>
  ltt (uP y106.2 a 10 (some c100)) fun M111 =>
  chkP (Clo (xt G L108) M111) <|
  ltt ((xt G L108).1) fun c113 =>
  app [(3, 0)] <|
  ltt (L108 ++ [(3, 0)]) fun L115 =>
  ltt (rO M111 c113) fun M116 =>
  bnd (FX3_init (xt G L115) M116 c113) fun y119 =>
  app y119.1 <|
  ltt (L115 ++ y119.1) fun L121 =>
  ltt (uP y119.2 a 11 (some c113)) fun M124 =>
  chkP (Clo (xt G L121) M124) <|
  ltt ((xt G L121).1) fun c126 =>
  app [(3, 0)] <|
  ltt (L121 ++ [(3, 0)]) fun L128 =>
  ltt (rO M124 c126) fun M129 =>
  bnd (FX3_init (xt G L128) M129 c126) fun y132 =>
  app y132.1 <|
  ltt (L128 ++ y132.1) fun L134 =>
  ltt (uP y132.2 a 12 (some c126)) fun M137 =>
  chkP (Clo (xt G L134) M137) <|
  chk (¬ ((600 : Int32)) < 0 ∧ ((600 : Int32)).toNatClampNeg * 4 ≤ 536870912) <|
  ltt ((xt G L134).1) fun c139 =>
  app [(13, ((600 : Int32)).toNatClampNeg)] <|
  ltt (L134 ++ [(13, ((600 : Int32)).toNatClampNeg)]) fun L141 =>
  ltt (rO M137 c139) fun M142 =>
  ltt (uP M142 a 13 (some c139)) fun M145 =>
  some ([], M145)
set_option maxHeartbeats 4000000 in
set_option maxRecDepth 100000 in
def FX1_readColours (G : GG) (M : DD) (a : Nat) (p0 : Int32) (p1 : Int32) : Option (DD) :=
  dr G 5 ((M.2 a 0)) fun b2 =>
  bnd (FX5_number G M b2 ((4 : Int32)) ((0 : Int32)) ((0 : Int64)) ((3 : Int64))) fun y3 =>
  bnd (FX9_mayBeColours G y3.1 y3.2 p1) fun y4 =>
  bnd (if y4.2 = ((0 : Int32)) then (none) else
  (some (y4.1))) fun (y5 : DD) =>
  dr G 9 ((y5.2 a 2)) fun b6 =>
  ltt ((((8 : Int32)) * p0)) fun x7 =>
  ltt ((x7 + ((5 : Int32)))) fun x8 =>
  dr G 13 ((y5.2 b6 6)) fun b9 =>
  chk (¬ (x8 < 0 ∨ G.2.2 b9 ≤ x8.toNatClampNeg)) <|
  ltt (uI y5 b9 x8.toNatClampNeg y3.2) fun M10 =>
  some M10
set_option maxHeartbeats 4000000 in
set_option maxRecDepth 100000 in
def FX1_readFour (G : GG) (M : DD) (a : Nat) (p0 : Int32) : Option (DD) :=
  dr G 9 ((M.2 a 2)) fun b2 =>
  bnd (FX9_sides G M b2 p0) fun y3 =>
  dr G 9 ((y3.1.2 a 2)) fun b4 =>
  ltt ((((8 : Int32)) * p0)) fun x5 =>
  ltt ((x5 + ((0 : Int32)))) fun x6 =>
  dr G 13 ((y3.1.2 b4 6)) fun b7 =>
  chk (¬ (x6 < 0 ∨ G.2.2 b7 ≤ x6.toNatClampNeg)) <|
  ltt (uI y3.1 b7 x6.toNatClampNeg ((0 : Int32))) fun M8 =>
  bnd (itr (fun (s10 : Int32 × DD) => ((if ((16 : Int32)) ≤ s10.1 then (some (.inr (s10.1, s10.2))) else
  (dr G 9 ((s10.2.2 a 2)) fun b15 =>
  bnd (FX9_guessMode G s10.2 b15 p0 s10.1) fun y16 =>
  dr G 5 ((y16.1.2 a 0)) fun b17 =>
  bnd (FX5_fixed G y16.1 b17 ((2 : Int32)) ((1 : Int32))) fun y18 =>
  bnd (if y18.2 = ((0 : Int32)) then (dr G 5 ((y18.1.2 a 0)) fun b31 =>
  bnd (FX5_fixed G y18.1 b31 ((3 : Int32)) ((3 : Int32))) fun y32 =>
  bnd (if y16.2 ≤ y32.2 then (ltt ((y32.2 + ((1 : Int32)))) fun x35 =>
  some (x35)) else
  (some (y32.2))) fun (y33 : Int32) =>
  some (y33, y32.1)) else
  (some (y16.2, y18.1))) fun (y19 : Int32 × DD) =>
  bnd (FX9_sidesOf G y19.2 s10.1 y3.2) fun y20 =>
  bnd (FX9_mayBeFour G y20.1 y19.1 y20.2) fun y21 =>
  bnd (if y21.2 = ((0 : Int32)) then (none) else
  (some (y21.1))) fun (y22 : DD) =>
  dr G 9 ((y22.2 a 2)) fun b23 =>
  ltt ((((16 : Int32)) * p0)) fun x24 =>
  ltt ((x24 + s10.1)) fun x25 =>
  dr G 13 ((y22.2 b23 7)) fun b26 =>
  chk (¬ (x25 < 0 ∨ G.2.2 b26 ≤ x25.toNatClampNeg)) <|
  ltt (uI y22 b26 x25.toNatClampNeg y19.1) fun M27 =>
  ltt (s10.1 + (1 : Int32)) fun x28 =>
  some (.inl (x28, M27)))) : Option ((Int32 × DD) ⊕ (Int32 × DD)))) 1000000 ((0 : Int32), M8)) fun (y9 : Int32 × DD) =>
  bnd (FX1_readColours G y9.2 a p0 y3.2) fun y12 =>
  some y12
set_option maxHeartbeats 4000000 in
set_option maxRecDepth 100000 in
def FX1_readPattern (G : GG) (M : DD) (a : Nat) (p0 : Int32) : Option (DD) :=
  ltt ((((8 : Int32)) * p0)) fun x1 =>
  dr G 9 ((M.2 a 2)) fun b2 =>
  ltt ((x1 + ((0 : Int32)))) fun x3 =>
  dr G 13 ((M.2 b2 6)) fun b4 =>
  chk (¬ (x3 < 0 ∨ G.2.2 b4 ≤ x3.toNatClampNeg)) <|
  ltt (M.1 b4 x3.toNatClampNeg) fun x5 =>
  if x5 = ((2 : Int32)) then (ltt ((((24 : Int32)) * p0)) fun x55 =>
  ltt ((((24 : Int32)) * p0)) fun x56 =>
  ltt ((x56 + ((24 : Int32)))) fun x57 =>
  bnd (FJ7_fill_fda19 G M ((M.2 b2 8)) x55 x57 ((16 : Int32))) fun y58 =>
  some y58) else
  (bnd (if x5 = ((1 : Int32)) then (some (M)) else
  (dr G 5 ((M.2 a 0)) fun b39 =>
  bnd (FX5_number G M b39 ((9 : Int32)) ((0 : Int32)) ((0 : Int64)) ((47 : Int64))) fun y40 =>
  bnd (if x5 = ((0 : Int32)) then (some (y40.2)) else
  (ltt ((((48 : Int32)) + y40.2)) fun x54 =>
  some (x54))) fun (y41 : Int32) =>
  chk (¬ (y41 < 0 ∨ 96 ≤ y41.toNatClampNeg)) <|
  ltt ((sT 9).getD y41.toNatClampNeg 0) fun x42 =>
  dr G 9 ((y40.1.2 a 2)) fun b43 =>
  ltt ((x1 + ((3 : Int32)))) fun x44 =>
  ltt ((x42 &&& ((15 : Int32)))) fun x45 =>
  dr G 13 ((y40.1.2 b43 6)) fun b46 =>
  chk (¬ (x44 < 0 ∨ G.2.2 b46 ≤ x44.toNatClampNeg)) <|
  ltt (uI y40.1 b46 x44.toNatClampNeg x45) fun M47 =>
  dr G 9 ((M47.2 a 2)) fun b48 =>
  ltt ((x1 + ((4 : Int32)))) fun x49 =>
  ltt (x42 / ((16 : Int32))) fun x50 =>
  dr G 13 ((M47.2 b48 6)) fun b51 =>
  chk (¬ (x49 < 0 ∨ G.2.2 b51 ≤ x49.toNatClampNeg)) <|
  ltt (uI M47 b51 x49.toNatClampNeg x50) fun M52 =>
  some (M52))) fun (y7 : DD) =>
  bnd (if x5 = ((1 : Int32)) then (ltt (y7.1 a 20) fun x15 =>
  dr G 5 ((y7.2 a 0)) fun b16 =>
  bnd (FX5_number G y7 b16 ((10 : Int32)) ((1 : Int32)) ((-26 : Int64)) ((25 : Int64))) fun y17 =>
  ltt ((x15 + y17.2)) fun x18 =>
  ltt ((x18 + ((52 : Int32)))) fun x19 =>
  ltt (x19 - x19 / ((52 : Int32)) * ((52 : Int32))) fun x20 =>
  ltt (uI y17.1 a 20 x20) fun M21 =>
  some (M21)) else
  (dr G 9 ((y7.2 a 2)) fun b22 =>
  ltt ((x1 + ((3 : Int32)))) fun x23 =>
  dr G 13 ((y7.2 b22 6)) fun b24 =>
  chk (¬ (x23 < 0 ∨ G.2.2 b24 ≤ x23.toNatClampNeg)) <|
  ltt (y7.1 b24 x23.toNatClampNeg) fun x25 =>
  ltt ((x1 + ((4 : Int32)))) fun x26 =>
  chk (¬ (x26 < 0 ∨ G.2.2 b24 ≤ x26.toNatClampNeg)) <|
  ltt (y7.1 b24 x26.toNatClampNeg) fun x27 =>
  ltt ((x25 + x27)) fun x28 =>
  bnd (if x28 ≤ ((0 : Int32)) then (some (y7)) else
  (ltt (y7.1 a 20) fun x31 =>
  dr G 5 ((y7.2 a 0)) fun b32 =>
  bnd (FX5_number G y7 b32 ((10 : Int32)) ((1 : Int32)) ((-26 : Int64)) ((25 : Int64))) fun y33 =>
  ltt ((x31 + y33.2)) fun x34 =>
  ltt ((x34 + ((52 : Int32)))) fun x35 =>
  ltt (x35 - x35 / ((52 : Int32)) * ((52 : Int32))) fun x36 =>
  ltt (uI y33.1 a 20 x36) fun M37 =>
  some (M37))) fun (y29 : DD) =>
  some (y29))) fun (y8 : DD) =>
  dr G 9 ((y8.2 a 2)) fun b9 =>
  ltt ((x1 + ((2 : Int32)))) fun x10 =>
  ltt (y8.1 a 20) fun x11 =>
  dr G 13 ((y8.2 b9 6)) fun b12 =>
  chk (¬ (x10 < 0 ∨ G.2.2 b12 ≤ x10.toNatClampNeg)) <|
  ltt (uI y8 b12 x10.toNatClampNeg x11) fun M13 =>
  some M13)
set_option maxHeartbeats 4000000 in
set_option maxRecDepth 100000 in
def FX1_readReferences (G : GG) (M : DD) (a : Nat) (p0 : Int32) (p1 : Int32) : Option (DD) :=
  dr G 3 ((M.2 a 11)) fun b2 =>
  ltt ((((9 : Int32)) + p1)) fun x3 =>
  dr G 13 ((M.2 b2 0)) fun b4 =>
  chk (¬ (x3 < 0 ∨ G.2.2 b4 ≤ x3.toNatClampNeg)) <|
  ltt (M.1 b4 x3.toNatClampNeg) fun x5 =>
  ltt ((x5 - ((1 : Int32)))) fun x6 =>
  chk (¬ (((1 : Int32)) < 0 ∨ G.2.2 b4 ≤ ((1 : Int32)).toNatClampNeg)) <|
  ltt (M.1 b4 ((1 : Int32)).toNatClampNeg) fun x7 =>
  bnd (if x7 = ((0 : Int32)) then (dr G 9 ((M.2 a 2)) fun b43 =>
  ltt ((((8 : Int32)) * p0)) fun x44 =>
  ltt ((x44 + ((1 : Int32)))) fun x45 =>
  dr G 13 ((M.2 b43 6)) fun b46 =>
  chk (¬ (x45 < 0 ∨ G.2.2 b46 ≤ x45.toNatClampNeg)) <|
  ltt (M.1 b46 x45.toNatClampNeg) fun x47 =>
  bnd (if x47 = ((4 : Int32)) then (some ((1 : Int32))) else
  (some ((0 : Int32)))) fun (y48 : Int32) =>
  some (y48)) else
  (some ((0 : Int32)))) fun (y8 : Int32) =>
  bnd (itr (fun (s10 : Int32 × DD) => ((dr G 9 ((s10.2.2 a 2)) fun b13 =>
  ltt (s10.2.1 b13 16) fun x14 =>
  if x14 ≤ s10.1 then (some (.inr (s10.1, s10.2))) else
  (ltt ((((4 : Int32)) * s10.1)) fun x16 =>
  ltt ((x16 + ((3 : Int32)))) fun x17 =>
  dr G 13 ((s10.2.2 b13 15)) fun b18 =>
  chk (¬ (x17 < 0 ∨ G.2.2 b18 ≤ x17.toNatClampNeg)) <|
  ltt (s10.2.1 b18 x17.toNatClampNeg) fun x19 =>
  ltt ((x19 >>> (p1 &&& 31))) fun x20 =>
  ltt ((x20 &&& ((1 : Int32)))) fun x21 =>
  bnd (if x21 = ((0 : Int32)) then (some (s10.2)) else
  (bnd (if y8 = ((0 : Int32)) then (bnd (if ((1 : Int32)) ≤ x6 then (ltt (x6.toInt64) fun x39 =>
  dr G 5 ((s10.2.2 a 0)) fun b40 =>
  bnd (FX5_number G s10.2 b40 ((6 : Int32)) ((2 : Int32)) ((0 : Int64)) x39) fun y41 =>
  some (y41.2, y41.1)) else
  (some ((0 : Int32), s10.2))) fun (y37 : Int32 × DD) =>
  some (y37.1, y37.2)) else
  (some ((0 : Int32), s10.2))) fun (y25 : Int32 × DD) =>
  bnd (if ((7 : Int32)) < y25.1 then (none) else
  (some (y25.2))) fun (y26 : DD) =>
  dr G 9 ((y26.2 a 2)) fun b27 =>
  ltt ((((9 : Int32)) * p1)) fun x28 =>
  ltt ((x28 + y25.1)) fun x29 =>
  dr G 14 ((y26.2 b27 3)) fun b30 =>
  chk (¬ (x29 < 0 ∨ G.2.2 b30 ≤ x29.toNatClampNeg)) <|
  bnd (if ((y26.2 b30 x29.toNatClampNeg)) = none then (none) else
  (some (y26))) fun (y31 : DD) =>
  dr G 9 ((y31.2 a 2)) fun b32 =>
  bnd (FX9_setReference G y31 b32 p0 p1 s10.1 y25.1) fun y33 =>
  some (y33))) fun (y22 : DD) =>
  ltt (s10.1 + (1 : Int32)) fun x23 =>
  some (.inl (x23, y22)))) : Option ((Int32 × DD) ⊕ (Int32 × DD)))) 1000000 ((0 : Int32), M)) fun (y9 : Int32 × DD) =>
  some y9.2
set_option maxHeartbeats 4000000 in
set_option maxRecDepth 100000 in
def FX1_readSixteen (G : GG) (M : DD) (a : Nat) (p0 : Int32) (p1 : Int32) : Option (DD) :=
  dr G 9 ((M.2 a 2)) fun b2 =>
  bnd (FX9_sides G M b2 p0) fun y3 =>
  dr G 9 ((y3.1.2 a 2)) fun b4 =>
  ltt ((((8 : Int32)) * p0)) fun x5 =>
  ltt ((x5 + ((0 : Int32)))) fun x6 =>
  dr G 13 ((y3.1.2 b4 6)) fun b7 =>
  chk (¬ (x6 < 0 ∨ G.2.2 b7 ≤ x6.toNatClampNeg)) <|
  ltt (uI y3.1 b7 x6.toNatClampNeg ((1 : Int32))) fun M8 =>
  dr G 9 ((M8.2 a 2)) fun b9 =>
  ltt ((((8 : Int32)) * p0)) fun x10 =>
  ltt ((x10 + ((3 : Int32)))) fun x11 =>
  bnd (if p1 ≤ ((11 : Int32)) then (some ((0 : Int32))) else
  (some ((15 : Int32)))) fun (y12 : Int32) =>
  dr G 13 ((M8.2 b9 6)) fun b13 =>
  chk (¬ (x11 < 0 ∨ G.2.2 b13 ≤ x11.toNatClampNeg)) <|
  ltt (uI M8 b13 x11.toNatClampNeg y12) fun M14 =>
  dr G 9 ((M14.2 a 2)) fun b15 =>
  ltt ((((8 : Int32)) * p0)) fun x16 =>
  ltt ((x16 + ((4 : Int32)))) fun x17 =>
  ltt (p1 / ((4 : Int32))) fun x18 =>
  ltt (x18 - x18 / ((3 : Int32)) * ((3 : Int32))) fun x19 =>
  dr G 13 ((M14.2 b15 6)) fun b20 =>
  chk (¬ (x17 < 0 ∨ G.2.2 b20 ≤ x17.toNatClampNeg)) <|
  ltt (uI M14 b20 x17.toNatClampNeg x19) fun M21 =>
  ltt (p1 - p1 / ((4 : Int32)) * ((4 : Int32))) fun x22 =>
  bnd (FX9_mayBeSixteen G M21 x22 y3.2) fun y23 =>
  bnd (if y23.2 = ((0 : Int32)) then (none) else
  (some (y23.1))) fun (y24 : DD) =>
  dr G 9 ((y24.2 a 2)) fun b25 =>
  ltt ((((16 : Int32)) * p0)) fun x26 =>
  ltt ((((16 : Int32)) * p0)) fun x27 =>
  ltt ((x27 + ((16 : Int32)))) fun x28 =>
  ltt (p1 - p1 / ((4 : Int32)) * ((4 : Int32))) fun x29 =>
  bnd (FJ7_fill_fda19 G y24 ((y24.2 b25 7)) x26 x28 x29) fun y30 =>
  bnd (FX1_readColours G y30 a p0 y3.2) fun y31 =>
  some y31
set_option maxHeartbeats 4000000 in
set_option maxRecDepth 100000 in
def FX1_readSubs (G : GG) (M : DD) (a : Nat) (p0 : Int32) (p1 : Int32) : Option (DD × Int32) :=
  bnd (if p0 = ((0 : Int32)) then (bnd (if p1 = ((4 : Int32)) then (dr G 9 ((M.2 a 2)) fun b27 =>
  dr G 13 ((M.2 b27 2)) fun b28 =>
  chk (¬ (((1 : Int32)) < 0 ∨ G.2.2 b28 ≤ ((1 : Int32)).toNatClampNeg)) <|
  ltt (M.1 b28 ((1 : Int32)).toNatClampNeg) fun x29 =>
  bnd (if x29 = ((1 : Int32)) then (dr G 5 ((M.2 a 0)) fun b32 =>
  ltt (M.1 b32 4) fun x33 =>
  none) else
  (some (M))) fun (y30 : DD) =>
  some (y30)) else
  (some (M))) fun (y25 : DD) =>
  some (y25)) else
  (some (M))) fun (y1 : DD) =>
  bnd (itr (fun (s3 : Int32 × Int32 × DD) => ((if ((4 : Int32)) ≤ s3.2.1 then (some (.inr (s3.1, s3.2.1, s3.2.2))) else
  (dr G 9 ((s3.2.2.2 a 2)) fun b7 =>
  bnd (if p0 = ((1 : Int32)) then (some ((12 : Int64))) else
  (some ((3 : Int64)))) fun (y8 : Int64) =>
  dr G 5 ((s3.2.2.2 a 0)) fun b9 =>
  bnd (FX5_number G s3.2.2 b9 ((5 : Int32)) ((0 : Int32)) ((0 : Int64)) y8) fun y10 =>
  dr G 13 ((s3.2.2.2 b7 12)) fun b11 =>
  chk (¬ (s3.2.1 < 0 ∨ G.2.2 b11 ≤ s3.2.1.toNatClampNeg)) <|
  ltt (uI y10.1 b11 s3.2.1.toNatClampNeg y10.2) fun M12 =>
  bnd (if p0 = ((1 : Int32)) then (dr G 9 ((M12.2 a 2)) fun b17 =>
  dr G 13 ((M12.2 b17 12)) fun b18 =>
  chk (¬ (s3.2.1 < 0 ∨ G.2.2 b18 ≤ s3.2.1.toNatClampNeg)) <|
  ltt (M12.1 b18 s3.2.1.toNatClampNeg) fun x19 =>
  bnd (if x19 = ((0 : Int32)) then (ltt ((((1 : Int32)) <<< (s3.2.1 &&& 31))) fun x22 =>
  some (x22)) else
  (some ((0 : Int32)))) fun (y20 : Int32) =>
  some (y20)) else
  (some ((0 : Int32)))) fun (y13 : Int32) =>
  ltt ((s3.1 ||| y13)) fun x14 =>
  ltt (s3.2.1 + (1 : Int32)) fun x15 =>
  some (.inl (x14, x15, M12)))) : Option ((Int32 × Int32 × DD) ⊕ (Int32 × Int32 × DD)))) 1000000 ((0 : Int32), (0 : Int32), y1)) fun (y2 : Int32 × Int32 × DD) =>
  some (y2.2.2, y2.1)
set_option maxHeartbeats 4000000 in
set_option maxRecDepth 100000 in
def FX1_readVectors (G : GG) (M : DD) (a : Nat) (p0 : Int32) (p1 : Int32) : Option (DD) :=
  bnd (itr (fun (s2 : Int32 × DD) => ((dr G 9 ((s2.2.2 a 2)) fun b5 =>
  ltt (s2.2.1 b5 14) fun x6 =>
  if x6 ≤ s2.1 then (some (.inr (s2.1, s2.2))) else
  (ltt ((((5 : Int32)) * s2.1)) fun x8 =>
  ltt ((x8 + ((3 : Int32)))) fun x9 =>
  dr G 13 ((s2.2.2 b5 13)) fun b10 =>
  chk (¬ (x9 < 0 ∨ G.2.2 b10 ≤ x9.toNatClampNeg)) <|
  ltt (s2.2.1 b10 x9.toNatClampNeg) fun x11 =>
  ltt ((x11 >>> (p1 &&& 31))) fun x12 =>
  ltt ((x12 &&& ((1 : Int32)))) fun x13 =>
  bnd (if x13 = ((0 : Int32)) then (some (s2.2)) else
  (dr G 4 ((s2.2.2 b5 0)) fun b17 =>
  ltt ((((16 : Int32)) * p0)) fun x18 =>
  chk (¬ (x8 < 0 ∨ G.2.2 b10 ≤ x8.toNatClampNeg)) <|
  ltt (s2.2.1 b10 x8.toNatClampNeg) fun x19 =>
  ltt ((x18 + x19)) fun x20 =>
  bnd (FX4_at G s2.2 p1 x20) fun y21 =>
  dr G 13 ((s2.2.2 b17 5)) fun b22 =>
  chk (¬ (y21.2 < 0 ∨ G.2.2 b22 ≤ y21.2.toNatClampNeg)) <|
  ltt (y21.1.1 b22 y21.2.toNatClampNeg) fun x23 =>
  chk (¬ (x8 < 0 ∨ G.2.2 b10 ≤ x8.toNatClampNeg)) <|
  ltt (y21.1.1 b10 x8.toNatClampNeg) fun x24 =>
  ltt ((x8 + ((1 : Int32)))) fun x25 =>
  chk (¬ (x25 < 0 ∨ G.2.2 b10 ≤ x25.toNatClampNeg)) <|
  ltt (y21.1.1 b10 x25.toNatClampNeg) fun x26 =>
  ltt ((x8 + ((4 : Int32)))) fun x27 =>
  chk (¬ (x27 < 0 ∨ G.2.2 b10 ≤ x27.toNatClampNeg)) <|
  ltt (y21.1.1 b10 x27.toNatClampNeg) fun x28 =>
  dr G 9 ((y21.1.2 a 2)) fun b29 =>
  bnd (FX9_guess G y21.1 b29 p0 p1 x23 x24 x26 x28) fun y30 =>
  dr G 9 ((y30.2 a 2)) fun b31 =>
  ltt (y30.1 b31 18) fun x32 =>
  dr G 5 ((y30.2 a 0)) fun b33 =>
  bnd (FX5_number G y30 b33 ((7 : Int32)) ((1 : Int32)) ((-8192 : Int64)) ((8191 : Int64))) fun y34 =>
  ltt ((x32 + y34.2)) fun x35 =>
  bnd (if x35 < ((-2048 : Int32)) then (dr G 5 ((y34.1.2 a 0)) fun b57 =>
  ltt (y34.1.1 b57 4) fun x58 =>
  none) else
  (some (y34.1))) fun (y36 : DD) =>
  bnd (if x35 ≤ ((2047 : Int32)) then (some (y36)) else
  (dr G 5 ((y36.2 a 0)) fun b54 =>
  ltt (y36.1 b54 4) fun x55 =>
  none)) fun (y37 : DD) =>
  dr G 9 ((y37.2 a 2)) fun b38 =>
  ltt (y37.1 b38 19) fun x39 =>
  dr G 5 ((y37.2 a 0)) fun b40 =>
  bnd (FX5_number G y37 b40 ((8 : Int32)) ((1 : Int32)) ((-8192 : Int64)) ((8191 : Int64))) fun y41 =>
  ltt ((x39 + y41.2)) fun x42 =>
  bnd (if x42 < ((-2048 : Int32)) then (dr G 5 ((y41.1.2 a 0)) fun b51 =>
  ltt (y41.1.1 b51 4) fun x52 =>
  none) else
  (some (y41.1))) fun (y43 : DD) =>
  bnd (if x42 ≤ ((2047 : Int32)) then (some (y43)) else
  (dr G 5 ((y43.2 a 0)) fun b48 =>
  ltt (y43.1 b48 4) fun x49 =>
  none)) fun (y44 : DD) =>
  dr G 9 ((y44.2 a 2)) fun b45 =>
  bnd (FX9_setMove G y44 b45 p0 p1 s2.1 x35 x42) fun y46 =>
  some (y46))) fun (y14 : DD) =>
  ltt (s2.1 + (1 : Int32)) fun x15 =>
  some (.inl (x15, y14)))) : Option ((Int32 × DD) ⊕ (Int32 × DD)))) 1000000 ((0 : Int32), M)) fun (y1 : Int32 × DD) =>
  some y1.2
set_option maxHeartbeats 4000000 in
set_option maxRecDepth 100000 in
def FX1_signed (G : GG) (M : DD) (a : Nat) (p0 : Int32) (p1 : Int32) : Option (DD × Int32) :=
  ltt (p0.toInt64) fun x1 =>
  ltt (p1.toInt64) fun x2 =>
  dr G 5 ((M.2 a 0)) fun b3 =>
  bnd (FX5_number G M b3 ((0 : Int32)) ((1 : Int32)) x1 x2) fun y4 =>
  some (y4.1, y4.2)
set_option maxHeartbeats 4000000 in
set_option maxRecDepth 100000 in
def FX1_unsigned (G : GG) (M : DD) (a : Nat) (p0 : Int32) : Option (DD × Int32) :=
  ltt (p0.toInt64) fun x1 =>
  dr G 5 ((M.2 a 0)) fun b2 =>
  bnd (FX5_number G M b2 ((0 : Int32)) ((0 : Int32)) ((0 : Int64)) x1) fun y3 =>
  some (y3.1, y3.2)
set_option maxHeartbeats 4000000 in
set_option maxRecDepth 100000 in
def FX2_filterEdge (G : GG) (M : DD) (a : Nat) (p0 : Option Nat) (p1 : Int32) (p2 : Int32) (p3 : Int32) (p4 : Int32) : Option (DD) :=
  dr G 9 p0 fun b2 =>
  bnd (if p2 = ((0 : Int32)) then (some ((16 : Int32))) else
  (some ((8 : Int32)))) fun (y3 : Int32) =>
  bnd (if p4 ≤ ((0 : Int32)) then (bnd (if p3 = ((0 : Int32)) then (ltt ((p1 - ((1 : Int32)))) fun x209 =>
  some (x209)) else
  (dr G 4 ((M.2 b2 0)) fun b206 =>
  ltt (M.1 b206 1) fun x207 =>
  ltt ((p1 - x207)) fun x208 =>
  some (x208))) fun (y204 : Int32) =>
  some (y204)) else
  (some (p1))) fun (y4 : Int32) =>
  if p4 = ((0 : Int32)) then (if p3 = ((0 : Int32)) then (dr G 4 ((M.2 b2 0)) fun b136 =>
  ltt (M.1 b136 1) fun x137 =>
  chk (¬ x137 = 0) <|
  ltt (p1 - p1 / x137 * x137) fun x138 =>
  if x138 = ((0 : Int32)) then (some M) else
  (bnd (FX2_setThresholds G M a p0 y4 p1 p2) fun y140 =>
  ltt (y140.1 b136 1) fun x141 =>
  ltt ((y3 * x141)) fun x142 =>
  ltt (y140.1 b136 1) fun x143 =>
  chk (¬ x143 = 0) <|
  ltt (p1 / x143) fun x144 =>
  ltt ((y3 * x144)) fun x145 =>
  ltt ((x145 * x142)) fun x146 =>
  ltt (y140.1 b136 1) fun x147 =>
  chk (¬ x147 = 0) <|
  ltt (p1 - p1 / x147 * x147) fun x148 =>
  ltt ((y3 * x148)) fun x149 =>
  ltt ((x146 + x149)) fun x150 =>
  ltt ((((4 : Int32)) * p4)) fun x151 =>
  bnd (if p3 = ((0 : Int32)) then (some ((1 : Int32))) else
  (some (x142))) fun (y152 : Int32) =>
  ltt ((x151 * y152)) fun x153 =>
  ltt ((x150 + x153)) fun x154 =>
  bnd (if p3 = ((0 : Int32)) then (some ((1 : Int32))) else
  (some (x142))) fun (y155 : Int32) =>
  bnd (if p3 = ((0 : Int32)) then (some (x142)) else
  (some ((1 : Int32)))) fun (y156 : Int32) =>
  bnd (itr (fun (s158 : Int32 × DD) => ((if y3 ≤ s158.1 then (some (.inr (s158.1, s158.2))) else
  (bnd (if p2 = ((0 : Int32)) then (some (s158.1)) else
  (ltt ((((2 : Int32)) * s158.1)) fun x199 =>
  some (x199))) fun (y162 : Int32) =>
  bnd (if p2 = ((0 : Int32)) then (ltt ((((4 : Int32)) * p4)) fun x197 =>
  some (x197)) else
  (ltt ((((8 : Int32)) * p4)) fun x196 =>
  some (x196))) fun (y163 : Int32) =>
  bnd (if p3 = ((0 : Int32)) then (some (y163)) else
  (some (y162))) fun (y164 : Int32) =>
  bnd (if p3 = ((0 : Int32)) then (some (y162)) else
  (some (y163))) fun (y165 : Int32) =>
  ltt ((y165 >>> (((3 : Int32)) &&& 31))) fun x166 =>
  ltt ((x166 * ((8 : Int32)))) fun x167 =>
  ltt ((y164 >>> (((3 : Int32)) &&& 31))) fun x168 =>
  ltt ((x168 * ((4 : Int32)))) fun x169 =>
  ltt ((x167 + x169)) fun x170 =>
  ltt ((y165 >>> (((2 : Int32)) &&& 31))) fun x171 =>
  ltt ((x171 &&& ((1 : Int32)))) fun x172 =>
  ltt ((x172 * ((2 : Int32)))) fun x173 =>
  ltt ((x170 + x173)) fun x174 =>
  ltt ((y164 >>> (((2 : Int32)) &&& 31))) fun x175 =>
  ltt ((x175 &&& ((1 : Int32)))) fun x176 =>
  ltt ((x174 + x176)) fun x177 =>
  ltt ((((16 : Int32)) * p1)) fun x178 =>
  ltt ((x178 + x177)) fun x179 =>
  ltt ((((2 : Int32)) * x179)) fun x180 =>
  ltt ((x180 + p3)) fun x181 =>
  dr G 13 ((s158.2.2 a 0)) fun b182 =>
  chk (¬ (x181 < 0 ∨ G.2.2 b182 ≤ x181.toNatClampNeg)) <|
  ltt (s158.2.1 b182 x181.toNatClampNeg) fun x183 =>
  bnd (if x183 ≤ ((0 : Int32)) then (some (s158.2)) else
  (dr G 15 ((s158.2.2 b136 4)) fun b187 =>
  chk (¬ (p2 < 0 ∨ G.2.2 b187 ≤ p2.toNatClampNeg)) <|
  ltt ((s158.1 * y156)) fun x188 =>
  ltt ((x154 + x188)) fun x189 =>
  bnd (if p2 = ((0 : Int32)) then (some ((1 : Int32))) else
  (some ((0 : Int32)))) fun (y190 : Int32) =>
  bnd (FX2_filterLine G s158.2 a ((s158.2.2 b187 p2.toNatClampNeg)) x189 y155 x183 y190) fun y191 =>
  some (y191))) fun (y184 : DD) =>
  ltt (s158.1 + (1 : Int32)) fun x185 =>
  some (.inl (x185, y184)))) : Option ((Int32 × DD) ⊕ (Int32 × DD)))) 1000000 ((0 : Int32), y140)) fun (y157 : Int32 × DD) =>
  some y157.2)) else
  (if ((0 : Int32)) ≤ y4 then (bnd (FX2_setThresholds G M a p0 y4 p1 p2) fun y72 =>
  dr G 4 ((M.2 b2 0)) fun b73 =>
  ltt (y72.1 b73 1) fun x74 =>
  ltt ((y3 * x74)) fun x75 =>
  ltt (y72.1 b73 1) fun x76 =>
  chk (¬ x76 = 0) <|
  ltt (p1 / x76) fun x77 =>
  ltt ((y3 * x77)) fun x78 =>
  ltt ((x78 * x75)) fun x79 =>
  ltt (y72.1 b73 1) fun x80 =>
  chk (¬ x80 = 0) <|
  ltt (p1 - p1 / x80 * x80) fun x81 =>
  ltt ((y3 * x81)) fun x82 =>
  ltt ((x79 + x82)) fun x83 =>
  ltt ((((4 : Int32)) * p4)) fun x84 =>
  bnd (if p3 = ((0 : Int32)) then (some ((1 : Int32))) else
  (some (x75))) fun (y85 : Int32) =>
  ltt ((x84 * y85)) fun x86 =>
  ltt ((x83 + x86)) fun x87 =>
  bnd (if p3 = ((0 : Int32)) then (some ((1 : Int32))) else
  (some (x75))) fun (y88 : Int32) =>
  bnd (if p3 = ((0 : Int32)) then (some (x75)) else
  (some ((1 : Int32)))) fun (y89 : Int32) =>
  bnd (itr (fun (s91 : Int32 × DD) => ((if y3 ≤ s91.1 then (some (.inr (s91.1, s91.2))) else
  (bnd (if p2 = ((0 : Int32)) then (some (s91.1)) else
  (ltt ((((2 : Int32)) * s91.1)) fun x132 =>
  some (x132))) fun (y95 : Int32) =>
  bnd (if p2 = ((0 : Int32)) then (ltt ((((4 : Int32)) * p4)) fun x130 =>
  some (x130)) else
  (ltt ((((8 : Int32)) * p4)) fun x129 =>
  some (x129))) fun (y96 : Int32) =>
  bnd (if p3 = ((0 : Int32)) then (some (y96)) else
  (some (y95))) fun (y97 : Int32) =>
  bnd (if p3 = ((0 : Int32)) then (some (y95)) else
  (some (y96))) fun (y98 : Int32) =>
  ltt ((y98 >>> (((3 : Int32)) &&& 31))) fun x99 =>
  ltt ((x99 * ((8 : Int32)))) fun x100 =>
  ltt ((y97 >>> (((3 : Int32)) &&& 31))) fun x101 =>
  ltt ((x101 * ((4 : Int32)))) fun x102 =>
  ltt ((x100 + x102)) fun x103 =>
  ltt ((y98 >>> (((2 : Int32)) &&& 31))) fun x104 =>
  ltt ((x104 &&& ((1 : Int32)))) fun x105 =>
  ltt ((x105 * ((2 : Int32)))) fun x106 =>
  ltt ((x103 + x106)) fun x107 =>
  ltt ((y97 >>> (((2 : Int32)) &&& 31))) fun x108 =>
  ltt ((x108 &&& ((1 : Int32)))) fun x109 =>
  ltt ((x107 + x109)) fun x110 =>
  ltt ((((16 : Int32)) * p1)) fun x111 =>
  ltt ((x111 + x110)) fun x112 =>
  ltt ((((2 : Int32)) * x112)) fun x113 =>
  ltt ((x113 + p3)) fun x114 =>
  dr G 13 ((s91.2.2 a 0)) fun b115 =>
  chk (¬ (x114 < 0 ∨ G.2.2 b115 ≤ x114.toNatClampNeg)) <|
  ltt (s91.2.1 b115 x114.toNatClampNeg) fun x116 =>
  bnd (if x116 ≤ ((0 : Int32)) then (some (s91.2)) else
  (dr G 15 ((s91.2.2 b73 4)) fun b120 =>
  chk (¬ (p2 < 0 ∨ G.2.2 b120 ≤ p2.toNatClampNeg)) <|
  ltt ((s91.1 * y89)) fun x121 =>
  ltt ((x87 + x121)) fun x122 =>
  bnd (if p2 = ((0 : Int32)) then (some ((1 : Int32))) else
  (some ((0 : Int32)))) fun (y123 : Int32) =>
  bnd (FX2_filterLine G s91.2 a ((s91.2.2 b120 p2.toNatClampNeg)) x122 y88 x116 y123) fun y124 =>
  some (y124))) fun (y117 : DD) =>
  ltt (s91.1 + (1 : Int32)) fun x118 =>
  some (.inl (x118, y117)))) : Option ((Int32 × DD) ⊕ (Int32 × DD)))) 1000000 ((0 : Int32), y72)) fun (y90 : Int32 × DD) =>
  some y90.2) else
  (some M))) else
  (bnd (FX2_setThresholds G M a p0 y4 p1 p2) fun y6 =>
  dr G 4 ((M.2 b2 0)) fun b7 =>
  ltt (y6.1 b7 1) fun x8 =>
  ltt ((y3 * x8)) fun x9 =>
  ltt (y6.1 b7 1) fun x10 =>
  chk (¬ x10 = 0) <|
  ltt (p1 / x10) fun x11 =>
  ltt ((y3 * x11)) fun x12 =>
  ltt ((x12 * x9)) fun x13 =>
  ltt (y6.1 b7 1) fun x14 =>
  chk (¬ x14 = 0) <|
  ltt (p1 - p1 / x14 * x14) fun x15 =>
  ltt ((y3 * x15)) fun x16 =>
  ltt ((x13 + x16)) fun x17 =>
  ltt ((((4 : Int32)) * p4)) fun x18 =>
  bnd (if p3 = ((0 : Int32)) then (some ((1 : Int32))) else
  (some (x9))) fun (y19 : Int32) =>
  ltt ((x18 * y19)) fun x20 =>
  ltt ((x17 + x20)) fun x21 =>
  bnd (if p3 = ((0 : Int32)) then (some ((1 : Int32))) else
  (some (x9))) fun (y22 : Int32) =>
  bnd (if p3 = ((0 : Int32)) then (some (x9)) else
  (some ((1 : Int32)))) fun (y23 : Int32) =>
  bnd (itr (fun (s25 : Int32 × DD) => ((if y3 ≤ s25.1 then (some (.inr (s25.1, s25.2))) else
  (bnd (if p2 = ((0 : Int32)) then (some (s25.1)) else
  (ltt ((((2 : Int32)) * s25.1)) fun x66 =>
  some (x66))) fun (y29 : Int32) =>
  bnd (if p2 = ((0 : Int32)) then (ltt ((((4 : Int32)) * p4)) fun x64 =>
  some (x64)) else
  (ltt ((((8 : Int32)) * p4)) fun x63 =>
  some (x63))) fun (y30 : Int32) =>
  bnd (if p3 = ((0 : Int32)) then (some (y30)) else
  (some (y29))) fun (y31 : Int32) =>
  bnd (if p3 = ((0 : Int32)) then (some (y29)) else
  (some (y30))) fun (y32 : Int32) =>
  ltt ((y32 >>> (((3 : Int32)) &&& 31))) fun x33 =>
  ltt ((x33 * ((8 : Int32)))) fun x34 =>
  ltt ((y31 >>> (((3 : Int32)) &&& 31))) fun x35 =>
  ltt ((x35 * ((4 : Int32)))) fun x36 =>
  ltt ((x34 + x36)) fun x37 =>
  ltt ((y32 >>> (((2 : Int32)) &&& 31))) fun x38 =>
  ltt ((x38 &&& ((1 : Int32)))) fun x39 =>
  ltt ((x39 * ((2 : Int32)))) fun x40 =>
  ltt ((x37 + x40)) fun x41 =>
  ltt ((y31 >>> (((2 : Int32)) &&& 31))) fun x42 =>
  ltt ((x42 &&& ((1 : Int32)))) fun x43 =>
  ltt ((x41 + x43)) fun x44 =>
  ltt ((((16 : Int32)) * p1)) fun x45 =>
  ltt ((x45 + x44)) fun x46 =>
  ltt ((((2 : Int32)) * x46)) fun x47 =>
  ltt ((x47 + p3)) fun x48 =>
  dr G 13 ((s25.2.2 a 0)) fun b49 =>
  chk (¬ (x48 < 0 ∨ G.2.2 b49 ≤ x48.toNatClampNeg)) <|
  ltt (s25.2.1 b49 x48.toNatClampNeg) fun x50 =>
  bnd (if x50 ≤ ((0 : Int32)) then (some (s25.2)) else
  (dr G 15 ((s25.2.2 b7 4)) fun b54 =>
  chk (¬ (p2 < 0 ∨ G.2.2 b54 ≤ p2.toNatClampNeg)) <|
  ltt ((s25.1 * y23)) fun x55 =>
  ltt ((x21 + x55)) fun x56 =>
  bnd (if p2 = ((0 : Int32)) then (some ((1 : Int32))) else
  (some ((0 : Int32)))) fun (y57 : Int32) =>
  bnd (FX2_filterLine G s25.2 a ((s25.2.2 b54 p2.toNatClampNeg)) x56 y22 x50 y57) fun y58 =>
  some (y58))) fun (y51 : DD) =>
  ltt (s25.1 + (1 : Int32)) fun x52 =>
  some (.inl (x52, y51)))) : Option ((Int32 × DD) ⊕ (Int32 × DD)))) 1000000 ((0 : Int32), y6)) fun (y24 : Int32 × DD) =>
  some y24.2)
set_option maxHeartbeats 4000000 in
set_option maxRecDepth 100000 in
def FX2_measure (G : GG) (M : DD) (a : Nat) (p0 : Option Nat) (p1 : Int32) : Option (DD) :=
  dr G 9 p0 fun b2 =>
  dr G 4 ((M.2 b2 0)) fun b3 =>
  ltt (M.1 b3 1) fun x4 =>
  ltt ((((3 : Int32)) * p1)) fun x5 =>
  dr G 13 ((M.2 b2 10)) fun b6 =>
  chk (¬ (x5 < 0 ∨ G.2.2 b6 ≤ x5.toNatClampNeg)) <|
  ltt (M.1 b6 x5.toNatClampNeg) fun x7 =>
  bnd (itr (fun (s9 : Int32 × DD) => ((if ((2 : Int32)) ≤ s9.1 then (some (.inr (s9.1, s9.2))) else
  (bnd (if s9.1 = ((0 : Int32)) then (chk (¬ x4 = 0) <|
  ltt (p1 - p1 / x4 * x4) fun x102 =>
  bnd (if x102 ≤ ((0 : Int32)) then (some ((-1 : Int32))) else
  (ltt ((p1 - ((1 : Int32)))) fun x105 =>
  some (x105))) fun (y103 : Int32) =>
  some (y103)) else
  (ltt ((p1 - x4)) fun x101 =>
  some (x101))) fun (y13 : Int32) =>
  bnd (if y13 < ((0 : Int32)) then (some ((0 : Int32))) else
  (bnd (if x7 = ((2 : Int32)) then (ltt ((((8 : Int32)) * p1)) fun x91 =>
  ltt ((x91 + ((6 : Int32)))) fun x92 =>
  dr G 13 ((s9.2.2 b2 6)) fun b93 =>
  chk (¬ (x92 < 0 ∨ G.2.2 b93 ≤ x92.toNatClampNeg)) <|
  ltt (s9.2.1 b93 x92.toNatClampNeg) fun x94 =>
  ltt ((((8 : Int32)) * y13)) fun x95 =>
  ltt ((x95 + ((6 : Int32)))) fun x96 =>
  chk (¬ (x96 < 0 ∨ G.2.2 b93 ≤ x96.toNatClampNeg)) <|
  ltt (s9.2.1 b93 x96.toNatClampNeg) fun x97 =>
  bnd (if x94 = x97 then (some ((1 : Int32))) else
  (some ((0 : Int32)))) fun (y98 : Int32) =>
  some (y98)) else
  (some ((1 : Int32)))) fun (y89 : Int32) =>
  some (y89))) fun (y14 : Int32) =>
  bnd (itr (fun (s16 : Int32 × DD) => ((if ((16 : Int32)) ≤ s16.1 then (some (.inr (s16.1, s16.2))) else
  (bnd (FX9_pieceX G s16.2 s16.1) fun y21 =>
  bnd (if s9.1 = ((0 : Int32)) then (some ((4 : Int32))) else
  (some ((0 : Int32)))) fun (y22 : Int32) =>
  ltt ((y21.2 - y22)) fun x23 =>
  bnd (FX9_pieceY G y21.1 s16.1) fun y24 =>
  bnd (if s9.1 = ((1 : Int32)) then (some ((4 : Int32))) else
  (some ((0 : Int32)))) fun (y25 : Int32) =>
  ltt ((y24.2 - y25)) fun x26 =>
  bnd (if x23 < ((0 : Int32)) then (some ((0 : Int32))) else
  (bnd (if x26 < ((0 : Int32)) then (some ((0 : Int32))) else
  (some ((1 : Int32)))) fun (y84 : Int32) =>
  some (y84))) fun (y27 : Int32) =>
  bnd (if x7 = ((1 : Int32)) then (some ((0 : Int32), y24.1)) else
  (bnd (if y27 = ((0 : Int32)) then (bnd (if y14 = ((0 : Int32)) then (some ((0 : Int32), y24.1)) else
  (ltt ((x26 >>> (((3 : Int32)) &&& 31))) fun x62 =>
  ltt ((x62 &&& ((1 : Int32)))) fun x63 =>
  ltt ((x63 * ((8 : Int32)))) fun x64 =>
  ltt ((x23 >>> (((3 : Int32)) &&& 31))) fun x65 =>
  ltt ((x65 &&& ((1 : Int32)))) fun x66 =>
  ltt ((x66 * ((4 : Int32)))) fun x67 =>
  ltt ((x64 + x67)) fun x68 =>
  ltt ((x26 >>> (((2 : Int32)) &&& 31))) fun x69 =>
  ltt ((x69 &&& ((1 : Int32)))) fun x70 =>
  ltt ((x70 * ((2 : Int32)))) fun x71 =>
  ltt ((x68 + x71)) fun x72 =>
  ltt ((x23 >>> (((2 : Int32)) &&& 31))) fun x73 =>
  ltt ((x73 &&& ((1 : Int32)))) fun x74 =>
  ltt ((x72 + x74)) fun x75 =>
  bnd (if y27 = ((0 : Int32)) then (some (y13)) else
  (some (p1))) fun (y76 : Int32) =>
  ltt ((((16 : Int32)) * y76)) fun x77 =>
  ltt ((x77 + x75)) fun x78 =>
  ltt ((((16 : Int32)) * p1)) fun x79 =>
  ltt ((x79 + s16.1)) fun x80 =>
  bnd (FX2_strengthOf G y24.1 p0 x78 x80) fun y81 =>
  some (y81.2, y81.1))) fun (y60 : Int32 × DD) =>
  some (y60.1, y60.2)) else
  (ltt ((x26 >>> (((3 : Int32)) &&& 31))) fun x39 =>
  ltt ((x39 &&& ((1 : Int32)))) fun x40 =>
  ltt ((x40 * ((8 : Int32)))) fun x41 =>
  ltt ((x23 >>> (((3 : Int32)) &&& 31))) fun x42 =>
  ltt ((x42 &&& ((1 : Int32)))) fun x43 =>
  ltt ((x43 * ((4 : Int32)))) fun x44 =>
  ltt ((x41 + x44)) fun x45 =>
  ltt ((x26 >>> (((2 : Int32)) &&& 31))) fun x46 =>
  ltt ((x46 &&& ((1 : Int32)))) fun x47 =>
  ltt ((x47 * ((2 : Int32)))) fun x48 =>
  ltt ((x45 + x48)) fun x49 =>
  ltt ((x23 >>> (((2 : Int32)) &&& 31))) fun x50 =>
  ltt ((x50 &&& ((1 : Int32)))) fun x51 =>
  ltt ((x49 + x51)) fun x52 =>
  bnd (if y27 = ((0 : Int32)) then (some (y13)) else
  (some (p1))) fun (y53 : Int32) =>
  ltt ((((16 : Int32)) * y53)) fun x54 =>
  ltt ((x54 + x52)) fun x55 =>
  ltt ((((16 : Int32)) * p1)) fun x56 =>
  ltt ((x56 + s16.1)) fun x57 =>
  bnd (FX2_strengthOf G y24.1 p0 x55 x57) fun y58 =>
  some (y58.2, y58.1))) fun (y37 : Int32 × DD) =>
  some (y37.1, y37.2))) fun (y28 : Int32 × DD) =>
  ltt ((((16 : Int32)) * p1)) fun x29 =>
  ltt ((x29 + s16.1)) fun x30 =>
  ltt ((((2 : Int32)) * x30)) fun x31 =>
  ltt ((x31 + s9.1)) fun x32 =>
  dr G 13 ((y28.2.2 a 0)) fun b33 =>
  chk (¬ (x32 < 0 ∨ G.2.2 b33 ≤ x32.toNatClampNeg)) <|
  ltt (uI y28.2 b33 x32.toNatClampNeg y28.1) fun M34 =>
  ltt (s16.1 + (1 : Int32)) fun x35 =>
  some (.inl (x35, M34)))) : Option ((Int32 × DD) ⊕ (Int32 × DD)))) 1000000 ((0 : Int32), s9.2)) fun (y15 : Int32 × DD) =>
  ltt (s9.1 + (1 : Int32)) fun x18 =>
  some (.inl (x18, y15.2)))) : Option ((Int32 × DD) ⊕ (Int32 × DD)))) 1000000 ((0 : Int32), M)) fun (y8 : Int32 × DD) =>
  some y8.2
set_option maxHeartbeats 4000000 in
set_option maxRecDepth 100000 in
def FX5_expect (G : GG) (M : DD) (a : Nat) (p0 : Int32) : Option (DD) :=
  bnd (FX5_fixed G M a ((0 : Int32)) ((1 : Int32))) fun y1 =>
  bnd (if y1.2 = p0 then (some (y1.1)) else
  (ltt (y1.1.1 a 4) fun x4 =>
  none)) fun (y2 : DD) =>
  some y2
set_option maxHeartbeats 4000000 in
set_option maxRecDepth 100000 in
def FX5_levels (G : GG) (M : DD) (a : Nat) (p0 : Int32) (p1 : Int32) (p2 : Option Nat) (p3 : Int32) : Option (DD × Int32) :=
  bnd (if p0 = ((3 : Int32)) then (bnd (FX5_fixed G M a ((11 : Int32)) ((6 : Int32))) fun y49 =>
  bnd (if y49.2 = ((3 : Int32)) then (some ((0 : Int32))) else
  (ltt ((y49.2 + ((4 : Int32)))) fun x52 =>
  some (x52))) fun (y50 : Int32) =>
  some (y50, y49.1)) else
  (bnd (if p0 = ((4 : Int32)) then (some ((3 : Int32))) else
  (some (p0))) fun (y46 : Int32) =>
  bnd (FX5_code G M a ((11 : Int32)) y46) fun y47 =>
  some (y47.2, y47.1))) fun (y1 : Int32 × DD) =>
  ltt ((y1.1 >>> (((2 : Int32)) &&& 31))) fun x2 =>
  ltt ((y1.1 &&& ((3 : Int32)))) fun x3 =>
  bnd (if x2 < x3 then (none) else
  (some (y1.2))) fun (y4 : DD) =>
  bnd (if x2 ≤ p1 then (some (y4)) else
  (none)) fun (y5 : DD) =>
  bnd (if x2 ≤ ((10 : Int32)) then (some ((0 : Int32))) else
  (bnd (if ((3 : Int32)) ≤ x3 then (some ((0 : Int32))) else
  (some ((1 : Int32)))) fun (y41 : Int32) =>
  some (y41))) fun (y6 : Int32) =>
  bnd (itr (fun (s8 : Int32 × Int32 × DD) => ((if x2 ≤ s8.2.1 then (some (.inr (s8.1, s8.2.1, s8.2.2))) else
  (bnd (if x3 ≤ s8.2.1 then (bnd (if s8.2.1 = x3 then (bnd (if ((3 : Int32)) ≤ x3 then (some ((0 : Int32))) else
  (some ((1 : Int32)))) fun (y33 : Int32) =>
  some (y33)) else
  (some ((0 : Int32)))) fun (y16 : Int32) =>
  bnd (FX5_oneLevel G s8.2.2 a s8.1 y16) fun y17 =>
  dr G 13 ((s8.2.2.2 a 14)) fun b18 =>
  chk (¬ (s8.2.1 < 0 ∨ G.2.2 b18 ≤ s8.2.1.toNatClampNeg)) <|
  ltt (uI y17.1 b18 s8.2.1.toNatClampNeg y17.2) fun M19 =>
  bnd (if s8.1 = ((0 : Int32)) then (some ((1 : Int32))) else
  (some (s8.1))) fun (y20 : Int32) =>
  bnd (if ((6 : Int32)) ≤ y20 then (some (y20, M19)) else
  (dr G 13 ((M19.2 a 14)) fun b23 =>
  chk (¬ (s8.2.1 < 0 ∨ G.2.2 b23 ≤ s8.2.1.toNatClampNeg)) <|
  ltt (M19.1 b23 s8.2.1.toNatClampNeg) fun x24 =>
  ltt (if (0 : Int32) ≤ x24 then x24 else 0 - x24) fun x25 =>
  ltt ((y20 - ((1 : Int32)))) fun x26 =>
  ltt ((((3 : Int32)) <<< (x26 &&& 31))) fun x27 =>
  bnd (if x25 ≤ x27 then (some (y20)) else
  (ltt ((y20 + ((1 : Int32)))) fun x30 =>
  some (x30))) fun (y28 : Int32) =>
  some (y28, M19))) fun (y21 : Int32 × DD) =>
  some (y21.1, y21.2)) else
  (bnd (FX5_fixed G s8.2.2 a ((12 : Int32)) ((1 : Int32))) fun y35 =>
  ltt ((((2 : Int32)) * y35.2)) fun x36 =>
  ltt ((((1 : Int32)) - x36)) fun x37 =>
  dr G 13 ((s8.2.2.2 a 14)) fun b38 =>
  chk (¬ (s8.2.1 < 0 ∨ G.2.2 b38 ≤ s8.2.1.toNatClampNeg)) <|
  ltt (uI y35.1 b38 s8.2.1.toNatClampNeg x37) fun M39 =>
  some (s8.1, M39))) fun (y13 : Int32 × DD) =>
  ltt (s8.2.1 + (1 : Int32)) fun x14 =>
  some (.inl (y13.1, x14, y13.2)))) : Option ((Int32 × Int32 × DD) ⊕ (Int32 × Int32 × DD)))) 1000000 (y6, (0 : Int32), y5)) fun (y7 : Int32 × Int32 × DD) =>
  bnd (FX5_spread G y7.2.2 a p1 x2 p2 p3) fun y10 =>
  some (y10, x2)
set_option maxHeartbeats 4000000 in
set_option maxRecDepth 100000 in
def FX6_fillColours (G : GG) (M : DD) (a : Nat) (p0 : Option Nat) (p1 : Int32) (p2 : Int32) : Option (DD) :=
  bnd (itr (fun (s2 : Int32 × DD) => ((if ((3 : Int32)) ≤ s2.1 then (some (.inr (s2.1, s2.2))) else
  (dr G 9 p0 fun b6 =>
  ltt ((((16 : Int32)) + s2.1)) fun x7 =>
  bnd (FX9_levelAt G s2.2 p1 x7) fun y8 =>
  dr G 13 ((s2.2.2 b6 9)) fun b9 =>
  dr G 13 ((y8.1.2 a 7)) fun b10 =>
  chk (¬ y8.2 < 0 ∧ ¬ ((0 : Int32)) < 0 ∧ ¬ ((4 : Int32)) < 0 ∧ y8.2.toNatClampNeg + ((4 : Int32)).toNatClampNeg ≤ G.2.2 b9 ∧ ((0 : Int32)).toNatClampNeg + ((4 : Int32)).toNatClampNeg ≤ G.2.2 b10) <|
  ltt (rI y8.1 b10 (va_cpy (y8.1.1 b9) (y8.1.1 b10) y8.2.toNatClampNeg ((0 : Int32)).toNatClampNeg ((4 : Int32)).toNatClampNeg)) fun M11 =>
  bnd (FX6_turnFour G M11 a) fun y12 =>
  bnd (itr (fun (s14 : Int32 × DD) => ((if ((4 : Int32)) ≤ s14.1 then (some (.inr (s14.1, s14.2))) else
  (ltt (s14.1 - s14.1 / ((2 : Int32)) * ((2 : Int32))) fun x19 =>
  ltt ((x19 * ((4 : Int32)))) fun x20 =>
  ltt (s14.1 / ((2 : Int32))) fun x21 =>
  ltt ((x21 * ((4 : Int32)))) fun x22 =>
  ltt ((((4 : Int32)) * s2.1)) fun x23 =>
  ltt ((((15 : Int32)) + x23)) fun x24 =>
  ltt ((x24 + s14.1)) fun x25 =>
  bnd (FX9_levelAt G s14.2 p1 x25) fun y26 =>
  bnd (FX6_unfold G y26.1 a ((s14.2.2 b6 9)) y26.2 ((1 : Int32)) p2) fun y27 =>
  dr G 13 ((y27.2 a 7)) fun b28 =>
  chk (¬ (s14.1 < 0 ∨ G.2.2 b28 ≤ s14.1.toNatClampNeg)) <|
  ltt (y27.1 b28 s14.1.toNatClampNeg) fun x29 =>
  bnd (FX6_normAt G y27 p2 ((0 : Int32)) ((0 : Int32))) fun y30 =>
  chk (¬ (y30.2 < 0 ∨ 18 ≤ y30.2.toNatClampNeg)) <|
  ltt ((sT 13).getD y30.2.toNatClampNeg 0) fun x31 =>
  ltt ((x29 * x31)) fun x32 =>
  ltt (p2 / ((6 : Int32))) fun x33 =>
  ltt ((x32 <<< (x33 &&& 31))) fun x34 =>
  ltt ((x34 >>> (((1 : Int32)) &&& 31))) fun x35 =>
  dr G 13 ((y27.2 a 6)) fun b36 =>
  chk (¬ (((0 : Int32)) < 0 ∨ G.2.2 b36 ≤ ((0 : Int32)).toNatClampNeg)) <|
  ltt (uI y30.1 b36 ((0 : Int32)).toNatClampNeg x35) fun M37 =>
  dr G 4 ((M37.2 b6 0)) fun b38 =>
  dr G 15 ((M37.2 b38 4)) fun b39 =>
  chk (¬ (s2.1 < 0 ∨ G.2.2 b39 ≤ s2.1.toNatClampNeg)) <|
  bnd (FX6_colourAt G M37 ((M37.2 b6 0)) p1 x20 x22) fun y40 =>
  dr G 4 ((y40.1.2 b6 0)) fun b41 =>
  ltt (y40.1.1 b41 1) fun x42 =>
  ltt ((((8 : Int32)) * x42)) fun x43 =>
  ltt ((((64 : Int32)) * s2.1)) fun x44 =>
  ltt ((((192 : Int32)) + x44)) fun x45 =>
  ltt ((((8 : Int32)) * x22)) fun x46 =>
  ltt ((x45 + x46)) fun x47 =>
  ltt ((x47 + x20)) fun x48 =>
  bnd (FX6_fillPiece G y40.1 a ((M37.2 b39 s2.1.toNatClampNeg)) y40.2 x43 x48 ((8 : Int32))) fun y49 =>
  ltt (s14.1 + (1 : Int32)) fun x50 =>
  some (.inl (x50, y49)))) : Option ((Int32 × DD) ⊕ (Int32 × DD)))) 1000000 ((0 : Int32), y12)) fun (y13 : Int32 × DD) =>
  ltt (s2.1 + (1 : Int32)) fun x16 =>
  some (.inl (x16, y13.2)))) : Option ((Int32 × DD) ⊕ (Int32 × DD)))) 1000000 ((1 : Int32), M)) fun (y1 : Int32 × DD) =>
  some y1.2
set_option maxHeartbeats 4000000 in
set_option maxRecDepth 100000 in
def FX6_fillLuma (G : GG) (M : DD) (a : Nat) (p0 : Option Nat) (p1 : Int32) (p2 : Int32) (p3 : Int32) : Option (DD) :=
  bnd (FX9_pieceX G M p2) fun y1 =>
  bnd (FX9_pieceY G y1.1 p2) fun y2 =>
  dr G 9 p0 fun b3 =>
  bnd (FX9_levelAt G y2.1 p1 p2) fun y4 =>
  bnd (FX6_unfold G y4.1 a ((y2.1.2 b3 9)) y4.2 ((0 : Int32)) p3) fun y5 =>
  dr G 4 ((y5.2 b3 0)) fun b6 =>
  dr G 15 ((y5.2 b6 4)) fun b7 =>
  chk (¬ (((0 : Int32)) < 0 ∨ G.2.2 b7 ≤ ((0 : Int32)).toNatClampNeg)) <|
  bnd (FX6_lumaAt G y5 ((y5.2 b3 0)) p1 y1.2 y2.2) fun y8 =>
  dr G 4 ((y8.1.2 b3 0)) fun b9 =>
  ltt (y8.1.1 b9 1) fun x10 =>
  ltt ((((16 : Int32)) * x10)) fun x11 =>
  ltt ((((16 : Int32)) * y2.2)) fun x12 =>
  ltt ((x12 + y1.2)) fun x13 =>
  bnd (FX6_fillPiece G y8.1 a ((y5.2 b7 ((0 : Int32)).toNatClampNeg)) y8.2 x11 x13 ((16 : Int32))) fun y14 =>
  some y14
set_option maxHeartbeats 4000000 in
set_option maxRecDepth 100000 in
def FX6_predictByLists (G : GG) (M : DD) (a : Nat) (p0 : Option Nat) (p1 : Int32) : Option (DD) :=
  bnd (itr (fun (s2 : Int32 × Int32 × DD) => ((if ((16 : Int32)) ≤ s2.2.1 then (some (.inr (s2.1, s2.2.1, s2.2.2))) else
  (if s2.1 = ((0 : Int32)) then (some (.inr (s2.1, s2.2.1, s2.2.2))) else
  (dr G 9 p0 fun b52 =>
  ltt ((((16 : Int32)) * p1)) fun x53 =>
  ltt ((((16 : Int32)) * p1)) fun x54 =>
  ltt ((x54 + s2.2.1)) fun x55 =>
  dr G 4 ((s2.2.2.2 b52 0)) fun b56 =>
  bnd (FX4_movesAlike G s2.2.2 b56 x53 x55) fun y57 =>
  ltt (s2.2.1 + (1 : Int32)) fun x58 =>
  some (.inl (y57.2, x58, y57.1))))) : Option ((Int32 × Int32 × DD) ⊕ (Int32 × Int32 × DD)))) 1000000 ((1 : Int32), (1 : Int32), M)) fun (y1 : Int32 × Int32 × DD) =>
  if y1.1 = ((0 : Int32)) then (bnd (itr (fun (s6 : Int32 × DD) => ((if ((4 : Int32)) ≤ s6.1 then (some (.inr (s6.1, s6.2))) else
  (ltt ((((16 : Int32)) * p1)) fun x10 =>
  ltt ((((4 : Int32)) * s6.1)) fun x11 =>
  ltt ((x10 + x11)) fun x12 =>
  dr G 9 p0 fun b13 =>
  ltt ((x12 + ((1 : Int32)))) fun x14 =>
  dr G 4 ((s6.2.2 b13 0)) fun b15 =>
  bnd (FX4_movesAlike G s6.2 b15 x12 x14) fun y16 =>
  bnd (if y16.2 = ((0 : Int32)) then (some ((0 : Int32), y16.1)) else
  (ltt ((x12 + ((2 : Int32)))) fun x35 =>
  dr G 4 ((y16.1.2 b13 0)) fun b36 =>
  bnd (FX4_movesAlike G y16.1 b36 x12 x35) fun y37 =>
  bnd (if y37.2 = ((0 : Int32)) then (some ((0 : Int32), y37.1)) else
  (ltt ((x12 + ((3 : Int32)))) fun x40 =>
  dr G 4 ((y37.1.2 b13 0)) fun b41 =>
  bnd (FX4_movesAlike G y37.1 b41 x12 x40) fun y42 =>
  bnd (if y42.2 = ((0 : Int32)) then (some ((0 : Int32))) else
  (some ((1 : Int32)))) fun (y43 : Int32) =>
  some (y43, y42.1))) fun (y38 : Int32 × DD) =>
  some (y38.1, y38.2))) fun (y17 : Int32 × DD) =>
  bnd (itr (fun (s19 : Int32 × DD) => ((bnd (if y17.1 = ((0 : Int32)) then (some ((4 : Int32))) else
  (some ((1 : Int32)))) fun (y23 : Int32) =>
  if y23 ≤ s19.1 then (some (.inr (s19.1, s19.2))) else
  (ltt ((x12 + s19.1)) fun x25 =>
  bnd (FX6_takeMotion G s19.2 a ((s19.2.2 b13 0)) x25) fun y26 =>
  ltt ((((4 : Int32)) * s6.1)) fun x27 =>
  ltt ((x27 + s19.1)) fun x28 =>
  bnd (if y17.1 = ((0 : Int32)) then (some ((4 : Int32))) else
  (some ((8 : Int32)))) fun (y29 : Int32) =>
  bnd (FX6_predictRegion G y26 a p0 p1 x28 y29 ((1 : Int32))) fun y30 =>
  ltt (s19.1 + (1 : Int32)) fun x31 =>
  some (.inl (x31, y30)))) : Option ((Int32 × DD) ⊕ (Int32 × DD)))) 1000000 ((0 : Int32), y17.2)) fun (y18 : Int32 × DD) =>
  ltt (s6.1 + (1 : Int32)) fun x21 =>
  some (.inl (x21, y18.2)))) : Option ((Int32 × DD) ⊕ (Int32 × DD)))) 1000000 ((0 : Int32), y1.2.2)) fun (y5 : Int32 × DD) =>
  some y5.2) else
  (dr G 9 p0 fun b45 =>
  ltt ((((16 : Int32)) * p1)) fun x46 =>
  bnd (FX6_takeMotion G y1.2.2 a ((y1.2.2.2 b45 0)) x46) fun y47 =>
  bnd (FX6_predictRegion G y47 a p0 p1 ((0 : Int32)) ((16 : Int32)) ((1 : Int32))) fun y48 =>
  some y48)
set_option maxHeartbeats 4000000 in
set_option maxRecDepth 100000 in
def FX6_predictFour (G : GG) (M : DD) (a : Nat) (p0 : Option Nat) (p1 : Int32) (p2 : Int32) (p3 : Int32) (p4 : Int32) : Option (DD) :=
  bnd (FX9_pieceX G M p2) fun y1 =>
  bnd (FX9_pieceY G y1.1 p2) fun y2 =>
  dr G 9 p0 fun b3 =>
  bnd (FX6_lumaAt G y2.1 ((y2.1.2 b3 0)) p1 y1.2 y2.2) fun y4 =>
  bnd (FX6_takeAround G y4.1 a ((y2.1.2 b3 0)) y4.2 p4) fun y5 =>
  bnd (itr (fun (s7 : Int32 × DD) => ((if ((16 : Int32)) ≤ s7.1 then (some (.inr (s7.1, s7.2))) else
  (ltt (s7.1 - s7.1 / ((4 : Int32)) * ((4 : Int32))) fun x11 =>
  ltt (s7.1 / ((4 : Int32))) fun x12 =>
  bnd (if p3 = ((0 : Int32)) then (ltt ((((5 : Int32)) + x11)) fun x90 =>
  dr G 13 ((s7.2.2 a 8)) fun b91 =>
  chk (¬ (x90 < 0 ∨ G.2.2 b91 ≤ x90.toNatClampNeg)) <|
  ltt (s7.2.1 b91 x90.toNatClampNeg) fun x92 =>
  some (x92, s7.2)) else
  (bnd (if p3 = ((1 : Int32)) then (ltt ((((3 : Int32)) - x12)) fun x87 =>
  dr G 13 ((s7.2.2 a 8)) fun b88 =>
  chk (¬ (x87 < 0 ∨ G.2.2 b88 ≤ x87.toNatClampNeg)) <|
  ltt (s7.2.1 b88 x87.toNatClampNeg) fun x89 =>
  some (x89, s7.2)) else
  (bnd (if p3 = ((2 : Int32)) then (bnd (FX6_meanAround G s7.2 a p4) fun y86 =>
  some (y86.2, y86.1)) else
  (bnd (if p3 = ((3 : Int32)) then (bnd (if s7.1 = ((15 : Int32)) then (bnd (FX6_three G s7.2 a ((11 : Int32)) ((12 : Int32)) ((12 : Int32))) fun y85 =>
  some (y85.2, y85.1)) else
  (ltt ((((5 : Int32)) + x11)) fun x78 =>
  ltt ((x78 + x12)) fun x79 =>
  ltt ((((6 : Int32)) + x11)) fun x80 =>
  ltt ((x80 + x12)) fun x81 =>
  ltt ((((7 : Int32)) + x11)) fun x82 =>
  ltt ((x82 + x12)) fun x83 =>
  bnd (FX6_three G s7.2 a x79 x81 x83) fun y84 =>
  some (y84.2, y84.1))) fun (y76 : Int32 × DD) =>
  some (y76.1, y76.2)) else
  (bnd (if p3 = ((4 : Int32)) then (ltt ((((3 : Int32)) + x11)) fun x69 =>
  ltt ((x69 - x12)) fun x70 =>
  ltt ((((4 : Int32)) + x11)) fun x71 =>
  ltt ((x71 - x12)) fun x72 =>
  ltt ((((5 : Int32)) + x11)) fun x73 =>
  ltt ((x73 - x12)) fun x74 =>
  bnd (FX6_three G s7.2 a x70 x72 x74) fun y75 =>
  some (y75.2, y75.1)) else
  (bnd (if p3 = ((5 : Int32)) then (bnd (FX6_slant G s7.2 a x11 x12 ((1 : Int32))) fun y68 =>
  some (y68.2, y68.1)) else
  (bnd (if p3 = ((6 : Int32)) then (bnd (FX6_slant G s7.2 a x12 x11 ((-1 : Int32))) fun y67 =>
  some (y67.2, y67.1)) else
  (bnd (if p3 = ((7 : Int32)) then (ltt ((((5 : Int32)) + x11)) fun x56 =>
  ltt ((x12 >>> (((1 : Int32)) &&& 31))) fun x57 =>
  ltt ((x56 + x57)) fun x58 =>
  ltt (x12 - x12 / ((2 : Int32)) * ((2 : Int32))) fun x59 =>
  bnd (if x59 = ((0 : Int32)) then (ltt ((x58 + ((1 : Int32)))) fun x65 =>
  bnd (FX6_two G s7.2 a x58 x65) fun y66 =>
  some (y66.2, y66.1)) else
  (ltt ((x58 + ((1 : Int32)))) fun x62 =>
  ltt ((x58 + ((2 : Int32)))) fun x63 =>
  bnd (FX6_three G s7.2 a x58 x62 x63) fun y64 =>
  some (y64.2, y64.1))) fun (y60 : Int32 × DD) =>
  some (y60.1, x58, y60.2)) else
  (ltt ((((3 : Int32)) - x12)) fun x36 =>
  ltt ((x11 >>> (((1 : Int32)) &&& 31))) fun x37 =>
  ltt ((x36 - x37)) fun x38 =>
  ltt ((((2 : Int32)) * x12)) fun x39 =>
  ltt ((x11 + x39)) fun x40 =>
  bnd (if x40 ≤ ((5 : Int32)) then (bnd (if x40 = ((5 : Int32)) then (bnd (FX6_three G s7.2 a ((1 : Int32)) ((0 : Int32)) ((0 : Int32))) fun y53 =>
  some (y53.2, y53.1)) else
  (ltt (x40 - x40 / ((2 : Int32)) * ((2 : Int32))) fun x45 =>
  bnd (if x45 = ((0 : Int32)) then (ltt ((x38 - ((1 : Int32)))) fun x51 =>
  bnd (FX6_two G s7.2 a x38 x51) fun y52 =>
  some (y52.2, y52.1)) else
  (ltt ((x38 - ((1 : Int32)))) fun x48 =>
  ltt ((x38 - ((2 : Int32)))) fun x49 =>
  bnd (FX6_three G s7.2 a x38 x48 x49) fun y50 =>
  some (y50.2, y50.1))) fun (y46 : Int32 × DD) =>
  some (y46.1, y46.2))) fun (y43 : Int32 × DD) =>
  some (y43.1, y43.2)) else
  (dr G 13 ((s7.2.2 a 8)) fun b54 =>
  chk (¬ (((0 : Int32)) < 0 ∨ G.2.2 b54 ≤ ((0 : Int32)).toNatClampNeg)) <|
  ltt (s7.2.1 b54 ((0 : Int32)).toNatClampNeg) fun x55 =>
  some (x55, s7.2))) fun (y41 : Int32 × DD) =>
  some (y41.1, x38, y41.2))) fun (y34 : Int32 × Int32 × DD) =>
  some (y34.1, y34.2.2))) fun (y32 : Int32 × DD) =>
  some (y32.1, y32.2))) fun (y30 : Int32 × DD) =>
  some (y30.1, y30.2))) fun (y28 : Int32 × DD) =>
  some (y28.1, y28.2))) fun (y26 : Int32 × DD) =>
  some (y26.1, y26.2))) fun (y24 : Int32 × DD) =>
  some (y24.1, y24.2))) fun (y22 : Int32 × DD) =>
  some (y22.1, y22.2))) fun (y13 : Int32 × DD) =>
  ltt ((y2.2 + x12)) fun x14 =>
  ltt ((x14 * ((16 : Int32)))) fun x15 =>
  ltt ((x15 + y1.2)) fun x16 =>
  ltt ((x16 + x11)) fun x17 =>
  dr G 13 ((y13.2.2 a 0)) fun b18 =>
  chk (¬ (x17 < 0 ∨ G.2.2 b18 ≤ x17.toNatClampNeg)) <|
  ltt (uI y13.2 b18 x17.toNatClampNeg y13.1) fun M19 =>
  ltt (s7.1 + (1 : Int32)) fun x20 =>
  some (.inl (x20, M19)))) : Option ((Int32 × DD) ⊕ (Int32 × DD)))) 1000000 ((0 : Int32), y5)) fun (y6 : Int32 × DD) =>
  some y6.2
set_option maxHeartbeats 4000000 in
set_option maxRecDepth 100000 in
def FX7_accept (G : GG) (M : DD) (a : Nat) (p0 : Option Nat) (p1 : Option Nat) (p2 : Option Nat) : Option (DD × Int32) :=
  dr G 3 p1 fun b2 =>
  bnd (FX3_isOwn G M b2) fun y3 =>
  dr G 13 ((M.2 b2 0)) fun b4 =>
  chk (¬ (((11 : Int32)) < 0 ∨ G.2.2 b4 ≤ ((11 : Int32)).toNatClampNeg)) <|
  ltt (y3.1.1 b4 ((11 : Int32)).toNatClampNeg) fun x5 =>
  bnd (if x5 = ((0 : Int32)) then (some ((0 : Int32))) else
  (some ((1 : Int32)))) fun (y6 : Int32) =>
  bnd (if y6 = ((0 : Int32)) then (some ((0 : Int32), y3.1)) else
  (dr G 13 p2 fun b30 =>
  chk (¬ (((2 : Int32)) < 0 ∨ G.2.2 b30 ≤ ((2 : Int32)).toNatClampNeg)) <|
  ltt (y3.1.1 b30 ((2 : Int32)).toNatClampNeg) fun x31 =>
  ltt ((((1 : Int32)) <<< (x31 &&& 31))) fun x32 =>
  bnd (FX7_leastRefs G y3.1 p2) fun y33 =>
  bnd (FX7_mark G y33.1 a p0 p1 x32 y33.2) fun y34 =>
  bnd (FX7_sweep G y34.1 a) fun y35 =>
  ltt (uP y35 a 7 p0) fun M36 =>
  bnd (if y34.2 = ((0 : Int32)) then (ltt (M36.1 a 12) fun x44 =>
  some (x44)) else
  (some ((0 : Int32)))) fun (y37 : Int32) =>
  ltt (uI M36 a 8 y37) fun M38 =>
  bnd (if y34.2 = ((0 : Int32)) then (chk (¬ (((5 : Int32)) < 0 ∨ G.2.2 b4 ≤ ((5 : Int32)).toNatClampNeg)) <|
  ltt (M38.1 b4 ((5 : Int32)).toNatClampNeg) fun x42 =>
  some (x42)) else
  (some ((0 : Int32)))) fun (y39 : Int32) =>
  ltt (uI M38 a 9 y39) fun M40 =>
  some (y34.2, M40))) fun (y7 : Int32 × DD) =>
  bnd (if y7.1 = ((0 : Int32)) then (some (y7.2)) else
  (dr G 4 p0 fun b26 =>
  ltt (uI y7.2 b26 9 ((0 : Int32))) fun M27 =>
  ltt (uI M27 b26 8 ((0 : Int32))) fun M28 =>
  some (M28))) fun (y8 : DD) =>
  dr G 4 p0 fun b9 =>
  ltt (y8.1 b9 8) fun x10 =>
  ltt (uI y8 a 11 x10) fun M11 =>
  bnd (if y7.1 = ((0 : Int32)) then (ltt (M11.1 a 13) fun x24 =>
  some (x24)) else
  (some ((0 : Int32)))) fun (y12 : Int32) =>
  ltt (uI M11 a 10 y12) fun M13 =>
  bnd (if y3.2 = ((0 : Int32)) then (bnd (if y6 = ((0 : Int32)) then (some (M13)) else
  (ltt (M13.1 b9 8) fun x21 =>
  ltt (uI M13 a 5 x21) fun M22 =>
  some (M22))) fun (y19 : DD) =>
  some (y19)) else
  (ltt (M13.1 b9 8) fun x17 =>
  ltt (uI M13 a 5 x17) fun M18 =>
  some (M18))) fun (y14 : DD) =>
  ltt (uP y14 a 6 p0) fun M15 =>
  chk (y7.1 = 0 ∨ y7.1 = 1) <|
  some (M15, y7.1)
set_option maxHeartbeats 4000000 in
set_option maxRecDepth 100000 in
def FX7_acceptCoded (G : GG) (M : DD) (a : Nat) (p0 : Option Nat) (p1 : Option Nat) (p2 : Option Nat) : Option (DD) :=
  dr G 3 p1 fun b2 =>
  dr G 13 ((M.2 b2 0)) fun b3 =>
  chk (¬ (((11 : Int32)) < 0 ∨ G.2.2 b3 ≤ ((11 : Int32)).toNatClampNeg)) <|
  ltt (M.1 b3 ((11 : Int32)).toNatClampNeg) fun x4 =>
  bnd (if x4 = ((0 : Int32)) then (some (M)) else
  (dr G 13 p2 fun b7 =>
  chk (¬ (((2 : Int32)) < 0 ∨ G.2.2 b7 ≤ ((2 : Int32)).toNatClampNeg)) <|
  ltt (M.1 b7 ((2 : Int32)).toNatClampNeg) fun x8 =>
  ltt ((((1 : Int32)) <<< (x8 &&& 31))) fun x9 =>
  bnd (FX7_leastRefs G M p2) fun y10 =>
  bnd (FX7_mark G y10.1 a p0 p1 x9 y10.2) fun y11 =>
  bnd (FX7_sweep G y11.1 a) fun y12 =>
  bnd (FX7_keep G y12 a p0) fun y13 =>
  some (y13))) fun (y5 : DD) =>
  some y5
set_option maxHeartbeats 4000000 in
set_option maxRecDepth 100000 in
noncomputable def FX7_makeRoom (G : GG) (M : DD) (a : Nat)  : Option (NN × DD) :=
  bnd (itrA (fun (s2 : NN × Int32 × DD) => ((if ((12 : Int32)) ≤ s2.2.1 then (some ([], .inr ((s2.2.1, s2.2.2)))) else
  (ltt (s2.2.2.1 a 3) fun x12 =>
  if x12 < ((6 : Int32)) then (some ([], .inr ((s2.2.1, s2.2.2)))) else
  (bnd (FX7_nextOut (xt G s2.1) s2.2.2 a) fun y14 =>
  bnd (if y14.2 = none then (dr (xt G s2.1) 14 ((y14.1.2 a 2)) fun b23 =>
  chk (¬ (((0 : Int32)) < 0 ∨ (xt G s2.1).2.2 b23 ≤ ((0 : Int32)).toNatClampNeg)) <|
  bnd (FX7_release (xt G s2.1) y14.1 ((y14.1.2 b23 ((0 : Int32)).toNatClampNeg))) fun y24 =>
  some ([], y24)) else
  (bnd (FX7_putOut (xt G s2.1) y14.1 a y14.2) fun y25 =>
  app y25.1 <|
  ltt (s2.1 ++ y25.1) fun L27 =>
  some ([], y25.2))) fun (y15 : NN × DD) =>
  app y15.1 <|
  ltt (s2.1 ++ y15.1) fun L17 =>
  bnd (FX7_sweep (xt G L17) y15.2 a) fun y19 =>
  ltt (s2.2.1 + (1 : Int32)) fun x20 =>
  some ([], .inl (L17, (x20, y19)))))) : Option (NN × ((NN × Int32 × DD) ⊕ (Int32 × DD))))) 1000000 ([], ((0 : Int32), M))) fun (y1 : NN × Int32 × DD) =>
  app y1.1 <|
  ltt ([] ++ y1.1) fun L4 =>
  some ([], y1.2.2)
set_option maxHeartbeats 4000000 in
set_option maxRecDepth 100000 in
noncomputable def FX7_putAway (G : GG) (M : DD) (a : Nat) (p0 : Option Nat) (p1 : Int32) (p2 : Int32) : Option (NN × DD) :=
  bnd (itr (fun (s2 : Int32 × DD) => ((ltt (s2.2.1 a 3) fun x52 =>
  if x52 ≤ s2.1 then (some (.inr (s2.1, s2.2))) else
  (if p2 = ((0 : Int32)) then (some (.inr (s2.1, s2.2))) else
  (dr (xt G []) 14 ((s2.2.2 a 2)) fun b55 =>
  chk (¬ (s2.1 < 0 ∨ (xt G []).2.2 b55 ≤ s2.1.toNatClampNeg)) <|
  dr (xt G []) 4 ((s2.2.2 b55 s2.1.toNatClampNeg)) fun b56 =>
  chk (((0 : Int32)) = 0 ∨ ((0 : Int32)) = 1) <|
  ltt (uI s2.2 b56 12 ((0 : Int32))) fun M57 =>
  ltt (s2.1 + (1 : Int32)) fun x58 =>
  some (.inl (x58, M57))))) : Option ((Int32 × DD) ⊕ (Int32 × DD)))) 1000000 ((0 : Int32), M)) fun (y1 : Int32 × DD) =>
  bnd (if p1 = ((0 : Int32)) then (some ([], y1.2)) else
  (chk (okd (xt G []) p0 = true) <|
  bnd (FX7_putOutAll (xt G []) y1.2 a) fun y45 =>
  app y45.1 <|
  ltt ([] ++ y45.1) fun L48 =>
  some ([], y45.2))) fun (y4 : NN × DD) =>
  app y4.1 <|
  ltt ([] ++ y4.1) fun L6 =>
  bnd (FX7_nextOut (xt G L6) y4.2 a) fun y8 =>
  dr (xt G L6) 4 p0 fun b9 =>
  ltt (y8.1.1 b9 10) fun x10 =>
  if x10 = ((0 : Int32)) then (if y8.2 = none then (bnd (FX7_putOut (xt G L6) y8.1 a p0) fun y21 =>
  app y21.1 <|
  ltt (L6 ++ y21.1) fun L23 =>
  some ([], y21.2)) else
  (dr (xt G L6) 4 y8.2 fun b26 =>
  ltt (y8.1.1 b26 9) fun x27 =>
  ltt (y8.1.1 b9 9) fun x28 =>
  if x27 < x28 then (chk (okd (xt G L6) p0 = true) <|
  bnd (FX7_makeRoom (xt G L6) y8.1 a) fun y30 =>
  app y30.1 <|
  ltt (L6 ++ y30.1) fun L33 =>
  chk (((1 : Int32)) = 0 ∨ ((1 : Int32)) = 1) <|
  ltt (uI y30.2 b9 12 ((1 : Int32))) fun M36 =>
  bnd (FX7_keep (xt G L33) M36 a p0) fun y37 =>
  some ([], y37)) else
  (bnd (FX7_putOut (xt G L6) y8.1 a p0) fun y38 =>
  app y38.1 <|
  ltt (L6 ++ y38.1) fun L40 =>
  some ([], y38.2)))) else
  (chk (okd (xt G L6) p0 = true) <|
  bnd (FX7_makeRoom (xt G L6) y8.1 a) fun y12 =>
  app y12.1 <|
  ltt (L6 ++ y12.1) fun L15 =>
  chk (((1 : Int32)) = 0 ∨ ((1 : Int32)) = 1) <|
  ltt (uI y12.2 b9 12 ((1 : Int32))) fun M18 =>
  bnd (FX7_keep (xt G L15) M18 a p0) fun y19 =>
  some ([], y19))
set_option maxHeartbeats 4000000 in
set_option maxRecDepth 100000 in
def FX9_clearBlock (G : GG) (M : DD) (a : Nat) (p0 : Int32) : Option (DD) :=
  ltt ((((8 : Int32)) * p0)) fun x1 =>
  ltt ((((8 : Int32)) * p0)) fun x2 =>
  ltt ((x2 + ((8 : Int32)))) fun x3 =>
  bnd (FJ7_fill_fda19 G M ((M.2 a 6)) x1 x3 ((0 : Int32))) fun y4 =>
  ltt ((((8 : Int32)) * p0)) fun x5 =>
  ltt ((x5 + ((0 : Int32)))) fun x6 =>
  dr G 13 ((y4.2 a 6)) fun b7 =>
  chk (¬ (x6 < 0 ∨ G.2.2 b7 ≤ x6.toNatClampNeg)) <|
  ltt (uI y4 b7 x6.toNatClampNeg ((-1 : Int32))) fun M8 =>
  ltt ((((8 : Int32)) * p0)) fun x9 =>
  ltt ((x9 + ((1 : Int32)))) fun x10 =>
  dr G 13 ((M8.2 a 6)) fun b11 =>
  chk (¬ (x10 < 0 ∨ G.2.2 b11 ≤ x10.toNatClampNeg)) <|
  ltt (uI M8 b11 x10.toNatClampNeg ((-1 : Int32))) fun M12 =>
  ltt ((((8 : Int32)) * p0)) fun x13 =>
  ltt ((x13 + ((6 : Int32)))) fun x14 =>
  dr G 13 ((M12.2 a 6)) fun b15 =>
  chk (¬ (x14 < 0 ∨ G.2.2 b15 ≤ x14.toNatClampNeg)) <|
  ltt (uI M12 b15 x14.toNatClampNeg ((-1 : Int32))) fun M16 =>
  ltt ((((16 : Int32)) * p0)) fun x17 =>
  ltt ((((16 : Int32)) * p0)) fun x18 =>
  ltt ((x18 + ((16 : Int32)))) fun x19 =>
  bnd (FJ7_fill_fda19 G M16 ((M16.2 a 7)) x17 x19 ((2 : Int32))) fun y20 =>
  ltt ((((24 : Int32)) * p0)) fun x21 =>
  ltt ((((24 : Int32)) * p0)) fun x22 =>
  ltt ((x22 + ((24 : Int32)))) fun x23 =>
  bnd (FJ7_fill_fda19 G y20 ((y20.2 a 8)) x21 x23 ((0 : Int32))) fun y24 =>
  bnd (FX9_levelAt G y24 p0 ((0 : Int32))) fun y25 =>
  ltt ((p0 + ((1 : Int32)))) fun x26 =>
  bnd (FX9_levelAt G y25.1 x26 ((0 : Int32))) fun y27 =>
  bnd (FJ7_fill_fda19 G y27.1 ((y24.2 a 9)) y25.2 y27.2 ((0 : Int32))) fun y28 =>
  ltt ((((3 : Int32)) * p0)) fun x29 =>
  ltt ((((3 : Int32)) * p0)) fun x30 =>
  ltt ((x30 + ((3 : Int32)))) fun x31 =>
  bnd (FJ7_fill_fda19 G y28 ((y28.2 a 10)) x29 x31 ((0 : Int32))) fun y32 =>
  bnd (FX9_clearMoves G y32 a p0) fun y33 =>
  some y33
set_option maxHeartbeats 4000000 in
set_option maxRecDepth 100000 in
def FX9_direct (G : GG) (M : DD) (a : Nat) (p0 : Int32) (p1 : Int32) : Option (DD × Int32) :=
  dr G 14 ((M.2 a 3)) fun b2 =>
  chk (¬ (((9 : Int32)) < 0 ∨ G.2.2 b2 ≤ ((9 : Int32)).toNatClampNeg)) <|
  if ((M.2 b2 ((9 : Int32)).toNatClampNeg)) = none then (chk (((0 : Int32)) = 0 ∨ ((0 : Int32)) = 1) <|
  some (M, (0 : Int32))) else
  (dr G 3 ((M.2 a 1)) fun b4 =>
  dr G 13 ((M.2 b4 0)) fun b5 =>
  chk (¬ (((8 : Int32)) < 0 ∨ G.2.2 b5 ≤ ((8 : Int32)).toNatClampNeg)) <|
  ltt (M.1 b5 ((8 : Int32)).toNatClampNeg) fun x6 =>
  if x6 = ((0 : Int32)) then (bnd (FX9_directByTime G M a p0 p1 ((M.2 b2 ((9 : Int32)).toNatClampNeg))) fun y90 =>
  chk (y90.2 = 0 ∨ y90.2 = 1) <|
  some (y90.1, y90.2)) else
  (bnd (FX9_leastReference G M a p0 ((0 : Int32))) fun y8 =>
  bnd (FX9_leastReference G y8.1 a p0 ((1 : Int32))) fun y9 =>
  bnd (if ((0 : Int32)) ≤ y8.2 then (some ((0 : Int32))) else
  (bnd (if ((0 : Int32)) ≤ y9.2 then (some ((0 : Int32))) else
  (some ((1 : Int32)))) fun (y88 : Int32) =>
  some (y88))) fun (y10 : Int32) =>
  bnd (itr (fun (s12 : Int32 × DD) => ((if ((2 : Int32)) ≤ s12.1 then (some (.inr (.inl (s12.1, s12.2)))) else
  (bnd (if y10 = ((0 : Int32)) then (bnd (if s12.1 = ((0 : Int32)) then (some (y8.2)) else
  (some (y9.2))) fun (y85 : Int32) =>
  some (y85)) else
  (some ((0 : Int32)))) fun (y16 : Int32) =>
  ltt (uI s12.2 a 18 ((0 : Int32))) fun M17 =>
  ltt (uI M17 a 19 ((0 : Int32))) fun M18 =>
  if y16 < ((0 : Int32)) then (bnd (if y16 < ((0 : Int32)) then (some (M18)) else
  (bnd (if y10 = ((0 : Int32)) then (bnd (FX9_guess G M18 a p0 s12.1 y16 ((0 : Int32)) ((16 : Int32)) ((0 : Int32))) fun y49 =>
  some (y49)) else
  (some (M18))) fun (y47 : DD) =>
  some (y47))) fun (y20 : DD) =>
  bnd (itr (fun (s22 : Int32 × DD) => ((if ((4 : Int32)) ≤ s22.1 then (some (.inr (s22.1, s22.2))) else
  (bnd (if y16 = ((0 : Int32)) then (bnd (if y10 = ((0 : Int32)) then (bnd (FX9_isStill G s22.2 ((M.2 b2 ((9 : Int32)).toNatClampNeg)) p0 s22.1) fun y43 =>
  bnd (if y43.2 = ((0 : Int32)) then (some ((0 : Int32))) else
  (some ((1 : Int32)))) fun (y44 : Int32) =>
  some (y44, y43.1)) else
  (some ((0 : Int32), s22.2))) fun (y41 : Int32 × DD) =>
  some (y41.1, y41.2)) else
  (some ((0 : Int32), s22.2))) fun (y27 : Int32 × DD) =>
  ltt ((p1 >>> (s22.1 &&& 31))) fun x28 =>
  ltt ((x28 &&& ((1 : Int32)))) fun x29 =>
  bnd (if x29 = ((1 : Int32)) then (bnd (if y27.1 = ((0 : Int32)) then (ltt (y27.2.1 a 18) fun x39 =>
  some (x39)) else
  (some ((0 : Int32)))) fun (y33 : Int32) =>
  bnd (if y27.1 = ((0 : Int32)) then (ltt (y27.2.1 a 19) fun x37 =>
  some (x37)) else
  (some ((0 : Int32)))) fun (y34 : Int32) =>
  bnd (FX9_setQuarter G y27.2 a p0 s12.1 s22.1 y16 y33 y34) fun y35 =>
  some (y35)) else
  (some (y27.2))) fun (y30 : DD) =>
  ltt (s22.1 + (1 : Int32)) fun x31 =>
  some (.inl (x31, y30)))) : Option ((Int32 × DD) ⊕ (Int32 × DD)))) 1000000 ((0 : Int32), y20)) fun (y21 : Int32 × DD) =>
  ltt (s12.1 + (1 : Int32)) fun x24 =>
  some (.inl (x24, y21.2))) else
  (ltt ((((9 : Int32)) * s12.1)) fun x50 =>
  ltt ((x50 + y16)) fun x51 =>
  dr G 14 ((M18.2 a 3)) fun b52 =>
  chk (¬ (x51 < 0 ∨ G.2.2 b52 ≤ x51.toNatClampNeg)) <|
  if ((M18.2 b52 x51.toNatClampNeg)) = none then (chk (((0 : Int32)) = 0 ∨ ((0 : Int32)) = 1) <|
  some (.inr (.inr (M18, (0 : Int32))))) else
  (bnd (if y16 < ((0 : Int32)) then (some (M18)) else
  (bnd (if y10 = ((0 : Int32)) then (bnd (FX9_guess G M18 a p0 s12.1 y16 ((0 : Int32)) ((16 : Int32)) ((0 : Int32))) fun y83 =>
  some (y83)) else
  (some (M18))) fun (y81 : DD) =>
  some (y81))) fun (y54 : DD) =>
  bnd (itr (fun (s56 : Int32 × DD) => ((if ((4 : Int32)) ≤ s56.1 then (some (.inr (s56.1, s56.2))) else
  (bnd (if y16 = ((0 : Int32)) then (bnd (if y10 = ((0 : Int32)) then (bnd (FX9_isStill G s56.2 ((M.2 b2 ((9 : Int32)).toNatClampNeg)) p0 s56.1) fun y77 =>
  bnd (if y77.2 = ((0 : Int32)) then (some ((0 : Int32))) else
  (some ((1 : Int32)))) fun (y78 : Int32) =>
  some (y78, y77.1)) else
  (some ((0 : Int32), s56.2))) fun (y75 : Int32 × DD) =>
  some (y75.1, y75.2)) else
  (some ((0 : Int32), s56.2))) fun (y61 : Int32 × DD) =>
  ltt ((p1 >>> (s56.1 &&& 31))) fun x62 =>
  ltt ((x62 &&& ((1 : Int32)))) fun x63 =>
  bnd (if x63 = ((1 : Int32)) then (bnd (if y61.1 = ((0 : Int32)) then (ltt (y61.2.1 a 18) fun x73 =>
  some (x73)) else
  (some ((0 : Int32)))) fun (y67 : Int32) =>
  bnd (if y61.1 = ((0 : Int32)) then (ltt (y61.2.1 a 19) fun x71 =>
  some (x71)) else
  (some ((0 : Int32)))) fun (y68 : Int32) =>
  bnd (FX9_setQuarter G y61.2 a p0 s12.1 s56.1 y16 y67 y68) fun y69 =>
  some (y69)) else
  (some (y61.2))) fun (y64 : DD) =>
  ltt (s56.1 + (1 : Int32)) fun x65 =>
  some (.inl (x65, y64)))) : Option ((Int32 × DD) ⊕ (Int32 × DD)))) 1000000 ((0 : Int32), y54)) fun (y55 : Int32 × DD) =>
  ltt (s12.1 + (1 : Int32)) fun x58 =>
  some (.inl (x58, y55.2)))))) : Option ((Int32 × DD) ⊕ ((Int32 × DD) ⊕ (DD × Int32))))) 1000000 ((0 : Int32), y9.1)) fun (y11 : (Int32 × DD) ⊕ (DD × Int32)) =>
  sel y11 (fun (z11k : Int32 × DD) =>
  chk (((1 : Int32)) = 0 ∨ ((1 : Int32)) = 1) <|
  some (z11k.2, (1 : Int32))) fun r9 => some r9))
set_option maxHeartbeats 4000000 in
set_option maxRecDepth 100000 in
def FL_demux (G : GG) (M : DD) (p0 : Option Nat) (p1 : Option Nat) : Option (DD × Int32) :=
  dr G 11 p0 fun b2 =>
  bnd (FX11_demux G M b2) fun y3 =>
  dr G 13 p1 fun b4 =>
  chk (¬ (((0 : Int32)) < 0 ∨ G.2.2 b4 ≤ ((0 : Int32)).toNatClampNeg)) <|
  ltt (uI y3.1 b4 ((0 : Int32)).toNatClampNeg y3.2) fun M5 =>
  some (M5, (0 : Int32))
set_option maxHeartbeats 4000000 in
set_option maxRecDepth 100000 in
def FL_mux (G : GG) (M : DD) (p0 : Option Nat) (p1 : Option Nat) : Option (DD × Int32) :=
  dr G 11 p0 fun b2 =>
  bnd (FX11_mux G M b2) fun y3 =>
  dr G 13 p1 fun b4 =>
  chk (¬ (((0 : Int32)) < 0 ∨ G.2.2 b4 ≤ ((0 : Int32)).toNatClampNeg)) <|
  ltt (uI y3.1 b4 ((0 : Int32)).toNatClampNeg y3.2) fun M5 =>
  some (M5, (0 : Int32))
set_option maxHeartbeats 4000000 in
set_option maxRecDepth 100000 in
def FL_sum (G : GG) (M : DD) (p0 : Option Nat) (p1 : Int32) (p2 : Int32) (p3 : Option Nat) : Option (DD × Int32) :=
  dr G 11 p0 fun b2 =>
  bnd (FX11_sum G M b2 p1 p2) fun y3 =>
  dr G 13 p3 fun b4 =>
  chk (¬ (((0 : Int32)) < 0 ∨ G.2.2 b4 ≤ ((0 : Int32)).toNatClampNeg)) <|
  ltt (uI y3.1 b4 ((0 : Int32)).toNatClampNeg y3.2) fun M5 =>
  some (M5, (0 : Int32))
set_option maxHeartbeats 4000000 in
set_option maxRecDepth 100000 in
def FL_take (G : GG) (M : DD) (p0 : Option Nat) (p1 : Option Nat) : Option (DD × Int32) :=
  dr G 11 p0 fun b2 =>
  bnd (FX11_take G M b2) fun y3 =>
  dr G 13 p1 fun b4 =>
  chk (¬ (((0 : Int32)) < 0 ∨ G.2.2 b4 ≤ ((0 : Int32)).toNatClampNeg)) <|
  ltt (uI y3.1 b4 ((0 : Int32)).toNatClampNeg y3.2) fun M5 =>
  some (M5, (0 : Int32))
set_option maxHeartbeats 4000000 in
set_option maxRecDepth 100000 in
def FX0_buildPieces (G : GG) (M : DD) (a : Nat) (p0 : Int32) (p1 : Int32) (p2 : Int32) (p3 : Int32) : Option (DD) :=
  ltt ((((8 : Int32)) * p0)) fun x1 =>
  dr G 9 ((M.2 a 3)) fun b2 =>
  ltt ((x1 + ((0 : Int32)))) fun x3 =>
  dr G 13 ((M.2 b2 6)) fun b4 =>
  chk (¬ (x3 < 0 ∨ G.2.2 b4 ≤ x3.toNatClampNeg)) <|
  ltt (M.1 b4 x3.toNatClampNeg) fun x5 =>
  bnd (if x5 = ((0 : Int32)) then (some ((1 : Int32))) else
  (some ((0 : Int32)))) fun (y6 : Int32) =>
  bnd (itr (fun (s8 : Int32 × DD) => ((if ((16 : Int32)) ≤ s8.1 then (some (.inr (s8.1, s8.2))) else
  (bnd (if y6 = ((0 : Int32)) then (some (s8.2)) else
  (dr G 9 ((s8.2.2 a 3)) fun b32 =>
  ltt ((((16 : Int32)) * p0)) fun x33 =>
  ltt ((x33 + s8.1)) fun x34 =>
  dr G 13 ((s8.2.2 b32 7)) fun b35 =>
  chk (¬ (x34 < 0 ∨ G.2.2 b35 ≤ x34.toNatClampNeg)) <|
  ltt (s8.2.1 b35 x34.toNatClampNeg) fun x36 =>
  bnd (FX9_sidesOf G s8.2 s8.1 p2) fun y37 =>
  dr G 6 ((s8.2.2 a 4)) fun b38 =>
  bnd (FX6_predictFour G y37.1 b38 (some b32) p0 s8.1 x36 y37.2) fun y39 =>
  some (y39))) fun (y12 : DD) =>
  bnd (if p3 = ((0 : Int32)) then (dr G 15 ((y12.2 a 9)) fun b18 =>
  chk (¬ (((0 : Int32)) < 0 ∨ G.2.2 b18 ≤ ((0 : Int32)).toNatClampNeg)) <|
  dr G 6 ((y12.2 a 4)) fun b19 =>
  bnd (FX6_measureLuma G y12 b19 ((y12.2 a 3)) ((y12.2 b18 ((0 : Int32)).toNatClampNeg)) p0 s8.1 p1 y6) fun y20 =>
  bnd (if y20.2 ≤ ((0 : Int32)) then (some (y20.1)) else
  (dr G 9 ((y20.1.2 a 3)) fun b23 =>
  ltt ((x1 + ((3 : Int32)))) fun x24 =>
  dr G 13 ((y20.1.2 b23 6)) fun b25 =>
  chk (¬ (x24 < 0 ∨ G.2.2 b25 ≤ x24.toNatClampNeg)) <|
  ltt (y20.1.1 b25 x24.toNatClampNeg) fun x26 =>
  ltt (s8.1 / ((4 : Int32))) fun x27 =>
  ltt ((((1 : Int32)) <<< (x27 &&& 31))) fun x28 =>
  ltt ((x26 ||| x28)) fun x29 =>
  chk (¬ (x24 < 0 ∨ G.2.2 b25 ≤ x24.toNatClampNeg)) <|
  ltt (uI y20.1 b25 x24.toNatClampNeg x29) fun M30 =>
  some (M30))) fun (y21 : DD) =>
  some (y21)) else
  (some (y12))) fun (y13 : DD) =>
  dr G 6 ((y13.2 a 4)) fun b14 =>
  bnd (FX6_fillLuma G y13 b14 ((y13.2 a 3)) p0 s8.1 p1) fun y15 =>
  ltt (s8.1 + (1 : Int32)) fun x16 =>
  some (.inl (x16, y15)))) : Option ((Int32 × DD) ⊕ (Int32 × DD)))) 1000000 ((0 : Int32), M)) fun (y7 : Int32 × DD) =>
  some y7.2
set_option maxHeartbeats 4000000 in
set_option maxRecDepth 100000 in
def FX0_costOfDirect (G : GG) (M : DD) (a : Nat) (p0 : Int32) : Option (DD × Int32) :=
  dr G 9 ((M.2 a 3)) fun b2 =>
  bnd (FX9_direct G M b2 p0 ((15 : Int32))) fun y3 =>
  if y3.2 = ((0 : Int32)) then (some (y3.1, (2147483647 : Int32))) else
  (dr G 6 ((y3.1.2 a 4)) fun b5 =>
  bnd (FX6_predictByLists G y3.1 b5 ((y3.1.2 a 3)) p0) fun y6 =>
  dr G 15 ((y6.2 a 9)) fun b7 =>
  chk (¬ (((0 : Int32)) < 0 ∨ G.2.2 b7 ≤ ((0 : Int32)).toNatClampNeg)) <|
  dr G 6 ((y6.2 a 4)) fun b8 =>
  bnd (FX6_differences G y6 b8 ((y6.2 a 3)) ((y6.2 b7 ((0 : Int32)).toNatClampNeg)) p0 ((0 : Int32)) ((16 : Int32))) fun y9 =>
  some (y9.1, y9.2))
set_option maxHeartbeats 4000000 in
set_option maxRecDepth 100000 in
def FX0_costOfFour (G : GG) (M : DD) (a : Nat) (p0 : Int32) (p1 : Int32) : Option (DD × Int32) :=
  dr G 9 ((M.2 a 3)) fun b2 =>
  dr G 3 ((M.2 b2 1)) fun b3 =>
  dr G 13 ((M.2 b3 0)) fun b4 =>
  chk (¬ (((12 : Int32)) < 0 ∨ G.2.2 b4 ≤ ((12 : Int32)).toNatClampNeg)) <|
  ltt (M.1 b4 ((12 : Int32)).toNatClampNeg) fun x5 =>
  bnd (FX9_clearBlock G M b2 p0) fun y6 =>
  dr G 9 ((y6.2 a 3)) fun b7 =>
  ltt ((((8 : Int32)) * p0)) fun x8 =>
  ltt ((x8 + ((0 : Int32)))) fun x9 =>
  dr G 13 ((y6.2 b7 6)) fun b10 =>
  chk (¬ (x9 < 0 ∨ G.2.2 b10 ≤ x9.toNatClampNeg)) <|
  ltt (uI y6 b10 x9.toNatClampNeg ((0 : Int32))) fun M11 =>
  bnd (itr (fun (s13 : Int32 × Int32 × Int32 × DD) => ((if ((16 : Int32)) ≤ s13.2.2.1 then (some (.inr (s13.1, s13.2.1, s13.2.2.1, s13.2.2.2))) else
  (bnd (FX9_sidesOf G s13.2.2.2 s13.2.2.1 p1) fun y20 =>
  dr G 9 ((y20.1.2 a 3)) fun b21 =>
  bnd (FX9_guessMode G y20.1 b21 p0 s13.2.2.1) fun y22 =>
  bnd (itr (fun (s24 : Int32 × Int32 × Int32 × DD) => ((if ((9 : Int32)) ≤ s24.2.2.1 then (some (.inr (s24.1, s24.2.1, s24.2.2.1, s24.2.2.2))) else
  (bnd (FX9_mayBeFour G s24.2.2.2 s24.2.2.1 y20.2) fun y48 =>
  bnd (if y48.2 = ((0 : Int32)) then (some (s24.1, s24.2.1, y48.1)) else
  (dr G 6 ((y48.1.2 a 4)) fun b52 =>
  bnd (FX6_predictFour G y48.1 b52 ((y48.1.2 a 3)) p0 s13.2.2.1 s24.2.2.1 y20.2) fun y53 =>
  dr G 15 ((y53.2 a 9)) fun b54 =>
  chk (¬ (((0 : Int32)) < 0 ∨ G.2.2 b54 ≤ ((0 : Int32)).toNatClampNeg)) <|
  dr G 6 ((y53.2 a 4)) fun b55 =>
  bnd (FX6_differences G y53 b55 ((y53.2 a 3)) ((y53.2 b54 ((0 : Int32)).toNatClampNeg)) p0 s13.2.2.1 ((4 : Int32))) fun y56 =>
  bnd (if s24.1 ≤ y56.2 then (some (s24.2.1)) else
  (some (s24.2.2.1))) fun (y57 : Int32) =>
  bnd (if s24.1 ≤ y56.2 then (some (s24.1)) else
  (some (y56.2))) fun (y58 : Int32) =>
  some (y58, y57, y56.1))) fun (y49 : Int32 × Int32 × DD) =>
  ltt (s24.2.2.1 + (1 : Int32)) fun x50 =>
  some (.inl (y49.1, y49.2.1, x50, y49.2.2)))) : Option ((Int32 × Int32 × Int32 × DD) ⊕ (Int32 × Int32 × Int32 × DD)))) 1000000 ((2147483647 : Int32), (2 : Int32), (0 : Int32), y22.1)) fun (y23 : Int32 × Int32 × Int32 × DD) =>
  ltt ((s13.1 + y23.1)) fun x26 =>
  bnd (if y23.2.1 = y22.2 then (some ((1 : Int32))) else
  (some ((4 : Int32)))) fun (y27 : Int32) =>
  ltt ((s13.2.1 + y27)) fun x28 =>
  ltt ((((13 : Int32)) + s13.2.2.1)) fun x29 =>
  dr G 13 ((y23.2.2.2.2 a 20)) fun b30 =>
  chk (¬ (x29 < 0 ∨ G.2.2 b30 ≤ x29.toNatClampNeg)) <|
  ltt (uI y23.2.2.2 b30 x29.toNatClampNeg y23.2.1) fun M31 =>
  dr G 9 ((M31.2 a 3)) fun b32 =>
  ltt ((((16 : Int32)) * p0)) fun x33 =>
  ltt ((x33 + s13.2.2.1)) fun x34 =>
  dr G 13 ((M31.2 b32 7)) fun b35 =>
  chk (¬ (x34 < 0 ∨ G.2.2 b35 ≤ x34.toNatClampNeg)) <|
  ltt (uI M31 b35 x34.toNatClampNeg y23.2.1) fun M36 =>
  dr G 6 ((M36.2 a 4)) fun b37 =>
  bnd (FX6_predictFour G M36 b37 ((M36.2 a 3)) p0 s13.2.2.1 y23.2.1 y20.2) fun y38 =>
  dr G 15 ((y38.2 a 9)) fun b39 =>
  chk (¬ (((0 : Int32)) < 0 ∨ G.2.2 b39 ≤ ((0 : Int32)).toNatClampNeg)) <|
  dr G 6 ((y38.2 a 4)) fun b40 =>
  bnd (FX6_measureLuma G y38 b40 ((y38.2 a 3)) ((y38.2 b39 ((0 : Int32)).toNatClampNeg)) p0 s13.2.2.1 x5 ((1 : Int32))) fun y41 =>
  dr G 6 ((y41.1.2 a 4)) fun b42 =>
  bnd (FX6_fillLuma G y41.1 b42 ((y41.1.2 a 3)) p0 s13.2.2.1 x5) fun y43 =>
  ltt (s13.2.2.1 + (1 : Int32)) fun x44 =>
  some (.inl (x26, x28, x44, y43)))) : Option ((Int32 × Int32 × Int32 × DD) ⊕ (Int32 × Int32 × Int32 × DD)))) 1000000 ((0 : Int32), (8 : Int32), (0 : Int32), M11)) fun (y12 : Int32 × Int32 × Int32 × DD) =>
  bnd (FX0_priceOfBit G y12.2.2.2 a) fun y15 =>
  ltt ((y15.2 * y12.2.1)) fun x16 =>
  ltt ((y12.1 + x16)) fun x17 =>
  some (y15.1, x17)
set_option maxHeartbeats 4000000 in
set_option maxRecDepth 100000 in
def FX0_drawSubs (G : GG) (M : DD) (a : Nat) (p0 : Int32) (p1 : Int32) : Option (DD × Int32) :=
  bnd (itr (fun (s2 : Int32 × Int32 × DD) => ((if ((4 : Int32)) ≤ s2.2.1 then (some (.inr (s2.1, s2.2.1, s2.2.2))) else
  (bnd (if p1 = ((0 : Int32)) then (some ((4 : Int32))) else
  (some ((13 : Int32)))) fun (y6 : Int32) =>
  bnd (FX0_draw G s2.2.2 a y6) fun y7 =>
  bnd (if p1 = ((1 : Int32)) then (bnd (if y7.2 = ((0 : Int32)) then (ltt ((((1 : Int32)) <<< (s2.2.1 &&& 31))) fun x16 =>
  dr G 9 ((y7.1.2 a 3)) fun b17 =>
  bnd (FX9_direct G y7.1 b17 p0 x16) fun y18 =>
  bnd (if y18.2 = ((0 : Int32)) then (some ((1 : Int32))) else
  (some ((0 : Int32)))) fun (y19 : Int32) =>
  bnd (if y19 = ((0 : Int32)) then (ltt ((((1 : Int32)) <<< (s2.2.1 &&& 31))) fun x23 =>
  some (x23)) else
  (some ((0 : Int32)))) fun (y20 : Int32) =>
  ltt ((s2.1 ||| y20)) fun x21 =>
  some (x21, y19, y18.1)) else
  (some (s2.1, y7.2, y7.1))) fun (y14 : Int32 × Int32 × DD) =>
  some (y14.1, y14.2.1, y14.2.2)) else
  (some (s2.1, y7.2, y7.1))) fun (y8 : Int32 × Int32 × DD) =>
  dr G 9 ((y8.2.2.2 a 3)) fun b9 =>
  dr G 13 ((y8.2.2.2 b9 12)) fun b10 =>
  chk (¬ (s2.2.1 < 0 ∨ G.2.2 b10 ≤ s2.2.1.toNatClampNeg)) <|
  ltt (uI y8.2.2 b10 s2.2.1.toNatClampNeg y8.2.1) fun M11 =>
  ltt (s2.2.1 + (1 : Int32)) fun x12 =>
  some (.inl (y8.1, x12, M11)))) : Option ((Int32 × Int32 × DD) ⊕ (Int32 × Int32 × DD)))) 1000000 ((0 : Int32), (0 : Int32), M)) fun (y1 : Int32 × Int32 × DD) =>
  some (y1.2.2, y1.1)
set_option maxHeartbeats 4000000 in
set_option maxRecDepth 100000 in
noncomputable def FX0_endSlice (G : GG) (M : DD) (a : Nat) (p0 : Int32) : Option (NN × DD) :=
  ltt ((p0 + ((1 : Int32)))) fun x1 =>
  bnd (FX0_isSliceEdge (xt G []) M a x1) fun y2 =>
  dr (xt G []) 9 ((y2.1.2 a 3)) fun b3 =>
  dr (xt G []) 13 ((y2.1.2 b3 2)) fun b4 =>
  chk (¬ (((1 : Int32)) < 0 ∨ (xt G []).2.2 b4 ≤ ((1 : Int32)).toNatClampNeg)) <|
  ltt (y2.1.1 b4 ((1 : Int32)).toNatClampNeg) fun x5 =>
  bnd (if x5 = ((1 : Int32)) then (some ((1 : Int32))) else
  (some ((0 : Int32)))) fun (y6 : Int32) =>
  bnd (if y6 = ((0 : Int32)) then (some ([], y2.1)) else
  (dr (xt G []) 10 ((y2.1.2 a 2)) fun b40 =>
  bnd (FX10_last (xt G []) y2.1 b40 y2.2) fun y41 =>
  app y41.1 <|
  ltt ([] ++ y41.1) fun L43 =>
  some ([], y41.2))) fun (y7 : NN × DD) =>
  app y7.1 <|
  ltt ([] ++ y7.1) fun L9 =>
  if y2.2 = ((0 : Int32)) then (some ([], y7.2)) else
  (bnd (if y6 = ((0 : Int32)) then (dr (xt G L9) 10 ((y7.2.2 a 2)) fun b24 =>
  ltt (y7.2.1 b24 3) fun x25 =>
  bnd (if x25 ≤ ((0 : Int32)) then (some ([], y7.2)) else
  (ltt (y7.2.1 b24 3) fun x32 =>
  bnd (FX10_ue (xt G L9) y7.2 b24 ((0 : Int32)) x32) fun y33 =>
  app y33.1 <|
  ltt (L9 ++ y33.1) fun L35 =>
  some ([], y33.2))) fun (y26 : NN × DD) =>
  app y26.1 <|
  ltt (L9 ++ y26.1) fun L28 =>
  some ([], y26.2)) else
  (some ([], y7.2))) fun (y12 : NN × DD) =>
  app y12.1 <|
  ltt (L9 ++ y12.1) fun L14 =>
  dr (xt G L14) 10 ((y12.2.2 a 2)) fun b16 =>
  bnd (FX10_endUnit (xt G L14) y12.2 b16 y6) fun y17 =>
  app y17.1 <|
  ltt (L14 ++ y17.1) fun L19 =>
  some ([], y17.2))
set_option maxHeartbeats 4000000 in
set_option maxRecDepth 100000 in
def FX0_useBest (G : GG) (M : DD) (a : Nat) (p0 : Int32) (p1 : Int32) (p2 : Int32) : Option (DD) :=
  dr G 9 ((M.2 a 3)) fun b2 =>
  ltt ((((8 : Int32)) * p0)) fun x3 =>
  ltt ((x3 + ((1 : Int32)))) fun x4 =>
  dr G 13 ((M.2 b2 6)) fun b5 =>
  chk (¬ (x4 < 0 ∨ G.2.2 b5 ≤ x4.toNatClampNeg)) <|
  ltt (uI M b5 x4.toNatClampNeg p2) fun M6 =>
  if p1 = ((1 : Int32)) then (if p2 = ((0 : Int32)) then (dr G 9 ((M6.2 a 3)) fun b77 =>
  bnd (FX9_direct G M6 b77 p0 ((15 : Int32))) fun y78 =>
  some y78.1) else
  (dr G 9 ((M6.2 a 3)) fun b43 =>
  bnd (FX9_plan G M6 b43 p1 p2) fun y44 =>
  bnd (itr (fun (s46 : Int32 × DD) => ((if ((2 : Int32)) ≤ s46.1 then (some (.inr (s46.1, s46.2))) else
  (dr G 9 ((s46.2.2 a 3)) fun b50 =>
  dr G 13 ((s46.2.2 b50 13)) fun b51 =>
  chk (¬ (((3 : Int32)) < 0 ∨ G.2.2 b51 ≤ ((3 : Int32)).toNatClampNeg)) <|
  ltt (s46.2.1 b51 ((3 : Int32)).toNatClampNeg) fun x52 =>
  ltt ((x52 >>> (s46.1 &&& 31))) fun x53 =>
  ltt ((x53 &&& ((1 : Int32)))) fun x54 =>
  bnd (if x54 = ((1 : Int32)) then (ltt ((((5 : Int32)) * s46.1)) fun x58 =>
  ltt ((x58 + ((1 : Int32)))) fun x59 =>
  dr G 13 ((s46.2.2 a 20)) fun b60 =>
  chk (¬ (x59 < 0 ∨ G.2.2 b60 ≤ x59.toNatClampNeg)) <|
  ltt (s46.2.1 b60 x59.toNatClampNeg) fun x61 =>
  bnd (FX9_guess G s46.2 b50 p0 s46.1 x61 ((0 : Int32)) ((16 : Int32)) ((0 : Int32))) fun y62 =>
  ltt ((((5 : Int32)) * s46.1)) fun x63 =>
  ltt ((x63 + ((1 : Int32)))) fun x64 =>
  dr G 13 ((y62.2 a 20)) fun b65 =>
  chk (¬ (x64 < 0 ∨ G.2.2 b65 ≤ x64.toNatClampNeg)) <|
  ltt (y62.1 b65 x64.toNatClampNeg) fun x66 =>
  dr G 9 ((y62.2 a 3)) fun b67 =>
  bnd (FX9_setReference G y62 b67 p0 s46.1 ((0 : Int32)) x66) fun y68 =>
  ltt ((((5 : Int32)) * s46.1)) fun x69 =>
  ltt ((x69 + ((2 : Int32)))) fun x70 =>
  dr G 13 ((y68.2 a 20)) fun b71 =>
  chk (¬ (x70 < 0 ∨ G.2.2 b71 ≤ x70.toNatClampNeg)) <|
  ltt (y68.1 b71 x70.toNatClampNeg) fun x72 =>
  ltt ((((5 : Int32)) * s46.1)) fun x73 =>
  ltt ((x73 + ((3 : Int32)))) fun x74 =>
  chk (¬ (x74 < 0 ∨ G.2.2 b71 ≤ x74.toNatClampNeg)) <|
  ltt (y68.1 b71 x74.toNatClampNeg) fun x75 =>
  bnd (FX0_setVector G y68 a p0 s46.1 ((0 : Int32)) x72 x75) fun y76 =>
  some (y76)) else
  (some (s46.2))) fun (y55 : DD) =>
  ltt (s46.1 + (1 : Int32)) fun x56 =>
  some (.inl (x56, y55)))) : Option ((Int32 × DD) ⊕ (Int32 × DD)))) 1000000 ((0 : Int32), y44)) fun (y45 : Int32 × DD) =>
  some y45.2)) else
  (dr G 9 ((M6.2 a 3)) fun b8 =>
  bnd (FX9_plan G M6 b8 p1 p2) fun y9 =>
  bnd (itr (fun (s11 : Int32 × DD) => ((if ((2 : Int32)) ≤ s11.1 then (some (.inr (s11.1, s11.2))) else
  (dr G 9 ((s11.2.2 a 3)) fun b15 =>
  dr G 13 ((s11.2.2 b15 13)) fun b16 =>
  chk (¬ (((3 : Int32)) < 0 ∨ G.2.2 b16 ≤ ((3 : Int32)).toNatClampNeg)) <|
  ltt (s11.2.1 b16 ((3 : Int32)).toNatClampNeg) fun x17 =>
  ltt ((x17 >>> (s11.1 &&& 31))) fun x18 =>
  ltt ((x18 &&& ((1 : Int32)))) fun x19 =>
  bnd (if x19 = ((1 : Int32)) then (ltt ((((5 : Int32)) * s11.1)) fun x23 =>
  ltt ((x23 + ((1 : Int32)))) fun x24 =>
  dr G 13 ((s11.2.2 a 20)) fun b25 =>
  chk (¬ (x24 < 0 ∨ G.2.2 b25 ≤ x24.toNatClampNeg)) <|
  ltt (s11.2.1 b25 x24.toNatClampNeg) fun x26 =>
  bnd (FX9_guess G s11.2 b15 p0 s11.1 x26 ((0 : Int32)) ((16 : Int32)) ((0 : Int32))) fun y27 =>
  ltt ((((5 : Int32)) * s11.1)) fun x28 =>
  ltt ((x28 + ((1 : Int32)))) fun x29 =>
  dr G 13 ((y27.2 a 20)) fun b30 =>
  chk (¬ (x29 < 0 ∨ G.2.2 b30 ≤ x29.toNatClampNeg)) <|
  ltt (y27.1 b30 x29.toNatClampNeg) fun x31 =>
  dr G 9 ((y27.2 a 3)) fun b32 =>
  bnd (FX9_setReference G y27 b32 p0 s11.1 ((0 : Int32)) x31) fun y33 =>
  ltt ((((5 : Int32)) * s11.1)) fun x34 =>
  ltt ((x34 + ((2 : Int32)))) fun x35 =>
  dr G 13 ((y33.2 a 20)) fun b36 =>
  chk (¬ (x35 < 0 ∨ G.2.2 b36 ≤ x35.toNatClampNeg)) <|
  ltt (y33.1 b36 x35.toNatClampNeg) fun x37 =>
  ltt ((((5 : Int32)) * s11.1)) fun x38 =>
  ltt ((x38 + ((3 : Int32)))) fun x39 =>
  chk (¬ (x39 < 0 ∨ G.2.2 b36 ≤ x39.toNatClampNeg)) <|
  ltt (y33.1 b36 x39.toNatClampNeg) fun x40 =>
  bnd (FX0_setVector G y33 a p0 s11.1 ((0 : Int32)) x37 x40) fun y41 =>
  some (y41)) else
  (some (s11.2))) fun (y20 : DD) =>
  ltt (s11.1 + (1 : Int32)) fun x21 =>
  some (.inl (x21, y20)))) : Option ((Int32 × DD) ⊕ (Int32 × DD)))) 1000000 ((0 : Int32), y9)) fun (y10 : Int32 × DD) =>
  some y10.2)
set_option maxHeartbeats 4000000 in
set_option maxRecDepth 100000 in
noncomputable def FX0_writeBlock (G : GG) (M : DD) (a : Nat) (p0 : Int32) : Option (NN × DD) :=
  ltt ((((8 : Int32)) * p0)) fun x1 =>
  dr (xt G []) 9 ((M.2 a 3)) fun b2 =>
  dr (xt G []) 3 ((M.2 b2 1)) fun b3 =>
  dr (xt G []) 13 ((M.2 b3 0)) fun b4 =>
  chk (¬ (((1 : Int32)) < 0 ∨ (xt G []).2.2 b4 ≤ ((1 : Int32)).toNatClampNeg)) <|
  ltt (M.1 b4 ((1 : Int32)).toNatClampNeg) fun x5 =>
  ltt ((x1 + ((0 : Int32)))) fun x6 =>
  dr (xt G []) 13 ((M.2 b2 6)) fun b7 =>
  chk (¬ (x6 < 0 ∨ (xt G []).2.2 b7 ≤ x6.toNatClampNeg)) <|
  ltt (M.1 b7 x6.toNatClampNeg) fun x8 =>
  bnd (if x5 = ((2 : Int32)) then (bnd (FX0_isSkipped (xt G []) M a p0) fun y140 =>
  bnd (if y140.2 = ((0 : Int32)) then (bnd (if x5 = ((2 : Int32)) then (some ([], y140.1)) else
  (dr (xt G []) 10 ((y140.1.2 a 2)) fun b153 =>
  ltt (y140.1.1 b153 3) fun x154 =>
  bnd (FX10_ue (xt G []) y140.1 b153 ((0 : Int32)) x154) fun y155 =>
  app y155.1 <|
  ltt ([] ++ y155.1) fun L157 =>
  dr (xt G L157) 10 ((y155.2.2 a 2)) fun b160 =>
  ltt (uI y155.2 b160 3 ((0 : Int32))) fun M161 =>
  some ([], M161))) fun (y147 : NN × DD) =>
  app y147.1 <|
  ltt ([] ++ y147.1) fun L149 =>
  some ([], y147.2)) else
  (dr (xt G []) 10 ((y140.1.2 a 2)) fun b162 =>
  ltt (y140.1.1 b162 3) fun x163 =>
  ltt ((x163 + ((1 : Int32)))) fun x164 =>
  ltt (uI y140.1 b162 3 x164) fun M165 =>
  some ([], M165))) fun (y141 : NN × DD) =>
  app y141.1 <|
  ltt ([] ++ y141.1) fun L143 =>
  some ([], y141.2)) else
  (dr (xt G []) 13 ((M.2 b2 2)) fun b166 =>
  chk (¬ (((1 : Int32)) < 0 ∨ (xt G []).2.2 b166 ≤ ((1 : Int32)).toNatClampNeg)) <|
  ltt (M.1 b166 ((1 : Int32)).toNatClampNeg) fun x167 =>
  bnd (if x167 = ((1 : Int32)) then (bnd (FX0_isSkipped (xt G []) M a p0) fun y200 =>
  bnd (if y200.2 = ((0 : Int32)) then (some ((0 : Int64))) else
  (some ((1 : Int64)))) fun (y201 : Int64) =>
  dr (xt G []) 10 ((M.2 a 2)) fun b202 =>
  bnd (FX10_code (xt G []) y200.1 b202 ((0 : Int32)) y201 ((1 : Int32))) fun y203 =>
  app y203.1 <|
  ltt ([] ++ y203.1) fun L205 =>
  some ([], y203.2)) else
  (bnd (FX0_isSkipped (xt G []) M a p0) fun y174 =>
  bnd (if y174.2 = ((0 : Int32)) then (bnd (if x5 = ((2 : Int32)) then (some ([], y174.1)) else
  (dr (xt G []) 10 ((y174.1.2 a 2)) fun b187 =>
  ltt (y174.1.1 b187 3) fun x188 =>
  bnd (FX10_ue (xt G []) y174.1 b187 ((0 : Int32)) x188) fun y189 =>
  app y189.1 <|
  ltt ([] ++ y189.1) fun L191 =>
  dr (xt G L191) 10 ((y189.2.2 a 2)) fun b194 =>
  ltt (uI y189.2 b194 3 ((0 : Int32))) fun M195 =>
  some ([], M195))) fun (y181 : NN × DD) =>
  app y181.1 <|
  ltt ([] ++ y181.1) fun L183 =>
  some ([], y181.2)) else
  (dr (xt G []) 10 ((y174.1.2 a 2)) fun b196 =>
  ltt (y174.1.1 b196 3) fun x197 =>
  ltt ((x197 + ((1 : Int32)))) fun x198 =>
  ltt (uI y174.1 b196 3 x198) fun M199 =>
  some ([], M199))) fun (y175 : NN × DD) =>
  app y175.1 <|
  ltt ([] ++ y175.1) fun L177 =>
  some ([], y175.2))) fun (y168 : NN × DD) =>
  app y168.1 <|
  ltt ([] ++ y168.1) fun L170 =>
  some ([], y168.2))) fun (y9 : NN × DD) =>
  app y9.1 <|
  ltt ([] ++ y9.1) fun L11 =>
  bnd (FX0_isSkipped (xt G L11) y9.2 a p0) fun y13 =>
  if y13.2 = ((0 : Int32)) then (bnd (if x5 = ((2 : Int32)) then (some ((0 : Int32))) else
  (bnd (if x5 = ((0 : Int32)) then (some ((5 : Int32))) else
  (some ((23 : Int32)))) fun (y136 : Int32) =>
  some (y136))) fun (y15 : Int32) =>
  bnd (if x8 = ((2 : Int32)) then (ltt ((y15 + ((25 : Int32)))) fun x121 =>
  dr (xt G L11) 10 ((y13.1.2 a 2)) fun b122 =>
  bnd (FX10_ue (xt G L11) y13.1 b122 ((1 : Int32)) x121) fun y123 =>
  app y123.1 <|
  ltt (L11 ++ y123.1) fun L125 =>
  dr (xt G L125) 6 ((y123.2.2 a 4)) fun b128 =>
  dr (xt G L125) 10 ((y123.2.2 a 2)) fun b129 =>
  bnd (FX10_rawSamples (xt G L125) y123.2 b129 ((y123.2.2 b128 0))) fun y130 =>
  app y130.1 <|
  ltt (L125 ++ y130.1) fun L132 =>
  some ([], y130.2)) else
  (bnd (if x8 = ((3 : Int32)) then (dr (xt G L11) 9 ((y13.1.2 a 3)) fun b87 =>
  ltt ((x1 + ((1 : Int32)))) fun x88 =>
  dr (xt G L11) 13 ((y13.1.2 b87 6)) fun b89 =>
  chk (¬ (x88 < 0 ∨ (xt G L11).2.2 b89 ≤ x88.toNatClampNeg)) <|
  ltt (y13.1.1 b89 x88.toNatClampNeg) fun x90 =>
  dr (xt G L11) 10 ((y13.1.2 a 2)) fun b91 =>
  bnd (FX10_ue (xt G L11) y13.1 b91 ((1 : Int32)) x90) fun y92 =>
  app y92.1 <|
  ltt (L11 ++ y92.1) fun L94 =>
  bnd (itrA (fun (s98 : NN × Int32 × DD) => ((if ((4 : Int32)) ≤ s98.2.1 then (some ([], .inr ((s98.2.1, s98.2.2)))) else
  (bnd (if x5 = ((0 : Int32)) then (some ((3 : Int32))) else
  (some ((22 : Int32)))) fun (y108 : Int32) =>
  if x90 = y108 then (dr (xt G s98.1) 9 ((s98.2.2.2 a 3)) fun b110 =>
  dr (xt G s98.1) 13 ((s98.2.2.2 b110 12)) fun b111 =>
  chk (¬ (s98.2.1 < 0 ∨ (xt G s98.1).2.2 b111 ≤ s98.2.1.toNatClampNeg)) <|
  ltt (s98.2.2.1 b111 s98.2.1.toNatClampNeg) fun x112 =>
  dr (xt G s98.1) 10 ((s98.2.2.2 a 2)) fun b113 =>
  bnd (FX10_ue (xt G s98.1) s98.2.2 b113 ((5 : Int32)) x112) fun y114 =>
  app y114.1 <|
  ltt (s98.1 ++ y114.1) fun L116 =>
  ltt (s98.2.1 + (1 : Int32)) fun x119 =>
  some ([], .inl (L116, (x119, y114.2)))) else
  (some ([], .inr ((s98.2.1, s98.2.2)))))) : Option (NN × ((NN × Int32 × DD) ⊕ (Int32 × DD))))) 1000000 (L94, ((0 : Int32), y92.2))) fun (y97 : NN × Int32 × DD) =>
  app y97.1 <|
  ltt (L94 ++ y97.1) fun L100 =>
  some ([], y97.2.2)) else
  (bnd (if x8 = ((1 : Int32)) then (dr (xt G L11) 9 ((y13.1.2 a 3)) fun b55 =>
  ltt ((((16 : Int32)) * p0)) fun x56 =>
  dr (xt G L11) 13 ((y13.1.2 b55 7)) fun b57 =>
  chk (¬ (x56 < 0 ∨ (xt G L11).2.2 b57 ≤ x56.toNatClampNeg)) <|
  ltt (y13.1.1 b57 x56.toNatClampNeg) fun x58 =>
  ltt ((x1 + ((4 : Int32)))) fun x59 =>
  dr (xt G L11) 13 ((y13.1.2 b55 6)) fun b60 =>
  chk (¬ (x59 < 0 ∨ (xt G L11).2.2 b60 ≤ x59.toNatClampNeg)) <|
  ltt (y13.1.1 b60 x59.toNatClampNeg) fun x61 =>
  ltt ((((4 : Int32)) * x61)) fun x62 =>
  ltt ((x58 + x62)) fun x63 =>
  ltt ((x1 + ((3 : Int32)))) fun x64 =>
  chk (¬ (x64 < 0 ∨ (xt G L11).2.2 b60 ≤ x64.toNatClampNeg)) <|
  ltt (y13.1.1 b60 x64.toNatClampNeg) fun x65 =>
  bnd (if x65 ≤ ((0 : Int32)) then (some ((0 : Int32))) else
  (some ((12 : Int32)))) fun (y66 : Int32) =>
  ltt ((x63 + y66)) fun x67 =>
  ltt ((y15 + ((1 : Int32)))) fun x68 =>
  ltt ((x68 + x67)) fun x69 =>
  dr (xt G L11) 10 ((y13.1.2 a 2)) fun b70 =>
  bnd (FX10_ue (xt G L11) y13.1 b70 ((1 : Int32)) x69) fun y71 =>
  app y71.1 <|
  ltt (L11 ++ y71.1) fun L73 =>
  dr (xt G L73) 9 ((y71.2.2 a 3)) fun b76 =>
  ltt ((x1 + ((5 : Int32)))) fun x77 =>
  dr (xt G L73) 13 ((y71.2.2 b76 6)) fun b78 =>
  chk (¬ (x77 < 0 ∨ (xt G L73).2.2 b78 ≤ x77.toNatClampNeg)) <|
  ltt (y71.2.1 b78 x77.toNatClampNeg) fun x79 =>
  dr (xt G L73) 10 ((y71.2.2 a 2)) fun b80 =>
  bnd (FX10_ue (xt G L73) y71.2 b80 ((4 : Int32)) x79) fun y81 =>
  app y81.1 <|
  ltt (L73 ++ y81.1) fun L83 =>
  some ([], y81.2)) else
  (dr (xt G L11) 10 ((y13.1.2 a 2)) fun b34 =>
  bnd (FX10_ue (xt G L11) y13.1 b34 ((1 : Int32)) y15) fun y35 =>
  app y35.1 <|
  ltt (L11 ++ y35.1) fun L37 =>
  bnd (FX0_writeModes (xt G L37) y35.2 a p0) fun y40 =>
  app y40.1 <|
  ltt (L37 ++ y40.1) fun L42 =>
  dr (xt G L42) 9 ((y40.2.2 a 3)) fun b45 =>
  ltt ((x1 + ((5 : Int32)))) fun x46 =>
  dr (xt G L42) 13 ((y40.2.2 b45 6)) fun b47 =>
  chk (¬ (x46 < 0 ∨ (xt G L42).2.2 b47 ≤ x46.toNatClampNeg)) <|
  ltt (y40.2.1 b47 x46.toNatClampNeg) fun x48 =>
  dr (xt G L42) 10 ((y40.2.2 a 2)) fun b49 =>
  bnd (FX10_ue (xt G L42) y40.2 b49 ((4 : Int32)) x48) fun y50 =>
  app y50.1 <|
  ltt (L42 ++ y50.1) fun L52 =>
  some ([], y50.2))) fun (y28 : NN × DD) =>
  app y28.1 <|
  ltt (L11 ++ y28.1) fun L30 =>
  some ([], y28.2))) fun (y22 : NN × DD) =>
  app y22.1 <|
  ltt (L11 ++ y22.1) fun L24 =>
  some ([], y22.2))) fun (y16 : NN × DD) =>
  app y16.1 <|
  ltt (L11 ++ y16.1) fun L18 =>
  some ([], y16.2)) else
  (some ([], y13.1))
set_option maxHeartbeats 4000000 in
set_option maxRecDepth 100000 in
noncomputable def FX0_writeHeader (G : GG) (M : DD) (a : Nat)  : Option (NN × DD) :=
  dr (xt G []) 9 ((M.2 a 3)) fun b2 =>
  dr (xt G []) 3 ((M.2 b2 1)) fun b3 =>
  dr (xt G []) 13 ((M.2 b3 0)) fun b4 =>
  chk (¬ (((0 : Int32)) < 0 ∨ (xt G []).2.2 b4 ≤ ((0 : Int32)).toNatClampNeg)) <|
  ltt (M.1 b4 ((0 : Int32)).toNatClampNeg) fun x5 =>
  dr (xt G []) 10 ((M.2 a 2)) fun b6 =>
  chk (okd (xt G []) ((M.2 b3 0)) = true) <|
  bnd (FX10_ue (xt G []) M b6 ((0 : Int32)) x5) fun y7 =>
  app y7.1 <|
  ltt ([] ++ y7.1) fun L10 =>
  chk (¬ (((1 : Int32)) < 0 ∨ (xt G L10).2.2 b4 ≤ ((1 : Int32)).toNatClampNeg)) <|
  ltt (y7.2.1 b4 ((1 : Int32)).toNatClampNeg) fun x13 =>
  dr (xt G L10) 10 ((y7.2.2 a 2)) fun b14 =>
  chk (okd (xt G L10) ((M.2 b3 0)) = true) <|
  bnd (FX10_ue (xt G L10) y7.2 b14 ((0 : Int32)) x13) fun y15 =>
  app y15.1 <|
  ltt (L10 ++ y15.1) fun L18 =>
  dr (xt G L18) 10 ((y15.2.2 a 2)) fun b21 =>
  chk (okd (xt G L18) ((M.2 b3 0)) = true) <|
  bnd (FX10_ue (xt G L18) y15.2 b21 ((0 : Int32)) ((0 : Int32))) fun y22 =>
  app y22.1 <|
  ltt (L18 ++ y22.1) fun L25 =>
  chk (¬ (((3 : Int32)) < 0 ∨ (xt G L25).2.2 b4 ≤ ((3 : Int32)).toNatClampNeg)) <|
  ltt (y22.2.1 b4 ((3 : Int32)).toNatClampNeg) fun x28 =>
  ltt (x28.toInt64) fun x29 =>
  dr (xt G L25) 10 ((y22.2.2 a 2)) fun b30 =>
  chk (okd (xt G L25) ((M.2 b3 0)) = true) <|
  bnd (FX10_code (xt G L25) y22.2 b30 ((0 : Int32)) x29 ((8 : Int32))) fun y31 =>
  app y31.1 <|
  ltt (L25 ++ y31.1) fun L34 =>
  dr (xt G L34) 9 ((y31.2.2 a 3)) fun b37 =>
  dr (xt G L34) 3 ((y31.2.2 b37 1)) fun b38 =>
  bnd (FX3_isOwn (xt G L34) y31.2 b38) fun y39 =>
  bnd (if y39.2 = ((0 : Int32)) then (some ([], y39.1)) else
  (chk (¬ (((4 : Int32)) < 0 ∨ (xt G L34).2.2 b4 ≤ ((4 : Int32)).toNatClampNeg)) <|
  ltt (y39.1.1 b4 ((4 : Int32)).toNatClampNeg) fun x204 =>
  dr (xt G L34) 10 ((y39.1.2 a 2)) fun b205 =>
  chk (okd (xt G L34) ((M.2 b3 0)) = true) <|
  bnd (FX10_ue (xt G L34) y39.1 b205 ((0 : Int32)) x204) fun y206 =>
  app y206.1 <|
  ltt (L34 ++ y206.1) fun L209 =>
  some ([], y206.2))) fun (y40 : NN × DD) =>
  app y40.1 <|
  ltt (L34 ++ y40.1) fun L42 =>
  dr (xt G L42) 13 ((y40.2.2 a 1)) fun b44 =>
  chk (¬ (((18 : Int32)) < 0 ∨ (xt G L42).2.2 b44 ≤ ((18 : Int32)).toNatClampNeg)) <|
  ltt (y40.2.1 b44 ((18 : Int32)).toNatClampNeg) fun x45 =>
  bnd (if x45 = ((0 : Int32)) then (chk (¬ (((5 : Int32)) < 0 ∨ (xt G L42).2.2 b4 ≤ ((5 : Int32)).toNatClampNeg)) <|
  ltt (y40.2.1 b4 ((5 : Int32)).toNatClampNeg) fun x193 =>
  ltt (x193.toInt64) fun x194 =>
  dr (xt G L42) 10 ((y40.2.2 a 2)) fun b195 =>
  chk (okd (xt G L42) ((M.2 b3 0)) = true) <|
  bnd (FX10_code (xt G L42) y40.2 b195 ((0 : Int32)) x194 ((8 : Int32))) fun y196 =>
  app y196.1 <|
  ltt (L42 ++ y196.1) fun L199 =>
  some ([], y196.2)) else
  (some ([], y40.2))) fun (y46 : NN × DD) =>
  app y46.1 <|
  ltt (L42 ++ y46.1) fun L48 =>
  chk (¬ (((1 : Int32)) < 0 ∨ (xt G L48).2.2 b4 ≤ ((1 : Int32)).toNatClampNeg)) <|
  ltt (y46.2.1 b4 ((1 : Int32)).toNatClampNeg) fun x50 =>
  bnd (if x50 = ((2 : Int32)) then (some ([], y46.2)) else
  (chk (okd (xt G L48) ((M.2 b3 0)) = true) <|
  bnd (FX0_writeLists (xt G L48) y46.2 a) fun y185 =>
  app y185.1 <|
  ltt (L48 ++ y185.1) fun L188 =>
  some ([], y185.2))) fun (y51 : NN × DD) =>
  app y51.1 <|
  ltt (L48 ++ y51.1) fun L53 =>
  chk (¬ (((1 : Int32)) < 0 ∨ (xt G L53).2.2 b4 ≤ ((1 : Int32)).toNatClampNeg)) <|
  ltt (y51.2.1 b4 ((1 : Int32)).toNatClampNeg) fun x55 =>
  bnd (if x55 = ((0 : Int32)) then (dr (xt G L53) 13 ((y51.2.2 a 1)) fun b169 =>
  chk (¬ (((20 : Int32)) < 0 ∨ (xt G L53).2.2 b169 ≤ ((20 : Int32)).toNatClampNeg)) <|
  ltt (y51.2.1 b169 ((20 : Int32)).toNatClampNeg) fun x170 =>
  bnd (if x170 = ((1 : Int32)) then (chk (okd (xt G L53) ((M.2 b3 0)) = true) <|
  bnd (FX0_writeWeights (xt G L53) y51.2 a) fun y177 =>
  app y177.1 <|
  ltt (L53 ++ y177.1) fun L180 =>
  some ([], y177.2)) else
  (some ([], y51.2))) fun (y171 : NN × DD) =>
  app y171.1 <|
  ltt (L53 ++ y171.1) fun L173 =>
  some ([], y171.2)) else
  (some ([], y51.2))) fun (y56 : NN × DD) =>
  app y56.1 <|
  ltt (L53 ++ y56.1) fun L58 =>
  chk (¬ (((11 : Int32)) < 0 ∨ (xt G L58).2.2 b4 ≤ ((11 : Int32)).toNatClampNeg)) <|
  ltt (y56.2.1 b4 ((11 : Int32)).toNatClampNeg) fun x60 =>
  bnd (if x60 = ((0 : Int32)) then (some ([], y56.2)) else
  (chk (okd (xt G L58) ((M.2 b3 0)) = true) <|
  bnd (FX0_flag (xt G L58) y56.2 a ((0 : Int32))) fun y161 =>
  app y161.1 <|
  ltt (L58 ++ y161.1) fun L164 =>
  some ([], y161.2))) fun (y61 : NN × DD) =>
  app y61.1 <|
  ltt (L58 ++ y61.1) fun L63 =>
  dr (xt G L63) 9 ((y61.2.2 a 3)) fun b65 =>
  dr (xt G L63) 3 ((y61.2.2 b65 1)) fun b66 =>
  bnd (FX3_isOwn (xt G L63) y61.2 b66) fun y67 =>
  bnd (if y67.2 = ((0 : Int32)) then (some ([], y67.1)) else
  (chk (okd (xt G L63) ((M.2 b3 0)) = true) <|
  bnd (FX0_flag (xt G L63) y67.1 a ((0 : Int32))) fun y153 =>
  app y153.1 <|
  ltt (L63 ++ y153.1) fun L156 =>
  some ([], y153.2))) fun (y68 : NN × DD) =>
  app y68.1 <|
  ltt (L63 ++ y68.1) fun L70 =>
  dr (xt G L70) 9 ((y68.2.2 a 3)) fun b72 =>
  dr (xt G L70) 13 ((y68.2.2 b72 2)) fun b73 =>
  chk (¬ (((1 : Int32)) < 0 ∨ (xt G L70).2.2 b73 ≤ ((1 : Int32)).toNatClampNeg)) <|
  ltt (y68.2.1 b73 ((1 : Int32)).toNatClampNeg) fun x74 =>
  bnd (if x74 = ((1 : Int32)) then (chk (¬ (((1 : Int32)) < 0 ∨ (xt G L70).2.2 b4 ≤ ((1 : Int32)).toNatClampNeg)) <|
  ltt (y68.2.1 b4 ((1 : Int32)).toNatClampNeg) fun x137 =>
  bnd (if x137 = ((2 : Int32)) then (some ([], y68.2)) else
  (dr (xt G L70) 10 ((y68.2.2 a 2)) fun b144 =>
  chk (okd (xt G L70) ((M.2 b3 0)) = true) <|
  bnd (FX10_ue (xt G L70) y68.2 b144 ((0 : Int32)) ((0 : Int32))) fun y145 =>
  app y145.1 <|
  ltt (L70 ++ y145.1) fun L148 =>
  some ([], y145.2))) fun (y138 : NN × DD) =>
  app y138.1 <|
  ltt (L70 ++ y138.1) fun L140 =>
  some ([], y138.2)) else
  (some ([], y68.2))) fun (y75 : NN × DD) =>
  app y75.1 <|
  ltt (L70 ++ y75.1) fun L77 =>
  chk (¬ (((12 : Int32)) < 0 ∨ (xt G L77).2.2 b4 ≤ ((12 : Int32)).toNatClampNeg)) <|
  ltt (y75.2.1 b4 ((12 : Int32)).toNatClampNeg) fun x79 =>
  dr (xt G L77) 13 ((y75.2.2 a 1)) fun b80 =>
  chk (¬ (((3 : Int32)) < 0 ∨ (xt G L77).2.2 b80 ≤ ((3 : Int32)).toNatClampNeg)) <|
  ltt (y75.2.1 b80 ((3 : Int32)).toNatClampNeg) fun x81 =>
  ltt ((x79 - x81)) fun x82 =>
  dr (xt G L77) 10 ((y75.2.2 a 2)) fun b83 =>
  chk (okd (xt G L77) ((M.2 b3 0)) = true) <|
  bnd (FX10_se (xt G L77) y75.2 b83 ((0 : Int32)) x82) fun y84 =>
  app y84.1 <|
  ltt (L77 ++ y84.1) fun L87 =>
  chk (¬ (((13 : Int32)) < 0 ∨ (xt G L87).2.2 b4 ≤ ((13 : Int32)).toNatClampNeg)) <|
  ltt (y84.2.1 b4 ((13 : Int32)).toNatClampNeg) fun x90 =>
  dr (xt G L87) 10 ((y84.2.2 a 2)) fun b91 =>
  chk (okd (xt G L87) ((M.2 b3 0)) = true) <|
  bnd (FX10_ue (xt G L87) y84.2 b91 ((0 : Int32)) x90) fun y92 =>
  app y92.1 <|
  ltt (L87 ++ y92.1) fun L95 =>
  chk (¬ (((13 : Int32)) < 0 ∨ (xt G L95).2.2 b4 ≤ ((13 : Int32)).toNatClampNeg)) <|
  ltt (y92.2.1 b4 ((13 : Int32)).toNatClampNeg) fun x98 =>
  bnd (if x98 = ((1 : Int32)) then (some ([], y92.2)) else
  (chk (¬ (((14 : Int32)) < 0 ∨ (xt G L95).2.2 b4 ≤ ((14 : Int32)).toNatClampNeg)) <|
  ltt (y92.2.1 b4 ((14 : Int32)).toNatClampNeg) fun x120 =>
  dr (xt G L95) 10 ((y92.2.2 a 2)) fun b121 =>
  chk (okd (xt G L95) ((M.2 b3 0)) = true) <|
  bnd (FX10_se (xt G L95) y92.2 b121 ((0 : Int32)) x120) fun y122 =>
  app y122.1 <|
  ltt (L95 ++ y122.1) fun L125 =>
  chk (¬ (((15 : Int32)) < 0 ∨ (xt G L125).2.2 b4 ≤ ((15 : Int32)).toNatClampNeg)) <|
  ltt (y122.2.1 b4 ((15 : Int32)).toNatClampNeg) fun x128 =>
  dr (xt G L125) 10 ((y122.2.2 a 2)) fun b129 =>
  bnd (FX10_se (xt G L125) y122.2 b129 ((0 : Int32)) x128) fun y130 =>
  app y130.1 <|
  ltt (L125 ++ y130.1) fun L132 =>
  some ([], y130.2))) fun (y99 : NN × DD) =>
  app y99.1 <|
  ltt (L95 ++ y99.1) fun L101 =>
  dr (xt G L101) 9 ((y99.2.2 a 3)) fun b103 =>
  dr (xt G L101) 13 ((y99.2.2 b103 2)) fun b104 =>
  chk (¬ (((1 : Int32)) < 0 ∨ (xt G L101).2.2 b104 ≤ ((1 : Int32)).toNatClampNeg)) <|
  ltt (y99.2.1 b104 ((1 : Int32)).toNatClampNeg) fun x105 =>
  bnd (if x105 = ((1 : Int32)) then (dr (xt G L101) 10 ((y99.2.2 a 2)) fun b112 =>
  bnd (FX10_beginData (xt G L101) y99.2 b112) fun y113 =>
  app y113.1 <|
  ltt (L101 ++ y113.1) fun L115 =>
  some ([], y113.2)) else
  (some ([], y99.2))) fun (y106 : NN × DD) =>
  app y106.1 <|
  ltt (L101 ++ y106.1) fun L108 =>
  some ([], y106.2)
set_option maxHeartbeats 4000000 in
set_option maxRecDepth 100000 in
noncomputable def FX0_writeParameters (G : GG) (M : DD) (a : Nat)  : Option (NN × DD) :=
  dr (xt G []) 10 ((M.2 a 2)) fun b2 =>
  bnd (FX10_beginUnit (xt G []) M b2 ((104 : Int32))) fun y3 =>
  dr (xt G []) 10 ((y3.2 a 2)) fun b4 =>
  bnd (FX10_ue (xt G []) y3 b4 ((0 : Int32)) ((0 : Int32))) fun y5 =>
  app y5.1 <|
  ltt ([] ++ y5.1) fun L7 =>
  dr (xt G L7) 10 ((y5.2.2 a 2)) fun b10 =>
  bnd (FX10_ue (xt G L7) y5.2 b10 ((0 : Int32)) ((0 : Int32))) fun y11 =>
  app y11.1 <|
  ltt (L7 ++ y11.1) fun L13 =>
  dr (xt G L13) 13 ((y11.2.2 a 1)) fun b16 =>
  chk (¬ (((2 : Int32)) < 0 ∨ (xt G L13).2.2 b16 ≤ ((2 : Int32)).toNatClampNeg)) <|
  ltt (y11.2.1 b16 ((2 : Int32)).toNatClampNeg) fun x17 =>
  bnd (FX0_flag (xt G L13) y11.2 a x17) fun y18 =>
  app y18.1 <|
  ltt (L13 ++ y18.1) fun L20 =>
  bnd (FX0_flag (xt G L20) y18.2 a ((0 : Int32))) fun y23 =>
  app y23.1 <|
  ltt (L20 ++ y23.1) fun L25 =>
  dr (xt G L25) 10 ((y23.2.2 a 2)) fun b28 =>
  bnd (FX10_ue (xt G L25) y23.2 b28 ((0 : Int32)) ((0 : Int32))) fun y29 =>
  app y29.1 <|
  ltt (L25 ++ y29.1) fun L31 =>
  dr (xt G L31) 13 ((y29.2.2 a 1)) fun b34 =>
  chk (¬ (((7 : Int32)) < 0 ∨ (xt G L31).2.2 b34 ≤ ((7 : Int32)).toNatClampNeg)) <|
  ltt (y29.2.1 b34 ((7 : Int32)).toNatClampNeg) fun x35 =>
  ltt ((x35 - ((1 : Int32)))) fun x36 =>
  dr (xt G L31) 10 ((y29.2.2 a 2)) fun b37 =>
  bnd (FX10_ue (xt G L31) y29.2 b37 ((0 : Int32)) x36) fun y38 =>
  app y38.1 <|
  ltt (L31 ++ y38.1) fun L40 =>
  dr (xt G L40) 10 ((y38.2.2 a 2)) fun b43 =>
  bnd (FX10_ue (xt G L40) y38.2 b43 ((0 : Int32)) ((0 : Int32))) fun y44 =>
  app y44.1 <|
  ltt (L40 ++ y44.1) fun L46 =>
  dr (xt G L46) 13 ((y44.2.2 a 1)) fun b49 =>
  chk (¬ (((20 : Int32)) < 0 ∨ (xt G L46).2.2 b49 ≤ ((20 : Int32)).toNatClampNeg)) <|
  ltt (y44.2.1 b49 ((20 : Int32)).toNatClampNeg) fun x50 =>
  bnd (FX0_flag (xt G L46) y44.2 a x50) fun y51 =>
  app y51.1 <|
  ltt (L46 ++ y51.1) fun L53 =>
  dr (xt G L53) 13 ((y51.2.2 a 1)) fun b56 =>
  chk (¬ (((21 : Int32)) < 0 ∨ (xt G L53).2.2 b56 ≤ ((21 : Int32)).toNatClampNeg)) <|
  ltt (y51.2.1 b56 ((21 : Int32)).toNatClampNeg) fun x57 =>
  ltt (x57.toInt64) fun x58 =>
  dr (xt G L53) 10 ((y51.2.2 a 2)) fun b59 =>
  bnd (FX10_code (xt G L53) y51.2 b59 ((0 : Int32)) x58 ((2 : Int32))) fun y60 =>
  app y60.1 <|
  ltt (L53 ++ y60.1) fun L62 =>
  dr (xt G L62) 13 ((y60.2.2 a 1)) fun b65 =>
  chk (¬ (((3 : Int32)) < 0 ∨ (xt G L62).2.2 b65 ≤ ((3 : Int32)).toNatClampNeg)) <|
  ltt (y60.2.1 b65 ((3 : Int32)).toNatClampNeg) fun x66 =>
  ltt ((x66 - ((26 : Int32)))) fun x67 =>
  dr (xt G L62) 10 ((y60.2.2 a 2)) fun b68 =>
  bnd (FX10_se (xt G L62) y60.2 b68 ((0 : Int32)) x67) fun y69 =>
  app y69.1 <|
  ltt (L62 ++ y69.1) fun L71 =>
  dr (xt G L71) 10 ((y69.2.2 a 2)) fun b74 =>
  bnd (FX10_se (xt G L71) y69.2 b74 ((0 : Int32)) ((0 : Int32))) fun y75 =>
  app y75.1 <|
  ltt (L71 ++ y75.1) fun L77 =>
  dr (xt G L77) 13 ((y75.2.2 a 1)) fun b80 =>
  chk (¬ (((23 : Int32)) < 0 ∨ (xt G L77).2.2 b80 ≤ ((23 : Int32)).toNatClampNeg)) <|
  ltt (y75.2.1 b80 ((23 : Int32)).toNatClampNeg) fun x81 =>
  dr (xt G L77) 10 ((y75.2.2 a 2)) fun b82 =>
  bnd (FX10_se (xt G L77) y75.2 b82 ((0 : Int32)) x81) fun y83 =>
  app y83.1 <|
  ltt (L77 ++ y83.1) fun L85 =>
  bnd (FX0_flag (xt G L85) y83.2 a ((1 : Int32))) fun y88 =>
  app y88.1 <|
  ltt (L85 ++ y88.1) fun L90 =>
  dr (xt G L90) 13 ((y88.2.2 a 1)) fun b93 =>
  chk (¬ (((19 : Int32)) < 0 ∨ (xt G L90).2.2 b93 ≤ ((19 : Int32)).toNatClampNeg)) <|
  ltt (y88.2.1 b93 ((19 : Int32)).toNatClampNeg) fun x94 =>
  bnd (FX0_flag (xt G L90) y88.2 a x94) fun y95 =>
  app y95.1 <|
  ltt (L90 ++ y95.1) fun L97 =>
  bnd (FX0_flag (xt G L97) y95.2 a ((0 : Int32))) fun y100 =>
  app y100.1 <|
  ltt (L97 ++ y100.1) fun L102 =>
  dr (xt G L102) 10 ((y100.2.2 a 2)) fun b105 =>
  bnd (FX10_endUnit (xt G L102) y100.2 b105 ((0 : Int32))) fun y106 =>
  app y106.1 <|
  ltt (L102 ++ y106.1) fun L108 =>
  some ([], y106.2)
set_option maxHeartbeats 4000000 in
set_option maxRecDepth 100000 in
noncomputable def FX0_writeSequence (G : GG) (M : DD) (a : Nat)  : Option (NN × DD) :=
  dr (xt G []) 10 ((M.2 a 2)) fun b2 =>
  bnd (FX10_beginUnit (xt G []) M b2 ((103 : Int32))) fun y3 =>
  dr (xt G []) 10 ((y3.2 a 2)) fun b4 =>
  bnd (FX10_code (xt G []) y3 b4 ((0 : Int32)) ((77 : Int64)) ((8 : Int32))) fun y5 =>
  app y5.1 <|
  ltt ([] ++ y5.1) fun L7 =>
  dr (xt G L7) 10 ((y5.2.2 a 2)) fun b10 =>
  bnd (FX10_code (xt G L7) y5.2 b10 ((0 : Int32)) ((0 : Int64)) ((8 : Int32))) fun y11 =>
  app y11.1 <|
  ltt (L7 ++ y11.1) fun L13 =>
  dr (xt G L13) 10 ((y11.2.2 a 2)) fun b16 =>
  bnd (FX10_code (xt G L13) y11.2 b16 ((0 : Int32)) ((40 : Int64)) ((8 : Int32))) fun y17 =>
  app y17.1 <|
  ltt (L13 ++ y17.1) fun L19 =>
  dr (xt G L19) 10 ((y17.2.2 a 2)) fun b22 =>
  bnd (FX10_ue (xt G L19) y17.2 b22 ((0 : Int32)) ((0 : Int32))) fun y23 =>
  app y23.1 <|
  ltt (L19 ++ y23.1) fun L25 =>
  dr (xt G L25) 10 ((y23.2.2 a 2)) fun b28 =>
  bnd (FX10_ue (xt G L25) y23.2 b28 ((0 : Int32)) ((4 : Int32))) fun y29 =>
  app y29.1 <|
  ltt (L25 ++ y29.1) fun L31 =>
  dr (xt G L31) 13 ((y29.2.2 a 1)) fun b34 =>
  chk (¬ (((18 : Int32)) < 0 ∨ (xt G L31).2.2 b34 ≤ ((18 : Int32)).toNatClampNeg)) <|
  ltt (y29.2.1 b34 ((18 : Int32)).toNatClampNeg) fun x35 =>
  dr (xt G L31) 10 ((y29.2.2 a 2)) fun b36 =>
  bnd (FX10_ue (xt G L31) y29.2 b36 ((0 : Int32)) x35) fun y37 =>
  app y37.1 <|
  ltt (L31 ++ y37.1) fun L39 =>
  dr (xt G L39) 13 ((y37.2.2 a 1)) fun b42 =>
  chk (¬ (((18 : Int32)) < 0 ∨ (xt G L39).2.2 b42 ≤ ((18 : Int32)).toNatClampNeg)) <|
  ltt (y37.2.1 b42 ((18 : Int32)).toNatClampNeg) fun x43 =>
  bnd (if x43 = ((0 : Int32)) then (dr (xt G L39) 10 ((y37.2.2 a 2)) fun b143 =>
  bnd (FX10_ue (xt G L39) y37.2 b143 ((0 : Int32)) ((4 : Int32))) fun y144 =>
  app y144.1 <|
  ltt (L39 ++ y144.1) fun L146 =>
  some ([], y144.2)) else
  (chk (¬ (((18 : Int32)) < 0 ∨ (xt G L39).2.2 b42 ≤ ((18 : Int32)).toNatClampNeg)) <|
  ltt (y37.2.1 b42 ((18 : Int32)).toNatClampNeg) fun x107 =>
  bnd (if x107 = ((1 : Int32)) then (bnd (FX0_flag (xt G L39) y37.2 a ((1 : Int32))) fun y114 =>
  app y114.1 <|
  ltt (L39 ++ y114.1) fun L116 =>
  dr (xt G L116) 10 ((y114.2.2 a 2)) fun b119 =>
  bnd (FX10_se (xt G L116) y114.2 b119 ((0 : Int32)) ((0 : Int32))) fun y120 =>
  app y120.1 <|
  ltt (L116 ++ y120.1) fun L122 =>
  dr (xt G L122) 10 ((y120.2.2 a 2)) fun b125 =>
  bnd (FX10_se (xt G L122) y120.2 b125 ((0 : Int32)) ((0 : Int32))) fun y126 =>
  app y126.1 <|
  ltt (L122 ++ y126.1) fun L128 =>
  dr (xt G L128) 10 ((y126.2.2 a 2)) fun b131 =>
  bnd (FX10_ue (xt G L128) y126.2 b131 ((0 : Int32)) ((1 : Int32))) fun y132 =>
  app y132.1 <|
  ltt (L128 ++ y132.1) fun L134 =>
  dr (xt G L134) 10 ((y132.2.2 a 2)) fun b137 =>
  bnd (FX10_se (xt G L134) y132.2 b137 ((0 : Int32)) ((2 : Int32))) fun y138 =>
  app y138.1 <|
  ltt (L134 ++ y138.1) fun L140 =>
  some ([], y138.2)) else
  (some ([], y37.2))) fun (y108 : NN × DD) =>
  app y108.1 <|
  ltt (L39 ++ y108.1) fun L110 =>
  some ([], y108.2))) fun (y44 : NN × DD) =>
  app y44.1 <|
  ltt (L39 ++ y44.1) fun L46 =>
  dr (xt G L46) 13 ((y44.2.2 a 1)) fun b48 =>
  chk (¬ (((7 : Int32)) < 0 ∨ (xt G L46).2.2 b48 ≤ ((7 : Int32)).toNatClampNeg)) <|
  ltt (y44.2.1 b48 ((7 : Int32)).toNatClampNeg) fun x49 =>
  dr (xt G L46) 10 ((y44.2.2 a 2)) fun b50 =>
  bnd (FX10_ue (xt G L46) y44.2 b50 ((0 : Int32)) x49) fun y51 =>
  app y51.1 <|
  ltt (L46 ++ y51.1) fun L53 =>
  bnd (FX0_flag (xt G L53) y51.2 a ((0 : Int32))) fun y56 =>
  app y56.1 <|
  ltt (L53 ++ y56.1) fun L58 =>
  dr (xt G L58) 13 ((y56.2.2 a 1)) fun b61 =>
  chk (¬ (((0 : Int32)) < 0 ∨ (xt G L58).2.2 b61 ≤ ((0 : Int32)).toNatClampNeg)) <|
  ltt (y56.2.1 b61 ((0 : Int32)).toNatClampNeg) fun x62 =>
  ltt ((x62 - ((1 : Int32)))) fun x63 =>
  dr (xt G L58) 10 ((y56.2.2 a 2)) fun b64 =>
  bnd (FX10_ue (xt G L58) y56.2 b64 ((0 : Int32)) x63) fun y65 =>
  app y65.1 <|
  ltt (L58 ++ y65.1) fun L67 =>
  dr (xt G L67) 13 ((y65.2.2 a 1)) fun b70 =>
  chk (¬ (((1 : Int32)) < 0 ∨ (xt G L67).2.2 b70 ≤ ((1 : Int32)).toNatClampNeg)) <|
  ltt (y65.2.1 b70 ((1 : Int32)).toNatClampNeg) fun x71 =>
  ltt ((x71 - ((1 : Int32)))) fun x72 =>
  dr (xt G L67) 10 ((y65.2.2 a 2)) fun b73 =>
  bnd (FX10_ue (xt G L67) y65.2 b73 ((0 : Int32)) x72) fun y74 =>
  app y74.1 <|
  ltt (L67 ++ y74.1) fun L76 =>
  bnd (FX0_flag (xt G L76) y74.2 a ((1 : Int32))) fun y79 =>
  app y79.1 <|
  ltt (L76 ++ y79.1) fun L81 =>
  bnd (FX0_flag (xt G L81) y79.2 a ((1 : Int32))) fun y84 =>
  app y84.1 <|
  ltt (L81 ++ y84.1) fun L86 =>
  bnd (FX0_flag (xt G L86) y84.2 a ((0 : Int32))) fun y89 =>
  app y89.1 <|
  ltt (L86 ++ y89.1) fun L91 =>
  bnd (FX0_flag (xt G L91) y89.2 a ((0 : Int32))) fun y94 =>
  app y94.1 <|
  ltt (L91 ++ y94.1) fun L96 =>
  dr (xt G L96) 10 ((y94.2.2 a 2)) fun b99 =>
  bnd (FX10_endUnit (xt G L96) y94.2 b99 ((0 : Int32))) fun y100 =>
  app y100.1 <|
  ltt (L96 ++ y100.1) fun L102 =>
  some ([], y100.2)
set_option maxHeartbeats 4000000 in
set_option maxRecDepth 100000 in
noncomputable def FX11_init (G : GG) (M : DD) (a : Nat)  : Option (NN × DD) :=
  chkP (Clo (xt G []) M) <|
  chk (¬ ((65536 : Int32)) < 0 ∧ ((65536 : Int32)).toNatClampNeg * 4 ≤ 536870912) <|
  ltt ((xt G []).1) fun c2 =>
  app [(12, ((65536 : Int32)).toNatClampNeg)] <|
  ltt ([] ++ [(12, ((65536 : Int32)).toNatClampNeg)]) fun L4 =>
  ltt (rO M c2) fun M5 =>
  ltt (uP M5 a 0 (some c2)) fun M8 =>
  chkP (Clo (xt G L4) M8) <|
  ltt ((xt G L4).1) fun c10 =>
  app [(8, 0)] <|
  ltt (L4 ++ [(8, 0)]) fun L12 =>
  ltt (rO M8 c10) fun M13 =>
  bnd (FX8_init (xt G L12) M13 c10) fun y16 =>
  app y16.1 <|
  ltt (L12 ++ y16.1) fun L18 =>
  ltt (uP y16.2 a 2 (some c10)) fun M21 =>
  chkP (Clo (xt G L18) M21) <|
  ltt ((xt G L18).1) fun c23 =>
  app [(1, 0)] <|
  ltt (L18 ++ [(1, 0)]) fun L25 =>
  ltt (rO M21 c23) fun M26 =>
  bnd (FX1_init (xt G L25) M26 c23) fun y29 =>
  app y29.1 <|
  ltt (L25 ++ y29.1) fun L31 =>
  ltt (uP y29.2 a 3 (some c23)) fun M34 =>
  chkP (Clo (xt G L31) M34) <|
  ltt ((xt G L31).1) fun c36 =>
  app [(0, 0)] <|
  ltt (L31 ++ [(0, 0)]) fun L38 =>
  ltt (rO M34 c36) fun M39 =>
  bnd (FX0_init (xt G L38) M39 c36) fun y42 =>
  app y42.1 <|
  ltt (L38 ++ y42.1) fun L44 =>
  ltt (uP y42.2 a 4 (some c36)) fun M47 =>
  some ([], M47)
set_option maxHeartbeats 4000000 in
set_option maxRecDepth 100000 in
def FX1_readBlock (G : GG) (M : DD) (a : Nat) (p0 : Int32) : Option (DD) :=
  ltt (uI M a 21 p0) fun M1 =>
  dr G 9 ((M1.2 a 2)) fun b2 =>
  ltt (uI M1 b2 14 ((0 : Int32))) fun M3 =>
  dr G 9 ((M3.2 a 2)) fun b4 =>
  ltt (uI M3 b4 16 ((0 : Int32))) fun M5 =>
  dr G 3 ((M5.2 a 11)) fun b6 =>
  dr G 13 ((M5.2 b6 0)) fun b7 =>
  chk (¬ (((1 : Int32)) < 0 ∨ G.2.2 b7 ≤ ((1 : Int32)).toNatClampNeg)) <|
  ltt (M5.1 b7 ((1 : Int32)).toNatClampNeg) fun x8 =>
  bnd (if x8 = ((2 : Int32)) then (some ((0 : Int32))) else
  (bnd (if x8 = ((0 : Int32)) then (some ((5 : Int32))) else
  (some ((23 : Int32)))) fun (y63 : Int32) =>
  some (y63))) fun (y9 : Int32) =>
  ltt ((((25 : Int32)) + y9)) fun x10 =>
  ltt (x10.toInt64) fun x11 =>
  dr G 5 ((M5.2 a 0)) fun b12 =>
  bnd (FX5_number G M5 b12 ((1 : Int32)) ((0 : Int32)) ((0 : Int64)) x11) fun y13 =>
  dr G 9 ((y13.1.2 a 2)) fun b14 =>
  ltt ((((8 : Int32)) * p0)) fun x15 =>
  ltt ((x15 + ((1 : Int32)))) fun x16 =>
  dr G 13 ((y13.1.2 b14 6)) fun b17 =>
  chk (¬ (x16 < 0 ∨ G.2.2 b17 ≤ x16.toNatClampNeg)) <|
  ltt (uI y13.1 b17 x16.toNatClampNeg y13.2) fun M18 =>
  ltt ((y9 + ((25 : Int32)))) fun x19 =>
  bnd (if y13.2 = x19 then (dr G 9 ((M18.2 a 2)) fun b57 =>
  ltt ((((8 : Int32)) * p0)) fun x58 =>
  ltt ((x58 + ((0 : Int32)))) fun x59 =>
  dr G 13 ((M18.2 b57 6)) fun b60 =>
  chk (¬ (x59 < 0 ∨ G.2.2 b60 ≤ x59.toNatClampNeg)) <|
  ltt (uI M18 b60 x59.toNatClampNeg ((2 : Int32))) fun M61 =>
  some (M61)) else
  (bnd (if y13.2 ≤ y9 then (bnd (if y13.2 = y9 then (bnd (FX1_readFour G M18 a p0) fun y53 =>
  some (y53)) else
  (dr G 9 ((M18.2 a 2)) fun b26 =>
  ltt ((((8 : Int32)) * p0)) fun x27 =>
  ltt ((x27 + ((0 : Int32)))) fun x28 =>
  dr G 13 ((M18.2 b26 6)) fun b29 =>
  chk (¬ (x28 < 0 ∨ G.2.2 b29 ≤ x28.toNatClampNeg)) <|
  ltt (uI M18 b29 x28.toNatClampNeg ((3 : Int32))) fun M30 =>
  bnd (if x8 = ((1 : Int32)) then (bnd (if y13.2 = ((0 : Int32)) then (some ((15 : Int32))) else
  (some ((0 : Int32)))) fun (y51 : Int32) =>
  some (y51)) else
  (some ((0 : Int32)))) fun (y31 : Int32) =>
  bnd (if x8 = ((1 : Int32)) then (bnd (if y13.2 = ((22 : Int32)) then (bnd (FX1_readSubs G M30 a x8 y13.2) fun y49 =>
  some (y49.2, y49.1)) else
  (some (y31, M30))) fun (y47 : Int32 × DD) =>
  some (y47.1, y47.2)) else
  (bnd (if y13.2 ≤ ((2 : Int32)) then (some (y31, M30)) else
  (bnd (FX1_readSubs G M30 a x8 y13.2) fun y46 =>
  some (y46.2, y46.1))) fun (y44 : Int32 × DD) =>
  some (y44.1, y44.2))) fun (y32 : Int32 × DD) =>
  bnd (if y32.1 = ((0 : Int32)) then (some (y32.2)) else
  (dr G 9 ((y32.2.2 a 2)) fun b39 =>
  bnd (FX9_direct G y32.2 b39 p0 y32.1) fun y40 =>
  bnd (if y40.2 = ((0 : Int32)) then (none) else
  (some (y40.1))) fun (y41 : DD) =>
  some (y41))) fun (y33 : DD) =>
  bnd (if y32.1 = ((15 : Int32)) then (some (y33)) else
  (dr G 9 ((y33.2 a 2)) fun b36 =>
  bnd (FX9_plan G y33 b36 x8 y13.2) fun y37 =>
  some (y37))) fun (y34 : DD) =>
  some (y34))) fun (y24 : DD) =>
  some (y24)) else
  (ltt ((y13.2 - y9)) fun x54 =>
  ltt ((x54 - ((1 : Int32)))) fun x55 =>
  bnd (FX1_readSixteen G M18 a p0 x55) fun y56 =>
  some (y56))) fun (y22 : DD) =>
  some (y22))) fun (y20 : DD) =>
  some y20
set_option maxHeartbeats 4000000 in
set_option maxRecDepth 100000 in
def FX1_readLevels (G : GG) (M : DD) (a : Nat) (p0 : Int32) : Option (DD) :=
  ltt ((((8 : Int32)) * p0)) fun x1 =>
  dr G 9 ((M.2 a 2)) fun b2 =>
  ltt ((x1 + ((0 : Int32)))) fun x3 =>
  dr G 13 ((M.2 b2 6)) fun b4 =>
  chk (¬ (x3 < 0 ∨ G.2.2 b4 ≤ x3.toNatClampNeg)) <|
  ltt (M.1 b4 x3.toNatClampNeg) fun x5 =>
  bnd (if x5 = ((1 : Int32)) then (some ((1 : Int32))) else
  (some ((0 : Int32)))) fun (y6 : Int32) =>
  bnd (if y6 = ((0 : Int32)) then (some (M)) else
  (bnd (FX9_tokenTable G M b2 p0 ((0 : Int32))) fun y69 =>
  bnd (FX9_levelAt G y69.1 p0 ((16 : Int32))) fun y70 =>
  dr G 5 ((M.2 a 0)) fun b71 =>
  bnd (FX5_levels G y70.1 b71 y69.2 ((16 : Int32)) ((M.2 b2 9)) y70.2) fun y72 =>
  some (y72.1))) fun (y7 : DD) =>
  bnd (itr (fun (s9 : Int32 × DD) => ((if ((16 : Int32)) ≤ s9.1 then (some (.inr (s9.1, s9.2))) else
  (dr G 9 ((s9.2.2 a 2)) fun b48 =>
  ltt ((x1 + ((3 : Int32)))) fun x49 =>
  dr G 13 ((s9.2.2 b48 6)) fun b50 =>
  chk (¬ (x49 < 0 ∨ G.2.2 b50 ≤ x49.toNatClampNeg)) <|
  ltt (s9.2.1 b50 x49.toNatClampNeg) fun x51 =>
  ltt (s9.1 / ((4 : Int32))) fun x52 =>
  ltt ((x51 >>> (x52 &&& 31))) fun x53 =>
  ltt ((x53 &&& ((1 : Int32)))) fun x54 =>
  bnd (if x54 = ((1 : Int32)) then (ltt ((((24 : Int32)) * p0)) fun x58 =>
  ltt ((x58 + s9.1)) fun x59 =>
  bnd (FX9_tokenTable G s9.2 b48 p0 s9.1) fun y60 =>
  bnd (if y6 = ((0 : Int32)) then (some ((16 : Int32))) else
  (some ((15 : Int32)))) fun (y61 : Int32) =>
  bnd (FX9_levelAt G y60.1 p0 s9.1) fun y62 =>
  dr G 5 ((s9.2.2 a 0)) fun b63 =>
  bnd (FX5_levels G y62.1 b63 y60.2 y61 ((M.2 b2 9)) y62.2) fun y64 =>
  dr G 13 ((s9.2.2 b48 8)) fun b65 =>
  chk (¬ (x59 < 0 ∨ G.2.2 b65 ≤ x59.toNatClampNeg)) <|
  ltt (uI y64.1 b65 x59.toNatClampNeg y64.2) fun M66 =>
  some (M66)) else
  (some (s9.2))) fun (y55 : DD) =>
  ltt (s9.1 + (1 : Int32)) fun x56 =>
  some (.inl (x56, y55)))) : Option ((Int32 × DD) ⊕ (Int32 × DD)))) 1000000 ((0 : Int32), y7)) fun (y8 : Int32 × DD) =>
  bnd (itr (fun (s12 : Int32 × DD) => ((if ((3 : Int32)) ≤ s12.1 then (some (.inr (s12.1, s12.2))) else
  (dr G 9 ((s12.2.2 a 2)) fun b36 =>
  ltt ((x1 + ((4 : Int32)))) fun x37 =>
  dr G 13 ((s12.2.2 b36 6)) fun b38 =>
  chk (¬ (x37 < 0 ∨ G.2.2 b38 ≤ x37.toNatClampNeg)) <|
  ltt (s12.2.1 b38 x37.toNatClampNeg) fun x39 =>
  if x39 ≤ ((0 : Int32)) then (some (.inr (s12.1, s12.2))) else
  (ltt ((((16 : Int32)) + s12.1)) fun x41 =>
  bnd (FX9_levelAt G s12.2 p0 x41) fun y42 =>
  dr G 5 ((s12.2.2 a 0)) fun b43 =>
  bnd (FX5_levels G y42.1 b43 ((4 : Int32)) ((4 : Int32)) ((M.2 b2 9)) y42.2) fun y44 =>
  ltt (s12.1 + (1 : Int32)) fun x45 =>
  some (.inl (x45, y44.1))))) : Option ((Int32 × DD) ⊕ (Int32 × DD)))) 1000000 ((1 : Int32), y8.2)) fun (y11 : Int32 × DD) =>
  bnd (itr (fun (s15 : Int32 × DD) => ((if ((24 : Int32)) ≤ s15.1 then (some (.inr (s15.1, s15.2))) else
  (dr G 9 ((s15.2.2 a 2)) fun b19 =>
  ltt ((x1 + ((4 : Int32)))) fun x20 =>
  dr G 13 ((s15.2.2 b19 6)) fun b21 =>
  chk (¬ (x20 < 0 ∨ G.2.2 b21 ≤ x20.toNatClampNeg)) <|
  ltt (s15.2.1 b21 x20.toNatClampNeg) fun x22 =>
  if x22 = ((2 : Int32)) then (ltt ((((24 : Int32)) * p0)) fun x24 =>
  ltt ((x24 + s15.1)) fun x25 =>
  bnd (FX9_tokenTable G s15.2 b19 p0 s15.1) fun y26 =>
  ltt ((((3 : Int32)) + s15.1)) fun x27 =>
  bnd (FX9_levelAt G y26.1 p0 x27) fun y28 =>
  dr G 5 ((s15.2.2 a 0)) fun b29 =>
  bnd (FX5_levels G y28.1 b29 y26.2 ((15 : Int32)) ((M.2 b2 9)) y28.2) fun y30 =>
  dr G 13 ((s15.2.2 b19 8)) fun b31 =>
  chk (¬ (x25 < 0 ∨ G.2.2 b31 ≤ x25.toNatClampNeg)) <|
  ltt (uI y30.1 b31 x25.toNatClampNeg y30.2) fun M32 =>
  ltt (s15.1 + (1 : Int32)) fun x33 =>
  some (.inl (x33, M32))) else
  (some (.inr (s15.1, s15.2))))) : Option ((Int32 × DD) ⊕ (Int32 × DD)))) 1000000 ((16 : Int32), y11.2)) fun (y14 : Int32 × DD) =>
  some y14.2
set_option maxHeartbeats 4000000 in
set_option maxRecDepth 100000 in
def FX1_readMarks (G : GG) (M : DD) (a : Nat) (p0 : Int32) : Option (DD) :=
  dr G 3 ((M.2 a 10)) fun b2 =>
  if p0 = ((5 : Int32)) then (dr G 5 ((M.2 a 0)) fun b57 =>
  bnd (FX5_fixed G M b57 ((0 : Int32)) ((1 : Int32))) fun y58 =>
  dr G 13 ((M.2 b2 0)) fun b59 =>
  chk (¬ (((19 : Int32)) < 0 ∨ G.2.2 b59 ≤ ((19 : Int32)).toNatClampNeg)) <|
  ltt (uI y58.1 b59 ((19 : Int32)).toNatClampNeg y58.2) fun M60 =>
  dr G 5 ((M60.2 a 0)) fun b61 =>
  bnd (FX5_fixed G M60 b61 ((0 : Int32)) ((1 : Int32))) fun y62 =>
  chk (¬ (((20 : Int32)) < 0 ∨ G.2.2 b59 ≤ ((20 : Int32)).toNatClampNeg)) <|
  ltt (uI y62.1 b59 ((20 : Int32)).toNatClampNeg y62.2) fun M63 =>
  some M63) else
  (dr G 5 ((M.2 a 0)) fun b4 =>
  bnd (FX5_fixed G M b4 ((0 : Int32)) ((1 : Int32))) fun y5 =>
  if y5.2 = ((0 : Int32)) then (some y5.1) else
  (bnd (itr (fun (s8 : Int32 × DD) => ((if ((12 : Int32)) < s8.1 then (some (.inr (.inl (s8.1, s8.2)))) else
  (bnd (FX1_unsigned G s8.2 a ((6 : Int32))) fun y12 =>
  if y12.2 = ((0 : Int32)) then (some (.inr (.inr y12.1))) else
  (bnd (if s8.1 = ((12 : Int32)) then (dr G 5 ((y12.1.2 a 0)) fun b55 =>
  ltt (y12.1.1 b55 4) fun x56 =>
  none) else
  (some (y12.1))) fun (y14 : DD) =>
  dr G 3 ((y14.2 a 10)) fun b15 =>
  ltt ((((3 : Int32)) * s8.1)) fun x16 =>
  dr G 13 ((y14.2 b15 2)) fun b17 =>
  chk (¬ (x16 < 0 ∨ G.2.2 b17 ≤ x16.toNatClampNeg)) <|
  ltt (uI y14 b17 x16.toNatClampNeg y12.2) fun M18 =>
  dr G 3 ((M18.2 a 10)) fun b19 =>
  ltt ((((3 : Int32)) * s8.1)) fun x20 =>
  ltt ((x20 + ((1 : Int32)))) fun x21 =>
  dr G 13 ((M18.2 b19 2)) fun b22 =>
  chk (¬ (x21 < 0 ∨ G.2.2 b22 ≤ x21.toNatClampNeg)) <|
  ltt (uI M18 b22 x21.toNatClampNeg ((0 : Int32))) fun M23 =>
  dr G 3 ((M23.2 a 10)) fun b24 =>
  ltt ((((3 : Int32)) * s8.1)) fun x25 =>
  ltt ((x25 + ((2 : Int32)))) fun x26 =>
  dr G 13 ((M23.2 b24 2)) fun b27 =>
  chk (¬ (x26 < 0 ∨ G.2.2 b27 ≤ x26.toNatClampNeg)) <|
  ltt (uI M23 b27 x26.toNatClampNeg ((0 : Int32))) fun M28 =>
  bnd (if y12.2 = ((5 : Int32)) then (some (M28)) else
  (dr G 3 ((M28.2 a 10)) fun b43 =>
  ltt ((((3 : Int32)) * s8.1)) fun x44 =>
  ltt ((x44 + ((1 : Int32)))) fun x45 =>
  ltt (y12.2 - y12.2 / ((2 : Int32)) * ((2 : Int32))) fun x46 =>
  bnd (if x46 = ((1 : Int32)) then (some ((65535 : Int32))) else
  (bnd (if y12.2 = ((4 : Int32)) then (some ((4 : Int32))) else
  (some ((3 : Int32)))) fun (y52 : Int32) =>
  some (y52))) fun (y47 : Int32) =>
  bnd (FX1_unsigned G M28 a y47) fun y48 =>
  dr G 13 ((M28.2 b43 2)) fun b49 =>
  chk (¬ (x45 < 0 ∨ G.2.2 b49 ≤ x45.toNatClampNeg)) <|
  ltt (uI y48.1 b49 x45.toNatClampNeg y48.2) fun M50 =>
  some (M50))) fun (y29 : DD) =>
  bnd (if y12.2 = ((3 : Int32)) then (dr G 3 ((y29.2 a 10)) fun b36 =>
  ltt ((((3 : Int32)) * s8.1)) fun x37 =>
  ltt ((x37 + ((2 : Int32)))) fun x38 =>
  bnd (FX1_unsigned G y29 a ((3 : Int32))) fun y39 =>
  dr G 13 ((y29.2 b36 2)) fun b40 =>
  chk (¬ (x38 < 0 ∨ G.2.2 b40 ≤ x38.toNatClampNeg)) <|
  ltt (uI y39.1 b40 x38.toNatClampNeg y39.2) fun M41 =>
  some (M41)) else
  (some (y29))) fun (y30 : DD) =>
  ltt ((s8.1 + ((1 : Int32)))) fun x31 =>
  dr G 13 ((M.2 b2 0)) fun b32 =>
  chk (¬ (((24 : Int32)) < 0 ∨ G.2.2 b32 ≤ ((24 : Int32)).toNatClampNeg)) <|
  ltt (uI y30 b32 ((24 : Int32)).toNatClampNeg x31) fun M33 =>
  ltt (s8.1 + (1 : Int32)) fun x34 =>
  some (.inl (x34, M33))))) : Option ((Int32 × DD) ⊕ ((Int32 × DD) ⊕ (DD))))) 1000000 ((0 : Int32), y5.1)) fun (y7 : (Int32 × DD) ⊕ (DD)) =>
  sel y7 (fun (z7k : Int32 × DD) =>
  some z7k.2) fun r9 => some r9))
set_option maxHeartbeats 4000000 in
set_option maxRecDepth 100000 in
def FX1_readMoves (G : GG) (M : DD) (a : Nat) (p0 : Int32) (p1 : Int32) : Option (DD) :=
  dr G 5 ((M.2 a 0)) fun b2 =>
  bnd (FX5_fixed G M b2 ((0 : Int32)) ((1 : Int32))) fun y3 =>
  if y3.2 = ((0 : Int32)) then (some y3.1) else
  (bnd (itr (fun (s6 : Int32 × DD) => ((if ((8 : Int32)) < s6.1 then (some (.inr (.inl (s6.1, s6.2)))) else
  (bnd (FX1_unsigned G s6.2 a ((3 : Int32))) fun y10 =>
  if y10.2 = ((3 : Int32)) then (some (.inr (.inr y10.1))) else
  (bnd (if s6.1 = ((8 : Int32)) then (dr G 5 ((y10.1.2 a 0)) fun b34 =>
  ltt (y10.1.1 b34 4) fun x35 =>
  none) else
  (some (y10.1))) fun (y12 : DD) =>
  ltt ((((8 : Int32)) * p0)) fun x13 =>
  ltt ((x13 + s6.1)) fun x14 =>
  ltt ((((2 : Int32)) * x14)) fun x15 =>
  dr G 3 ((y12.2 a 10)) fun b16 =>
  dr G 13 ((y12.2 b16 1)) fun b17 =>
  chk (¬ (x15 < 0 ∨ G.2.2 b17 ≤ x15.toNatClampNeg)) <|
  ltt (uI y12 b17 x15.toNatClampNeg y10.2) fun M18 =>
  dr G 3 ((M18.2 a 10)) fun b19 =>
  ltt ((x15 + ((1 : Int32)))) fun x20 =>
  bnd (if y10.2 = ((2 : Int32)) then (some ((3 : Int32))) else
  (ltt ((p1 - ((1 : Int32)))) fun x32 =>
  some (x32))) fun (y21 : Int32) =>
  bnd (FX1_unsigned G M18 a y21) fun y22 =>
  dr G 13 ((M18.2 b19 1)) fun b23 =>
  chk (¬ (x20 < 0 ∨ G.2.2 b23 ≤ x20.toNatClampNeg)) <|
  ltt (uI y22.1 b23 x20.toNatClampNeg y22.2) fun M24 =>
  dr G 3 ((M24.2 a 10)) fun b25 =>
  ltt ((((25 : Int32)) + p0)) fun x26 =>
  ltt ((s6.1 + ((1 : Int32)))) fun x27 =>
  dr G 13 ((M24.2 b25 0)) fun b28 =>
  chk (¬ (x26 < 0 ∨ G.2.2 b28 ≤ x26.toNatClampNeg)) <|
  ltt (uI M24 b28 x26.toNatClampNeg x27) fun M29 =>
  ltt (s6.1 + (1 : Int32)) fun x30 =>
  some (.inl (x30, M29))))) : Option ((Int32 × DD) ⊕ ((Int32 × DD) ⊕ (DD))))) 1000000 ((0 : Int32), y3.1)) fun (y5 : (Int32 × DD) ⊕ (DD)) =>
  sel y5 (fun (z5k : Int32 × DD) =>
  some z5k.2) fun r9 => some r9)
set_option maxHeartbeats 4000000 in
set_option maxRecDepth 100000 in
def FX1_readOrder (G : GG) (M : DD) (a : Nat) (p0 : Option Nat) (p1 : Option Nat) : Option (DD) :=
  dr G 3 ((M.2 a 10)) fun b2 =>
  dr G 13 p0 fun b3 =>
  chk (¬ (((3 : Int32)) < 0 ∨ G.2.2 b3 ≤ ((3 : Int32)).toNatClampNeg)) <|
  ltt (M.1 b3 ((3 : Int32)).toNatClampNeg) fun x4 =>
  bnd (if x4 = ((0 : Int32)) then (chk (¬ (((4 : Int32)) < 0 ∨ G.2.2 b3 ≤ ((4 : Int32)).toNatClampNeg)) <|
  ltt (M.1 b3 ((4 : Int32)).toNatClampNeg) fun x22 =>
  dr G 5 ((M.2 a 0)) fun b23 =>
  bnd (FX5_fixed G M b23 ((0 : Int32)) x22) fun y24 =>
  dr G 13 ((M.2 b2 0)) fun b25 =>
  chk (¬ (((5 : Int32)) < 0 ∨ G.2.2 b25 ≤ ((5 : Int32)).toNatClampNeg)) <|
  ltt (uI y24.1 b25 ((5 : Int32)).toNatClampNeg y24.2) fun M26 =>
  dr G 13 p1 fun b27 =>
  chk (¬ (((2 : Int32)) < 0 ∨ G.2.2 b27 ≤ ((2 : Int32)).toNatClampNeg)) <|
  ltt (M26.1 b27 ((2 : Int32)).toNatClampNeg) fun x28 =>
  bnd (if x28 = ((1 : Int32)) then (bnd (FX1_signed G M26 a ((-32768 : Int32)) ((32767 : Int32))) fun y31 =>
  chk (¬ (((6 : Int32)) < 0 ∨ G.2.2 b25 ≤ ((6 : Int32)).toNatClampNeg)) <|
  ltt (uI y31.1 b25 ((6 : Int32)).toNatClampNeg y31.2) fun M32 =>
  some (M32)) else
  (some (M26))) fun (y29 : DD) =>
  some (y29)) else
  (chk (¬ (((3 : Int32)) < 0 ∨ G.2.2 b3 ≤ ((3 : Int32)).toNatClampNeg)) <|
  ltt (M.1 b3 ((3 : Int32)).toNatClampNeg) fun x7 =>
  bnd (if x7 = ((1 : Int32)) then (chk (¬ (((11 : Int32)) < 0 ∨ G.2.2 b3 ≤ ((11 : Int32)).toNatClampNeg)) <|
  ltt (M.1 b3 ((11 : Int32)).toNatClampNeg) fun x10 =>
  bnd (if x10 = ((0 : Int32)) then (bnd (FX1_signed G M a ((-32768 : Int32)) ((32767 : Int32))) fun y13 =>
  dr G 13 ((M.2 b2 0)) fun b14 =>
  chk (¬ (((6 : Int32)) < 0 ∨ G.2.2 b14 ≤ ((6 : Int32)).toNatClampNeg)) <|
  ltt (uI y13.1 b14 ((6 : Int32)).toNatClampNeg y13.2) fun M15 =>
  dr G 13 p1 fun b16 =>
  chk (¬ (((2 : Int32)) < 0 ∨ G.2.2 b16 ≤ ((2 : Int32)).toNatClampNeg)) <|
  ltt (M15.1 b16 ((2 : Int32)).toNatClampNeg) fun x17 =>
  bnd (if x17 = ((1 : Int32)) then (bnd (FX1_signed G M15 a ((-32768 : Int32)) ((32767 : Int32))) fun y20 =>
  chk (¬ (((7 : Int32)) < 0 ∨ G.2.2 b14 ≤ ((7 : Int32)).toNatClampNeg)) <|
  ltt (uI y20.1 b14 ((7 : Int32)).toNatClampNeg y20.2) fun M21 =>
  some (M21)) else
  (some (M15))) fun (y18 : DD) =>
  some (y18)) else
  (some (M))) fun (y11 : DD) =>
  some (y11)) else
  (some (M))) fun (y8 : DD) =>
  some (y8))) fun (y5 : DD) =>
  some y5
set_option maxHeartbeats 4000000 in
set_option maxRecDepth 100000 in
def FX1_readParameters (G : GG) (M : DD) (a : Nat)  : Option (DD) :=
  bnd (FJ7_fill_53178 G M ((M.2 a 9)) ((0 : Int32))) fun y1 =>
  bnd (FX1_unsigned G y1 a ((3 : Int32))) fun y2 =>
  bnd (FX1_unsigned G y2.1 a ((3 : Int32))) fun y3 =>
  dr G 13 ((M.2 a 9)) fun b4 =>
  chk (¬ (((0 : Int32)) < 0 ∨ G.2.2 b4 ≤ ((0 : Int32)).toNatClampNeg)) <|
  ltt (uI y3.1 b4 ((0 : Int32)).toNatClampNeg y3.2) fun M5 =>
  dr G 5 ((M5.2 a 0)) fun b6 =>
  bnd (FX5_fixed G M5 b6 ((0 : Int32)) ((1 : Int32))) fun y7 =>
  chk (¬ (((1 : Int32)) < 0 ∨ G.2.2 b4 ≤ ((1 : Int32)).toNatClampNeg)) <|
  ltt (uI y7.1 b4 ((1 : Int32)).toNatClampNeg y7.2) fun M8 =>
  dr G 5 ((M8.2 a 0)) fun b9 =>
  bnd (FX5_fixed G M8 b9 ((0 : Int32)) ((1 : Int32))) fun y10 =>
  chk (¬ (((2 : Int32)) < 0 ∨ G.2.2 b4 ≤ ((2 : Int32)).toNatClampNeg)) <|
  ltt (uI y10.1 b4 ((2 : Int32)).toNatClampNeg y10.2) fun M11 =>
  bnd (FX1_unsigned G M11 a ((0 : Int32))) fun y12 =>
  bnd (FX1_unsigned G y12.1 a ((7 : Int32))) fun y13 =>
  ltt ((y13.2 + ((1 : Int32)))) fun x14 =>
  chk (¬ (((3 : Int32)) < 0 ∨ G.2.2 b4 ≤ ((3 : Int32)).toNatClampNeg)) <|
  ltt (uI y13.1 b4 ((3 : Int32)).toNatClampNeg x14) fun M15 =>
  bnd (FX1_unsigned G M15 a ((7 : Int32))) fun y16 =>
  ltt ((y16.2 + ((1 : Int32)))) fun x17 =>
  chk (¬ (((4 : Int32)) < 0 ∨ G.2.2 b4 ≤ ((4 : Int32)).toNatClampNeg)) <|
  ltt (uI y16.1 b4 ((4 : Int32)).toNatClampNeg x17) fun M18 =>
  dr G 5 ((M18.2 a 0)) fun b19 =>
  bnd (FX5_fixed G M18 b19 ((0 : Int32)) ((1 : Int32))) fun y20 =>
  chk (¬ (((5 : Int32)) < 0 ∨ G.2.2 b4 ≤ ((5 : Int32)).toNatClampNeg)) <|
  ltt (uI y20.1 b4 ((5 : Int32)).toNatClampNeg y20.2) fun M21 =>
  dr G 5 ((M21.2 a 0)) fun b22 =>
  bnd (FX5_fixed G M21 b22 ((0 : Int32)) ((2 : Int32))) fun y23 =>
  chk (¬ (((6 : Int32)) < 0 ∨ G.2.2 b4 ≤ ((6 : Int32)).toNatClampNeg)) <|
  ltt (uI y23.1 b4 ((6 : Int32)).toNatClampNeg y23.2) fun M24 =>
  chk (¬ (((6 : Int32)) < 0 ∨ G.2.2 b4 ≤ ((6 : Int32)).toNatClampNeg)) <|
  ltt (M24.1 b4 ((6 : Int32)).toNatClampNeg) fun x25 =>
  bnd (if x25 ≤ ((2 : Int32)) then (some (M24)) else
  (dr G 5 ((M24.2 a 0)) fun b45 =>
  ltt (M24.1 b45 4) fun x46 =>
  none)) fun (y26 : DD) =>
  bnd (FX1_signed G y26 a ((-26 : Int32)) ((25 : Int32))) fun y27 =>
  chk (¬ (((7 : Int32)) < 0 ∨ G.2.2 b4 ≤ ((7 : Int32)).toNatClampNeg)) <|
  ltt (uI y27.1 b4 ((7 : Int32)).toNatClampNeg y27.2) fun M28 =>
  bnd (FX1_signed G M28 a ((-26 : Int32)) ((25 : Int32))) fun y29 =>
  bnd (FX1_signed G y29.1 a ((-12 : Int32)) ((12 : Int32))) fun y30 =>
  chk (¬ (((8 : Int32)) < 0 ∨ G.2.2 b4 ≤ ((8 : Int32)).toNatClampNeg)) <|
  ltt (uI y30.1 b4 ((8 : Int32)).toNatClampNeg y30.2) fun M31 =>
  dr G 5 ((M31.2 a 0)) fun b32 =>
  bnd (FX5_fixed G M31 b32 ((0 : Int32)) ((1 : Int32))) fun y33 =>
  chk (¬ (((9 : Int32)) < 0 ∨ G.2.2 b4 ≤ ((9 : Int32)).toNatClampNeg)) <|
  ltt (uI y33.1 b4 ((9 : Int32)).toNatClampNeg y33.2) fun M34 =>
  dr G 5 ((M34.2 a 0)) fun b35 =>
  bnd (FX5_fixed G M34 b35 ((0 : Int32)) ((1 : Int32))) fun y36 =>
  chk (¬ (((10 : Int32)) < 0 ∨ G.2.2 b4 ≤ ((10 : Int32)).toNatClampNeg)) <|
  ltt (uI y36.1 b4 ((10 : Int32)).toNatClampNeg y36.2) fun M37 =>
  dr G 5 ((M37.2 a 0)) fun b38 =>
  bnd (FX5_expect G M37 b38 ((0 : Int32))) fun y39 =>
  chk (¬ (((11 : Int32)) < 0 ∨ G.2.2 b4 ≤ ((11 : Int32)).toNatClampNeg)) <|
  ltt (uI y39 b4 ((11 : Int32)).toNatClampNeg ((1 : Int32))) fun M40 =>
  dr G 15 ((M40.2 a 6)) fun b41 =>
  chk (¬ (y2.2 < 0 ∨ G.2.2 b41 ≤ y2.2.toNatClampNeg)) <|
  dr G 13 ((M40.2 b41 y2.2.toNatClampNeg)) fun b42 =>
  chk (¬ ((0 : Int32)) < 0 ∧ ¬ ((0 : Int32)) < 0 ∧ ¬ ((12 : Int32)) < 0 ∧ ((0 : Int32)).toNatClampNeg + ((12 : Int32)).toNatClampNeg ≤ G.2.2 b4 ∧ ((0 : Int32)).toNatClampNeg + ((12 : Int32)).toNatClampNeg ≤ G.2.2 b42) <|
  ltt (rI M40 b42 (va_cpy (M40.1 b4) (M40.1 b42) ((0 : Int32)).toNatClampNeg ((0 : Int32)).toNatClampNeg ((12 : Int32)).toNatClampNeg)) fun M43 =>
  some M43
set_option maxHeartbeats 4000000 in
set_option maxRecDepth 100000 in
def FX1_readRules (G : GG) (M : DD) (a : Nat) (p0 : Option Nat) : Option (DD) :=
  dr G 3 ((M.2 a 10)) fun b2 =>
  dr G 13 p0 fun b3 =>
  chk (¬ (((1 : Int32)) < 0 ∨ G.2.2 b3 ≤ ((1 : Int32)).toNatClampNeg)) <|
  ltt (M.1 b3 ((1 : Int32)).toNatClampNeg) fun x4 =>
  bnd (if x4 = ((1 : Int32)) then (dr G 13 ((M.2 b2 0)) fun b37 =>
  chk (¬ (((1 : Int32)) < 0 ∨ G.2.2 b37 ≤ ((1 : Int32)).toNatClampNeg)) <|
  ltt (M.1 b37 ((1 : Int32)).toNatClampNeg) fun x38 =>
  bnd (if x38 = ((2 : Int32)) then (some (M)) else
  (bnd (FX1_unsigned G M a ((2 : Int32))) fun y41 =>
  some (y41.1))) fun (y39 : DD) =>
  some (y39)) else
  (some (M))) fun (y5 : DD) =>
  chk (¬ (((7 : Int32)) < 0 ∨ G.2.2 b3 ≤ ((7 : Int32)).toNatClampNeg)) <|
  ltt (y5.1 b3 ((7 : Int32)).toNatClampNeg) fun x6 =>
  ltt ((x6 + ((26 : Int32)))) fun x7 =>
  ltt (-((-4294967295 : Int64))) fun x8 =>
  dr G 5 ((y5.2 a 0)) fun b9 =>
  bnd (FX5_number G y5 b9 ((0 : Int32)) ((1 : Int32)) ((-4294967295 : Int64)) x8) fun y10 =>
  ltt ((x7 + y10.2)) fun x11 =>
  dr G 13 ((M.2 b2 0)) fun b12 =>
  chk (¬ (((12 : Int32)) < 0 ∨ G.2.2 b12 ≤ ((12 : Int32)).toNatClampNeg)) <|
  ltt (uI y10.1 b12 ((12 : Int32)).toNatClampNeg x11) fun M13 =>
  chk (¬ (((12 : Int32)) < 0 ∨ G.2.2 b12 ≤ ((12 : Int32)).toNatClampNeg)) <|
  ltt (M13.1 b12 ((12 : Int32)).toNatClampNeg) fun x14 =>
  bnd (if x14 < ((0 : Int32)) then (dr G 5 ((M13.2 a 0)) fun b34 =>
  ltt (M13.1 b34 4) fun x35 =>
  none) else
  (some (M13))) fun (y15 : DD) =>
  chk (¬ (((12 : Int32)) < 0 ∨ G.2.2 b12 ≤ ((12 : Int32)).toNatClampNeg)) <|
  ltt (y15.1 b12 ((12 : Int32)).toNatClampNeg) fun x16 =>
  bnd (if x16 ≤ ((51 : Int32)) then (some (y15)) else
  (dr G 5 ((y15.2 a 0)) fun b31 =>
  ltt (y15.1 b31 4) fun x32 =>
  none)) fun (y17 : DD) =>
  chk (¬ (((9 : Int32)) < 0 ∨ G.2.2 b3 ≤ ((9 : Int32)).toNatClampNeg)) <|
  ltt (y17.1 b3 ((9 : Int32)).toNatClampNeg) fun x18 =>
  bnd (if x18 = ((1 : Int32)) then (bnd (FX1_unsigned G y17 a ((2 : Int32))) fun y21 =>
  chk (¬ (((13 : Int32)) < 0 ∨ G.2.2 b12 ≤ ((13 : Int32)).toNatClampNeg)) <|
  ltt (uI y21.1 b12 ((13 : Int32)).toNatClampNeg y21.2) fun M22 =>
  chk (¬ (((13 : Int32)) < 0 ∨ G.2.2 b12 ≤ ((13 : Int32)).toNatClampNeg)) <|
  ltt (M22.1 b12 ((13 : Int32)).toNatClampNeg) fun x23 =>
  bnd (if x23 = ((1 : Int32)) then (some (M22)) else
  (bnd (FX1_signed G M22 a ((-6 : Int32)) ((6 : Int32))) fun y26 =>
  chk (¬ (((14 : Int32)) < 0 ∨ G.2.2 b12 ≤ ((14 : Int32)).toNatClampNeg)) <|
  ltt (uI y26.1 b12 ((14 : Int32)).toNatClampNeg y26.2) fun M27 =>
  bnd (FX1_signed G M27 a ((-6 : Int32)) ((6 : Int32))) fun y28 =>
  chk (¬ (((15 : Int32)) < 0 ∨ G.2.2 b12 ≤ ((15 : Int32)).toNatClampNeg)) <|
  ltt (uI y28.1 b12 ((15 : Int32)).toNatClampNeg y28.2) fun M29 =>
  some (M29))) fun (y24 : DD) =>
  some (y24)) else
  (some (y17))) fun (y19 : DD) =>
  some y19
set_option maxHeartbeats 4000000 in
set_option maxRecDepth 100000 in
def FX1_readSkipped (G : GG) (M : DD) (a : Nat) (p0 : Int32) : Option (DD) :=
  ltt (uI M a 21 p0) fun M1 =>
  dr G 9 ((M1.2 a 2)) fun b2 =>
  ltt ((((8 : Int32)) * p0)) fun x3 =>
  ltt ((x3 + ((0 : Int32)))) fun x4 =>
  dr G 13 ((M1.2 b2 6)) fun b5 =>
  chk (¬ (x4 < 0 ∨ G.2.2 b5 ≤ x4.toNatClampNeg)) <|
  ltt (uI M1 b5 x4.toNatClampNeg ((3 : Int32))) fun M6 =>
  dr G 9 ((M6.2 a 2)) fun b7 =>
  ltt ((((8 : Int32)) * p0)) fun x8 =>
  ltt ((x8 + ((2 : Int32)))) fun x9 =>
  ltt (M6.1 a 20) fun x10 =>
  dr G 13 ((M6.2 b7 6)) fun b11 =>
  chk (¬ (x9 < 0 ∨ G.2.2 b11 ≤ x9.toNatClampNeg)) <|
  ltt (uI M6 b11 x9.toNatClampNeg x10) fun M12 =>
  dr G 3 ((M12.2 a 11)) fun b13 =>
  dr G 13 ((M12.2 b13 0)) fun b14 =>
  chk (¬ (((1 : Int32)) < 0 ∨ G.2.2 b14 ≤ ((1 : Int32)).toNatClampNeg)) <|
  ltt (M12.1 b14 ((1 : Int32)).toNatClampNeg) fun x15 =>
  if x15 = ((1 : Int32)) then (dr G 9 ((M12.2 a 2)) fun b23 =>
  bnd (FX9_direct G M12 b23 p0 ((15 : Int32))) fun y24 =>
  bnd (if y24.2 = ((0 : Int32)) then (none) else
  (some (y24.1))) fun (y25 : DD) =>
  some y25) else
  (dr G 9 ((M12.2 a 2)) fun b17 =>
  dr G 14 ((M12.2 b17 3)) fun b18 =>
  chk (¬ (((0 : Int32)) < 0 ∨ G.2.2 b18 ≤ ((0 : Int32)).toNatClampNeg)) <|
  bnd (if ((M12.2 b18 ((0 : Int32)).toNatClampNeg)) = none then (none) else
  (some (M12))) fun (y19 : DD) =>
  dr G 9 ((y19.2 a 2)) fun b20 =>
  bnd (FX9_skip G y19 b20 p0) fun y21 =>
  some y21)
set_option maxHeartbeats 4000000 in
set_option maxRecDepth 100000 in
def FX1_readTurns (G : GG) (M : DD) (a : Nat) (p0 : Option Nat) : Option (DD) :=
  dr G 5 ((M.2 a 0)) fun b2 =>
  bnd (FX5_fixed G M b2 ((0 : Int32)) ((1 : Int32))) fun y3 =>
  dr G 13 p0 fun b4 =>
  chk (¬ (((11 : Int32)) < 0 ∨ G.2.2 b4 ≤ ((11 : Int32)).toNatClampNeg)) <|
  ltt (uI y3.1 b4 ((11 : Int32)).toNatClampNeg y3.2) fun M5 =>
  bnd (FX1_signed G M5 a ((-32768 : Int32)) ((32767 : Int32))) fun y6 =>
  chk (¬ (((12 : Int32)) < 0 ∨ G.2.2 b4 ≤ ((12 : Int32)).toNatClampNeg)) <|
  ltt (uI y6.1 b4 ((12 : Int32)).toNatClampNeg y6.2) fun M7 =>
  bnd (FX1_signed G M7 a ((-32768 : Int32)) ((32767 : Int32))) fun y8 =>
  chk (¬ (((13 : Int32)) < 0 ∨ G.2.2 b4 ≤ ((13 : Int32)).toNatClampNeg)) <|
  ltt (uI y8.1 b4 ((13 : Int32)).toNatClampNeg y8.2) fun M9 =>
  bnd (FX1_unsigned G M9 a ((8 : Int32))) fun y10 =>
  chk (¬ (((14 : Int32)) < 0 ∨ G.2.2 b4 ≤ ((14 : Int32)).toNatClampNeg)) <|
  ltt (uI y10.1 b4 ((14 : Int32)).toNatClampNeg y10.2) fun M11 =>
  bnd (itr (fun (s13 : Int32 × DD) => ((chk (¬ (((14 : Int32)) < 0 ∨ G.2.2 b4 ≤ ((14 : Int32)).toNatClampNeg)) <|
  ltt (s13.2.1 b4 ((14 : Int32)).toNatClampNeg) fun x16 =>
  if x16 ≤ s13.1 then (some (.inr (s13.1, s13.2))) else
  (ltt ((((15 : Int32)) + s13.1)) fun x18 =>
  if ((23 : Int32)) ≤ x18 then (some (.inr (s13.1, s13.2))) else
  (ltt ((((15 : Int32)) + s13.1)) fun x20 =>
  bnd (FX1_signed G s13.2 a ((-32768 : Int32)) ((32767 : Int32))) fun y21 =>
  chk (¬ (x20 < 0 ∨ G.2.2 b4 ≤ x20.toNatClampNeg)) <|
  ltt (uI y21.1 b4 x20.toNatClampNeg y21.2) fun M22 =>
  ltt (s13.1 + (1 : Int32)) fun x23 =>
  some (.inl (x23, M22))))) : Option ((Int32 × DD) ⊕ (Int32 × DD)))) 1000000 ((0 : Int32), M11)) fun (y12 : Int32 × DD) =>
  some y12.2
set_option maxHeartbeats 4000000 in
set_option maxRecDepth 100000 in
def FX1_readWeights (G : GG) (M : DD) (a : Nat) (p0 : Int32) : Option (DD) :=
  dr G 3 ((M.2 a 10)) fun b2 =>
  ltt ((((9 : Int32)) + p0)) fun x3 =>
  dr G 13 ((M.2 b2 0)) fun b4 =>
  chk (¬ (x3 < 0 ∨ G.2.2 b4 ≤ x3.toNatClampNeg)) <|
  ltt (M.1 b4 x3.toNatClampNeg) fun x5 =>
  bnd (itr (fun (s7 : Int32 × DD) => ((if x5 ≤ s7.1 then (some (.inr (s7.1, s7.2))) else
  (if ((8 : Int32)) ≤ s7.1 then (some (.inr (s7.1, s7.2))) else
  (bnd (itr (fun (s13 : Int32 × Int32 × DD) => ((if ((3 : Int32)) ≤ s13.2.1 then (some (.inr (s13.1, s13.2.1, s13.2.2))) else
  (bnd (if ((2 : Int32)) ≤ s13.2.1 then (some (s13.1, s13.2.2)) else
  (dr G 5 ((s13.2.2.2 a 0)) fun b33 =>
  bnd (FX5_fixed G s13.2.2 b33 ((0 : Int32)) ((1 : Int32))) fun y34 =>
  bnd (if y34.2 = ((1 : Int32)) then (some ((1 : Int32))) else
  (some ((0 : Int32)))) fun (y35 : Int32) =>
  some (y35, y34.1))) fun (y18 : Int32 × DD) =>
  bnd (if y18.1 = ((0 : Int32)) then (some (y18.2)) else
  (bnd (FX3_weightAt G y18.2 p0 s7.1 s13.2.1) fun y22 =>
  dr G 3 ((y22.1.2 a 10)) fun b23 =>
  bnd (FX1_signed G y22.1 a ((-128 : Int32)) ((127 : Int32))) fun y24 =>
  dr G 13 ((y22.1.2 b23 3)) fun b25 =>
  chk (¬ (y22.2 < 0 ∨ G.2.2 b25 ≤ y22.2.toNatClampNeg)) <|
  ltt (uI y24.1 b25 y22.2.toNatClampNeg y24.2) fun M26 =>
  dr G 3 ((M26.2 a 10)) fun b27 =>
  ltt ((y22.2 + ((1 : Int32)))) fun x28 =>
  bnd (FX1_signed G M26 a ((-128 : Int32)) ((127 : Int32))) fun y29 =>
  dr G 13 ((M26.2 b27 3)) fun b30 =>
  chk (¬ (x28 < 0 ∨ G.2.2 b30 ≤ x28.toNatClampNeg)) <|
  ltt (uI y29.1 b30 x28.toNatClampNeg y29.2) fun M31 =>
  some (M31))) fun (y19 : DD) =>
  ltt (s13.2.1 + (1 : Int32)) fun x20 =>
  some (.inl (y18.1, x20, y19)))) : Option ((Int32 × Int32 × DD) ⊕ (Int32 × Int32 × DD)))) 1000000 ((0 : Int32), (0 : Int32), s7.2)) fun (y12 : Int32 × Int32 × DD) =>
  ltt (s7.1 + (1 : Int32)) fun x15 =>
  some (.inl (x15, y12.2.2))))) : Option ((Int32 × DD) ⊕ (Int32 × DD)))) 1000000 ((0 : Int32), M)) fun (y6 : Int32 × DD) =>
  some y6.2
set_option maxHeartbeats 4000000 in
set_option maxRecDepth 100000 in
def FX1_rebuild (G : GG) (M : DD) (a : Nat) (p0 : Int32) : Option (DD) :=
  ltt ((((8 : Int32)) * p0)) fun x1 =>
  dr G 9 ((M.2 a 2)) fun b2 =>
  ltt ((x1 + ((0 : Int32)))) fun x3 =>
  dr G 13 ((M.2 b2 6)) fun b4 =>
  chk (¬ (x3 < 0 ∨ G.2.2 b4 ≤ x3.toNatClampNeg)) <|
  ltt (M.1 b4 x3.toNatClampNeg) fun x5 =>
  ltt ((x1 + ((2 : Int32)))) fun x6 =>
  chk (¬ (x6 < 0 ∨ G.2.2 b4 ≤ x6.toNatClampNeg)) <|
  ltt (M.1 b4 x6.toNatClampNeg) fun x7 =>
  if x5 = ((2 : Int32)) then (dr G 6 ((M.2 a 3)) fun b55 =>
  bnd (FX6_fillRaw G M b55 ((M.2 a 2)) p0) fun y56 =>
  some y56) else
  (bnd (FX9_sides G M b2 p0) fun y9 =>
  bnd (if x5 = ((3 : Int32)) then (dr G 6 ((y9.1.2 a 3)) fun b53 =>
  bnd (FX6_predictByLists G y9.1 b53 ((y9.1.2 a 2)) p0) fun y54 =>
  some (y54)) else
  (dr G 9 ((y9.1.2 a 2)) fun b47 =>
  ltt ((x1 + ((5 : Int32)))) fun x48 =>
  dr G 13 ((y9.1.2 b47 6)) fun b49 =>
  chk (¬ (x48 < 0 ∨ G.2.2 b49 ≤ x48.toNatClampNeg)) <|
  ltt (y9.1.1 b49 x48.toNatClampNeg) fun x50 =>
  dr G 6 ((y9.1.2 a 3)) fun b51 =>
  bnd (FX6_predictColours_ G y9.1 b51 (some b47) p0 x50 y9.2) fun y52 =>
  some (y52))) fun (y10 : DD) =>
  bnd (if x5 = ((1 : Int32)) then (dr G 9 ((y10.2 a 2)) fun b38 =>
  ltt ((((16 : Int32)) * p0)) fun x39 =>
  dr G 13 ((y10.2 b38 7)) fun b40 =>
  chk (¬ (x39 < 0 ∨ G.2.2 b40 ≤ x39.toNatClampNeg)) <|
  ltt (y10.1 b40 x39.toNatClampNeg) fun x41 =>
  dr G 6 ((y10.2 a 3)) fun b42 =>
  bnd (FX6_predictSixteen G y10 b42 (some b38) p0 x41 y9.2) fun y43 =>
  dr G 6 ((y43.2 a 3)) fun b44 =>
  bnd (FX6_fillSixteen G y43 b44 ((y43.2 a 2)) p0 x7) fun y45 =>
  some (y45)) else
  (some (y10))) fun (y11 : DD) =>
  bnd (itr (fun (s13 : Int32 × DD) => ((if ((16 : Int32)) ≤ s13.1 then (some (.inr (s13.1, s13.2))) else
  (if x5 = ((1 : Int32)) then (some (.inr (s13.1, s13.2))) else
  (bnd (if x5 = ((0 : Int32)) then (dr G 9 ((s13.2.2 a 2)) fun b29 =>
  ltt ((((16 : Int32)) * p0)) fun x30 =>
  ltt ((x30 + s13.1)) fun x31 =>
  dr G 13 ((s13.2.2 b29 7)) fun b32 =>
  chk (¬ (x31 < 0 ∨ G.2.2 b32 ≤ x31.toNatClampNeg)) <|
  ltt (s13.2.1 b32 x31.toNatClampNeg) fun x33 =>
  bnd (FX9_sidesOf G s13.2 s13.1 y9.2) fun y34 =>
  dr G 6 ((s13.2.2 a 3)) fun b35 =>
  bnd (FX6_predictFour G y34.1 b35 (some b29) p0 s13.1 x33 y34.2) fun y36 =>
  some (y36)) else
  (some (s13.2))) fun (y24 : DD) =>
  dr G 6 ((y24.2 a 3)) fun b25 =>
  bnd (FX6_fillLuma G y24 b25 ((y24.2 a 2)) p0 s13.1 x7) fun y26 =>
  ltt (s13.1 + (1 : Int32)) fun x27 =>
  some (.inl (x27, y26))))) : Option ((Int32 × DD) ⊕ (Int32 × DD)))) 1000000 ((0 : Int32), y11)) fun (y12 : Int32 × DD) =>
  dr G 9 ((y12.2.2 a 2)) fun b15 =>
  dr G 13 ((y12.2.2 b15 2)) fun b16 =>
  chk (¬ (((8 : Int32)) < 0 ∨ G.2.2 b16 ≤ ((8 : Int32)).toNatClampNeg)) <|
  ltt (y12.2.1 b16 ((8 : Int32)).toNatClampNeg) fun x17 =>
  bnd (FX6_colourStep G y12.2 x7 x17) fun y18 =>
  dr G 6 ((y12.2.2 a 3)) fun b19 =>
  bnd (FX6_fillColours G y18.1 b19 (some b15) p0 y18.2) fun y20 =>
  some y20)
set_option maxHeartbeats 4000000 in
set_option maxRecDepth 100000 in
def FX2_filter (G : GG) (M : DD) (a : Nat) (p0 : Option Nat) : Option (DD) :=
  dr G 9 p0 fun b2 =>
  dr G 4 ((M.2 b2 0)) fun b3 =>
  bnd (FX4_blocks G M b3) fun y4 =>
  ltt (uI y4.1 a 1 y4.2) fun M5 =>
  bnd (itr (fun (s7 : Int32 × DD) => ((ltt (s7.2.1 a 1) fun x10 =>
  if x10 ≤ s7.1 then (some (.inr (s7.1, s7.2))) else
  (bnd (FX2_measure G s7.2 a p0 s7.1) fun y12 =>
  bnd (itr (fun (s14 : Int32 × DD) => ((if ((3 : Int32)) ≤ s14.1 then (some (.inr (s14.1, s14.2))) else
  (bnd (itr (fun (s20 : Int32 × DD) => ((if ((2 : Int32)) ≤ s20.1 then (some (.inr (s20.1, s20.2))) else
  (bnd (itr (fun (s26 : Int32 × DD) => ((bnd (if s14.1 = ((0 : Int32)) then (some ((4 : Int32))) else
  (some ((2 : Int32)))) fun (y30 : Int32) =>
  if y30 ≤ s26.1 then (some (.inr (s26.1, s26.2))) else
  (bnd (FX2_filterEdge G s26.2 a p0 s7.1 s14.1 s20.1 s26.1) fun y32 =>
  ltt (s26.1 + (1 : Int32)) fun x33 =>
  some (.inl (x33, y32)))) : Option ((Int32 × DD) ⊕ (Int32 × DD)))) 1000000 ((0 : Int32), s20.2)) fun (y25 : Int32 × DD) =>
  ltt (s20.1 + (1 : Int32)) fun x28 =>
  some (.inl (x28, y25.2)))) : Option ((Int32 × DD) ⊕ (Int32 × DD)))) 1000000 ((0 : Int32), s14.2)) fun (y19 : Int32 × DD) =>
  ltt (s14.1 + (1 : Int32)) fun x22 =>
  some (.inl (x22, y19.2)))) : Option ((Int32 × DD) ⊕ (Int32 × DD)))) 1000000 ((0 : Int32), y12)) fun (y13 : Int32 × DD) =>
  ltt (s7.1 + (1 : Int32)) fun x16 =>
  some (.inl (x16, y13.2)))) : Option ((Int32 × DD) ⊕ (Int32 × DD)))) 1000000 ((0 : Int32), M5)) fun (y6 : Int32 × DD) =>
  some y6.2
set_option maxHeartbeats 4000000 in
set_option maxRecDepth 100000 in
def FX9_begin (G : GG) (M : DD) (a : Nat) (p0 : Option Nat) : Option (DD) :=
  ltt (uP M a 0 p0) fun M1 =>
  ltt (uI M1 a 11 ((-1 : Int32))) fun M2 =>
  bnd (itr (fun (s4 : Int32 × DD) => ((if ((32 : Int32)) ≤ s4.1 then (some (.inr (s4.1, s4.2))) else
  (bnd (FX9_clearBlock G s4.2 a s4.1) fun y8 =>
  ltt (s4.1 + (1 : Int32)) fun x9 =>
  some (.inl (x9, y8)))) : Option ((Int32 × DD) ⊕ (Int32 × DD)))) 1000000 ((0 : Int32), M2)) fun (y3 : Int32 × DD) =>
  some y3.2
set_option maxHeartbeats 4000000 in
set_option maxRecDepth 100000 in
def FX0_beginTry (G : GG) (M : DD) (a : Nat) (p0 : Int32) : Option (DD) :=
  dr G 9 ((M.2 a 3)) fun b2 =>
  dr G 3 ((M.2 b2 1)) fun b3 =>
  dr G 13 ((M.2 b3 0)) fun b4 =>
  chk (¬ (((12 : Int32)) < 0 ∨ G.2.2 b4 ≤ ((12 : Int32)).toNatClampNeg)) <|
  ltt (uI M b4 ((12 : Int32)).toNatClampNeg p0) fun M5 =>
  ltt (M5.1 a 18) fun x6 =>
  dr G 13 ((M5.2 a 1)) fun b7 =>
  chk (¬ (((0 : Int32)) < 0 ∨ G.2.2 b7 ≤ ((0 : Int32)).toNatClampNeg)) <|
  ltt (M5.1 b7 ((0 : Int32)).toNatClampNeg) fun x8 =>
  chk (¬ (((1 : Int32)) < 0 ∨ G.2.2 b7 ≤ ((1 : Int32)).toNatClampNeg)) <|
  ltt (M5.1 b7 ((1 : Int32)).toNatClampNeg) fun x9 =>
  ltt ((x8 * x9)) fun x10 =>
  ltt ((x6 + x10)) fun x11 =>
  ltt (uI M5 a 18 x11) fun M12 =>
  dr G 9 ((M12.2 a 3)) fun b13 =>
  bnd (FX9_begin G M12 b13 ((M12.2 b13 0))) fun y14 =>
  some y14
set_option maxHeartbeats 4000000 in
set_option maxRecDepth 100000 in
def FX0_build (G : GG) (M : DD) (a : Nat) (p0 : Int32) (p1 : Int32) : Option (DD) :=
  ltt ((((8 : Int32)) * p0)) fun x1 =>
  dr G 9 ((M.2 a 3)) fun b2 =>
  ltt ((x1 + ((0 : Int32)))) fun x3 =>
  dr G 13 ((M.2 b2 6)) fun b4 =>
  chk (¬ (x3 < 0 ∨ G.2.2 b4 ≤ x3.toNatClampNeg)) <|
  ltt (M.1 b4 x3.toNatClampNeg) fun x5 =>
  dr G 13 ((M.2 b2 2)) fun b6 =>
  chk (¬ (((8 : Int32)) < 0 ∨ G.2.2 b6 ≤ ((8 : Int32)).toNatClampNeg)) <|
  ltt (M.1 b6 ((8 : Int32)).toNatClampNeg) fun x7 =>
  bnd (FX6_colourStep G M p1 x7) fun y8 =>
  bnd (if x5 = ((3 : Int32)) then (some ((0 : Int32))) else
  (some ((1 : Int32)))) fun (y9 : Int32) =>
  bnd (if y9 = ((0 : Int32)) then (dr G 9 ((y8.1.2 a 3)) fun b75 =>
  ltt ((x1 + ((1 : Int32)))) fun x76 =>
  dr G 13 ((y8.1.2 b75 6)) fun b77 =>
  chk (¬ (x76 < 0 ∨ G.2.2 b77 ≤ x76.toNatClampNeg)) <|
  ltt (y8.1.1 b77 x76.toNatClampNeg) fun x78 =>
  bnd (if ((0 : Int32)) ≤ x78 then (some ((0 : Int32))) else
  (some ((1 : Int32)))) fun (y79 : Int32) =>
  some (y79)) else
  (some ((0 : Int32)))) fun (y10 : Int32) =>
  dr G 9 ((y8.1.2 a 3)) fun b11 =>
  bnd (FX9_sides G y8.1 b11 p0) fun y12 =>
  if x5 = ((2 : Int32)) then (dr G 6 ((y12.1.2 a 4)) fun b65 =>
  bnd (FX6_takeRaw G y12.1 b65 ((y12.1.2 a 3)) ((y12.1.2 a 9)) p0) fun y66 =>
  dr G 6 ((y66.2 a 4)) fun b67 =>
  bnd (FX6_fillRaw G y66 b67 ((y66.2 a 3)) p0) fun y68 =>
  dr G 9 ((y68.2 a 3)) fun b69 =>
  ltt ((((24 : Int32)) * p0)) fun x70 =>
  ltt ((((24 : Int32)) * p0)) fun x71 =>
  ltt ((x71 + ((24 : Int32)))) fun x72 =>
  bnd (FJ7_fill_fda19 G y68 ((y68.2 b69 8)) x70 x72 ((16 : Int32))) fun y73 =>
  some y73) else
  (bnd (if y9 = ((0 : Int32)) then (dr G 6 ((y12.1.2 a 4)) fun b57 =>
  bnd (FX6_predictByLists G y12.1 b57 ((y12.1.2 a 3)) p0) fun y58 =>
  some (y58)) else
  (dr G 9 ((y12.1.2 a 3)) fun b59 =>
  ltt ((x1 + ((5 : Int32)))) fun x60 =>
  dr G 13 ((y12.1.2 b59 6)) fun b61 =>
  chk (¬ (x60 < 0 ∨ G.2.2 b61 ≤ x60.toNatClampNeg)) <|
  ltt (y12.1.1 b61 x60.toNatClampNeg) fun x62 =>
  dr G 6 ((y12.1.2 a 4)) fun b63 =>
  bnd (FX6_predictColours_ G y12.1 b63 (some b59) p0 x62 y12.2) fun y64 =>
  some (y64))) fun (y14 : DD) =>
  bnd (if x5 = ((1 : Int32)) then (dr G 9 ((y14.2 a 3)) fun b39 =>
  ltt ((((16 : Int32)) * p0)) fun x40 =>
  dr G 13 ((y14.2 b39 7)) fun b41 =>
  chk (¬ (x40 < 0 ∨ G.2.2 b41 ≤ x40.toNatClampNeg)) <|
  ltt (y14.1 b41 x40.toNatClampNeg) fun x42 =>
  dr G 6 ((y14.2 a 4)) fun b43 =>
  bnd (FX6_predictSixteen G y14 b43 (some b39) p0 x42 y12.2) fun y44 =>
  dr G 9 ((y44.2 a 3)) fun b45 =>
  ltt ((x1 + ((3 : Int32)))) fun x46 =>
  dr G 15 ((y44.2 a 9)) fun b47 =>
  chk (¬ (((0 : Int32)) < 0 ∨ G.2.2 b47 ≤ ((0 : Int32)).toNatClampNeg)) <|
  dr G 6 ((y44.2 a 4)) fun b48 =>
  bnd (FX6_measureSixteen G y44 b48 ((y44.2 a 3)) ((y44.2 b47 ((0 : Int32)).toNatClampNeg)) p0 p1) fun y49 =>
  bnd (if y49.2 = ((0 : Int32)) then (some ((0 : Int32))) else
  (some ((15 : Int32)))) fun (y50 : Int32) =>
  dr G 13 ((y44.2 b45 6)) fun b51 =>
  chk (¬ (x46 < 0 ∨ G.2.2 b51 ≤ x46.toNatClampNeg)) <|
  ltt (uI y49.1 b51 x46.toNatClampNeg y50) fun M52 =>
  dr G 6 ((M52.2 a 4)) fun b53 =>
  bnd (FX6_fillSixteen G M52 b53 ((M52.2 a 3)) p0 p1) fun y54 =>
  some (y54)) else
  (bnd (FX0_buildPieces G y14 a p0 p1 y12.2 y10) fun y38 =>
  some (y38))) fun (y15 : DD) =>
  bnd (if y10 = ((0 : Int32)) then (dr G 9 ((y15.2 a 3)) fun b31 =>
  ltt ((x1 + ((4 : Int32)))) fun x32 =>
  dr G 6 ((y15.2 a 4)) fun b33 =>
  bnd (FX6_measureColours G y15 b33 ((y15.2 a 3)) ((y15.2 a 9)) p0 y8.2 y9) fun y34 =>
  dr G 13 ((y15.2 b31 6)) fun b35 =>
  chk (¬ (x32 < 0 ∨ G.2.2 b35 ≤ x32.toNatClampNeg)) <|
  ltt (uI y34.1 b35 x32.toNatClampNeg y34.2) fun M36 =>
  some (M36)) else
  (some (y15))) fun (y16 : DD) =>
  dr G 6 ((y16.2 a 4)) fun b17 =>
  bnd (FX6_fillColours G y16 b17 ((y16.2 a 3)) p0 y8.2) fun y18 =>
  dr G 13 ((y18.2 a 1)) fun b19 =>
  chk (¬ (((8 : Int32)) < 0 ∨ G.2.2 b19 ≤ ((8 : Int32)).toNatClampNeg)) <|
  ltt (y18.1 b19 ((8 : Int32)).toNatClampNeg) fun x20 =>
  bnd (if x20 = ((0 : Int32)) then (bnd (FX0_maySkip G y18 a p0) fun y23 =>
  bnd (if y23.2 = ((0 : Int32)) then (some (y23.1)) else
  (dr G 9 ((y23.1.2 a 3)) fun b26 =>
  ltt ((x1 + ((1 : Int32)))) fun x27 =>
  dr G 13 ((y23.1.2 b26 6)) fun b28 =>
  chk (¬ (x27 < 0 ∨ G.2.2 b28 ≤ x27.toNatClampNeg)) <|
  ltt (uI y23.1 b28 x27.toNatClampNeg ((-1 : Int32))) fun M29 =>
  some (M29))) fun (y24 : DD) =>
  some (y24)) else
  (some (y18))) fun (y21 : DD) =>
  some y21)
set_option maxHeartbeats 4000000 in
set_option maxRecDepth 100000 in
def FX0_chooseByCosts (G : GG) (M : DD) (a : Nat) (p0 : Int32) : Option (DD) :=
  dr G 9 ((M.2 a 3)) fun b2 =>
  dr G 3 ((M.2 b2 1)) fun b3 =>
  dr G 13 ((M.2 b3 0)) fun b4 =>
  chk (¬ (((1 : Int32)) < 0 ∨ G.2.2 b4 ≤ ((1 : Int32)).toNatClampNeg)) <|
  ltt (M.1 b4 ((1 : Int32)).toNatClampNeg) fun x5 =>
  dr G 13 ((M.2 a 20)) fun b6 =>
  chk (¬ (((10 : Int32)) < 0 ∨ G.2.2 b6 ≤ ((10 : Int32)).toNatClampNeg)) <|
  ltt (uI M b6 ((10 : Int32)).toNatClampNeg ((2147483647 : Int32))) fun M7 =>
  dr G 13 ((M7.2 a 20)) fun b8 =>
  chk (¬ (((11 : Int32)) < 0 ∨ G.2.2 b8 ≤ ((11 : Int32)).toNatClampNeg)) <|
  ltt (uI M7 b8 ((11 : Int32)).toNatClampNeg ((1 : Int32))) fun M9 =>
  dr G 13 ((M9.2 a 20)) fun b10 =>
  chk (¬ (((12 : Int32)) < 0 ∨ G.2.2 b10 ≤ ((12 : Int32)).toNatClampNeg)) <|
  ltt (uI M9 b10 ((12 : Int32)).toNatClampNeg ((2 : Int32))) fun M11 =>
  bnd (if x5 = ((2 : Int32)) then (some (M11)) else
  (bnd (FX0_searchList G M11 a p0 ((0 : Int32))) fun y80 =>
  dr G 13 ((y80.2 a 20)) fun b81 =>
  chk (¬ (((0 : Int32)) < 0 ∨ G.2.2 b81 ≤ ((0 : Int32)).toNatClampNeg)) <|
  ltt (y80.1 b81 ((0 : Int32)).toNatClampNeg) fun x82 =>
  bnd (if x5 = ((0 : Int32)) then (some ((0 : Int32))) else
  (some ((1 : Int32)))) fun (y83 : Int32) =>
  bnd (FX0_offer G y80 a x82 ((3 : Int32)) y83) fun y84 =>
  some (y84))) fun (y12 : DD) =>
  bnd (if x5 = ((1 : Int32)) then (bnd (FX0_searchList G y12 a p0 ((1 : Int32))) fun y71 =>
  dr G 13 ((y71.2 a 20)) fun b72 =>
  chk (¬ (((5 : Int32)) < 0 ∨ G.2.2 b72 ≤ ((5 : Int32)).toNatClampNeg)) <|
  ltt (y71.1 b72 ((5 : Int32)).toNatClampNeg) fun x73 =>
  bnd (FX0_offer G y71 a x73 ((3 : Int32)) ((2 : Int32))) fun y74 =>
  bnd (FX0_costOfBoth G y74 a p0) fun y75 =>
  bnd (FX0_offer G y75.1 a y75.2 ((3 : Int32)) ((3 : Int32))) fun y76 =>
  bnd (FX0_costOfDirect G y76 a p0) fun y77 =>
  bnd (FX0_offer G y77.1 a y77.2 ((3 : Int32)) ((0 : Int32))) fun y78 =>
  some (y78)) else
  (some (y12))) fun (y13 : DD) =>
  dr G 9 ((y13.2 a 3)) fun b14 =>
  bnd (FX9_sides G y13 b14 p0) fun y15 =>
  bnd (itr (fun (s17 : Int32 × DD) => ((if ((4 : Int32)) ≤ s17.1 then (some (.inr (s17.1, s17.2))) else
  (bnd (FX9_mayBeSixteen G s17.2 s17.1 y15.2) fun y57 =>
  bnd (if y57.2 = ((0 : Int32)) then (some (y57.1)) else
  (dr G 6 ((y57.1.2 a 4)) fun b61 =>
  bnd (FX6_predictSixteen G y57.1 b61 ((y57.1.2 a 3)) p0 s17.1 y15.2) fun y62 =>
  dr G 15 ((y62.2 a 9)) fun b63 =>
  chk (¬ (((0 : Int32)) < 0 ∨ G.2.2 b63 ≤ ((0 : Int32)).toNatClampNeg)) <|
  dr G 6 ((y62.2 a 4)) fun b64 =>
  bnd (FX6_differences G y62 b64 ((y62.2 a 3)) ((y62.2 b63 ((0 : Int32)).toNatClampNeg)) p0 ((0 : Int32)) ((16 : Int32))) fun y65 =>
  bnd (FX0_priceOfBit G y65.1 a) fun y66 =>
  ltt ((((8 : Int32)) * y66.2)) fun x67 =>
  ltt ((y65.2 + x67)) fun x68 =>
  bnd (FX0_offer G y66.1 a x68 ((1 : Int32)) s17.1) fun y69 =>
  some (y69))) fun (y58 : DD) =>
  ltt (s17.1 + (1 : Int32)) fun x59 =>
  some (.inl (x59, y58)))) : Option ((Int32 × DD) ⊕ (Int32 × DD)))) 1000000 ((0 : Int32), y15.1)) fun (y16 : Int32 × DD) =>
  bnd (FX0_costOfFour G y16.2 a p0 y15.2) fun y19 =>
  bnd (FX0_offer G y19.1 a y19.2 ((0 : Int32)) ((0 : Int32))) fun y20 =>
  dr G 9 ((y20.2 a 3)) fun b21 =>
  bnd (FX9_clearBlock G y20 b21 p0) fun y22 =>
  dr G 9 ((y22.2 a 3)) fun b23 =>
  ltt ((((8 : Int32)) * p0)) fun x24 =>
  ltt ((x24 + ((0 : Int32)))) fun x25 =>
  dr G 13 ((y22.2 a 20)) fun b26 =>
  chk (¬ (((11 : Int32)) < 0 ∨ G.2.2 b26 ≤ ((11 : Int32)).toNatClampNeg)) <|
  ltt (y22.1 b26 ((11 : Int32)).toNatClampNeg) fun x27 =>
  dr G 13 ((y22.2 b23 6)) fun b28 =>
  chk (¬ (x25 < 0 ∨ G.2.2 b28 ≤ x25.toNatClampNeg)) <|
  ltt (uI y22 b28 x25.toNatClampNeg x27) fun M29 =>
  dr G 13 ((M29.2 a 20)) fun b30 =>
  chk (¬ (((11 : Int32)) < 0 ∨ G.2.2 b30 ≤ ((11 : Int32)).toNatClampNeg)) <|
  ltt (M29.1 b30 ((11 : Int32)).toNatClampNeg) fun x31 =>
  bnd (if x31 = ((3 : Int32)) then (chk (¬ (((12 : Int32)) < 0 ∨ G.2.2 b30 ≤ ((12 : Int32)).toNatClampNeg)) <|
  ltt (M29.1 b30 ((12 : Int32)).toNatClampNeg) fun x53 =>
  bnd (FX0_useBest G M29 a p0 x5 x53) fun y54 =>
  some (y16.1, y54)) else
  (bnd (itr (fun (s35 : Int32 × DD) => ((if ((16 : Int32)) ≤ s35.1 then (some (.inr (s35.1, s35.2))) else
  (dr G 9 ((s35.2.2 a 3)) fun b40 =>
  ltt ((((16 : Int32)) * p0)) fun x41 =>
  ltt ((x41 + s35.1)) fun x42 =>
  dr G 13 ((s35.2.2 a 20)) fun b43 =>
  chk (¬ (((11 : Int32)) < 0 ∨ G.2.2 b43 ≤ ((11 : Int32)).toNatClampNeg)) <|
  ltt (s35.2.1 b43 ((11 : Int32)).toNatClampNeg) fun x44 =>
  bnd (if x44 = ((0 : Int32)) then (ltt ((((13 : Int32)) + s35.1)) fun x51 =>
  chk (¬ (x51 < 0 ∨ G.2.2 b43 ≤ x51.toNatClampNeg)) <|
  ltt (s35.2.1 b43 x51.toNatClampNeg) fun x52 =>
  some (x52)) else
  (chk (¬ (((12 : Int32)) < 0 ∨ G.2.2 b43 ≤ ((12 : Int32)).toNatClampNeg)) <|
  ltt (s35.2.1 b43 ((12 : Int32)).toNatClampNeg) fun x50 =>
  some (x50))) fun (y45 : Int32) =>
  dr G 13 ((s35.2.2 b40 7)) fun b46 =>
  chk (¬ (x42 < 0 ∨ G.2.2 b46 ≤ x42.toNatClampNeg)) <|
  ltt (uI s35.2 b46 x42.toNatClampNeg y45) fun M47 =>
  ltt (s35.1 + (1 : Int32)) fun x48 =>
  some (.inl (x48, M47)))) : Option ((Int32 × DD) ⊕ (Int32 × DD)))) 1000000 ((0 : Int32), M29)) fun (y34 : Int32 × DD) =>
  bnd (FX0_chooseColours G y34.2 a p0 y15.2) fun y37 =>
  some (y34.1, y37))) fun (y32 : Int32 × DD) =>
  some y32.2
set_option maxHeartbeats 4000000 in
set_option maxRecDepth 100000 in
def FX0_drawByLists (G : GG) (M : DD) (a : Nat) (p0 : Int32) (p1 : Int32) (p2 : Int32) : Option (DD) :=
  bnd (if p1 = ((1 : Int32)) then (bnd (if ((1 : Int32)) ≤ p2 then (some ((0 : Int32))) else
  (some ((15 : Int32)))) fun (y67 : Int32) =>
  some (y67)) else
  (some ((0 : Int32)))) fun (y1 : Int32) =>
  bnd (if y1 = ((15 : Int32)) then (dr G 9 ((M.2 a 3)) fun b62 =>
  bnd (FX9_direct G M b62 p0 ((15 : Int32))) fun y63 =>
  bnd (if y63.2 = ((0 : Int32)) then (some ((1 : Int32), (0 : Int32))) else
  (some (p2, y1))) fun (y64 : Int32 × Int32) =>
  some (y64.1, y64.2, y63.1)) else
  (some (p2, y1, M))) fun (y2 : Int32 × Int32 × DD) =>
  bnd (if p1 = ((0 : Int32)) then (bnd (if y2.1 = ((3 : Int32)) then (bnd (FX0_drawSubs G y2.2.2 a p0 p1) fun y60 =>
  some (y60.2, y60.1)) else
  (some (y2.2.1, y2.2.2))) fun (y58 : Int32 × DD) =>
  some (y58.1, y58.2)) else
  (bnd (if y2.1 = ((22 : Int32)) then (bnd (FX0_drawSubs G y2.2.2 a p0 p1) fun y57 =>
  some (y57.2, y57.1)) else
  (some (y2.2.1, y2.2.2))) fun (y55 : Int32 × DD) =>
  some (y55.1, y55.2))) fun (y3 : Int32 × DD) =>
  dr G 9 ((y3.2.2 a 3)) fun b4 =>
  bnd (FX9_clearMoves G y3.2 b4 p0) fun y5 =>
  bnd (if y3.1 = ((0 : Int32)) then (some (y5)) else
  (dr G 9 ((y5.2 a 3)) fun b52 =>
  bnd (FX9_direct G y5 b52 p0 y3.1) fun y53 =>
  some (y53.1))) fun (y6 : DD) =>
  dr G 9 ((y6.2 a 3)) fun b7 =>
  ltt ((((8 : Int32)) * p0)) fun x8 =>
  ltt ((x8 + ((1 : Int32)))) fun x9 =>
  dr G 13 ((y6.2 b7 6)) fun b10 =>
  chk (¬ (x9 < 0 ∨ G.2.2 b10 ≤ x9.toNatClampNeg)) <|
  ltt (uI y6 b10 x9.toNatClampNeg y2.1) fun M11 =>
  if y3.1 = ((15 : Int32)) then (some M11) else
  (if ((0 : Int32)) ≤ y2.1 then (dr G 9 ((M11.2 a 3)) fun b14 =>
  bnd (FX9_plan G M11 b14 p1 y2.1) fun y15 =>
  bnd (itr (fun (s17 : Int32 × DD) => ((if ((2 : Int32)) ≤ s17.1 then (some (.inr (s17.1, s17.2))) else
  (dr G 9 ((s17.2.2 a 3)) fun b23 =>
  dr G 3 ((s17.2.2 b23 1)) fun b24 =>
  ltt ((((9 : Int32)) + s17.1)) fun x25 =>
  dr G 13 ((s17.2.2 b24 0)) fun b26 =>
  chk (¬ (x25 < 0 ∨ G.2.2 b26 ≤ x25.toNatClampNeg)) <|
  ltt (s17.2.1 b26 x25.toNatClampNeg) fun x27 =>
  bnd (itr (fun (s29 : Int32 × DD) => ((dr G 9 ((s29.2.2 a 3)) fun b33 =>
  ltt (s29.2.1 b33 16) fun x34 =>
  if x34 ≤ s29.1 then (some (.inr (s29.1, s29.2))) else
  (ltt ((((4 : Int32)) * s29.1)) fun x36 =>
  ltt ((x36 + ((3 : Int32)))) fun x37 =>
  dr G 13 ((s29.2.2 b33 15)) fun b38 =>
  chk (¬ (x37 < 0 ∨ G.2.2 b38 ≤ x37.toNatClampNeg)) <|
  ltt (s29.2.1 b38 x37.toNatClampNeg) fun x39 =>
  ltt ((x39 >>> (s17.1 &&& 31))) fun x40 =>
  ltt ((x40 &&& ((1 : Int32)))) fun x41 =>
  bnd (if x41 = ((1 : Int32)) then (bnd (if x27 ≤ ((1 : Int32)) then (some ((0 : Int32), s29.2)) else
  (bnd (FX0_draw G s29.2 a x27) fun y48 =>
  some (y48.2, y48.1))) fun (y45 : Int32 × DD) =>
  bnd (FX9_setReference G y45.2 b33 p0 s17.1 s29.1 y45.1) fun y46 =>
  some (y46)) else
  (some (s29.2))) fun (y42 : DD) =>
  ltt (s29.1 + (1 : Int32)) fun x43 =>
  some (.inl (x43, y42)))) : Option ((Int32 × DD) ⊕ (Int32 × DD)))) 1000000 ((0 : Int32), s17.2)) fun (y28 : Int32 × DD) =>
  ltt (s17.1 + (1 : Int32)) fun x31 =>
  some (.inl (x31, y28.2)))) : Option ((Int32 × DD) ⊕ (Int32 × DD)))) 1000000 ((0 : Int32), y15)) fun (y16 : Int32 × DD) =>
  bnd (FX0_drawVectors G y16.2 a p0 ((0 : Int32))) fun y19 =>
  bnd (FX0_drawVectors G y19 a p0 ((1 : Int32))) fun y20 =>
  some y20) else
  (dr G 9 ((M11.2 a 3)) fun b49 =>
  bnd (FX9_skip G M11 b49 p0) fun y50 =>
  some y50))
set_option maxHeartbeats 4000000 in
set_option maxRecDepth 100000 in
def FX0_endPicture (G : GG) (M : DD) (a : Nat) (p0 : Int32) (p1 : Int32) (p2 : Int32) : Option (DD) :=
  dr G 9 ((M.2 a 3)) fun b2 =>
  dr G 13 ((M.2 a 1)) fun b3 =>
  chk (¬ (((16 : Int32)) < 0 ∨ G.2.2 b3 ≤ ((16 : Int32)).toNatClampNeg)) <|
  ltt (M.1 b3 ((16 : Int32)).toNatClampNeg) fun x4 =>
  dr G 2 ((M.2 a 5)) fun b5 =>
  bnd (FX2_filter G M b5 ((M.2 a 3))) fun y6 =>
  bnd (if x4 ≤ ((0 : Int32)) then (some (y6)) else
  (ltt ((((4 : Int32)) * x4)) fun x61 =>
  ltt (y6.1 a 15) fun x62 =>
  ltt ((x62 + x4)) fun x63 =>
  ltt ((x63 - p0)) fun x64 =>
  bnd (FX11_clamp G y6 ((0 : Int32)) x61 x64) fun y65 =>
  ltt (uI y65.1 a 15 y65.2) fun M66 =>
  some (M66))) fun (y7 : DD) =>
  ltt (y7.1 a 16) fun x8 =>
  bnd (if ((60 : Int32)) ≤ x8 then (some (y7)) else
  (ltt (y7.1 a 16) fun x27 =>
  ltt ((((7 : Int32)) * x27)) fun x28 =>
  dr G 13 ((y7.2 a 17)) fun b29 =>
  chk (¬ (x28 < 0 ∨ G.2.2 b29 ≤ x28.toNatClampNeg)) <|
  ltt (uI y7 b29 x28.toNatClampNeg p0) fun M30 =>
  ltt ((x28 + ((1 : Int32)))) fun x31 =>
  dr G 13 ((M30.2 a 17)) fun b32 =>
  chk (¬ (x31 < 0 ∨ G.2.2 b32 ≤ x31.toNatClampNeg)) <|
  ltt (uI M30 b32 x31.toNatClampNeg p1) fun M33 =>
  ltt ((x28 + ((2 : Int32)))) fun x34 =>
  dr G 9 ((M33.2 a 3)) fun b35 =>
  dr G 3 ((M33.2 b35 1)) fun b36 =>
  dr G 13 ((M33.2 b36 0)) fun b37 =>
  chk (¬ (((1 : Int32)) < 0 ∨ G.2.2 b37 ≤ ((1 : Int32)).toNatClampNeg)) <|
  ltt (M33.1 b37 ((1 : Int32)).toNatClampNeg) fun x38 =>
  dr G 13 ((M33.2 a 17)) fun b39 =>
  chk (¬ (x34 < 0 ∨ G.2.2 b39 ≤ x34.toNatClampNeg)) <|
  ltt (uI M33 b39 x34.toNatClampNeg x38) fun M40 =>
  ltt ((x28 + ((3 : Int32)))) fun x41 =>
  dr G 13 ((M40.2 a 17)) fun b42 =>
  chk (¬ (x41 < 0 ∨ G.2.2 b42 ≤ x41.toNatClampNeg)) <|
  ltt (uI M40 b42 x41.toNatClampNeg p2) fun M43 =>
  ltt ((x28 + ((4 : Int32)))) fun x44 =>
  dr G 4 ((M.2 b2 0)) fun b45 =>
  ltt (M43.1 b45 9) fun x46 =>
  dr G 13 ((M43.2 a 17)) fun b47 =>
  chk (¬ (x44 < 0 ∨ G.2.2 b47 ≤ x44.toNatClampNeg)) <|
  ltt (uI M43 b47 x44.toNatClampNeg x46) fun M48 =>
  ltt ((x28 + ((5 : Int32)))) fun x49 =>
  dr G 15 ((M48.2 b45 4)) fun b50 =>
  chk (¬ (((0 : Int32)) < 0 ∨ G.2.2 b50 ≤ ((0 : Int32)).toNatClampNeg)) <|
  bnd (FX4_blocks G M48 b45) fun y51 =>
  ltt ((((256 : Int32)) * y51.2)) fun x52 =>
  bnd (FX11_hash G y51.1 ((M48.2 b50 ((0 : Int32)).toNatClampNeg)) ((0 : Int32)) x52) fun y53 =>
  dr G 13 ((M48.2 a 17)) fun b54 =>
  chk (¬ (x49 < 0 ∨ G.2.2 b54 ≤ x49.toNatClampNeg)) <|
  ltt (uI y53.1 b54 x49.toNatClampNeg y53.2) fun M55 =>
  ltt ((x28 + ((6 : Int32)))) fun x56 =>
  ltt (M55.1 a 15) fun x57 =>
  dr G 13 ((M55.2 a 17)) fun b58 =>
  chk (¬ (x56 < 0 ∨ G.2.2 b58 ≤ x56.toNatClampNeg)) <|
  ltt (uI M55 b58 x56.toNatClampNeg x57) fun M59 =>
  some (M59))) fun (y9 : DD) =>
  ltt (y9.1 a 16) fun x10 =>
  ltt ((x10 + ((1 : Int32)))) fun x11 =>
  ltt (uI y9 a 16 x11) fun M12 =>
  dr G 9 ((M12.2 a 3)) fun b13 =>
  dr G 7 ((M12.2 a 6)) fun b14 =>
  bnd (FX7_acceptCoded G M12 b14 ((M.2 b2 0)) ((M12.2 b13 1)) ((M12.2 a 7))) fun y15 =>
  dr G 9 ((y15.2 a 3)) fun b16 =>
  dr G 3 ((y15.2 b16 1)) fun b17 =>
  dr G 13 ((y15.2 b17 0)) fun b18 =>
  chk (¬ (((11 : Int32)) < 0 ∨ G.2.2 b18 ≤ ((11 : Int32)).toNatClampNeg)) <|
  ltt (y15.1 b18 ((11 : Int32)).toNatClampNeg) fun x19 =>
  bnd (if x19 = ((0 : Int32)) then (some (y15)) else
  (dr G 4 ((M.2 b2 0)) fun b22 =>
  ltt (y15.1 b22 8) fun x23 =>
  dr G 7 ((y15.2 a 6)) fun b24 =>
  ltt (uI y15 b24 5 x23) fun M25 =>
  some (M25))) fun (y20 : DD) =>
  some y20
set_option maxHeartbeats 4000000 in
set_option maxRecDepth 100000 in
noncomputable def FX0_start (G : GG) (M : DD) (a : Nat)  : Option (NN × DD) :=
  dr (xt G []) 13 ((M.2 a 0)) fun b2 =>
  dr (xt G []) 13 ((M.2 a 1)) fun b3 =>
  chk (¬ ((0 : Int32)) < 0 ∧ ¬ ((0 : Int32)) < 0 ∧ ¬ ((24 : Int32)) < 0 ∧ ((0 : Int32)).toNatClampNeg + ((24 : Int32)).toNatClampNeg ≤ (xt G []).2.2 b2 ∧ ((0 : Int32)).toNatClampNeg + ((24 : Int32)).toNatClampNeg ≤ (xt G []).2.2 b3) <|
  ltt (rI M b3 (va_cpy (M.1 b2) (M.1 b3) ((0 : Int32)).toNatClampNeg ((0 : Int32)).toNatClampNeg ((24 : Int32)).toNatClampNeg)) fun M4 =>
  ltt (uI M4 a 10 ((0 : Int32))) fun M5 =>
  ltt (uI M5 a 11 ((0 : Int32))) fun M6 =>
  ltt (uI M6 a 12 ((0 : Int32))) fun M7 =>
  ltt (uI M7 a 13 ((0 : Int32))) fun M8 =>
  dr (xt G []) 13 ((M8.2 a 1)) fun b9 =>
  chk (¬ (((9 : Int32)) < 0 ∨ (xt G []).2.2 b9 ≤ ((9 : Int32)).toNatClampNeg)) <|
  ltt (M8.1 b9 ((9 : Int32)).toNatClampNeg) fun x10 =>
  ltt (uI M8 a 14 x10) fun M11 =>
  ltt (uI M11 a 15 ((0 : Int32))) fun M12 =>
  ltt (uI M12 a 16 ((0 : Int32))) fun M13 =>
  dr (xt G []) 7 ((M13.2 a 6)) fun b14 =>
  bnd (FX7_clear (xt G []) M13 b14) fun y15 =>
  dr (xt G []) 10 ((y15.2 a 2)) fun b16 =>
  ltt (uI y15 b16 1 ((0 : Int32))) fun M17 =>
  dr (xt G []) 10 ((M17.2 a 2)) fun b18 =>
  ltt (uI M17 b18 2 ((0 : Int32))) fun M19 =>
  bnd (FX0_fillSets (xt G []) M19 a) fun y20 =>
  bnd (itrA (fun (s22 : NN × Int32 × DD) => ((if ((12 : Int32)) ≤ s22.2.1 then (some ([], .inr ((s22.2.1, s22.2.2)))) else
  (dr (xt G s22.1) 13 ((s22.2.2.2 a 1)) fun b43 =>
  chk (¬ (((0 : Int32)) < 0 ∨ (xt G s22.1).2.2 b43 ≤ ((0 : Int32)).toNatClampNeg)) <|
  ltt (s22.2.2.1 b43 ((0 : Int32)).toNatClampNeg) fun x44 =>
  chk (¬ (((1 : Int32)) < 0 ∨ (xt G s22.1).2.2 b43 ≤ ((1 : Int32)).toNatClampNeg)) <|
  ltt (s22.2.2.1 b43 ((1 : Int32)).toNatClampNeg) fun x45 =>
  ltt ((x44 * x45)) fun x46 =>
  ltt (s22.2.1 - s22.2.1 / ((3 : Int32)) * ((3 : Int32))) fun x47 =>
  bnd (if x47 = ((0 : Int32)) then (some ((256 : Int32))) else
  (some ((64 : Int32)))) fun (y48 : Int32) =>
  ltt ((x46 * y48)) fun x49 =>
  dr (xt G s22.1) 15 ((s22.2.2.2 a 8)) fun b50 =>
  chk (¬ (s22.2.1 < 0 ∨ (xt G s22.1).2.2 b50 ≤ s22.2.1.toNatClampNeg)) <|
  dr (xt G s22.1) 13 ((s22.2.2.2 b50 s22.2.1.toNatClampNeg)) fun b51 =>
  ltt (Int32.ofNat ((xt G s22.1).2.2 b51)) fun x52 =>
  bnd (if x49 ≤ x52 then (some ([], s22.2.2)) else
  (chk (¬ (s22.2.1 < 0 ∨ (xt G s22.1).2.2 b50 ≤ s22.2.1.toNatClampNeg)) <|
  ltt (Int32.ofNat ((xt G s22.1).2.2 b51)) fun x60 =>
  bnd (if x60 = ((0 : Int32)) then (some (x49)) else
  (some ((8192 : Int32)))) fun (y61 : Int32) =>
  chkP (Clo (xt G s22.1) s22.2.2) <|
  chk (¬ y61 < 0 ∧ y61.toNatClampNeg * 4 ≤ 536870912) <|
  ltt ((xt G s22.1).1) fun c63 =>
  app [(13, y61.toNatClampNeg)] <|
  ltt (s22.1 ++ [(13, y61.toNatClampNeg)]) fun L65 =>
  ltt (rO s22.2.2 c63) fun M66 =>
  chk (¬ (s22.2.1 < 0 ∨ (xt G L65).2.2 b50 ≤ s22.2.1.toNatClampNeg)) <|
  ltt (uP M66 b50 s22.2.1.toNatClampNeg (some c63)) fun M69 =>
  some ([], M69))) fun (y53 : NN × DD) =>
  app y53.1 <|
  ltt (s22.1 ++ y53.1) fun L55 =>
  ltt (s22.2.1 + (1 : Int32)) fun x57 =>
  some ([], .inl (L55, (x57, y53.2))))) : Option (NN × ((NN × Int32 × DD) ⊕ (Int32 × DD))))) 1000000 ([], ((0 : Int32), y20))) fun (y21 : NN × Int32 × DD) =>
  app y21.1 <|
  ltt ([] ++ y21.1) fun L24 =>
  bnd (FX0_paintFlat (xt G L24) y21.2.2 a ((128 : Int32)) ((128 : Int32)) ((128 : Int32))) fun y26 =>
  bnd (FX0_writeSequence (xt G L24) y26 a) fun y27 =>
  app y27.1 <|
  ltt (L24 ++ y27.1) fun L29 =>
  bnd (FX0_writeParameters (xt G L29) y27.2 a) fun y32 =>
  app y32.1 <|
  ltt (L29 ++ y32.1) fun L34 =>
  some ([], y32.2)
set_option maxHeartbeats 4000000 in
set_option maxRecDepth 100000 in
noncomputable def FX11_open (G : GG) (M : DD) (a : Nat)  : Option (NN × DD × Int32) :=
  dr (xt G []) 0 ((M.2 a 4)) fun b2 =>
  bnd (FX0_clash (xt G []) M b2) fun y3 =>
  bnd (if ((0 : Int32)) ≤ y3.2 then (some ([], y3.1)) else
  (dr (xt G []) 0 ((y3.1.2 a 4)) fun b10 =>
  bnd (FX0_start (xt G []) y3.1 b10) fun y11 =>
  app y11.1 <|
  ltt ([] ++ y11.1) fun L13 =>
  some ([], y11.2))) fun (y4 : NN × DD) =>
  app y4.1 <|
  ltt ([] ++ y4.1) fun L6 =>
  some ([], (y4.2, y3.2))
set_option maxHeartbeats 4000000 in
set_option maxRecDepth 100000 in
noncomputable def FX1_beginPicture (G : GG) (M : DD) (a : Nat)  : Option (NN × DD) :=
  dr (xt G []) 3 ((M.2 a 10)) fun b2 =>
  bnd (FX3_isOwn (xt G []) M b2) fun y3 =>
  bnd (if y3.2 = ((0 : Int32)) then (some (y3.1)) else
  (dr (xt G []) 13 ((M.2 b2 0)) fun b48 =>
  chk (¬ (((2 : Int32)) < 0 ∨ (xt G []).2.2 b48 ≤ ((2 : Int32)).toNatClampNeg)) <|
  ltt (y3.1.1 b48 ((2 : Int32)).toNatClampNeg) fun x49 =>
  dr (xt G []) 15 ((y3.1.2 a 6)) fun b50 =>
  chk (¬ (x49 < 0 ∨ (xt G []).2.2 b50 ≤ x49.toNatClampNeg)) <|
  dr (xt G []) 13 ((y3.1.2 b50 x49.toNatClampNeg)) fun b51 =>
  chk (¬ (((0 : Int32)) < 0 ∨ (xt G []).2.2 b51 ≤ ((0 : Int32)).toNatClampNeg)) <|
  ltt (y3.1.1 b51 ((0 : Int32)).toNatClampNeg) fun x52 =>
  ltt (uI y3.1 a 8 x52) fun M53 =>
  ltt (M53.1 a 8) fun x54 =>
  dr (xt G []) 15 ((M53.2 a 5)) fun b55 =>
  chk (¬ (x54 < 0 ∨ (xt G []).2.2 b55 ≤ x54.toNatClampNeg)) <|
  dr (xt G []) 13 ((M53.2 b55 x54.toNatClampNeg)) fun b56 =>
  dr (xt G []) 13 ((M53.2 a 7)) fun b57 =>
  chk (¬ ((0 : Int32)) < 0 ∧ ¬ ((0 : Int32)) < 0 ∧ ¬ ((24 : Int32)) < 0 ∧ ((0 : Int32)).toNatClampNeg + ((24 : Int32)).toNatClampNeg ≤ (xt G []).2.2 b56 ∧ ((0 : Int32)).toNatClampNeg + ((24 : Int32)).toNatClampNeg ≤ (xt G []).2.2 b57) <|
  ltt (rI M53 b57 (va_cpy (M53.1 b56) (M53.1 b57) ((0 : Int32)).toNatClampNeg ((0 : Int32)).toNatClampNeg ((24 : Int32)).toNatClampNeg)) fun M58 =>
  some (M58))) fun (y4 : DD) =>
  dr (xt G []) 13 ((y4.2 a 7)) fun b5 =>
  chk (¬ (((0 : Int32)) < 0 ∨ (xt G []).2.2 b5 ≤ ((0 : Int32)).toNatClampNeg)) <|
  ltt (y4.1 b5 ((0 : Int32)).toNatClampNeg) fun x6 =>
  chk (¬ (((1 : Int32)) < 0 ∨ (xt G []).2.2 b5 ≤ ((1 : Int32)).toNatClampNeg)) <|
  ltt (y4.1 b5 ((1 : Int32)).toNatClampNeg) fun x7 =>
  dr (xt G []) 7 ((y4.2 a 1)) fun b8 =>
  chk (okd (xt G []) ((M.2 b2 0)) = true) <|
  bnd (FX7_fresh (xt G []) y4 b8 x6 x7) fun y9 =>
  app y9.1 <|
  ltt ([] ++ y9.1) fun L12 =>
  bnd (itr (fun (s16 : Int32 × DD) => ((if ((4 : Int32)) ≤ s16.1 then (some (.inr (s16.1, s16.2))) else
  (dr (xt G L12) 4 y9.2.2 fun b40 =>
  ltt ((((7 : Int32)) + s16.1)) fun x41 =>
  dr (xt G L12) 13 ((s16.2.2 a 7)) fun b42 =>
  chk (¬ (x41 < 0 ∨ (xt G L12).2.2 b42 ≤ x41.toNatClampNeg)) <|
  ltt (s16.2.1 b42 x41.toNatClampNeg) fun x43 =>
  dr (xt G L12) 13 ((s16.2.2 b40 3)) fun b44 =>
  chk (¬ (s16.1 < 0 ∨ (xt G L12).2.2 b44 ≤ s16.1.toNatClampNeg)) <|
  ltt (uI s16.2 b44 s16.1.toNatClampNeg x43) fun M45 =>
  ltt (s16.1 + (1 : Int32)) fun x46 =>
  some (.inl (x46, M45)))) : Option ((Int32 × DD) ⊕ (Int32 × DD)))) 1000000 ((0 : Int32), y9.2.1)) fun (y15 : Int32 × DD) =>
  dr (xt G L12) 13 ((M.2 b2 0)) fun b18 =>
  chk (¬ (((3 : Int32)) < 0 ∨ (xt G L12).2.2 b18 ≤ ((3 : Int32)).toNatClampNeg)) <|
  ltt (y15.2.1 b18 ((3 : Int32)).toNatClampNeg) fun x19 =>
  dr (xt G L12) 4 y9.2.2 fun b20 =>
  ltt (uI y15.2 b20 8 x19) fun M21 =>
  dr (xt G L12) 7 ((M21.2 a 1)) fun b22 =>
  bnd (FX7_orderOf (xt G L12) M21 b22 ((M21.2 a 10)) ((M21.2 a 7))) fun y23 =>
  ltt (uI y23.1 b20 9 y23.2) fun M24 =>
  chk (¬ (((1 : Int32)) < 0 ∨ (xt G L12).2.2 b18 ≤ ((1 : Int32)).toNatClampNeg)) <|
  ltt (M24.1 b18 ((1 : Int32)).toNatClampNeg) fun x25 =>
  ltt (uI M24 b20 15 x25) fun M26 =>
  chk (¬ (((11 : Int32)) < 0 ∨ (xt G L12).2.2 b18 ≤ ((11 : Int32)).toNatClampNeg)) <|
  ltt (M26.1 b18 ((11 : Int32)).toNatClampNeg) fun x27 =>
  ltt (uI M26 b20 16 x27) fun M28 =>
  dr (xt G L12) 9 ((M28.2 a 2)) fun b29 =>
  bnd (FX9_begin (xt G L12) M28 b29 y9.2.2) fun y30 =>
  dr (xt G L12) 3 ((y30.2 a 12)) fun b31 =>
  bnd (FX3_copyFrom (xt G L12) y30 b31 ((y30.2 a 10))) fun y32 =>
  ltt (y32.1 a 19) fun x33 =>
  bnd (FX4_blocks (xt G L12) y32 b20) fun y34 =>
  ltt ((x33 + y34.2)) fun x35 =>
  ltt (uI y34.1 a 19 x35) fun M36 =>
  chk (((1 : Int32)) = 0 ∨ ((1 : Int32)) = 1) <|
  ltt (uI M36 a 16 ((1 : Int32))) fun M37 =>
  some ([], M37)
set_option maxHeartbeats 4000000 in
set_option maxRecDepth 100000 in
noncomputable def FX1_endPicture (G : GG) (M : DD) (a : Nat)  : Option (NN × DD) :=
  ltt (M.1 a 16) fun x1 =>
  if x1 = ((0 : Int32)) then (some ([], M)) else
  (chk (((0 : Int32)) = 0 ∨ ((0 : Int32)) = 1) <|
  ltt (uI M a 16 ((0 : Int32))) fun M3 =>
  dr (xt G []) 9 ((M3.2 a 2)) fun b4 =>
  dr (xt G []) 7 ((M3.2 a 1)) fun b5 =>
  ltt (M3.1 a 17) fun x6 =>
  dr (xt G []) 2 ((M3.2 a 4)) fun b7 =>
  bnd (FX2_mend (xt G []) M3 b7 ((M3.2 a 2)) ((M3.2 b5 6)) x6) fun y8 =>
  dr (xt G []) 4 ((M3.2 b4 0)) fun b9 =>
  ltt (uI y8.1 b9 17 y8.2) fun M10 =>
  ltt (M10.1 a 18) fun x11 =>
  ltt (M10.1 b9 17) fun x12 =>
  ltt ((x11 + x12)) fun x13 =>
  ltt (uI M10 a 18 x13) fun M14 =>
  ltt (M14.1 b9 14) fun x15 =>
  bnd (if x15 = ((0 : Int32)) then (some ((0 : Int32))) else
  (ltt (M14.1 b9 17) fun x44 =>
  bnd (if x44 = ((0 : Int32)) then (some ((1 : Int32))) else
  (some ((0 : Int32)))) fun (y45 : Int32) =>
  some (y45))) fun (y16 : Int32) =>
  chk (y16 = 0 ∨ y16 = 1) <|
  ltt (uI M14 b9 14 y16) fun M17 =>
  dr (xt G []) 2 ((M17.2 a 4)) fun b18 =>
  bnd (FX2_filter (xt G []) M17 b18 ((M17.2 a 2))) fun y19 =>
  dr (xt G []) 7 ((y19.2 a 1)) fun b20 =>
  bnd (FX7_accept (xt G []) y19 b20 ((M3.2 b4 0)) ((y19.2 a 12)) ((y19.2 a 7))) fun y21 =>
  dr (xt G []) 3 ((y21.1.2 a 12)) fun b22 =>
  bnd (FX3_isOwn (xt G []) y21.1 b22) fun y23 =>
  bnd (if y23.2 = ((0 : Int32)) then (bnd (if y21.2 = ((0 : Int32)) then (some ((0 : Int32))) else
  (some ((1 : Int32)))) fun (y41 : Int32) =>
  some (y41)) else
  (some ((1 : Int32)))) fun (y24 : Int32) =>
  dr (xt G []) 3 ((y23.1.2 a 12)) fun b25 =>
  bnd (FX3_isOwn (xt G []) y23.1 b25) fun y26 =>
  bnd (if y26.2 = ((0 : Int32)) then (some ((0 : Int32))) else
  (dr (xt G []) 3 ((y26.1.2 a 12)) fun b35 =>
  dr (xt G []) 13 ((y26.1.2 b35 0)) fun b36 =>
  chk (¬ (((19 : Int32)) < 0 ∨ (xt G []).2.2 b36 ≤ ((19 : Int32)).toNatClampNeg)) <|
  ltt (y26.1.1 b36 ((19 : Int32)).toNatClampNeg) fun x37 =>
  bnd (if x37 = ((1 : Int32)) then (some ((1 : Int32))) else
  (some ((0 : Int32)))) fun (y38 : Int32) =>
  some (y38))) fun (y27 : Int32) =>
  dr (xt G []) 7 ((y21.1.2 a 1)) fun b28 =>
  bnd (FX7_putAway (xt G []) y26.1 b28 ((M3.2 b4 0)) y24 y27) fun y29 =>
  app y29.1 <|
  ltt ([] ++ y29.1) fun L31 =>
  some ([], y29.2))
set_option maxHeartbeats 4000000 in
set_option maxRecDepth 100000 in
def FX1_readData (G : GG) (M : DD) (a : Nat)  : Option (DD) :=
  dr G 3 ((M.2 a 11)) fun b2 =>
  dr G 13 ((M.2 b2 0)) fun b3 =>
  chk (¬ (((1 : Int32)) < 0 ∨ G.2.2 b3 ≤ ((1 : Int32)).toNatClampNeg)) <|
  ltt (M.1 b3 ((1 : Int32)).toNatClampNeg) fun x4 =>
  bnd (if x4 = ((2 : Int32)) then (some ((1 : Int32))) else
  (some ((0 : Int32)))) fun (y5 : Int32) =>
  dr G 9 ((M.2 a 2)) fun b6 =>
  dr G 13 ((M.2 b6 2)) fun b7 =>
  chk (¬ (((1 : Int32)) < 0 ∨ G.2.2 b7 ≤ ((1 : Int32)).toNatClampNeg)) <|
  ltt (M.1 b7 ((1 : Int32)).toNatClampNeg) fun x8 =>
  bnd (if x8 = ((1 : Int32)) then (some ((1 : Int32))) else
  (some ((0 : Int32)))) fun (y9 : Int32) =>
  dr G 4 ((M.2 b6 0)) fun b10 =>
  bnd (FX4_blocks G M b10) fun y11 =>
  chk (¬ (((0 : Int32)) < 0 ∨ G.2.2 b3 ≤ ((0 : Int32)).toNatClampNeg)) <|
  ltt (y11.1.1 b3 ((0 : Int32)).toNatClampNeg) fun x12 =>
  chk (¬ (((12 : Int32)) < 0 ∨ G.2.2 b3 ≤ ((12 : Int32)).toNatClampNeg)) <|
  ltt (y11.1.1 b3 ((12 : Int32)).toNatClampNeg) fun x13 =>
  ltt (uI y11.1 a 20 x13) fun M14 =>
  bnd (if y9 = ((0 : Int32)) then (some (M14)) else
  (dr G 5 ((M14.2 a 0)) fun b337 =>
  bnd (FX5_beginData G M14 b337) fun y338 =>
  some (y338))) fun (y15 : DD) =>
  bnd (itr (fun (s17 : Int32 × Int32 × DD) => ((if ((32 : Int32)) < s17.2.1 then (some (.inr (.inl (s17.1, s17.2.1, s17.2.2)))) else
  (if y9 = ((0 : Int32)) then (if y5 = ((0 : Int32)) then (bnd (if y11.2 ≤ s17.1 then (some ((0 : Int64))) else
  (ltt ((y11.2 - s17.1)) fun x334 =>
  ltt (x334.toInt64) fun x335 =>
  some (x335))) fun (y169 : Int64) =>
  dr G 5 ((s17.2.2.2 a 0)) fun b170 =>
  bnd (FX5_number G s17.2.2 b170 ((0 : Int32)) ((0 : Int32)) ((0 : Int64)) y169) fun y171 =>
  bnd (itr (fun (s173 : Int32 × Int32 × DD) => ((if y171.2 ≤ s173.2.1 then (some (.inr (s173.1, s173.2.1, s173.2.2))) else
  (bnd (FX1_claim G s173.2.2 a s173.1) fun y327 =>
  bnd (FX1_readSkipped G y327 a s173.1) fun y328 =>
  bnd (FX1_rebuild G y328 a s173.1) fun y329 =>
  bnd (FX1_endBlock G y329 a s173.1) fun y330 =>
  ltt (s173.1 + (1 : Int32)) fun x331 =>
  ltt (s173.2.1 + (1 : Int32)) fun x332 =>
  some (.inl (x331, x332, y330)))) : Option ((Int32 × Int32 × DD) ⊕ (Int32 × Int32 × DD)))) 1000000 (s17.1, (0 : Int32), y171.1)) fun (y172 : Int32 × Int32 × DD) =>
  if y171.2 ≤ ((0 : Int32)) then (bnd (FX1_claim G y172.2.2 a y172.1) fun y176 =>
  bnd (if y9 = ((0 : Int32)) then (bnd (FX1_readBlock G y176 a y172.1) fun y191 =>
  dr G 9 ((y191.2 a 2)) fun b192 =>
  ltt ((((8 : Int32)) * y172.1)) fun x193 =>
  ltt ((x193 + ((0 : Int32)))) fun x194 =>
  dr G 13 ((y191.2 b192 6)) fun b195 =>
  chk (¬ (x194 < 0 ∨ G.2.2 b195 ≤ x194.toNatClampNeg)) <|
  ltt (y191.1 b195 x194.toNatClampNeg) fun x196 =>
  bnd (if x196 = ((2 : Int32)) then (dr G 6 ((y191.2 a 3)) fun b205 =>
  dr G 5 ((y191.2 a 0)) fun b206 =>
  bnd (FX5_rawSamples G y191 b206 ((y191.2 b205 0))) fun y207 =>
  some (y207)) else
  (some (y191))) fun (y197 : DD) =>
  bnd (FX1_readReferences G y197 a y172.1 ((0 : Int32))) fun y198 =>
  bnd (FX1_readReferences G y198 a y172.1 ((1 : Int32))) fun y199 =>
  bnd (FX1_readVectors G y199 a y172.1 ((0 : Int32))) fun y200 =>
  bnd (FX1_readVectors G y200 a y172.1 ((1 : Int32))) fun y201 =>
  bnd (FX1_readPattern G y201 a y172.1) fun y202 =>
  bnd (FX1_readLevels G y202 a y172.1) fun y203 =>
  some (y203)) else
  (bnd (if y5 = ((0 : Int32)) then (dr G 5 ((y176.2 a 0)) fun b227 =>
  bnd (FX5_bit G y176 b227 ((0 : Int32)) ((0 : Int32))) fun y228 =>
  bnd (if y228.2 = ((1 : Int32)) then (bnd (FX1_readSkipped G y228.1 a y172.1) fun y248 =>
  some (y248)) else
  (bnd (FX1_readBlock G y228.1 a y172.1) fun y231 =>
  dr G 9 ((y231.2 a 2)) fun b232 =>
  ltt ((((8 : Int32)) * y172.1)) fun x233 =>
  ltt ((x233 + ((0 : Int32)))) fun x234 =>
  dr G 13 ((y231.2 b232 6)) fun b235 =>
  chk (¬ (x234 < 0 ∨ G.2.2 b235 ≤ x234.toNatClampNeg)) <|
  ltt (y231.1 b235 x234.toNatClampNeg) fun x236 =>
  bnd (if x236 = ((2 : Int32)) then (dr G 6 ((y231.2 a 3)) fun b245 =>
  dr G 5 ((y231.2 a 0)) fun b246 =>
  bnd (FX5_rawSamples G y231 b246 ((y231.2 b245 0))) fun y247 =>
  some (y247)) else
  (some (y231))) fun (y237 : DD) =>
  bnd (FX1_readReferences G y237 a y172.1 ((0 : Int32))) fun y238 =>
  bnd (FX1_readReferences G y238 a y172.1 ((1 : Int32))) fun y239 =>
  bnd (FX1_readVectors G y239 a y172.1 ((0 : Int32))) fun y240 =>
  bnd (FX1_readVectors G y240 a y172.1 ((1 : Int32))) fun y241 =>
  bnd (FX1_readPattern G y241 a y172.1) fun y242 =>
  bnd (FX1_readLevels G y242 a y172.1) fun y243 =>
  some (y243))) fun (y229 : DD) =>
  some (y229)) else
  (bnd (FX1_readBlock G y176 a y172.1) fun y210 =>
  dr G 9 ((y210.2 a 2)) fun b211 =>
  ltt ((((8 : Int32)) * y172.1)) fun x212 =>
  ltt ((x212 + ((0 : Int32)))) fun x213 =>
  dr G 13 ((y210.2 b211 6)) fun b214 =>
  chk (¬ (x213 < 0 ∨ G.2.2 b214 ≤ x213.toNatClampNeg)) <|
  ltt (y210.1 b214 x213.toNatClampNeg) fun x215 =>
  bnd (if x215 = ((2 : Int32)) then (dr G 6 ((y210.2 a 3)) fun b224 =>
  dr G 5 ((y210.2 a 0)) fun b225 =>
  bnd (FX5_rawSamples G y210 b225 ((y210.2 b224 0))) fun y226 =>
  some (y226)) else
  (some (y210))) fun (y216 : DD) =>
  bnd (FX1_readReferences G y216 a y172.1 ((0 : Int32))) fun y217 =>
  bnd (FX1_readReferences G y217 a y172.1 ((1 : Int32))) fun y218 =>
  bnd (FX1_readVectors G y218 a y172.1 ((0 : Int32))) fun y219 =>
  bnd (FX1_readVectors G y219 a y172.1 ((1 : Int32))) fun y220 =>
  bnd (FX1_readPattern G y220 a y172.1) fun y221 =>
  bnd (FX1_readLevels G y221 a y172.1) fun y222 =>
  some (y222))) fun (y208 : DD) =>
  some (y208))) fun (y177 : DD) =>
  bnd (FX1_rebuild G y177 a y172.1) fun y178 =>
  bnd (FX1_endBlock G y178 a y172.1) fun y179 =>
  ltt (y172.1 + (1 : Int32)) fun x180 =>
  if y9 = ((0 : Int32)) then (dr G 5 ((y179.2 a 0)) fun b182 =>
  bnd (FX5_more G y179 b182) fun y183 =>
  if y183.2 = ((0 : Int32)) then (some (.inr (.inr y183.1))) else
  (ltt (s17.2.1 + (1 : Int32)) fun x185 =>
  some (.inl (x180, x185, y183.1)))) else
  (dr G 5 ((y179.2 a 0)) fun b186 =>
  bnd (FX5_isLast G y179 b186) fun y187 =>
  if y187.2 = ((0 : Int32)) then (ltt (s17.2.1 + (1 : Int32)) fun x189 =>
  some (.inl (x180, x189, y187.1))) else
  (some (.inr (.inr y187.1))))) else
  (dr G 5 ((y172.2.2.2 a 0)) fun b249 =>
  bnd (FX5_more G y172.2.2 b249) fun y250 =>
  if y250.2 = ((0 : Int32)) then (some (.inr (.inr y250.1))) else
  (bnd (FX1_claim G y250.1 a y172.1) fun y252 =>
  bnd (if y9 = ((0 : Int32)) then (bnd (FX1_readBlock G y252 a y172.1) fun y267 =>
  dr G 9 ((y267.2 a 2)) fun b268 =>
  ltt ((((8 : Int32)) * y172.1)) fun x269 =>
  ltt ((x269 + ((0 : Int32)))) fun x270 =>
  dr G 13 ((y267.2 b268 6)) fun b271 =>
  chk (¬ (x270 < 0 ∨ G.2.2 b271 ≤ x270.toNatClampNeg)) <|
  ltt (y267.1 b271 x270.toNatClampNeg) fun x272 =>
  bnd (if x272 = ((2 : Int32)) then (dr G 6 ((y267.2 a 3)) fun b281 =>
  dr G 5 ((y267.2 a 0)) fun b282 =>
  bnd (FX5_rawSamples G y267 b282 ((y267.2 b281 0))) fun y283 =>
  some (y283)) else
  (some (y267))) fun (y273 : DD) =>
  bnd (FX1_readReferences G y273 a y172.1 ((0 : Int32))) fun y274 =>
  bnd (FX1_readReferences G y274 a y172.1 ((1 : Int32))) fun y275 =>
  bnd (FX1_readVectors G y275 a y172.1 ((0 : Int32))) fun y276 =>
  bnd (FX1_readVectors G y276 a y172.1 ((1 : Int32))) fun y277 =>
  bnd (FX1_readPattern G y277 a y172.1) fun y278 =>
  bnd (FX1_readLevels G y278 a y172.1) fun y279 =>
  some (y279)) else
  (bnd (if y5 = ((0 : Int32)) then (dr G 5 ((y252.2 a 0)) fun b303 =>
  bnd (FX5_bit G y252 b303 ((0 : Int32)) ((0 : Int32))) fun y304 =>
  bnd (if y304.2 = ((1 : Int32)) then (bnd (FX1_readSkipped G y304.1 a y172.1) fun y324 =>
  some (y324)) else
  (bnd (FX1_readBlock G y304.1 a y172.1) fun y307 =>
  dr G 9 ((y307.2 a 2)) fun b308 =>
  ltt ((((8 : Int32)) * y172.1)) fun x309 =>
  ltt ((x309 + ((0 : Int32)))) fun x310 =>
  dr G 13 ((y307.2 b308 6)) fun b311 =>
  chk (¬ (x310 < 0 ∨ G.2.2 b311 ≤ x310.toNatClampNeg)) <|
  ltt (y307.1 b311 x310.toNatClampNeg) fun x312 =>
  bnd (if x312 = ((2 : Int32)) then (dr G 6 ((y307.2 a 3)) fun b321 =>
  dr G 5 ((y307.2 a 0)) fun b322 =>
  bnd (FX5_rawSamples G y307 b322 ((y307.2 b321 0))) fun y323 =>
  some (y323)) else
  (some (y307))) fun (y313 : DD) =>
  bnd (FX1_readReferences G y313 a y172.1 ((0 : Int32))) fun y314 =>
  bnd (FX1_readReferences G y314 a y172.1 ((1 : Int32))) fun y315 =>
  bnd (FX1_readVectors G y315 a y172.1 ((0 : Int32))) fun y316 =>
  bnd (FX1_readVectors G y316 a y172.1 ((1 : Int32))) fun y317 =>
  bnd (FX1_readPattern G y317 a y172.1) fun y318 =>
  bnd (FX1_readLevels G y318 a y172.1) fun y319 =>
  some (y319))) fun (y305 : DD) =>
  some (y305)) else
  (bnd (FX1_readBlock G y252 a y172.1) fun y286 =>
  dr G 9 ((y286.2 a 2)) fun b287 =>
  ltt ((((8 : Int32)) * y172.1)) fun x288 =>
  ltt ((x288 + ((0 : Int32)))) fun x289 =>
  dr G 13 ((y286.2 b287 6)) fun b290 =>
  chk (¬ (x289 < 0 ∨ G.2.2 b290 ≤ x289.toNatClampNeg)) <|
  ltt (y286.1 b290 x289.toNatClampNeg) fun x291 =>
  bnd (if x291 = ((2 : Int32)) then (dr G 6 ((y286.2 a 3)) fun b300 =>
  dr G 5 ((y286.2 a 0)) fun b301 =>
  bnd (FX5_rawSamples G y286 b301 ((y286.2 b300 0))) fun y302 =>
  some (y302)) else
  (some (y286))) fun (y292 : DD) =>
  bnd (FX1_readReferences G y292 a y172.1 ((0 : Int32))) fun y293 =>
  bnd (FX1_readReferences G y293 a y172.1 ((1 : Int32))) fun y294 =>
  bnd (FX1_readVectors G y294 a y172.1 ((0 : Int32))) fun y295 =>
  bnd (FX1_readVectors G y295 a y172.1 ((1 : Int32))) fun y296 =>
  bnd (FX1_readPattern G y296 a y172.1) fun y297 =>
  bnd (FX1_readLevels G y297 a y172.1) fun y298 =>
  some (y298))) fun (y284 : DD) =>
  some (y284))) fun (y253 : DD) =>
  bnd (FX1_rebuild G y253 a y172.1) fun y254 =>
  bnd (FX1_endBlock G y254 a y172.1) fun y255 =>
  ltt (y172.1 + (1 : Int32)) fun x256 =>
  if y9 = ((0 : Int32)) then (dr G 5 ((y255.2 a 0)) fun b258 =>
  bnd (FX5_more G y255 b258) fun y259 =>
  if y259.2 = ((0 : Int32)) then (some (.inr (.inr y259.1))) else
  (ltt (s17.2.1 + (1 : Int32)) fun x261 =>
  some (.inl (x256, x261, y259.1)))) else
  (dr G 5 ((y255.2 a 0)) fun b262 =>
  bnd (FX5_isLast G y255 b262) fun y263 =>
  if y263.2 = ((0 : Int32)) then (ltt (s17.2.1 + (1 : Int32)) fun x265 =>
  some (.inl (x256, x265, y263.1))) else
  (some (.inr (.inr y263.1))))))) else
  (bnd (FX1_claim G s17.2.2 a s17.1) fun y96 =>
  bnd (if y9 = ((0 : Int32)) then (bnd (FX1_readBlock G y96 a s17.1) fun y111 =>
  dr G 9 ((y111.2 a 2)) fun b112 =>
  ltt ((((8 : Int32)) * s17.1)) fun x113 =>
  ltt ((x113 + ((0 : Int32)))) fun x114 =>
  dr G 13 ((y111.2 b112 6)) fun b115 =>
  chk (¬ (x114 < 0 ∨ G.2.2 b115 ≤ x114.toNatClampNeg)) <|
  ltt (y111.1 b115 x114.toNatClampNeg) fun x116 =>
  bnd (if x116 = ((2 : Int32)) then (dr G 6 ((y111.2 a 3)) fun b125 =>
  dr G 5 ((y111.2 a 0)) fun b126 =>
  bnd (FX5_rawSamples G y111 b126 ((y111.2 b125 0))) fun y127 =>
  some (y127)) else
  (some (y111))) fun (y117 : DD) =>
  bnd (FX1_readReferences G y117 a s17.1 ((0 : Int32))) fun y118 =>
  bnd (FX1_readReferences G y118 a s17.1 ((1 : Int32))) fun y119 =>
  bnd (FX1_readVectors G y119 a s17.1 ((0 : Int32))) fun y120 =>
  bnd (FX1_readVectors G y120 a s17.1 ((1 : Int32))) fun y121 =>
  bnd (FX1_readPattern G y121 a s17.1) fun y122 =>
  bnd (FX1_readLevels G y122 a s17.1) fun y123 =>
  some (y123)) else
  (bnd (if y5 = ((0 : Int32)) then (dr G 5 ((y96.2 a 0)) fun b147 =>
  bnd (FX5_bit G y96 b147 ((0 : Int32)) ((0 : Int32))) fun y148 =>
  bnd (if y148.2 = ((1 : Int32)) then (bnd (FX1_readSkipped G y148.1 a s17.1) fun y168 =>
  some (y168)) else
  (bnd (FX1_readBlock G y148.1 a s17.1) fun y151 =>
  dr G 9 ((y151.2 a 2)) fun b152 =>
  ltt ((((8 : Int32)) * s17.1)) fun x153 =>
  ltt ((x153 + ((0 : Int32)))) fun x154 =>
  dr G 13 ((y151.2 b152 6)) fun b155 =>
  chk (¬ (x154 < 0 ∨ G.2.2 b155 ≤ x154.toNatClampNeg)) <|
  ltt (y151.1 b155 x154.toNatClampNeg) fun x156 =>
  bnd (if x156 = ((2 : Int32)) then (dr G 6 ((y151.2 a 3)) fun b165 =>
  dr G 5 ((y151.2 a 0)) fun b166 =>
  bnd (FX5_rawSamples G y151 b166 ((y151.2 b165 0))) fun y167 =>
  some (y167)) else
  (some (y151))) fun (y157 : DD) =>
  bnd (FX1_readReferences G y157 a s17.1 ((0 : Int32))) fun y158 =>
  bnd (FX1_readReferences G y158 a s17.1 ((1 : Int32))) fun y159 =>
  bnd (FX1_readVectors G y159 a s17.1 ((0 : Int32))) fun y160 =>
  bnd (FX1_readVectors G y160 a s17.1 ((1 : Int32))) fun y161 =>
  bnd (FX1_readPattern G y161 a s17.1) fun y162 =>
  bnd (FX1_readLevels G y162 a s17.1) fun y163 =>
  some (y163))) fun (y149 : DD) =>
  some (y149)) else
  (bnd (FX1_readBlock G y96 a s17.1) fun y130 =>
  dr G 9 ((y130.2 a 2)) fun b131 =>
  ltt ((((8 : Int32)) * s17.1)) fun x132 =>
  ltt ((x132 + ((0 : Int32)))) fun x133 =>
  dr G 13 ((y130.2 b131 6)) fun b134 =>
  chk (¬ (x133 < 0 ∨ G.2.2 b134 ≤ x133.toNatClampNeg)) <|
  ltt (y130.1 b134 x133.toNatClampNeg) fun x135 =>
  bnd (if x135 = ((2 : Int32)) then (dr G 6 ((y130.2 a 3)) fun b144 =>
  dr G 5 ((y130.2 a 0)) fun b145 =>
  bnd (FX5_rawSamples G y130 b145 ((y130.2 b144 0))) fun y146 =>
  some (y146)) else
  (some (y130))) fun (y136 : DD) =>
  bnd (FX1_readReferences G y136 a s17.1 ((0 : Int32))) fun y137 =>
  bnd (FX1_readReferences G y137 a s17.1 ((1 : Int32))) fun y138 =>
  bnd (FX1_readVectors G y138 a s17.1 ((0 : Int32))) fun y139 =>
  bnd (FX1_readVectors G y139 a s17.1 ((1 : Int32))) fun y140 =>
  bnd (FX1_readPattern G y140 a s17.1) fun y141 =>
  bnd (FX1_readLevels G y141 a s17.1) fun y142 =>
  some (y142))) fun (y128 : DD) =>
  some (y128))) fun (y97 : DD) =>
  bnd (FX1_rebuild G y97 a s17.1) fun y98 =>
  bnd (FX1_endBlock G y98 a s17.1) fun y99 =>
  ltt (s17.1 + (1 : Int32)) fun x100 =>
  if y9 = ((0 : Int32)) then (dr G 5 ((y99.2 a 0)) fun b102 =>
  bnd (FX5_more G y99 b102) fun y103 =>
  if y103.2 = ((0 : Int32)) then (some (.inr (.inr y103.1))) else
  (ltt (s17.2.1 + (1 : Int32)) fun x105 =>
  some (.inl (x100, x105, y103.1)))) else
  (dr G 5 ((y99.2 a 0)) fun b106 =>
  bnd (FX5_isLast G y99 b106) fun y107 =>
  if y107.2 = ((0 : Int32)) then (ltt (s17.2.1 + (1 : Int32)) fun x109 =>
  some (.inl (x100, x109, y107.1))) else
  (some (.inr (.inr y107.1)))))) else
  (bnd (FX1_claim G s17.2.2 a s17.1) fun y22 =>
  bnd (if y9 = ((0 : Int32)) then (bnd (FX1_readBlock G y22 a s17.1) fun y37 =>
  dr G 9 ((y37.2 a 2)) fun b38 =>
  ltt ((((8 : Int32)) * s17.1)) fun x39 =>
  ltt ((x39 + ((0 : Int32)))) fun x40 =>
  dr G 13 ((y37.2 b38 6)) fun b41 =>
  chk (¬ (x40 < 0 ∨ G.2.2 b41 ≤ x40.toNatClampNeg)) <|
  ltt (y37.1 b41 x40.toNatClampNeg) fun x42 =>
  bnd (if x42 = ((2 : Int32)) then (dr G 6 ((y37.2 a 3)) fun b51 =>
  dr G 5 ((y37.2 a 0)) fun b52 =>
  bnd (FX5_rawSamples G y37 b52 ((y37.2 b51 0))) fun y53 =>
  some (y53)) else
  (some (y37))) fun (y43 : DD) =>
  bnd (FX1_readReferences G y43 a s17.1 ((0 : Int32))) fun y44 =>
  bnd (FX1_readReferences G y44 a s17.1 ((1 : Int32))) fun y45 =>
  bnd (FX1_readVectors G y45 a s17.1 ((0 : Int32))) fun y46 =>
  bnd (FX1_readVectors G y46 a s17.1 ((1 : Int32))) fun y47 =>
  bnd (FX1_readPattern G y47 a s17.1) fun y48 =>
  bnd (FX1_readLevels G y48 a s17.1) fun y49 =>
  some (y49)) else
  (bnd (if y5 = ((0 : Int32)) then (dr G 5 ((y22.2 a 0)) fun b73 =>
  bnd (FX5_bit G y22 b73 ((0 : Int32)) ((0 : Int32))) fun y74 =>
  bnd (if y74.2 = ((1 : Int32)) then (bnd (FX1_readSkipped G y74.1 a s17.1) fun y94 =>
  some (y94)) else
  (bnd (FX1_readBlock G y74.1 a s17.1) fun y77 =>
  dr G 9 ((y77.2 a 2)) fun b78 =>
  ltt ((((8 : Int32)) * s17.1)) fun x79 =>
  ltt ((x79 + ((0 : Int32)))) fun x80 =>
  dr G 13 ((y77.2 b78 6)) fun b81 =>
  chk (¬ (x80 < 0 ∨ G.2.2 b81 ≤ x80.toNatClampNeg)) <|
  ltt (y77.1 b81 x80.toNatClampNeg) fun x82 =>
  bnd (if x82 = ((2 : Int32)) then (dr G 6 ((y77.2 a 3)) fun b91 =>
  dr G 5 ((y77.2 a 0)) fun b92 =>
  bnd (FX5_rawSamples G y77 b92 ((y77.2 b91 0))) fun y93 =>
  some (y93)) else
  (some (y77))) fun (y83 : DD) =>
  bnd (FX1_readReferences G y83 a s17.1 ((0 : Int32))) fun y84 =>
  bnd (FX1_readReferences G y84 a s17.1 ((1 : Int32))) fun y85 =>
  bnd (FX1_readVectors G y85 a s17.1 ((0 : Int32))) fun y86 =>
  bnd (FX1_readVectors G y86 a s17.1 ((1 : Int32))) fun y87 =>
  bnd (FX1_readPattern G y87 a s17.1) fun y88 =>
  bnd (FX1_readLevels G y88 a s17.1) fun y89 =>
  some (y89))) fun (y75 : DD) =>
  some (y75)) else
  (bnd (FX1_readBlock G y22 a s17.1) fun y56 =>
  dr G 9 ((y56.2 a 2)) fun b57 =>
  ltt ((((8 : Int32)) * s17.1)) fun x58 =>
  ltt ((x58 + ((0 : Int32)))) fun x59 =>
  dr G 13 ((y56.2 b57 6)) fun b60 =>
  chk (¬ (x59 < 0 ∨ G.2.2 b60 ≤ x59.toNatClampNeg)) <|
  ltt (y56.1 b60 x59.toNatClampNeg) fun x61 =>
  bnd (if x61 = ((2 : Int32)) then (dr G 6 ((y56.2 a 3)) fun b70 =>
  dr G 5 ((y56.2 a 0)) fun b71 =>
  bnd (FX5_rawSamples G y56 b71 ((y56.2 b70 0))) fun y72 =>
  some (y72)) else
  (some (y56))) fun (y62 : DD) =>
  bnd (FX1_readReferences G y62 a s17.1 ((0 : Int32))) fun y63 =>
  bnd (FX1_readReferences G y63 a s17.1 ((1 : Int32))) fun y64 =>
  bnd (FX1_readVectors G y64 a s17.1 ((0 : Int32))) fun y65 =>
  bnd (FX1_readVectors G y65 a s17.1 ((1 : Int32))) fun y66 =>
  bnd (FX1_readPattern G y66 a s17.1) fun y67 =>
  bnd (FX1_readLevels G y67 a s17.1) fun y68 =>
  some (y68))) fun (y54 : DD) =>
  some (y54))) fun (y23 : DD) =>
  bnd (FX1_rebuild G y23 a s17.1) fun y24 =>
  bnd (FX1_endBlock G y24 a s17.1) fun y25 =>
  ltt (s17.1 + (1 : Int32)) fun x26 =>
  if y9 = ((0 : Int32)) then (dr G 5 ((y25.2 a 0)) fun b28 =>
  bnd (FX5_more G y25 b28) fun y29 =>
  if y29.2 = ((0 : Int32)) then (some (.inr (.inr y29.1))) else
  (ltt (s17.2.1 + (1 : Int32)) fun x31 =>
  some (.inl (x26, x31, y29.1)))) else
  (dr G 5 ((y25.2 a 0)) fun b32 =>
  bnd (FX5_isLast G y25 b32) fun y33 =>
  if y33.2 = ((0 : Int32)) then (ltt (s17.2.1 + (1 : Int32)) fun x35 =>
  some (.inl (x26, x35, y33.1))) else
  (some (.inr (.inr y33.1))))))) : Option ((Int32 × Int32 × DD) ⊕ ((Int32 × Int32 × DD) ⊕ (DD))))) 1000000 (x12, (0 : Int32), y15)) fun (y16 : (Int32 × Int32 × DD) ⊕ (DD)) =>
  sel y16 (fun (z16k : Int32 × Int32 × DD) =>
  some z16k.2.2) fun r9 => some r9
set_option maxHeartbeats 4000000 in
set_option maxRecDepth 100000 in
def FX1_readLists (G : GG) (M : DD) (a : Nat) (p0 : Option Nat) (p1 : Option Nat) : Option (DD) :=
  dr G 3 ((M.2 a 10)) fun b2 =>
  dr G 13 ((M.2 b2 0)) fun b3 =>
  chk (¬ (((1 : Int32)) < 0 ∨ G.2.2 b3 ≤ ((1 : Int32)).toNatClampNeg)) <|
  ltt (M.1 b3 ((1 : Int32)).toNatClampNeg) fun x4 =>
  bnd (if x4 = ((1 : Int32)) then (some ((1 : Int32))) else
  (some ((0 : Int32)))) fun (y5 : Int32) =>
  bnd (if y5 = ((0 : Int32)) then (some ((0 : Int32), M)) else
  (dr G 5 ((M.2 a 0)) fun b65 =>
  bnd (FX5_fixed G M b65 ((0 : Int32)) ((1 : Int32))) fun y66 =>
  some (y66.2, y66.1))) fun (y6 : Int32 × DD) =>
  chk (¬ (((8 : Int32)) < 0 ∨ G.2.2 b3 ≤ ((8 : Int32)).toNatClampNeg)) <|
  ltt (uI y6.2 b3 ((8 : Int32)).toNatClampNeg y6.1) fun M7 =>
  dr G 13 p1 fun b8 =>
  chk (¬ (((3 : Int32)) < 0 ∨ G.2.2 b8 ≤ ((3 : Int32)).toNatClampNeg)) <|
  ltt (M7.1 b8 ((3 : Int32)).toNatClampNeg) fun x9 =>
  chk (¬ (((9 : Int32)) < 0 ∨ G.2.2 b3 ≤ ((9 : Int32)).toNatClampNeg)) <|
  ltt (uI M7 b3 ((9 : Int32)).toNatClampNeg x9) fun M10 =>
  bnd (if y5 = ((0 : Int32)) then (some ((0 : Int32))) else
  (chk (¬ (((4 : Int32)) < 0 ∨ G.2.2 b8 ≤ ((4 : Int32)).toNatClampNeg)) <|
  ltt (M10.1 b8 ((4 : Int32)).toNatClampNeg) fun x63 =>
  some (x63))) fun (y11 : Int32) =>
  chk (¬ (((10 : Int32)) < 0 ∨ G.2.2 b3 ≤ ((10 : Int32)).toNatClampNeg)) <|
  ltt (uI M10 b3 ((10 : Int32)).toNatClampNeg y11) fun M12 =>
  dr G 5 ((M12.2 a 0)) fun b13 =>
  bnd (FX5_fixed G M12 b13 ((0 : Int32)) ((1 : Int32))) fun y14 =>
  bnd (if y14.2 = ((1 : Int32)) then (bnd (FX1_unsigned G y14.1 a ((7 : Int32))) fun y54 =>
  ltt ((y54.2 + ((1 : Int32)))) fun x55 =>
  chk (¬ (((9 : Int32)) < 0 ∨ G.2.2 b3 ≤ ((9 : Int32)).toNatClampNeg)) <|
  ltt (uI y54.1 b3 ((9 : Int32)).toNatClampNeg x55) fun M56 =>
  bnd (if y5 = ((0 : Int32)) then (some ((0 : Int32), M56)) else
  (bnd (FX1_unsigned G M56 a ((7 : Int32))) fun y60 =>
  ltt ((y60.2 + ((1 : Int32)))) fun x61 =>
  some (x61, y60.1))) fun (y57 : Int32 × DD) =>
  chk (¬ (((10 : Int32)) < 0 ∨ G.2.2 b3 ≤ ((10 : Int32)).toNatClampNeg)) <|
  ltt (uI y57.2 b3 ((10 : Int32)).toNatClampNeg y57.1) fun M58 =>
  some (M58)) else
  (some (y14.1))) fun (y15 : DD) =>
  dr G 13 p0 fun b16 =>
  chk (¬ (((2 : Int32)) < 0 ∨ G.2.2 b16 ≤ ((2 : Int32)).toNatClampNeg)) <|
  ltt (y15.1 b16 ((2 : Int32)).toNatClampNeg) fun x17 =>
  ltt ((((1 : Int32)) <<< (x17 &&& 31))) fun x18 =>
  bnd (FX1_readMoves G y15 a ((0 : Int32)) x18) fun y19 =>
  bnd (if y5 = ((0 : Int32)) then (some (y19)) else
  (chk (¬ (((2 : Int32)) < 0 ∨ G.2.2 b16 ≤ ((2 : Int32)).toNatClampNeg)) <|
  ltt (y19.1 b16 ((2 : Int32)).toNatClampNeg) fun x50 =>
  ltt ((((1 : Int32)) <<< (x50 &&& 31))) fun x51 =>
  bnd (FX1_readMoves G y19 a ((1 : Int32)) x51) fun y52 =>
  some (y52))) fun (y20 : DD) =>
  bnd (if y5 = ((0 : Int32)) then (chk (¬ (((5 : Int32)) < 0 ∨ G.2.2 b8 ≤ ((5 : Int32)).toNatClampNeg)) <|
  ltt (y20.1 b8 ((5 : Int32)).toNatClampNeg) fun x23 =>
  bnd (if x23 = ((1 : Int32)) then (bnd (FX1_unsigned G y20 a ((7 : Int32))) fun y26 =>
  chk (¬ (((22 : Int32)) < 0 ∨ G.2.2 b3 ≤ ((22 : Int32)).toNatClampNeg)) <|
  ltt (uI y26.1 b3 ((22 : Int32)).toNatClampNeg y26.2) fun M27 =>
  bnd (FX1_unsigned G M27 a ((7 : Int32))) fun y28 =>
  chk (¬ (((23 : Int32)) < 0 ∨ G.2.2 b3 ≤ ((23 : Int32)).toNatClampNeg)) <|
  ltt (uI y28.1 b3 ((23 : Int32)).toNatClampNeg y28.2) fun M29 =>
  dr G 3 ((M29.2 a 10)) fun b30 =>
  bnd (FX3_clearWeights G M29 b30) fun y31 =>
  bnd (FX1_readWeights G y31 a ((0 : Int32))) fun y32 =>
  bnd (if y5 = ((0 : Int32)) then (some (y32)) else
  (bnd (FX1_readWeights G y32 a ((1 : Int32))) fun y35 =>
  some (y35))) fun (y33 : DD) =>
  some (y33)) else
  (some (y20))) fun (y24 : DD) =>
  some (y24)) else
  (chk (¬ (((6 : Int32)) < 0 ∨ G.2.2 b8 ≤ ((6 : Int32)).toNatClampNeg)) <|
  ltt (y20.1 b8 ((6 : Int32)).toNatClampNeg) fun x36 =>
  bnd (if x36 = ((1 : Int32)) then (bnd (FX1_unsigned G y20 a ((7 : Int32))) fun y39 =>
  chk (¬ (((22 : Int32)) < 0 ∨ G.2.2 b3 ≤ ((22 : Int32)).toNatClampNeg)) <|
  ltt (uI y39.1 b3 ((22 : Int32)).toNatClampNeg y39.2) fun M40 =>
  bnd (FX1_unsigned G M40 a ((7 : Int32))) fun y41 =>
  chk (¬ (((23 : Int32)) < 0 ∨ G.2.2 b3 ≤ ((23 : Int32)).toNatClampNeg)) <|
  ltt (uI y41.1 b3 ((23 : Int32)).toNatClampNeg y41.2) fun M42 =>
  dr G 3 ((M42.2 a 10)) fun b43 =>
  bnd (FX3_clearWeights G M42 b43) fun y44 =>
  bnd (FX1_readWeights G y44 a ((0 : Int32))) fun y45 =>
  bnd (if y5 = ((0 : Int32)) then (some (y45)) else
  (bnd (FX1_readWeights G y45 a ((1 : Int32))) fun y48 =>
  some (y48))) fun (y46 : DD) =>
  some (y46)) else
  (some (y20))) fun (y37 : DD) =>
  some (y37))) fun (y21 : DD) =>
  some y21
set_option maxHeartbeats 4000000 in
set_option maxRecDepth 100000 in
def FX1_readSequence (G : GG) (M : DD) (a : Nat)  : Option (DD) :=
  bnd (FJ7_fill_53178 G M ((M.2 a 9)) ((0 : Int32))) fun y1 =>
  dr G 5 ((y1.2 a 0)) fun b2 =>
  bnd (FX5_fixed G y1 b2 ((0 : Int32)) ((8 : Int32))) fun y3 =>
  dr G 5 ((y3.1.2 a 0)) fun b4 =>
  bnd (FX5_fixed G y3.1 b4 ((0 : Int32)) ((8 : Int32))) fun y5 =>
  dr G 5 ((y5.1.2 a 0)) fun b6 =>
  bnd (FX5_fixed G y5.1 b6 ((0 : Int32)) ((8 : Int32))) fun y7 =>
  bnd (FX1_unsigned G y7.1 a ((3 : Int32))) fun y8 =>
  bnd (FX1_unsigned G y8.1 a ((12 : Int32))) fun y9 =>
  ltt ((y9.2 + ((4 : Int32)))) fun x10 =>
  dr G 13 ((M.2 a 9)) fun b11 =>
  chk (¬ (((2 : Int32)) < 0 ∨ G.2.2 b11 ≤ ((2 : Int32)).toNatClampNeg)) <|
  ltt (uI y9.1 b11 ((2 : Int32)).toNatClampNeg x10) fun M12 =>
  bnd (FX1_unsigned G M12 a ((2 : Int32))) fun y13 =>
  chk (¬ (((3 : Int32)) < 0 ∨ G.2.2 b11 ≤ ((3 : Int32)).toNatClampNeg)) <|
  ltt (uI y13.1 b11 ((3 : Int32)).toNatClampNeg y13.2) fun M14 =>
  chk (¬ (((3 : Int32)) < 0 ∨ G.2.2 b11 ≤ ((3 : Int32)).toNatClampNeg)) <|
  ltt (M14.1 b11 ((3 : Int32)).toNatClampNeg) fun x15 =>
  bnd (if x15 = ((0 : Int32)) then (bnd (FX1_unsigned G M14 a ((12 : Int32))) fun y62 =>
  ltt ((y62.2 + ((4 : Int32)))) fun x63 =>
  chk (¬ (((4 : Int32)) < 0 ∨ G.2.2 b11 ≤ ((4 : Int32)).toNatClampNeg)) <|
  ltt (uI y62.1 b11 ((4 : Int32)).toNatClampNeg x63) fun M64 =>
  some (M64)) else
  (chk (¬ (((3 : Int32)) < 0 ∨ G.2.2 b11 ≤ ((3 : Int32)).toNatClampNeg)) <|
  ltt (M14.1 b11 ((3 : Int32)).toNatClampNeg) fun x58 =>
  bnd (if x58 = ((1 : Int32)) then (bnd (FX1_readTurns G M14 a ((M.2 a 9))) fun y61 =>
  some (y61)) else
  (some (M14))) fun (y59 : DD) =>
  some (y59))) fun (y16 : DD) =>
  bnd (FX1_unsigned G y16 a ((4 : Int32))) fun y17 =>
  chk (¬ (((5 : Int32)) < 0 ∨ G.2.2 b11 ≤ ((5 : Int32)).toNatClampNeg)) <|
  ltt (uI y17.1 b11 ((5 : Int32)).toNatClampNeg y17.2) fun M18 =>
  dr G 5 ((M18.2 a 0)) fun b19 =>
  bnd (FX5_fixed G M18 b19 ((0 : Int32)) ((1 : Int32))) fun y20 =>
  chk (¬ (((6 : Int32)) < 0 ∨ G.2.2 b11 ≤ ((6 : Int32)).toNatClampNeg)) <|
  ltt (uI y20.1 b11 ((6 : Int32)).toNatClampNeg y20.2) fun M21 =>
  bnd (FX1_unsigned G M21 a ((7 : Int32))) fun y22 =>
  ltt ((y22.2 + ((1 : Int32)))) fun x23 =>
  chk (¬ (((0 : Int32)) < 0 ∨ G.2.2 b11 ≤ ((0 : Int32)).toNatClampNeg)) <|
  ltt (uI y22.1 b11 ((0 : Int32)).toNatClampNeg x23) fun M24 =>
  bnd (FX1_unsigned G M24 a ((7 : Int32))) fun y25 =>
  ltt ((y25.2 + ((1 : Int32)))) fun x26 =>
  chk (¬ (((1 : Int32)) < 0 ∨ G.2.2 b11 ≤ ((1 : Int32)).toNatClampNeg)) <|
  ltt (uI y25.1 b11 ((1 : Int32)).toNatClampNeg x26) fun M27 =>
  chk (¬ (((0 : Int32)) < 0 ∨ G.2.2 b11 ≤ ((0 : Int32)).toNatClampNeg)) <|
  ltt (M27.1 b11 ((0 : Int32)).toNatClampNeg) fun x28 =>
  chk (¬ (((1 : Int32)) < 0 ∨ G.2.2 b11 ≤ ((1 : Int32)).toNatClampNeg)) <|
  ltt (M27.1 b11 ((1 : Int32)).toNatClampNeg) fun x29 =>
  ltt ((x28 * x29)) fun x30 =>
  bnd (if x30 ≤ ((32 : Int32)) then (some (M27)) else
  (dr G 5 ((M27.2 a 0)) fun b55 =>
  ltt (M27.1 b55 4) fun x56 =>
  none)) fun (y31 : DD) =>
  dr G 5 ((y31.2 a 0)) fun b32 =>
  bnd (FX5_expect G y31 b32 ((1 : Int32))) fun y33 =>
  dr G 5 ((y33.2 a 0)) fun b34 =>
  bnd (FX5_expect G y33 b34 ((1 : Int32))) fun y35 =>
  dr G 5 ((y35.2 a 0)) fun b36 =>
  bnd (FX5_fixed G y35 b36 ((0 : Int32)) ((1 : Int32))) fun y37 =>
  bnd (itr (fun (s39 : Int32 × DD) => ((if ((4 : Int32)) ≤ s39.1 then (some (.inr (s39.1, s39.2))) else
  (if y37.2 = ((1 : Int32)) then (ltt ((((7 : Int32)) + s39.1)) fun x50 =>
  bnd (FX1_unsigned G s39.2 a ((3 : Int32))) fun y51 =>
  chk (¬ (x50 < 0 ∨ G.2.2 b11 ≤ x50.toNatClampNeg)) <|
  ltt (uI y51.1 b11 x50.toNatClampNeg y51.2) fun M52 =>
  ltt (s39.1 + (1 : Int32)) fun x53 =>
  some (.inl (x53, M52))) else
  (some (.inr (s39.1, s39.2))))) : Option ((Int32 × DD) ⊕ (Int32 × DD)))) 1000000 ((0 : Int32), y37.1)) fun (y38 : Int32 × DD) =>
  dr G 5 ((y38.2.2 a 0)) fun b41 =>
  bnd (FX5_expect G y38.2 b41 ((0 : Int32))) fun y42 =>
  chk (¬ (((23 : Int32)) < 0 ∨ G.2.2 b11 ≤ ((23 : Int32)).toNatClampNeg)) <|
  ltt (uI y42 b11 ((23 : Int32)).toNatClampNeg ((1 : Int32))) fun M43 =>
  dr G 15 ((M43.2 a 5)) fun b44 =>
  chk (¬ (y8.2 < 0 ∨ G.2.2 b44 ≤ y8.2.toNatClampNeg)) <|
  dr G 13 ((M43.2 b44 y8.2.toNatClampNeg)) fun b45 =>
  chk (¬ ((0 : Int32)) < 0 ∧ ¬ ((0 : Int32)) < 0 ∧ ¬ ((24 : Int32)) < 0 ∧ ((0 : Int32)).toNatClampNeg + ((24 : Int32)).toNatClampNeg ≤ G.2.2 b11 ∧ ((0 : Int32)).toNatClampNeg + ((24 : Int32)).toNatClampNeg ≤ G.2.2 b45) <|
  ltt (rI M43 b45 (va_cpy (M43.1 b11) (M43.1 b45) ((0 : Int32)).toNatClampNeg ((0 : Int32)).toNatClampNeg ((24 : Int32)).toNatClampNeg)) fun M46 =>
  some M46
set_option maxHeartbeats 4000000 in
set_option maxRecDepth 100000 in
def FX0_chooseByChance (G : GG) (M : DD) (a : Nat) (p0 : Int32) : Option (DD) :=
  ltt ((((8 : Int32)) * p0)) fun x1 =>
  dr G 9 ((M.2 a 3)) fun b2 =>
  dr G 3 ((M.2 b2 1)) fun b3 =>
  dr G 13 ((M.2 b3 0)) fun b4 =>
  chk (¬ (((1 : Int32)) < 0 ∨ G.2.2 b4 ≤ ((1 : Int32)).toNatClampNeg)) <|
  ltt (M.1 b4 ((1 : Int32)).toNatClampNeg) fun x5 =>
  bnd (FX0_draw G M a ((16 : Int32))) fun y6 =>
  if y6.2 = ((0 : Int32)) then (bnd (FX0_draw G y6.1 a ((8 : Int32))) fun y186 =>
  if y186.2 = ((0 : Int32)) then (dr G 9 ((y186.1.2 a 3)) fun b366 =>
  ltt ((x1 + ((0 : Int32)))) fun x367 =>
  dr G 13 ((y186.1.2 b366 6)) fun b368 =>
  chk (¬ (x367 < 0 ∨ G.2.2 b368 ≤ x367.toNatClampNeg)) <|
  ltt (uI y186.1 b368 x367.toNatClampNeg ((2 : Int32))) fun M369 =>
  some M369) else
  (dr G 9 ((y186.1.2 a 3)) fun b188 =>
  bnd (FX9_sides G y186.1 b188 p0) fun y189 =>
  bnd (if ((1 : Int32)) = ((1 : Int32)) then (dr G 9 ((y189.1.2 a 3)) fun b192 =>
  ltt ((x1 + ((0 : Int32)))) fun x193 =>
  dr G 13 ((y189.1.2 b192 6)) fun b194 =>
  chk (¬ (x193 < 0 ∨ G.2.2 b194 ≤ x193.toNatClampNeg)) <|
  ltt (uI y189.1 b194 x193.toNatClampNeg ((1 : Int32))) fun M195 =>
  dr G 9 ((M195.2 a 3)) fun b196 =>
  ltt ((((16 : Int32)) * p0)) fun x197 =>
  ltt ((((16 : Int32)) * p0)) fun x198 =>
  ltt ((x198 + ((16 : Int32)))) fun x199 =>
  bnd (FX0_drawMode G M195 a ((1 : Int32)) ((4 : Int32)) y189.2) fun y200 =>
  bnd (FJ7_fill_fda19 G y200.1 ((M195.2 b196 7)) x197 x199 y200.2) fun y201 =>
  dr G 9 ((y201.2 a 3)) fun b202 =>
  ltt ((x1 + ((5 : Int32)))) fun x203 =>
  bnd (FX0_drawMode G y201 a ((-1 : Int32)) ((4 : Int32)) y189.2) fun y204 =>
  dr G 13 ((y201.2 b202 6)) fun b205 =>
  chk (¬ (x203 < 0 ∨ G.2.2 b205 ≤ x203.toNatClampNeg)) <|
  ltt (uI y204.1 b205 x203.toNatClampNeg y204.2) fun M206 =>
  some (M206)) else
  (bnd (if x5 = ((2 : Int32)) then (bnd (if ((8 : Int32)) ≤ ((1 : Int32)) then (bnd (if ((1 : Int32)) = ((2 : Int32)) then (dr G 9 ((y189.1.2 a 3)) fun b283 =>
  ltt ((x1 + ((0 : Int32)))) fun x284 =>
  dr G 13 ((y189.1.2 b283 6)) fun b285 =>
  chk (¬ (x284 < 0 ∨ G.2.2 b285 ≤ x284.toNatClampNeg)) <|
  ltt (uI y189.1 b285 x284.toNatClampNeg ((0 : Int32))) fun M286 =>
  bnd (itr (fun (s288 : Int32 × DD) => ((if ((16 : Int32)) ≤ s288.1 then (some (.inr (s288.1, s288.2))) else
  (dr G 9 ((s288.2.2 a 3)) fun b297 =>
  ltt ((((16 : Int32)) * p0)) fun x298 =>
  ltt ((x298 + s288.1)) fun x299 =>
  bnd (FX9_sidesOf G s288.2 s288.1 y189.2) fun y300 =>
  bnd (FX0_drawMode G y300.1 a ((0 : Int32)) ((9 : Int32)) y300.2) fun y301 =>
  dr G 13 ((s288.2.2 b297 7)) fun b302 =>
  chk (¬ (x299 < 0 ∨ G.2.2 b302 ≤ x299.toNatClampNeg)) <|
  ltt (uI y301.1 b302 x299.toNatClampNeg y301.2) fun M303 =>
  ltt (s288.1 + (1 : Int32)) fun x304 =>
  some (.inl (x304, M303)))) : Option ((Int32 × DD) ⊕ (Int32 × DD)))) 1000000 ((0 : Int32), M286)) fun (y287 : Int32 × DD) =>
  dr G 9 ((y287.2.2 a 3)) fun b290 =>
  ltt ((x1 + ((5 : Int32)))) fun x291 =>
  bnd (FX0_drawMode G y287.2 a ((-1 : Int32)) ((4 : Int32)) y189.2) fun y292 =>
  dr G 13 ((y287.2.2 b290 6)) fun b293 =>
  chk (¬ (x291 < 0 ∨ G.2.2 b293 ≤ x291.toNatClampNeg)) <|
  ltt (uI y292.1 b293 x291.toNatClampNeg y292.2) fun M294 =>
  some (y287.1, M294)) else
  (bnd (if x5 = ((2 : Int32)) then (dr G 9 ((y189.1.2 a 3)) fun b329 =>
  ltt ((x1 + ((0 : Int32)))) fun x330 =>
  dr G 13 ((y189.1.2 b329 6)) fun b331 =>
  chk (¬ (x330 < 0 ∨ G.2.2 b331 ≤ x330.toNatClampNeg)) <|
  ltt (uI y189.1 b331 x330.toNatClampNeg ((0 : Int32))) fun M332 =>
  bnd (itr (fun (s334 : Int32 × DD) => ((if ((16 : Int32)) ≤ s334.1 then (some (.inr (s334.1, s334.2))) else
  (dr G 9 ((s334.2.2 a 3)) fun b343 =>
  ltt ((((16 : Int32)) * p0)) fun x344 =>
  ltt ((x344 + s334.1)) fun x345 =>
  bnd (FX9_sidesOf G s334.2 s334.1 y189.2) fun y346 =>
  bnd (FX0_drawMode G y346.1 a ((0 : Int32)) ((9 : Int32)) y346.2) fun y347 =>
  dr G 13 ((s334.2.2 b343 7)) fun b348 =>
  chk (¬ (x345 < 0 ∨ G.2.2 b348 ≤ x345.toNatClampNeg)) <|
  ltt (uI y347.1 b348 x345.toNatClampNeg y347.2) fun M349 =>
  ltt (s334.1 + (1 : Int32)) fun x350 =>
  some (.inl (x350, M349)))) : Option ((Int32 × DD) ⊕ (Int32 × DD)))) 1000000 ((0 : Int32), M332)) fun (y333 : Int32 × DD) =>
  dr G 9 ((y333.2.2 a 3)) fun b336 =>
  ltt ((x1 + ((5 : Int32)))) fun x337 =>
  bnd (FX0_drawMode G y333.2 a ((-1 : Int32)) ((4 : Int32)) y189.2) fun y338 =>
  dr G 13 ((y333.2.2 b336 6)) fun b339 =>
  chk (¬ (x337 < 0 ∨ G.2.2 b339 ≤ x337.toNatClampNeg)) <|
  ltt (uI y338.1 b339 x337.toNatClampNeg y338.2) fun M340 =>
  some (y333.1, M340)) else
  (dr G 9 ((y189.1.2 a 3)) fun b307 =>
  ltt ((x1 + ((0 : Int32)))) fun x308 =>
  dr G 13 ((y189.1.2 b307 6)) fun b309 =>
  chk (¬ (x308 < 0 ∨ G.2.2 b309 ≤ x308.toNatClampNeg)) <|
  ltt (uI y189.1 b309 x308.toNatClampNeg ((3 : Int32))) fun M310 =>
  bnd (if x5 = ((0 : Int32)) then (bnd (if ((1 : Int32)) = ((3 : Int32)) then (some ((-1 : Int32))) else
  (bnd (if ((7 : Int32)) ≤ ((1 : Int32)) then (bnd (if ((9 : Int32)) ≤ ((1 : Int32)) then (bnd (if ((11 : Int32)) ≤ ((1 : Int32)) then (some ((3 : Int32))) else
  (some ((2 : Int32)))) fun (y327 : Int32) =>
  some (y327)) else
  (some ((1 : Int32)))) fun (y325 : Int32) =>
  some (y325)) else
  (some ((0 : Int32)))) fun (y323 : Int32) =>
  some (y323))) fun (y321 : Int32) =>
  some (y321, M310)) else
  (bnd (if ((5 : Int32)) ≤ ((1 : Int32)) then (bnd (if ((12 : Int32)) ≤ ((1 : Int32)) then (some ((22 : Int32), M310)) else
  (bnd (FX0_draw G M310 a ((21 : Int32))) fun y318 =>
  ltt ((((1 : Int32)) + y318.2)) fun x319 =>
  some (x319, y318.1))) fun (y316 : Int32 × DD) =>
  some (y316.1, y316.2)) else
  (ltt ((((1 : Int32)) - ((4 : Int32)))) fun x320 =>
  some (x320, M310))) fun (y314 : Int32 × DD) =>
  some (y314.1, y314.2))) fun (y311 : Int32 × DD) =>
  bnd (FX0_drawByLists G y311.2 a p0 x5 y311.1) fun y312 =>
  some (y311.1, y312))) fun (y305 : Int32 × DD) =>
  some (y305.1, y305.2))) fun (y281 : Int32 × DD) =>
  some (y281.2)) else
  (dr G 9 ((y189.1.2 a 3)) fun b351 =>
  ltt ((x1 + ((0 : Int32)))) fun x352 =>
  dr G 13 ((y189.1.2 b351 6)) fun b353 =>
  chk (¬ (x352 < 0 ∨ G.2.2 b353 ≤ x352.toNatClampNeg)) <|
  ltt (uI y189.1 b353 x352.toNatClampNeg ((1 : Int32))) fun M354 =>
  dr G 9 ((M354.2 a 3)) fun b355 =>
  ltt ((((16 : Int32)) * p0)) fun x356 =>
  ltt ((((16 : Int32)) * p0)) fun x357 =>
  ltt ((x357 + ((16 : Int32)))) fun x358 =>
  bnd (FX0_drawMode G M354 a ((1 : Int32)) ((4 : Int32)) y189.2) fun y359 =>
  bnd (FJ7_fill_fda19 G y359.1 ((M354.2 b355 7)) x356 x358 y359.2) fun y360 =>
  dr G 9 ((y360.2 a 3)) fun b361 =>
  ltt ((x1 + ((5 : Int32)))) fun x362 =>
  bnd (FX0_drawMode G y360 a ((-1 : Int32)) ((4 : Int32)) y189.2) fun y363 =>
  dr G 13 ((y360.2 b361 6)) fun b364 =>
  chk (¬ (x362 < 0 ∨ G.2.2 b364 ≤ x362.toNatClampNeg)) <|
  ltt (uI y363.1 b364 x362.toNatClampNeg y363.2) fun M365 =>
  some (M365))) fun (y279 : DD) =>
  some (y279)) else
  (bnd (if ((1 : Int32)) = ((2 : Int32)) then (dr G 9 ((y189.1.2 a 3)) fun b211 =>
  ltt ((x1 + ((0 : Int32)))) fun x212 =>
  dr G 13 ((y189.1.2 b211 6)) fun b213 =>
  chk (¬ (x212 < 0 ∨ G.2.2 b213 ≤ x212.toNatClampNeg)) <|
  ltt (uI y189.1 b213 x212.toNatClampNeg ((0 : Int32))) fun M214 =>
  bnd (itr (fun (s216 : Int32 × DD) => ((if ((16 : Int32)) ≤ s216.1 then (some (.inr (s216.1, s216.2))) else
  (dr G 9 ((s216.2.2 a 3)) fun b225 =>
  ltt ((((16 : Int32)) * p0)) fun x226 =>
  ltt ((x226 + s216.1)) fun x227 =>
  bnd (FX9_sidesOf G s216.2 s216.1 y189.2) fun y228 =>
  bnd (FX0_drawMode G y228.1 a ((0 : Int32)) ((9 : Int32)) y228.2) fun y229 =>
  dr G 13 ((s216.2.2 b225 7)) fun b230 =>
  chk (¬ (x227 < 0 ∨ G.2.2 b230 ≤ x227.toNatClampNeg)) <|
  ltt (uI y229.1 b230 x227.toNatClampNeg y229.2) fun M231 =>
  ltt (s216.1 + (1 : Int32)) fun x232 =>
  some (.inl (x232, M231)))) : Option ((Int32 × DD) ⊕ (Int32 × DD)))) 1000000 ((0 : Int32), M214)) fun (y215 : Int32 × DD) =>
  dr G 9 ((y215.2.2 a 3)) fun b218 =>
  ltt ((x1 + ((5 : Int32)))) fun x219 =>
  bnd (FX0_drawMode G y215.2 a ((-1 : Int32)) ((4 : Int32)) y189.2) fun y220 =>
  dr G 13 ((y215.2.2 b218 6)) fun b221 =>
  chk (¬ (x219 < 0 ∨ G.2.2 b221 ≤ x219.toNatClampNeg)) <|
  ltt (uI y220.1 b221 x219.toNatClampNeg y220.2) fun M222 =>
  some (y215.1, M222)) else
  (bnd (if x5 = ((2 : Int32)) then (dr G 9 ((y189.1.2 a 3)) fun b257 =>
  ltt ((x1 + ((0 : Int32)))) fun x258 =>
  dr G 13 ((y189.1.2 b257 6)) fun b259 =>
  chk (¬ (x258 < 0 ∨ G.2.2 b259 ≤ x258.toNatClampNeg)) <|
  ltt (uI y189.1 b259 x258.toNatClampNeg ((0 : Int32))) fun M260 =>
  bnd (itr (fun (s262 : Int32 × DD) => ((if ((16 : Int32)) ≤ s262.1 then (some (.inr (s262.1, s262.2))) else
  (dr G 9 ((s262.2.2 a 3)) fun b271 =>
  ltt ((((16 : Int32)) * p0)) fun x272 =>
  ltt ((x272 + s262.1)) fun x273 =>
  bnd (FX9_sidesOf G s262.2 s262.1 y189.2) fun y274 =>
  bnd (FX0_drawMode G y274.1 a ((0 : Int32)) ((9 : Int32)) y274.2) fun y275 =>
  dr G 13 ((s262.2.2 b271 7)) fun b276 =>
  chk (¬ (x273 < 0 ∨ G.2.2 b276 ≤ x273.toNatClampNeg)) <|
  ltt (uI y275.1 b276 x273.toNatClampNeg y275.2) fun M277 =>
  ltt (s262.1 + (1 : Int32)) fun x278 =>
  some (.inl (x278, M277)))) : Option ((Int32 × DD) ⊕ (Int32 × DD)))) 1000000 ((0 : Int32), M260)) fun (y261 : Int32 × DD) =>
  dr G 9 ((y261.2.2 a 3)) fun b264 =>
  ltt ((x1 + ((5 : Int32)))) fun x265 =>
  bnd (FX0_drawMode G y261.2 a ((-1 : Int32)) ((4 : Int32)) y189.2) fun y266 =>
  dr G 13 ((y261.2.2 b264 6)) fun b267 =>
  chk (¬ (x265 < 0 ∨ G.2.2 b267 ≤ x265.toNatClampNeg)) <|
  ltt (uI y266.1 b267 x265.toNatClampNeg y266.2) fun M268 =>
  some (y261.1, M268)) else
  (dr G 9 ((y189.1.2 a 3)) fun b235 =>
  ltt ((x1 + ((0 : Int32)))) fun x236 =>
  dr G 13 ((y189.1.2 b235 6)) fun b237 =>
  chk (¬ (x236 < 0 ∨ G.2.2 b237 ≤ x236.toNatClampNeg)) <|
  ltt (uI y189.1 b237 x236.toNatClampNeg ((3 : Int32))) fun M238 =>
  bnd (if x5 = ((0 : Int32)) then (bnd (if ((1 : Int32)) = ((3 : Int32)) then (some ((-1 : Int32))) else
  (bnd (if ((7 : Int32)) ≤ ((1 : Int32)) then (bnd (if ((9 : Int32)) ≤ ((1 : Int32)) then (bnd (if ((11 : Int32)) ≤ ((1 : Int32)) then (some ((3 : Int32))) else
  (some ((2 : Int32)))) fun (y255 : Int32) =>
  some (y255)) else
  (some ((1 : Int32)))) fun (y253 : Int32) =>
  some (y253)) else
  (some ((0 : Int32)))) fun (y251 : Int32) =>
  some (y251))) fun (y249 : Int32) =>
  some (y249, M238)) else
  (bnd (if ((5 : Int32)) ≤ ((1 : Int32)) then (bnd (if ((12 : Int32)) ≤ ((1 : Int32)) then (some ((22 : Int32), M238)) else
  (bnd (FX0_draw G M238 a ((21 : Int32))) fun y246 =>
  ltt ((((1 : Int32)) + y246.2)) fun x247 =>
  some (x247, y246.1))) fun (y244 : Int32 × DD) =>
  some (y244.1, y244.2)) else
  (ltt ((((1 : Int32)) - ((4 : Int32)))) fun x248 =>
  some (x248, M238))) fun (y242 : Int32 × DD) =>
  some (y242.1, y242.2))) fun (y239 : Int32 × DD) =>
  bnd (FX0_drawByLists G y239.2 a p0 x5 y239.1) fun y240 =>
  some (y239.1, y240))) fun (y233 : Int32 × DD) =>
  some (y233.1, y233.2))) fun (y209 : Int32 × DD) =>
  some (y209.2))) fun (y207 : DD) =>
  some (y207))) fun (y190 : DD) =>
  some y190)) else
  (dr G 9 ((y6.1.2 a 3)) fun b8 =>
  bnd (FX9_sides G y6.1 b8 p0) fun y9 =>
  bnd (if y6.2 = ((1 : Int32)) then (dr G 9 ((y9.1.2 a 3)) fun b12 =>
  ltt ((x1 + ((0 : Int32)))) fun x13 =>
  dr G 13 ((y9.1.2 b12 6)) fun b14 =>
  chk (¬ (x13 < 0 ∨ G.2.2 b14 ≤ x13.toNatClampNeg)) <|
  ltt (uI y9.1 b14 x13.toNatClampNeg ((1 : Int32))) fun M15 =>
  dr G 9 ((M15.2 a 3)) fun b16 =>
  ltt ((((16 : Int32)) * p0)) fun x17 =>
  ltt ((((16 : Int32)) * p0)) fun x18 =>
  ltt ((x18 + ((16 : Int32)))) fun x19 =>
  bnd (FX0_drawMode G M15 a ((1 : Int32)) ((4 : Int32)) y9.2) fun y20 =>
  bnd (FJ7_fill_fda19 G y20.1 ((M15.2 b16 7)) x17 x19 y20.2) fun y21 =>
  dr G 9 ((y21.2 a 3)) fun b22 =>
  ltt ((x1 + ((5 : Int32)))) fun x23 =>
  bnd (FX0_drawMode G y21 a ((-1 : Int32)) ((4 : Int32)) y9.2) fun y24 =>
  dr G 13 ((y21.2 b22 6)) fun b25 =>
  chk (¬ (x23 < 0 ∨ G.2.2 b25 ≤ x23.toNatClampNeg)) <|
  ltt (uI y24.1 b25 x23.toNatClampNeg y24.2) fun M26 =>
  some (M26)) else
  (bnd (if x5 = ((2 : Int32)) then (bnd (if ((8 : Int32)) ≤ y6.2 then (bnd (if y6.2 = ((2 : Int32)) then (dr G 9 ((y9.1.2 a 3)) fun b103 =>
  ltt ((x1 + ((0 : Int32)))) fun x104 =>
  dr G 13 ((y9.1.2 b103 6)) fun b105 =>
  chk (¬ (x104 < 0 ∨ G.2.2 b105 ≤ x104.toNatClampNeg)) <|
  ltt (uI y9.1 b105 x104.toNatClampNeg ((0 : Int32))) fun M106 =>
  bnd (itr (fun (s108 : Int32 × DD) => ((if ((16 : Int32)) ≤ s108.1 then (some (.inr (s108.1, s108.2))) else
  (dr G 9 ((s108.2.2 a 3)) fun b117 =>
  ltt ((((16 : Int32)) * p0)) fun x118 =>
  ltt ((x118 + s108.1)) fun x119 =>
  bnd (FX9_sidesOf G s108.2 s108.1 y9.2) fun y120 =>
  bnd (FX0_drawMode G y120.1 a ((0 : Int32)) ((9 : Int32)) y120.2) fun y121 =>
  dr G 13 ((s108.2.2 b117 7)) fun b122 =>
  chk (¬ (x119 < 0 ∨ G.2.2 b122 ≤ x119.toNatClampNeg)) <|
  ltt (uI y121.1 b122 x119.toNatClampNeg y121.2) fun M123 =>
  ltt (s108.1 + (1 : Int32)) fun x124 =>
  some (.inl (x124, M123)))) : Option ((Int32 × DD) ⊕ (Int32 × DD)))) 1000000 ((0 : Int32), M106)) fun (y107 : Int32 × DD) =>
  dr G 9 ((y107.2.2 a 3)) fun b110 =>
  ltt ((x1 + ((5 : Int32)))) fun x111 =>
  bnd (FX0_drawMode G y107.2 a ((-1 : Int32)) ((4 : Int32)) y9.2) fun y112 =>
  dr G 13 ((y107.2.2 b110 6)) fun b113 =>
  chk (¬ (x111 < 0 ∨ G.2.2 b113 ≤ x111.toNatClampNeg)) <|
  ltt (uI y112.1 b113 x111.toNatClampNeg y112.2) fun M114 =>
  some (y107.1, M114)) else
  (bnd (if x5 = ((2 : Int32)) then (dr G 9 ((y9.1.2 a 3)) fun b149 =>
  ltt ((x1 + ((0 : Int32)))) fun x150 =>
  dr G 13 ((y9.1.2 b149 6)) fun b151 =>
  chk (¬ (x150 < 0 ∨ G.2.2 b151 ≤ x150.toNatClampNeg)) <|
  ltt (uI y9.1 b151 x150.toNatClampNeg ((0 : Int32))) fun M152 =>
  bnd (itr (fun (s154 : Int32 × DD) => ((if ((16 : Int32)) ≤ s154.1 then (some (.inr (s154.1, s154.2))) else
  (dr G 9 ((s154.2.2 a 3)) fun b163 =>
  ltt ((((16 : Int32)) * p0)) fun x164 =>
  ltt ((x164 + s154.1)) fun x165 =>
  bnd (FX9_sidesOf G s154.2 s154.1 y9.2) fun y166 =>
  bnd (FX0_drawMode G y166.1 a ((0 : Int32)) ((9 : Int32)) y166.2) fun y167 =>
  dr G 13 ((s154.2.2 b163 7)) fun b168 =>
  chk (¬ (x165 < 0 ∨ G.2.2 b168 ≤ x165.toNatClampNeg)) <|
  ltt (uI y167.1 b168 x165.toNatClampNeg y167.2) fun M169 =>
  ltt (s154.1 + (1 : Int32)) fun x170 =>
  some (.inl (x170, M169)))) : Option ((Int32 × DD) ⊕ (Int32 × DD)))) 1000000 ((0 : Int32), M152)) fun (y153 : Int32 × DD) =>
  dr G 9 ((y153.2.2 a 3)) fun b156 =>
  ltt ((x1 + ((5 : Int32)))) fun x157 =>
  bnd (FX0_drawMode G y153.2 a ((-1 : Int32)) ((4 : Int32)) y9.2) fun y158 =>
  dr G 13 ((y153.2.2 b156 6)) fun b159 =>
  chk (¬ (x157 < 0 ∨ G.2.2 b159 ≤ x157.toNatClampNeg)) <|
  ltt (uI y158.1 b159 x157.toNatClampNeg y158.2) fun M160 =>
  some (y153.1, M160)) else
  (dr G 9 ((y9.1.2 a 3)) fun b127 =>
  ltt ((x1 + ((0 : Int32)))) fun x128 =>
  dr G 13 ((y9.1.2 b127 6)) fun b129 =>
  chk (¬ (x128 < 0 ∨ G.2.2 b129 ≤ x128.toNatClampNeg)) <|
  ltt (uI y9.1 b129 x128.toNatClampNeg ((3 : Int32))) fun M130 =>
  bnd (if x5 = ((0 : Int32)) then (bnd (if y6.2 = ((3 : Int32)) then (some ((-1 : Int32))) else
  (bnd (if ((7 : Int32)) ≤ y6.2 then (bnd (if ((9 : Int32)) ≤ y6.2 then (bnd (if ((11 : Int32)) ≤ y6.2 then (some ((3 : Int32))) else
  (some ((2 : Int32)))) fun (y147 : Int32) =>
  some (y147)) else
  (some ((1 : Int32)))) fun (y145 : Int32) =>
  some (y145)) else
  (some ((0 : Int32)))) fun (y143 : Int32) =>
  some (y143))) fun (y141 : Int32) =>
  some (y141, M130)) else
  (bnd (if ((5 : Int32)) ≤ y6.2 then (bnd (if ((12 : Int32)) ≤ y6.2 then (some ((22 : Int32), M130)) else
  (bnd (FX0_draw G M130 a ((21 : Int32))) fun y138 =>
  ltt ((((1 : Int32)) + y138.2)) fun x139 =>
  some (x139, y138.1))) fun (y136 : Int32 × DD) =>
  some (y136.1, y136.2)) else
  (ltt ((y6.2 - ((4 : Int32)))) fun x140 =>
  some (x140, M130))) fun (y134 : Int32 × DD) =>
  some (y134.1, y134.2))) fun (y131 : Int32 × DD) =>
  bnd (FX0_drawByLists G y131.2 a p0 x5 y131.1) fun y132 =>
  some (y131.1, y132))) fun (y125 : Int32 × DD) =>
  some (y125.1, y125.2))) fun (y101 : Int32 × DD) =>
  some (y101.2)) else
  (dr G 9 ((y9.1.2 a 3)) fun b171 =>
  ltt ((x1 + ((0 : Int32)))) fun x172 =>
  dr G 13 ((y9.1.2 b171 6)) fun b173 =>
  chk (¬ (x172 < 0 ∨ G.2.2 b173 ≤ x172.toNatClampNeg)) <|
  ltt (uI y9.1 b173 x172.toNatClampNeg ((1 : Int32))) fun M174 =>
  dr G 9 ((M174.2 a 3)) fun b175 =>
  ltt ((((16 : Int32)) * p0)) fun x176 =>
  ltt ((((16 : Int32)) * p0)) fun x177 =>
  ltt ((x177 + ((16 : Int32)))) fun x178 =>
  bnd (FX0_drawMode G M174 a ((1 : Int32)) ((4 : Int32)) y9.2) fun y179 =>
  bnd (FJ7_fill_fda19 G y179.1 ((M174.2 b175 7)) x176 x178 y179.2) fun y180 =>
  dr G 9 ((y180.2 a 3)) fun b181 =>
  ltt ((x1 + ((5 : Int32)))) fun x182 =>
  bnd (FX0_drawMode G y180 a ((-1 : Int32)) ((4 : Int32)) y9.2) fun y183 =>
  dr G 13 ((y180.2 b181 6)) fun b184 =>
  chk (¬ (x182 < 0 ∨ G.2.2 b184 ≤ x182.toNatClampNeg)) <|
  ltt (uI y183.1 b184 x182.toNatClampNeg y183.2) fun M185 =>
  some (M185))) fun (y99 : DD) =>
  some (y99)) else
  (bnd (if y6.2 = ((2 : Int32)) then (dr G 9 ((y9.1.2 a 3)) fun b31 =>
  ltt ((x1 + ((0 : Int32)))) fun x32 =>
  dr G 13 ((y9.1.2 b31 6)) fun b33 =>
  chk (¬ (x32 < 0 ∨ G.2.2 b33 ≤ x32.toNatClampNeg)) <|
  ltt (uI y9.1 b33 x32.toNatClampNeg ((0 : Int32))) fun M34 =>
  bnd (itr (fun (s36 : Int32 × DD) => ((if ((16 : Int32)) ≤ s36.1 then (some (.inr (s36.1, s36.2))) else
  (dr G 9 ((s36.2.2 a 3)) fun b45 =>
  ltt ((((16 : Int32)) * p0)) fun x46 =>
  ltt ((x46 + s36.1)) fun x47 =>
  bnd (FX9_sidesOf G s36.2 s36.1 y9.2) fun y48 =>
  bnd (FX0_drawMode G y48.1 a ((0 : Int32)) ((9 : Int32)) y48.2) fun y49 =>
  dr G 13 ((s36.2.2 b45 7)) fun b50 =>
  chk (¬ (x47 < 0 ∨ G.2.2 b50 ≤ x47.toNatClampNeg)) <|
  ltt (uI y49.1 b50 x47.toNatClampNeg y49.2) fun M51 =>
  ltt (s36.1 + (1 : Int32)) fun x52 =>
  some (.inl (x52, M51)))) : Option ((Int32 × DD) ⊕ (Int32 × DD)))) 1000000 ((0 : Int32), M34)) fun (y35 : Int32 × DD) =>
  dr G 9 ((y35.2.2 a 3)) fun b38 =>
  ltt ((x1 + ((5 : Int32)))) fun x39 =>
  bnd (FX0_drawMode G y35.2 a ((-1 : Int32)) ((4 : Int32)) y9.2) fun y40 =>
  dr G 13 ((y35.2.2 b38 6)) fun b41 =>
  chk (¬ (x39 < 0 ∨ G.2.2 b41 ≤ x39.toNatClampNeg)) <|
  ltt (uI y40.1 b41 x39.toNatClampNeg y40.2) fun M42 =>
  some (y35.1, M42)) else
  (bnd (if x5 = ((2 : Int32)) then (dr G 9 ((y9.1.2 a 3)) fun b77 =>
  ltt ((x1 + ((0 : Int32)))) fun x78 =>
  dr G 13 ((y9.1.2 b77 6)) fun b79 =>
  chk (¬ (x78 < 0 ∨ G.2.2 b79 ≤ x78.toNatClampNeg)) <|
  ltt (uI y9.1 b79 x78.toNatClampNeg ((0 : Int32))) fun M80 =>
  bnd (itr (fun (s82 : Int32 × DD) => ((if ((16 : Int32)) ≤ s82.1 then (some (.inr (s82.1, s82.2))) else
  (dr G 9 ((s82.2.2 a 3)) fun b91 =>
  ltt ((((16 : Int32)) * p0)) fun x92 =>
  ltt ((x92 + s82.1)) fun x93 =>
  bnd (FX9_sidesOf G s82.2 s82.1 y9.2) fun y94 =>
  bnd (FX0_drawMode G y94.1 a ((0 : Int32)) ((9 : Int32)) y94.2) fun y95 =>
  dr G 13 ((s82.2.2 b91 7)) fun b96 =>
  chk (¬ (x93 < 0 ∨ G.2.2 b96 ≤ x93.toNatClampNeg)) <|
  ltt (uI y95.1 b96 x93.toNatClampNeg y95.2) fun M97 =>
  ltt (s82.1 + (1 : Int32)) fun x98 =>
  some (.inl (x98, M97)))) : Option ((Int32 × DD) ⊕ (Int32 × DD)))) 1000000 ((0 : Int32), M80)) fun (y81 : Int32 × DD) =>
  dr G 9 ((y81.2.2 a 3)) fun b84 =>
  ltt ((x1 + ((5 : Int32)))) fun x85 =>
  bnd (FX0_drawMode G y81.2 a ((-1 : Int32)) ((4 : Int32)) y9.2) fun y86 =>
  dr G 13 ((y81.2.2 b84 6)) fun b87 =>
  chk (¬ (x85 < 0 ∨ G.2.2 b87 ≤ x85.toNatClampNeg)) <|
  ltt (uI y86.1 b87 x85.toNatClampNeg y86.2) fun M88 =>
  some (y81.1, M88)) else
  (dr G 9 ((y9.1.2 a 3)) fun b55 =>
  ltt ((x1 + ((0 : Int32)))) fun x56 =>
  dr G 13 ((y9.1.2 b55 6)) fun b57 =>
  chk (¬ (x56 < 0 ∨ G.2.2 b57 ≤ x56.toNatClampNeg)) <|
  ltt (uI y9.1 b57 x56.toNatClampNeg ((3 : Int32))) fun M58 =>
  bnd (if x5 = ((0 : Int32)) then (bnd (if y6.2 = ((3 : Int32)) then (some ((-1 : Int32))) else
  (bnd (if ((7 : Int32)) ≤ y6.2 then (bnd (if ((9 : Int32)) ≤ y6.2 then (bnd (if ((11 : Int32)) ≤ y6.2 then (some ((3 : Int32))) else
  (some ((2 : Int32)))) fun (y75 : Int32) =>
  some (y75)) else
  (some ((1 : Int32)))) fun (y73 : Int32) =>
  some (y73)) else
  (some ((0 : Int32)))) fun (y71 : Int32) =>
  some (y71))) fun (y69 : Int32) =>
  some (y69, M58)) else
  (bnd (if ((5 : Int32)) ≤ y6.2 then (bnd (if ((12 : Int32)) ≤ y6.2 then (some ((22 : Int32), M58)) else
  (bnd (FX0_draw G M58 a ((21 : Int32))) fun y66 =>
  ltt ((((1 : Int32)) + y66.2)) fun x67 =>
  some (x67, y66.1))) fun (y64 : Int32 × DD) =>
  some (y64.1, y64.2)) else
  (ltt ((y6.2 - ((4 : Int32)))) fun x68 =>
  some (x68, M58))) fun (y62 : Int32 × DD) =>
  some (y62.1, y62.2))) fun (y59 : Int32 × DD) =>
  bnd (FX0_drawByLists G y59.2 a p0 x5 y59.1) fun y60 =>
  some (y59.1, y60))) fun (y53 : Int32 × DD) =>
  some (y53.1, y53.2))) fun (y29 : Int32 × DD) =>
  some (y29.2))) fun (y27 : DD) =>
  some (y27))) fun (y10 : DD) =>
  some y10)
set_option maxHeartbeats 4000000 in
set_option maxRecDepth 100000 in
noncomputable def FX0_codePicture (G : GG) (M : DD) (a : Nat) (p0 : Int32) (p1 : Int32) : Option (NN × DD) :=
  dr (xt G []) 13 ((M.2 a 1)) fun b2 =>
  chk (¬ (((0 : Int32)) < 0 ∨ (xt G []).2.2 b2 ≤ ((0 : Int32)).toNatClampNeg)) <|
  ltt (M.1 b2 ((0 : Int32)).toNatClampNeg) fun x3 =>
  chk (¬ (((1 : Int32)) < 0 ∨ (xt G []).2.2 b2 ≤ ((1 : Int32)).toNatClampNeg)) <|
  ltt (M.1 b2 ((1 : Int32)).toNatClampNeg) fun x4 =>
  ltt ((x3 * x4)) fun x5 =>
  dr (xt G []) 10 ((M.2 a 2)) fun b6 =>
  ltt (M.1 b6 1) fun x7 =>
  ltt (M.1 b6 2) fun x8 =>
  ltt (M.1 a 14) fun x9 =>
  bnd (if p1 = ((2 : Int32)) then (some ((0 : Int32))) else
  (bnd (if p1 = ((0 : Int32)) then (some ((1 : Int32))) else
  (some ((2 : Int32)))) fun (y126 : Int32) =>
  some (y126))) fun (y10 : Int32) =>
  ltt ((((3 : Int32)) + y10)) fun x11 =>
  chk (¬ (x11 < 0 ∨ (xt G []).2.2 b2 ≤ x11.toNatClampNeg)) <|
  ltt (M.1 b2 x11.toNatClampNeg) fun x12 =>
  bnd (FX0_beginPicture (xt G []) M a p0 p1) fun y13 =>
  app y13.1 <|
  ltt ([] ++ y13.1) fun L15 =>
  bnd (itrA (fun (s19 : NN × Int32 × Int32 × Int32 × DD) => ((if ((9 : Int32)) ≤ s19.2.2.2.1 then (some ([], .inr ((s19.2.1, s19.2.2.1, s19.2.2.2.1, s19.2.2.2.2)))) else
  (ltt (s19.2.2.2.1 + (1 : Int32)) fun x30 =>
  dr (xt G s19.1) 10 ((s19.2.2.2.2.2 a 2)) fun b31 =>
  ltt (uI s19.2.2.2.2 b31 1 x7) fun M32 =>
  dr (xt G s19.1) 10 ((M32.2 a 2)) fun b33 =>
  ltt (uI M32 b33 2 x8) fun M34 =>
  ltt (uI M34 a 14 x9) fun M35 =>
  bnd (FX0_beginTry (xt G s19.1) M35 a s19.2.1) fun y36 =>
  bnd (itrA (fun (s38 : NN × Int32 × DD) => ((if x5 ≤ s38.2.1 then (some ([], .inr ((s38.2.1, s38.2.2)))) else
  (bnd (FX0_isSliceEdge (xt G s38.1) s38.2.2 a s38.2.1) fun y68 =>
  bnd (if y68.2 = ((0 : Int32)) then (some ([], y68.1)) else
  (bnd (FX0_beginSlice (xt G s38.1) y68.1 a s38.2.1) fun y119 =>
  bnd (FX0_writeHeader (xt G s38.1) y119 a) fun y120 =>
  app y120.1 <|
  ltt (s38.1 ++ y120.1) fun L122 =>
  some ([], y120.2))) fun (y69 : NN × DD) =>
  app y69.1 <|
  ltt (s38.1 ++ y69.1) fun L71 =>
  dr (xt G L71) 13 ((y69.2.2 a 1)) fun b73 =>
  chk (¬ (((17 : Int32)) < 0 ∨ (xt G L71).2.2 b73 ≤ ((17 : Int32)).toNatClampNeg)) <|
  ltt (y69.2.1 b73 ((17 : Int32)).toNatClampNeg) fun x74 =>
  bnd (if x74 = ((1 : Int32)) then (dr (xt G L71) 9 ((y69.2.2 a 3)) fun b112 =>
  ltt ((((8 : Int32)) * s38.2.1)) fun x113 =>
  ltt ((x113 + ((0 : Int32)))) fun x114 =>
  dr (xt G L71) 13 ((y69.2.2 b112 6)) fun b115 =>
  chk (¬ (x114 < 0 ∨ (xt G L71).2.2 b115 ≤ x114.toNatClampNeg)) <|
  ltt (uI y69.2 b115 x114.toNatClampNeg ((2 : Int32))) fun M116 =>
  some (M116)) else
  (chk (¬ (((8 : Int32)) < 0 ∨ (xt G L71).2.2 b73 ≤ ((8 : Int32)).toNatClampNeg)) <|
  ltt (y69.2.1 b73 ((8 : Int32)).toNatClampNeg) fun x107 =>
  bnd (if x107 = ((1 : Int32)) then (bnd (FX0_chooseByChance (xt G L71) y69.2 a s38.2.1) fun y111 =>
  some (y111)) else
  (bnd (FX0_chooseByCosts (xt G L71) y69.2 a s38.2.1) fun y110 =>
  some (y110))) fun (y108 : DD) =>
  some (y108))) fun (y75 : DD) =>
  bnd (FX0_drawStep (xt G L71) y75 a s38.2.1) fun y76 =>
  bnd (FX0_build (xt G L71) y76.1 a s38.2.1 y76.2) fun y77 =>
  bnd (FX0_writeBlock (xt G L71) y77 a s38.2.1) fun y78 =>
  app y78.1 <|
  ltt (L71 ++ y78.1) fun L80 =>
  bnd (FX0_writeMotion (xt G L80) y78.2 a s38.2.1) fun y83 =>
  app y83.1 <|
  ltt (L80 ++ y83.1) fun L85 =>
  bnd (FX0_writePattern (xt G L85) y83.2 a s38.2.1 y76.2) fun y88 =>
  app y88.1 <|
  ltt (L85 ++ y88.1) fun L90 =>
  bnd (FX0_writeLevels (xt G L90) y88.2 a s38.2.1) fun y93 =>
  app y93.1 <|
  ltt (L90 ++ y93.1) fun L95 =>
  dr (xt G L95) 9 ((y93.2.2 a 3)) fun b98 =>
  bnd (FX9_endBlock (xt G L95) y93.2 b98 s38.2.1) fun y99 =>
  bnd (FX0_endSlice (xt G L95) y99 a s38.2.1) fun y100 =>
  app y100.1 <|
  ltt (L95 ++ y100.1) fun L102 =>
  ltt (s38.2.1 + (1 : Int32)) fun x105 =>
  some ([], .inl (L102, (x105, y100.2))))) : Option (NN × ((NN × Int32 × DD) ⊕ (Int32 × DD))))) 1000000 (s19.1, ((0 : Int32), y36))) fun (y37 : NN × Int32 × DD) =>
  app y37.1 <|
  ltt (s19.1 ++ y37.1) fun L40 =>
  dr (xt G L40) 10 ((y37.2.2.2 a 2)) fun b42 =>
  ltt (y37.2.2.1 b42 1) fun x43 =>
  ltt ((x43 - x7)) fun x44 =>
  ltt (y37.2.2.1 b42 2) fun x45 =>
  ltt ((x45 - x8)) fun x46 =>
  ltt ((((4 : Int32)) * x46)) fun x47 =>
  ltt ((x44 - x47)) fun x48 =>
  ltt ((((8 : Int32)) * x48)) fun x49 =>
  dr (xt G L40) 13 ((y37.2.2.2 a 1)) fun b50 =>
  chk (¬ (((16 : Int32)) < 0 ∨ (xt G L40).2.2 b50 ≤ ((16 : Int32)).toNatClampNeg)) <|
  ltt (y37.2.2.1 b50 ((16 : Int32)).toNatClampNeg) fun x51 =>
  if x51 = ((0 : Int32)) then (some ([], .inr ((s19.2.1, x49, x30, y37.2.2)))) else
  (chk (¬ (((16 : Int32)) < 0 ∨ (xt G L40).2.2 b50 ≤ ((16 : Int32)).toNatClampNeg)) <|
  ltt (y37.2.2.1 b50 ((16 : Int32)).toNatClampNeg) fun x53 =>
  ltt (y37.2.2.1 a 15) fun x54 =>
  ltt ((x53 + x54)) fun x55 =>
  if x49 ≤ x55 then (some ([], .inr ((s19.2.1, x49, x30, y37.2.2)))) else
  (if s19.2.1 = ((51 : Int32)) then (some ([], .inr ((s19.2.1, x49, x30, y37.2.2)))) else
  (ltt ((s19.2.1 + ((6 : Int32)))) fun x58 =>
  bnd (if x58 ≤ ((51 : Int32)) then (ltt ((s19.2.1 + ((6 : Int32)))) fun x61 =>
  some (x61)) else
  (some ((51 : Int32)))) fun (y59 : Int32) =>
  some ([], .inl (L40, (y59, x49, x30, y37.2.2)))))))) : Option (NN × ((NN × Int32 × Int32 × Int32 × DD) ⊕ (Int32 × Int32 × Int32 × DD))))) 1000000 (L15, (x12, (0 : Int32), (0 : Int32), y13.2))) fun (y18 : NN × Int32 × Int32 × Int32 × DD) =>
  app y18.1 <|
  ltt (L15 ++ y18.1) fun L21 =>
  bnd (FX0_endPicture (xt G L21) y18.2.2.2.2 a y18.2.2.1 y18.2.1 y18.2.2.2.1) fun y23 =>
  some ([], y23)
set_option maxHeartbeats 4000000 in
set_option maxRecDepth 100000 in
noncomputable def FX11_encode (G : GG) (M : DD) (a : Nat)  : Option (NN × DD × Int32) :=
  dr (xt G []) 0 ((M.2 a 4)) fun b2 =>
  bnd (FX0_isOpen (xt G []) M b2) fun y3 =>
  bnd (if y3.2 = ((0 : Int32)) then (none) else
  (some ())) fun (y4 : Unit) =>
  dr (xt G []) 0 ((y3.1.2 a 4)) fun b5 =>
  bnd (FX0_isSpent (xt G []) y3.1 b5) fun y6 =>
  bnd (if y6.2 = ((0 : Int32)) then (some ()) else
  (none)) fun (y7 : Unit) =>
  dr (xt G []) 0 ((y6.1.2 a 4)) fun b8 =>
  bnd (FX0_hold (xt G []) y6.1 b8) fun y9 =>
  dr (xt G []) 0 ((y9.2 a 4)) fun b10 =>
  bnd (FX0_opensAnew (xt G []) y9 b10) fun y11 =>
  bnd (if y11.2 = ((0 : Int32)) then (dr (xt G []) 0 ((y11.1.2 a 4)) fun b20 =>
  ltt (y11.1.1 b20 10) fun x21 =>
  dr (xt G []) 13 ((y11.1.2 b20 1)) fun b22 =>
  chk (¬ (((6 : Int32)) < 0 ∨ (xt G []).2.2 b22 ≤ ((6 : Int32)).toNatClampNeg)) <|
  ltt (y11.1.1 b22 ((6 : Int32)).toNatClampNeg) fun x23 =>
  bnd (if x21 ≤ x23 then (some ([], y11.1)) else
  (ltt (y11.1.1 b20 10) fun x30 =>
  ltt ((x30 - ((1 : Int32)))) fun x31 =>
  bnd (FX0_codePicture (xt G []) y11.1 b20 x31 ((0 : Int32))) fun y32 =>
  app y32.1 <|
  ltt ([] ++ y32.1) fun L34 =>
  bnd (itrA (fun (s38 : NN × Int32 × DD) => ((if x31 ≤ s38.2.1 then (some ([], .inr ((s38.2.1, s38.2.2)))) else
  (dr (xt G s38.1) 0 ((s38.2.2.2 a 4)) fun b50 =>
  bnd (FX0_codePicture (xt G s38.1) s38.2.2 b50 s38.2.1 ((1 : Int32))) fun y51 =>
  app y51.1 <|
  ltt (s38.1 ++ y51.1) fun L53 =>
  ltt (s38.2.1 + (1 : Int32)) fun x56 =>
  some ([], .inl (L53, (x56, y51.2))))) : Option (NN × ((NN × Int32 × DD) ⊕ (Int32 × DD))))) 1000000 (L34, ((0 : Int32), y32.2))) fun (y37 : NN × Int32 × DD) =>
  app y37.1 <|
  ltt (L34 ++ y37.1) fun L40 =>
  dr (xt G L40) 0 ((y37.2.2.2 a 4)) fun b42 =>
  ltt (uI y37.2.2 b42 10 ((0 : Int32))) fun M43 =>
  some ([], M43))) fun (y24 : NN × DD) =>
  app y24.1 <|
  ltt ([] ++ y24.1) fun L26 =>
  some ([], y24.2)) else
  (dr (xt G []) 0 ((y11.1.2 a 4)) fun b57 =>
  ltt (y11.1.1 b57 10) fun x58 =>
  ltt ((x58 - ((1 : Int32)))) fun x59 =>
  bnd (itrA (fun (s61 : NN × Int32 × DD) => ((if x59 ≤ s61.2.1 then (some ([], .inr ((s61.2.1, s61.2.2)))) else
  (dr (xt G s61.1) 0 ((s61.2.2.2 a 4)) fun b79 =>
  bnd (FX0_codePicture (xt G s61.1) s61.2.2 b79 s61.2.1 ((0 : Int32))) fun y80 =>
  app y80.1 <|
  ltt (s61.1 ++ y80.1) fun L82 =>
  ltt (s61.2.1 + (1 : Int32)) fun x85 =>
  some ([], .inl (L82, (x85, y80.2))))) : Option (NN × ((NN × Int32 × DD) ⊕ (Int32 × DD))))) 1000000 ([], ((0 : Int32), y11.1))) fun (y60 : NN × Int32 × DD) =>
  app y60.1 <|
  ltt ([] ++ y60.1) fun L63 =>
  dr (xt G L63) 0 ((y60.2.2.2 a 4)) fun b65 =>
  bnd (FX0_codePicture (xt G L63) y60.2.2 b65 x59 ((2 : Int32))) fun y66 =>
  app y66.1 <|
  ltt (L63 ++ y66.1) fun L68 =>
  dr (xt G L68) 0 ((y66.2.2 a 4)) fun b71 =>
  ltt (uI y66.2 b71 10 ((0 : Int32))) fun M72 =>
  some ([], M72))) fun (y12 : NN × DD) =>
  app y12.1 <|
  ltt ([] ++ y12.1) fun L14 =>
  dr (xt G L14) 0 ((y12.2.2 a 4)) fun b16 =>
  ltt (y12.2.1 b16 16) fun x17 =>
  some ([], (y12.2, x17))
set_option maxHeartbeats 4000000 in
set_option maxRecDepth 100000 in
noncomputable def FX11_finish (G : GG) (M : DD) (a : Nat)  : Option (NN × DD × Int32) :=
  dr (xt G []) 0 ((M.2 a 4)) fun b2 =>
  bnd (FX0_isOpen (xt G []) M b2) fun y3 =>
  bnd (if y3.2 = ((0 : Int32)) then (none) else
  (some ())) fun (y4 : Unit) =>
  bnd (itrA (fun (s6 : NN × Int32 × DD) => ((dr (xt G s6.1) 0 ((s6.2.2.2 a 4)) fun b19 =>
  ltt (s6.2.2.1 b19 10) fun x20 =>
  if x20 ≤ s6.2.1 then (some ([], .inr ((s6.2.1, s6.2.2)))) else
  (bnd (FX0_codePicture (xt G s6.1) s6.2.2 b19 s6.2.1 ((0 : Int32))) fun y22 =>
  app y22.1 <|
  ltt (s6.1 ++ y22.1) fun L24 =>
  ltt (s6.2.1 + (1 : Int32)) fun x27 =>
  some ([], .inl (L24, (x27, y22.2))))) : Option (NN × ((NN × Int32 × DD) ⊕ (Int32 × DD))))) 1000000 ([], ((0 : Int32), y3.1))) fun (y5 : NN × Int32 × DD) =>
  app y5.1 <|
  ltt ([] ++ y5.1) fun L8 =>
  dr (xt G L8) 0 ((y5.2.2.2 a 4)) fun b10 =>
  ltt (uI y5.2.2 b10 10 ((0 : Int32))) fun M11 =>
  dr (xt G L8) 0 ((M11.2 a 4)) fun b12 =>
  ltt (M11.1 b12 16) fun x13 =>
  some ([], (M11, x13))
set_option maxHeartbeats 4000000 in
set_option maxRecDepth 100000 in
noncomputable def FX11_flush (G : GG) (M : DD) (a : Nat)  : Option (NN × DD × Int32) :=
  dr (xt G []) 1 ((M.2 a 3)) fun b2 =>
  bnd (FX1_endPicture (xt G []) M b2) fun y3 =>
  app y3.1 <|
  ltt ([] ++ y3.1) fun L5 =>
  dr (xt G L5) 1 ((y3.2.2 a 3)) fun b8 =>
  dr (xt G L5) 7 ((y3.2.2 b8 1)) fun b9 =>
  bnd (FX7_putOutAll (xt G L5) y3.2 b9) fun y10 =>
  app y10.1 <|
  ltt (L5 ++ y10.1) fun L12 =>
  dr (xt G L12) 1 ((y10.2.2 a 3)) fun b15 =>
  dr (xt G L12) 7 ((y10.2.2 b15 1)) fun b16 =>
  ltt (y10.2.1 b16 14) fun x17 =>
  some ([], (y10.2, x17))
set_option maxHeartbeats 4000000 in
set_option maxRecDepth 100000 in
def FX1_readHeader (G : GG) (M : DD) (a : Nat) (p0 : Int32) (p1 : Int32) : Option (DD) :=
  dr G 3 ((M.2 a 10)) fun b2 =>
  bnd (FJ7_fill_53178 G M ((M.2 b2 0)) ((0 : Int32))) fun y3 =>
  dr G 13 ((M.2 b2 0)) fun b4 =>
  chk (¬ (((18 : Int32)) < 0 ∨ G.2.2 b4 ≤ ((18 : Int32)).toNatClampNeg)) <|
  ltt (uI y3 b4 ((18 : Int32)).toNatClampNeg p0) fun M5 =>
  chk (¬ (((11 : Int32)) < 0 ∨ G.2.2 b4 ≤ ((11 : Int32)).toNatClampNeg)) <|
  ltt (uI M5 b4 ((11 : Int32)).toNatClampNeg p1) fun M6 =>
  dr G 5 ((M6.2 a 0)) fun b7 =>
  bnd (FX5_number G M6 b7 ((0 : Int32)) ((0 : Int32)) ((0 : Int64)) ((4294967295 : Int64))) fun y8 =>
  chk (¬ (((0 : Int32)) < 0 ∨ G.2.2 b4 ≤ ((0 : Int32)).toNatClampNeg)) <|
  ltt (uI y8.1 b4 ((0 : Int32)).toNatClampNeg y8.2) fun M9 =>
  dr G 5 ((M9.2 a 0)) fun b10 =>
  ltt (M9.1 b10 4) fun x11 =>
  bnd (FX1_unsigned G M9 a ((9 : Int32))) fun y12 =>
  ltt (y12.2 - y12.2 / ((5 : Int32)) * ((5 : Int32))) fun x13 =>
  chk (¬ (((1 : Int32)) < 0 ∨ G.2.2 b4 ≤ ((1 : Int32)).toNatClampNeg)) <|
  ltt (uI y12.1 b4 ((1 : Int32)).toNatClampNeg x13) fun M14 =>
  chk (¬ (((1 : Int32)) < 0 ∨ G.2.2 b4 ≤ ((1 : Int32)).toNatClampNeg)) <|
  ltt (M14.1 b4 ((1 : Int32)).toNatClampNeg) fun x15 =>
  bnd (if ((2 : Int32)) < x15 then (dr G 5 ((M14.2 a 0)) fun b88 =>
  ltt (M14.1 b88 4) fun x89 =>
  none) else
  (some (M14))) fun (y16 : DD) =>
  bnd (if p0 = ((5 : Int32)) then (chk (¬ (((1 : Int32)) < 0 ∨ G.2.2 b4 ≤ ((1 : Int32)).toNatClampNeg)) <|
  ltt (y16.1 b4 ((1 : Int32)).toNatClampNeg) fun x82 =>
  bnd (if x82 = ((2 : Int32)) then (some (y16)) else
  (dr G 5 ((y16.2 a 0)) fun b85 =>
  ltt (y16.1 b85 4) fun x86 =>
  none)) fun (y83 : DD) =>
  some (y83)) else
  (some (y16))) fun (y17 : DD) =>
  bnd (FX1_unsigned G y17 a ((3 : Int32))) fun y18 =>
  chk (¬ (((2 : Int32)) < 0 ∨ G.2.2 b4 ≤ ((2 : Int32)).toNatClampNeg)) <|
  ltt (uI y18.1 b4 ((2 : Int32)).toNatClampNeg y18.2) fun M19 =>
  chk (¬ (((2 : Int32)) < 0 ∨ G.2.2 b4 ≤ ((2 : Int32)).toNatClampNeg)) <|
  ltt (M19.1 b4 ((2 : Int32)).toNatClampNeg) fun x20 =>
  dr G 15 ((M19.2 a 6)) fun b21 =>
  chk (¬ (x20 < 0 ∨ G.2.2 b21 ≤ x20.toNatClampNeg)) <|
  dr G 13 ((M19.2 b21 x20.toNatClampNeg)) fun b22 =>
  chk (¬ (((0 : Int32)) < 0 ∨ G.2.2 b22 ≤ ((0 : Int32)).toNatClampNeg)) <|
  ltt (M19.1 b22 ((0 : Int32)).toNatClampNeg) fun x23 =>
  chk (¬ (((11 : Int32)) < 0 ∨ G.2.2 b22 ≤ ((11 : Int32)).toNatClampNeg)) <|
  ltt (M19.1 b22 ((11 : Int32)).toNatClampNeg) fun x24 =>
  bnd (if x24 = ((0 : Int32)) then (dr G 5 ((M19.2 a 0)) fun b79 =>
  ltt (M19.1 b79 4) fun x80 =>
  none) else
  (some (M19))) fun (y25 : DD) =>
  dr G 15 ((y25.2 a 5)) fun b26 =>
  chk (¬ (x23 < 0 ∨ G.2.2 b26 ≤ x23.toNatClampNeg)) <|
  dr G 13 ((y25.2 b26 x23.toNatClampNeg)) fun b27 =>
  chk (¬ (((23 : Int32)) < 0 ∨ G.2.2 b27 ≤ ((23 : Int32)).toNatClampNeg)) <|
  ltt (y25.1 b27 ((23 : Int32)).toNatClampNeg) fun x28 =>
  bnd (if x28 = ((0 : Int32)) then (dr G 5 ((y25.2 a 0)) fun b76 =>
  ltt (y25.1 b76 4) fun x77 =>
  none) else
  (some (y25))) fun (y29 : DD) =>
  bnd (if p0 = ((1 : Int32)) then (ltt (y29.1 a 8) fun x70 =>
  bnd (if x70 = x23 then (some (y29)) else
  (dr G 5 ((y29.2 a 0)) fun b73 =>
  ltt (y29.1 b73 4) fun x74 =>
  none)) fun (y71 : DD) =>
  some (y71)) else
  (some (y29))) fun (y30 : DD) =>
  bnd (if p0 = ((1 : Int32)) then (some ((y30.2 a 7))) else
  (dr G 15 ((y30.2 a 5)) fun b68 =>
  chk (¬ (x23 < 0 ∨ G.2.2 b68 ≤ x23.toNatClampNeg)) <|
  some ((y30.2 b68 x23.toNatClampNeg)))) fun (y31 : Option Nat) =>
  chk (¬ (((0 : Int32)) < 0 ∨ G.2.2 b4 ≤ ((0 : Int32)).toNatClampNeg)) <|
  ltt (y30.1 b4 ((0 : Int32)).toNatClampNeg) fun x32 =>
  bnd (if x32 < ((0 : Int32)) then (none) else
  (some (y30))) fun (y33 : DD) =>
  chk (¬ (((0 : Int32)) < 0 ∨ G.2.2 b4 ≤ ((0 : Int32)).toNatClampNeg)) <|
  ltt (y33.1 b4 ((0 : Int32)).toNatClampNeg) fun x34 =>
  dr G 13 y31 fun b35 =>
  chk (¬ (((0 : Int32)) < 0 ∨ G.2.2 b35 ≤ ((0 : Int32)).toNatClampNeg)) <|
  ltt (y33.1 b35 ((0 : Int32)).toNatClampNeg) fun x36 =>
  chk (¬ (((1 : Int32)) < 0 ∨ G.2.2 b35 ≤ ((1 : Int32)).toNatClampNeg)) <|
  ltt (y33.1 b35 ((1 : Int32)).toNatClampNeg) fun x37 =>
  ltt ((x36 * x37)) fun x38 =>
  bnd (if x34 < x38 then (some (y33)) else
  (none)) fun (y39 : DD) =>
  dr G 5 ((y39.2 a 0)) fun b40 =>
  ltt (y39.1 b40 2) fun x41 =>
  chk (¬ (((21 : Int32)) < 0 ∨ G.2.2 b4 ≤ ((21 : Int32)).toNatClampNeg)) <|
  ltt (uI y39 b4 ((21 : Int32)).toNatClampNeg x41) fun M42 =>
  chk (¬ (((2 : Int32)) < 0 ∨ G.2.2 b35 ≤ ((2 : Int32)).toNatClampNeg)) <|
  ltt (M42.1 b35 ((2 : Int32)).toNatClampNeg) fun x43 =>
  dr G 5 ((M42.2 a 0)) fun b44 =>
  bnd (FX5_fixed G M42 b44 ((0 : Int32)) x43) fun y45 =>
  chk (¬ (((3 : Int32)) < 0 ∨ G.2.2 b4 ≤ ((3 : Int32)).toNatClampNeg)) <|
  ltt (uI y45.1 b4 ((3 : Int32)).toNatClampNeg y45.2) fun M46 =>
  bnd (if p0 = ((5 : Int32)) then (chk (¬ (((3 : Int32)) < 0 ∨ G.2.2 b4 ≤ ((3 : Int32)).toNatClampNeg)) <|
  ltt (M46.1 b4 ((3 : Int32)).toNatClampNeg) fun x58 =>
  bnd (if x58 = ((0 : Int32)) then (some (M46)) else
  (dr G 5 ((M46.2 a 0)) fun b63 =>
  ltt (M46.1 b63 4) fun x64 =>
  none)) fun (y59 : DD) =>
  bnd (FX1_unsigned G y59 a ((65535 : Int32))) fun y60 =>
  chk (¬ (((4 : Int32)) < 0 ∨ G.2.2 b4 ≤ ((4 : Int32)).toNatClampNeg)) <|
  ltt (uI y60.1 b4 ((4 : Int32)).toNatClampNeg y60.2) fun M61 =>
  some (M61)) else
  (some (M46))) fun (y47 : DD) =>
  bnd (FX1_readOrder G y47 a y31 ((M19.2 b21 x20.toNatClampNeg))) fun y48 =>
  chk (¬ (((1 : Int32)) < 0 ∨ G.2.2 b4 ≤ ((1 : Int32)).toNatClampNeg)) <|
  ltt (y48.1 b4 ((1 : Int32)).toNatClampNeg) fun x49 =>
  bnd (if x49 = ((2 : Int32)) then (some (y48)) else
  (bnd (FX1_readLists G y48 a y31 ((M19.2 b21 x20.toNatClampNeg))) fun y56 =>
  some (y56))) fun (y50 : DD) =>
  bnd (if p1 = ((0 : Int32)) then (some (y50)) else
  (bnd (FX1_readMarks G y50 a p0) fun y54 =>
  some (y54))) fun (y51 : DD) =>
  bnd (FX1_readRules G y51 a ((M19.2 b21 x20.toNatClampNeg))) fun y52 =>
  some y52
set_option maxHeartbeats 4000000 in
set_option maxRecDepth 100000 in
noncomputable def FX1_takeUnit (G : GG) (M : DD) (a : Nat) (p0 : Option Nat) (p1 : Int32) : Option (NN × DD) :=
  dr (xt G []) 8 p0 fun b2 =>
  bnd (FX8_loadPayload (xt G []) M b2 p1) fun y3 =>
  dr (xt G []) 5 ((y3.2 a 0)) fun b4 =>
  bnd (FX5_load (xt G []) y3 b4 p0) fun y5 =>
  bnd (FX8_byteAt (xt G []) y5 b2 p1 ((0 : Int32))) fun y6 =>
  bnd (if y6.2 ≤ ((127 : Int32)) then (ltt ((y6.2 &&& ((31 : Int32)))) fun x142 =>
  some (x142)) else
  (some ((0 : Int32)))) fun (y7 : Int32) =>
  ltt (uI y6.1 a 21 ((-1 : Int32))) fun M8 =>
  bnd (if y7 = ((1 : Int32)) then (ltt ((y6.2 >>> (((5 : Int32)) &&& 31))) fun x17 =>
  ltt ((x17 &&& ((3 : Int32)))) fun x18 =>
  bnd (FX1_readHeader (xt G []) M8 a y7 x18) fun y19 =>
  ltt (y19.1 a 16) fun x20 =>
  bnd (if x20 = ((0 : Int32)) then (chk (okd (xt G []) p0 = true) <|
  bnd (FX1_endPicture (xt G []) y19 a) fun y29 =>
  app y29.1 <|
  ltt ([] ++ y29.1) fun L32 =>
  bnd (FX1_bridge (xt G L32) y29.2 a) fun y35 =>
  chk (okd (xt G L32) p0 = true) <|
  bnd (FX1_beginPicture (xt G L32) y35 a) fun y36 =>
  app y36.1 <|
  ltt (L32 ++ y36.1) fun L39 =>
  some ([], y36.2)) else
  (dr (xt G []) 3 ((y19.2 a 10)) fun b42 =>
  bnd (FX3_beginsBehind (xt G []) y19 b42 ((y19.2 a 11))) fun y43 =>
  bnd (if y43.2 = ((0 : Int32)) then (some ([], y43.1)) else
  (chk (okd (xt G []) p0 = true) <|
  bnd (FX1_endPicture (xt G []) y43.1 a) fun y50 =>
  app y50.1 <|
  ltt ([] ++ y50.1) fun L53 =>
  bnd (FX1_bridge (xt G L53) y50.2 a) fun y56 =>
  chk (okd (xt G L53) p0 = true) <|
  bnd (FX1_beginPicture (xt G L53) y56 a) fun y57 =>
  app y57.1 <|
  ltt (L53 ++ y57.1) fun L60 =>
  some ([], y57.2))) fun (y44 : NN × DD) =>
  app y44.1 <|
  ltt ([] ++ y44.1) fun L46 =>
  some ([], y44.2))) fun (y21 : NN × DD) =>
  app y21.1 <|
  ltt ([] ++ y21.1) fun L23 =>
  bnd (FX1_beginSlice (xt G L23) y21.2 a) fun y25 =>
  bnd (FX1_readData (xt G L23) y25 a) fun y26 =>
  some ([], y26)) else
  (bnd (if y7 = ((5 : Int32)) then (ltt ((y6.2 >>> (((5 : Int32)) &&& 31))) fun x95 =>
  ltt ((x95 &&& ((3 : Int32)))) fun x96 =>
  bnd (FX1_readHeader (xt G []) M8 a y7 x96) fun y97 =>
  ltt (y97.1 a 16) fun x98 =>
  bnd (if x98 = ((0 : Int32)) then (chk (okd (xt G []) p0 = true) <|
  bnd (FX1_endPicture (xt G []) y97 a) fun y107 =>
  app y107.1 <|
  ltt ([] ++ y107.1) fun L110 =>
  bnd (FX1_bridge (xt G L110) y107.2 a) fun y113 =>
  chk (okd (xt G L110) p0 = true) <|
  bnd (FX1_beginPicture (xt G L110) y113 a) fun y114 =>
  app y114.1 <|
  ltt (L110 ++ y114.1) fun L117 =>
  some ([], y114.2)) else
  (dr (xt G []) 3 ((y97.2 a 10)) fun b120 =>
  bnd (FX3_beginsBehind (xt G []) y97 b120 ((y97.2 a 11))) fun y121 =>
  bnd (if y121.2 = ((0 : Int32)) then (some ([], y121.1)) else
  (chk (okd (xt G []) p0 = true) <|
  bnd (FX1_endPicture (xt G []) y121.1 a) fun y128 =>
  app y128.1 <|
  ltt ([] ++ y128.1) fun L131 =>
  bnd (FX1_bridge (xt G L131) y128.2 a) fun y134 =>
  chk (okd (xt G L131) p0 = true) <|
  bnd (FX1_beginPicture (xt G L131) y134 a) fun y135 =>
  app y135.1 <|
  ltt (L131 ++ y135.1) fun L138 =>
  some ([], y135.2))) fun (y122 : NN × DD) =>
  app y122.1 <|
  ltt ([] ++ y122.1) fun L124 =>
  some ([], y122.2))) fun (y99 : NN × DD) =>
  app y99.1 <|
  ltt ([] ++ y99.1) fun L101 =>
  bnd (FX1_beginSlice (xt G L101) y99.2 a) fun y103 =>
  bnd (FX1_readData (xt G L101) y103 a) fun y104 =>
  some ([], y104)) else
  (bnd (if y7 = ((7 : Int32)) then (chk (okd (xt G []) p0 = true) <|
  bnd (FX1_endPicture (xt G []) M8 a) fun y88 =>
  app y88.1 <|
  ltt ([] ++ y88.1) fun L91 =>
  bnd (FX1_readSequence (xt G L91) y88.2 a) fun y94 =>
  some ([], y94)) else
  (bnd (if y7 = ((8 : Int32)) then (chk (okd (xt G []) p0 = true) <|
  bnd (FX1_endPicture (xt G []) M8 a) fun y81 =>
  app y81.1 <|
  ltt ([] ++ y81.1) fun L84 =>
  bnd (FX1_readParameters (xt G L84) y81.2 a) fun y87 =>
  some ([], y87)) else
  (some ([], M8))) fun (y75 : NN × DD) =>
  app y75.1 <|
  ltt ([] ++ y75.1) fun L77 =>
  some ([], y75.2))) fun (y69 : NN × DD) =>
  app y69.1 <|
  ltt ([] ++ y69.1) fun L71 =>
  some ([], y69.2))) fun (y63 : NN × DD) =>
  app y63.1 <|
  ltt ([] ++ y63.1) fun L65 =>
  some ([], y63.2))) fun (y9 : NN × DD) =>
  app y9.1 <|
  ltt ([] ++ y9.1) fun L11 =>
  ltt ((p1 + ((1 : Int32)))) fun x13 =>
  ltt (uI y9.2 b2 4 x13) fun M14 =>
  some ([], M14)
set_option maxHeartbeats 4000000 in
set_option maxRecDepth 100000 in
noncomputable def FL_encode (G : GG) (M : DD) (p0 : Option Nat) (p1 : Option Nat) : Option (NN × DD × Int32) :=
  dr (xt G []) 11 p0 fun b2 =>
  chk (okd (xt G []) p1 = true) <|
  bnd (FX11_encode (xt G []) M b2) fun y3 =>
  app y3.1 <|
  ltt ([] ++ y3.1) fun L6 =>
  dr (xt G L6) 13 p1 fun b9 =>
  chk (¬ (((0 : Int32)) < 0 ∨ (xt G L6).2.2 b9 ≤ ((0 : Int32)).toNatClampNeg)) <|
  ltt (uI y3.2.1 b9 ((0 : Int32)).toNatClampNeg y3.2.2) fun M10 =>
  some ([], (M10, (0 : Int32)))
set_option maxHeartbeats 4000000 in
set_option maxRecDepth 100000 in
noncomputable def FL_finish (G : GG) (M : DD) (p0 : Option Nat) (p1 : Option Nat) : Option (NN × DD × Int32) :=
  dr (xt G []) 11 p0 fun b2 =>
  chk (okd (xt G []) p1 = true) <|
  bnd (FX11_finish (xt G []) M b2) fun y3 =>
  app y3.1 <|
  ltt ([] ++ y3.1) fun L6 =>
  dr (xt G L6) 13 p1 fun b9 =>
  chk (¬ (((0 : Int32)) < 0 ∨ (xt G L6).2.2 b9 ≤ ((0 : Int32)).toNatClampNeg)) <|
  ltt (uI y3.2.1 b9 ((0 : Int32)).toNatClampNeg y3.2.2) fun M10 =>
  some ([], (M10, (0 : Int32)))
set_option maxHeartbeats 4000000 in
set_option maxRecDepth 100000 in
noncomputable def FX11_decode (G : GG) (M : DD) (a : Nat) (p0 : Int32) : Option (NN × DD × Int32) :=
  bnd (if p0 < ((1 : Int32)) then (none) else
  (some ())) fun (y1 : Unit) =>
  bnd (if p0 ≤ ((400 : Int32)) then (some ()) else
  (none)) fun (y2 : Unit) =>
  dr (xt G []) 1 ((M.2 a 3)) fun b3 =>
  ltt (M.1 b3 19) fun x4 =>
  bnd (if x4 < ((16000 : Int32)) then (some ()) else
  (none)) fun (y5 : Unit) =>
  dr (xt G []) 8 ((M.2 a 2)) fun b6 =>
  ltt (M.1 b6 4) fun x7 =>
  bnd (itrA (fun (s9 : NN × Int32 × Int32 × DD) => ((dr (xt G s9.1) 8 ((s9.2.2.2.2 a 2)) fun b18 =>
  ltt (s9.2.2.2.1 b18 3) fun x19 =>
  if x19 ≤ s9.2.2.1 then (some ([], .inr ((s9.2.1, s9.2.2.1, s9.2.2.2)))) else
  (if p0 ≤ s9.2.1 then (some ([], .inr ((s9.2.1, s9.2.2.1, s9.2.2.2)))) else
  (dr (xt G s9.1) 1 ((s9.2.2.2.2 a 3)) fun b22 =>
  bnd (FX1_takeUnit (xt G s9.1) s9.2.2.2 b22 ((s9.2.2.2.2 a 2)) s9.2.2.1) fun y23 =>
  app y23.1 <|
  ltt (s9.1 ++ y23.1) fun L25 =>
  ltt (s9.2.1 + (1 : Int32)) fun x28 =>
  ltt (s9.2.2.1 + (1 : Int32)) fun x29 =>
  some ([], .inl (L25, (x28, x29, y23.2)))))) : Option (NN × ((NN × Int32 × Int32 × DD) ⊕ (Int32 × Int32 × DD))))) 1000000 ([], ((0 : Int32), x7, M))) fun (y8 : NN × Int32 × Int32 × DD) =>
  app y8.1 <|
  ltt ([] ++ y8.1) fun L11 =>
  some ([], (y8.2.2.2, y8.2.1))
set_option maxHeartbeats 4000000 in
set_option maxRecDepth 100000 in
noncomputable def FL_decode (G : GG) (M : DD) (p0 : Option Nat) (p1 : Int32) (p2 : Option Nat) : Option (NN × DD × Int32) :=
  dr (xt G []) 11 p0 fun b2 =>
  chk (okd (xt G []) p2 = true) <|
  bnd (FX11_decode (xt G []) M b2 p1) fun y3 =>
  app y3.1 <|
  ltt ([] ++ y3.1) fun L6 =>
  dr (xt G L6) 13 p2 fun b9 =>
  chk (¬ (((0 : Int32)) < 0 ∨ (xt G L6).2.2 b9 ≤ ((0 : Int32)).toNatClampNeg)) <|
  ltt (uI y3.2.1 b9 ((0 : Int32)).toNatClampNeg y3.2.2) fun M10 =>
  some ([], (M10, (0 : Int32)))
set_option maxHeartbeats 4000000 in
set_option maxRecDepth 100000 in
noncomputable def FL_law (nL : Nat) (xs : Nat → Int32) : Option (NN × DD × Int32) :=
  ltt M00 fun M =>
  chkP (Clo (xt G0 []) M) <|
  ltt ((xt G0 []).1) fun c2 =>
  app [(11, 0)] <|
  ltt ([] ++ [(11, 0)]) fun L4 =>
  ltt (rO M c2) fun M5 =>
  bnd (FX11_init (xt G0 L4) M5 c2) fun y8 =>
  app y8.1 <|
  ltt (L4 ++ y8.1) fun L10 =>
  chkP (Clo (xt G0 L10) y8.2) <|
  chk (¬ ((1 : Int32)) < 0 ∧ ((1 : Int32)).toNatClampNeg * 4 ≤ 536870912) <|
  ltt ((xt G0 L10).1) fun c14 =>
  app [(13, ((1 : Int32)).toNatClampNeg)] <|
  ltt (L10 ++ [(13, ((1 : Int32)).toNatClampNeg)]) fun L16 =>
  ltt (rO y8.2 c14) fun M17 =>
  ltt (Int32.ofNat nL) fun x20 =>
  bnd (if ((3 : Int32)) ≤ x20 then (some ((3 : Int32))) else
  (ltt (Int32.ofNat nL) fun x234 =>
  some (x234))) fun (y21 : Int32) =>
  ltt (Int32.ofNat nL) fun x22 =>
  bnd (if x22 ≤ ((0 : Int32)) then (some ((0 : Int32))) else
  (chk (¬ (((0 : Int32)) < 0 ∨ nL ≤ ((0 : Int32)).toNatClampNeg)) <|
  ltt (xs ((0 : Int32)).toNatClampNeg) fun x232 =>
  some (x232))) fun (y23 : Int32) =>
  ltt ((y23 &&& ((1 : Int32)))) fun x24 =>
  bnd (FL_setting (xt G0 L16) M17 (some c2) ((2 : Int32)) x24 (some c14)) fun y25 =>
  bnd (if y25.2 = ((0 : Int32)) then (some ()) else
  (none)) fun (y26 : Unit) =>
  ltt ((y23 >>> (((1 : Int32)) &&& 31))) fun x27 =>
  ltt ((x27 &&& ((1 : Int32)))) fun x28 =>
  bnd (FL_setting (xt G0 L16) y25.1 (some c2) ((8 : Int32)) x28 (some c14)) fun y29 =>
  bnd (if y29.2 = ((0 : Int32)) then (some ()) else
  (none)) fun (y30 : Unit) =>
  bnd (FL_setting (xt G0 L16) y29.1 (some c2) ((9 : Int32)) y23 (some c14)) fun y31 =>
  bnd (if y31.2 = ((0 : Int32)) then (some ()) else
  (none)) fun (y32 : Unit) =>
  ltt ((y23 >>> (((2 : Int32)) &&& 31))) fun x33 =>
  ltt ((x33 &&& ((1 : Int32)))) fun x34 =>
  ltt ((((1 : Int32)) + x34)) fun x35 =>
  bnd (FL_setting (xt G0 L16) y31.1 (some c2) ((0 : Int32)) x35 (some c14)) fun y36 =>
  bnd (if y36.2 = ((0 : Int32)) then (some ()) else
  (none)) fun (y37 : Unit) =>
  bnd (FL_setting (xt G0 L16) y36.1 (some c2) ((7 : Int32)) ((2 : Int32)) (some c14)) fun y38 =>
  bnd (if y38.2 = ((0 : Int32)) then (some ()) else
  (none)) fun (y39 : Unit) =>
  ltt ((y23 >>> (((3 : Int32)) &&& 31))) fun x40 =>
  ltt ((x40 &&& ((1 : Int32)))) fun x41 =>
  bnd (FL_setting (xt G0 L16) y38.1 (some c2) ((6 : Int32)) x41 (some c14)) fun y42 =>
  bnd (if y42.2 = ((0 : Int32)) then (some ()) else
  (none)) fun (y43 : Unit) =>
  ltt ((y23 >>> (((4 : Int32)) &&& 31))) fun x44 =>
  ltt ((x44 &&& ((3 : Int32)))) fun x45 =>
  ltt (x45 - x45 / ((3 : Int32)) * ((3 : Int32))) fun x46 =>
  bnd (FL_setting (xt G0 L16) y42.1 (some c2) ((13 : Int32)) x46 (some c14)) fun y47 =>
  bnd (if y47.2 = ((0 : Int32)) then (some ()) else
  (none)) fun (y48 : Unit) =>
  ltt ((y23 >>> (((6 : Int32)) &&& 31))) fun x49 =>
  ltt ((x49 &&& ((1 : Int32)))) fun x50 =>
  bnd (FL_setting (xt G0 L16) y47.1 (some c2) ((22 : Int32)) x50 (some c14)) fun y51 =>
  bnd (if y51.2 = ((0 : Int32)) then (some ()) else
  (none)) fun (y52 : Unit) =>
  ltt ((y23 >>> (((7 : Int32)) &&& 31))) fun x53 =>
  ltt ((x53 &&& ((1 : Int32)))) fun x54 =>
  bnd (FL_setting (xt G0 L16) y51.1 (some c2) ((10 : Int32)) x54 (some c14)) fun y55 =>
  bnd (if y55.2 = ((0 : Int32)) then (some ()) else
  (none)) fun (y56 : Unit) =>
  ltt ((y23 >>> (((8 : Int32)) &&& 31))) fun x57 =>
  ltt ((x57 &&& ((3 : Int32)))) fun x58 =>
  bnd (FL_setting (xt G0 L16) y55.1 (some c2) ((11 : Int32)) x58 (some c14)) fun y59 =>
  bnd (if y59.2 = ((0 : Int32)) then (some ()) else
  (none)) fun (y60 : Unit) =>
  ltt ((y23 >>> (((10 : Int32)) &&& 31))) fun x61 =>
  ltt ((x61 &&& ((31 : Int32)))) fun x62 =>
  ltt ((((12 : Int32)) + x62)) fun x63 =>
  bnd (FL_setting (xt G0 L16) y59.1 (some c2) ((4 : Int32)) x63 (some c14)) fun y64 =>
  bnd (if y64.2 = ((0 : Int32)) then (some ()) else
  (none)) fun (y65 : Unit) =>
  ltt ((y23 >>> (((15 : Int32)) &&& 31))) fun x66 =>
  ltt ((x66 &&& ((1 : Int32)))) fun x67 =>
  bnd (FL_setting (xt G0 L16) y64.1 (some c2) ((20 : Int32)) x67 (some c14)) fun y68 =>
  bnd (if y68.2 = ((0 : Int32)) then (some ()) else
  (none)) fun (y69 : Unit) =>
  ltt ((y23 >>> (((16 : Int32)) &&& 31))) fun x70 =>
  ltt ((x70 &&& ((1 : Int32)))) fun x71 =>
  bnd (FL_setting (xt G0 L16) y68.1 (some c2) ((19 : Int32)) x71 (some c14)) fun y72 =>
  bnd (if y72.2 = ((0 : Int32)) then (some ()) else
  (none)) fun (y73 : Unit) =>
  ltt ((y23 >>> (((17 : Int32)) &&& 31))) fun x74 =>
  ltt ((x74 &&& ((15 : Int32)))) fun x75 =>
  ltt ((x75 - ((8 : Int32)))) fun x76 =>
  bnd (FL_setting (xt G0 L16) y72.1 (some c2) ((23 : Int32)) x76 (some c14)) fun y77 =>
  bnd (if y77.2 = ((0 : Int32)) then (some ()) else
  (none)) fun (y78 : Unit) =>
  bnd (FX11_open (xt G0 L16) y77.1 c2) fun y79 =>
  app y79.1 <|
  ltt (L16 ++ y79.1) fun L81 =>
  bnd (if y79.2.2 = ((-1 : Int32)) then (some ()) else
  (none)) fun (y84 : Unit) =>
  bnd (itrA (fun (s86 : NN × Int32 × DD) => ((if y21 ≤ s86.2.1 then (some ([], .inr ((s86.2.1, s86.2.2)))) else
  (chk (¬ (s86.2.1 < 0 ∨ nL ≤ s86.2.1.toNatClampNeg)) <|
  ltt (xs s86.2.1.toNatClampNeg) fun x190 =>
  ltt ((x190 &&& ((2147483647 : Int32)))) fun x191 =>
  ltt (x191 - x191 / ((4 : Int32)) * ((4 : Int32))) fun x192 =>
  ltt ((((1 : Int32)) + x192)) fun x193 =>
  bnd (if x193 = ((2 : Int32)) then (some ((40 : Int32))) else
  (chk (¬ (s86.2.1 < 0 ∨ nL ≤ s86.2.1.toNatClampNeg)) <|
  ltt (xs s86.2.1.toNatClampNeg) fun x213 =>
  ltt ((x213 >>> (((3 : Int32)) &&& 31))) fun x214 =>
  ltt ((x214 &&& ((31 : Int32)))) fun x215 =>
  some (x215))) fun (y194 : Int32) =>
  bnd (if x193 = ((2 : Int32)) then (some ((20 : Int32))) else
  (chk (¬ (s86.2.1 < 0 ∨ nL ≤ s86.2.1.toNatClampNeg)) <|
  ltt (xs s86.2.1.toNatClampNeg) fun x209 =>
  ltt ((x209 >>> (((8 : Int32)) &&& 31))) fun x210 =>
  ltt ((x210 &&& ((31 : Int32)))) fun x211 =>
  some (x211))) fun (y195 : Int32) =>
  chk (¬ (s86.2.1 < 0 ∨ nL ≤ s86.2.1.toNatClampNeg)) <|
  ltt (xs s86.2.1.toNatClampNeg) fun x196 =>
  bnd (FL_paint (xt G0 s86.1) s86.2.2 (some c2) x193 y194 y195 x196 (some c14)) fun y197 =>
  bnd (if y197.2 = ((0 : Int32)) then (some ()) else
  (none)) fun (y198 : Unit) =>
  bnd (FL_encode (xt G0 s86.1) y197.1 (some c2) (some c14)) fun y199 =>
  app y199.1 <|
  ltt (s86.1 ++ y199.1) fun L201 =>
  bnd (if y199.2.2 = ((0 : Int32)) then (some ()) else
  (none)) fun (y204 : Unit) =>
  ltt (s86.2.1 + (1 : Int32)) fun x205 =>
  some ([], .inl (L201, (x205, y199.2.1))))) : Option (NN × ((NN × Int32 × DD) ⊕ (Int32 × DD))))) 1000000 (L81, ((0 : Int32), y79.2.1))) fun (y85 : NN × Int32 × DD) =>
  app y85.1 <|
  ltt (L81 ++ y85.1) fun L88 =>
  bnd (FL_finish (xt G0 L88) y85.2.2 (some c2) (some c14)) fun y90 =>
  app y90.1 <|
  ltt (L88 ++ y90.1) fun L92 =>
  bnd (if y90.2.2 = ((0 : Int32)) then (some ()) else
  (none)) fun (y95 : Unit) =>
  chk (¬ (((0 : Int32)) < 0 ∨ (xt G0 L92).2.2 c14 ≤ ((0 : Int32)).toNatClampNeg)) <|
  ltt (y90.2.1.1 c14 ((0 : Int32)).toNatClampNeg) fun x96 =>
  bnd (if x96 = y21 then (some ()) else
  (none)) fun (y97 : Unit) =>
  bnd (FL_take (xt G0 L92) y90.2.1 (some c2) (some c14)) fun y98 =>
  bnd (if y98.2 = ((0 : Int32)) then (some ()) else
  (none)) fun (y99 : Unit) =>
  chk (¬ (((0 : Int32)) < 0 ∨ (xt G0 L92).2.2 c14 ≤ ((0 : Int32)).toNatClampNeg)) <|
  ltt (y98.1.1 c14 ((0 : Int32)).toNatClampNeg) fun x100 =>
  ltt ((y23 >>> (((21 : Int32)) &&& 31))) fun x101 =>
  ltt ((x101 &&& ((1 : Int32)))) fun x102 =>
  bnd (if x102 = ((1 : Int32)) then (bnd (FL_mux (xt G0 L92) y98.1 (some c2) (some c14)) fun y172 =>
  bnd (if y172.2 = ((0 : Int32)) then (some ()) else
  (none)) fun (y173 : Unit) =>
  bnd (FL_demux (xt G0 L92) y172.1 (some c2) (some c14)) fun y174 =>
  bnd (if y174.2 = ((0 : Int32)) then (some ()) else
  (none)) fun (y175 : Unit) =>
  chk (¬ (((0 : Int32)) < 0 ∨ (xt G0 L92).2.2 c14 ≤ ((0 : Int32)).toNatClampNeg)) <|
  ltt (y174.1.1 c14 ((0 : Int32)).toNatClampNeg) fun x176 =>
  bnd (if x176 = x100 then (some ()) else
  (none)) fun (y177 : Unit) =>
  some (y174.1)) else
  (some (y98.1))) fun (y103 : DD) =>
  bnd (FL_decode (xt G0 L92) y103 (some c2) ((400 : Int32)) (some c14)) fun y104 =>
  app y104.1 <|
  ltt (L92 ++ y104.1) fun L106 =>
  bnd (if y104.2.2 = ((0 : Int32)) then (some ()) else
  (none)) fun (y109 : Unit) =>
  chk (¬ (((0 : Int32)) < 0 ∨ (xt G0 L106).2.2 c14 ≤ ((0 : Int32)).toNatClampNeg)) <|
  ltt (y104.2.1.1 c14 ((0 : Int32)).toNatClampNeg) fun x110 =>
  bnd (if x110 = x100 then (some ()) else
  (none)) fun (y111 : Unit) =>
  bnd (FX11_flush (xt G0 L106) y104.2.1 c2) fun y112 =>
  app y112.1 <|
  ltt (L106 ++ y112.1) fun L114 =>
  bnd (if y112.2.2 = y21 then (some ()) else
  (none)) fun (y117 : Unit) =>
  bnd (FX11_count (xt G0 L114) y112.2.1 c2 ((4 : Int32))) fun y118 =>
  bnd (if y118.2 = ((0 : Int32)) then (some ()) else
  (none)) fun (y119 : Unit) =>
  bnd (FX11_count (xt G0 L114) y118.1 c2 ((14 : Int32))) fun y120 =>
  bnd (if y120.2 = ((0 : Int32)) then (some ()) else
  (none)) fun (y121 : Unit) =>
  bnd (itr (fun (s123 : Int32 × DD) => ((if y21 ≤ s123.1 then (some (.inr (s123.1, s123.2))) else
  (bnd (FL_picture (xt G0 L114) s123.2 (some c2) s123.1 ((2 : Int32)) (some c14)) fun y127 =>
  bnd (if y127.2 = ((0 : Int32)) then (some ()) else
  (none)) fun (y128 : Unit) =>
  chk (¬ (((0 : Int32)) < 0 ∨ (xt G0 L114).2.2 c14 ≤ ((0 : Int32)).toNatClampNeg)) <|
  ltt (y127.1.1 c14 ((0 : Int32)).toNatClampNeg) fun x129 =>
  ltt ((((2 : Int32)) * s123.1)) fun x130 =>
  bnd (if x129 = x130 then (some ()) else
  (none)) fun (y131 : Unit) =>
  bnd (FL_picture (xt G0 L114) y127.1 (some c2) s123.1 ((5 : Int32)) (some c14)) fun y132 =>
  bnd (if y132.2 = ((0 : Int32)) then (some ()) else
  (none)) fun (y133 : Unit) =>
  chk (¬ (((0 : Int32)) < 0 ∨ (xt G0 L114).2.2 c14 ≤ ((0 : Int32)).toNatClampNeg)) <|
  ltt (y132.1.1 c14 ((0 : Int32)).toNatClampNeg) fun x134 =>
  bnd (if x134 = ((1 : Int32)) then (some ()) else
  (none)) fun (y135 : Unit) =>
  bnd (FL_sum (xt G0 L114) y132.1 (some c2) s123.1 ((0 : Int32)) (some c14)) fun y136 =>
  bnd (if y136.2 = ((0 : Int32)) then (some ()) else
  (none)) fun (y137 : Unit) =>
  chk (¬ (((0 : Int32)) < 0 ∨ (xt G0 L114).2.2 c14 ≤ ((0 : Int32)).toNatClampNeg)) <|
  ltt (y136.1.1 c14 ((0 : Int32)).toNatClampNeg) fun x138 =>
  bnd (itr (fun (s140 : Int32 × Int32 × DD) => ((if y21 ≤ s140.2.1 then (some (.inr (s140.1, s140.2.1, s140.2.2))) else
  (bnd (FL_coded (xt G0 L114) s140.2.2 (some c2) s140.2.1 ((4 : Int32)) (some c14)) fun y147 =>
  bnd (if y147.2 = ((0 : Int32)) then (some ()) else
  (none)) fun (y148 : Unit) =>
  chk (¬ (((0 : Int32)) < 0 ∨ (xt G0 L114).2.2 c14 ≤ ((0 : Int32)).toNatClampNeg)) <|
  ltt (y147.1.1 c14 ((0 : Int32)).toNatClampNeg) fun x149 =>
  ltt ((((2 : Int32)) * s123.1)) fun x150 =>
  bnd (if x149 = x150 then (bnd (FL_coded (xt G0 L114) y147.1 (some c2) s140.2.1 ((5 : Int32)) (some c14)) fun y154 =>
  bnd (if y154.2 = ((0 : Int32)) then (some ()) else
  (none)) fun (y155 : Unit) =>
  chk (¬ (((0 : Int32)) < 0 ∨ (xt G0 L114).2.2 c14 ≤ ((0 : Int32)).toNatClampNeg)) <|
  ltt (y154.1.1 c14 ((0 : Int32)).toNatClampNeg) fun x156 =>
  bnd (if x156 = x138 then (some ()) else
  (none)) fun (y157 : Unit) =>
  some ((1 : Int32), y154.1)) else
  (some (s140.1, y147.1))) fun (y151 : Int32 × DD) =>
  ltt (s140.2.1 + (1 : Int32)) fun x152 =>
  some (.inl (y151.1, x152, y151.2)))) : Option ((Int32 × Int32 × DD) ⊕ (Int32 × Int32 × DD)))) 1000000 ((0 : Int32), (0 : Int32), y136.1)) fun (y139 : Int32 × Int32 × DD) =>
  bnd (if y139.1 = ((0 : Int32)) then (none) else
  (some ())) fun (y142 : Unit) =>
  ltt (s123.1 + (1 : Int32)) fun x143 =>
  some (.inl (x143, y139.2.2)))) : Option ((Int32 × DD) ⊕ (Int32 × DD)))) 1000000 ((0 : Int32), y120.1)) fun (y122 : Int32 × DD) =>
  chk (((1 : Int32)) = 1) <|
  some ([], (y122.2, (1 : Int32)))
