def X10_read (a0 : Nat) (x1 : Int32) (μ : Mem) : Option (Int32 × Mem) :=
  if (X10_isPerson x1) = 0 then
  some ((-1001), μ)
  else
  (gR 10 3 a0 μ).bind fun v2 =>
  (gR 10 9 a0 μ).bind fun v3 =>
  (vO 2 v2 μ).bind fun g4 =>
  (X2_parse v2 v3 μ).bind fun μ5 =>
  (gR 10 3 a0 μ5).bind fun v6 =>
  (pI 2 0 v6 0 μ5).bind fun μ7 =>
  (gR 10 3 a0 μ7).bind fun v8 =>
  (gI 2 1 v8 μ7).bind fun v9 =>
  if v9 = 0 then
  (gR 10 4 a0 μ7).bind fun v11 =>
  (aR 4 v11 x1 μ7).bind fun v12 =>
  (gR 10 4 a0 μ7).bind fun v13 =>
  (gR 10 9 a0 μ7).bind fun v14 =>
  (sR 4 3 v13 x1 v14 μ7).bind fun μ15 =>
  (pR 10 9 a0 v12 μ15).bind fun μ16 =>
  (gR 10 4 a0 μ16).bind fun v17 =>
  (aR 4 v17 x1 μ16).bind fun v18 =>
  (gI 3 0 v18 μ16).bind fun v19 =>
  some (v19, μ16)
  else
  (gR 10 3 a0 μ7).bind fun v20 =>
  (gI 2 1 v20 μ7).bind fun v21 =>
  some (((-10)) - v21, μ7)
def X10_fault (a0 : Nat) (μ : Mem) : Option Int32 :=
  (gR 10 3 a0 μ).bind fun v1 =>
  (gI 2 2 v1 μ).bind fun v2 =>
  some (v2)
def X10_barNow (a0 : Nat) (x1 : Int32) (x2 : Int32) (x3 : Int32) (μ : Mem) : Option (Int32 × Mem) :=
  (gR 10 0 a0 μ).bind fun v1 =>
  (gI 10 10 a0 μ).bind fun v2 =>
  (vO 9 v1 μ).bind fun g3 =>
  (X9_lookAhead v1 x1 v2 0 μ).bind fun μ4 =>
  (gR 10 5 a0 μ4).bind fun v5 =>
  (gR 10 4 a0 μ4).bind fun v6 =>
  (aR 4 v6 x1 μ4).bind fun v7 =>
  (gR 10 2 a0 μ4).bind fun v8 =>
  (gI 10 10 a0 μ4).bind fun v9 =>
  (gR 10 0 a0 μ4).bind fun v10 =>
  (gR 9 4 v10 μ4).bind fun v11 =>
  (aR 7 v11 0 μ4).bind fun v12 =>
  (vO 1 v5 μ4).bind fun g13 =>
  (X1_open v5 v7 v8 v9 v12 μ4).bind fun μ14 =>
  (gR 10 2 a0 μ14).bind fun v15 =>
  (gR 10 8 a0 μ14).bind fun v16 =>
  (vO 0 v15 μ14).bind fun g17 =>
  (X0_countSaid v15 x1 v16 μ14).bind fun μ18 =>
  (gR 10 5 a0 μ18).bind fun v19 =>
  (gR 10 4 a0 μ18).bind fun v20 =>
  (aR 4 v20 x1 μ18).bind fun v21 =>
  (gR 10 8 a0 μ18).bind fun v22 =>
  (gI 10 10 a0 μ18).bind fun v23 =>
  (vO 3 v21 μ18).bind fun g24 =>
  (X3_mostBars v21 v22 v23 μ18).bind fun v25 =>
  (vO 1 v19 μ18).bind fun g26 =>
  (X1_bar v19 x2 x3 v25 μ18).bind fun v27 =>
  some (v27, μ18)
def X10_barred (a0 : Nat) (x1 : Int32) (x2 : Int32) (x3 : Int32) (μ : Mem) : Option (Int32 × Mem) :=
  if (X10_isPerson x1) = 0 then
  some ((-1001), μ)
  else
  (gR 10 2 a0 μ).bind fun v2 =>
  (vO 0 v2 μ).bind fun g3 =>
  (X0_hasThings v2 x2 μ).bind fun v4 =>
  if v4 = 0 then
  some ((-1001), μ)
  else
  if (X10_isWay x3) = 0 then
  some ((-1002), μ)
  else
  (vO 10 a0 μ).bind fun g7 =>
  (X10_barNow a0 x1 x2 x3 μ).bind fun z8 =>
  some (z8.1, z8.2)
def X10_plan (a0 : Nat) (x1 : Int32) (x2 : Int32) (x3 : Int32) (x4 : Int32) (μ : Mem) : Option (Int32 × Mem) :=
  if (X10_isPerson x1) = 0 then
  some ((-1001), μ)
  else
  if (X10_within x2 1 6) = 0 then
  some ((-1002), μ)
  else
  if (X10_within x3 ((-1)) (x2 - 1)) = 0 then
  some ((-1002), μ)
  else
  if (X10_within x4 0 1) = 0 then
  some ((-1002), μ)
  else
  (gR 10 6 a0 μ).bind fun v5 =>
  (gI 10 10 a0 μ).bind fun v6 =>
  (gR 10 4 a0 μ).bind fun v7 =>
  (aR 4 v7 x1 μ).bind fun v8 =>
  (vO 4 v5 μ).bind fun g9 =>
  (X4_make v5 x1 x2 v6 v8 μ).bind fun μ10 =>
  if x3 = ((-1)) then
  (gR 10 6 a0 μ10).bind fun v20 =>
  (gI 4 0 v20 μ10).bind fun v21 =>
  some (v21, μ10)
  else
  ((if x4 = 0 then
  (gR 10 6 a0 μ10).bind fun v16 =>
  (gR 4 1 v16 μ10).bind fun v17 =>
  (aI v17 x3 μ10).bind fun v18 =>
  some v18
  else
  (gR 10 6 a0 μ10).bind fun v13 =>
  (gR 4 2 v13 μ10).bind fun v14 =>
  (aI v14 x3 μ10).bind fun v15 =>
  some v15) : Option (Int32)).bind fun z19 =>
  some (z19, μ10)
def X10_say (a0 : Nat) (x1 : Int32) (x2 : Int32) (x3 : Int32) (μ : Mem) : Option (Int32 × Mem) :=
  if (X10_isPerson x1) = 0 then
  some ((-1001), μ)
  else
  (gR 10 2 a0 μ).bind fun v2 =>
  (vO 0 v2 μ).bind fun g3 =>
  (X0_hasThings v2 x2 μ).bind fun v4 =>
  if v4 = 0 then
  some ((-1001), μ)
  else
  if (X10_isWay x3) = 0 then
  some ((-1002), μ)
  else
  (vO 10 a0 μ).bind fun g7 =>
  (X10_barNow a0 x1 x2 x3 μ).bind fun z8 =>
  if z8.1 = 0 then
  (gR 10 2 a0 z8.2).bind fun v10 =>
  (vO 0 v10 z8.2).bind fun g11 =>
  (X0_canBeSaid v10 x2 x1 z8.2).bind fun v12 =>
  if v12 = 0 then
  some ((-1003), z8.2)
  else
  (gR 10 2 a0 z8.2).bind fun v14 =>
  (gI 0 3 v14 z8.2).bind fun v15 =>
  if v15 < 40 then
  (gR 10 2 a0 z8.2).bind fun v17 =>
  (gR 0 1 v17 z8.2).bind fun v18 =>
  (gR 10 2 a0 z8.2).bind fun v19 =>
  (gI 0 3 v19 z8.2).bind fun v20 =>
  (aR 5 v18 v20 z8.2).bind fun v21 =>
  (pI 5 0 v21 x1 z8.2).bind fun μ22 =>
  (pI 5 1 v21 x2 μ22).bind fun μ23 =>
  (pI 5 2 v21 x3 μ23).bind fun μ24 =>
  (gI 10 10 a0 μ24).bind fun v25 =>
  (pI 5 3 v21 v25 μ24).bind fun μ26 =>
  (gR 10 2 a0 μ26).bind fun v27 =>
  (gI 0 3 v27 μ26).bind fun v28 =>
  (pI 0 3 v27 (v28 + 1) μ26).bind fun μ29 =>
  (gR 10 2 a0 μ29).bind fun v30 =>
  (gI 0 3 v30 μ29).bind fun v31 =>
  some (v31 - 1, μ29)
  else
  some ((-1004), z8.2)
  else
  some ((-1003), z8.2)
def X10_came (a0 : Nat) (x1 : Int32) (x2 : Int32) (μ : Mem) : Option (Int32 × Mem) :=
  (gR 10 2 a0 μ).bind fun v1 =>
  (vO 0 v1 μ).bind fun g2 =>
  (X0_hasSaying v1 x1 μ).bind fun v3 =>
  if v3 = 0 then
  some ((-1001), μ)
  else
  if (X10_within x2 1 3) = 0 then
  some ((-1002), μ)
  else
  (gR 10 2 a0 μ).bind fun v6 =>
  (gR 0 1 v6 μ).bind fun v7 =>
  (aR 5 v7 x1 μ).bind fun v8 =>
  (gI 5 4 v8 μ).bind fun v9 =>
  if v9 = 0 then
  (gR 10 2 a0 μ).bind fun v11 =>
  (gR 0 1 v11 μ).bind fun v12 =>
  (aR 5 v12 x1 μ).bind fun v13 =>
  (pI 5 4 v13 x2 μ).bind fun μ14 =>
  some (v9, μ14)
  else
  some ((-1003), μ)
def X10_saying (a0 : Nat) (x1 : Int32) (x2 : Int32) (μ : Mem) : Option Int32 :=
  (gR 10 2 a0 μ).bind fun v1 =>
  (vO 0 v1 μ).bind fun g2 =>
  (X0_hasSaying v1 x1 μ).bind fun v3 =>
  if v3 = 0 then
  some ((-1001))
  else
  (gR 10 2 a0 μ).bind fun v5 =>
  (gR 0 1 v5 μ).bind fun v6 =>
  (aR 5 v6 x1 μ).bind fun v7 =>
  if x2 = Int32.ofNat 0 then
  (gI 5 0 v7 μ).bind fun v9 =>
  some (v9)
  else
  if x2 = Int32.ofNat 1 then
  (gI 5 1 v7 μ).bind fun v11 =>
  some (v11)
  else
  if x2 = Int32.ofNat 2 then
  (gI 5 2 v7 μ).bind fun v13 =>
  some (v13)
  else
  if x2 = Int32.ofNat 3 then
  (gI 5 3 v7 μ).bind fun v15 =>
  some (v15)
  else
  if x2 = Int32.ofNat 4 then
  (gI 5 4 v7 μ).bind fun v17 =>
  some (v17)
  else
  if x2 = Int32.ofNat 5 then
  (gI 5 1 v7 μ).bind fun v19 =>
  (gR 10 2 a0 μ).bind fun v20 =>
  (vO 0 v20 μ).bind fun g21 =>
  (X0_deadThings v20 μ).bind fun v22 =>
  some (v19 &&& v22)
  else
  some ((-1002))
def X10_choose_L16 (x0 : Int32) (x1 : Int32) (μ : Mem) : Nat → Int64 → Int32 → Option (Int64 × Int32)
  | 0, _, _ => none
  | n + 1, j2, x4 =>
      if x1 < x4 then
      some ((j2, x4))
      else
      (dvJ (j2 * (((x0 - x1) + x4).toInt64)) x4.toInt64).bind fun v2 =>
      X10_choose_L16 x0 x1 μ n v2 (x4 + 1)
def X10_choose (x0 : Int32) (x1 : Int32) (μ : Mem) : Option Int64 :=
  if x1 < 0 then
  some (0)
  else
  if x1 ≤ x0 then
  (X10_choose_L16 x0 x1 μ FU 1 1).bind fun z3 =>
  some (z3.1)
  else
  some (0)
def X10_commonPart_L9 (μ : Mem) : Nat → Int64 → Int64 → Int32 → Option (Int64 × Int64 × Int32)
  | 0, _, _, _ => none
  | n + 1, j4, j6, x8 =>
      if (200 : Int32) ≤ x8 then
      some ((j4, j6, x8))
      else
      if (lg_cmp j6 0) = 0 then
      some ((j4, j6, x8))
      else
      (rmJ j4 j6).bind fun v3 =>
      X10_commonPart_L9 μ n j6 v3 (x8 + 1)
def X10_commonPart (j0 : Int64) (j2 : Int64) (μ : Mem) : Option Int64 :=
  (X10_commonPart_L9 μ FU j0 j2 0).bind fun z1 =>
  some (z1.1)
def X10_chance_L17 (x0 : Int32) (x1 : Int32) (x2 : Int32) (x3 : Int32) (x4 : Int32) (j5 : Int64) (μ : Mem) : Nat → Int64 → Int32 → Option (Int64 × Int32)
  | 0, _, _ => none
  | n + 1, j7, x9 =>
      if x1 < x9 then
      some ((j7, x9))
      else
      (X10_choose x1 x9 μ).bind fun v2 =>
      (X10_choose x3 ((x0 + x2) - x9) μ).bind fun v3 =>
      (some (j7 + (v2 * v3) : Int64)).bind fun v4 =>
      X10_chance_L17 x0 x1 x2 x3 x4 j5 μ n v4 (x9 + 1)
def X10_chance (x0 : Int32) (x1 : Int32) (x2 : Int32) (x3 : Int32) (x4 : Int32) (μ : Mem) : Option Int32 :=
  (X10_choose (x1 + x3) (x0 + x2) μ).bind fun v1 =>
  (X10_chance_L17 x0 x1 x2 x3 x4 v1 μ FU 0 x0).bind fun z2 =>
  (X10_commonPart z2.1 v1 μ).bind fun v3 =>
  if (0 : Int32) < (lg_cmp v3 0) then
  (some (if x4 = 0 then v1 else z2.1 : Int64)).bind fun v6 =>
  (dvJ v6 v3).bind fun v7 =>
  some (v7.toInt32)
  else
  some ((-1003))
def X10_learnt (a0 : Nat) (x1 : Int32) (x2 : Int32) (x3 : Int32) (μ : Mem) : Option Int32 :=
  if (X10_isWay x1) = 0 then
  some ((-1002))
  else
  if (X10_isWay x2) = 0 then
  some ((-1002))
  else
  if x1 = x2 then
  some ((-1002))
  else
  if (X10_within x3 0 5) = 0 then
  some ((-1002))
  else
  (gR 10 2 a0 μ).bind fun v5 =>
  (vO 0 v5 μ).bind fun g6 =>
  (X0_lookedAtBy v5 x1 μ).bind fun v7 =>
  (gR 10 2 a0 μ).bind fun v8 =>
  (vO 0 v8 μ).bind fun g9 =>
  (X0_outcomesBy v8 x1 μ).bind fun v10 =>
  (gR 10 2 a0 μ).bind fun v11 =>
  (vO 0 v11 μ).bind fun g12 =>
  (X0_lookedAtBy v11 x2 μ).bind fun v13 =>
  (gR 10 2 a0 μ).bind fun v14 =>
  (vO 0 v14 μ).bind fun g15 =>
  (X0_outcomesBy v14 x2 μ).bind fun v16 =>
  if x3 = Int32.ofNat 0 then
  some (v7)
  else
  if x3 = Int32.ofNat 1 then
  some (v10)
  else
  if x3 = Int32.ofNat 2 then
  some (v13)
  else
  if x3 = Int32.ofNat 3 then
  some (v16)
  else
  ((if (v10 + v16) ≤ 30 then
  (some (if x3 = 4 then 1 else 0 : Int32)).bind fun v23 =>
  (X10_chance v7 v10 v13 v16 v23 μ).bind fun v24 =>
  some v24
  else
  some ((-1003))) : Option (Int32)).bind fun z25 =>
  some (z25)
def X10_who_L68 (a0 : Nat) (x3 : Int32) : Nat → Int32 → Int32 → Int32 → Mem → Option (Int32 × Int32 × Int32 × Mem)
  | 0, _, _, _, _ => none
  | n + 1, x4, x5, x6, μ =>
      if (4 : Int32) ≤ x6 then
      some ((x4, x5, x6, μ))
      else
      ((if (X10_contains x3 x6) = 0 then
      some ((x4, x5, μ))
      else
      (gR 10 0 a0 μ).bind fun v3 =>
      (gI 10 10 a0 μ).bind fun v4 =>
      (vO 9 v3 μ).bind fun g5 =>
      (X9_lookAhead v3 x6 v4 0 μ).bind fun μ6 =>
      (gR 10 0 a0 μ6).bind fun v7 =>
      (vO 9 v7 μ6).bind fun g8 =>
      (X9_seamOdds v7 0 μ6).bind fun v9 =>
      if v9 ≤ x5 then
      some ((x4, x5, μ6))
      else
      (gR 10 0 a0 μ6).bind fun v11 =>
      (vO 9 v11 μ6).bind fun g12 =>
      (X9_seamOdds v11 0 μ6).bind fun v13 =>
      some ((x6, v13, μ6))) : Option (Int32 × Int32 × Mem)).bind fun z14 =>
      X10_who_L68 a0 x3 n z14.1 z14.2.1 (x6 + 1) z14.2.2
def X10_who (a0 : Nat) (x1 : Int32) (x2 : Int32) (μ : Mem) : Option (Int32 × Mem) :=
  (gR 10 2 a0 μ).bind fun v1 =>
  (vO 0 v1 μ).bind fun g2 =>
  (X0_hasThing v1 x1 μ).bind fun v3 =>
  if v3 = 0 then
  some ((-1001), μ)
  else
  if (X10_within x2 0 1) = 0 then
  some ((-1002), μ)
  else
  (gR 10 2 a0 μ).bind fun v6 =>
  (gR 0 0 v6 μ).bind fun v7 =>
  (aR 6 v7 x1 μ).bind fun v8 =>
  (gI 6 0 v8 μ).bind fun v9 =>
  ((if x2 = 1 then
  (gR 10 2 a0 μ).bind fun v11 =>
  (vO 0 v11 μ).bind fun g12 =>
  (X0_personsWith v11 x1 μ).bind fun v13 =>
  some (v9 &&& (v13 ^^^ ((-1))))
  else
  some v9) : Option (Int32)).bind fun z14 =>
  (X10_who_L68 a0 z14 FU ((-1)) ((-1)) 0 μ).bind fun z15 =>
  some (z15.1, z15.2.2.2)
def X10_tried (a0 : Nat) (x1 : Int32) (x2 : Int32) (x3 : Int32) (x4 : Int32) (μ : Mem) : Option (Int32 × Mem) :=
  if (X10_isPerson x1) = 0 then
  some ((-1001), μ)
  else
  if (X10_within x2 0 1000000) = 0 then
  some ((-1002), μ)
  else
  if (X10_isWay x3) = 0 then
  some ((-1002), μ)
  else
  if (X10_within x4 0 3) = 0 then
  some ((-1002), μ)
  else
  (gR 10 7 a0 μ).bind fun v5 =>
  (gI 10 10 a0 μ).bind fun v6 =>
  (vO 7 v5 μ).bind fun g7 =>
  (X7_run v5 x1 x2 x3 v6 μ).bind fun μ8 =>
  if x4 = Int32.ofNat 0 then
  (gR 10 7 a0 μ8).bind fun v10 =>
  (gI 7 0 v10 μ8).bind fun v11 =>
  some (v11, μ8)
  else
  if x4 = Int32.ofNat 1 then
  (gR 10 7 a0 μ8).bind fun v13 =>
  (gI 7 1 v13 μ8).bind fun v14 =>
  some (v14, μ8)
  else
  if x4 = Int32.ofNat 2 then
  (gR 10 7 a0 μ8).bind fun v16 =>
  (gI 7 2 v16 μ8).bind fun v17 =>
  some (v17, μ8)
  else
  (gR 10 7 a0 μ8).bind fun v18 =>
  (gI 7 3 v18 μ8).bind fun v19 =>
  some (v19, μ8)
def X11_init_L327 (a0 : Nat) : Nat → Int32 → Mem → Option (Int32 × Mem)
  | 0, _, _ => none
  | n + 1, x1, μ =>
      if (16 : Int32) ≤ x1 then
      some ((x1, μ))
      else
      (gR 11 0 a0 μ).bind fun v2 =>
      (sI v2 x1 1 μ).bind fun μ3 =>
      (gR 11 1 a0 μ3).bind fun v4 =>
      (sI v4 x1 1 μ3).bind fun μ5 =>
      (gR 11 22 a0 μ5).bind fun v6 =>
      (sI v6 x1 10 μ5).bind fun μ7 =>
      X11_init_L327 a0 n (x1 + 1) μ7
def X11_init_L363 (a0 : Nat) : Nat → Int32 → Mem → Option (Int32 × Mem)
  | 0, _, _ => none
  | n + 1, x1, μ =>
      if (4 : Int32) ≤ x1 then
      some ((x1, μ))
      else
      (gR 11 2 a0 μ).bind fun v2 =>
      (sI v2 x1 1 μ).bind fun μ3 =>
      (gR 11 23 a0 μ3).bind fun v4 =>
      (sI v4 x1 50 μ3).bind fun μ5 =>
      X11_init_L363 a0 n (x1 + 1) μ5
def X11_init_L391 (a0 : Nat) : Nat → Int32 → Mem → Option (Int32 × Mem)
  | 0, _, _ => none
  | n + 1, x1, μ =>
      if (244 : Int32) ≤ x1 then
      some ((x1, μ))
      else
      (gR 11 4 a0 μ).bind fun v2 =>
      (sI v2 x1 ((-1)) μ).bind fun μ3 =>
      X11_init_L391 a0 n (x1 + 1) μ3
set_option maxRecDepth 100000 in
def X11_init (a0 : Nat) (μ : Mem) : Option Mem :=
  (nA 1 (mN μ + 0) 16 μ).bind fun μ1 =>
  (pR 11 0 a0 (mN μ + 0) μ1).bind fun μ2 =>
  (nA 1 (mN μ + 1) 16 μ2).bind fun μ3 =>
  (pR 11 1 a0 (mN μ + 1) μ3).bind fun μ4 =>
  (nA 1 (mN μ + 2) 4 μ4).bind fun μ5 =>
  (pR 11 2 a0 (mN μ + 2) μ5).bind fun μ6 =>
  (nA 1 (mN μ + 3) 244 μ6).bind fun μ7 =>
  (pR 11 4 a0 (mN μ + 3) μ7).bind fun μ8 =>
  (nA 2 (mN μ + 4) 4 μ8).bind fun μ9 =>
  (pR 11 6 a0 (mN μ + 4) μ9).bind fun μ10 =>
  (nA 2 (mN μ + 5) 4 μ10).bind fun μ11 =>
  (pR 11 7 a0 (mN μ + 5) μ11).bind fun μ12 =>
  (nA 1 (mN μ + 6) 4 μ12).bind fun μ13 =>
  (pR 11 8 a0 (mN μ + 6) μ13).bind fun μ14 =>
  (nA 1 (mN μ + 7) 4 μ14).bind fun μ15 =>
  (pR 11 9 a0 (mN μ + 7) μ15).bind fun μ16 =>
  (nA 1 (mN μ + 8) 4 μ16).bind fun μ17 =>
  (pR 11 10 a0 (mN μ + 8) μ17).bind fun μ18 =>
  (nA 1 (mN μ + 9) 4 μ18).bind fun μ19 =>
  (pR 11 11 a0 (mN μ + 9) μ19).bind fun μ20 =>
  (nA 1 (mN μ + 10) 10 μ20).bind fun μ21 =>
  (pR 11 13 a0 (mN μ + 10) μ21).bind fun μ22 =>
  (nA 1 (mN μ + 11) 10 μ22).bind fun μ23 =>
  (pR 11 14 a0 (mN μ + 11) μ23).bind fun μ24 =>
  (nA 1 (mN μ + 12) 10 μ24).bind fun μ25 =>
  (pR 11 15 a0 (mN μ + 12) μ25).bind fun μ26 =>
  (nA 1 (mN μ + 13) 10 μ26).bind fun μ27 =>
  (pR 11 16 a0 (mN μ + 13) μ27).bind fun μ28 =>
  (nA 1 (mN μ + 14) 10 μ28).bind fun μ29 =>
  (pR 11 17 a0 (mN μ + 14) μ29).bind fun μ30 =>
  (nA 1 (mN μ + 15) 10 μ30).bind fun μ31 =>
  (pR 11 18 a0 (mN μ + 15) μ31).bind fun μ32 =>
  (nA 1 (mN μ + 16) 10 μ32).bind fun μ33 =>
  (pR 11 19 a0 (mN μ + 16) μ33).bind fun μ34 =>
  (nA 1 (mN μ + 17) 10 μ34).bind fun μ35 =>
  (pR 11 20 a0 (mN μ + 17) μ35).bind fun μ36 =>
  (nA 3 (mN μ + 18) 10 μ36).bind fun μ37 =>
  (pR 11 21 a0 (mN μ + 18) μ37).bind fun μ38 =>
  (nA 1 (mN μ + 19) 16 μ38).bind fun μ39 =>
  (pR 11 22 a0 (mN μ + 19) μ39).bind fun μ40 =>
  (nA 1 (mN μ + 20) 4 μ40).bind fun μ41 =>
  (pR 11 23 a0 (mN μ + 20) μ41).bind fun μ42 =>
  (nA 1 (mN μ + 21) 4 μ42).bind fun μ43 =>
  (pR 11 24 a0 (mN μ + 21) μ43).bind fun μ44 =>
  (nA 1 (mN μ + 22) 32 μ44).bind fun μ45 =>
  (pR 11 25 a0 (mN μ + 22) μ45).bind fun μ46 =>
  (nA 1 (mN μ + 23) 32 μ46).bind fun μ47 =>
  (pR 11 26 a0 (mN μ + 23) μ47).bind fun μ48 =>
  (nA 1 (mN μ + 24) 32 μ48).bind fun μ49 =>
  (pR 11 27 a0 (mN μ + 24) μ49).bind fun μ50 =>
  (nA 1 (mN μ + 25) 32 μ50).bind fun μ51 =>
  (pR 11 28 a0 (mN μ + 25) μ51).bind fun μ52 =>
  (nA 1 (mN μ + 26) 9 μ52).bind fun μ53 =>
  (pR 11 29 a0 (mN μ + 26) μ53).bind fun μ54 =>
  (nA 1 (mN μ + 27) 9 μ54).bind fun μ55 =>
  (pR 11 30 a0 (mN μ + 27) μ55).bind fun μ56 =>
  (nA 1 (mN μ + 28) 9 μ56).bind fun μ57 =>
  (pR 11 31 a0 (mN μ + 28) μ57).bind fun μ58 =>
  (nA 1 (mN μ + 29) 9 μ58).bind fun μ59 =>
  (pR 11 32 a0 (mN μ + 29) μ59).bind fun μ60 =>
  (nA 1 (mN μ + 30) 160 μ60).bind fun μ61 =>
  (pR 11 33 a0 (mN μ + 30) μ61).bind fun μ62 =>
  (pI 11 35 a0 ((-1)) μ62).bind fun μ63 =>
  (nA 1 (mN μ + 31) 6 μ63).bind fun μ64 =>
  (pR 11 40 a0 (mN μ + 31) μ64).bind fun μ65 =>
  (nA 1 (mN μ + 32) 28672 μ65).bind fun μ66 =>
  (pR 11 42 a0 (mN μ + 32) μ66).bind fun μ67 =>
  (nA 1 (mN μ + 33) 384 μ67).bind fun μ68 =>
  (pR 11 43 a0 (mN μ + 33) μ68).bind fun μ69 =>
  (nA 1 (mN μ + 34) 384 μ69).bind fun μ70 =>
  (pR 11 44 a0 (mN μ + 34) μ70).bind fun μ71 =>
  (nA 1 (mN μ + 35) 40 μ71).bind fun μ72 =>
  (pR 11 46 a0 (mN μ + 35) μ72).bind fun μ73 =>
  (nA 1 (mN μ + 36) 40 μ73).bind fun μ74 =>
  (pR 11 47 a0 (mN μ + 36) μ74).bind fun μ75 =>
  (nA 1 (mN μ + 37) 40 μ75).bind fun μ76 =>
  (pR 11 48 a0 (mN μ + 37) μ76).bind fun μ77 =>
  (nA 1 (mN μ + 38) 40 μ77).bind fun μ78 =>
  (pR 11 49 a0 (mN μ + 38) μ78).bind fun μ79 =>
  (nA 1 (mN μ + 39) 40 μ79).bind fun μ80 =>
  (pR 11 50 a0 (mN μ + 39) μ80).bind fun μ81 =>
  (X11_init_L327 a0 FU 0 μ81).bind fun z82 =>
  (X11_init_L363 a0 FU 0 z82.2).bind fun z83 =>
  (X11_init_L391 a0 FU 0 z83.2).bind fun z84 =>
  some z84.2
def X11_in (j0 : Int64) (j2 : Int64) (j4 : Int64) : Int32 :=
  (if (lg_cmp j0 j2) < 0 then 0 else if (0 : Int32) < (lg_cmp j0 j4) then 0 else 1)
def X11_isState (x0 : Int32) : Int32 :=
  X11_in x0.toInt64 0 3
def X11_isPerson (x0 : Int32) : Int32 :=
  X11_in x0.toInt64 0 3
def X11_move (a0 : Nat) (x1 : Int32) (x2 : Int32) (x3 : Int32) (μ : Mem) : Option (Int32 × Mem) :=
  if (X11_isState x1) = 0 then
  some ((-1002), μ)
  else
  if (X11_isState x2) = 0 then
  some ((-1002), μ)
  else
  if (X11_in x3.toInt64 0 4) = 0 then
  some ((-1002), μ)
  else
  (gR 11 0 a0 μ).bind fun v4 =>
  (aI v4 ((4 * x1) + x2) μ).bind fun v5 =>
  (gR 11 0 a0 μ).bind fun v6 =>
  (sI v6 ((4 * x1) + x2) x3 μ).bind fun μ7 =>
  some (v5, μ7)
def X11_shows (a0 : Nat) (x1 : Int32) (x2 : Int32) (x3 : Int32) (μ : Mem) : Option (Int32 × Mem) :=
  if (X11_isState x1) = 0 then
  some ((-1002), μ)
  else
  if (X11_isState x2) = 0 then
  some ((-1002), μ)
  else
  if (X11_in x3.toInt64 0 4) = 0 then
  some ((-1002), μ)
  else
  (gR 11 1 a0 μ).bind fun v4 =>
  (aI v4 ((4 * x1) + x2) μ).bind fun v5 =>
  (gR 11 1 a0 μ).bind fun v6 =>
  (sI v6 ((4 * x1) + x2) x3 μ).bind fun μ7 =>
  some (v5, μ7)
def X11_begins (a0 : Nat) (x1 : Int32) (x2 : Int32) (μ : Mem) : Option (Int32 × Mem) :=
  if (X11_isState x1) = 0 then
  some ((-1002), μ)
  else
  if (X11_in x2.toInt64 0 4) = 0 then
  some ((-1002), μ)
  else
  (gR 11 2 a0 μ).bind fun v3 =>
  (aI v3 x1 μ).bind fun v4 =>
  (gR 11 2 a0 μ).bind fun v5 =>
  (sI v5 x1 x2 μ).bind fun μ6 =>
  some (v4, μ6)
def X11_seams (a0 : Nat) (x1 : Int32) (μ : Mem) : Option (Int32 × Mem) :=
  if (X11_in x1.toInt64 0 15) = 0 then
  some ((-1002), μ)
  else
  (gI 11 3 a0 μ).bind fun v2 =>
  (pI 11 3 a0 x1 μ).bind fun μ3 =>
  some (v2, μ3)
def X11_sign (a0 : Nat) (x1 : Int32) (x2 : Int32) (μ : Mem) : Option (Int32 × Mem) :=
  if (X11_isPerson x1) = 0 then
  some ((-1001), μ)
  else
  if (X11_in x2.toInt64 ((-1)) 3) = 0 then
  some ((-1002), μ)
  else
  (gR 11 4 a0 μ).bind fun v3 =>
  (gI 11 5 a0 μ).bind fun v4 =>
  (sI v3 ((61 * x1) + v4) x2 μ).bind fun μ5 =>
  some (1, μ5)
def X11_go (a0 : Nat) (x1 : Int32) (μ : Mem) : Option (Int32 × Mem) :=
  if (X11_in x1.toInt64 0 20) = 0 then
  some ((-1002), μ)
  else
  (gI 11 5 a0 μ).bind fun v2 =>
  if (v2 + x1) ≤ 60 then
  (gI 11 5 a0 μ).bind fun v4 =>
  (pI 11 5 a0 (v4 + x1) μ).bind fun μ5 =>
  (gI 11 5 a0 μ5).bind fun v6 =>
  some (v6, μ5)
  else
  some ((-1003), μ)
def X11_showsAt (a0 : Nat) (x1 : Int32) (x2 : Int32) (x3 : Int32) (μ : Mem) : Option Int32 :=
  (gR 11 4 a0 μ).bind fun v1 =>
  (aI v1 ((61 * x1) + x2) μ).bind fun v2 =>
  ((if (0 : Int32) ≤ v2 then
  (gR 11 1 a0 μ).bind fun v4 =>
  (aI v4 ((4 * x3) + v2) μ).bind fun v5 =>
  some v5
  else
  some 1) : Option (Int32)).bind fun z6 =>
  some (z6)
def X11_findRows_L18 (a0 : Nat) (x1 : Int32) (x2 : Int32) (x3 : Int32) : Nat → Int32 → Mem → Option (Int32 × Mem)
  | 0, _, _ => none
  | n + 1, x4, μ =>
      if (4 : Int32) ≤ x4 then
      some ((x4, μ))
      else
      (gR 11 6 a0 μ).bind fun v2 =>
      (gR 11 2 a0 μ).bind fun v3 =>
      (aI v3 x4 μ).bind fun v4 =>
      (vO 11 a0 μ).bind fun g5 =>
      (X11_showsAt a0 x1 x3 x4 μ).bind fun v6 =>
      (sJ v2 x4 (v4.toInt64 * v6.toInt64) μ).bind fun μ7 =>
      (gR 11 8 a0 μ7).bind fun v8 =>
      (gR 11 6 a0 μ7).bind fun v9 =>
      (aJ v9 x4 μ7).bind fun v10 =>
      (some (if (lg_cmp v10 0) ≤ 0 then 0 else 1 : Int32)).bind fun v12 =>
      (sI v8 x4 v12 μ7).bind fun μ13 =>
      X11_findRows_L18 a0 x1 x2 x3 n (x4 + 1) μ13
def X11_findRows_L118 (a0 : Nat) (x1 : Int32) (x2 : Int32) (x4 : Int32) (x5 : Int32) : Nat → Int32 → Mem → Option (Int32 × Mem)
  | 0, _, _ => none
  | n + 1, x6, μ =>
      if (4 : Int32) ≤ x6 then
      some ((x6, μ))
      else
      (gR 11 0 a0 μ).bind fun v2 =>
      (aI v2 ((4 * x6) + x5) μ).bind fun v3 =>
      (vO 11 a0 μ).bind fun g4 =>
      (X11_showsAt a0 x1 x4 x5 μ).bind fun v5 =>
      (some (v3 * v5 : Int32)).bind fun v6 =>
      (gR 11 7 a0 μ).bind fun v7 =>
      (aJ v7 x5 μ).bind fun v8 =>
      (gR 11 6 a0 μ).bind fun v9 =>
      (aJ v9 x6 μ).bind fun v10 =>
      (sJ v7 x5 (v8 + (v10 * v6.toInt64)) μ).bind fun μ11 =>
      (gR 11 9 a0 μ11).bind fun v12 =>
      (aI v12 x5 μ11).bind fun v13 =>
      ((if v6 ≤ 0 then
      some 0
      else
      (gR 11 8 a0 μ11).bind fun v15 =>
      (aI v15 x6 μ11).bind fun v16 =>
      some v16) : Option (Int32)).bind fun z17 =>
      (sI v12 x5 (v13 + z17) μ11).bind fun μ18 =>
      X11_findRows_L118 a0 x1 x2 x4 x5 n (x6 + 1) μ18
def X11_findRows_L93 (a0 : Nat) (x1 : Int32) (x2 : Int32) (x4 : Int32) : Nat → Int32 → Mem → Option (Int32 × Mem)
  | 0, _, _ => none
  | n + 1, x5, μ =>
      if (4 : Int32) ≤ x5 then
      some ((x5, μ))
      else
      (gR 11 7 a0 μ).bind fun v2 =>
      (sJ v2 x5 0 μ).bind fun μ3 =>
      (gR 11 9 a0 μ3).bind fun v4 =>
      (sI v4 x5 0 μ3).bind fun μ5 =>
      (X11_findRows_L118 a0 x1 x2 x4 x5 FU 0 μ5).bind fun z6 =>
      X11_findRows_L93 a0 x1 x2 x4 n (x5 + 1) z6.2
def X11_findRows_L210 (a0 : Nat) (x1 : Int32) (x2 : Int32) (x4 : Int32) : Nat → Int32 → Mem → Option (Int32 × Mem)
  | 0, _, _ => none
  | n + 1, x5, μ =>
      if (4 : Int32) ≤ x5 then
      some ((x5, μ))
      else
      (gR 11 6 a0 μ).bind fun v2 =>
      (gR 11 7 a0 μ).bind fun v3 =>
      (aJ v3 x5 μ).bind fun v4 =>
      (sJ v2 x5 v4 μ).bind fun μ5 =>
      (gR 11 8 a0 μ5).bind fun v6 =>
      (gR 11 9 a0 μ5).bind fun v7 =>
      (aI v7 x5 μ5).bind fun v8 =>
      (sI v6 x5 v8 μ5).bind fun μ9 =>
      X11_findRows_L210 a0 x1 x2 x4 n (x5 + 1) μ9
def X11_findRows_L84 (a0 : Nat) (x1 : Int32) (x2 : Int32) : Nat → Int32 → Mem → Option (Int32 × Mem)
  | 0, _, _ => none
  | n + 1, x4, μ =>
      if x2 < x4 then
      some ((x4, μ))
      else
      (X11_findRows_L93 a0 x1 x2 x4 FU 0 μ).bind fun z2 =>
      (X11_findRows_L210 a0 x1 x2 x4 FU 0 z2.2).bind fun z3 =>
      X11_findRows_L84 a0 x1 x2 n (x4 + 1) z3.2
def X11_findRows (a0 : Nat) (x1 : Int32) (x2 : Int32) (μ : Mem) : Option Mem :=
  (some (if (6 : Int32) ≤ x2 then x2 - 6 else 0 : Int32)).bind fun v2 =>
  (X11_findRows_L18 a0 x1 x2 v2 FU 0 μ).bind fun z3 =>
  (some (v2 + 1 : Int32)).bind fun v4 =>
  (X11_findRows_L84 a0 x1 x2 FU v4 z3.2).bind fun z5 =>
  some z5.2
def X11_findOdds_L38 (a0 : Nat) (x3 : Int32) (j4 : Int64) : Nat → Int32 → Mem → Option (Int32 × Mem)
  | 0, _, _ => none
  | n + 1, x6, μ =>
      if (4 : Int32) ≤ x6 then
      some ((x6, μ))
      else
      (gR 11 10 a0 μ).bind fun v2 =>
      ((if (lg_cmp j4 0) = 0 then
      some 0
      else
      (gR 11 6 a0 μ).bind fun v4 =>
      (aJ v4 x6 μ).bind fun v5 =>
      (dvJ (v5 * 1000000) j4).bind fun v6 =>
      some v6.toInt32) : Option (Int32)).bind fun z7 =>
      (sI v2 x6 z7 μ).bind fun μ8 =>
      X11_findOdds_L38 a0 x3 j4 n (x6 + 1) μ8
def X11_findOdds_L112 (a0 : Nat) (x3 : Int32) (x6 : Int32) (x7 : Int32) : Nat → Int32 → Mem → Option (Int32 × Mem)
  | 0, _, _ => none
  | n + 1, x8, μ =>
      if (4 : Int32) ≤ x8 then
      some ((x8, μ))
      else
      (gR 11 0 a0 μ).bind fun v2 =>
      (aI v2 (4 * x8) μ).bind fun v3 =>
      (gR 11 0 a0 μ).bind fun v4 =>
      (aI v4 ((4 * x8) + 1) μ).bind fun v5 =>
      (gR 11 0 a0 μ).bind fun v6 =>
      (aI v6 ((4 * x8) + 2) μ).bind fun v7 =>
      (gR 11 0 a0 μ).bind fun v8 =>
      (aI v8 ((4 * x8) + 3) μ).bind fun v9 =>
      (some (((v3 + v5) + v7) + v9 : Int32)).bind fun v10 =>
      (gR 11 11 a0 μ).bind fun v11 =>
      (aI v11 x7 μ).bind fun v12 =>
      ((if v10 = 0 then
      some 0
      else
      (gR 11 10 a0 μ).bind fun v14 =>
      (aI v14 x8 μ).bind fun v15 =>
      (gR 11 0 a0 μ).bind fun v16 =>
      (aI v16 ((4 * x8) + x7) μ).bind fun v17 =>
      (dvI (v15 * v17) v10).bind fun v18 =>
      some v18) : Option (Int32)).bind fun z19 =>
      (sI v11 x7 (v12 + z19) μ).bind fun μ20 =>
      X11_findOdds_L112 a0 x3 x6 x7 n (x8 + 1) μ20
def X11_findOdds_L95 (a0 : Nat) (x3 : Int32) (x6 : Int32) : Nat → Int32 → Mem → Option (Int32 × Mem)
  | 0, _, _ => none
  | n + 1, x7, μ =>
      if (4 : Int32) ≤ x7 then
      some ((x7, μ))
      else
      (gR 11 11 a0 μ).bind fun v2 =>
      (sI v2 x7 0 μ).bind fun μ3 =>
      (X11_findOdds_L112 a0 x3 x6 x7 FU 0 μ3).bind fun z4 =>
      X11_findOdds_L95 a0 x3 x6 n (x7 + 1) z4.2
def X11_findOdds_L222 (a0 : Nat) (x3 : Int32) (x6 : Int32) : Nat → Int32 → Mem → Option (Int32 × Mem)
  | 0, _, _ => none
  | n + 1, x7, μ =>
      if (4 : Int32) ≤ x7 then
      some ((x7, μ))
      else
      (gR 11 10 a0 μ).bind fun v2 =>
      (gR 11 11 a0 μ).bind fun v3 =>
      (aI v3 x7 μ).bind fun v4 =>
      (sI v2 x7 v4 μ).bind fun μ5 =>
      X11_findOdds_L222 a0 x3 x6 n (x7 + 1) μ5
def X11_findOdds_L86 (a0 : Nat) (x3 : Int32) : Nat → Int32 → Mem → Option (Int32 × Mem)
  | 0, _, _ => none
  | n + 1, x6, μ =>
      if x3 ≤ x6 then
      some ((x6, μ))
      else
      (X11_findOdds_L95 a0 x3 x6 FU 0 μ).bind fun z2 =>
      (X11_findOdds_L222 a0 x3 x6 FU 0 z2.2).bind fun z3 =>
      X11_findOdds_L86 a0 x3 n (x6 + 1) z3.2
def X11_findOdds (a0 : Nat) (x1 : Int32) (x2 : Int32) (x3 : Int32) (μ : Mem) : Option Mem :=
  (vO 11 a0 μ).bind fun g1 =>
  (X11_findRows a0 x1 x2 μ).bind fun μ2 =>
  (gR 11 6 a0 μ2).bind fun v3 =>
  (aJ v3 0 μ2).bind fun v4 =>
  (gR 11 6 a0 μ2).bind fun v5 =>
  (aJ v5 1 μ2).bind fun v6 =>
  (gR 11 6 a0 μ2).bind fun v7 =>
  (aJ v7 2 μ2).bind fun v8 =>
  (gR 11 6 a0 μ2).bind fun v9 =>
  (aJ v9 3 μ2).bind fun v10 =>
  (some (((v4 + v6) + v8) + v10 : Int64)).bind fun v11 =>
  (X11_findOdds_L38 a0 x3 v11 FU 0 μ2).bind fun z12 =>
  (X11_findOdds_L86 a0 x3 FU 0 z12.2).bind fun z13 =>
  some z13.2
def X11_seamOdds_L13 (a0 : Nat) (μ : Mem) : Nat → Int32 → Int32 → Option (Int32 × Int32)
  | 0, _, _ => none
  | n + 1, x4, x5 =>
      if (4 : Int32) ≤ x5 then
      some ((x4, x5))
      else
      (gI 11 3 a0 μ).bind fun v2 =>
      (gR 11 10 a0 μ).bind fun v3 =>
      (aI v3 x5 μ).bind fun v4 =>
      (some (x4 + (((v2 >>> (x5 &&& 31)) &&& 1) * v4) : Int32)).bind fun v5 =>
      X11_seamOdds_L13 a0 μ n v5 (x5 + 1)
def X11_seamOdds (a0 : Nat) (x1 : Int32) (x2 : Int32) (x3 : Int32) (μ : Mem) : Option (Int32 × Mem) :=
  (vO 11 a0 μ).bind fun g1 =>
  (X11_findOdds a0 x1 x2 x3 μ).bind fun μ2 =>
  (X11_seamOdds_L13 a0 μ2 FU 0 0).bind fun z3 =>
  some (z3.1, μ2)
def X11_fits (a0 : Nat) (x1 : Int32) (x2 : Int32) (μ : Mem) : Option (Int32 × Mem) :=
  if (X11_isPerson x1) = 0 then
  some ((-1001), μ)
  else
  (gI 11 5 a0 μ).bind fun v2 =>
  if (X11_in x2.toInt64 0 v2.toInt64) = 0 then
  some ((-1002), μ)
  else
  (vO 11 a0 μ).bind fun g4 =>
  (X11_findRows a0 x1 x2 μ).bind fun μ5 =>
  (gR 11 8 a0 μ5).bind fun v6 =>
  (aI v6 0 μ5).bind fun v7 =>
  (gR 11 8 a0 μ5).bind fun v8 =>
  (aI v8 1 μ5).bind fun v9 =>
  (gR 11 8 a0 μ5).bind fun v10 =>
  (aI v10 2 μ5).bind fun v11 =>
  (gR 11 8 a0 μ5).bind fun v12 =>
  (aI v12 3 μ5).bind fun v13 =>
  some (((v7 + v9) + v11) + v13, μ5)
def X11_odds (a0 : Nat) (x1 : Int32) (x2 : Int32) (x3 : Int32) (μ : Mem) : Option (Int32 × Mem) :=
  if (X11_isPerson x1) = 0 then
  some ((-1001), μ)
  else
  if (X11_isState x2) = 0 then
  some ((-1002), μ)
  else
  if (X11_in x3.toInt64 0 8) = 0 then
  some ((-1002), μ)
  else
  (gI 11 5 a0 μ).bind fun v4 =>
  (vO 11 a0 μ).bind fun g5 =>
  (X11_findOdds a0 x1 v4 x3 μ).bind fun μ6 =>
  (gR 11 10 a0 μ6).bind fun v7 =>
  (aI v7 x2 μ6).bind fun v8 =>
  some (v8, μ6)
def X11_seam (a0 : Nat) (x1 : Int32) (x2 : Int32) (μ : Mem) : Option (Int32 × Mem) :=
  if (X11_isPerson x1) = 0 then
  some ((-1001), μ)
  else
  ((if (X11_in x2.toInt64 0 8) = 0 then
  some (((-1002), μ))
  else
  (gI 11 5 a0 μ).bind fun v3 =>
  (vO 11 a0 μ).bind fun g4 =>
  (X11_seamOdds a0 x1 v3 x2 μ).bind fun z5 =>
  some ((z5.1, z5.2))) : Option (Int32 × Mem)).bind fun z6 =>
  some (z6.1, z6.2)
def X11_until_L29 (a0 : Nat) (x1 : Int32) (x2 : Int32) : Nat → Int32 → Mem → Option (Int32 × Mem)
  | 0, _, _ => none
  | n + 1, x3, μ =>
      if (8 : Int32) < x3 then
      some ((-1), μ)
      else
      (gI 11 5 a0 μ).bind fun v2 =>
      (vO 11 a0 μ).bind fun g3 =>
      (X11_seamOdds a0 x1 v2 x3 μ).bind fun z4 =>
      if z4.1 < x2 then
      X11_until_L29 a0 x1 x2 n (x3 + 1) z4.2
      else
      some (x3, z4.2)
def X11_until (a0 : Nat) (x1 : Int32) (x2 : Int32) (μ : Mem) : Option (Int32 × Mem) :=
  if (X11_isPerson x1) = 0 then
  some ((-1001), μ)
  else
  if (X11_in x2.toInt64 0 1000000) = 0 then
  some ((-1002), μ)
  else
  X11_until_L29 a0 x1 x2 FU 0 μ
def X11_isThing (a0 : Nat) (x1 : Int32) (μ : Mem) : Option Int32 :=
  (gI 11 12 a0 μ).bind fun v1 =>
  (zz (X11_in x1.toInt64 0 ((v1 - 1).toInt64))).bind fun v2 =>
  some v2
def X11_isMust (a0 : Nat) (x1 : Int32) (μ : Mem) : Option Int32 :=
  (gR 11 14 a0 μ).bind fun v1 =>
  (aI v1 x1 μ).bind fun v2 =>
  ((if v2 = 0 then
  some 1
  else
  (gR 11 14 a0 μ).bind fun v4 =>
  (aI v4 x1 μ).bind fun v5 =>
  if v5 = 3 then
  some 1
  else
  some 0) : Option (Int32)).bind fun z7 =>
  (zz z7).bind fun v8 =>
  some v8
def X11_thing (a0 : Nat) (x1 : Int32) (x2 : Int32) (x3 : Int32) (x4 : Int32) (x5 : Int32) (x6 : Int32) (x7 : Int32) (μ : Mem) : Option (Int32 × Mem) :=
  if (X11_in x1.toInt64 1 15) = 0 then
  some ((-1001), μ)
  else
  if (X11_in x2.toInt64 0 3) = 0 then
  some ((-1002), μ)
  else
  if (X11_in x3.toInt64 0 5) = 0 then
  some ((-1002), μ)
  else
  if (X11_in x4.toInt64 0 9) = 0 then
  some ((-1002), μ)
  else
  if (X11_in x5.toInt64 0 999) = 0 then
  some ((-1002), μ)
  else
  if (X11_in x6.toInt64 0 99) = 0 then
  some ((-1002), μ)
  else
  (gI 11 5 a0 μ).bind fun v7 =>
  if (X11_in x7.toInt64 v7.toInt64 60) = 0 then
  some ((-1002), μ)
  else
  (gI 11 12 a0 μ).bind fun v9 =>
  if v9 = 10 then
  some ((-1004), μ)
  else
  (gR 11 13 a0 μ).bind fun v11 =>
  (gI 11 12 a0 μ).bind fun v12 =>
  (sI v11 v12 x1 μ).bind fun μ13 =>
  (gR 11 14 a0 μ13).bind fun v14 =>
  (gI 11 12 a0 μ13).bind fun v15 =>
  (sI v14 v15 x2 μ13).bind fun μ16 =>
  (gR 11 15 a0 μ16).bind fun v17 =>
  (gI 11 12 a0 μ16).bind fun v18 =>
  (sI v17 v18 x3 μ16).bind fun μ19 =>
  (gR 11 16 a0 μ19).bind fun v20 =>
  (gI 11 12 a0 μ19).bind fun v21 =>
  (sI v20 v21 x4 μ19).bind fun μ22 =>
  (gR 11 17 a0 μ22).bind fun v23 =>
  (gI 11 12 a0 μ22).bind fun v24 =>
  (sI v23 v24 x5 μ22).bind fun μ25 =>
  (gR 11 18 a0 μ25).bind fun v26 =>
  (gI 11 12 a0 μ25).bind fun v27 =>
  (sI v26 v27 x6 μ25).bind fun μ28 =>
  (gR 11 19 a0 μ28).bind fun v29 =>
  (gI 11 12 a0 μ28).bind fun v30 =>
  (sI v29 v30 x7 μ28).bind fun μ31 =>
  (gR 11 20 a0 μ31).bind fun v32 =>
  (gI 11 12 a0 μ31).bind fun v33 =>
  (gI 11 5 a0 μ31).bind fun v34 =>
  (sI v32 v33 v34 μ31).bind fun μ35 =>
  (gR 11 21 a0 μ35).bind fun v36 =>
  (gI 11 12 a0 μ35).bind fun v37 =>
  (sZ v36 v37 0 μ35).bind fun μ38 =>
  (gI 11 12 a0 μ38).bind fun v39 =>
  (pI 11 12 a0 (v39 + 1) μ38).bind fun μ40 =>
  (gI 11 12 a0 μ40).bind fun v41 =>
  some (v41 - 1, μ40)
def X11_sayingsOf_L4 (a0 : Nat) (x1 : Int32) (μ : Mem) : Nat → Int32 → Int32 → Option (Int32 × Int32)
  | 0, _, _ => none
  | n + 1, x2, x3 =>
      (gI 11 45 a0 μ).bind fun v1 =>
      if v1 ≤ x3 then
      some ((x2, x3))
      else
      (gR 11 47 a0 μ).bind fun v3 =>
      (aI v3 x3 μ).bind fun v4 =>
      (some (x2 + ((v4 >>> (x1 &&& 31)) &&& 1) : Int32)).bind fun v5 =>
      X11_sayingsOf_L4 a0 x1 μ n v5 (x3 + 1)
def X11_sayingsOf (a0 : Nat) (x1 : Int32) (μ : Mem) : Option Int32 :=
  (X11_sayingsOf_L4 a0 x1 μ FU 0 0).bind fun z1 =>
  some (z1.1)
def X11_dead (a0 : Nat) (x1 : Int32) (μ : Mem) : Option (Int32 × Mem) :=
  (vO 11 a0 μ).bind fun g1 =>
  (X11_isThing a0 x1 μ).bind fun v2 =>
  if v2 = 0 then
  some ((-1001), μ)
  else
  (gR 11 21 a0 μ).bind fun v4 =>
  (aZ v4 x1 μ).bind fun v5 =>
  if v5 = 0 then
  (gR 11 21 a0 μ).bind fun v7 =>
  (sZ v7 x1 1 μ).bind fun μ8 =>
  (vO 11 a0 μ8).bind fun g9 =>
  (X11_sayingsOf a0 x1 μ8).bind fun v10 =>
  some (v10, μ8)
  else
  some ((-1003), μ)
def X11_isTold_L7 (a0 : Nat) (x1 : Int32) (μ : Mem) : Nat → Int32 → Int32 → Int32 → Option (Int32 × Int32 × Int32)
  | 0, _, _, _ => none
  | n + 1, x2, x3, x4 =>
      (gI 11 45 a0 μ).bind fun v1 =>
      if v1 ≤ x4 then
      some ((x2, x3, x4))
      else
      (gR 11 47 a0 μ).bind fun v3 =>
      (aI v3 x4 μ).bind fun v4 =>
      (some (if ((v4 >>> (x1 &&& 31)) &&& 1) = 1 then 1 else 0 : Int32)).bind fun v6 =>
      ((if x2 = 0 then
      if v6 = 0 then
      some 0
      else
      (gR 11 50 a0 μ).bind fun v9 =>
      (aI v9 x4 μ).bind fun v10 =>
      if v10 = 3 then
      some 0
      else
      some 1
      else
      some 1) : Option (Int32)).bind fun z12 =>
      ((if v6 = 0 then
      some 0
      else
      (gR 11 50 a0 μ).bind fun v14 =>
      (aI v14 x4 μ).bind fun v15 =>
      if v15 = 1 then
      (gR 11 46 a0 μ).bind fun v17 =>
      (aI v17 x4 μ).bind fun v18 =>
      some (1 <<< (v18 &&& 31))
      else
      some 0) : Option (Int32)).bind fun z19 =>
      (some (x3 ||| z19 : Int32)).bind fun v20 =>
      X11_isTold_L7 a0 x1 μ n z12 v20 (x4 + 1)
def X11_isTold (a0 : Nat) (x1 : Int32) (μ : Mem) : Option Int32 :=
  (X11_isTold_L7 a0 x1 μ FU 0 0 0).bind fun z1 =>
  (gR 11 14 a0 μ).bind fun v2 =>
  (aI v2 x1 μ).bind fun v3 =>
  (some (if v3 = 3 then if (z1.2.1 &&& (z1.2.1 - 1)) = 0 then 0 else 1 else z1.1 : Int32)).bind fun v5 =>
  (zz v5).bind fun v6 =>
  some v6
def X11_stateOf (a0 : Nat) (x1 : Int32) (μ : Mem) : Option Int32 :=
  (gR 11 21 a0 μ).bind fun v1 =>
  (aZ v1 x1 μ).bind fun v2 =>
  ((if v2 = 0 then
  (vO 11 a0 μ).bind fun g4 =>
  (X11_isTold a0 x1 μ).bind fun v5 =>
  if v5 = 0 then
  (gR 11 19 a0 μ).bind fun v7 =>
  (aI v7 x1 μ).bind fun v8 =>
  (gI 11 5 a0 μ).bind fun v9 =>
  if v9 ≤ v8 then
  some 0
  else
  some 3
  else
  some 1
  else
  some 2) : Option (Int32)).bind fun z11 =>
  some (z11)
def X11_told (a0 : Nat) (x1 : Int32) (x2 : Int32) (μ : Mem) : Option Int32 :=
  (vO 11 a0 μ).bind fun g1 =>
  (X11_isThing a0 x1 μ).bind fun v2 =>
  if v2 = 0 then
  some ((-1001))
  else
  if x2 = Int32.ofNat 0 then
  (gR 11 13 a0 μ).bind fun v5 =>
  (aI v5 x1 μ).bind fun v6 =>
  some (v6)
  else
  if x2 = Int32.ofNat 1 then
  (gR 11 14 a0 μ).bind fun v8 =>
  (aI v8 x1 μ).bind fun v9 =>
  some (v9)
  else
  if x2 = Int32.ofNat 2 then
  (gR 11 15 a0 μ).bind fun v11 =>
  (aI v11 x1 μ).bind fun v12 =>
  some (v12)
  else
  if x2 = Int32.ofNat 3 then
  (gR 11 16 a0 μ).bind fun v14 =>
  (aI v14 x1 μ).bind fun v15 =>
  some (v15)
  else
  if x2 = Int32.ofNat 4 then
  (gR 11 19 a0 μ).bind fun v17 =>
  (aI v17 x1 μ).bind fun v18 =>
  some (v18)
  else
  if x2 = Int32.ofNat 5 then
  (vO 11 a0 μ).bind fun g20 =>
  (X11_stateOf a0 x1 μ).bind fun v21 =>
  some (v21)
  else
  if x2 = Int32.ofNat 6 then
  (vO 11 a0 μ).bind fun g23 =>
  (X11_sayingsOf a0 x1 μ).bind fun v24 =>
  some (v24)
  else
  if x2 = Int32.ofNat 7 then
  (gR 11 20 a0 μ).bind fun v26 =>
  (aI v26 x1 μ).bind fun v27 =>
  some (v27)
  else
  some ((-1002))
def X11_valueOf (a0 : Nat) (x1 : Int32) (x2 : Int32) (x3 : Int32) (μ : Mem) : Option (Int32 × Mem) :=
  (gI 11 5 a0 μ).bind fun v1 =>
  (some (v1 + x3 : Int32)).bind fun v2 =>
  (gR 11 17 a0 μ).bind fun v3 =>
  (aI v3 x1 μ).bind fun v4 =>
  (gR 11 18 a0 μ).bind fun v5 =>
  (aI v5 x1 μ).bind fun v6 =>
  (gR 11 20 a0 μ).bind fun v7 =>
  (aI v7 x1 μ).bind fun v8 =>
  (some (v4 - (v6 * (v2 - v8)) : Int32)).bind fun v9 =>
  (gR 11 21 a0 μ).bind fun v10 =>
  (aZ v10 x1 μ).bind fun v11 =>
  if v11 = 0 then
  (gR 11 19 a0 μ).bind fun v13 =>
  (aI v13 x1 μ).bind fun v14 =>
  if v14 < v2 then
  some (0, μ)
  else
  if (0 : Int32) < v9 then
  (gR 11 14 a0 μ).bind fun v17 =>
  (aI v17 x1 μ).bind fun v18 =>
  ((if v18 = 2 then
  (gI 11 5 a0 μ).bind fun v20 =>
  (vO 11 a0 μ).bind fun g21 =>
  (X11_seamOdds a0 x2 v20 x3 μ).bind fun z22 =>
  (dvJ (v9.toInt64 * z22.1.toInt64) 1000000).bind fun v23 =>
  some ((v23.toInt32, z22.2))
  else
  some ((v9, μ))) : Option (Int32 × Mem)).bind fun z24 =>
  some (z24.1, z24.2)
  else
  some (0, μ)
  else
  some (0, μ)
def X11_value (a0 : Nat) (x1 : Int32) (x2 : Int32) (x3 : Int32) (μ : Mem) : Option (Int32 × Mem) :=
  (vO 11 a0 μ).bind fun g1 =>
  (X11_isThing a0 x1 μ).bind fun v2 =>
  if v2 = 0 then
  some ((-1001), μ)
  else
  if (X11_isPerson x2) = 0 then
  some ((-1001), μ)
  else
  ((if (X11_in x3.toInt64 0 8) = 0 then
  some (((-1002), μ))
  else
  (vO 11 a0 μ).bind fun g6 =>
  (X11_valueOf a0 x1 x2 x3 μ).bind fun z7 =>
  some ((z7.1, z7.2))) : Option (Int32 × Mem)).bind fun z8 =>
  some (z8.1, z8.2)
def X11_isWay (x0 : Int32) : Int32 :=
  X11_in x0.toInt64 0 3
def X11_cost (a0 : Nat) (x1 : Int32) (x2 : Int32) (x3 : Int32) (μ : Mem) : Option (Int32 × Mem) :=
  if (X11_isWay x1) = 0 then
  some ((-1002), μ)
  else
  if (X11_isState x2) = 0 then
  some ((-1002), μ)
  else
  if (X11_in x3.toInt64 0 999) = 0 then
  some ((-1002), μ)
  else
  (gR 11 22 a0 μ).bind fun v4 =>
  (aI v4 ((4 * x1) + x2) μ).bind fun v5 =>
  (gR 11 22 a0 μ).bind fun v6 =>
  (sI v6 ((4 * x1) + x2) x3 μ).bind fun μ7 =>
  some (v5, μ7)
def X11_seen (a0 : Nat) (x1 : Int32) (x2 : Int32) (μ : Mem) : Option (Int32 × Mem) :=
  if (X11_isWay x1) = 0 then
  some ((-1002), μ)
  else
  if (X11_in x2.toInt64 0 100) = 0 then
  some ((-1002), μ)
  else
  (gR 11 23 a0 μ).bind fun v3 =>
  (aI v3 x1 μ).bind fun v4 =>
  (gR 11 23 a0 μ).bind fun v5 =>
  (sI v5 x1 x2 μ).bind fun μ6 =>
  some (v4, μ6)
def X11_lossOf_L14 (a0 : Nat) (x2 : Int32) (μ : Mem) : Nat → Int32 → Int32 → Option (Int32 × Int32)
  | 0, _, _ => none
  | n + 1, x5, x6 =>
      if (4 : Int32) ≤ x6 then
      some ((x5, x6))
      else
      (gR 11 10 a0 μ).bind fun v2 =>
      (aI v2 x6 μ).bind fun v3 =>
      (gR 11 22 a0 μ).bind fun v4 =>
      (aI v4 ((4 * x2) + x6) μ).bind fun v5 =>
      (dvI (v3 * v5) 1000000).bind fun v6 =>
      (some (x5 + v6 : Int32)).bind fun v7 =>
      X11_lossOf_L14 a0 x2 μ n v7 (x6 + 1)
def X11_lossOf (a0 : Nat) (x1 : Int32) (x2 : Int32) (x3 : Int32) (x4 : Int32) (μ : Mem) : Option (Int32 × Mem) :=
  (vO 11 a0 μ).bind fun g1 =>
  (X11_findOdds a0 x1 x3 x4 μ).bind fun μ2 =>
  (X11_lossOf_L14 a0 x2 μ2 FU 0 0).bind fun z3 =>
  some (z3.1, μ2)
def X11_loss (a0 : Nat) (x1 : Int32) (x2 : Int32) (x3 : Int32) (μ : Mem) : Option (Int32 × Mem) :=
  if (X11_isPerson x1) = 0 then
  some ((-1001), μ)
  else
  ((if (X11_isWay x2) = 0 then
  some (((-1002), μ))
  else
  if (X11_in x3.toInt64 0 8) = 0 then
  some (((-1002), μ))
  else
  (gI 11 5 a0 μ).bind fun v4 =>
  (vO 11 a0 μ).bind fun g5 =>
  (X11_lossOf a0 x1 x2 v4 x3 μ).bind fun z6 =>
  some ((z6.1, z6.2))) : Option (Int32 × Mem)).bind fun z7 =>
  some (z7.1, z7.2)
def X11_thingsThat_L4 (a0 : Nat) (x1 : Int32) (μ : Mem) : Nat → Int32 → Int32 → Option (Int32 × Int32)
  | 0, _, _ => none
  | n + 1, x2, x3 =>
      (gI 11 12 a0 μ).bind fun v1 =>
      if v1 ≤ x3 then
      some ((x2, x3))
      else
      (vO 11 a0 μ).bind fun g3 =>
      (X11_stateOf a0 x3 μ).bind fun v4 =>
      (some (if v4 = x1 then 1 else 0 : Int32)).bind fun v6 =>
      (some (x2 + v6 : Int32)).bind fun v7 =>
      X11_thingsThat_L4 a0 x1 μ n v7 (x3 + 1)
def X11_thingsThat (a0 : Nat) (x1 : Int32) (μ : Mem) : Option Int32 :=
  (X11_thingsThat_L4 a0 x1 μ FU 0 0).bind fun z1 =>
  some (z1.1)
def X11_count (a0 : Nat) (x1 : Int32) (μ : Mem) : Option Int32 :=
  if x1 = Int32.ofNat 0 then
  (gI 11 5 a0 μ).bind fun v2 =>
  some (v2)
  else
  if x1 = Int32.ofNat 1 then
  (gI 11 12 a0 μ).bind fun v4 =>
  some (v4)
  else
  if x1 = Int32.ofNat 2 then
  (vO 11 a0 μ).bind fun g6 =>
  (X11_thingsThat a0 0 μ).bind fun v7 =>
  some (v7)
  else
  if x1 = Int32.ofNat 3 then
  (vO 11 a0 μ).bind fun g9 =>
  (X11_thingsThat a0 1 μ).bind fun v10 =>
  some (v10)
  else
  if x1 = Int32.ofNat 4 then
  (vO 11 a0 μ).bind fun g12 =>
  (X11_thingsThat a0 2 μ).bind fun v13 =>
  some (v13)
  else
  if x1 = Int32.ofNat 5 then
  (vO 11 a0 μ).bind fun g15 =>
  (X11_thingsThat a0 3 μ).bind fun v16 =>
  some (v16)
  else
  if x1 = Int32.ofNat 6 then
  (gI 11 45 a0 μ).bind fun v18 =>
  some (v18)
  else
  if x1 = Int32.ofNat 7 then
  (gI 11 34 a0 μ).bind fun v20 =>
  some (v20)
  else
  some ((-1002))
def X11_feed_L37 (a0 : Nat) (j2 : Int64) : Nat → Int32 → Mem → Option (Int32 × Mem)
  | 0, _, _ => none
  | n + 1, x4, μ =>
      if x4 < 0 then
      some ((x4, μ))
      else
      (gR 11 33 a0 μ).bind fun v2 =>
      (gI 11 34 a0 μ).bind fun v3 =>
      (sI v2 v3 (((j2 >>> ((8 * x4).toInt64 &&& 63)) &&& 255).toInt32) μ).bind fun μ4 =>
      (gI 11 34 a0 μ4).bind fun v5 =>
      (pI 11 34 a0 (v5 + 1) μ4).bind fun μ6 =>
      X11_feed_L37 a0 j2 n (x4 + (-1)) μ6
def X11_feed (a0 : Nat) (x1 : Int32) (j2 : Int64) (μ : Mem) : Option (Int32 × Mem) :=
  if (X11_in x1.toInt64 1 8) = 0 then
  some ((-1002), μ)
  else
  (gI 11 34 a0 μ).bind fun v2 =>
  if (v2 + x1) ≤ 160 then
  (some (x1 - 1 : Int32)).bind fun v4 =>
  (X11_feed_L37 a0 j2 FU v4 μ).bind fun z5 =>
  (gI 11 34 a0 z5.2).bind fun v6 =>
  some (v6, z5.2)
  else
  some ((-1004), μ)
def X11_here_L0 (a0 : Nat) : Nat → Mem → Option (Mem)
  | 0, _ => none
  | n + 1, μ =>
      (gI 11 36 a0 μ).bind fun v1 =>
      (gI 11 34 a0 μ).bind fun v2 =>
      if v2 ≤ v1 then
      some μ
      else
      (gR 11 33 a0 μ).bind fun v4 =>
      (gI 11 36 a0 μ).bind fun v5 =>
      (aI v4 v5 μ).bind fun v6 =>
      if v6 = 32 then
      (gI 11 36 a0 μ).bind fun v8 =>
      (pI 11 36 a0 (v8 + 1) μ).bind fun μ9 =>
      X11_here_L0 a0 n μ9
      else
      some μ
def X11_here (a0 : Nat) (μ : Mem) : Option (Int32 × Mem) :=
  (X11_here_L0 a0 FU μ).bind fun z1 =>
  (gI 11 36 a0 z1).bind fun v2 =>
  (gI 11 34 a0 z1).bind fun v3 =>
  ((if v3 ≤ v2 then
  some ((-1))
  else
  (gR 11 33 a0 z1).bind fun v5 =>
  (gI 11 36 a0 z1).bind fun v6 =>
  (aI v5 v6 z1).bind fun v7 =>
  some v7) : Option (Int32)).bind fun z8 =>
  some (z8, z1)
def X11_fails (a0 : Nat) (x1 : Int32) (x2 : Int32) (μ : Mem) : Option (Int32 × Mem) :=
  (pI 11 35 a0 x2 μ).bind fun μ1 =>
  some (x1, μ1)
def X11_readWord_L18 (a0 : Nat) : Nat → Mem → Option (Mem)
  | 0, _ => none
  | n + 1, μ =>
      (gI 11 38 a0 μ).bind fun v1 =>
      (gI 11 34 a0 μ).bind fun v2 =>
      if v2 ≤ v1 then
      some μ
      else
      (gR 11 33 a0 μ).bind fun v4 =>
      (gI 11 38 a0 μ).bind fun v5 =>
      (aI v4 v5 μ).bind fun v6 =>
      if (X11_in v6.toInt64 97 122) = 0 then
      some μ
      else
      (gJ 11 37 a0 μ).bind fun v8 =>
      ((if (lg_cmp v8 10000000000) ≤ 0 then
      (gJ 11 37 a0 μ).bind fun v10 =>
      (gR 11 33 a0 μ).bind fun v11 =>
      (gI 11 38 a0 μ).bind fun v12 =>
      (aI v11 v12 μ).bind fun v13 =>
      some (((27 * v10) + v13.toInt64) - 96)
      else
      some 20000000000) : Option (Int64)).bind fun z14 =>
      (pJ 11 37 a0 z14 μ).bind fun μ15 =>
      (gI 11 38 a0 μ15).bind fun v16 =>
      (pI 11 38 a0 (v16 + 1) μ15).bind fun μ17 =>
      X11_readWord_L18 a0 n μ17
def X11_readWord (a0 : Nat) (μ : Mem) : Option Mem :=
  (vO 11 a0 μ).bind fun g1 =>
  (X11_here a0 μ).bind fun z2 =>
  (pJ 11 37 a0 0 z2.2).bind fun μ3 =>
  (gI 11 36 a0 μ3).bind fun v4 =>
  (pI 11 38 a0 v4 μ3).bind fun μ5 =>
  (X11_readWord_L18 a0 FU μ5).bind fun z6 =>
  some z6
def X11_code (x0 : Int32) (x1 : Int32) (x2 : Int32) (x3 : Int32) (x4 : Int32) (x5 : Int32) : Int64 :=
  (if x5 = 0 then (if x4 = 0 then (if x3 = 0 then (if x2 = 0 then ((27 * (x0.toInt64 - 96)) + x1.toInt64) - 96 else ((27 * (((27 * (x0.toInt64 - 96)) + x1.toInt64) - 96)) + x2.toInt64) - 96) else ((27 * ((if x2 = 0 then ((27 * (x0.toInt64 - 96)) + x1.toInt64) - 96 else ((27 * (((27 * (x0.toInt64 - 96)) + x1.toInt64) - 96)) + x2.toInt64) - 96))) + x3.toInt64) - 96) else ((27 * ((if x3 = 0 then (if x2 = 0 then ((27 * (x0.toInt64 - 96)) + x1.toInt64) - 96 else ((27 * (((27 * (x0.toInt64 - 96)) + x1.toInt64) - 96)) + x2.toInt64) - 96) else ((27 * ((if x2 = 0 then ((27 * (x0.toInt64 - 96)) + x1.toInt64) - 96 else ((27 * (((27 * (x0.toInt64 - 96)) + x1.toInt64) - 96)) + x2.toInt64) - 96))) + x3.toInt64) - 96))) + x4.toInt64) - 96) else ((27 * ((if x4 = 0 then (if x3 = 0 then (if x2 = 0 then ((27 * (x0.toInt64 - 96)) + x1.toInt64) - 96 else ((27 * (((27 * (x0.toInt64 - 96)) + x1.toInt64) - 96)) + x2.toInt64) - 96) else ((27 * ((if x2 = 0 then ((27 * (x0.toInt64 - 96)) + x1.toInt64) - 96 else ((27 * (((27 * (x0.toInt64 - 96)) + x1.toInt64) - 96)) + x2.toInt64) - 96))) + x3.toInt64) - 96) else ((27 * ((if x3 = 0 then (if x2 = 0 then ((27 * (x0.toInt64 - 96)) + x1.toInt64) - 96 else ((27 * (((27 * (x0.toInt64 - 96)) + x1.toInt64) - 96)) + x2.toInt64) - 96) else ((27 * ((if x2 = 0 then ((27 * (x0.toInt64 - 96)) + x1.toInt64) - 96 else ((27 * (((27 * (x0.toInt64 - 96)) + x1.toInt64) - 96)) + x2.toInt64) - 96))) + x3.toInt64) - 96))) + x4.toInt64) - 96))) + x5.toInt64) - 96)
def X11_needs (a0 : Nat) (j1 : Int64) (μ : Mem) : Option (Int32 × Mem) :=
  (vO 11 a0 μ).bind fun g1 =>
  (X11_readWord a0 μ).bind fun μ2 =>
  (gJ 11 37 a0 μ2).bind fun v3 =>
  if (lg_cmp v3 j1) = 0 then
  (gI 11 38 a0 μ2).bind fun v5 =>
  (pI 11 36 a0 v5 μ2).bind fun μ6 =>
  some (0, μ6)
  else
  (gI 11 36 a0 μ2).bind fun v7 =>
  (vO 11 a0 μ2).bind fun g8 =>
  (X11_fails a0 1 v7 μ2).bind fun z9 =>
  some (z9.1, z9.2)
def X11_readNumber_L40 (a0 : Nat) (x1 : Int32) (x2 : Int32) (x4 : Int32) : Nat → Mem → Option (Mem)
  | 0, _ => none
  | n + 1, μ =>
      (gI 11 36 a0 μ).bind fun v1 =>
      (gI 11 34 a0 μ).bind fun v2 =>
      if v2 ≤ v1 then
      some μ
      else
      (gR 11 33 a0 μ).bind fun v4 =>
      (gI 11 36 a0 μ).bind fun v5 =>
      (aI v4 v5 μ).bind fun v6 =>
      if (X11_in v6.toInt64 48 57) = 0 then
      some μ
      else
      (gI 11 39 a0 μ).bind fun v8 =>
      ((if v8 ≤ 10000 then
      (gI 11 39 a0 μ).bind fun v10 =>
      (gR 11 33 a0 μ).bind fun v11 =>
      (gI 11 36 a0 μ).bind fun v12 =>
      (aI v11 v12 μ).bind fun v13 =>
      some (((10 * v10) + v13) - 48)
      else
      (gI 11 39 a0 μ).bind fun v14 =>
      some v14) : Option (Int32)).bind fun z15 =>
      (pI 11 39 a0 z15 μ).bind fun μ16 =>
      (gI 11 36 a0 μ16).bind fun v17 =>
      (pI 11 36 a0 (v17 + 1) μ16).bind fun μ18 =>
      X11_readNumber_L40 a0 x1 x2 x4 n μ18
def X11_readNumber (a0 : Nat) (x1 : Int32) (x2 : Int32) (μ : Mem) : Option (Int32 × Mem) :=
  (vO 11 a0 μ).bind fun g1 =>
  (X11_here a0 μ).bind fun z2 =>
  if (X11_in z2.1.toInt64 48 57) = 0 then
  (gI 11 36 a0 z2.2).bind fun v16 =>
  (vO 11 a0 z2.2).bind fun g17 =>
  (X11_fails a0 1 v16 z2.2).bind fun z18 =>
  some (z18.1, z18.2)
  else
  (gI 11 36 a0 z2.2).bind fun v4 =>
  (pI 11 39 a0 0 z2.2).bind fun μ5 =>
  (X11_readNumber_L40 a0 x1 x2 v4 FU μ5).bind fun z6 =>
  (gI 11 36 a0 z6).bind fun v7 =>
  ((if (3 : Int32) < (v7 - v4) then
  (vO 11 a0 z6).bind fun g9 =>
  (X11_fails a0 2 v4 z6).bind fun z10 =>
  some ((z10.1, z10.2))
  else
  (gI 11 39 a0 z6).bind fun v11 =>
  if (X11_in v11.toInt64 x1.toInt64 x2.toInt64) = 0 then
  (vO 11 a0 z6).bind fun g13 =>
  (X11_fails a0 2 v4 z6).bind fun z14 =>
  some ((z14.1, z14.2))
  else
  some ((0, z6))) : Option (Int32 × Mem)).bind fun z15 =>
  some (z15.1, z15.2)
def X11_readWay (a0 : Nat) (x1 : Int32) (μ : Mem) : Option (Int32 × Mem) :=
  (vO 11 a0 μ).bind fun g1 =>
  (X11_readNumber a0 0 3 μ).bind fun z2 =>
  (gR 11 29 a0 z2.2).bind fun v3 =>
  (sI v3 x1 0 z2.2).bind fun μ4 =>
  (gR 11 30 a0 μ4).bind fun v5 =>
  (gI 11 39 a0 μ4).bind fun v6 =>
  (sI v5 x1 v6 μ4).bind fun μ7 =>
  if (0 : Int32) < z2.1 then
  some (z2.1, μ7)
  else
  (vO 11 a0 μ7).bind fun g9 =>
  (X11_here a0 μ7).bind fun z10 =>
  if (X11_in z10.1.toInt64 97 122) = 0 then
  some (z2.1, z10.2)
  else
  (vO 11 a0 z10.2).bind fun g12 =>
  (X11_needs a0 (X11_code 115 116 97 116 101 0) z10.2).bind fun z13 =>
  ((if z13.1 ≤ 0 then
  (vO 11 a0 z13.2).bind fun g15 =>
  (X11_readNumber a0 0 3 z13.2).bind fun z16 =>
  some ((z16.1, z16.2))
  else
  some ((z13.1, z13.2))) : Option (Int32 × Mem)).bind fun z17 =>
  (gR 11 29 a0 z17.2).bind fun v18 =>
  (sI v18 x1 1 z17.2).bind fun μ19 =>
  (gR 11 31 a0 μ19).bind fun v20 =>
  (gI 11 39 a0 μ19).bind fun v21 =>
  (sI v20 x1 v21 μ19).bind fun μ22 =>
  ((if z17.1 ≤ 0 then
  (vO 11 a0 μ22).bind fun g24 =>
  (X11_readNumber a0 0 100 μ22).bind fun z25 =>
  some ((z25.1, z25.2))
  else
  some ((z17.1, μ22))) : Option (Int32 × Mem)).bind fun z26 =>
  (gR 11 32 a0 z26.2).bind fun v27 =>
  (gI 11 39 a0 z26.2).bind fun v28 =>
  (sI v27 x1 v28 z26.2).bind fun μ29 =>
  some (z26.1, μ29)
def X11_readNever (a0 : Nat) (x1 : Int32) (μ : Mem) : Option (Int32 × Mem) :=
  (vO 11 a0 μ).bind fun g1 =>
  (X11_readWord a0 μ).bind fun μ2 =>
  (gJ 11 37 a0 μ2).bind fun v3 =>
  (some (if (lg_cmp v3 (X11_code 119 97 121 0 0 0)) = 0 then 1 else 0 : Int32)).bind fun v5 =>
  if v5 = 0 then
  (gJ 11 37 a0 μ2).bind fun v30 =>
  if (lg_cmp v30 (X11_code 107 105 110 100 0 0)) = 0 then
  (gI 11 38 a0 μ2).bind fun v32 =>
  (pI 11 36 a0 v32 μ2).bind fun μ33 =>
  if v5 = 0 then
  (vO 11 a0 μ33).bind fun g35 =>
  (X11_readNumber a0 0 3 μ33).bind fun z36 =>
  (gR 11 29 a0 z36.2).bind fun v37 =>
  (sI v37 x1 2 z36.2).bind fun μ38 =>
  (gR 11 30 a0 μ38).bind fun v39 =>
  (gI 11 39 a0 μ38).bind fun v40 =>
  (sI v39 x1 v40 μ38).bind fun μ41 =>
  ((if z36.1 ≤ 0 then
  (vO 11 a0 μ41).bind fun g43 =>
  (X11_needs a0 (X11_code 97 102 116 101 114 0) μ41).bind fun z44 =>
  some ((z44.1, z44.2))
  else
  some ((z36.1, μ41))) : Option (Int32 × Mem)).bind fun z45 =>
  ((if z45.1 ≤ 0 then
  (vO 11 a0 z45.2).bind fun g47 =>
  (X11_readNumber a0 0 60 z45.2).bind fun z48 =>
  some ((z48.1, z48.2))
  else
  some ((z45.1, z45.2))) : Option (Int32 × Mem)).bind fun z49 =>
  (gR 11 31 a0 z49.2).bind fun v50 =>
  (gI 11 39 a0 z49.2).bind fun v51 =>
  (sI v50 x1 v51 z49.2).bind fun μ52 =>
  some (z49.1, μ52)
  else
  (vO 11 a0 μ33).bind fun g53 =>
  (X11_readWay a0 x1 μ33).bind fun z54 =>
  some (z54.1, z54.2)
  else
  (gI 11 36 a0 μ2).bind fun v55 =>
  (vO 11 a0 μ2).bind fun g56 =>
  (X11_fails a0 1 v55 μ2).bind fun z57 =>
  some (z57.1, z57.2)
  else
  (gI 11 38 a0 μ2).bind fun v7 =>
  (pI 11 36 a0 v7 μ2).bind fun μ8 =>
  if v5 = 0 then
  (vO 11 a0 μ8).bind fun g10 =>
  (X11_readNumber a0 0 3 μ8).bind fun z11 =>
  (gR 11 29 a0 z11.2).bind fun v12 =>
  (sI v12 x1 2 z11.2).bind fun μ13 =>
  (gR 11 30 a0 μ13).bind fun v14 =>
  (gI 11 39 a0 μ13).bind fun v15 =>
  (sI v14 x1 v15 μ13).bind fun μ16 =>
  ((if z11.1 ≤ 0 then
  (vO 11 a0 μ16).bind fun g18 =>
  (X11_needs a0 (X11_code 97 102 116 101 114 0) μ16).bind fun z19 =>
  some ((z19.1, z19.2))
  else
  some ((z11.1, μ16))) : Option (Int32 × Mem)).bind fun z20 =>
  ((if z20.1 ≤ 0 then
  (vO 11 a0 z20.2).bind fun g22 =>
  (X11_readNumber a0 0 60 z20.2).bind fun z23 =>
  some ((z23.1, z23.2))
  else
  some ((z20.1, z20.2))) : Option (Int32 × Mem)).bind fun z24 =>
  (gR 11 31 a0 z24.2).bind fun v25 =>
  (gI 11 39 a0 z24.2).bind fun v26 =>
  (sI v25 x1 v26 z24.2).bind fun μ27 =>
  some (z24.1, μ27)
  else
  (vO 11 a0 μ8).bind fun g28 =>
  (X11_readWay a0 x1 μ8).bind fun z29 =>
  some (z29.1, z29.2)
def X11_readMost (a0 : Nat) (x1 : Int32) (μ : Mem) : Option (Int32 × Mem) :=
  (vO 11 a0 μ).bind fun g1 =>
  (X11_readNumber a0 0 9 μ).bind fun z2 =>
  (gR 11 29 a0 z2.2).bind fun v3 =>
  (sI v3 x1 3 z2.2).bind fun μ4 =>
  (gR 11 30 a0 μ4).bind fun v5 =>
  (gI 11 39 a0 μ4).bind fun v6 =>
  (sI v5 x1 v6 μ4).bind fun μ7 =>
  ((if z2.1 ≤ 0 then
  (vO 11 a0 μ7).bind fun g9 =>
  (X11_needs a0 (X11_code 105 110 0 0 0 0) μ7).bind fun z10 =>
  some ((z10.1, z10.2))
  else
  some ((z2.1, μ7))) : Option (Int32 × Mem)).bind fun z11 =>
  ((if z11.1 ≤ 0 then
  (vO 11 a0 z11.2).bind fun g13 =>
  (X11_readNumber a0 1 60 z11.2).bind fun z14 =>
  some ((z14.1, z14.2))
  else
  some ((z11.1, z11.2))) : Option (Int32 × Mem)).bind fun z15 =>
  (gR 11 31 a0 z15.2).bind fun v16 =>
  (gI 11 39 a0 z15.2).bind fun v17 =>
  (sI v16 x1 v17 z15.2).bind fun μ18 =>
  some (z15.1, μ18)
def X11_readAlways (a0 : Nat) (x1 : Int32) (μ : Mem) : Option (Int32 × Mem) :=
  (vO 11 a0 μ).bind fun g1 =>
  (X11_needs a0 (X11_code 102 114 111 109 0 0) μ).bind fun z2 =>
  ((if z2.1 ≤ 0 then
  (vO 11 a0 z2.2).bind fun g4 =>
  (X11_readNumber a0 0 9 z2.2).bind fun z5 =>
  some ((z5.1, z5.2))
  else
  some ((z2.1, z2.2))) : Option (Int32 × Mem)).bind fun z6 =>
  (gR 11 29 a0 z6.2).bind fun v7 =>
  (sI v7 x1 4 z6.2).bind fun μ8 =>
  (gR 11 30 a0 μ8).bind fun v9 =>
  (gI 11 39 a0 μ8).bind fun v10 =>
  (sI v9 x1 v10 μ8).bind fun μ11 =>
  some (z6.1, μ11)
def X11_readClause (a0 : Nat) (x1 : Int32) (μ : Mem) : Option (Int32 × Mem) :=
  (vO 11 a0 μ).bind fun g1 =>
  (X11_readWord a0 μ).bind fun μ2 =>
  (gJ 11 37 a0 μ2).bind fun v3 =>
  ((if (lg_cmp v3 (X11_code 110 101 118 101 114 0)) = 0 then
  some 0
  else
  (gJ 11 37 a0 μ2).bind fun v5 =>
  if (lg_cmp v5 (X11_code 109 111 115 116 0 0)) = 0 then
  some 1
  else
  (gJ 11 37 a0 μ2).bind fun v7 =>
  if (lg_cmp v7 (X11_code 97 108 119 97 121 115)) = 0 then
  some 2
  else
  some ((-1))) : Option (Int32)).bind fun z9 =>
  if z9 < 0 then
  (some (if (0 : Int32) ≤ z9 then 3 else 1 : Int32)).bind fun v12 =>
  (gI 11 36 a0 μ2).bind fun v13 =>
  (vO 11 a0 μ2).bind fun g14 =>
  (X11_fails a0 v12 v13 μ2).bind fun z15 =>
  some (z15.1, z15.2)
  else
  if x1 = 8 then
  (some (if (0 : Int32) ≤ z9 then 3 else 1 : Int32)).bind fun v38 =>
  (gI 11 36 a0 μ2).bind fun v39 =>
  (vO 11 a0 μ2).bind fun g40 =>
  (X11_fails a0 v38 v39 μ2).bind fun z41 =>
  some (z41.1, z41.2)
  else
  (gI 11 38 a0 μ2).bind fun v17 =>
  (pI 11 36 a0 v17 μ2).bind fun μ18 =>
  ((if z9 = 0 then
  (vO 11 a0 μ18).bind fun g25 =>
  (X11_readNever a0 x1 μ18).bind fun z26 =>
  some ((z26.1, z26.2))
  else
  if z9 = 1 then
  (vO 11 a0 μ18).bind fun g23 =>
  (X11_readMost a0 x1 μ18).bind fun z24 =>
  some ((z24.1, z24.2))
  else
  (vO 11 a0 μ18).bind fun g21 =>
  (X11_readAlways a0 x1 μ18).bind fun z22 =>
  some ((z22.1, z22.2))) : Option (Int32 × Mem)).bind fun z27 =>
  if z27.1 ≤ 0 then
  (vO 11 a0 z27.2).bind fun g29 =>
  (X11_here a0 z27.2).bind fun z30 =>
  if z30.1 = 59 then
  (gI 11 36 a0 z30.2).bind fun v32 =>
  (pI 11 36 a0 (v32 + 1) z30.2).bind fun μ33 =>
  some (0, μ33)
  else
  (gI 11 36 a0 z30.2).bind fun v34 =>
  (vO 11 a0 z30.2).bind fun g35 =>
  (X11_fails a0 1 v34 z30.2).bind fun z36 =>
  some (z36.1, z36.2)
  else
  some (z27.1, z27.2)
def X11_read_L25 (a0 : Nat) (x1 : Int32) : Nat → Int32 → Int32 → Mem → Option (Int32 × Int32 × Mem)
  | 0, _, _, _ => none
  | n + 1, x2, x3, μ =>
      if x3 = 0 then
      (vO 11 a0 μ).bind fun g2 =>
      (X11_here a0 μ).bind fun z3 =>
      if z3.1 < 0 then
      some ((x2, x3, z3.2))
      else
      (vO 11 a0 z3.2).bind fun g5 =>
      (X11_readClause a0 x2 z3.2).bind fun z6 =>
      X11_read_L25 a0 x1 n (x2 + 1) z6.1 z6.2
      else
      some ((x2, x3, μ))
def X11_read_L72 (a0 : Nat) (x1 : Int32) (x2 : Int32) : Nat → Int32 → Mem → Option (Int32 × Mem)
  | 0, _, _ => none
  | n + 1, x4, μ =>
      if x2 ≤ x4 then
      some ((x4, μ))
      else
      (gR 11 25 a0 μ).bind fun v2 =>
      (gR 11 29 a0 μ).bind fun v3 =>
      (aI v3 x4 μ).bind fun v4 =>
      (sI v2 ((8 * x1) + x4) v4 μ).bind fun μ5 =>
      (gR 11 26 a0 μ5).bind fun v6 =>
      (gR 11 30 a0 μ5).bind fun v7 =>
      (aI v7 x4 μ5).bind fun v8 =>
      (sI v6 ((8 * x1) + x4) v8 μ5).bind fun μ9 =>
      (gR 11 27 a0 μ9).bind fun v10 =>
      (gR 11 31 a0 μ9).bind fun v11 =>
      (aI v11 x4 μ9).bind fun v12 =>
      (sI v10 ((8 * x1) + x4) v12 μ9).bind fun μ13 =>
      (gR 11 28 a0 μ13).bind fun v14 =>
      (gR 11 32 a0 μ13).bind fun v15 =>
      (aI v15 x4 μ13).bind fun v16 =>
      (sI v14 ((8 * x1) + x4) v16 μ13).bind fun μ17 =>
      X11_read_L72 a0 x1 x2 n (x4 + 1) μ17
def X11_read (a0 : Nat) (x1 : Int32) (μ : Mem) : Option (Int32 × Mem) :=
  if (X11_isPerson x1) = 0 then
  some ((-1001), μ)
  else
  (pI 11 35 a0 ((-1)) μ).bind fun μ2 =>
  (pI 11 36 a0 0 μ2).bind fun μ3 =>
  (X11_read_L25 a0 x1 FU 0 0 μ3).bind fun z4 =>
  (pI 11 34 a0 0 z4.2.2).bind fun μ5 =>
  if z4.2.1 ≤ 0 then
  (gR 11 24 a0 μ5).bind fun v7 =>
  (sI v7 x1 z4.1 μ5).bind fun μ8 =>
  (X11_read_L72 a0 x1 z4.1 FU 0 μ8).bind fun z9 =>
  some (z4.1, z9.2)
  else
  some (((-10)) - z4.2.1, μ5)
def X11_fault (a0 : Nat) (μ : Mem) : Option Int32 :=
  (gI 11 35 a0 μ).bind fun v1 =>
  some (v1)
def X11_isAlways_L5 (a0 : Nat) (x1 : Int32) (x2 : Int32) (μ : Mem) : Nat → Int32 → Int32 → Option (Int32 × Int32)
  | 0, _, _ => none
  | n + 1, x3, x4 =>
      (gR 11 24 a0 μ).bind fun v1 =>
      (aI v1 x1 μ).bind fun v2 =>
      if v2 ≤ x4 then
      some ((x3, x4))
      else
      ((if x3 = 0 then
      (gR 11 25 a0 μ).bind fun v5 =>
      (aI v5 ((8 * x1) + x4) μ).bind fun v6 =>
      if v6 = 4 then
      (gR 11 26 a0 μ).bind fun v8 =>
      (aI v8 ((8 * x1) + x4) μ).bind fun v9 =>
      (gR 11 16 a0 μ).bind fun v10 =>
      (aI v10 x2 μ).bind fun v11 =>
      if v9 = v11 then
      some 1
      else
      some 0
      else
      some 0
      else
      some 1) : Option (Int32)).bind fun z13 =>
      X11_isAlways_L5 a0 x1 x2 μ n z13 (x4 + 1)
def X11_isAlways (a0 : Nat) (x1 : Int32) (x2 : Int32) (μ : Mem) : Option Int32 :=
  (X11_isAlways_L5 a0 x1 x2 μ FU 0 0).bind fun z1 =>
  (zz z1.1).bind fun v2 =>
  some v2
def X11_areAlways_L5 (a0 : Nat) (x1 : Int32) (x2 : Int32) (μ : Mem) : Nat → Int32 → Int32 → Option (Int32 × Int32)
  | 0, _, _ => none
  | n + 1, x3, x4 =>
      (gI 11 12 a0 μ).bind fun v1 =>
      if v1 ≤ x4 then
      some ((x3, x4))
      else
      ((if x3 = 0 then
      some 0
      else
      if ((x2 >>> (x4 &&& 31)) &&& 1) = 0 then
      some 1
      else
      (vO 11 a0 μ).bind fun g5 =>
      (X11_isAlways a0 x1 x4 μ).bind fun v6 =>
      if v6 = 0 then
      some 0
      else
      some 1) : Option (Int32)).bind fun z8 =>
      X11_areAlways_L5 a0 x1 x2 μ n z8 (x4 + 1)
def X11_areAlways (a0 : Nat) (x1 : Int32) (x2 : Int32) (μ : Mem) : Option Int32 :=
  (X11_areAlways_L5 a0 x1 x2 μ FU 1 0).bind fun z1 =>
  (zz z1.1).bind fun v2 =>
  some v2
def X11_isWayBarred_L19 (a0 : Nat) (x1 : Int32) (x2 : Int32) (μ : Mem) : Nat → Int32 → Int32 → Option (Int32 × Int32)
  | 0, _, _ => none
  | n + 1, x4, x5 =>
      (gR 11 24 a0 μ).bind fun v1 =>
      (aI v1 x1 μ).bind fun v2 =>
      if ((8 * x1) + v2) ≤ x5 then
      some ((x4, x5))
      else
      (gR 11 25 a0 μ).bind fun v4 =>
      (aI v4 x5 μ).bind fun v5 =>
      ((if (2 : Int32) ≤ v5 then
      some 0
      else
      (gR 11 26 a0 μ).bind fun v7 =>
      (aI v7 x5 μ).bind fun v8 =>
      if v8 = x2 then
      some 1
      else
      some 0) : Option (Int32)).bind fun z10 =>
      ((if x4 = 0 then
      if z10 = 0 then
      some 0
      else
      (gR 11 25 a0 μ).bind fun v13 =>
      (aI v13 x5 μ).bind fun v14 =>
      if v14 = 0 then
      some 1
      else
      (gR 11 10 a0 μ).bind fun v16 =>
      (gR 11 27 a0 μ).bind fun v17 =>
      (aI v17 x5 μ).bind fun v18 =>
      (aI v16 v18 μ).bind fun v19 =>
      (gR 11 28 a0 μ).bind fun v20 =>
      (aI v20 x5 μ).bind fun v21 =>
      if (lg_cmp (100 * v19.toInt64) (1000000 * v21.toInt64)) < 0 then
      some 0
      else
      some 1
      else
      some 1) : Option (Int32)).bind fun z23 =>
      X11_isWayBarred_L19 a0 x1 x2 μ n z23 (x5 + 1)
def X11_isWayBarred (a0 : Nat) (x1 : Int32) (x2 : Int32) (x3 : Int32) (μ : Mem) : Option (Int32 × Mem) :=
  (gI 11 5 a0 μ).bind fun v1 =>
  (vO 11 a0 μ).bind fun g2 =>
  (X11_findOdds a0 x1 v1 x3 μ).bind fun μ3 =>
  (some (8 * x1 : Int32)).bind fun v4 =>
  (X11_isWayBarred_L19 a0 x1 x2 μ3 FU 0 v4).bind fun z5 =>
  (zz z5.1).bind fun v6 =>
  some (v6, μ3)
def X11_isKindBarred_L48 (a0 : Nat) (x1 : Int32) (x2 : Int32) (x3 : Int32) (x5 : Int32) (x6 : Int32) (μ : Mem) : Nat → Int32 → Int32 → Option (Int32 × Int32)
  | 0, _, _ => none
  | n + 1, x4, x7 =>
      (gR 11 24 a0 μ).bind fun v1 =>
      (aI v1 x1 μ).bind fun v2 =>
      if ((8 * x1) + v2) ≤ x7 then
      some ((x4, x7))
      else
      if x6 = 0 then
      some ((x4, x7))
      else
      ((if x4 = 0 then
      (gR 11 25 a0 μ).bind fun v6 =>
      (aI v6 x7 μ).bind fun v7 =>
      if v7 = 2 then
      (gR 11 26 a0 μ).bind fun v9 =>
      (aI v9 x7 μ).bind fun v10 =>
      (gR 11 14 a0 μ).bind fun v11 =>
      (aI v11 x5 μ).bind fun v12 =>
      if v10 = v12 then
      (gI 11 5 a0 μ).bind fun v14 =>
      (gR 11 27 a0 μ).bind fun v15 =>
      (aI v15 x7 μ).bind fun v16 =>
      if (v14 + x3) ≤ v16 then
      some 0
      else
      some 1
      else
      some 0
      else
      some 0
      else
      some 1) : Option (Int32)).bind fun z18 =>
      X11_isKindBarred_L48 a0 x1 x2 x3 x5 x6 μ n z18 (x7 + 1)
def X11_isKindBarred_L6 (a0 : Nat) (x1 : Int32) (x2 : Int32) (x3 : Int32) (μ : Mem) : Nat → Int32 → Int32 → Option (Int32 × Int32)
  | 0, _, _ => none
  | n + 1, x4, x5 =>
      (gI 11 12 a0 μ).bind fun v1 =>
      if v1 ≤ x5 then
      some ((x4, x5))
      else
      ((if ((x2 >>> (x5 &&& 31)) &&& 1) = 1 then
      (vO 11 a0 μ).bind fun g4 =>
      (X11_isAlways a0 x1 x5 μ).bind fun v5 =>
      if v5 = 0 then
      some 1
      else
      some 0
      else
      some 0) : Option (Int32)).bind fun z7 =>
      (some (8 * x1 : Int32)).bind fun v8 =>
      (X11_isKindBarred_L48 a0 x1 x2 x3 x5 z7 μ FU x4 v8).bind fun z9 =>
      X11_isKindBarred_L6 a0 x1 x2 x3 μ n z9.1 (x5 + 1)
def X11_isKindBarred (a0 : Nat) (x1 : Int32) (x2 : Int32) (x3 : Int32) (μ : Mem) : Option Int32 :=
  (X11_isKindBarred_L6 a0 x1 x2 x3 μ FU 0 0).bind fun z1 =>
  (zz z1.1).bind fun v2 =>
  some v2
def X11_areMost_L50 (a0 : Nat) (x1 : Int32) (x2 : Int32) (x3 : Int32) (x4 : Int32) (x5 : Int32) (x6 : Int32) (μ : Mem) : Nat → Int32 → Int32 → Option (Int32 × Int32)
  | 0, _, _ => none
  | n + 1, x7, x8 =>
      (gI 11 45 a0 μ).bind fun v1 =>
      if v1 ≤ x8 then
      some ((x7, x8))
      else
      (gR 11 46 a0 μ).bind fun v3 =>
      (aI v3 x8 μ).bind fun v4 =>
      ((if v4 = x1 then
      (gR 11 49 a0 μ).bind fun v6 =>
      (aI v6 x8 μ).bind fun v7 =>
      (gR 11 27 a0 μ).bind fun v8 =>
      (aI v8 x6 μ).bind fun v9 =>
      if (X11_in v7.toInt64 (((x5 - v9) + 1).toInt64) x5.toInt64) = 0 then
      some 0
      else
      some 1
      else
      some 0) : Option (Int32)).bind fun z11 =>
      (some (x7 + z11 : Int32)).bind fun v12 =>
      X11_areMost_L50 a0 x1 x2 x3 x4 x5 x6 μ n v12 (x8 + 1)
def X11_areMost_L119 (a0 : Nat) (x1 : Int32) (x2 : Int32) (x3 : Int32) (x4 : Int32) (x5 : Int32) (x6 : Int32) (μ : Mem) : Nat → Int32 → Int32 → Option (Int32 × Int32)
  | 0, _, _ => none
  | n + 1, x7, x8 =>
      if x2 ≤ x8 then
      some ((x7, x8))
      else
      ((if ((x3 >>> (x8 &&& 31)) &&& 1) = 1 then
      (gI 11 5 a0 μ).bind fun v3 =>
      (gR 11 27 a0 μ).bind fun v4 =>
      (aI v4 x6 μ).bind fun v5 =>
      if (v3 + x8) ≤ (x5 - v5) then
      some 0
      else
      some 1
      else
      some 0) : Option (Int32)).bind fun z7 =>
      (some (x7 + z7 : Int32)).bind fun v8 =>
      X11_areMost_L119 a0 x1 x2 x3 x4 x5 x6 μ n v8 (x8 + 1)
def X11_areMost_L17 (a0 : Nat) (x1 : Int32) (x2 : Int32) (x3 : Int32) (x5 : Int32) (μ : Mem) : Nat → Int32 → Int32 → Option (Int32 × Int32)
  | 0, _, _ => none
  | n + 1, x4, x6 =>
      (gR 11 24 a0 μ).bind fun v1 =>
      (aI v1 x1 μ).bind fun v2 =>
      if ((8 * x1) + v2) ≤ x6 then
      some ((x4, x6))
      else
      (gR 11 25 a0 μ).bind fun v4 =>
      (aI v4 x6 μ).bind fun v5 =>
      ((if v5 = 3 then
      (X11_areMost_L50 a0 x1 x2 x3 x4 x5 x6 μ FU 0 0).bind fun z7 =>
      (X11_areMost_L119 a0 x1 x2 x3 x4 x5 x6 μ FU z7.1 0).bind fun z8 =>
      ((if x4 = 0 then
      (gR 11 26 a0 μ).bind fun v10 =>
      (aI v10 x6 μ).bind fun v11 =>
      if z8.1 < v11 then
      some 0
      else
      some 1
      else
      some 1) : Option (Int32)).bind fun z13 =>
      some z13
      else
      some x4) : Option (Int32)).bind fun z14 =>
      X11_areMost_L17 a0 x1 x2 x3 x5 μ n z14 (x6 + 1)
def X11_areMost (a0 : Nat) (x1 : Int32) (x2 : Int32) (x3 : Int32) (μ : Mem) : Option Int32 :=
  (gI 11 5 a0 μ).bind fun v1 =>
  (some (v1 + x2 : Int32)).bind fun v2 =>
  (some (8 * x1 : Int32)).bind fun v3 =>
  (X11_areMost_L17 a0 x1 x2 x3 v2 μ FU 0 v3).bind fun z4 =>
  (zz z4.1).bind fun v5 =>
  some v5
def X11_barring (a0 : Nat) (x1 : Int32) (x2 : Int32) (x3 : Int32) (x4 : Int32) (x5 : Int32) (μ : Mem) : Option (Int32 × Mem) :=
  (vO 11 a0 μ).bind fun g1 =>
  (X11_areAlways a0 x1 x2 μ).bind fun v2 =>
  if v2 = 0 then
  (vO 11 a0 μ).bind fun g12 =>
  (X11_isWayBarred a0 x1 x3 x4 μ).bind fun z13 =>
  if z13.1 = 0 then
  (vO 11 a0 z13.2).bind fun g15 =>
  (X11_isKindBarred a0 x1 x2 x4 z13.2).bind fun v16 =>
  if v16 = 0 then
  ((if v2 = 0 then
  (vO 11 a0 z13.2).bind fun g19 =>
  (X11_areMost a0 x1 x4 x5 z13.2).bind fun v20 =>
  if v20 = 0 then
  some 0
  else
  some 3
  else
  some 0) : Option (Int32)).bind fun z22 =>
  some (z22, z13.2)
  else
  some (2, z13.2)
  else
  some (1, z13.2)
  else
  (vO 11 a0 μ).bind fun g4 =>
  (X11_isKindBarred a0 x1 x2 x4 μ).bind fun v5 =>
  if v5 = 0 then
  ((if v2 = 0 then
  (vO 11 a0 μ).bind fun g8 =>
  (X11_areMost a0 x1 x4 x5 μ).bind fun v9 =>
  if v9 = 0 then
  some 0
  else
  some 3
  else
  some 0) : Option (Int32)).bind fun z11 =>
  some (z11, μ)
  else
  some (2, μ)
def X11_areThings (a0 : Nat) (x1 : Int32) (μ : Mem) : Option Int32 :=
  (gI 11 12 a0 μ).bind fun v1 =>
  (zz (X11_in x1.toInt64 1 (((1 <<< (v1 &&& 31)) - 1).toInt64))).bind fun v2 =>
  some v2
def X11_barred (a0 : Nat) (x1 : Int32) (x2 : Int32) (x3 : Int32) (μ : Mem) : Option (Int32 × Mem) :=
  if (X11_isPerson x1) = 0 then
  some ((-1001), μ)
  else
  (vO 11 a0 μ).bind fun g2 =>
  (X11_areThings a0 x2 μ).bind fun v3 =>
  if v3 = 0 then
  some ((-1001), μ)
  else
  ((if (X11_isWay x3) = 0 then
  some (((-1002), μ))
  else
  (vO 11 a0 μ).bind fun g6 =>
  (X11_barring a0 x1 x2 x3 0 0 μ).bind fun z7 =>
  some ((z7.1, z7.2))) : Option (Int32 × Mem)).bind fun z8 =>
  some (z8.1, z8.2)
def X11_setOf_L4 (a0 : Nat) (x1 : Int32) (μ : Mem) : Nat → Int32 → Int32 → Option (Int32 × Int32)
  | 0, _, _ => none
  | n + 1, x2, x3 =>
      (gI 11 41 a0 μ).bind fun v1 =>
      if v1 ≤ x3 then
      some ((x2, x3))
      else
      (gR 11 40 a0 μ).bind fun v3 =>
      (aI v3 x3 μ).bind fun v4 =>
      (some (x2 ||| (((x1 >>> (x3 &&& 31)) &&& 1) <<< (v4 &&& 31)) : Int32)).bind fun v5 =>
      X11_setOf_L4 a0 x1 μ n v5 (x3 + 1)
def X11_setOf (a0 : Nat) (x1 : Int32) (μ : Mem) : Option Int32 :=
  (X11_setOf_L4 a0 x1 μ FU 0 0).bind fun z1 =>
  some (z1.1)
def X11_isOneMatter_L7 (a0 : Nat) (x1 : Int32) (μ : Mem) : Nat → Int32 → Int32 → Int32 → Option (Int32 × Int32 × Int32)
  | 0, _, _, _ => none
  | n + 1, x2, x3, x4 =>
      (gI 11 12 a0 μ).bind fun v1 =>
      if v1 ≤ x4 then
      some ((x2, x3, x4))
      else
      ((if ((x1 >>> (x4 &&& 31)) &&& 1) = 1 then
      ((if x3 = 0 then
      some 0
      else
      if x2 < 0 then
      some 1
      else
      (gR 11 15 a0 μ).bind fun v6 =>
      (aI v6 x4 μ).bind fun v7 =>
      if v7 = x2 then
      some 1
      else
      some 0) : Option (Int32)).bind fun z9 =>
      (gR 11 15 a0 μ).bind fun v10 =>
      (aI v10 x4 μ).bind fun v11 =>
      some ((v11, z9))
      else
      some ((x2, x3))) : Option (Int32 × Int32)).bind fun z12 =>
      X11_isOneMatter_L7 a0 x1 μ n z12.1 z12.2 (x4 + 1)
def X11_isOneMatter (a0 : Nat) (x1 : Int32) (μ : Mem) : Option Int32 :=
  (X11_isOneMatter_L7 a0 x1 μ FU ((-1)) 1 0).bind fun z1 =>
  (zz z1.2.1).bind fun v2 =>
  some v2
def X11_findGain_L60 (a0 : Nat) (x1 : Int32) (x2 : Int32) (x3 : Int32) (x4 : Int32) (x5 : Int32) : Nat → Int32 → Int32 → Mem → Option (Int32 × Int32 × Mem)
  | 0, _, _, _ => none
  | n + 1, x6, x7, μ =>
      (gI 11 41 a0 μ).bind fun v1 =>
      if v1 ≤ x7 then
      some ((x6, x7, μ))
      else
      (gR 11 40 a0 μ).bind fun v3 =>
      (aI v3 x7 μ).bind fun v4 =>
      (vO 11 a0 μ).bind fun g5 =>
      (X11_valueOf a0 v4 x1 x2 μ).bind fun z6 =>
      (vO 11 a0 z6.2).bind fun g7 =>
      (X11_isMust a0 v4 z6.2).bind fun v8 =>
      ((if v8 = 0 then
      some 0
      else
      (gI 11 5 a0 z6.2).bind fun v10 =>
      (gR 11 19 a0 z6.2).bind fun v11 =>
      (aI v11 v4 z6.2).bind fun v12 =>
      if v12 < (v10 + x2) then
      some 0
      else
      some 2000) : Option (Int32)).bind fun z14 =>
      (some (z6.1 + z14 : Int32)).bind fun v15 =>
      (some (if ((x3 >>> (x7 &&& 31)) &&& 1) = 1 then v15 else 0 : Int32)).bind fun v17 =>
      (some (x6 + v17 : Int32)).bind fun v18 =>
      X11_findGain_L60 a0 x1 x2 x3 x4 x5 n v18 (x7 + 1) z6.2
def X11_findGain_L151 (a0 : Nat) (x1 : Int32) (x2 : Int32) (x4 : Int32) (x5 : Int32) (x6 : Int32) : Nat → Int32 → Mem → Option (Int32 × Mem)
  | 0, _, _ => none
  | n + 1, x7, μ =>
      if (4 : Int32) ≤ x7 then
      some ((x7, μ))
      else
      (gR 11 23 a0 μ).bind fun v2 =>
      (aI v2 x7 μ).bind fun v3 =>
      (dvI (x6 * v3) 100).bind fun v4 =>
      (gI 11 5 a0 μ).bind fun v5 =>
      (vO 11 a0 μ).bind fun g6 =>
      (X11_lossOf a0 x1 x7 v5 x2 μ).bind fun z7 =>
      (some (v4 - z7.1 : Int32)).bind fun v8 =>
      (vO 11 a0 z7.2).bind fun g9 =>
      (X11_areAlways a0 x1 x4 z7.2).bind fun v10 =>
      ((if v10 = 0 then
      (vO 11 a0 z7.2).bind fun g12 =>
      (X11_isWayBarred a0 x1 x7 x2 z7.2).bind fun z13 =>
      if z13.1 = 0 then
      some ((1, z13.2))
      else
      some ((0, z13.2))
      else
      some ((1, z7.2))) : Option (Int32 × Mem)).bind fun z15 =>
      ((if z15.1 = 0 then
      some z15.2
      else
      (gR 11 43 a0 z15.2).bind fun v17 =>
      (aI v17 x5 z15.2).bind fun v18 =>
      if v8 ≤ v18 then
      some z15.2
      else
      (gR 11 43 a0 z15.2).bind fun v20 =>
      (sI v20 x5 v8 z15.2).bind fun μ21 =>
      (gR 11 44 a0 μ21).bind fun v22 =>
      (sI v22 x5 x7 μ21).bind fun μ23 =>
      some μ23) : Option (Mem)).bind fun z24 =>
      X11_findGain_L151 a0 x1 x2 x4 x5 x6 n (x7 + 1) z24
def X11_findGain (a0 : Nat) (x1 : Int32) (x2 : Int32) (x3 : Int32) (μ : Mem) : Option Mem :=
  (vO 11 a0 μ).bind fun g1 =>
  (X11_setOf a0 x3 μ).bind fun v2 =>
  (some ((64 * x2) + x3 : Int32)).bind fun v3 =>
  (gR 11 44 a0 μ).bind fun v4 =>
  (sI v4 v3 ((-1)) μ).bind fun μ5 =>
  (gR 11 43 a0 μ5).bind fun v6 =>
  (sI v6 v3 ((-1000000000)) μ5).bind fun μ7 =>
  (vO 11 a0 μ7).bind fun g8 =>
  (X11_isOneMatter a0 v2 μ7).bind fun v9 =>
  if v9 = 0 then
  some μ7
  else
  (vO 11 a0 μ7).bind fun g11 =>
  (X11_isKindBarred a0 x1 v2 x2 μ7).bind fun v12 =>
  if v12 = 0 then
  (X11_findGain_L60 a0 x1 x2 x3 v2 v3 FU 0 0 μ7).bind fun z14 =>
  (X11_findGain_L151 a0 x1 x2 v2 v3 z14.1 FU 0 z14.2.2).bind fun z15 =>
  some z15.2
  else
  some μ7
def X11_place (x0 : Int32) (x1 : Int32) (x2 : Int32) : Int32 :=
  ((4096 * x0) + (64 * x1)) + x2
def X11_by (a0 : Nat) (x1 : Int32) (x2 : Int32) (x3 : Int32) (x4 : Int32) (x5 : Int32) (μ : Mem) : Option Int32 :=
  (some ((64 * x2) + x5 : Int32)).bind fun v1 =>
  (gR 11 44 a0 μ).bind fun v2 =>
  (aI v2 v1 μ).bind fun v3 =>
  ((if v3 < 0 then
  some 0
  else
  (vO 11 a0 μ).bind fun g5 =>
  (X11_setOf a0 x5 μ).bind fun v6 =>
  (vO 11 a0 μ).bind fun g7 =>
  (X11_areAlways a0 x1 v6 μ).bind fun v8 =>
  if v8 = 0 then
  (vO 11 a0 μ).bind fun g10 =>
  (X11_areMost a0 x1 x2 x4 μ).bind fun v11 =>
  if v11 = 0 then
  some 1
  else
  some 0
  else
  some 1) : Option (Int32)).bind fun z13 =>
  ((if z13 = 0 then
  some ((-1000000000))
  else
  (gR 11 43 a0 μ).bind fun v15 =>
  (aI v15 v1 μ).bind fun v16 =>
  (gR 11 42 a0 μ).bind fun v17 =>
  (aI v17 (X11_place (x2 + 1) (x3 &&& (x5 ^^^ ((-1)))) (x4 ||| (1 <<< (x2 &&& 31)))) μ).bind fun v18 =>
  some (v16 + v18)) : Option (Int32)).bind fun z19 =>
  some (z19)
def X11_findPlans_L7 (a0 : Nat) (x1 : Int32) (x2 : Int32) : Nat → Int32 → Mem → Option (Int32 × Mem)
  | 0, _, _ => none
  | n + 1, x3, μ =>
      (gI 11 12 a0 μ).bind fun v1 =>
      if v1 ≤ x3 then
      some ((x3, μ))
      else
      (gI 11 41 a0 μ).bind fun v3 =>
      if (6 : Int32) ≤ v3 then
      some ((x3, μ))
      else
      (vO 11 a0 μ).bind fun g5 =>
      (X11_stateOf a0 x3 μ).bind fun v6 =>
      ((if v6 = 0 then
      (gR 11 13 a0 μ).bind fun v8 =>
      (aI v8 x3 μ).bind fun v9 =>
      if ((v9 >>> (x1 &&& 31)) &&& 1) = 1 then
      (gR 11 40 a0 μ).bind fun v11 =>
      (gI 11 41 a0 μ).bind fun v12 =>
      (sI v11 v12 x3 μ).bind fun μ13 =>
      (gI 11 41 a0 μ13).bind fun v14 =>
      (pI 11 41 a0 (v14 + 1) μ13).bind fun μ15 =>
      some μ15
      else
      some μ
      else
      some μ) : Option (Mem)).bind fun z16 =>
      X11_findPlans_L7 a0 x1 x2 n (x3 + 1) z16
def X11_findPlans_L86 (a0 : Nat) (x1 : Int32) (x2 : Int32) (x3 : Int32) : Nat → Int32 → Mem → Option (Int32 × Mem)
  | 0, _, _ => none
  | n + 1, x4, μ =>
      if ((4096 * x2) + 4096) ≤ x4 then
      some ((x4, μ))
      else
      (gR 11 42 a0 μ).bind fun v2 =>
      (sI v2 x4 0 μ).bind fun μ3 =>
      X11_findPlans_L86 a0 x1 x2 x3 n (x4 + 1) μ3
def X11_findPlans_L127 (a0 : Nat) (x1 : Int32) (x3 : Int32) (x4 : Int32) : Nat → Int32 → Mem → Option (Int32 × Mem)
  | 0, _, _ => none
  | n + 1, x5, μ =>
      if x3 ≤ x5 then
      some ((x5, μ))
      else
      (vO 11 a0 μ).bind fun g2 =>
      (X11_findGain a0 x1 x4 x5 μ).bind fun μ3 =>
      X11_findPlans_L127 a0 x1 x3 x4 n (x5 + 1) μ3
def X11_findPlans_L191 (a0 : Nat) (x1 : Int32) (x3 : Int32) (x4 : Int32) (x5 : Int32) (x6 : Int32) (μ : Mem) : Nat → Int32 → Int32 → Option (Int32 × Int32)
  | 0, _, _ => none
  | n + 1, x7, x8 =>
      if x8 ≤ 0 then
      some ((x7, x8))
      else
      (vO 11 a0 μ).bind fun g2 =>
      (X11_by a0 x1 x4 x6 x5 x8 μ).bind fun v3 =>
      (some (if v3 ≤ x7 then x7 else v3 : Int32)).bind fun v5 =>
      (some ((x8 - 1) &&& x6 : Int32)).bind fun v6 =>
      X11_findPlans_L191 a0 x1 x3 x4 x5 x6 μ n v5 v6
def X11_findPlans_L163 (a0 : Nat) (x1 : Int32) (x3 : Int32) (x4 : Int32) (x5 : Int32) : Nat → Int32 → Mem → Option (Int32 × Mem)
  | 0, _, _ => none
  | n + 1, x6, μ =>
      if x3 ≤ x6 then
      some ((x6, μ))
      else
      (gR 11 42 a0 μ).bind fun v2 =>
      (aI v2 (X11_place (x4 + 1) x6 x5) μ).bind fun v3 =>
      (X11_findPlans_L191 a0 x1 x3 x4 x5 x6 μ FU v3 x6).bind fun z4 =>
      (gR 11 42 a0 μ).bind fun v5 =>
      (sI v5 (X11_place x4 x6 x5) z4.1 μ).bind fun μ6 =>
      X11_findPlans_L163 a0 x1 x3 x4 x5 n (x6 + 1) μ6
def X11_findPlans_L151 (a0 : Nat) (x1 : Int32) (x3 : Int32) (x4 : Int32) : Nat → Int32 → Mem → Option (Int32 × Mem)
  | 0, _, _ => none
  | n + 1, x5, μ =>
      if ((1 : Int32) <<< (x4 &&& 31)) ≤ x5 then
      some ((x5, μ))
      else
      (X11_findPlans_L163 a0 x1 x3 x4 x5 FU 0 μ).bind fun z2 =>
      X11_findPlans_L151 a0 x1 x3 x4 n (x5 + 1) z2.2
def X11_findPlans_L119 (a0 : Nat) (x1 : Int32) (x3 : Int32) : Nat → Int32 → Mem → Option (Int32 × Mem)
  | 0, _, _ => none
  | n + 1, x4, μ =>
      if x4 < 0 then
      some ((x4, μ))
      else
      (X11_findPlans_L127 a0 x1 x3 x4 FU 1 μ).bind fun z2 =>
      (X11_findPlans_L151 a0 x1 x3 x4 FU 0 z2.2).bind fun z3 =>
      X11_findPlans_L119 a0 x1 x3 n (x4 + (-1)) z3.2
def X11_findPlans (a0 : Nat) (x1 : Int32) (x2 : Int32) (μ : Mem) : Option Mem :=
  (pI 11 41 a0 0 μ).bind fun μ1 =>
  (X11_findPlans_L7 a0 x1 x2 FU 0 μ1).bind fun z2 =>
  (gI 11 41 a0 z2.2).bind fun v3 =>
  (some (1 <<< (v3 &&& 31) : Int32)).bind fun v4 =>
  (some (4096 * x2 : Int32)).bind fun v5 =>
  (X11_findPlans_L86 a0 x1 x2 v4 FU v5 z2.2).bind fun z6 =>
  (some (x2 - 1 : Int32)).bind fun v7 =>
  (X11_findPlans_L119 a0 x1 v4 FU v7 z6.2).bind fun z8 =>
  some z8.2
def X11_plan_L149 (a0 : Nat) (x1 : Int32) (x3 : Int32) (x4 : Int32) (x6 : Int32) (x7 : Int32) (x9 : Int32) (x10 : Int32) (μ : Mem) : Nat → Int32 → Option (Int32)
  | 0, _ => none
  | n + 1, x8 =>
      if (x8 &&& (x6 ^^^ ((-1)))) = 0 then
      (vO 11 a0 μ).bind fun g2 =>
      (X11_by a0 x1 x9 x6 x7 x8 μ).bind fun v3 =>
      if v3 = x10 then
      some x8
      else
      X11_plan_L149 a0 x1 x3 x4 x6 x7 x9 x10 μ n (x8 + 1)
      else
      X11_plan_L149 a0 x1 x3 x4 x6 x7 x9 x10 μ n (x8 + 1)
def X11_plan_L100 (a0 : Nat) (x1 : Int32) (x3 : Int32) (x4 : Int32) (μ : Mem) : Nat → Int32 → Int32 → Int32 → Int32 → Option (Int32 × Int32 × Int32 × Int32)
  | 0, _, _, _, _ => none
  | n + 1, x6, x7, x8, x9 =>
      if x3 < x9 then
      some ((x6, x7, x8, x9))
      else
      (gR 11 42 a0 μ).bind fun v2 =>
      (aI v2 (X11_place x9 x6 x7) μ).bind fun v3 =>
      (gR 11 42 a0 μ).bind fun v4 =>
      (aI v4 (X11_place (x9 + 1) x6 x7) μ).bind fun v5 =>
      ((if v5 = v3 then
      some ((x6, x7, 0))
      else
      (X11_plan_L149 a0 x1 x3 x4 x6 x7 x9 v3 μ FU 1).bind fun z7 =>
      some ((x6 &&& (z7 ^^^ ((-1))), x7 ||| (1 <<< (x9 &&& 31)), z7))) : Option (Int32 × Int32 × Int32)).bind fun z8 =>
      X11_plan_L100 a0 x1 x3 x4 μ n z8.1 z8.2.1 z8.2.2 (x9 + 1)
def X11_plan (a0 : Nat) (x1 : Int32) (x2 : Int32) (x3 : Int32) (x4 : Int32) (μ : Mem) : Option (Int32 × Mem) :=
  if (X11_isPerson x1) = 0 then
  some ((-1001), μ)
  else
  if (X11_in x2.toInt64 1 6) = 0 then
  some ((-1002), μ)
  else
  if (X11_in x3.toInt64 ((-1)) ((x2 - 1).toInt64)) = 0 then
  some ((-1002), μ)
  else
  if (X11_in x4.toInt64 0 1) = 0 then
  some ((-1002), μ)
  else
  (vO 11 a0 μ).bind fun g5 =>
  (X11_findPlans a0 x1 x2 μ).bind fun μ6 =>
  (gI 11 41 a0 μ6).bind fun v7 =>
  (some ((1 <<< (v7 &&& 31)) - 1 : Int32)).bind fun v8 =>
  if x3 = ((-1)) then
  (gR 11 42 a0 μ6).bind fun v18 =>
  (aI v18 (X11_place 0 v8 0) μ6).bind fun v19 =>
  some (v19, μ6)
  else
  (X11_plan_L100 a0 x1 x3 x4 μ6 FU v8 0 0 0).bind fun z10 =>
  ((if x4 = 0 then
  (vO 11 a0 μ6).bind fun g15 =>
  (X11_setOf a0 z10.2.2.1 μ6).bind fun v16 =>
  some v16
  else
  if z10.2.2.1 = 0 then
  some ((-1))
  else
  (gR 11 44 a0 μ6).bind fun v13 =>
  (aI v13 ((64 * x3) + z10.2.2.1) μ6).bind fun v14 =>
  some v14) : Option (Int32)).bind fun z17 =>
  some (z17, μ6)
def X11_deadOf_L4 (a0 : Nat) (x1 : Int32) (μ : Mem) : Nat → Int32 → Int32 → Option (Int32 × Int32)
  | 0, _, _ => none
  | n + 1, x2, x3 =>
      (gI 11 12 a0 μ).bind fun v1 =>
      if v1 ≤ x3 then
      some ((x2, x3))
      else
      (gR 11 21 a0 μ).bind fun v3 =>
      (aZ v3 x3 μ).bind fun v4 =>
      (some (if v4 = 0 then 0 else x1 &&& (1 <<< (x3 &&& 31)) : Int32)).bind fun v6 =>
      (some (x2 ||| v6 : Int32)).bind fun v7 =>
      X11_deadOf_L4 a0 x1 μ n v7 (x3 + 1)
def X11_deadOf (a0 : Nat) (x1 : Int32) (μ : Mem) : Option Int32 :=
  (X11_deadOf_L4 a0 x1 μ FU 0 0).bind fun z1 =>
  some (z1.1)
def X11_areFor_L5 (a0 : Nat) (x1 : Int32) (x2 : Int32) (μ : Mem) : Nat → Int32 → Int32 → Option (Int32 × Int32)
  | 0, _, _ => none
  | n + 1, x3, x4 =>
      (gI 11 12 a0 μ).bind fun v1 =>
      if v1 ≤ x4 then
      some ((x3, x4))
      else
      ((if x3 = 0 then
      some 0
      else
      if ((x2 >>> (x4 &&& 31)) &&& 1) = 0 then
      some 1
      else
      (gR 11 13 a0 μ).bind fun v5 =>
      (aI v5 x4 μ).bind fun v6 =>
      if ((v6 >>> (x1 &&& 31)) &&& 1) = 1 then
      some 1
      else
      some 0) : Option (Int32)).bind fun z8 =>
      X11_areFor_L5 a0 x1 x2 μ n z8 (x4 + 1)
def X11_areFor (a0 : Nat) (x1 : Int32) (x2 : Int32) (μ : Mem) : Option Int32 :=
  (X11_areFor_L5 a0 x1 x2 μ FU 1 0).bind fun z1 =>
  (zz z1.1).bind fun v2 =>
  some v2
def X11_say (a0 : Nat) (x1 : Int32) (x2 : Int32) (x3 : Int32) (μ : Mem) : Option (Int32 × Mem) :=
  if (X11_isPerson x1) = 0 then
  some ((-1001), μ)
  else
  (vO 11 a0 μ).bind fun g2 =>
  (X11_areThings a0 x2 μ).bind fun v3 =>
  if v3 = 0 then
  some ((-1001), μ)
  else
  if (X11_isWay x3) = 0 then
  some ((-1002), μ)
  else
  (vO 11 a0 μ).bind fun g6 =>
  (X11_barring a0 x1 x2 x3 0 0 μ).bind fun z7 =>
  if (0 : Int32) < z7.1 then
  some ((-1003), z7.2)
  else
  (vO 11 a0 z7.2).bind fun g9 =>
  (X11_deadOf a0 x2 z7.2).bind fun v10 =>
  if v10 = 0 then
  (vO 11 a0 z7.2).bind fun g12 =>
  (X11_areFor a0 x1 x2 z7.2).bind fun v13 =>
  if v13 = 0 then
  some ((-1003), z7.2)
  else
  (vO 11 a0 z7.2).bind fun g15 =>
  (X11_isOneMatter a0 x2 z7.2).bind fun v16 =>
  if v16 = 0 then
  some ((-1003), z7.2)
  else
  (gI 11 45 a0 z7.2).bind fun v18 =>
  if v18 = 40 then
  some ((-1004), z7.2)
  else
  (gR 11 46 a0 z7.2).bind fun v20 =>
  (gI 11 45 a0 z7.2).bind fun v21 =>
  (sI v20 v21 x1 z7.2).bind fun μ22 =>
  (gR 11 47 a0 μ22).bind fun v23 =>
  (gI 11 45 a0 μ22).bind fun v24 =>
  (sI v23 v24 x2 μ22).bind fun μ25 =>
  (gR 11 48 a0 μ25).bind fun v26 =>
  (gI 11 45 a0 μ25).bind fun v27 =>
  (sI v26 v27 x3 μ25).bind fun μ28 =>
  (gR 11 49 a0 μ28).bind fun v29 =>
  (gI 11 45 a0 μ28).bind fun v30 =>
  (gI 11 5 a0 μ28).bind fun v31 =>
  (sI v29 v30 v31 μ28).bind fun μ32 =>
  (gR 11 50 a0 μ32).bind fun v33 =>
  (gI 11 45 a0 μ32).bind fun v34 =>
  (sI v33 v34 0 μ32).bind fun μ35 =>
  (gI 11 45 a0 μ35).bind fun v36 =>
  (pI 11 45 a0 (v36 + 1) μ35).bind fun μ37 =>
  (gI 11 45 a0 μ37).bind fun v38 =>
  some (v38 - 1, μ37)
  else
  some ((-1003), z7.2)
def X11_isSaying (a0 : Nat) (x1 : Int32) (μ : Mem) : Option Int32 :=
  (gI 11 45 a0 μ).bind fun v1 =>
  (zz (X11_in x1.toInt64 0 ((v1 - 1).toInt64))).bind fun v2 =>
  some v2
def X11_came (a0 : Nat) (x1 : Int32) (x2 : Int32) (μ : Mem) : Option (Int32 × Mem) :=
  (vO 11 a0 μ).bind fun g1 =>
  (X11_isSaying a0 x1 μ).bind fun v2 =>
  if v2 = 0 then
  some ((-1001), μ)
  else
  if (X11_in x2.toInt64 1 3) = 0 then
  some ((-1002), μ)
  else
  (gR 11 50 a0 μ).bind fun v5 =>
  (aI v5 x1 μ).bind fun v6 =>
  if v6 ≤ 0 then
  (gR 11 50 a0 μ).bind fun v8 =>
  (sI v8 x1 x2 μ).bind fun μ9 =>
  some (0, μ9)
  else
  some ((-1003), μ)
def X11_saying (a0 : Nat) (x1 : Int32) (x2 : Int32) (μ : Mem) : Option Int32 :=
  (vO 11 a0 μ).bind fun g1 =>
  (X11_isSaying a0 x1 μ).bind fun v2 =>
  if v2 = 0 then
  some ((-1001))
  else
  if x2 = Int32.ofNat 0 then
  (gR 11 46 a0 μ).bind fun v5 =>
  (aI v5 x1 μ).bind fun v6 =>
  some (v6)
  else
  if x2 = Int32.ofNat 1 then
  (gR 11 47 a0 μ).bind fun v8 =>
  (aI v8 x1 μ).bind fun v9 =>
  some (v9)
  else
  if x2 = Int32.ofNat 2 then
  (gR 11 48 a0 μ).bind fun v11 =>
  (aI v11 x1 μ).bind fun v12 =>
  some (v12)
  else
  if x2 = Int32.ofNat 3 then
  (gR 11 49 a0 μ).bind fun v14 =>
  (aI v14 x1 μ).bind fun v15 =>
  some (v15)
  else
  if x2 = Int32.ofNat 4 then
  (gR 11 50 a0 μ).bind fun v17 =>
  (aI v17 x1 μ).bind fun v18 =>
  some (v18)
  else
  if x2 = Int32.ofNat 5 then
  (gR 11 47 a0 μ).bind fun v20 =>
  (aI v20 x1 μ).bind fun v21 =>
  (vO 11 a0 μ).bind fun g22 =>
  (X11_deadOf a0 v21 μ).bind fun v23 =>
  some (v23)
  else
  some ((-1002))
def X11_cameOf_L5 (a0 : Nat) (x1 : Int32) (x2 : Int32) (μ : Mem) : Nat → Int32 → Int32 → Option (Int32 × Int32)
  | 0, _, _ => none
  | n + 1, x3, x4 =>
      (gI 11 45 a0 μ).bind fun v1 =>
      if v1 ≤ x4 then
      some ((x3, x4))
      else
      (gR 11 48 a0 μ).bind fun v3 =>
      (aI v3 x4 μ).bind fun v4 =>
      ((if v4 = x1 then
      if x2 = 0 then
      (gR 11 50 a0 μ).bind fun v7 =>
      (aI v7 x4 μ).bind fun v8 =>
      if v8 ≤ 0 then
      some 0
      else
      some 1
      else
      (gR 11 50 a0 μ).bind fun v10 =>
      (aI v10 x4 μ).bind fun v11 =>
      if v11 = 1 then
      some 1
      else
      some 0
      else
      some 0) : Option (Int32)).bind fun z13 =>
      (some (x3 + z13 : Int32)).bind fun v14 =>
      X11_cameOf_L5 a0 x1 x2 μ n v14 (x4 + 1)
def X11_cameOf (a0 : Nat) (x1 : Int32) (x2 : Int32) (μ : Mem) : Option Int32 :=
  (X11_cameOf_L5 a0 x1 x2 μ FU 0 0).bind fun z1 =>
  some (z1.1)
def X11_choose_L5 (x0 : Int32) (x1 : Int32) (μ : Mem) : Nat → Int64 → Int32 → Option (Int64 × Int32)
  | 0, _, _ => none
  | n + 1, j2, x4 =>
      if x1 < x4 then
      some ((j2, x4))
      else
      (dvJ (j2 * (((x0 - x4) + 1).toInt64)) x4.toInt64).bind fun v2 =>
      X11_choose_L5 x0 x1 μ n v2 (x4 + 1)
def X11_choose (x0 : Int32) (x1 : Int32) (μ : Mem) : Option Int64 :=
  (X11_choose_L5 x0 x1 μ FU 1 1).bind fun z1 =>
  (some (if x0 < x1 then 0 else if (0 : Int32) ≤ x1 then z1.1 else 0 : Int64)).bind fun v3 =>
  some (v3)
def X11_gcd_L6 (μ : Mem) : Nat → Int64 → Int64 → Option (Int64 × Int64)
  | 0, _, _ => none
  | n + 1, j4, j6 =>
      if (lg_cmp j6 0) = 0 then
      some ((j4, j6))
      else
      (rmJ j4 j6).bind fun v2 =>
      X11_gcd_L6 μ n j6 v2
def X11_gcd (j0 : Int64) (j2 : Int64) (μ : Mem) : Option Int64 :=
  (X11_gcd_L6 μ FU j0 j2).bind fun z1 =>
  some (z1.1)
def X11_learnt_L125 (x3 : Int32) (x4 : Int32) (x5 : Int32) (x6 : Int32) (x7 : Int32) (μ : Mem) : Nat → Int64 → Int32 → Option (Int64 × Int32)
  | 0, _, _ => none
  | n + 1, j8, x10 =>
      if x5 < x10 then
      some ((j8, x10))
      else
      (X11_choose x5 x10 μ).bind fun v2 =>
      (X11_choose x7 ((x4 + x6) - x10) μ).bind fun v3 =>
      (some (j8 + (v2 * v3) : Int64)).bind fun v4 =>
      X11_learnt_L125 x3 x4 x5 x6 x7 μ n v4 (x10 + 1)
def X11_learnt (a0 : Nat) (x1 : Int32) (x2 : Int32) (x3 : Int32) (μ : Mem) : Option Int32 :=
  if (X11_isWay x1) = 0 then
  some ((-1002))
  else
  if (X11_isWay x2) = 0 then
  some ((-1002))
  else
  if x1 = x2 then
  some ((-1002))
  else
  if (X11_in x3.toInt64 0 5) = 0 then
  some ((-1002))
  else
  (vO 11 a0 μ).bind fun g5 =>
  (X11_cameOf a0 x1 1 μ).bind fun v6 =>
  (vO 11 a0 μ).bind fun g7 =>
  (X11_cameOf a0 x1 0 μ).bind fun v8 =>
  (vO 11 a0 μ).bind fun g9 =>
  (X11_cameOf a0 x2 1 μ).bind fun v10 =>
  (vO 11 a0 μ).bind fun g11 =>
  (X11_cameOf a0 x2 0 μ).bind fun v12 =>
  if (4 : Int32) ≤ x3 then
  if (v8 + v12) ≤ 30 then
  (X11_learnt_L125 x3 v6 v8 v10 v12 μ FU 0 v6).bind fun z15 =>
  (X11_choose (v8 + v12) (v6 + v10) μ).bind fun v16 =>
  (X11_gcd z15.1 v16 μ).bind fun v17 =>
  ((if x3 = 4 then
  (dvJ z15.1 v17).bind fun v20 =>
  some v20
  else
  (dvJ v16 v17).bind fun v19 =>
  some v19) : Option (Int64)).bind fun z21 =>
  some (z21.toInt32)
  else
  some ((-1003))
  else
  (some (if x3 = 0 then v6 else if x3 = 1 then v8 else if x3 = 2 then v10 else v12 : Int32)).bind fun v23 =>
  some (v23)
def X11_who_L31 (a0 : Nat) (x1 : Int32) (x2 : Int32) (μ : Mem) : Nat → Int32 → Int32 → Option (Int32 × Int32)
  | 0, _, _ => none
  | n + 1, x3, x4 =>
      (gI 11 45 a0 μ).bind fun v1 =>
      if v1 ≤ x4 then
      some ((x3, x4))
      else
      (gR 11 47 a0 μ).bind fun v3 =>
      (aI v3 x4 μ).bind fun v4 =>
      ((if ((v4 >>> (x1 &&& 31)) &&& 1) = 1 then
      (gR 11 46 a0 μ).bind fun v6 =>
      (aI v6 x4 μ).bind fun v7 =>
      some (1 <<< (v7 &&& 31))
      else
      some 0) : Option (Int32)).bind fun z8 =>
      (some (x3 ||| z8 : Int32)).bind fun v9 =>
      X11_who_L31 a0 x1 x2 μ n v9 (x4 + 1)
def X11_who_L111 (a0 : Nat) (x4 : Int32) : Nat → Int32 → Int32 → Int32 → Mem → Option (Int32 × Int32 × Int32 × Mem)
  | 0, _, _, _, _ => none
  | n + 1, x5, x6, x7, μ =>
      if (4 : Int32) ≤ x7 then
      some ((x5, x6, x7, μ))
      else
      ((if ((x4 >>> (x7 &&& 31)) &&& 1) = 1 then
      (gI 11 5 a0 μ).bind fun v3 =>
      (vO 11 a0 μ).bind fun g4 =>
      (X11_seamOdds a0 x7 v3 0 μ).bind fun z5 =>
      some ((z5.1, z5.2))
      else
      some (((-1), μ))) : Option (Int32 × Mem)).bind fun z6 =>
      (some (if z6.1 ≤ x6 then x5 else x7 : Int32)).bind fun v8 =>
      (some (if z6.1 ≤ x6 then x6 else z6.1 : Int32)).bind fun v9 =>
      X11_who_L111 a0 x4 n v8 v9 (x7 + 1) z6.2
def X11_who (a0 : Nat) (x1 : Int32) (x2 : Int32) (μ : Mem) : Option (Int32 × Mem) :=
  (vO 11 a0 μ).bind fun g1 =>
  (X11_isThing a0 x1 μ).bind fun v2 =>
  if v2 = 0 then
  some ((-1001), μ)
  else
  if (X11_in x2.toInt64 0 1) = 0 then
  some ((-1002), μ)
  else
  (X11_who_L31 a0 x1 x2 μ FU 0 0).bind fun z5 =>
  ((if x2 = 0 then
  (gR 11 13 a0 μ).bind fun v9 =>
  (aI v9 x1 μ).bind fun v10 =>
  some v10
  else
  (gR 11 13 a0 μ).bind fun v7 =>
  (aI v7 x1 μ).bind fun v8 =>
  some (v8 &&& (z5.1 ^^^ ((-1))))) : Option (Int32)).bind fun z11 =>
  (X11_who_L111 a0 z11 FU ((-1)) ((-1)) 0 μ).bind fun z12 =>
  some (z12.1, z12.2.2.2)
def X11_tried_L99 (a0 : Nat) (x1 : Int32) (x2 : Int32) (x3 : Int32) (x4 : Int32) (x8 : Int32) (x10 : Int32) (x11 : Int32) (μ : Mem) : Nat → Int32 → Int32 → Int32 → Int32 → Int32 → Int32 → Option (Int32 × Int32 × Int32 × Int32 × Int32 × Int32)
  | 0, _, _, _, _, _, _ => none
  | n + 1, x5, x6, x7, x9, x12, x13 =>
      (gI 11 12 a0 μ).bind fun v1 =>
      if v1 ≤ x13 then
      some ((x5, x6, x7, x9, x12, x13))
      else
      (gR 11 13 a0 μ).bind fun v3 =>
      (aI v3 x13 μ).bind fun v4 =>
      ((if ((v4 >>> (x1 &&& 31)) &&& 1) = 1 then
      if ((x5 >>> (x13 &&& 31)) &&& 1) = 0 then
      (gR 11 20 a0 μ).bind fun v7 =>
      (aI v7 x13 μ).bind fun v8 =>
      if x10 < v8 then
      some 0
      else
      some 1
      else
      some 0
      else
      some 0) : Option (Int32)).bind fun z10 =>
      ((if z10 = 0 then
      some ((x5, x6, x7, x9, x12))
      else
      if x11 = 0 then
      (vO 11 a0 μ).bind fun g19 =>
      (X11_isMust a0 x13 μ).bind fun v20 =>
      if v20 = 0 then
      some ((x5, x6, x7, x9, x12))
      else
      (gR 11 19 a0 μ).bind fun v22 =>
      (aI v22 x13 μ).bind fun v23 =>
      if v23 = x10 then
      (gR 11 19 a0 μ).bind fun v25 =>
      (aI v25 x13 μ).bind fun v26 =>
      (some (if x10 ≤ v26 then 0 else 1 : Int32)).bind fun v28 =>
      (gR 11 20 a0 μ).bind fun v29 =>
      (aI v29 x13 μ).bind fun v30 =>
      some ((x5 ||| (1 <<< (x13 &&& 31)), x6 + v28, x7 + (x10 - v30), x9 + 1, 1))
      else
      some ((x5, x6, x7, x9, x12))
      else
      (gR 11 19 a0 μ).bind fun v13 =>
      (aI v13 x13 μ).bind fun v14 =>
      (some (if x10 ≤ v14 then 0 else 1 : Int32)).bind fun v16 =>
      (gR 11 20 a0 μ).bind fun v17 =>
      (aI v17 x13 μ).bind fun v18 =>
      some ((x5 ||| (1 <<< (x13 &&& 31)), x6 + v16, x7 + (x10 - v18), x9 + 1, 1))) : Option (Int32 × Int32 × Int32 × Int32 × Int32)).bind fun z31 =>
      X11_tried_L99 a0 x1 x2 x3 x4 x8 x10 x11 μ n z31.1 z31.2.1 z31.2.2.1 z31.2.2.2.1 z31.2.2.2.2 (x13 + 1)
def X11_tried_L65 (a0 : Nat) (x1 : Int32) (x2 : Int32) (x3 : Int32) (x4 : Int32) : Nat → Int32 → Int32 → Int32 → Int32 → Int32 → Int32 → Mem → Option (Int32 × Int32 × Int32 × Int32 × Int32 × Int32 × Mem)
  | 0, _, _, _, _, _, _, _ => none
  | n + 1, x5, x6, x7, x8, x9, x10, μ =>
      (gI 11 5 a0 μ).bind fun v1 =>
      if v1 ≤ x10 then
      some ((x5, x6, x7, x8, x9, x10, μ))
      else
      (vO 11 a0 μ).bind fun g3 =>
      (X11_seamOdds a0 x1 x10 0 μ).bind fun z4 =>
      (some (if z4.1 < x2 then 0 else 1 : Int32)).bind fun v6 =>
      (X11_tried_L99 a0 x1 x2 x3 x4 x8 x10 v6 z4.2 FU x5 x6 x7 x9 0 0).bind fun z7 =>
      ((if z7.2.2.2.2.1 = 0 then
      some ((0, z4.2))
      else
      (vO 11 a0 z4.2).bind fun g9 =>
      (X11_lossOf a0 x1 x3 x10 0 z4.2).bind fun z10 =>
      some ((z10.1, z10.2))) : Option (Int32 × Mem)).bind fun z11 =>
      (some (x8 + z11.1 : Int32)).bind fun v12 =>
      X11_tried_L65 a0 x1 x2 x3 x4 n z7.1 z7.2.1 z7.2.2.1 v12 z7.2.2.2.1 (x10 + 1) z11.2
def X11_tried_L273 (a0 : Nat) (x1 : Int32) (x4 : Int32) (x5 : Int32) (x7 : Int32) (x8 : Int32) (x9 : Int32) (μ : Mem) : Nat → Int32 → Int32 → Option (Int32 × Int32)
  | 0, _, _ => none
  | n + 1, x6, x10 =>
      (gI 11 12 a0 μ).bind fun v1 =>
      if v1 ≤ x10 then
      some ((x6, x10))
      else
      (gR 11 13 a0 μ).bind fun v3 =>
      (aI v3 x10 μ).bind fun v4 =>
      (some (if ((v4 >>> (x1 &&& 31)) &&& 1) = 1 then if ((x5 >>> (x10 &&& 31)) &&& 1) = 0 then 1 else 0 else 0 : Int32)).bind fun v6 =>
      ((if v6 = 0 then
      some 0
      else
      (gR 11 19 a0 μ).bind fun v8 =>
      (aI v8 x10 μ).bind fun v9 =>
      (gI 11 5 a0 μ).bind fun v10 =>
      if v10 ≤ v9 then
      some 0
      else
      some 1) : Option (Int32)).bind fun z12 =>
      (some (x6 + z12 : Int32)).bind fun v13 =>
      X11_tried_L273 a0 x1 x4 x5 x7 x8 x9 μ n v13 (x10 + 1)
def X11_tried (a0 : Nat) (x1 : Int32) (x2 : Int32) (x3 : Int32) (x4 : Int32) (μ : Mem) : Option (Int32 × Mem) :=
  if (X11_isPerson x1) = 0 then
  some ((-1001), μ)
  else
  if (X11_in x2.toInt64 0 1000000) = 0 then
  some ((-1002), μ)
  else
  if (X11_isWay x3) = 0 then
  some ((-1002), μ)
  else
  if (X11_in x4.toInt64 0 3) = 0 then
  some ((-1002), μ)
  else
  (X11_tried_L65 a0 x1 x2 x3 x4 FU 0 0 0 0 0 0 μ).bind fun z5 =>
  (X11_tried_L273 a0 x1 x4 z5.1 z5.2.2.1 z5.2.2.2.1 z5.2.2.2.2.1 z5.2.2.2.2.2.2 FU z5.2.1 0).bind fun z6 =>
  (some (if x4 = 0 then z6.1 else if x4 = 1 then z5.2.2.1 else if x4 = 2 then z5.2.2.2.1 else z5.2.2.2.2.1 : Int32)).bind fun v8 =>
  some (v8, z5.2.2.2.2.2.2)
