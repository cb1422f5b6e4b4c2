-- the methods as functions of memory (printed by gen2.py)
def X6_lastsOf (v0 : Int32) (v1 : Int32) : Int32 :=
  if v0 = 1 then (
  v1 + 1)
  else (
  if v0 = 2 then (
  (2 : Int32) * (v1 + 1))
  else (
  v1))
def X3_lasts (n0 : Nat) (σ0 : Mem) : Int32 :=
  X6_lastsOf (σ0 n0 0) (σ0 n0 3)
def X0_place (n0 : Nat) (v1 : Int32) (v2 : Int32) (v3 : Int32) (σ0 : Mem) : Option (Mem) :=
  grd (inb v1 6) (
  bnd (u2 σ0 (n0 + 1) v1.toNatClampNeg v2) fun σ_2 =>
  grd (inb v1 6) (
  bnd (u2 σ_2 (n0 + 2) v1.toNatClampNeg v3) fun σ_5 =>
  grd (inb v1 6) (
  bnd (u2 σ_5 (n0 + 5) v1.toNatClampNeg v2) fun σ_8 =>
  grd (inb (((6 : Int32) * v1) + v1) 36) (
  bnd (u2 σ_8 (n0 + 6) ((((6 : Int32) * v1) + v1).toNatClampNeg) v2) fun σ_11 =>
  some σ_11))))
def X0_begin_L22 (F : Nat) (n0 : Nat) (k44 : Mem → Option (Mem)) : Nat → Int32 → Mem → Option (Mem)
  | 0, _, _ => none
  | f + 1, v3, σ0 =>
    if 36 ≤ v3 then (
    k44 σ0)
    else (
    grd (inb v3 36) (
    bnd (u2 σ0 (n0 + 6) v3.toNatClampNeg 0) fun σ_7 =>
    X0_begin_L22 F n0 k44 f (v3 + 1) σ_7))
def X0_begin_L46 (F : Nat) (n0 : Nat) : Nat → Int32 → Mem → Option (Mem)
  | 0, _, _ => none
  | f + 1, v3, σ0 =>
    if (σ0 n0 7) ≤ v3 then (
    some σ0)
    else (
    grd (inb v3 6) (
    bnd (u2 σ0 (n0 + 3) v3.toNatClampNeg 0) fun σ_12 =>
    grd (inb v3 6) (
    bnd (u2 σ_12 (n0 + 4) v3.toNatClampNeg v3) fun σ_15 =>
    grd (isTwo (σ_15 n0 6)) (
    grd (inb v3 6) (
    grd (isTwo (σ_15 n0 6)) (
    grd (inb v3 6) (
    Option.bind (X0_place n0 v3 (σ_15 (22 + v3.toNatClampNeg) 1) (X3_lasts (22 + v3.toNatClampNeg) σ_15) σ_15) fun σ_21 =>
    X0_begin_L46 F n0 f (v3 + 1) σ_21)))))))
def X0_begin (F : Nat) (n0 : Nat) (v2 : Int32) (σ0 : Mem) : Option (Mem) :=
  bnd (u2 σ0 n0 6 2) fun σ_1 =>
  bnd (u2 σ_1 n0 7 (if (if (6 : Int32) < (6 : Int32) then (6 : Int32) else (6 : Int32)) < v2 then (if (6 : Int32) < (6 : Int32) then (6 : Int32) else (6 : Int32)) else v2)) fun σ_3 =>
  X0_begin_L22 F n0 (fun σ_9 =>
  X0_begin_L46 F n0 F (0 : Int32) σ_9) F (0 : Int32) σ_3
def X0_becomeLike (n0 : Nat) (n1 : Nat) (σ0 : Mem) : Option (Mem) :=
  grd (isTwo (σ0 n1 6)) (
  bnd (u2 σ0 n0 6 2) fun σ_2 =>
  bnd (u2 σ_2 n0 7 (σ_2 n1 7)) fun σ_4 =>
  grd (cpOk 0 0 6 6 6) (
  bnd (u1 σ_4 (n0 + 1) (va_cpy (σ_4 (n1 + 1)) (σ_4 (n0 + 1)) (0 : Int32).toNatClampNeg (0 : Int32).toNatClampNeg (6 : Int32).toNatClampNeg)) fun σ_7 =>
  grd (cpOk 0 0 6 6 6) (
  bnd (u1 σ_7 (n0 + 2) (va_cpy (σ_7 (n1 + 2)) (σ_7 (n0 + 2)) (0 : Int32).toNatClampNeg (0 : Int32).toNatClampNeg (6 : Int32).toNatClampNeg)) fun σ_10 =>
  grd (cpOk 0 0 6 6 6) (
  bnd (u1 σ_10 (n0 + 3) (va_cpy (σ_10 (n1 + 3)) (σ_10 (n0 + 3)) (0 : Int32).toNatClampNeg (0 : Int32).toNatClampNeg (6 : Int32).toNatClampNeg)) fun σ_13 =>
  grd (cpOk 0 0 6 6 6) (
  bnd (u1 σ_13 (n0 + 4) (va_cpy (σ_13 (n1 + 4)) (σ_13 (n0 + 4)) (0 : Int32).toNatClampNeg (0 : Int32).toNatClampNeg (6 : Int32).toNatClampNeg)) fun σ_16 =>
  grd (cpOk 0 0 6 6 6) (
  bnd (u1 σ_16 (n0 + 5) (va_cpy (σ_16 (n1 + 5)) (σ_16 (n0 + 5)) (0 : Int32).toNatClampNeg (0 : Int32).toNatClampNeg (6 : Int32).toNatClampNeg)) fun σ_19 =>
  grd (cpOk 0 0 36 36 36) (
  bnd (u1 σ_19 (n0 + 6) (va_cpy (σ_19 (n1 + 6)) (σ_19 (n0 + 6)) (0 : Int32).toNatClampNeg (0 : Int32).toNatClampNeg (36 : Int32).toNatClampNeg)) fun σ_22 =>
  some σ_22)))))))
def X0_canLend (n0 : Nat) (v1 : Int32) (v2 : Int32) (σ0 : Mem) : Option (Int32) :=
  if v1 = v2 then (
  some 0)
  else (
  grd (inb v1 6) (
  grd (inb (σ0 (n0 + 4) v1.toNatClampNeg) 6) (
  if (σ0 (n0 + 1) (σ0 (n0 + 4) v1.toNatClampNeg).toNatClampNeg) = 0 then (
  some 0)
  else (
  grd (inb v2 6) (
  grd (inb (σ0 (n0 + 4) v2.toNatClampNeg) 6) (
  if (σ0 (n0 + 1) (σ0 (n0 + 4) v2.toNatClampNeg).toNatClampNeg) = 0 then (
  some 0)
  else (
  some 1)))))))
def X0_wearOff (n0 : Nat) (v1 : Int32) (σ0 : Mem) : Option (Mem) :=
  grd (inb v1 6) (
  grd (inb v1 6) (
  bnd (u2 σ0 (n0 + 3) v1.toNatClampNeg ((σ0 (n0 + 3) v1.toNatClampNeg) + 1)) fun σ_3 =>
  grd (inb v1 6) (
  grd (inb v1 6) (
  if (σ_3 (n0 + 3) v1.toNatClampNeg) ≤ (σ_3 (n0 + 2) v1.toNatClampNeg) then (
  some σ_3)
  else (
  grd (inb v1 6) (
  grd (inb v1 6) (
  grd (inb v1 6) (
  bnd (u2 σ_3 (n0 + 1) v1.toNatClampNeg ((σ_3 (n0 + 1) v1.toNatClampNeg) &&& ((σ_3 (n0 + 1) v1.toNatClampNeg) - 1))) fun σ_11 =>
  some σ_11))))))))
def X0_show (n0 : Nat) (v1 : Int32) (σ0 : Mem) : Option (Mem) :=
  grd (inb v1 6) (
  grd (inb v1 6) (
  grd (inb (σ0 (n0 + 4) v1.toNatClampNeg) 6) (
  grd (inb v1 6) (
  bnd (u2 σ0 (n0 + 5) v1.toNatClampNeg ((σ0 (n0 + 5) v1.toNatClampNeg) ||| (σ0 (n0 + 1) (σ0 (n0 + 4) v1.toNatClampNeg).toNatClampNeg))) fun σ_5 =>
  grd (inb v1 6) (
  grd (inb (((6 : Int32) * v1) + (σ_5 (n0 + 4) v1.toNatClampNeg)) 36) (
  grd (inb v1 6) (
  grd (inb (σ_5 (n0 + 4) v1.toNatClampNeg) 6) (
  grd (inb (((6 : Int32) * v1) + (σ_5 (n0 + 4) v1.toNatClampNeg)) 36) (
  bnd (u2 σ_5 (n0 + 6) ((((6 : Int32) * v1) + (σ_5 (n0 + 4) v1.toNatClampNeg)).toNatClampNeg) ((σ_5 (n0 + 6) (((6 : Int32) * v1) + (σ_5 (n0 + 4) v1.toNatClampNeg)).toNatClampNeg) ||| (σ_5 (n0 + 1) (σ_5 (n0 + 4) v1.toNatClampNeg).toNatClampNeg))) fun σ_12 =>
  some σ_12)))))))))
def X0_lend (n0 : Nat) (v1 : Int32) (v2 : Int32) (σ0 : Mem) : Option (Mem) :=
  grd (inb v1 6) (
  bnd (σ0 (n0 + 4) v1.toNatClampNeg) fun v3_2 =>
  grd (inb v2 6) (
  grd (inb v1 6) (
  bnd (u2 σ0 (n0 + 4) v1.toNatClampNeg (σ0 (n0 + 4) v2.toNatClampNeg)) fun σ_6 =>
  grd (inb v2 6) (
  bnd (u2 σ_6 (n0 + 4) v2.toNatClampNeg v3_2) fun σ_9 =>
  grd (inb v1 6) (
  Option.bind (X0_wearOff n0 (σ_9 (n0 + 4) v1.toNatClampNeg) σ_9) fun σ_12 =>
  grd (inb v2 6) (
  Option.bind (X0_wearOff n0 (σ_12 (n0 + 4) v2.toNatClampNeg) σ_12) fun σ_15 =>
  Option.bind (X0_show n0 v1 σ_15) fun σ_17 =>
  Option.bind (X0_show n0 v2 σ_17) fun σ_19 =>
  some σ_19))))))
def X0_play_L2 (F : Nat) (n0 : Nat) (v2 : Int32) : Nat → Int32 → Mem → Option (Int32 × Mem)
  | 0, _, _ => none
  | f + 1, v3, σ0 =>
    if v2 ≤ v3 then (
    some (((-9), σ0)))
    else (
    grd (inb ((2 : Int32) * v3) 40) (
    grd (inb (((2 : Int32) * v3) + 1) 40) (
    Option.bind (X0_canLend n0 (σ0 13 ((2 : Int32) * v3).toNatClampNeg) (σ0 13 (((2 : Int32) * v3) + 1).toNatClampNeg) σ0) fun z_4 =>
    if z_4 = 0 then (
    some ((v3, σ0)))
    else (
    grd (inb ((2 : Int32) * v3) 40) (
    grd (inb (((2 : Int32) * v3) + 1) 40) (
    Option.bind (X0_lend n0 (σ0 13 ((2 : Int32) * v3).toNatClampNeg) (σ0 13 (((2 : Int32) * v3) + 1).toNatClampNeg) σ0) fun σ_9 =>
    X0_play_L2 F n0 v2 f (v3 + 1) σ_9))))))
def X0_play (F : Nat) (n0 : Nat) (v2 : Int32) (σ0 : Mem) : Option (Int32 × Mem) :=
  X0_play_L2 F n0 v2 F (0 : Int32) σ0
def X3_wantedSet (n0 : Nat) (σ0 : Mem) : Int32 :=
  if (σ0 n0 2) = 6 then (
  0)
  else (
  (1 : Int32) <<< ((σ0 n0 2) &&& 31))
def X3_isMendedBy (n0 : Nat) (v1 : Int32) (σ0 : Mem) : Int32 :=
  if (σ0 n0 2) = 6 then (
  1)
  else (
  if (v1 &&& (X3_wantedSet n0 σ0)) = 0 then (
  0)
  else (
  1))
def X0_mended_L4 (F : Nat) (n0 : Nat) (σ0 : Mem) : Nat → Int32 → Int32 → Option (Int32)
  | 0, _, _ => none
  | f + 1, v1, v2 =>
    if (σ0 n0 7) ≤ v2 then (
    some v1)
    else (
    grd (isTwo (σ0 n0 6)) (
    grd (inb v2 6) (
    grd (inb v2 6) (
    if (X3_isMendedBy (22 + v2.toNatClampNeg) (σ0 (n0 + 5) v2.toNatClampNeg) σ0) = 0 then (
    X0_mended_L4 F n0 σ0 f v1 (v2 + 1))
    else (
    bnd (v1 ||| ((1 : Int32) <<< (v2 &&& 31))) fun v1_6 =>
    X0_mended_L4 F n0 σ0 f v1_6 (v2 + 1))))))
def X0_mended (F : Nat) (n0 : Nat) (σ0 : Mem) : Option (Int32) :=
  X0_mended_L4 F n0 σ0 F (0 : Int32) (0 : Int32)
def X0_firstThatMendsAll_L23 (F : Nat) (n0 : Nat) (v2 : Int32) (v3 : Int32) : Nat → Int32 → Mem → Option (Int32 × Mem)
  | 0, _, _ => none
  | f + 1, v4, σ0 =>
    if v2 ≤ v4 then (
    some (((-9), σ0)))
    else (
    grd (inb ((2 : Int32) * v4) 40) (
    grd (inb (((2 : Int32) * v4) + 1) 40) (
    Option.bind (X0_lend n0 (σ0 13 ((2 : Int32) * v4).toNatClampNeg) (σ0 13 (((2 : Int32) * v4) + 1).toNatClampNeg) σ0) fun σ_9 =>
    Option.bind (X0_mended F n0 σ_9) fun z_11 =>
    if z_11 = v3 then (
    some ((v4, σ_9)))
    else (
    X0_firstThatMendsAll_L23 F n0 v2 v3 f (v4 + 1) σ_9))))
def X0_firstThatMendsAll (F : Nat) (n0 : Nat) (v2 : Int32) (σ0 : Mem) : Option (Int32 × Mem) :=
  bnd (((1 : Int32) <<< ((σ0 n0 7) &&& 31)) - 1) fun v3_1 =>
  Option.bind (X0_mended F n0 σ0) fun z_3 =>
  if z_3 = v3_1 then (
  some (((-9), σ0)))
  else (
  X0_firstThatMendsAll_L23 F n0 v2 v3_1 F (0 : Int32) σ0)
def X0_childhoodsThatShowed_L5 (F : Nat) (n0 : Nat) (v1 : Int32) (v2 : Int32) (σ0 : Mem) : Nat → Int32 → Int32 → Option (Int32)
  | 0, _, _ => none
  | f + 1, v3, v4 =>
    if (σ0 n0 7) ≤ v4 then (
    some v3)
    else (
    grd (inb (((6 : Int32) * v1) + v4) 36) (
    if ((σ0 (n0 + 6) (((6 : Int32) * v1) + v4).toNatClampNeg) &&& v2) = 0 then (
    X0_childhoodsThatShowed_L5 F n0 v1 v2 σ0 f v3 (v4 + 1))
    else (
    X0_childhoodsThatShowed_L5 F n0 v1 v2 σ0 f (v3 + 1) (v4 + 1))))
def X0_childhoodsThatShowed (F : Nat) (n0 : Nat) (v1 : Int32) (v2 : Int32) (σ0 : Mem) : Option (Int32) :=
  X0_childhoodsThatShowed_L5 F n0 v1 v2 σ0 F (0 : Int32) (0 : Int32)
def X0_loansHome_L31 (F : Nat) (n0 : Nat) (v1 : Int32) (v3 : Int32) (σ0 : Mem) (k62 : Int32 → Option (Int32)) : Nat → Int32 → Int32 → Int32 → Option (Int32)
  | 0, _, _, _ => none
  | f + 1, v2, v4, v5 =>
    if (σ0 n0 7) ≤ v5 then (
    k62 v2)
    else (
    bnd (v2 ||| ((1 : Int32) <<< (v4 &&& 31))) fun v2_4 =>
    grd (inb v4 6) (
    bnd (σ0 (n0 + 4) v4.toNatClampNeg) fun v4_7 =>
    X0_loansHome_L31 F n0 v1 v3 σ0 k62 f v2_4 v4_7 (v5 + 1)))
def X0_loansHome_L6 (F : Nat) (n0 : Nat) (σ0 : Mem) : Nat → Int32 → Int32 → Int32 → Option (Int32)
  | 0, _, _, _ => none
  | f + 1, v1, v2, v3 =>
    if (σ0 n0 7) ≤ v3 then (
    some ((σ0 n0 7) - v1))
    else (
    if ((v2 >>> (v3 &&& 31)) &&& 1) = 0 then (
    X0_loansHome_L31 F n0 (v1 + 1) v3 σ0 (fun v2_10 =>
    X0_loansHome_L6 F n0 σ0 f (v1 + 1) v2_10 (v3 + 1)) F v2 v3 (0 : Int32))
    else (
    X0_loansHome_L31 F n0 v1 v3 σ0 (fun v2_9 =>
    X0_loansHome_L6 F n0 σ0 f v1 v2_9 (v3 + 1)) F v2 v3 (0 : Int32)))
def X0_loansHome (F : Nat) (n0 : Nat) (σ0 : Mem) : Option (Int32) :=
  X0_loansHome_L6 F n0 σ0 F (0 : Int32) (0 : Int32) (0 : Int32)
def J6_bitCount_0f7a4 (v0 : Int32) : Int32 :=
  bnd (v0 - (((v0.toUInt32 >>> ((1 : Int32).toUInt32 &&& Int32.toUInt32 31)).toInt32) &&& 1431655765)) fun v0_1 =>
  bnd ((v0_1 &&& 858993459) + (((v0_1.toUInt32 >>> ((2 : Int32).toUInt32 &&& Int32.toUInt32 31)).toInt32) &&& 858993459)) fun v0_3 =>
  bnd ((v0_3 + ((v0_3.toUInt32 >>> ((4 : Int32).toUInt32 &&& Int32.toUInt32 31)).toInt32)) &&& 252645135) fun v0_5 =>
  bnd (v0_5 + ((v0_5.toUInt32 >>> ((8 : Int32).toUInt32 &&& Int32.toUInt32 31)).toInt32)) fun v0_7 =>
  bnd (v0_7 + ((v0_7.toUInt32 >>> ((16 : Int32).toUInt32 &&& Int32.toUInt32 31)).toInt32)) fun v0_9 =>
  v0_9 &&& 63
def X1_mends_L66 (F : Nat) (rec : Int32 → Int32 → Int32 → Mem → Option (Int32 × Mem)) (v1 : Int32) (v2 : Int32) (v3 : Int32) (n4 : Nat) (n5 : Nat) (v6 : Int32) (k138 : Mem → Option (Int32 × Mem)) : Nat → Int32 → Mem → Option (Int32 × Mem)
  | 0, _, _ => none
  | f + 1, v7, σ0 =>
    if (σ0 n4 7) ≤ v7 then (
    k138 σ0)
    else (
    Option.bind (X0_canLend n4 v6 v7 σ0) fun z_11 =>
    if z_11 = 0 then (
    X1_mends_L66 F rec v1 v2 v3 n4 n5 v6 k138 f (v7 + 1) σ0)
    else (
    Option.bind (X0_becomeLike n5 n4 σ0) fun σ_14 =>
    Option.bind (X0_lend n5 v6 v7 σ_14) fun σ_16 =>
    grd (inb v1 3) (
    bnd (u2 σ_16 9 v1.toNatClampNeg (((10 : Int32) * v6) + v7)) fun σ_19 =>
    Option.bind (rec (v1 + 1) v2 v3 σ_19) fun z_21 =>
    if z_21.1 = 0 then (
    X1_mends_L66 F rec v1 v2 v3 n4 n5 v6 k138 f (v7 + 1) z_21.2)
    else (
    some ((1, z_21.2))))))
def X1_mends_L50 (F : Nat) (rec : Int32 → Int32 → Int32 → Mem → Option (Int32 × Mem)) (v1 : Int32) (v2 : Int32) (v3 : Int32) (n4 : Nat) (n5 : Nat) : Nat → Int32 → Mem → Option (Int32 × Mem)
  | 0, _, _ => none
  | f + 1, v6, σ0 =>
    if (σ0 n4 7) ≤ v6 then (
    some ((0, σ0)))
    else (
    bnd (v6 + 1) fun v7_8 =>
    X1_mends_L66 F rec v1 v2 v3 n4 n5 v6 (fun σ_24 =>
    X1_mends_L50 F rec v1 v2 v3 n4 n5 f (v6 + 1) σ_24) F v7_8 σ0)
def X1_mends (F : Nat) : Nat → Int32 → Int32 → Int32 → Mem → Option (Int32 × Mem)
  | 0, _, _, _, _ => none
  | f + 1, v1, v2, v3, σ0 =>
    grd (inb v1 4) (
    Option.bind (X0_mended F (36 + 8 * v1.toNatClampNeg) σ0) fun z_2 =>
    if (J6_bitCount_0f7a4 (v3 &&& (z_2 ^^^ ((-1))))) ≤ ((2 : Int32) * (v2 - v1)) then (
    if v1 < v2 then (
    grd (inb (v1 + 1) 4) (
    X1_mends_L50 F (fun v1 v2 v3 σ0 => X1_mends F f v1 v2 v3 σ0) v1 v2 v3 (36 + 8 * v1.toNatClampNeg) (36 + 8 * (v1 + 1).toNatClampNeg) F (0 : Int32) σ0))
    else (
    some ((1, σ0))))
    else (
    some ((0, σ0))))
def X1_find_L14 (F : Nat) (v3 : Int32) : Nat → Int32 → Mem → Option (Int32 × Mem)
  | 0, _, _ => none
  | f + 1, v4, σ0 =>
    if 3 < v4 then (
    some (((-9), σ0)))
    else (
    Option.bind (X1_mends F 4 (0 : Int32) v4 v3 σ0) fun z_5 =>
    if z_5.1 = 0 then (
    X1_find_L14 F v3 f (v4 + 1) z_5.2)
    else (
    some ((v4, z_5.2))))
def X1_find (F : Nat) (v2 : Int32) (v3 : Int32) (σ0 : Mem) : Option (Int32 × Mem) :=
  grd (inb 0 4) (
  Option.bind (X0_begin F (36 + 8 * (0 : Int32).toNatClampNeg) v2 σ0) fun σ_2 =>
  X1_find_L14 F v3 F (0 : Int32) σ_2)
def X1_loanAt (v1 : Int32) (σ0 : Mem) : Option (Int32) :=
  grd (inb v1 3) (
  some (σ0 9 v1.toNatClampNeg))
def X2_mostMended (σ0 : Mem) : Option (Int32) :=
  grd (inb 0 64) (
  some (σ0 11 (0 : Int32).toNatClampNeg))
def X2_mendedFrom (v2 : Int32) (v3 : Int32) (σ0 : Mem) : Option (Int32) :=
  grd (inb (J6_bitCount_0f7a4 v2) 6) (
  grd (inb v3 6) (
  if (X3_isMendedBy (22 + (J6_bitCount_0f7a4 v2).toNatClampNeg) ((σ0 (22 + (J6_bitCount_0f7a4 v2).toNatClampNeg) 1) ||| (σ0 (22 + v3.toNatClampNeg) 1)) σ0) = 0 then (
  grd (inb (v2 ||| ((1 : Int32) <<< (v3 &&& 31))) 64) (
  some ((0 : Int32) + (σ0 11 (v2 ||| ((1 : Int32) <<< (v3 &&& 31))).toNatClampNeg))))
  else (
  grd (inb (v2 ||| ((1 : Int32) <<< (v3 &&& 31))) 64) (
  some ((1 : Int32) + (σ0 11 (v2 ||| ((1 : Int32) <<< (v3 &&& 31))).toNatClampNeg))))))
def X2_firstBest_L3 (F : Nat) (v2 : Int32) (v3 : Int32) (σ0 : Mem) : Nat → Int32 → Option (Int32)
  | 0, _ => none
  | f + 1, v4 =>
    if v2 ≤ v4 then (
    some 0)
    else (
    if ((v3 >>> (v4 &&& 31)) &&& 1) = 0 then (
    Option.bind (X2_mendedFrom v3 v4 σ0) fun z_3 =>
    grd (inb v3 64) (
    if z_3 = (σ0 11 v3.toNatClampNeg) then (
    some v4)
    else (
    X2_firstBest_L3 F v2 v3 σ0 f (v4 + 1))))
    else (
    X2_firstBest_L3 F v2 v3 σ0 f (v4 + 1)))
def X2_firstBest (F : Nat) (v2 : Int32) (v3 : Int32) (σ0 : Mem) : Option (Int32) :=
  X2_firstBest_L3 F v2 v3 σ0 F (0 : Int32)
def X2_make_L34 (F : Nat) (v2 : Int32) (v4 : Int32) (k82 : Mem → Option (Mem)) : Nat → Int32 → Mem → Option (Mem)
  | 0, _, _ => none
  | f + 1, v5, σ0 =>
    if v2 ≤ v5 then (
    k82 σ0)
    else (
    if ((v4 >>> (v5 &&& 31)) &&& 1) = 0 then (
    grd (inb v4 64) (
    Option.bind (X2_mendedFrom v4 v5 σ0) fun z_15 =>
    grd (inb v4 64) (
    bnd (u2 σ0 11 v4.toNatClampNeg (if (σ0 11 v4.toNatClampNeg) < z_15 then z_15 else (σ0 11 v4.toNatClampNeg))) fun σ_18 =>
    X2_make_L34 F v2 v4 k82 f (v5 + 1) σ_18)))
    else (
    X2_make_L34 F v2 v4 k82 f (v5 + 1) σ0))
def X2_make_L18 (F : Nat) (v2 : Int32) (k88 : Mem → Option (Mem)) : Nat → Int32 → Mem → Option (Mem)
  | 0, _, _ => none
  | f + 1, v4, σ0 =>
    if v4 < 0 then (
    k88 σ0)
    else (
    grd (inb v4 64) (
    bnd (u2 σ0 11 v4.toNatClampNeg ((-1))) fun σ_10 =>
    X2_make_L34 F v2 v4 (fun σ_20 =>
    X2_make_L18 F v2 k88 f (v4 + (-1)) σ_20) F (0 : Int32) σ_10))
def X2_make_L94 (F : Nat) (v2 : Int32) : Nat → Int32 → Int32 → Mem → Option (Mem)
  | 0, _, _, _ => none
  | f + 1, v4, v5, σ0 =>
    if v2 ≤ v5 then (
    some σ0)
    else (
    Option.bind (X2_firstBest F v2 v4 σ0) fun z_23 =>
    grd (inb v5 6) (
    bnd (u2 σ0 12 v5.toNatClampNeg z_23) fun σ_26 =>
    grd (inb v5 6) (
    bnd (v4 ||| ((1 : Int32) <<< ((σ_26 12 v5.toNatClampNeg) &&& 31))) fun v4_29 =>
    X2_make_L94 F v2 f v4_29 (v5 + 1) σ_26)))
def X2_make (F : Nat) (v2 : Int32) (σ0 : Mem) : Option (Mem) :=
  bnd (((1 : Int32) <<< (v2 &&& 31)) - 1) fun v3_1 =>
  grd (inb v3_1 64) (
  bnd (u2 σ0 11 v3_1.toNatClampNeg 0) fun σ_4 =>
  bnd (v3_1 - 1) fun v4_6 =>
  X2_make_L18 F v2 (fun σ_21 =>
  X2_make_L94 F v2 F (0 : Int32) (0 : Int32) σ_21) F v4_6 σ_4)
def X3_readFrom_J31 (n0 : Nat) (n1 : Nat) (v2 : Int32) (w1 : Int32) (σ0 : Mem) : Option (Mem) :=
  bnd (u2 σ0 n0 0 w1) fun σ_6 =>
  grd (inb (v2 + 2) 60) (
  grd (inb (v2 + 3) 60) (
  bnd (u2 σ_6 n0 1 ((((10 : Int32) * ((σ_6 (n1 + 4) (v2 + 2).toNatClampNeg) - 48)) + (σ_6 (n1 + 4) (v2 + 3).toNatClampNeg)) - 48)) fun σ_10 =>
  grd (inb (v2 + 4) 60) (
  bnd (u2 σ_10 n0 2 ((σ_10 (n1 + 4) (v2 + 4).toNatClampNeg) - 48)) fun σ_13 =>
  grd (inb (v2 + 5) 60) (
  bnd (u2 σ_13 n0 3 ((σ_13 (n1 + 4) (v2 + 5).toNatClampNeg) - 48)) fun σ_16 =>
  some σ_16))))
def X3_readFrom (n0 : Nat) (n1 : Nat) (v2 : Int32) (σ0 : Mem) : Option (Mem) :=
  grd (inb (v2 + 1) 60) (
  bnd (σ0 (n1 + 4) (v2 + 1).toNatClampNeg) fun v3_2 =>
  if v3_2 = 116 then (
  X3_readFrom_J31 n0 n1 v2 (2 : Int32) σ0)
  else (
  if v3_2 = 115 then (
  X3_readFrom_J31 n0 n1 v2 (1 : Int32) σ0)
  else (
  X3_readFrom_J31 n0 n1 v2 (0 : Int32) σ0)))
def X4_add (v1 : Int32) (v2 : Int32) (v3 : Int32) (σ0 : Mem) : Option (Int32 × Mem) :=
  if (σ0 3 3) < 8 then (
  grd (inb (σ0 3 3) 8) (
  bnd (u2 σ0 4 ((σ0 3 3).toNatClampNeg) v1) fun σ_3 =>
  grd (inb (σ_3 3 3) 8) (
  bnd (u2 σ_3 5 ((σ_3 3 3).toNatClampNeg) v2) fun σ_6 =>
  grd (inb (σ_6 3 3) 8) (
  bnd (u2 σ_6 6 ((σ_6 3 3).toNatClampNeg) (vp_nar .boolean v3)) fun σ_9 =>
  bnd (u2 σ_9 3 3 ((σ_9 3 3) + 1)) fun σ_11 =>
  some ((1, σ_11))))))
  else (
  some ((0, σ0)))
def X4_areSoIn_L2 (F : Nat) (n1 : Nat) (σ0 : Mem) : Nat → Int32 → Option (Int32)
  | 0, _ => none
  | f + 1, v2 =>
    if (σ0 3 3) ≤ v2 then (
    some 1)
    else (
    grd (inb v2 8) (
    grd (inb (σ0 4 v2.toNatClampNeg) 6) (
    grd (inb v2 8) (
    if (((σ0 (n1 + 5) (σ0 4 v2.toNatClampNeg).toNatClampNeg) >>> ((σ0 5 v2.toNatClampNeg) &&& 31)) &&& 1) = 1 then (
    grd (inb v2 8) (
    if (1 : Int32) = (σ0 6 v2.toNatClampNeg) then (
    X4_areSoIn_L2 F n1 σ0 f (v2 + 1))
    else (
    some 0)))
    else (
    grd (inb v2 8) (
    if (0 : Int32) = (σ0 6 v2.toNatClampNeg) then (
    X4_areSoIn_L2 F n1 σ0 f (v2 + 1))
    else (
    some 0)))))))
def X4_areSoIn (F : Nat) (n1 : Nat) (σ0 : Mem) : Option (Int32) :=
  X4_areSoIn_L2 F n1 σ0 F (0 : Int32)
def X5_renew_L17 (F : Nat) (n0 : Nat) : Nat → Int32 → Mem → Option (Mem)
  | 0, _, _ => none
  | f + 1, v3, σ0 =>
    if 60 ≤ v3 then (
    some σ0)
    else (
    grd (inb v3 60) (
    bnd (u2 σ0 (n0 + 4) v3.toNatClampNeg 0) fun σ_9 =>
    X5_renew_L17 F n0 f (v3 + 1) σ_9))
def X5_renew (F : Nat) (n0 : Nat) (v1 : Int32) (v2 : Int32) (σ0 : Mem) : Option (Mem) :=
  bnd (u2 σ0 n0 1 1) fun σ_1 =>
  bnd (u2 σ_1 n0 2 v1) fun σ_3 =>
  bnd (u2 σ_3 n0 3 v2) fun σ_5 =>
  X5_renew_L17 F n0 F (0 : Int32) σ_5
def X5_hasCells (n0 : Nat) (v1 : Int32) (v2 : Int32) (σ0 : Mem) : Int32 :=
  if v2 < 0 then (
  0)
  else (
  if v1 < 0 then (
  0)
  else (
  if (σ0 n0 3) < v1 then (
  0)
  else (
  if ((σ0 n0 3) - v1) < v2 then (
  0)
  else (
  1))))
def X5_faultOfCells_J17 (n0 : Nat) (v2 : Int32) (v3 : Int32) (σ0 : Mem) : Int32 :=
  if (σ0 n0 1) = 0 then (
  1)
  else (
  if 0 ≤ v3 then (
  if (X5_hasCells n0 v2 v3 σ0) = 0 then (
  3)
  else (
  0))
  else (
  4))
def X5_faultOfCells (n0 : Nat) (v1 : Int32) (v2 : Int32) (v3 : Int32) (σ0 : Mem) : Int32 :=
  if (σ0 n0 1) = 0 then (
  X5_faultOfCells_J17 n0 v2 v3 σ0)
  else (
  if (σ0 n0 2) = v1 then (
  X5_faultOfCells_J17 n0 v2 v3 σ0)
  else (
  2))
def X6_isSheet (v0 : Int32) : Int32 :=
  if v0 < 0 then (
  0)
  else (
  if 4 ≤ v0 then (
  0)
  else (
  1))
def X6_isLane (v0 : Int32) : Int32 :=
  if v0 < 0 then (
  0)
  else (
  if 3 ≤ v0 then (
  0)
  else (
  1))
def X6_faultAnswer (v1 : Int32) (σ0 : Mem) : Int32 × Mem :=
  bnd (u2 σ0 0 9 v1) fun σ_1 =>
  ((-10 : Int32) - v1, σ_1)
def X6_textGoesOn (v0 : Int32) (v1 : Int32) (v2 : Int32) : Int32 :=
  if v0 = 0 then (
  if v2 = 107 then (
  1)
  else (
  0))
  else (
  if v0 ≤ 36 then (
  if ((v0 - 1) - (v0 - 1) / 6 * 6) = 0 then (
  if v2 = 59 then (
  1)
  else (
  0))
  else (
  if ((v0 - 1) - (v0 - 1) / 6 * 6) = 1 then (
  if v2 = 99 then (
  1)
  else (
  if v2 = 115 then (
  1)
  else (
  if v2 = 116 then (
  1)
  else (
  0))))
  else (
  if ((v0 - 1) - (v0 - 1) / 6 * 6) = 2 then (
  if v2 < 48 then (
  0)
  else (
  if 54 < v2 then (
  0)
  else (
  1)))
  else (
  if ((v0 - 1) - (v0 - 1) / 6 * 6) = 3 then (
  if v2 < 48 then (
  0)
  else (
  if v1 = 54 then (
  if 51 < v2 then (
  0)
  else (
  1))
  else (
  if 57 < v2 then (
  0)
  else (
  1))))
  else (
  if ((v0 - 1) - (v0 - 1) / 6 * 6) = 4 then (
  if v2 < 48 then (
  0)
  else (
  if 54 < v2 then (
  0)
  else (
  1)))
  else (
  if v2 < 49 then (
  0)
  else (
  if 57 < v2 then (
  0)
  else (
  1))))))))
  else (
  0))
def X6_firstFaultOfText_L5 (F : Nat) (n0 : Nat) (v1 : Int32) (v2 : Int32) (σ0 : Mem) (k45 : Option (Int32)) : Nat → Int32 → Int32 → Option (Int32)
  | 0, _, _ => none
  | f + 1, v3, v4 =>
    if v2 ≤ v4 then (
    k45)
    else (
    grd (inb (v1 + v4) 60) (
    bnd (σ0 (n0 + 4) (v1 + v4).toNatClampNeg) fun v5_3 =>
    if (X6_textGoesOn v4 v3 v5_3) = 0 then (
    some v4)
    else (
    X6_firstFaultOfText_L5 F n0 v1 v2 σ0 k45 f v5_3 (v4 + 1))))
def X6_firstFaultOfText (F : Nat) (n0 : Nat) (v1 : Int32) (v2 : Int32) (σ0 : Mem) : Option (Int32) :=
  X6_firstFaultOfText_L5 F n0 v1 v2 σ0 (
  if (v2 - v2 / 6 * 6) = 1 then (
  if v2 ≤ 12 then (
  some v2)
  else (
  some ((-9))))
  else (
  some v2)) F (0 : Int32) (0 : Int32)
def X6_counter_L90 (F : Nat) (v3 : Int32) (n5 : Nat) (k126 : Mem → Option (Int32 × Mem)) : Nat → Int32 → Mem → Option (Int32 × Mem)
  | 0, _, _ => none
  | f + 1, v8, σ0 =>
    if (σ0 0 7) ≤ v8 then (
    k126 σ0)
    else (
    grd (inb v8 6) (
    Option.bind (X3_readFrom (22 + v8.toNatClampNeg) n5 ((v3 + 1) + ((6 : Int32) * v8)) σ0) fun σ_16 =>
    X6_counter_L90 F v3 n5 k126 f (v8 + 1) σ_16))
def X6_counter (F : Nat) (v1 : Int32) (v2 : Int32) (v3 : Int32) (v4 : Int32) (σ0 : Mem) : Option (Int32 × Mem) :=
  bnd (u2 σ0 0 9 0) fun σ_1 =>
  if (X6_isSheet v1) = 0 then (
  some (((-1), σ_1)))
  else (
  if (X6_isLane v2) = 0 then (
  some (((-2), σ_1)))
  else (
  grd (inb v1 4) (
  bnd (X5_faultOfCells (14 + v1.toNatClampNeg) v2 v3 v4 σ_1) fun v6_6 =>
  if v6_6 = 0 then (
  Option.bind (X6_firstFaultOfText F (14 + v1.toNatClampNeg) v3 v4 σ_1) fun z_9 =>
  if z_9 = ((-9)) then (
  bnd (u2 σ_1 0 7 (v4 / 6)) fun σ_12 =>
  X6_counter_L90 F v3 (14 + v1.toNatClampNeg) (fun σ_18 =>
  bnd (u2 σ_18 3 3 0) fun σ_19 =>
  some ((σ_19 0 7, σ_19))) F (0 : Int32) σ_12)
  else (
  some (((-100 : Int32) - z_9, σ_1))))
  else (
  bnd (X6_faultAnswer v6_6 σ_1) fun z_21 =>
  some ((z_21.1, z_21.2))))))
def X6_isPerson (v1 : Int32) (σ0 : Mem) : Int32 :=
  if v1 < 0 then (
  0)
  else (
  if (σ0 0 7) ≤ v1 then (
  0)
  else (
  1))
def X6_ofPerson (v1 : Int32) (v2 : Int32) (σ0 : Mem) : Option (Int32) :=
  if (X6_isPerson v1 σ0) = 0 then (
  some ((-1)))
  else (
  grd (inb v1 6) (
  if v2 = 0 then (
  some (σ0 (22 + v1.toNatClampNeg) 0))
  else (
  if v2 = 1 then (
  some (σ0 (22 + v1.toNatClampNeg) 1))
  else (
  if v2 = 2 then (
  some (σ0 (22 + v1.toNatClampNeg) 2))
  else (
  if v2 = 3 then (
  some (σ0 (22 + v1.toNatClampNeg) 3))
  else (
  if v2 = 4 then (
  some (X3_lasts (22 + v1.toNatClampNeg) σ0))
  else (
  some ((-2)))))))))
def X6_live (v1 : Int32) (v2 : Int32) (σ0 : Mem) : Option (Int32 × Mem) :=
  if (X6_isPerson v1 σ0) = 0 then (
  some (((-1), σ0)))
  else (
  if v2 < 0 then (
  some (((-2), σ0)))
  else (
  if v2 < 64 then (
  grd (inb v1 6) (
  bnd (σ0 (22 + v1.toNatClampNeg) 1) fun v3_5 =>
  grd (inb v1 6) (
  bnd (u2 σ0 (22 + v1.toNatClampNeg) 1 v2) fun σ_8 =>
  some ((v3_5, σ_8)))))
  else (
  some (((-2), σ0)))))
def X6_want (v1 : Int32) (v2 : Int32) (σ0 : Mem) : Option (Int32 × Mem) :=
  if (X6_isPerson v1 σ0) = 0 then (
  some (((-1), σ0)))
  else (
  if v2 < 0 then (
  some (((-2), σ0)))
  else (
  if v2 ≤ 6 then (
  grd (inb v1 6) (
  bnd (σ0 (22 + v1.toNatClampNeg) 2) fun v3_5 =>
  grd (inb v1 6) (
  bnd (u2 σ0 (22 + v1.toNatClampNeg) 2 v2) fun σ_8 =>
  some ((v3_5, σ_8)))))
  else (
  some (((-2), σ0)))))
def X6_isLoanCount (v0 : Int32) : Int32 :=
  if v0 < 0 then (
  0)
  else (
  if 20 < v0 then (
  0)
  else (
  1))
def X6_isLoanQuestion (v0 : Int32) : Int32 :=
  if v0 < 0 then (
  if v0 < 10 then (
  0)
  else (
  if 40 ≤ v0 then (
  0)
  else (
  if 6 ≤ (v0 - v0 / 10 * 10) then (
  0)
  else (
  1))))
  else (
  if 3 < v0 then (
  if v0 < 10 then (
  0)
  else (
  if 40 ≤ v0 then (
  0)
  else (
  if 6 ≤ (v0 - v0 / 10 * 10) then (
  0)
  else (
  1))))
  else (
  1))
def X6_takeRow_L32 (F : Nat) (v1 : Int32) (v3 : Int32) (v4 : Int32) : Nat → Int32 → Mem → Option (Int32 × Mem)
  | 0, _, _ => none
  | f + 1, v6, σ0 =>
    if ((2 : Int32) * v4) ≤ v6 then (
    some ((0, σ0)))
    else (
    grd (inb v1 4) (
    grd (inb (v3 + v6) 60) (
    bnd (σ0 ((14 + v1.toNatClampNeg) + 4) (v3 + v6).toNatClampNeg) fun v7_8 =>
    if (X6_isPerson v7_8 σ0) = 0 then (
    some (((-1), σ0)))
    else (
    grd (inb v6 40) (
    bnd (u2 σ0 13 v6.toNatClampNeg v7_8) fun σ_12 =>
    X6_takeRow_L32 F v1 v3 v4 f (v6 + 1) σ_12)))))
def X6_takeRow (F : Nat) (v1 : Int32) (v2 : Int32) (v3 : Int32) (v4 : Int32) (σ0 : Mem) : Option (Int32 × Mem) :=
  grd (inb v1 4) (
  bnd (X5_faultOfCells (14 + v1.toNatClampNeg) v2 v3 ((2 : Int32) * v4) σ0) fun v5_2 =>
  if v5_2 = 0 then (
  X6_takeRow_L32 F v1 v3 v4 F (0 : Int32) σ0)
  else (
  bnd (X6_faultAnswer v5_2 σ0) fun z_14 =>
  some ((z_14.1, z_14.2))))
def X6_answerOfOne (v1 : Int32) (v2 : Int32) (σ0 : Mem) : Option (Int32) :=
  if (X6_isPerson v2 σ0) = 0 then (
  some ((-9)))
  else (
  if v1 = 1 then (
  grd (inb v2 6) (
  some (σ0 (28 + 4) v2.toNatClampNeg)))
  else (
  if v1 = 2 then (
  grd (inb v2 6) (
  some (σ0 (28 + 5) v2.toNatClampNeg)))
  else (
  grd (inb v2 6) (
  some (σ0 (28 + 1) v2.toNatClampNeg)))))
def X6_answerOfLoans (F : Nat) (v1 : Int32) (v2 : Int32) (σ0 : Mem) : Option (Int32 × Mem) :=
  if v2 = 0 then (
  Option.bind (X0_mended F 28 σ0) fun z_5 =>
  some ((z_5, σ0)))
  else (
  if v2 = 1 then (
  Option.bind (X6_answerOfOne (v2 / 10) (v2 - v2 / 10 * 10) σ0) fun z_7 =>
  some ((z_7, σ0)))
  else (
  if v2 = 2 then (
  Option.bind (X0_begin F 28 (σ0 0 7) σ0) fun σ_9 =>
  Option.bind (X0_firstThatMendsAll F 28 v1 σ_9) fun z_11 =>
  some ((z_11.1, z_11.2)))
  else (
  if v2 = 3 then (
  Option.bind (X0_loansHome F 28 σ0) fun z_13 =>
  some ((z_13, σ0)))
  else (
  Option.bind (X6_answerOfOne (v2 / 10) (v2 - v2 / 10 * 10) σ0) fun z_15 =>
  some ((z_15, σ0))))))
def X6_loans (F : Nat) (v1 : Int32) (v2 : Int32) (v3 : Int32) (v4 : Int32) (v5 : Int32) (σ0 : Mem) : Option (Int32 × Mem) :=
  bnd (u2 σ0 0 9 0) fun σ_1 =>
  if (X6_isSheet v1) = 0 then (
  some (((-1), σ_1)))
  else (
  if (X6_isLane v2) = 0 then (
  some (((-2), σ_1)))
  else (
  if (X6_isLoanCount v4) = 0 then (
  some (((-2), σ_1)))
  else (
  if (X6_isLoanQuestion v5) = 0 then (
  some (((-2), σ_1)))
  else (
  if (σ_1 0 7) = 0 then (
  some (((-3), σ_1)))
  else (
  Option.bind (X6_takeRow F v1 v2 v3 v4 σ_1) fun z_8 =>
  if z_8.1 = 0 then (
  Option.bind (X0_begin F 28 (z_8.2 0 7) z_8.2) fun σ_11 =>
  Option.bind (X0_play F 28 v4 σ_11) fun z_13 =>
  if v5 = 1 then (
  some ((z_13.1, z_13.2)))
  else (
  if z_13.1 = ((-9)) then (
  Option.bind (X6_answerOfLoans F v4 v5 z_13.2) fun z_17 =>
  some ((z_17.1, z_17.2)))
  else (
  some (((-100 : Int32) - z_13.1, z_13.2)))))
  else (
  some ((z_8.1, z_8.2))))))))
def X6_fewest (F : Nat) (v1 : Int32) (v2 : Int32) (σ0 : Mem) : Option (Int32 × Mem) :=
  if (σ0 0 7) = 0 then (
  some (((-3), σ0)))
  else (
  if v2 < ((-1)) then (
  some (((-2), σ0)))
  else (
  if 3 ≤ v2 then (
  some (((-2), σ0)))
  else (
  if v1 < 0 then (
  some (((-2), σ0)))
  else (
  if v1 < ((1 : Int32) <<< ((σ0 0 7) &&& 31)) then (
  Option.bind (X1_find F (σ0 0 7) v1 σ0) fun z_6 =>
  if v2 = ((-1)) then (
  some ((z_6.1, z_6.2)))
  else (
  if z_6.1 ≤ v2 then (
  some (((-9), z_6.2)))
  else (
  Option.bind (X1_loanAt v2 z_6.2) fun z_10 =>
  some ((z_10, z_6.2)))))
  else (
  some (((-2), σ0)))))))
def X6_match (F : Nat) (v1 : Int32) (σ0 : Mem) : Option (Int32 × Mem) :=
  if ((-1)) ≤ v1 then (
  if (σ0 0 7) = 0 then (
  some (((-3), σ0)))
  else (
  Option.bind (X2_make F (σ0 0 7) σ0) fun σ_3 =>
  if v1 = ((-1)) then (
  Option.bind (X2_mostMended σ_3) fun z_8 =>
  some ((z_8, σ_3)))
  else (
  if (X6_isPerson v1 σ_3) = 0 then (
  some (((-9), σ_3)))
  else (
  grd (inb v1 6) (
  some ((σ_3 12 v1.toNatClampNeg, σ_3)))))))
  else (
  some (((-1), σ0)))
def X6_help_L14 (F : Nat) (v1 : Int32) (σ0 : Mem) : Nat → Int32 → Int32 → Option (Int32)
  | 0, _, _ => none
  | f + 1, v2, v3 =>
    if (σ0 0 7) ≤ v3 then (
    some v2)
    else (
    grd (inb v3 6) (
    bnd (X3_wantedSet (22 + v3.toNatClampNeg) σ0) fun v4_4 =>
    grd (inb v1 6) (
    grd (inb v3 6) (
    if ((v4_4 &&& (σ0 (22 + v1.toNatClampNeg) 1)) &&& ((σ0 (22 + v3.toNatClampNeg) 1) ^^^ ((-1)))) = 0 then (
    X6_help_L14 F v1 σ0 f v2 (v3 + 1))
    else (
    X6_help_L14 F v1 σ0 f (v2 + 1) (v3 + 1))))))
def X6_help (F : Nat) (v1 : Int32) (σ0 : Mem) : Option (Int32) :=
  if (X6_isPerson v1 σ0) = 0 then (
  some ((-1)))
  else (
  X6_help_L14 F v1 σ0 F (0 : Int32) (0 : Int32))
def X6_reading (v1 : Int32) (v2 : Int32) (v3 : Int32) (σ0 : Mem) : Option (Int32 × Mem) :=
  if (X6_isPerson v1 σ0) = 0 then (
  some (((-1), σ0)))
  else (
  if v2 < 0 then (
  some (((-1), σ0)))
  else (
  if v2 < 6 then (
  Option.bind (X4_add v1 v2 v3 σ0) fun z_4 =>
  if z_4.1 = 0 then (
  some (((-4), z_4.2)))
  else (
  some (((z_4.2 3 3) - 1, z_4.2))))
  else (
  some (((-1), σ0)))))
def X6_back (v1 : Int32) (σ0 : Mem) : Int32 × Mem :=
  if v1 < 0 then (
  ((-2), σ0))
  else (
  if v1 ≤ (σ0 3 3) then (
  bnd (u2 σ0 3 3 ((σ0 3 3) - v1)) fun σ_3 =>
  (σ_3 3 3, σ_3))
  else (
  ((-2), σ0)))
def X6_refusalOfReadLoans (F : Nat) (v1 : Int32) (v2 : Int32) (v3 : Int32) (v4 : Int32) (v5 : Int32) (v6 : Int32) (σ0 : Mem) : Option (Int32 × Mem) :=
  bnd (u2 σ0 0 9 0) fun σ_1 =>
  if (X6_isPerson v1 σ_1) = 0 then (
  some (((-1), σ_1)))
  else (
  if (X6_isSheet v2) = 0 then (
  some (((-1), σ_1)))
  else (
  if (X6_isLane v3) = 0 then (
  some (((-2), σ_1)))
  else (
  if (X6_isLoanCount v5) = 0 then (
  some (((-2), σ_1)))
  else (
  if v6 < 0 then (
  some (((-2), σ_1)))
  else (
  if v6 ≤ 1 then (
  Option.bind (X6_takeRow F v2 v3 v4 v5 σ_1) fun z_9 =>
  some ((z_9.1, z_9.2)))
  else (
  some (((-2), σ_1))))))))
def X6_couldBe (F : Nat) (v1 : Int32) (v2 : Int32) (v3 : Int32) (v4 : Int32) (σ0 : Mem) : Option (Int32 × Mem) :=
  Option.bind (X0_begin F 28 (σ0 0 7) σ0) fun σ_1 =>
  Option.bind (X0_place 28 v1 v2 v3 σ_1) fun σ_3 =>
  Option.bind (X0_play F 28 v4 σ_3) fun z_5 =>
  if z_5.1 = ((-9)) then (
  Option.bind (X4_areSoIn F 28 z_5.2) fun z_8 =>
  if z_8 = 0 then (
  some ((0, z_5.2)))
  else (
  some ((1, z_5.2))))
  else (
  some ((0, z_5.2)))
def X6_told_L45 (F : Nat) (v1 : Int32) (v5 : Int32) (v6 : Int32) (v8 : Int32) (k77 : Int32 → Int32 → Mem → Option (Int32 × Mem)) : Nat → Int32 → Int32 → Int32 → Mem → Option (Int32 × Mem)
  | 0, _, _, _, _ => none
  | f + 1, v9, v10, v11, σ0 =>
    if v11 < 0 then (
    k77 v9 v10 σ0)
    else (
    Option.bind (X6_couldBe F v1 v11 v8 v5 σ0) fun z_8 =>
    if z_8.1 = 0 then (
    X6_told_L45 F v1 v5 v6 v8 k77 f v9 v10 (v11 + (-1)) z_8.2)
    else (
    X6_told_L45 F v1 v5 v6 v8 k77 f (v9 + 1) v11 (v11 + (-1)) z_8.2))
def X6_told (F : Nat) (v1 : Int32) (v2 : Int32) (v3 : Int32) (v4 : Int32) (v5 : Int32) (v6 : Int32) (σ0 : Mem) : Option (Int32 × Mem) :=
  Option.bind (X6_refusalOfReadLoans F v1 v2 v3 v4 v5 v6 σ0) fun z_1 =>
  if z_1.1 = 0 then (
  grd (inb v1 6) (
  bnd (X3_lasts (22 + v1.toNatClampNeg) z_1.2) fun v8_5 =>
  X6_told_L45 F v1 v5 v6 v8_5 (fun v9_11 v10_12 σ_13 =>
  if v6 = 0 then (
  some ((v9_11, σ_13)))
  else (
  some ((v10_12, σ_13)))) F (0 : Int32) (-9 : Int32) (63 : Int32) z_1.2))
  else (
  some ((z_1.1, z_1.2)))
def X6_kinds_L36 (F : Nat) (v1 : Int32) (v5 : Int32) (n7 : Nat) : Nat → Int32 → Int32 → Mem → Option (Int32 × Mem)
  | 0, _, _, _ => none
  | f + 1, v8, v9, σ0 =>
    if 3 ≤ v9 then (
    some ((v8, σ0)))
    else (
    Option.bind (X6_couldBe F v1 (σ0 n7 1) (X6_lastsOf v9 (σ0 n7 3)) v5 σ0) fun z_6 =>
    if z_6.1 = 0 then (
    X6_kinds_L36 F v1 v5 n7 f v8 (v9 + 1) z_6.2)
    else (
    bnd (v8 ||| ((1 : Int32) <<< (v9 &&& 31))) fun v8_9 =>
    X6_kinds_L36 F v1 v5 n7 f v8_9 (v9 + 1) z_6.2))
def X6_kinds (F : Nat) (v1 : Int32) (v2 : Int32) (v3 : Int32) (v4 : Int32) (v5 : Int32) (σ0 : Mem) : Option (Int32 × Mem) :=
  Option.bind (X6_refusalOfReadLoans F v1 v2 v3 v4 v5 (0 : Int32) σ0) fun z_1 =>
  if z_1.1 = 0 then (
  grd (inb v1 6) (
  X6_kinds_L36 F v1 v5 (22 + v1.toNatClampNeg) F (0 : Int32) (0 : Int32) z_1.2))
  else (
  some ((z_1.1, z_1.2)))
def X6_wears_L36 (F : Nat) (v1 : Int32) (v5 : Int32) (n7 : Nat) : Nat → Int32 → Int32 → Mem → Option (Int32 × Mem)
  | 0, _, _, _ => none
  | f + 1, v8, v9, σ0 =>
    if 9 < v9 then (
    some ((v8, σ0)))
    else (
    Option.bind (X6_couldBe F v1 (σ0 n7 1) (X6_lastsOf (σ0 n7 0) v9) v5 σ0) fun z_6 =>
    if z_6.1 = 0 then (
    X6_wears_L36 F v1 v5 n7 f v8 (v9 + 1) z_6.2)
    else (
    bnd (v8 ||| ((1 : Int32) <<< (v9 &&& 31))) fun v8_9 =>
    X6_wears_L36 F v1 v5 n7 f v8_9 (v9 + 1) z_6.2))
def X6_wears (F : Nat) (v1 : Int32) (v2 : Int32) (v3 : Int32) (v4 : Int32) (v5 : Int32) (σ0 : Mem) : Option (Int32 × Mem) :=
  Option.bind (X6_refusalOfReadLoans F v1 v2 v3 v4 v5 (0 : Int32) σ0) fun z_1 =>
  if z_1.1 = 0 then (
  grd (inb v1 6) (
  X6_wears_L36 F v1 v5 (22 + v1.toNatClampNeg) F (0 : Int32) (1 : Int32) z_1.2))
  else (
  some ((z_1.1, z_1.2)))
def X6_odds (F : Nat) (v1 : Int32) (v2 : Int32) (v3 : Int32) (v4 : Int32) (v5 : Int32) (v6 : Int32) (σ0 : Mem) : Option (Int64 × Mem) :=
  Option.bind (X6_refusalOfReadLoans F v1 v2 v3 v4 v5 v6 σ0) fun z_1 =>
  if z_1.1 = 0 then (
  Option.bind (X0_begin F 28 (z_1.2 0 7) z_1.2) fun σ_4 =>
  Option.bind (X0_play F 28 v5 σ_4) fun z_6 =>
  if z_6.1 = ((-9)) then (
  grd (inb v1 6) (
  if (z_6.2 (22 + v1.toNatClampNeg) 2) = 6 then (
  some ((1, z_6.2)))
  else (
  grd (inb v1 6) (
  Option.bind (X0_childhoodsThatShowed F 28 v1 (X3_wantedSet (22 + v1.toNatClampNeg) z_6.2) z_6.2) fun z_12 =>
  bnd ((1 : Int64) <<< (z_12.toInt64 &&& 63)) fun v7_14 =>
  if v6 = 0 then (
  some ((v7_14 - 1, z_6.2)))
  else (
  some ((v7_14, z_6.2)))))))
  else (
  some (((-9223372036854775808), z_6.2))))
  else (
  some (((-9223372036854775808), z_1.2)))
def X6_sheet (F : Nat) (v1 : Int32) (v2 : Int32) (v3 : Int32) (σ0 : Mem) : Option (Int32 × Mem) :=
  bnd (u2 σ0 0 9 0) fun σ_1 =>
  if (X6_isSheet v1) = 0 then (
  some (((-1), σ_1)))
  else (
  if (X6_isLane v2) = 0 then (
  some (((-2), σ_1)))
  else (
  if v3 ≤ 60 then (
  if 0 ≤ v3 then (
  grd (inb v1 4) (
  Option.bind (X5_renew F (14 + v1.toNatClampNeg) v2 v3 σ_1) fun σ_8 =>
  some ((1, σ_8))))
  else (
  bnd (X6_faultAnswer (4 : Int32) σ_1) fun z_10 =>
  some ((z_10.1, z_10.2))))
  else (
  some (((-2), σ_1)))))
def X6_lose (v1 : Int32) (σ0 : Mem) : Option (Int32 × Mem) :=
  if (X6_isSheet v1) = 0 then (
  some (((-1), σ0)))
  else (
  grd (inb v1 4) (
  if (σ0 (14 + v1.toNatClampNeg) 1) = 0 then (
  grd (inb v1 4) (
  bnd (u2 σ0 (14 + v1.toNatClampNeg) 1 0) fun σ_5 =>
  some ((0, σ_5))))
  else (
  grd (inb v1 4) (
  bnd (u2 σ0 (14 + v1.toNatClampNeg) 1 0) fun σ_8 =>
  some ((1, σ_8))))))
def X6_cutToLane (v0 : Int32) (v1 : Int32) : Int32 :=
  if v0 = 0 then (
  v1.toInt8.toInt32)
  else (
  if v0 = 1 then (
  v1.toInt16.toInt32)
  else (
  v1))
def X6_put (v1 : Int32) (v2 : Int32) (v3 : Int32) (σ0 : Mem) : Option (Int32 × Mem) :=
  bnd (u2 σ0 0 9 0) fun σ_1 =>
  if (X6_isSheet v1) = 0 then (
  some (((-1), σ_1)))
  else (
  grd (inb v1 4) (
  bnd (X5_faultOfCells (14 + v1.toNatClampNeg) (σ_1 (14 + v1.toNatClampNeg) 2) v2 (1 : Int32) σ_1) fun v5_5 =>
  if v5_5 = 0 then (
  grd (inb v2 60) (
  bnd (u2 σ_1 ((14 + v1.toNatClampNeg) + 4) v2.toNatClampNeg (X6_cutToLane (σ_1 (14 + v1.toNatClampNeg) 2) v3)) fun σ_9 =>
  some ((1, σ_9))))
  else (
  bnd (X6_faultAnswer v5_5 σ_1) fun z_11 =>
  some ((z_11.1, z_11.2)))))
def X6_cell (v1 : Int32) (v2 : Int32) (v3 : Int32) (σ0 : Mem) : Option (Int64 × Mem) :=
  bnd (u2 σ0 0 9 0) fun σ_1 =>
  if (X6_isSheet v1) = 0 then (
  some (((-9223372036854775808), σ_1)))
  else (
  if (X6_isLane v3) = 0 then (
  some (((-9223372036854775808), σ_1)))
  else (
  grd (inb v1 4) (
  bnd (u2 σ_1 0 9 (X5_faultOfCells (14 + v1.toNatClampNeg) v3 v2 (1 : Int32) σ_1)) fun σ_6 =>
  if (σ_6 0 9) = 0 then (
  grd (inb v1 4) (
  grd (inb v2 60) (
  some (((σ_6 ((14 + v1.toNatClampNeg) + 4) v2.toNatClampNeg).toInt64, σ_6)))))
  else (
  some (((-9223372036854775808), σ_6))))))
def X6_copy (v1 : Int32) (v2 : Int32) (v3 : Int32) (v4 : Int32) (v5 : Int32) (σ0 : Mem) : Option (Int32 × Mem) :=
  bnd (u2 σ0 0 9 0) fun σ_1 =>
  if (X6_isSheet v1) = 0 then (
  some (((-1), σ_1)))
  else (
  if (X6_isSheet v3) = 0 then (
  some (((-1), σ_1)))
  else (
  grd (inb v1 4) (
  grd (inb v3 4) (
  if (σ_1 (14 + v1.toNatClampNeg) 1) = 0 then (
  bnd (X6_faultAnswer (1 : Int32) σ_1) fun z_8 =>
  some ((z_8.1, z_8.2)))
  else (
  if (σ_1 (14 + v3.toNatClampNeg) 1) = 0 then (
  bnd (X6_faultAnswer (1 : Int32) σ_1) fun z_23 =>
  some ((z_23.1, z_23.2)))
  else (
  if (σ_1 (14 + v1.toNatClampNeg) 2) = (σ_1 (14 + v3.toNatClampNeg) 2) then (
  if (X5_hasCells (14 + v1.toNatClampNeg) v2 v5 σ_1) = 0 then (
  bnd (X6_faultAnswer (3 : Int32) σ_1) fun z_13 =>
  some ((z_13.1, z_13.2)))
  else (
  if (X5_hasCells (14 + v3.toNatClampNeg) v4 v5 σ_1) = 0 then (
  bnd (X6_faultAnswer (3 : Int32) σ_1) fun z_19 =>
  some ((z_19.1, z_19.2)))
  else (
  grd (cpOk v2 v4 v5 60 60) (
  bnd (u1 σ_1 ((14 + v3.toNatClampNeg) + 4) (va_cpy (σ_1 ((14 + v1.toNatClampNeg) + 4)) (σ_1 ((14 + v3.toNatClampNeg) + 4)) v2.toNatClampNeg v4.toNatClampNeg v5.toNatClampNeg)) fun σ_17 =>
  some ((v5, σ_17))))))
  else (
  bnd (X6_faultAnswer (2 : Int32) σ_1) fun z_21 =>
  some ((z_21.1, z_21.2)))))))))
def X6_leaveInTrace (v1 : Int32) (σ0 : Mem) : Mem :=
  bnd (u2 σ0 0 8 (((31 : Int32) * (σ0 0 8)) + v1)) fun σ_1 =>
  σ_1
def X6_tellingOfChildhood (n1 : Nat) (σ0 : Mem) : Int32 × Mem :=
  bnd (X6_leaveInTrace (1 : Int32) σ0) fun σ_1 =>
  (σ_1 n1 3, σ_1)
def X6_tellingOfSad (n1 : Nat) (σ0 : Mem) : Int32 × Mem :=
  bnd (X6_leaveInTrace (2 : Int32) σ0) fun σ_1 =>
  bnd (X6_tellingOfChildhood n1 σ_1) fun z_3 =>
  (z_3.1 + 100, z_3.2)
def X6_tellingOfTwin (n1 : Nat) (σ0 : Mem) : Int32 × Mem :=
  bnd (X6_leaveInTrace (3 : Int32) σ0) fun σ_1 =>
  bnd (X6_tellingOfSad n1 σ_1) fun z_3 =>
  bnd (X6_tellingOfChildhood n1 z_3.2) fun z_5 =>
  (z_3.1 + z_5.1, z_5.2)
def X6_tell (v1 : Int32) (σ0 : Mem) : Option (Int32 × Mem) :=
  if (X6_isPerson v1 σ0) = 0 then (
  some (((-1), σ0)))
  else (
  grd (inb v1 6) (
  if (σ0 (22 + v1.toNatClampNeg) 0) = 1 then (
  grd (inb v1 6) (
  bnd (X6_tellingOfSad (22 + v1.toNatClampNeg) σ0) fun z_6 =>
  some ((z_6.1, z_6.2))))
  else (
  if (σ0 (22 + v1.toNatClampNeg) 0) = 2 then (
  grd (inb v1 6) (
  bnd (X6_tellingOfTwin (22 + v1.toNatClampNeg) σ0) fun z_9 =>
  some ((z_9.1, z_9.2))))
  else (
  grd (inb v1 6) (
  bnd (X6_tellingOfChildhood (22 + v1.toNatClampNeg) σ0) fun z_12 =>
  some ((z_12.1, z_12.2)))))))
def X6_hand (v1 : Int32) (σ0 : Mem) : Option (Int32 × Mem) :=
  if (X6_isPerson v1 σ0) = 0 then (
  some (((-1), σ0)))
  else (
  grd (inb v1 6) (
  if (σ0 (22 + v1.toNatClampNeg) 0) = 2 then (
  bnd (X6_leaveInTrace (5 : Int32) σ0) fun σ_6 =>
  some ((40, σ_6)))
  else (
  bnd (X6_leaveInTrace (4 : Int32) σ0) fun σ_4 =>
  some ((v1, σ_4)))))
def X6_as (v1 : Int32) (v2 : Int32) (σ0 : Mem) : Option (Int32 × Mem) :=
  bnd (u2 σ0 0 9 0) fun σ_1 =>
  if (X6_isPerson v1 σ_1) = 0 then (
  some (((-1), σ_1)))
  else (
  if v2 < 0 then (
  some (((-2), σ_1)))
  else (
  if v2 < 3 then (
  grd (inb v1 6) (
  if (σ_1 (22 + v1.toNatClampNeg) 0) < v2 then (
  bnd (X6_faultAnswer (2 : Int32) σ_1) fun z_8 =>
  some ((z_8.1, z_8.2)))
  else (
  some ((1, σ_1)))))
  else (
  some (((-2), σ_1)))))
def X6_trace (σ0 : Mem) : Int32 :=
  σ0 0 8
def X6_fault (σ0 : Mem) : Int32 :=
  σ0 0 9
def X6_many (v1 : Int32) (σ0 : Mem) : Int32 :=
  if v1 = 0 then (
  σ0 0 7)
  else (
  if v1 = 1 then (
  σ0 3 3)
  else (
  (-2)))
def X7_in (v0 : Int64) (v2 : Int64) (v4 : Int64) : Int32 :=
  if (lg_cmp v0 v2) < 0 then (
  0)
  else (
  if 0 < (lg_cmp v0 v4) then (
  0)
  else (
  1))
def X7_lost : Int64 :=
  (-9223372036854775808)
def X7_isIn (v0 : Int32) (v1 : Int32) : Int32 :=
  if ((v0 >>> (v1 &&& 31)) &&& 1) = 1 then (
  1)
  else (
  0)
def X7_refused (v1 : Int32) (σ0 : Mem) : Int32 × Mem :=
  bnd (u2 σ0 0 0 0) fun σ_1 =>
  (v1, σ_1)
def X7_failed (v1 : Int32) (σ0 : Mem) : Int32 × Mem :=
  bnd (u2 σ0 0 0 v1) fun σ_1 =>
  ((-10 : Int32) - v1, σ_1)
def X7_failedLong (v1 : Int32) (σ0 : Mem) : Int64 × Mem :=
  bnd (u2 σ0 0 0 v1) fun σ_1 =>
  (X7_lost, σ_1)
def X7_noPerson (v1 : Int32) (σ0 : Mem) : Int32 :=
  if (X7_in v1.toInt64 (0 : Int64) (((σ0 0 1).toInt64) - 1)) = 0 then (
  1)
  else (
  0)
def X7_codeAt (v1 : Int32) (v2 : Int32) (σ0 : Mem) : Option (Int32) :=
  if v2 ≤ (σ0 0 6) then (
  some ((-9)))
  else (
  grd (inb (v1 + (σ0 0 6)) 240) (
  some (σ0 21 (v1 + (σ0 0 6)).toNatClampNeg)))
def X7_figure (v1 : Int32) (v2 : Int32) (v3 : Int32) (v4 : Int32) (σ0 : Mem) : Option (Int32 × Mem) :=
  Option.bind (X7_codeAt v1 v2 σ0) fun z_1 =>
  bnd (z_1 - 48) fun v5_3 =>
  bnd (X7_in v5_3.toInt64 v3.toInt64 v4.toInt64) fun v6_5 =>
  if v6_5 = 0 then (
  bnd (u2 σ0 0 6 ((σ0 0 6) + 0)) fun σ_8 =>
  if v6_5 = 0 then (
  some (((-9), σ_8)))
  else (
  some ((v5_3, σ_8))))
  else (
  bnd (u2 σ0 0 6 ((σ0 0 6) + 1)) fun σ_11 =>
  if v6_5 = 0 then (
  some (((-9), σ_11)))
  else (
  some ((v5_3, σ_11))))
def X7_readsPerson_J190 (v4 : Int32) (v5 : Int32) (v6 : Int32) (v7 : Int32) (w1 : Int32) (w2 : Int32) (σ0 : Mem) : Option (Int32 × Mem) :=
  grd (inb w1 6) (
  bnd (u2 σ0 5 w1.toNatClampNeg w2) fun σ_28 =>
  grd (inb (σ_28 0 7) 6) (
  bnd (u2 σ_28 6 ((σ_28 0 7).toNatClampNeg) (((10 : Int32) * v4) + v5)) fun σ_31 =>
  grd (inb (σ_31 0 7) 6) (
  bnd (u2 σ_31 7 ((σ_31 0 7).toNatClampNeg) v6) fun σ_34 =>
  grd (inb (σ_34 0 7) 6) (
  bnd (u2 σ_34 8 ((σ_34 0 7).toNatClampNeg) v7) fun σ_37 =>
  bnd (u2 σ_37 0 7 ((σ_37 0 7) + 1)) fun σ_39 =>
  some ((1, σ_39))))))
def X7_readsPerson_J59 (v1 : Int32) (v2 : Int32) (v3 : Int32) (σ0 : Mem) : Option (Int32 × Mem) :=
  bnd (u2 σ0 0 6 ((σ0 0 6) + 1)) fun σ_10 =>
  Option.bind (X7_figure v1 v2 (0 : Int32) (6 : Int32) σ_10) fun z_12 =>
  if 0 ≤ z_12.1 then (
  if z_12.1 = 6 then (
  Option.bind (X7_figure v1 v2 (0 : Int32) (3 : Int32) z_12.2) fun z_44 =>
  if 0 ≤ z_44.1 then (
  Option.bind (X7_figure v1 v2 (0 : Int32) (6 : Int32) z_44.2) fun z_47 =>
  if 0 ≤ z_47.1 then (
  Option.bind (X7_figure v1 v2 (1 : Int32) (9 : Int32) z_47.2) fun z_50 =>
  if 0 ≤ z_50.1 then (
  if v3 = 99 then (
  X7_readsPerson_J190 z_12.1 z_44.1 z_47.1 z_50.1 (z_50.2 0 7) (0 : Int32) z_50.2)
  else (
  if v3 = 115 then (
  X7_readsPerson_J190 z_12.1 z_44.1 z_47.1 z_50.1 (z_50.2 0 7) (1 : Int32) z_50.2)
  else (
  X7_readsPerson_J190 z_12.1 z_44.1 z_47.1 z_50.1 (z_50.2 0 7) (2 : Int32) z_50.2)))
  else (
  some ((0, z_50.2))))
  else (
  some ((0, z_47.2))))
  else (
  some ((0, z_44.2))))
  else (
  Option.bind (X7_figure v1 v2 (0 : Int32) (9 : Int32) z_12.2) fun z_16 =>
  if 0 ≤ z_16.1 then (
  Option.bind (X7_figure v1 v2 (0 : Int32) (6 : Int32) z_16.2) fun z_19 =>
  if 0 ≤ z_19.1 then (
  Option.bind (X7_figure v1 v2 (1 : Int32) (9 : Int32) z_19.2) fun z_22 =>
  if 0 ≤ z_22.1 then (
  if v3 = 99 then (
  X7_readsPerson_J190 z_12.1 z_16.1 z_19.1 z_22.1 (z_22.2 0 7) (0 : Int32) z_22.2)
  else (
  if v3 = 115 then (
  X7_readsPerson_J190 z_12.1 z_16.1 z_19.1 z_22.1 (z_22.2 0 7) (1 : Int32) z_22.2)
  else (
  X7_readsPerson_J190 z_12.1 z_16.1 z_19.1 z_22.1 (z_22.2 0 7) (2 : Int32) z_22.2)))
  else (
  some ((0, z_22.2))))
  else (
  some ((0, z_19.2))))
  else (
  some ((0, z_16.2)))))
  else (
  some ((0, z_12.2)))
def X7_readsPerson (v1 : Int32) (v2 : Int32) (σ0 : Mem) : Option (Int32 × Mem) :=
  if (σ0 0 7) = 6 then (
  some ((0, σ0)))
  else (
  Option.bind (X7_codeAt v1 v2 σ0) fun z_2 =>
  if z_2 = 59 then (
  bnd (u2 σ0 0 6 ((σ0 0 6) + 1)) fun σ_5 =>
  Option.bind (X7_codeAt v1 v2 σ_5) fun z_7 =>
  if z_7 = 99 then (
  X7_readsPerson_J59 v1 v2 z_7 σ_5)
  else (
  if z_7 = 115 then (
  X7_readsPerson_J59 v1 v2 z_7 σ_5)
  else (
  if z_7 = 116 then (
  X7_readsPerson_J59 v1 v2 z_7 σ_5)
  else (
  some ((0, σ_5))))))
  else (
  some ((0, σ0))))
def X7_readsCounter_L45 (F : Nat) (v1 : Int32) (v2 : Int32) : Nat → Int32 → Mem → Option (Int32 × Mem)
  | 0, _, _ => none
  | f + 1, v3, σ0 =>
    if v3 = 0 then (
    grd (isB v3) (
    some ((v3, σ0))))
    else (
    if (σ0 0 7) < 2 then (
    Option.bind (X7_readsPerson v1 v2 σ0) fun z_14 =>
    X7_readsCounter_L45 F v1 v2 f z_14.1 z_14.2)
    else (
    if v2 ≤ (σ0 0 6) then (
    grd (isB v3) (
    some ((v3, σ0))))
    else (
    Option.bind (X7_readsPerson v1 v2 σ0) fun z_18 =>
    X7_readsCounter_L45 F v1 v2 f z_18.1 z_18.2)))
def X7_readsCounter (F : Nat) (v1 : Int32) (v2 : Int32) (σ0 : Mem) : Option (Int32 × Mem) :=
  bnd (u2 σ0 0 6 0) fun σ_1 =>
  bnd (u2 σ_1 0 7 0) fun σ_3 =>
  Option.bind (X7_codeAt v1 v2 σ_3) fun z_5 =>
  if z_5 = 107 then (
  bnd (u2 σ_3 0 6 ((σ_3 0 6) + 1)) fun σ_21 =>
  X7_readsCounter_L45 F v1 v2 F (1 : Int32) σ_21)
  else (
  bnd (u2 σ_3 0 6 ((σ_3 0 6) + 0)) fun σ_9 =>
  X7_readsCounter_L45 F v1 v2 F (0 : Int32) σ_9)
def X7_isBeyond (v0 : Int32) (v1 : Int64) (v3 : Int32) : Int32 :=
  if v0 < 0 then (
  1)
  else (
  if (lg_cmp v1 0) < 0 then (
  1)
  else (
  if (lg_cmp (v0.toInt64 + v1) v3.toInt64) ≤ 0 then (
  0)
  else (
  1)))
def X7_cellsBarred_J25 (v1 : Int32) (v3 : Int32) (v4 : Int64) (σ0 : Mem) : Option (Int32 × Mem) :=
  grd (inb v1 4) (
  if 0 ≤ (σ0 19 v1.toNatClampNeg) then (
  if 0 ≤ (lg_cmp v4 0) then (
  grd (inb v1 4) (
  if (X7_isBeyond v3 v4 (σ0 19 v1.toNatClampNeg)) = 0 then (
  some ((0, σ0)))
  else (
  bnd (X7_failed (3 : Int32) σ0) fun z_8 =>
  some ((z_8.1, z_8.2)))))
  else (
  bnd (X7_failed (4 : Int32) σ0) fun z_10 =>
  some ((z_10.1, z_10.2))))
  else (
  bnd (X7_failed (1 : Int32) σ0) fun z_12 =>
  some ((z_12.1, z_12.2))))
def X7_cellsBarred (v1 : Int32) (v2 : Int32) (v3 : Int32) (v4 : Int64) (σ0 : Mem) : Option (Int32 × Mem) :=
  grd (inb v1 4) (
  if (σ0 19 v1.toNatClampNeg) < 0 then (
  X7_cellsBarred_J25 v1 v3 v4 σ0)
  else (
  grd (inb v1 4) (
  if (σ0 20 v1.toNatClampNeg) = v2 then (
  X7_cellsBarred_J25 v1 v3 v4 σ0)
  else (
  bnd (X7_failed (2 : Int32) σ0) fun z_16 =>
  some ((z_16.1, z_16.2))))))
def X7_noSheet (v0 : Int32) : Int32 :=
  if (X7_in v0.toInt64 (0 : Int64) (3 : Int64)) = 0 then (
  1)
  else (
  0)
def X7_counter_L90 (F : Nat)  (k161 : Mem → Option (Int32 × Mem)) : Nat → Int32 → Mem → Option (Int32 × Mem)
  | 0, _, _ => none
  | f + 1, v6, σ0 =>
    if (σ0 0 1) ≤ v6 then (
    k161 σ0)
    else (
    grd (inb v6 6) (
    grd (inb v6 6) (
    bnd (u2 σ0 1 v6.toNatClampNeg (σ0 5 v6.toNatClampNeg)) fun σ_14 =>
    grd (inb v6 6) (
    grd (inb v6 6) (
    bnd (u2 σ_14 2 v6.toNatClampNeg (σ_14 6 v6.toNatClampNeg)) fun σ_18 =>
    grd (inb v6 6) (
    grd (inb v6 6) (
    bnd (u2 σ_18 3 v6.toNatClampNeg (σ_18 7 v6.toNatClampNeg)) fun σ_22 =>
    grd (inb v6 6) (
    grd (inb v6 6) (
    bnd (u2 σ_22 4 v6.toNatClampNeg (σ_22 8 v6.toNatClampNeg)) fun σ_26 =>
    X7_counter_L90 F k161 f (v6 + 1) σ_26)))))))))
def X7_counter (F : Nat) (v1 : Int32) (v2 : Int32) (v3 : Int32) (v4 : Int32) (σ0 : Mem) : Option (Int32 × Mem) :=
  if (X7_noSheet v1) = 0 then (
  if (X7_in v2.toInt64 (0 : Int64) (2 : Int64)) = 0 then (
  bnd (X7_refused (-2 : Int32) σ0) fun z_35 =>
  some ((z_35.1, z_35.2)))
  else (
  Option.bind (X7_cellsBarred v1 v2 v3 v4.toInt64 σ0) fun z_3 =>
  if 0 ≤ z_3.1 then (
  Option.bind (X7_readsCounter F (((60 : Int32) * v1) + v3) v4 z_3.2) fun z_6 =>
  if z_6.1 = 0 then (
  bnd (X7_refused ((-100 : Int32) - (z_6.2 0 6)) z_6.2) fun z_33 =>
  some ((z_33.1, z_33.2)))
  else (
  bnd (u2 z_6.2 0 1 (z_6.2 0 7)) fun σ_9 =>
  X7_counter_L90 F (fun σ_28 =>
  bnd (u2 σ_28 0 21 0) fun σ_29 =>
  bnd (X7_refused (σ_29 0 1) σ_29) fun z_31 =>
  some ((z_31.1, z_31.2))) F (0 : Int32) σ_9))
  else (
  some ((z_3.1, z_3.2)))))
  else (
  bnd (X7_refused (-1 : Int32) σ0) fun z_37 =>
  some ((z_37.1, z_37.2)))
def X7_lastsOf (v1 : Int32) (σ0 : Mem) : Option (Int32) :=
  grd (inb v1 6) (
  bnd (σ0 4 v1.toNatClampNeg) fun v2_2 =>
  grd (inb v1 6) (
  if (σ0 1 v1.toNatClampNeg) = 0 then (
  some v2_2)
  else (
  grd (inb v1 6) (
  if (σ0 1 v1.toNatClampNeg) = 1 then (
  some (v2_2 + 1))
  else (
  some ((2 : Int32) * (v2_2 + 1)))))))
def X7_ofPerson (v1 : Int32) (v2 : Int32) (σ0 : Mem) : Option (Int32) :=
  if (X7_noPerson v1 σ0) = 0 then (
  if v2 = 0 then (
  grd (inb v1 6) (
  some (σ0 1 v1.toNatClampNeg)))
  else (
  if v2 = 1 then (
  grd (inb v1 6) (
  some (σ0 2 v1.toNatClampNeg)))
  else (
  if v2 = 2 then (
  grd (inb v1 6) (
  some (σ0 3 v1.toNatClampNeg)))
  else (
  if v2 = 3 then (
  grd (inb v1 6) (
  some (σ0 4 v1.toNatClampNeg)))
  else (
  if v2 = 4 then (
  Option.bind (X7_lastsOf v1 σ0) fun z_11 =>
  some z_11)
  else (
  some ((-2))))))))
  else (
  some ((-1)))
def X7_live (v1 : Int32) (v2 : Int32) (σ0 : Mem) : Option (Int32 × Mem) :=
  if (X7_noPerson v1 σ0) = 0 then (
  if (X7_in v2.toInt64 (0 : Int64) (63 : Int64)) = 0 then (
  some (((-2), σ0)))
  else (
  grd (inb v1 6) (
  bnd (σ0 2 v1.toNatClampNeg) fun v3_4 =>
  grd (inb v1 6) (
  bnd (u2 σ0 2 v1.toNatClampNeg v2) fun σ_7 =>
  some ((v3_4, σ_7))))))
  else (
  some (((-1), σ0)))
def X7_want (v1 : Int32) (v2 : Int32) (σ0 : Mem) : Option (Int32 × Mem) :=
  if (X7_noPerson v1 σ0) = 0 then (
  if (X7_in v2.toInt64 (0 : Int64) (6 : Int64)) = 0 then (
  some (((-2), σ0)))
  else (
  grd (inb v1 6) (
  bnd (σ0 3 v1.toNatClampNeg) fun v3_4 =>
  grd (inb v1 6) (
  bnd (u2 σ0 3 v1.toNatClampNeg v2) fun σ_7 =>
  some ((v3_4, σ_7))))))
  else (
  some (((-1), σ0)))
def X7_isMended (v1 : Int32) (σ0 : Mem) : Option (Int32) :=
  grd (inb v1 6) (
  if (σ0 3 v1.toNatClampNeg) = 6 then (
  some 1)
  else (
  grd (inb v1 6) (
  grd (inb v1 6) (
  if (X7_isIn (σ0 12 v1.toNatClampNeg) (σ0 3 v1.toNatClampNeg)) = 0 then (
  some 0)
  else (
  some 1)))))
def X7_mendedNow_L4 (F : Nat)  (σ0 : Mem) : Nat → Int32 → Int32 → Option (Int32)
  | 0, _, _ => none
  | f + 1, v1, v2 =>
    if (σ0 0 1) ≤ v2 then (
    some v1)
    else (
    Option.bind (X7_isMended v2 σ0) fun z_2 =>
    if z_2 = 0 then (
    bnd (v1 ||| 0) fun v1_5 =>
    X7_mendedNow_L4 F σ0 f v1_5 (v2 + 1))
    else (
    bnd (v1 ||| ((1 : Int32) <<< (v2 &&& 31))) fun v1_7 =>
    X7_mendedNow_L4 F σ0 f v1_7 (v2 + 1)))
def X7_mendedNow (F : Nat) (σ0 : Mem) : Option (Int32) :=
  X7_mendedNow_L4 F σ0 F (0 : Int32) (0 : Int32)
def X7_everybody (σ0 : Mem) : Int32 :=
  ((1 : Int32) <<< ((σ0 0 1) &&& 31)) - 1
def X7_sees (v1 : Int32) (σ0 : Mem) : Option (Mem) :=
  grd (inb v1 6) (
  bnd (σ0 9 v1.toNatClampNeg) fun v2_2 =>
  grd (inb v1 6) (
  grd (inb v2_2 6) (
  grd (inb v1 6) (
  bnd (u2 σ0 12 v1.toNatClampNeg ((σ0 12 v1.toNatClampNeg) ||| (σ0 10 v2_2.toNatClampNeg))) fun σ_7 =>
  grd (inb v1 6) (
  grd (inb v2_2 6) (
  grd (inb v1 6) (
  if (X7_isIn (σ_7 10 v2_2.toNatClampNeg) (σ_7 3 v1.toNatClampNeg)) = 0 then (
  grd (inb v1 6) (
  bnd (u2 σ_7 13 v1.toNatClampNeg ((σ_7 13 v1.toNatClampNeg) ||| 0)) fun σ_14 =>
  some σ_14))
  else (
  grd (inb v1 6) (
  bnd (u2 σ_7 13 v1.toNatClampNeg ((σ_7 13 v1.toNatClampNeg) ||| ((1 : Int32) <<< (v2_2 &&& 31)))) fun σ_17 =>
  some σ_17)))))))))
def X7_begin_L2 (F : Nat)  (k56 : Mem → Option (Mem)) : Nat → Int32 → Mem → Option (Mem)
  | 0, _, _ => none
  | f + 1, v1, σ0 =>
    if (σ0 0 1) ≤ v1 then (
    k56 σ0)
    else (
    grd (inb v1 6) (
    bnd (u2 σ0 9 v1.toNatClampNeg v1) fun σ_3 =>
    grd (inb v1 6) (
    grd (inb v1 6) (
    bnd (u2 σ_3 10 v1.toNatClampNeg (σ_3 2 v1.toNatClampNeg)) fun σ_7 =>
    grd (inb v1 6) (
    bnd (u2 σ_7 11 v1.toNatClampNeg 0) fun σ_10 =>
    grd (inb v1 6) (
    bnd (u2 σ_10 12 v1.toNatClampNeg 0) fun σ_13 =>
    grd (inb v1 6) (
    bnd (u2 σ_13 13 v1.toNatClampNeg 0) fun σ_16 =>
    X7_begin_L2 F k56 f (v1 + 1) σ_16)))))))
def X7_begin_L58 (F : Nat)  (k77 : Mem → Option (Mem)) : Nat → Int32 → Mem → Option (Mem)
  | 0, _, _ => none
  | f + 1, v1, σ0 =>
    if (σ0 0 1) ≤ v1 then (
    k77 σ0)
    else (
    Option.bind (X7_sees v1 σ0) fun σ_20 =>
    X7_begin_L58 F k77 f (v1 + 1) σ_20)
def X7_begin (F : Nat) (σ0 : Mem) : Option (Mem) :=
  X7_begin_L2 F (fun σ_18 =>
  X7_begin_L58 F (fun σ_22 =>
  bnd (u2 σ_22 0 17 ((-9))) fun σ_23 =>
  bnd (u2 σ_23 0 18 ((-9))) fun σ_25 =>
  some σ_25) F (0 : Int32) σ_18) F (0 : Int32) σ0
def X7_canLend (v1 : Int32) (v2 : Int32) (σ0 : Mem) : Option (Int32) :=
  if v1 = v2 then (
  some 0)
  else (
  grd (inb v1 6) (
  grd (inb (σ0 9 v1.toNatClampNeg) 6) (
  if (σ0 10 (σ0 9 v1.toNatClampNeg).toNatClampNeg) = 0 then (
  some 0)
  else (
  grd (inb v2 6) (
  grd (inb (σ0 9 v2.toNatClampNeg) 6) (
  if (σ0 10 (σ0 9 v2.toNatClampNeg).toNatClampNeg) = 0 then (
  some 0)
  else (
  some 1)))))))
def X7_wearsOff (v1 : Int32) (σ0 : Mem) : Option (Mem) :=
  grd (inb v1 6) (
  grd (inb v1 6) (
  bnd (u2 σ0 11 v1.toNatClampNeg ((σ0 11 v1.toNatClampNeg) + 1)) fun σ_3 =>
  grd (inb v1 6) (
  Option.bind (X7_lastsOf v1 σ_3) fun z_6 =>
  if (σ_3 11 v1.toNatClampNeg) ≤ z_6 then (
  some σ_3)
  else (
  grd (inb v1 6) (
  grd (inb v1 6) (
  grd (inb v1 6) (
  bnd (u2 σ_3 10 v1.toNatClampNeg ((σ_3 10 v1.toNatClampNeg) &&& ((σ_3 10 v1.toNatClampNeg) - 1))) fun σ_12 =>
  some σ_12)))))))
def X7_lend (v1 : Int32) (v2 : Int32) (σ0 : Mem) : Option (Mem) :=
  grd (inb v1 6) (
  bnd (σ0 9 v1.toNatClampNeg) fun v3_2 =>
  grd (inb v2 6) (
  grd (inb v1 6) (
  bnd (u2 σ0 9 v1.toNatClampNeg (σ0 9 v2.toNatClampNeg)) fun σ_6 =>
  grd (inb v2 6) (
  bnd (u2 σ_6 9 v2.toNatClampNeg v3_2) fun σ_9 =>
  grd (inb v1 6) (
  Option.bind (X7_wearsOff (σ_9 9 v1.toNatClampNeg) σ_9) fun σ_12 =>
  grd (inb v2 6) (
  Option.bind (X7_wearsOff (σ_12 9 v2.toNatClampNeg) σ_12) fun σ_15 =>
  Option.bind (X7_sees v1 σ_15) fun σ_17 =>
  Option.bind (X7_sees v2 σ_17) fun σ_19 =>
  some σ_19))))))
def X7_goLoans_L24 (F : Nat) (v1 : Int32) (v2 : Int32) (v3 : Int32) : Nat → Int32 → Mem → Option (Mem)
  | 0, _, _ => none
  | f + 1, v4, σ0 =>
    if v2 ≤ v4 then (
    some σ0)
    else (
    if 0 ≤ (σ0 0 17) then (
    some σ0)
    else (
    grd (inb (v1 + ((2 : Int32) * v4)) 240) (
    bnd (σ0 21 (v1 + ((2 : Int32) * v4)).toNatClampNeg) fun v5_9 =>
    grd (inb ((v1 + ((2 : Int32) * v4)) + 1) 240) (
    bnd (σ0 21 ((v1 + ((2 : Int32) * v4)) + 1).toNatClampNeg) fun v6_12 =>
    Option.bind (X7_canLend v5_9 v6_12 σ0) fun z_14 =>
    if z_14 = 0 then (
    bnd (u2 σ0 0 17 v4) fun σ_17 =>
    X7_goLoans_L24 F v1 v2 v3 f (v4 + 1) σ_17)
    else (
    Option.bind (X7_lend v5_9 v6_12 σ0) fun σ_19 =>
    if v3 = 0 then (
    if 0 ≤ (σ_19 0 18) then (
    bnd (u2 σ_19 0 18 (σ_19 0 18)) fun σ_25 =>
    X7_goLoans_L24 F v1 v2 v3 f (v4 + 1) σ_25)
    else (
    Option.bind (X7_mendedNow F σ_19) fun z_27 =>
    if z_27 = (X7_everybody σ_19) then (
    bnd (u2 σ_19 0 18 v4) fun σ_32 =>
    X7_goLoans_L24 F v1 v2 v3 f (v4 + 1) σ_32)
    else (
    bnd (u2 σ_19 0 18 (σ_19 0 18)) fun σ_30 =>
    X7_goLoans_L24 F v1 v2 v3 f (v4 + 1) σ_30)))
    else (
    bnd (u2 σ_19 0 18 (σ_19 0 18)) fun σ_22 =>
    X7_goLoans_L24 F v1 v2 v3 f (v4 + 1) σ_22))))))
def X7_goLoans (F : Nat) (v1 : Int32) (v2 : Int32) (σ0 : Mem) : Option (Mem) :=
  Option.bind (X7_begin F σ0) fun σ_1 =>
  Option.bind (X7_mendedNow F σ_1) fun z_3 =>
  if z_3 = (X7_everybody σ_1) then (
  X7_goLoans_L24 F v1 v2 (1 : Int32) F (0 : Int32) σ_1)
  else (
  X7_goLoans_L24 F v1 v2 (0 : Int32) F (0 : Int32) σ_1)
def X7_homeBy_L33 (F : Nat) (v2 : Int32) (v3 : Int32) (σ0 : Mem) (k61 : Int32 → Option (Int32)) : Nat → Int32 → Int32 → Option (Int32)
  | 0, _, _ => none
  | f + 1, v1, v4 =>
    if (X7_isIn v1 v4) = 0 then (
    bnd (v1 ||| ((1 : Int32) <<< (v4 &&& 31))) fun v1_6 =>
    grd (inb v4 6) (
    bnd (σ0 9 v4.toNatClampNeg) fun v4_9 =>
    X7_homeBy_L33 F v2 v3 σ0 k61 f v1_6 v4_9))
    else (
    k61 v1)
def X7_homeBy_L6 (F : Nat)  (σ0 : Mem) : Nat → Int32 → Int32 → Int32 → Option (Int32)
  | 0, _, _, _ => none
  | f + 1, v1, v2, v3 =>
    if (σ0 0 1) ≤ v3 then (
    some ((σ0 0 1) - v2))
    else (
    if (X7_isIn v1 v3) = 0 then (
    bnd (v2 + 1) fun v2_3 =>
    X7_homeBy_L33 F v2_3 v3 σ0 (fun v1_11 =>
    X7_homeBy_L6 F σ0 f v1_11 v2_3 (v3 + 1)) F v1 v3)
    else (
    bnd (v2 + 0) fun v2_12 =>
    X7_homeBy_L33 F v2_12 v3 σ0 (fun v1_14 =>
    X7_homeBy_L6 F σ0 f v1_14 v2_12 (v3 + 1)) F v1 v3))
def X7_homeBy (F : Nat) (σ0 : Mem) : Option (Int32) :=
  X7_homeBy_L6 F σ0 F (0 : Int32) (0 : Int32) (0 : Int32)
def X7_pairsBarred_L27 (F : Nat) (v1 : Int32) (v3 : Int32) (v4 : Int32) (σ0 : Mem) (k69 : Option (Int32 × Mem)) (k57 : Option (Int32 × Mem)) : Nat → Int32 → Option (Int32 × Mem)
  | 0, _ => none
  | f + 1, v6 =>
    if ((2 : Int32) * v4) ≤ v6 then (
    k69)
    else (
    grd (inb ((((60 : Int32) * v1) + v3) + v6) 240) (
    if (X7_noPerson (σ0 21 ((((60 : Int32) * v1) + v3) + v6).toNatClampNeg) σ0) = 0 then (
    X7_pairsBarred_L27 F v1 v3 v4 σ0 k69 k57 f (v6 + 1))
    else (
    k57)))
def X7_pairsBarred (F : Nat) (v1 : Int32) (v2 : Int32) (v3 : Int32) (v4 : Int32) (σ0 : Mem) : Option (Int32 × Mem) :=
  Option.bind (X7_cellsBarred v1 v2 v3 ((2 : Int64) * v4.toInt64) σ0) fun z_1 =>
  if 0 ≤ z_1.1 then (
  X7_pairsBarred_L27 F v1 v3 v4 z_1.2 (
  bnd (X7_refused (0 : Int32) z_1.2) fun z_7 =>
  some ((z_7.1, z_7.2))) (
  bnd (X7_refused (-1 : Int32) z_1.2) fun z_9 =>
  some ((z_9.1, z_9.2))) F (0 : Int32))
  else (
  some ((z_1.1, z_1.2)))
def X7_loans_J76 (F : Nat) (v1 : Int32) (v2 : Int32) (v3 : Int32) (v4 : Int32) (v5 : Int32) (w0 : Int32) (σ0 : Mem) : Option (Int32 × Mem) :=
  if (X7_in v2.toInt64 (0 : Int64) (2 : Int64)) = 0 then (
  bnd (X7_refused (-2 : Int32) σ0) fun z_4 =>
  some ((z_4.1, z_4.2)))
  else (
  if (X7_in v4.toInt64 (0 : Int64) (20 : Int64)) = 0 then (
  bnd (X7_refused (-2 : Int32) σ0) fun z_7 =>
  some ((z_7.1, z_7.2)))
  else (
  if w0 = 0 then (
  bnd (X7_refused (-2 : Int32) σ0) fun z_35 =>
  some ((z_35.1, z_35.2)))
  else (
  if (σ0 0 1) = 0 then (
  bnd (X7_refused (-3 : Int32) σ0) fun z_33 =>
  some ((z_33.1, z_33.2)))
  else (
  Option.bind (X7_pairsBarred F v1 v2 v3 v4 σ0) fun z_11 =>
  if 0 ≤ z_11.1 then (
  Option.bind (X7_goLoans F (((60 : Int32) * v1) + v3) v4 z_11.2) fun σ_14 =>
  if v5 = 1 then (
  some ((σ_14 0 17, σ_14)))
  else (
  if (σ_14 0 17) < 0 then (
  if v5 ≤ 9 then (
  if v5 = 0 then (
  Option.bind (X7_mendedNow F σ_14) fun z_23 =>
  some ((z_23, σ_14)))
  else (
  if v5 = 2 then (
  some ((σ_14 0 18, σ_14)))
  else (
  Option.bind (X7_homeBy F σ_14) fun z_21 =>
  some ((z_21, σ_14)))))
  else (
  bnd (v5 - v5 / 10 * 10) fun v8_25 =>
  if (X7_noPerson v8_25 σ_14) = 0 then (
  if 20 ≤ v5 then (
  if 30 ≤ v5 then (
  grd (inb v8_25 6) (
  some ((σ_14 10 v8_25.toNatClampNeg, σ_14))))
  else (
  grd (inb v8_25 6) (
  some ((σ_14 12 v8_25.toNatClampNeg, σ_14)))))
  else (
  grd (inb v8_25 6) (
  some ((σ_14 9 v8_25.toNatClampNeg, σ_14)))))
  else (
  some (((-9), σ_14)))))
  else (
  some (((-100 : Int32) - (σ_14 0 17), σ_14)))))
  else (
  some ((z_11.1, z_11.2)))))))
def X7_loans (F : Nat) (v1 : Int32) (v2 : Int32) (v3 : Int32) (v4 : Int32) (v5 : Int32) (σ0 : Mem) : Option (Int32 × Mem) :=
  if (X7_noSheet v1) = 0 then (
  if (X7_in v5.toInt64 (0 : Int64) (3 : Int64)) = 0 then (
  if (X7_in v5.toInt64 (10 : Int64) (15 : Int64)) = 0 then (
  if (X7_in v5.toInt64 (20 : Int64) (25 : Int64)) = 0 then (
  if (X7_in v5.toInt64 (30 : Int64) (35 : Int64)) = 0 then (
  X7_loans_J76 F v1 v2 v3 v4 v5 (0 : Int32) σ0)
  else (
  X7_loans_J76 F v1 v2 v3 v4 v5 (1 : Int32) σ0))
  else (
  X7_loans_J76 F v1 v2 v3 v4 v5 (1 : Int32) σ0))
  else (
  X7_loans_J76 F v1 v2 v3 v4 v5 (1 : Int32) σ0))
  else (
  X7_loans_J76 F v1 v2 v3 v4 v5 (1 : Int32) σ0))
  else (
  bnd (X7_refused (-1 : Int32) σ0) fun z_40 =>
  some ((z_40.1, z_40.2)))
def X7_isRow_L15 (F : Nat) (v2 : Int32) (v3 : Int32) (v5 : Int32) (k45 : Mem → Option (Int32 × Mem)) : Nat → Int32 → Int32 → Mem → Option (Int32 × Mem)
  | 0, _, _, _ => none
  | f + 1, v4, v6, σ0 =>
    if v6 < 0 then (
    k45 σ0)
    else (
    grd (inb v6 3) (
    bnd (u2 σ0 14 v6.toNatClampNeg (v4 - v4 / 36 * 36)) fun σ_7 =>
    bnd (v4 / 36) fun v4_9 =>
    X7_isRow_L15 F v2 v3 v5 k45 f v4_9 (v6 + (-1)) σ_7))
def X7_isRow_L48 (F : Nat) (v2 : Int32) (v3 : Int32) (k136 : Int32 → Mem → Option (Int32 × Mem)) : Nat → Int32 → Int32 → Mem → Option (Int32 × Mem)
  | 0, _, _, _ => none
  | f + 1, v5, v6, σ0 =>
    if v2 ≤ v6 then (
    k136 v5 σ0)
    else (
    if v5 = 0 then (
    k136 v5 σ0)
    else (
    grd (inb v6 3) (
    bnd ((σ0 14 v6.toNatClampNeg) / 6) fun v7_15 =>
    grd (inb v6 3) (
    bnd ((σ0 14 v6.toNatClampNeg) - (σ0 14 v6.toNatClampNeg) / 6 * 6) fun v8_18 =>
    if v8_18 ≤ v7_15 then (
    X7_isRow_L48 F v2 v3 k136 f (0 : Int32) (v6 + 1) σ0)
    else (
    if (σ0 0 1) ≤ v8_18 then (
    X7_isRow_L48 F v2 v3 k136 f (0 : Int32) (v6 + 1) σ0)
    else (
    Option.bind (X7_canLend v7_15 v8_18 σ0) fun z_24 =>
    if z_24 = 0 then (
    X7_isRow_L48 F v2 v3 k136 f (0 : Int32) (v6 + 1) σ0)
    else (
    Option.bind (X7_lend v7_15 v8_18 σ0) fun σ_29 =>
    X7_isRow_L48 F v2 v3 k136 f (1 : Int32) (v6 + 1) σ_29)))))))
def X7_isRow (F : Nat) (v1 : Int32) (v2 : Int32) (v3 : Int32) (σ0 : Mem) : Option (Int32 × Mem) :=
  Option.bind (X7_begin F σ0) fun σ_1 =>
  bnd (v2 - 1) fun v6_3 =>
  X7_isRow_L15 F v2 v3 (1 : Int32) (fun σ_11 =>
  X7_isRow_L48 F v2 v3 (fun v5_31 σ_32 =>
  if v5_31 = 0 then (
  some ((0, σ_32)))
  else (
  Option.bind (X7_mendedNow F σ_32) fun z_34 =>
  if (v3 &&& (z_34 ^^^ ((-1)))) = 0 then (
  some ((1, σ_32)))
  else (
  some ((0, σ_32))))) F (1 : Int32) (0 : Int32) σ_11) F v1 v6_3 σ_1
def X7_fewest_L55 (F : Nat) (v1 : Int32) (v2 : Int32) (v3 : Int32) (v4 : Int32) (k122 : Mem → Option (Int32 × Mem)) (k73 : Mem → Option (Int32 × Mem)) : Nat → Int32 → Mem → Option (Int32 × Mem)
  | 0, _, _ => none
  | f + 1, v5, σ0 =>
    if v3 ≤ v5 then (
    k122 σ0)
    else (
    Option.bind (X7_isRow F v5 v4 v1 σ0) fun z_6 =>
    if z_6.1 = 0 then (
    X7_fewest_L55 F v1 v2 v3 v4 k122 k73 f (v5 + 1) z_6.2)
    else (
    k73 z_6.2))
def X7_fewest_L46 (F : Nat) (v1 : Int32) (v2 : Int32) (k73 : Int32 → Mem → Option (Int32 × Mem)) : Nat → Int32 → Int32 → Mem → Option (Int32 × Mem)
  | 0, _, _, _ => none
  | f + 1, v3, v4, σ0 =>
    if 4 ≤ v4 then (
    some (((-9), σ0)))
    else (
    X7_fewest_L55 F v1 v2 v3 v4 (fun σ_9 =>
    bnd (v3 * 36) fun v3_10 =>
    X7_fewest_L46 F v1 v2 k73 f v3_10 (v4 + 1) σ_9) (fun σ_12 =>
    k73 v4 σ_12) F (0 : Int32) σ0)
def X7_fewest (F : Nat) (v1 : Int32) (v2 : Int32) (σ0 : Mem) : Option (Int32 × Mem) :=
  if (σ0 0 1) = 0 then (
  some (((-3), σ0)))
  else (
  if (X7_in v1.toInt64 (0 : Int64) ((X7_everybody σ0).toInt64)) = 0 then (
  some (((-2), σ0)))
  else (
  if (X7_in v2.toInt64 (-1 : Int64) (2 : Int64)) = 0 then (
  some (((-2), σ0)))
  else (
  X7_fewest_L46 F v1 v2 (fun v4_13 σ_14 =>
  if 0 ≤ v2 then (
  if v4_13 ≤ v2 then (
  some (((-9), σ_14)))
  else (
  grd (inb v2 3) (
  grd (inb v2 3) (
  some ((((10 : Int32) * ((σ_14 14 v2.toNatClampNeg) / 6)) + ((σ_14 14 v2.toNatClampNeg) - (σ_14 14 v2.toNatClampNeg) / 6 * 6), σ_14))))))
  else (
  some ((v4_13, σ_14)))) F (1 : Int32) (0 : Int32) σ0)))
def X7_matchBy_J80 (F : Nat) (kh : Int32 → Int32 → Int32 → Int32 → Mem → Option (Int32 × Mem)) (v2 : Int32) (v3 : Int32) (v4 : Int32) (v5 : Int32) (v6 : Int32) (w0 : Int32) (σ0 : Mem) : Option (Int32 × Mem) :=
  if w0 = 0 then (
  bnd (v4 + 0) fun v4_13 =>
  bnd (v3 ||| ((1 : Int32) <<< (v6 &&& 31))) fun v3_15 =>
  grd (inb v5 6) (
  bnd (u2 σ0 15 v5.toNatClampNeg v6) fun σ_18 =>
  kh v2 v3_15 v4_13 (v5 + (-1)) σ_18))
  else (
  bnd (v4 + 1) fun v4_20 =>
  bnd (v3 ||| ((1 : Int32) <<< (v6 &&& 31))) fun v3_22 =>
  grd (inb v5 6) (
  bnd (u2 σ0 15 v5.toNatClampNeg v6) fun σ_25 =>
  kh v2 v3_22 v4_20 (v5 + (-1)) σ_25))
def X7_matchBy_L15 (F : Nat)  (k119 : Int32 → Int32 → Mem → Option (Int32 × Mem)) : Nat → Int32 → Int32 → Int32 → Int32 → Mem → Option (Int32 × Mem)
  | 0, _, _, _, _, _ => none
  | f + 1, v2, v3, v4, v5, σ0 =>
    if v5 < 0 then (
    k119 v3 v4 σ0)
    else (
    grd (nz (σ0 0 1)) (
    bnd (v2 - v2 / (σ0 0 1) * (σ0 0 1)) fun v6_5 =>
    grd (nz (σ0 0 1)) (
    bnd (v2 / (σ0 0 1)) fun v2_8 =>
    grd (inb v5 6) (
    if (σ0 3 v5.toNatClampNeg) = 6 then (
    X7_matchBy_J80 F (X7_matchBy_L15 F k119 f) v2_8 v3 v4 v5 v6_5 (1 : Int32) σ0)
    else (
    grd (inb v5 6) (
    grd (inb v6_5 6) (
    grd (inb v5 6) (
    if (X7_isIn ((σ0 2 v5.toNatClampNeg) ||| (σ0 2 v6_5.toNatClampNeg)) (σ0 3 v5.toNatClampNeg)) = 0 then (
    X7_matchBy_J80 F (X7_matchBy_L15 F k119 f) v2_8 v3 v4 v5 v6_5 (0 : Int32) σ0)
    else (
    X7_matchBy_J80 F (X7_matchBy_L15 F k119 f) v2_8 v3 v4 v5 v6_5 (1 : Int32) σ0)))))))))
def X7_matchBy (F : Nat) (v1 : Int32) (σ0 : Mem) : Option (Int32 × Mem) :=
  bnd ((σ0 0 1) - 1) fun v5_1 =>
  X7_matchBy_L15 F (fun v3_31 v4_32 σ_33 =>
  if v3_31 = (X7_everybody σ_33) then (
  some ((v4_32, σ_33)))
  else (
  some (((-9), σ_33)))) F v1 (0 : Int32) (0 : Int32) v5_1 σ0
def X7_match_L21 (F : Nat) (v1 : Int32) (σ0 : Mem) (k42 : Int32 → Option (Int32 × Mem)) : Nat → Int32 → Int32 → Option (Int32 × Mem)
  | 0, _, _ => none
  | f + 1, v2, v3 =>
    if (σ0 0 1) ≤ v3 then (
    k42 v2)
    else (
    bnd (v2 * (σ0 0 1)) fun v2_4 =>
    X7_match_L21 F v1 σ0 k42 f v2_4 (v3 + 1))
def X7_match_L50 (F : Nat) (v1 : Int32) (v2 : Int32) (k100 : Int32 → Int32 → Mem → Option (Int32 × Mem)) : Nat → Int32 → Int32 → Int32 → Mem → Option (Int32 × Mem)
  | 0, _, _, _, _ => none
  | f + 1, v3, v4, v5, σ0 =>
    if v2 ≤ v5 then (
    k100 v3 v4 σ0)
    else (
    Option.bind (X7_matchBy F v5 σ0) fun z_8 =>
    if z_8.1 ≤ v4 then (
    if z_8.1 ≤ v4 then (
    X7_match_L50 F v1 v2 k100 f v3 v4 (v5 + 1) z_8.2)
    else (
    X7_match_L50 F v1 v2 k100 f v3 z_8.1 (v5 + 1) z_8.2))
    else (
    if z_8.1 ≤ v4 then (
    X7_match_L50 F v1 v2 k100 f v5 v4 (v5 + 1) z_8.2)
    else (
    X7_match_L50 F v1 v2 k100 f v5 z_8.1 (v5 + 1) z_8.2)))
def X7_match (F : Nat) (v1 : Int32) (σ0 : Mem) : Option (Int32 × Mem) :=
  if ((-1)) ≤ v1 then (
  if (σ0 0 1) = 0 then (
  some (((-3), σ0)))
  else (
  X7_match_L21 F v1 σ0 (fun v2_6 =>
  X7_match_L50 F v1 v2_6 (fun v3_13 v4_14 σ_15 =>
  Option.bind (X7_matchBy F v3_13 σ_15) fun z_16 =>
  if 0 ≤ v1 then (
  if (X7_noPerson v1 z_16.2) = 0 then (
  grd (inb v1 6) (
  some ((z_16.2 15 v1.toNatClampNeg, z_16.2))))
  else (
  some (((-9), z_16.2))))
  else (
  some ((v4_14, z_16.2)))) F (0 : Int32) (-1 : Int32) (0 : Int32) σ0) F (1 : Int32) (0 : Int32)))
  else (
  some (((-1), σ0)))
def X7_help_L14 (F : Nat) (v1 : Int32) (σ0 : Mem) : Nat → Int32 → Int32 → Option (Int32)
  | 0, _, _ => none
  | f + 1, v2, v3 =>
    if (σ0 0 1) ≤ v3 then (
    some v2)
    else (
    grd (inb v3 6) (
    bnd (σ0 3 v3.toNatClampNeg) fun v4_4 =>
    if 6 ≤ v4_4 then (
    bnd (v2 + 0) fun v2_7 =>
    X7_help_L14 F v1 σ0 f v2_7 (v3 + 1))
    else (
    grd (inb v1 6) (
    if (X7_isIn (σ0 2 v1.toNatClampNeg) v4_4) = 0 then (
    bnd (v2 + 0) fun v2_11 =>
    X7_help_L14 F v1 σ0 f v2_11 (v3 + 1))
    else (
    grd (inb v3 6) (
    if (X7_isIn (σ0 2 v3.toNatClampNeg) v4_4) = 0 then (
    bnd (v2 + 1) fun v2_17 =>
    X7_help_L14 F v1 σ0 f v2_17 (v3 + 1))
    else (
    bnd (v2 + 0) fun v2_15 =>
    X7_help_L14 F v1 σ0 f v2_15 (v3 + 1))))))))
def X7_help (F : Nat) (v1 : Int32) (σ0 : Mem) : Option (Int32) :=
  if (X7_noPerson v1 σ0) = 0 then (
  X7_help_L14 F v1 σ0 F (0 : Int32) (0 : Int32))
  else (
  some ((-1)))
def X7_reading (v1 : Int32) (v2 : Int32) (v3 : Int32) (σ0 : Mem) : Option (Int32 × Mem) :=
  if (X7_noPerson v1 σ0) = 0 then (
  if (X7_in v2.toInt64 (0 : Int64) (5 : Int64)) = 0 then (
  some (((-1), σ0)))
  else (
  if (σ0 0 21) = 8 then (
  some (((-4), σ0)))
  else (
  grd (inb (σ0 0 21) 8) (
  bnd (u2 σ0 16 ((σ0 0 21).toNatClampNeg) v1) fun σ_5 =>
  grd (inb (σ_5 0 21) 8) (
  bnd (u2 σ_5 17 ((σ_5 0 21).toNatClampNeg) v2) fun σ_8 =>
  grd (inb (σ_8 0 21) 8) (
  bnd (u2 σ_8 18 ((σ_8 0 21).toNatClampNeg) (vp_nar .boolean v3)) fun σ_11 =>
  bnd (u2 σ_11 0 21 ((σ_11 0 21) + 1)) fun σ_13 =>
  some (((σ_13 0 21) - 1, σ_13))))))))
  else (
  some (((-1), σ0)))
def X7_back (v1 : Int32) (σ0 : Mem) : Int32 × Mem :=
  if (X7_in v1.toInt64 (0 : Int64) ((σ0 0 21).toInt64)) = 0 then (
  ((-2), σ0))
  else (
  bnd (u2 σ0 0 21 ((σ0 0 21) - v1)) fun σ_2 =>
  (σ_2 0 21, σ_2))
def X7_areSo_L22 (F : Nat)  (σ0 : Mem) : Nat → Int32 → Int32 → Option (Int32 × Mem)
  | 0, _, _ => none
  | f + 1, v3, v4 =>
    if (σ0 0 21) ≤ v4 then (
    grd (isB v3) (
    some ((v3, σ0))))
    else (
    if v3 = 0 then (
    X7_areSo_L22 F σ0 f (0 : Int32) (v4 + 1))
    else (
    grd (inb v4 8) (
    grd (inb (σ0 16 v4.toNatClampNeg) 6) (
    grd (inb v4 8) (
    grd (inb v4 8) (
    if (X7_isIn (σ0 12 (σ0 16 v4.toNatClampNeg).toNatClampNeg) (σ0 17 v4.toNatClampNeg)) = (σ0 18 v4.toNatClampNeg) then (
    X7_areSo_L22 F σ0 f (1 : Int32) (v4 + 1))
    else (
    X7_areSo_L22 F σ0 f (0 : Int32) (v4 + 1))))))))
def X7_areSo (F : Nat) (v1 : Int32) (v2 : Int32) (σ0 : Mem) : Option (Int32 × Mem) :=
  Option.bind (X7_goLoans F v1 v2 σ0) fun σ_1 =>
  if 0 ≤ (σ_1 0 17) then (
  X7_areSo_L22 F σ_1 F (0 : Int32) (0 : Int32))
  else (
  X7_areSo_L22 F σ_1 F (1 : Int32) (0 : Int32))
def X7_seenBarred (F : Nat) (v1 : Int32) (v2 : Int32) (v3 : Int32) (v4 : Int32) (v5 : Int32) (v6 : Int32) (σ0 : Mem) : Option (Int32 × Mem) :=
  if (X7_noPerson v1 σ0) = 0 then (
  if (X7_noSheet v2) = 0 then (
  if (X7_in v3.toInt64 (0 : Int64) (2 : Int64)) = 0 then (
  bnd (X7_refused (-2 : Int32) σ0) fun z_6 =>
  some ((z_6.1, z_6.2)))
  else (
  if (X7_in v5.toInt64 (0 : Int64) (20 : Int64)) = 0 then (
  bnd (X7_refused (-2 : Int32) σ0) fun z_9 =>
  some ((z_9.1, z_9.2)))
  else (
  if v6 = 0 then (
  bnd (X7_refused (-2 : Int32) σ0) fun z_14 =>
  some ((z_14.1, z_14.2)))
  else (
  Option.bind (X7_pairsBarred F v2 v3 v4 v5 σ0) fun z_12 =>
  some ((z_12.1, z_12.2))))))
  else (
  bnd (X7_refused (-1 : Int32) σ0) fun z_16 =>
  some ((z_16.1, z_16.2))))
  else (
  bnd (X7_refused (-1 : Int32) σ0) fun z_2 =>
  some ((z_2.1, z_2.2)))
def X7_told_L47 (F : Nat) (v1 : Int32) (v2 : Int32) (v4 : Int32) (v5 : Int32) (v6 : Int32) (v8 : Int32) (k101 : Int32 → Int32 → Mem → Option (Int32 × Mem)) : Nat → Int32 → Int32 → Int32 → Mem → Option (Int32 × Mem)
  | 0, _, _, _, _ => none
  | f + 1, v9, v10, v11, σ0 =>
    if 64 ≤ v11 then (
    k101 v9 v10 σ0)
    else (
    grd (inb v1 6) (
    bnd (u2 σ0 2 v1.toNatClampNeg v11) fun σ_9 =>
    Option.bind (X7_areSo F (((60 : Int32) * v2) + v4) v5 σ_9) fun z_11 =>
    if z_11.1 = 0 then (
    X7_told_L47 F v1 v2 v4 v5 v6 v8 k101 f v9 v10 (v11 + 1) z_11.2)
    else (
    if 0 ≤ v10 then (
    X7_told_L47 F v1 v2 v4 v5 v6 v8 k101 f (v9 + 1) v10 (v11 + 1) z_11.2)
    else (
    X7_told_L47 F v1 v2 v4 v5 v6 v8 k101 f (v9 + 1) v11 (v11 + 1) z_11.2))))
def X7_told (F : Nat) (v1 : Int32) (v2 : Int32) (v3 : Int32) (v4 : Int32) (v5 : Int32) (v6 : Int32) (σ0 : Mem) : Option (Int32 × Mem) :=
  Option.bind (X7_seenBarred F v1 v2 v3 v4 v5 (X7_in v6.toInt64 (0 : Int64) (1 : Int64)) σ0) fun z_1 =>
  if 0 ≤ z_1.1 then (
  grd (inb v1 6) (
  bnd (z_1.2 2 v1.toNatClampNeg) fun v8_5 =>
  X7_told_L47 F v1 v2 v4 v5 v6 v8_5 (fun v9_15 v10_16 σ_17 =>
  grd (inb v1 6) (
  bnd (u2 σ_17 2 v1.toNatClampNeg v8_5) fun σ_19 =>
  if v6 = 0 then (
  some ((v9_15, σ_19)))
  else (
  some ((v10_16, σ_19))))) F (0 : Int32) (-9 : Int32) (0 : Int32) z_1.2))
  else (
  some ((z_1.1, z_1.2)))
def X7_kinds_L36 (F : Nat) (v1 : Int32) (v2 : Int32) (v4 : Int32) (v5 : Int32) (v7 : Int32) (k85 : Int32 → Mem → Option (Int32 × Mem)) : Nat → Int32 → Int32 → Mem → Option (Int32 × Mem)
  | 0, _, _, _ => none
  | f + 1, v8, v9, σ0 =>
    if 3 ≤ v9 then (
    k85 v8 σ0)
    else (
    grd (inb v1 6) (
    bnd (u2 σ0 1 v1.toNatClampNeg v9) fun σ_9 =>
    Option.bind (X7_areSo F (((60 : Int32) * v2) + v4) v5 σ_9) fun z_11 =>
    if z_11.1 = 0 then (
    bnd (v8 ||| 0) fun v8_14 =>
    X7_kinds_L36 F v1 v2 v4 v5 v7 k85 f v8_14 (v9 + 1) z_11.2)
    else (
    bnd (v8 ||| ((1 : Int32) <<< (v9 &&& 31))) fun v8_16 =>
    X7_kinds_L36 F v1 v2 v4 v5 v7 k85 f v8_16 (v9 + 1) z_11.2)))
def X7_kinds (F : Nat) (v1 : Int32) (v2 : Int32) (v3 : Int32) (v4 : Int32) (v5 : Int32) (σ0 : Mem) : Option (Int32 × Mem) :=
  Option.bind (X7_seenBarred F v1 v2 v3 v4 v5 (1 : Int32) σ0) fun z_1 =>
  if 0 ≤ z_1.1 then (
  grd (inb v1 6) (
  bnd (z_1.2 1 v1.toNatClampNeg) fun v7_5 =>
  X7_kinds_L36 F v1 v2 v4 v5 v7_5 (fun v8_18 σ_19 =>
  grd (inb v1 6) (
  bnd (u2 σ_19 1 v1.toNatClampNeg v7_5) fun σ_21 =>
  some ((v8_18, σ_21)))) F (0 : Int32) (0 : Int32) z_1.2))
  else (
  some ((z_1.1, z_1.2)))
def X7_wears_L36 (F : Nat) (v1 : Int32) (v2 : Int32) (v4 : Int32) (v5 : Int32) (v7 : Int32) (k86 : Int32 → Mem → Option (Int32 × Mem)) : Nat → Int32 → Int32 → Mem → Option (Int32 × Mem)
  | 0, _, _, _ => none
  | f + 1, v8, v9, σ0 =>
    if 10 ≤ v9 then (
    k86 v8 σ0)
    else (
    grd (inb v1 6) (
    bnd (u2 σ0 4 v1.toNatClampNeg v9) fun σ_9 =>
    Option.bind (X7_areSo F (((60 : Int32) * v2) + v4) v5 σ_9) fun z_11 =>
    if z_11.1 = 0 then (
    bnd (v8 ||| 0) fun v8_14 =>
    X7_wears_L36 F v1 v2 v4 v5 v7 k86 f v8_14 (v9 + 1) z_11.2)
    else (
    bnd (v8 ||| ((1 : Int32) <<< (v9 &&& 31))) fun v8_16 =>
    X7_wears_L36 F v1 v2 v4 v5 v7 k86 f v8_16 (v9 + 1) z_11.2)))
def X7_wears (F : Nat) (v1 : Int32) (v2 : Int32) (v3 : Int32) (v4 : Int32) (v5 : Int32) (σ0 : Mem) : Option (Int32 × Mem) :=
  Option.bind (X7_seenBarred F v1 v2 v3 v4 v5 (1 : Int32) σ0) fun z_1 =>
  if 0 ≤ z_1.1 then (
  grd (inb v1 6) (
  bnd (z_1.2 4 v1.toNatClampNeg) fun v7_5 =>
  X7_wears_L36 F v1 v2 v4 v5 v7_5 (fun v8_18 σ_19 =>
  grd (inb v1 6) (
  bnd (u2 σ_19 4 v1.toNatClampNeg v7_5) fun σ_21 =>
  some ((v8_18, σ_21)))) F (0 : Int32) (1 : Int32) z_1.2))
  else (
  some ((z_1.1, z_1.2)))
def X7_odds_L69 (F : Nat) (v1 : Int32) (v6 : Int32) (σ0 : Mem) (k108 : Int32 → Option (Int64 × Mem)) : Nat → Int32 → Int32 → Option (Int64 × Mem)
  | 0, _, _ => none
  | f + 1, v7, v8 =>
    if (σ0 0 1) ≤ v8 then (
    k108 v7)
    else (
    grd (inb v1 6) (
    if (X7_isIn (σ0 13 v1.toNatClampNeg) v8) = 0 then (
    bnd (v7 + 0) fun v7_12 =>
    X7_odds_L69 F v1 v6 σ0 k108 f v7_12 (v8 + 1))
    else (
    bnd (v7 + 1) fun v7_14 =>
    X7_odds_L69 F v1 v6 σ0 k108 f v7_14 (v8 + 1))))
def X7_odds (F : Nat) (v1 : Int32) (v2 : Int32) (v3 : Int32) (v4 : Int32) (v5 : Int32) (v6 : Int32) (σ0 : Mem) : Option (Int64 × Mem) :=
  Option.bind (X7_seenBarred F v1 v2 v3 v4 v5 (X7_in v6.toInt64 (0 : Int64) (1 : Int64)) σ0) fun z_1 =>
  if 0 ≤ z_1.1 then (
  Option.bind (X7_goLoans F (((60 : Int32) * v2) + v4) v5 z_1.2) fun σ_4 =>
  if (σ_4 0 17) < 0 then (
  grd (inb v1 6) (
  if (σ_4 3 v1.toNatClampNeg) = 6 then (
  some ((1, σ_4)))
  else (
  X7_odds_L69 F v1 v6 σ_4 (fun v7_16 =>
  if v6 = 0 then (
  some ((((1 : Int64) <<< (v7_16.toInt64 &&& 63)) - 1, σ_4)))
  else (
  some (((1 : Int64) <<< (v7_16.toInt64 &&& 63), σ_4)))) F (0 : Int32) (0 : Int32))))
  else (
  some ((X7_lost, σ_4))))
  else (
  some ((X7_lost, z_1.2)))
def X7_sheet_L65 (F : Nat) (v1 : Int32) (v3 : Int32) (k90 : Mem → Option (Int32 × Mem)) : Nat → Int32 → Mem → Option (Int32 × Mem)
  | 0, _, _ => none
  | f + 1, v4, σ0 =>
    if v3 ≤ v4 then (
    k90 σ0)
    else (
    grd (inb (((60 : Int32) * v1) + v4) 240) (
    bnd (u2 σ0 21 ((((60 : Int32) * v1) + v4).toNatClampNeg) 0) fun σ_15 =>
    X7_sheet_L65 F v1 v3 k90 f (v4 + 1) σ_15))
def X7_sheet (F : Nat) (v1 : Int32) (v2 : Int32) (v3 : Int32) (σ0 : Mem) : Option (Int32 × Mem) :=
  if (X7_noSheet v1) = 0 then (
  if (X7_in v2.toInt64 (0 : Int64) (2 : Int64)) = 0 then (
  bnd (X7_refused (-2 : Int32) σ0) fun z_3 =>
  some ((z_3.1, z_3.2)))
  else (
  if v3 ≤ 60 then (
  if 0 ≤ v3 then (
  grd (inb v1 4) (
  bnd (u2 σ0 19 v1.toNatClampNeg v3) fun σ_8 =>
  grd (inb v1 4) (
  bnd (u2 σ_8 20 v1.toNatClampNeg v2) fun σ_11 =>
  X7_sheet_L65 F v1 v3 (fun σ_17 =>
  bnd (X7_refused (1 : Int32) σ_17) fun z_18 =>
  some ((z_18.1, z_18.2))) F (0 : Int32) σ_11)))
  else (
  bnd (X7_failed (4 : Int32) σ0) fun z_20 =>
  some ((z_20.1, z_20.2))))
  else (
  bnd (X7_refused (-2 : Int32) σ0) fun z_22 =>
  some ((z_22.1, z_22.2)))))
  else (
  bnd (X7_refused (-1 : Int32) σ0) fun z_24 =>
  some ((z_24.1, z_24.2)))
def X7_lose (v1 : Int32) (σ0 : Mem) : Option (Int32 × Mem) :=
  if (X7_noSheet v1) = 0 then (
  grd (inb v1 4) (
  if 0 ≤ (σ0 19 v1.toNatClampNeg) then (
  grd (inb v1 4) (
  bnd (u2 σ0 19 v1.toNatClampNeg ((-1))) fun σ_5 =>
  some ((1, σ_5))))
  else (
  grd (inb v1 4) (
  bnd (u2 σ0 19 v1.toNatClampNeg ((-1))) fun σ_8 =>
  some ((0, σ_8))))))
  else (
  some (((-1), σ0)))
def X7_noCell (v1 : Int32) (v2 : Int32) (σ0 : Mem) : Option (Int32) :=
  grd (inb v1 4) (
  if 0 ≤ (σ0 19 v1.toNatClampNeg) then (
  grd (inb v1 4) (
  if (X7_in v2.toInt64 (0 : Int64) (((σ0 19 v1.toNatClampNeg).toInt64) - 1)) = 0 then (
  some 3)
  else (
  some 0)))
  else (
  some 1))
def X7_put (v1 : Int32) (v2 : Int32) (v3 : Int32) (σ0 : Mem) : Option (Int32 × Mem) :=
  if (X7_noSheet v1) = 0 then (
  Option.bind (X7_noCell v1 v2 σ0) fun z_2 =>
  if z_2 ≤ 0 then (
  grd (inb v1 4) (
  if (σ0 20 v1.toNatClampNeg) = 0 then (
  grd (inb (((60 : Int32) * v1) + v2) 240) (
  bnd (u2 σ0 21 ((((60 : Int32) * v1) + v2).toNatClampNeg) v3.toInt8.toInt32) fun σ_20 =>
  bnd (X7_refused (1 : Int32) σ_20) fun z_22 =>
  some ((z_22.1, z_22.2))))
  else (
  grd (inb v1 4) (
  if (σ0 20 v1.toNatClampNeg) = 1 then (
  grd (inb (((60 : Int32) * v1) + v2) 240) (
  bnd (u2 σ0 21 ((((60 : Int32) * v1) + v2).toNatClampNeg) v3.toInt16.toInt32) fun σ_15 =>
  bnd (X7_refused (1 : Int32) σ_15) fun z_17 =>
  some ((z_17.1, z_17.2))))
  else (
  grd (inb (((60 : Int32) * v1) + v2) 240) (
  bnd (u2 σ0 21 ((((60 : Int32) * v1) + v2).toNatClampNeg) v3) fun σ_10 =>
  bnd (X7_refused (1 : Int32) σ_10) fun z_12 =>
  some ((z_12.1, z_12.2))))))))
  else (
  Option.bind (X7_noCell v1 v2 σ0) fun z_24 =>
  bnd (X7_failed z_24 σ0) fun z_26 =>
  some ((z_26.1, z_26.2))))
  else (
  bnd (X7_refused (-1 : Int32) σ0) fun z_28 =>
  some ((z_28.1, z_28.2)))
def X7_cell (v1 : Int32) (v2 : Int32) (v3 : Int32) (σ0 : Mem) : Option (Int64 × Mem) :=
  bnd (u2 σ0 0 0 0) fun σ_1 =>
  if (X7_noSheet v1) = 0 then (
  if (X7_in v3.toInt64 (0 : Int64) (2 : Int64)) = 0 then (
  some ((X7_lost, σ_1)))
  else (
  grd (inb v1 4) (
  if (σ_1 19 v1.toNatClampNeg) < 0 then (
  Option.bind (X7_noCell v1 v2 σ_1) fun z_7 =>
  if z_7 ≤ 0 then (
  grd (inb (((60 : Int32) * v1) + v2) 240) (
  some (((σ_1 21 (((60 : Int32) * v1) + v2).toNatClampNeg).toInt64, σ_1))))
  else (
  Option.bind (X7_noCell v1 v2 σ_1) fun z_11 =>
  bnd (X7_failedLong z_11 σ_1) fun z_13 =>
  some ((z_13.1, z_13.2))))
  else (
  grd (inb v1 4) (
  if (σ_1 20 v1.toNatClampNeg) = v3 then (
  Option.bind (X7_noCell v1 v2 σ_1) fun z_17 =>
  if z_17 ≤ 0 then (
  grd (inb (((60 : Int32) * v1) + v2) 240) (
  some (((σ_1 21 (((60 : Int32) * v1) + v2).toNatClampNeg).toInt64, σ_1))))
  else (
  Option.bind (X7_noCell v1 v2 σ_1) fun z_21 =>
  bnd (X7_failedLong z_21 σ_1) fun z_23 =>
  some ((z_23.1, z_23.2))))
  else (
  bnd (X7_failedLong (2 : Int32) σ_1) fun z_25 =>
  some ((z_25.1, z_25.2))))))))
  else (
  some ((X7_lost, σ_1)))
def X7_copy_L107 (F : Nat) (v1 : Int32) (v2 : Int32) (v3 : Int32) (v4 : Int32) (v5 : Int32) (k141 : Mem → Option (Int32 × Mem)) : Nat → Int32 → Mem → Option (Int32 × Mem)
  | 0, _, _ => none
  | f + 1, v6, σ0 =>
    if v5 ≤ v6 then (
    k141 σ0)
    else (
    grd (inb ((((60 : Int32) * v1) + v2) + v6) 240) (
    grd (inb v6 60) (
    bnd (u2 σ0 22 v6.toNatClampNeg (σ0 21 ((((60 : Int32) * v1) + v2) + v6).toNatClampNeg)) fun σ_23 =>
    X7_copy_L107 F v1 v2 v3 v4 v5 k141 f (v6 + 1) σ_23)))
def X7_copy_L144 (F : Nat) (v3 : Int32) (v4 : Int32) (v5 : Int32) (k179 : Mem → Option (Int32 × Mem)) : Nat → Int32 → Mem → Option (Int32 × Mem)
  | 0, _, _ => none
  | f + 1, v6, σ0 =>
    if v5 ≤ v6 then (
    k179 σ0)
    else (
    grd (inb v6 60) (
    grd (inb ((((60 : Int32) * v3) + v4) + v6) 240) (
    bnd (u2 σ0 21 (((((60 : Int32) * v3) + v4) + v6).toNatClampNeg) (σ0 22 v6.toNatClampNeg)) fun σ_29 =>
    X7_copy_L144 F v3 v4 v5 k179 f (v6 + 1) σ_29)))
def X7_copy (F : Nat) (v1 : Int32) (v2 : Int32) (v3 : Int32) (v4 : Int32) (v5 : Int32) (σ0 : Mem) : Option (Int32 × Mem) :=
  if (X7_noSheet v1) = 0 then (
  if (X7_noSheet v3) = 0 then (
  grd (inb v1 4) (
  if (σ0 19 v1.toNatClampNeg) < 0 then (
  bnd (X7_failed (1 : Int32) σ0) fun z_7 =>
  some ((z_7.1, z_7.2)))
  else (
  grd (inb v3 4) (
  if 0 ≤ (σ0 19 v3.toNatClampNeg) then (
  grd (inb v1 4) (
  grd (inb v3 4) (
  if (σ0 20 v1.toNatClampNeg) = (σ0 20 v3.toNatClampNeg) then (
  grd (inb v1 4) (
  if (X7_isBeyond v2 v5.toInt64 (σ0 19 v1.toNatClampNeg)) = 0 then (
  grd (inb v3 4) (
  if (X7_isBeyond v4 v5.toInt64 (σ0 19 v3.toNatClampNeg)) = 0 then (
  X7_copy_L107 F v1 v2 v3 v4 v5 (fun σ_25 =>
  X7_copy_L144 F v3 v4 v5 (fun σ_31 =>
  bnd (X7_refused v5 σ_31) fun z_32 =>
  some ((z_32.1, z_32.2))) F (0 : Int32) σ_25) F (0 : Int32) σ0)
  else (
  bnd (X7_failed (3 : Int32) σ0) fun z_34 =>
  some ((z_34.1, z_34.2)))))
  else (
  bnd (X7_failed (3 : Int32) σ0) fun z_16 =>
  some ((z_16.1, z_16.2)))))
  else (
  bnd (X7_failed (2 : Int32) σ0) fun z_36 =>
  some ((z_36.1, z_36.2))))))
  else (
  bnd (X7_failed (1 : Int32) σ0) fun z_38 =>
  some ((z_38.1, z_38.2)))))))
  else (
  bnd (X7_refused (-1 : Int32) σ0) fun z_40 =>
  some ((z_40.1, z_40.2))))
  else (
  bnd (X7_refused (-1 : Int32) σ0) fun z_2 =>
  some ((z_2.1, z_2.2)))
def X7_traced (v1 : Int32) (σ0 : Mem) : Mem :=
  bnd (u2 σ0 0 29 (((31 : Int32) * (σ0 0 29)) + v1)) fun σ_1 =>
  σ_1
def X7_tell_J51 (v1 : Int32) (v2 : Int32) (σ0 : Mem) : Option (Int32 × Mem) :=
  grd (inb v1 6) (
  bnd (σ0 4 v1.toNatClampNeg) fun v3_11 =>
  if v2 = 0 then (
  some ((v3_11, σ0)))
  else (
  if v2 = 1 then (
  some ((v3_11 + 100, σ0)))
  else (
  some ((((2 : Int32) * v3_11) + 100, σ0)))))
def X7_tell_J36 (v1 : Int32) (v2 : Int32) (σ0 : Mem) : Option (Int32 × Mem) :=
  bnd (X7_traced (1 : Int32) σ0) fun σ_7 =>
  if v2 = 2 then (
  bnd (X7_traced (1 : Int32) σ_7) fun σ_15 =>
  X7_tell_J51 v1 v2 σ_15)
  else (
  X7_tell_J51 v1 v2 σ_7)
def X7_tell_J27 (v1 : Int32) (v2 : Int32) (σ0 : Mem) : Option (Int32 × Mem) :=
  if v2 ≤ 0 then (
  X7_tell_J36 v1 v2 σ0)
  else (
  bnd (X7_traced (2 : Int32) σ0) fun σ_17 =>
  X7_tell_J36 v1 v2 σ_17)
def X7_tell (v1 : Int32) (σ0 : Mem) : Option (Int32 × Mem) :=
  if (X7_noPerson v1 σ0) = 0 then (
  grd (inb v1 6) (
  bnd (σ0 1 v1.toNatClampNeg) fun v2_3 =>
  if v2_3 = 2 then (
  bnd (X7_traced (3 : Int32) σ0) fun σ_19 =>
  X7_tell_J27 v1 v2_3 σ_19)
  else (
  X7_tell_J27 v1 v2_3 σ0)))
  else (
  some (((-1), σ0)))
def X7_hand (v1 : Int32) (σ0 : Mem) : Option (Int32 × Mem) :=
  if (X7_noPerson v1 σ0) = 0 then (
  grd (inb v1 6) (
  if (σ0 1 v1.toNatClampNeg) = 2 then (
  bnd (X7_traced (5 : Int32) σ0) fun σ_8 =>
  grd (inb v1 6) (
  if (σ_8 1 v1.toNatClampNeg) = 2 then (
  some ((40, σ_8)))
  else (
  some ((v1, σ_8)))))
  else (
  bnd (X7_traced (4 : Int32) σ0) fun σ_4 =>
  grd (inb v1 6) (
  if (σ_4 1 v1.toNatClampNeg) = 2 then (
  some ((40, σ_4)))
  else (
  some ((v1, σ_4)))))))
  else (
  some (((-1), σ0)))
def X7_as (v1 : Int32) (v2 : Int32) (σ0 : Mem) : Option (Int32 × Mem) :=
  if (X7_noPerson v1 σ0) = 0 then (
  if (X7_in v2.toInt64 (0 : Int64) (2 : Int64)) = 0 then (
  bnd (X7_refused (-2 : Int32) σ0) fun z_9 =>
  some ((z_9.1, z_9.2)))
  else (
  grd (inb v1 6) (
  if (σ0 1 v1.toNatClampNeg) < v2 then (
  bnd (X7_failed (2 : Int32) σ0) fun z_5 =>
  some ((z_5.1, z_5.2)))
  else (
  bnd (X7_refused (1 : Int32) σ0) fun z_7 =>
  some ((z_7.1, z_7.2))))))
  else (
  bnd (X7_refused (-1 : Int32) σ0) fun z_11 =>
  some ((z_11.1, z_11.2)))
def X7_trace (σ0 : Mem) : Int32 :=
  σ0 0 29
def X7_fault (σ0 : Mem) : Int32 :=
  σ0 0 0
def X7_many (v1 : Int32) (σ0 : Mem) : Int32 :=
  if v1 = 0 then (
  σ0 0 1)
  else (
  if v1 = 1 then (
  σ0 0 21)
  else (
  (-2)))
