def J_fill_5 (x1 : Int32) (n0 : Nat) (x3 : Int32) : Nat → Int32 → (Nat → Int32) → Option (Nat → Int32)
  | 0, _, _ => none
  | n + 1, x2, v0 =>
    if x3 ≤ x2 then
      some v0
    else
      gd (inB x2 n0) <|
      nmL (upd v0 (Int32.toNatClampNeg x2) x1) fun (v0_13 : Nat → Int32) =>
      nmL (x2 + 1) fun (x2_14 : Int32) =>
      J_fill_5 x1 n0 x3 n x2_14 v0_13

def J_fill (x1 : Int32) (n0 : Nat) (v0 : Nat → Int32) : Option (Nat → Int32) :=
  nmL (nI n0) fun (x3_4 : Int32) =>
  J_fill_5 x1 n0 x3_4 FU 0 v0

def J_bitCount (x0 : Int32) : Option Int32 :=
  nmL (x0 - (((Int32.toUInt32 x0 >>> (Int32.toUInt32 1 &&& Int32.toUInt32 31)).toInt32) &&& 1431655765)) fun (x0_9 : Int32) =>
  nmL ((x0_9 &&& 858993459) + (((Int32.toUInt32 x0_9 >>> (Int32.toUInt32 2 &&& Int32.toUInt32 31)).toInt32) &&& 858993459)) fun (x0_23 : Int32) =>
  nmL ((x0_23 + ((Int32.toUInt32 x0_23 >>> (Int32.toUInt32 4 &&& Int32.toUInt32 31)).toInt32)) &&& 252645135) fun (x0_33 : Int32) =>
  nmL (x0_33 + ((Int32.toUInt32 x0_33 >>> (Int32.toUInt32 8 &&& Int32.toUInt32 31)).toInt32)) fun (x0_40 : Int32) =>
  nmL (x0_40 + ((Int32.toUInt32 x0_40 >>> (Int32.toUInt32 16 &&& Int32.toUInt32 31)).toInt32)) fun (x0_47 : Int32) =>
  some (x0_47 &&& 63)

def GW_has (x0 : Int32) (x1 : Int32) : Option Bool :=
  if (x0 >>> (x1 &&& 31)) &&& 1 = 0 then
    some false
  else
    some true

def GW_leastMultiple_9 (x0 : Int32) (x1 : Int32)  : Nat → Int32 → Option Int32
  | 0, _ => none
  | n + 1, x2 =>
    if x1 ≤ x2 then
      some (x0 * x1)
    else
      gd (nz x1) <|
      if (x0 * x2) - (x0 * x2) / x1 * x1 = 0 then
        some (x0 * x2)
      else
        nmL (x2 + 1) fun (x2_26 : Int32) =>
        GW_leastMultiple_9 x0 x1 n x2_26

def GW_leastMultiple (x0 : Int32) (x1 : Int32) : Option Int32 :=
  if 1 ≤ x1 then
    GW_leastMultiple_9 x0 x1 FU 1
  else
    some x0

