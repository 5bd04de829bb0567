def Best_beginChoices_66   (k6 : Int32 → Int32 → Int32 → BestV → HouseV → Option (Int32 × BestV × HouseV)) (x2 : Int32) (x3 : Int32) (x4 : Int32) (s0 : Int32) (s1 : Int32) (v0 : BestV) (v1 : HouseV) : Option (Int32 × BestV × HouseV) :=
  gd (inB s1 4) <|
  nmL (Best_set_spans v0 (upd (Best_spans v0) (Int32.toNatClampNeg s1) s0)) fun (v0_66 : BestV) =>
  gd (inB x3 4) <|
  nmL (x2 * ((Best_spans v0_66) (Int32.toNatClampNeg x3))) fun (x2_75 : Int32) =>
  nmL (House_set_phases v1 (upd (House_phases v1) (Int32.toNatClampNeg x3) 0)) fun (v1_88 : HouseV) =>
  nmL (x3 + 1) fun (x3_89 : Int32) =>
  k6 x4 x2_75 x3_89 v0_66 v1_88

def Best_beginChoices_6   : Nat → Int32 → Int32 → Int32 → BestV → HouseV → Option (Int32 × BestV × HouseV)
  | 0, _, _, _, _, _ => none
  | n + 1, x1, x2, x3, v0, v1 =>
    if House_guards v1 ≤ x3 then
      some (x2, v0, v1)
    else
      if 4 ≤ x3 then
        some (x2, v0, v1)
      else
        gd (inB x3 4) <|
        Option.bind (GW_leastMultiple x1 ((House_periods v1) (Int32.toNatClampNeg x3))) fun p32 =>
        if 1 ≤ p32 then
          gd (nz p32) <|
          Best_beginChoices_66 (fun (x1 : Int32) (x2 : Int32) (x3 : Int32) (v0 : BestV) (v1 : HouseV) => Best_beginChoices_6 n x1 x2 x3 v0 v1) x2 x3 p32 ((x1 * ((House_periods v1) (Int32.toNatClampNeg x3))) / p32) x3 v0 v1
        else
          Best_beginChoices_66 (fun (x1 : Int32) (x2 : Int32) (x3 : Int32) (v0 : BestV) (v1 : HouseV) => Best_beginChoices_6 n x1 x2 x3 v0 v1) x2 x3 p32 1 x3 v0 v1

def Best_beginChoices (v0 : BestV) (v1 : HouseV) : Option (Int32 × BestV × HouseV) :=
  Best_beginChoices_6 FU 1 1 0 v0 v1

def Best_nextChoice_14 (v0 : BestV)  : Nat → Int32 → HouseV → Option HouseV
  | 0, _, _ => none
  | n + 1, x1, v1 =>
    if x1 < 0 then
      some v1
    else
      gd (inB x1 4) <|
      if (Best_spans v0) (Int32.toNatClampNeg x1) ≤ ((House_phases v1) (Int32.toNatClampNeg x1)) + 1 then
        nmL (House_set_phases v1 (upd (House_phases v1) (Int32.toNatClampNeg x1) 0)) fun (v1_61 : HouseV) =>
        nmL (x1 + (-1)) fun (x1_62 : Int32) =>
        Best_nextChoice_14 v0 n x1_62 v1_61
      else
        nmL (House_set_phases v1 (upd (House_phases v1) (Int32.toNatClampNeg x1) (((House_phases v1) (Int32.toNatClampNeg x1)) + 1))) fun (v1_50 : HouseV) =>
        some v1_50

def Best_nextChoice (v0 : BestV) (v1 : HouseV) : Option HouseV :=
  nmL ((imin (House_guards v1) 4) - 1) fun (x1_13 : Int32) =>
  Best_nextChoice_14 v0 FU x1_13 v1

def Best_tryPhases_64 (x1 : Bool) (v1 : HouseV)  (x2 : Int32) (v0 : BestV) (v2 : SightV) : Option (BestV × SightV) :=
  nmL (Best_set_worst v0 (Sight_worst v2)) fun (v0_72 : BestV) =>
  nmL (Best_set_crossings v0_72 x2) fun (v0_77 : BestV) =>
  nmL (Best_set_phases v0_77 (va_cpy (House_phases v1) (Best_phases v0_77) 0 0 4)) fun (v0_94 : BestV) =>
  some (v0_94, v2)

def Best_tryPhases_30 (x1 : Bool) (v1 : HouseV)  (v0 : BestV) (v2 : SightV) : Option (BestV × SightV) :=
  Option.bind (House_countCrossings v1) fun p34 =>
  bif x1 then
    Best_tryPhases_64 x1 v1 p34 v0 v2
  else
    if Sight_worst v2 < Best_worst v0 then
      Best_tryPhases_64 x1 v1 p34 v0 v2
    else
      if Best_crossings v0 ≤ p34 then
        some (v0, v2)
      else
        Best_tryPhases_64 x1 v1 p34 v0 v2

def Best_tryPhases (x1 : Bool) (v0 : BestV) (v1 : HouseV) (v2 : SightV) : Option (BestV × SightV) :=
  Option.bind (Sight_measure v2 v1) fun p8 =>
  bif x1 then
    Best_tryPhases_30 x1 v1 v0 p8
  else
    if Sight_worst p8 ≤ Best_worst v0 then
      Best_tryPhases_30 x1 v1 v0 p8
    else
      some (v0, p8)

def Best_search_30 (v3 : HouseV)  (k15 : Int32 → BestV → HouseV → SightV → Option (BestV × HouseV × SightV)) (x2 : Int32) (x3 : Int32) (s0 : Int32) (v0 : BestV) (v1 : HouseV) (v2 : SightV) : Option (BestV × HouseV × SightV) :=
  asB (s0) fun (z_3 : Bool) =>
  Option.bind (Best_tryPhases z_3 v0 v1 v2) fun p30 =>
  Option.bind (Best_nextChoice p30.1 v1) fun p34 =>
  nmL (x3 + 1) fun (x3_37 : Int32) =>
  k15 x3_37 p30.1 p34 p30.2

def Best_search_15 (v3 : HouseV) (x2 : Int32) : Nat → Int32 → BestV → HouseV → SightV → Option (BestV × HouseV × SightV)
  | 0, _, _, _, _ => none
  | n + 1, x3, v0, v1, v2 =>
    if x2 ≤ x3 then
      nmL (Best_set_stamp v0 (House_walksStamp v3)) fun (v0_48 : BestV) =>
      some (v0_48, v1, v2)
    else
      if x3 = 0 then
        Best_search_30 v3 (fun (x3 : Int32) (v0 : BestV) (v1 : HouseV) (v2 : SightV) => Best_search_15 v3 x2 n x3 v0 v1 v2) x2 x3 1 v0 v1 v2
      else
        Best_search_30 v3 (fun (x3 : Int32) (v0 : BestV) (v1 : HouseV) (v2 : SightV) => Best_search_15 v3 x2 n x3 v0 v1 v2) x2 x3 0 v0 v1 v2

def Best_search (v0 : BestV) (v1 : HouseV) (v2 : SightV) (v3 : HouseV) : Option (BestV × HouseV × SightV) :=
  Option.bind (House_copyFrom v1 v3) fun p5 =>
  Option.bind (Best_beginChoices v0 p5) fun p9 =>
  Best_search_15 v3 p9.1 FU 0 p9.2.1 p9.2.2 v2

