def Mod_doorAt (x0 : Int32) (x1 : Int32) : Option Int32 :=
  some ((64 + (3 * x0)) + x1)

def Mod_guardAt (x0 : Int32) (x1 : Int32) : Option Int32 :=
  some ((124 + (12 * x0)) + x1)

def Mod_rooms (v0 : ModelV) : Option Int32 :=
  gd (inB 0 172) <|
  some ((Model_now v0) (Int32.toNatClampNeg 0))

def Mod_guards (v0 : ModelV) : Option Int32 :=
  gd (inB 2 172) <|
  some ((Model_now v0) (Int32.toNatClampNeg 2))

def Mod_ofRoom (x1 : Int32) (x2 : Int32) (v0 : ModelV) : Option Int32 :=
  Option.bind (Mod_roomAt x1 x2) fun p6 =>
  gd (inB p6 172) <|
  some ((Model_now v0) (Int32.toNatClampNeg p6))

def Mod_ofDoor (x1 : Int32) (x2 : Int32) (v0 : ModelV) : Option Int32 :=
  Option.bind (Mod_doorAt x1 x2) fun p6 =>
  gd (inB p6 172) <|
  some ((Model_now v0) (Int32.toNatClampNeg p6))

def Mod_period (x1 : Int32) (v0 : ModelV) : Option Int32 :=
  Option.bind (Mod_guardAt x1 0) fun p6 =>
  gd (inB p6 172) <|
  some ((Model_now v0) (Int32.toNatClampNeg p6))

def Mod_phaseOf (x1 : Int32) (v0 : ModelV) : Option Int32 :=
  Option.bind (Mod_guardAt x1 1) fun p6 =>
  gd (inB p6 172) <|
  some ((Model_now v0) (Int32.toNatClampNeg p6))

def Mod_step (x1 : Int32) (x2 : Int32) (v0 : ModelV) : Option Int32 :=
  Option.bind (Mod_guardAt x1 (2 + x2)) fun p8 =>
  gd (inB p8 172) <|
  some ((Model_now v0) (Int32.toNatClampNeg p8))

def Mod_isRoom (x1 : Int32) (v0 : ModelV) : Option Bool :=
  Option.bind (Mod_rooms v0) fun p3 =>
  Option.bind (Mod_inRange x1 0 (p3 - 1)) fun p8 =>
  some p8

def Mod_isDoor (x1 : Int32) (v0 : ModelV) : Option Bool :=
  gd (inB 1 172) <|
  Option.bind (Mod_inRange x1 0 (((Model_now v0) (Int32.toNatClampNeg 1)) - 1)) fun p10 =>
  some p10

def Mod_isGuard (x1 : Int32) (v0 : ModelV) : Option Bool :=
  Option.bind (Mod_guards v0) fun p3 =>
  Option.bind (Mod_inRange x1 0 (p3 - 1)) fun p8 =>
  some p8

def Mod_has (x0 : Int32) (x1 : Int32) : Option Bool :=
  if (x0 >>> (x1 &&& 31)) &&& 1 = 1 then
    some true
  else
    some false

def Mod_isBetween_20 (x1 : Int32) (x2 : Int32) (x3 : Int32) (v0 : ModelV)   : Option Bool :=
  Option.bind (Mod_ofDoor x1 0 v0) fun p23 =>
  if p23 = x3 then
    Option.bind (Mod_ofDoor x1 1 v0) fun p33 =>
    if p33 = x2 then
      some true
    else
      some false
  else
    some false

def Mod_isBetween (x1 : Int32) (x2 : Int32) (x3 : Int32) (v0 : ModelV) : Option Bool :=
  Option.bind (Mod_ofDoor x1 0 v0) fun p3 =>
  if p3 = x2 then
    Option.bind (Mod_ofDoor x1 1 v0) fun p13 =>
    if p13 = x3 then
      some true
    else
      Mod_isBetween_20 x1 x2 x3 v0
  else
    Mod_isBetween_20 x1 x2 x3 v0

def Mod_openBetween_5 (x1 : Int32) (x2 : Int32) (v0 : ModelV)  : Nat → Int32 → Int32 → Option Int32
  | 0, _, _ => none
  | n + 1, x3, x4 =>
    gd (inB 1 172) <|
    if (Model_now v0) (Int32.toNatClampNeg 1) ≤ x4 then
      some x3
    else
      Option.bind (Mod_isBetween x4 x1 x2 v0) fun p22 =>
      bif p22 then
        Option.bind (Mod_ofDoor x4 2 v0) fun p32 =>
        nmL (x3 + p32) fun (x3_40 : Int32) =>
        nmL (x4 + 1) fun (x4_41 : Int32) =>
        Mod_openBetween_5 x1 x2 v0 n x3_40 x4_41
      else
        nmL (x3 + 0) fun (x3_40 : Int32) =>
        nmL (x4 + 1) fun (x4_41 : Int32) =>
        Mod_openBetween_5 x1 x2 v0 n x3_40 x4_41

def Mod_openBetween (x1 : Int32) (x2 : Int32) (v0 : ModelV) : Option Int32 :=
  Mod_openBetween_5 x1 x2 v0 FU 0 0

def Mod_openAt_52 (x1 : Int32) (v0 : ModelV)  (k4 : Int32 → Int32 → Option Int32) (x3 : Int32) (s0 : Int32) : Option Int32 :=
  Option.bind (Mod_ofDoor x3 2 v0) fun p55 =>
  nmL (s0 + p55) fun (x2_63 : Int32) =>
  nmL (x3 + 1) fun (x3_64 : Int32) =>
  k4 x2_63 x3_64

def Mod_openAt_39 (x1 : Int32) (v0 : ModelV)  (k4 : Int32 → Int32 → Option Int32) (x2 : Int32) (x3 : Int32) (s0 : Int32) : Option Int32 :=
  if x1 = (-1) then
    Mod_openAt_52 x1 v0 k4 x3 x2
  else
    if s0 = 0 then
      nmL (x2 + 0) fun (x2_63 : Int32) =>
      nmL (x3 + 1) fun (x3_64 : Int32) =>
      k4 x2_63 x3_64
    else
      Mod_openAt_52 x1 v0 k4 x3 x2

def Mod_openAt_34 (x1 : Int32) (v0 : ModelV)  (k4 : Int32 → Int32 → Option Int32) (x2 : Int32) (x3 : Int32) : Option Int32 :=
  Mod_openAt_39 x1 v0 k4 x2 x3 1

def Mod_openAt_4 (x1 : Int32) (v0 : ModelV)  : Nat → Int32 → Int32 → Option Int32
  | 0, _, _ => none
  | n + 1, x2, x3 =>
    gd (inB 1 172) <|
    if (Model_now v0) (Int32.toNatClampNeg 1) ≤ x3 then
      some x2
    else
      Option.bind (Mod_ofDoor x3 0 v0) fun p17 =>
      if p17 = x1 then
        Mod_openAt_34 x1 v0 (fun (x2 : Int32) (x3 : Int32) => Mod_openAt_4 x1 v0 n x2 x3) x2 x3
      else
        Option.bind (Mod_ofDoor x3 1 v0) fun p27 =>
        if p27 = x1 then
          Mod_openAt_34 x1 v0 (fun (x2 : Int32) (x3 : Int32) => Mod_openAt_4 x1 v0 n x2 x3) x2 x3
        else
          Mod_openAt_39 x1 v0 (fun (x2 : Int32) (x3 : Int32) => Mod_openAt_4 x1 v0 n x2 x3) x2 x3 0

def Mod_openAt (x1 : Int32) (v0 : ModelV) : Option Int32 :=
  Mod_openAt_4 x1 v0 FU 0 0

def Mod_layJoined_25   : Nat → Int32 → ModelV → Option ModelV
  | 0, _, _ => none
  | n + 1, x1, v0 =>
    gd (inB 1 172) <|
    if (Model_now v0) (Int32.toNatClampNeg 1) ≤ x1 then
      some v0
    else
      Option.bind (Mod_ofDoor x1 2 v0) fun p38 =>
      if p38 = 1 then
        Option.bind (Mod_ofDoor x1 0 v0) fun p52 =>
        gd (inB p52 12) <|
        Option.bind (Mod_ofDoor x1 1 v0) fun p61 =>
        nmL (Model_set_joined v0 (upd (Model_joined v0) (Int32.toNatClampNeg p52) (((Model_joined v0) (Int32.toNatClampNeg p52)) ||| (1 <<< (p61 &&& 31))))) fun (v0_66 : ModelV) =>
        Option.bind (Mod_ofDoor x1 1 v0_66) fun p74 =>
        gd (inB p74 12) <|
        Option.bind (Mod_ofDoor x1 0 v0_66) fun p83 =>
        nmL (Model_set_joined v0_66 (upd (Model_joined v0_66) (Int32.toNatClampNeg p74) (((Model_joined v0_66) (Int32.toNatClampNeg p74)) ||| (1 <<< (p83 &&& 31))))) fun (v0_88 : ModelV) =>
        nmL (x1 + 1) fun (x1_89 : Int32) =>
        Mod_layJoined_25 n x1_89 v0_88
      else
        nmL (x1 + 1) fun (x1_89 : Int32) =>
        Mod_layJoined_25 n x1_89 v0

def Mod_layJoined_2   : Nat → Int32 → ModelV → Option ModelV
  | 0, _, _ => none
  | n + 1, x1, v0 =>
    Option.bind (Mod_rooms v0) fun p4 =>
    if p4 ≤ x1 then
      Mod_layJoined_25 FU 0 v0
    else
      gd (inB x1 12) <|
      nmL (Model_set_joined v0 (upd (Model_joined v0) (Int32.toNatClampNeg x1) 0)) fun (v0_16 : ModelV) =>
      nmL (x1 + 1) fun (x1_17 : Int32) =>
      Mod_layJoined_2 n x1_17 v0_16

def Mod_layJoined (v0 : ModelV) : Option ModelV :=
  Mod_layJoined_2 FU 0 v0

def Mod_goesThrough_56 (x1 : Int32) (x2 : Int32) (x3 : Int32) (v0 : ModelV)  (k6 : Int32 → Int32 → Option Bool) (x5 : Int32) (x6 : Int32) (x7 : Int32) (s0 : Int32) : Option Bool :=
  if x6 = x3 then
    if x7 = x2 then
      nmL (s0 ||| 1) fun (x4_74 : Int32) =>
      nmL (x5 + 1) fun (x5_76 : Int32) =>
      k6 x4_74 x5_76
    else
      nmL (s0 ||| 0) fun (x4_74 : Int32) =>
      nmL (x5 + 1) fun (x5_76 : Int32) =>
      k6 x4_74 x5_76
  else
    nmL (s0 ||| 0) fun (x4_74 : Int32) =>
    nmL (x5 + 1) fun (x5_76 : Int32) =>
    k6 x4_74 x5_76

def Mod_goesThrough_6 (x1 : Int32) (x2 : Int32) (x3 : Int32) (v0 : ModelV)  : Nat → Int32 → Int32 → Option Bool
  | 0, _, _ => none
  | n + 1, x4, x5 =>
    Option.bind (Mod_period x1 v0) fun p10 =>
    if p10 ≤ x5 then
      asB (x4) fun (z_2 : Bool) =>
      some z_2
    else
      Option.bind (Mod_step x1 x5 v0) fun p20 =>
      Option.bind (Mod_period x1 v0) fun p33 =>
      gd (nz p33) <|
      Option.bind (Mod_step x1 ((x5 + 1) - (x5 + 1) / p33 * p33) v0) fun p37 =>
      if p20 = x2 then
        if p37 = x3 then
          nmL (x4 ||| 1) fun (x4_74 : Int32) =>
          nmL (x5 + 1) fun (x5_76 : Int32) =>
          Mod_goesThrough_6 x1 x2 x3 v0 n x4_74 x5_76
        else
          Mod_goesThrough_56 x1 x2 x3 v0 (fun (x4 : Int32) (x5 : Int32) => Mod_goesThrough_6 x1 x2 x3 v0 n x4 x5) x5 p20 p37 x4
      else
        Mod_goesThrough_56 x1 x2 x3 v0 (fun (x4 : Int32) (x5 : Int32) => Mod_goesThrough_6 x1 x2 x3 v0 n x4 x5) x5 p20 p37 x4

def Mod_goesThrough (x1 : Int32) (x2 : Int32) (x3 : Int32) (v0 : ModelV) : Option Bool :=
  Mod_goesThrough_6 x1 x2 x3 v0 FU 0 0

def Mod_walksThrough_4 (x1 : Int32) (v0 : ModelV)  : Nat → Int32 → Int32 → Option Int32
  | 0, _, _ => none
  | n + 1, x2, x3 =>
    Option.bind (Mod_guards v0) fun p6 =>
    if p6 ≤ x3 then
      some x2
    else
      Option.bind (Mod_ofDoor x1 0 v0) fun p18 =>
      Option.bind (Mod_ofDoor x1 1 v0) fun p24 =>
      Option.bind (Mod_goesThrough x3 p18 p24 v0) fun p27 =>
      bif p27 then
        nmL (x2 + 1) fun (x2_39 : Int32) =>
        nmL (x3 + 1) fun (x3_40 : Int32) =>
        Mod_walksThrough_4 x1 v0 n x2_39 x3_40
      else
        nmL (x2 + 0) fun (x2_39 : Int32) =>
        nmL (x3 + 1) fun (x3_40 : Int32) =>
        Mod_walksThrough_4 x1 v0 n x2_39 x3_40

def Mod_walksThrough (x1 : Int32) (v0 : ModelV) : Option Int32 :=
  Mod_walksThrough_4 x1 v0 FU 0 0

def Mod_takePhases_2   : Nat → Int32 → ModelV → Option ModelV
  | 0, _, _ => none
  | n + 1, x1, v0 =>
    Option.bind (Mod_guards v0) fun p4 =>
    if p4 ≤ x1 then
      some v0
    else
      Option.bind (Mod_phaseOf x1 v0) fun p17 =>
      gd (inB x1 4) <|
      nmL (Model_set_phases v0 (upd (Model_phases v0) (Int32.toNatClampNeg x1) p17)) fun (v0_20 : ModelV) =>
      nmL (x1 + 1) fun (x1_21 : Int32) =>
      Mod_takePhases_2 n x1_21 v0_20

def Mod_takePhases (v0 : ModelV) : Option ModelV :=
  Mod_takePhases_2 FU 0 v0

def Mod_place (x1 : Int32) (x2 : Int32) (v0 : ModelV) : Option Int32 :=
  Option.bind (Mod_period x1 v0) fun p5 =>
  gd (nz p5) <|
  gd (inB x1 4) <|
  Option.bind (Mod_period x1 v0) fun p18 =>
  gd (nz p18) <|
  Option.bind (Mod_step x1 (((x2 - x2 / p5 * p5) + ((Model_phases v0) (Int32.toNatClampNeg x1))) - ((x2 - x2 / p5 * p5) + ((Model_phases v0) (Int32.toNatClampNeg x1))) / p18 * p18) v0) fun p22 =>
  some p22

def Mod_guardsAt_5 (x1 : Int32) (x2 : Int32) (v0 : ModelV)  : Nat → Int32 → Int32 → Option Int32
  | 0, _, _ => none
  | n + 1, x3, x4 =>
    Option.bind (Mod_guards v0) fun p8 =>
    if p8 ≤ x4 then
      some x3
    else
      Option.bind (Mod_place x4 x2 v0) fun p19 =>
      if p19 = x1 then
        nmL (x3 ||| (1 <<< (x4 &&& 31))) fun (x3_35 : Int32) =>
        nmL (x4 + 1) fun (x4_36 : Int32) =>
        Mod_guardsAt_5 x1 x2 v0 n x3_35 x4_36
      else
        nmL (x3 ||| 0) fun (x3_35 : Int32) =>
        nmL (x4 + 1) fun (x4_36 : Int32) =>
        Mod_guardsAt_5 x1 x2 v0 n x3_35 x4_36

def Mod_guardsAt (x1 : Int32) (x2 : Int32) (v0 : ModelV) : Option Int32 :=
  Mod_guardsAt_5 x1 x2 v0 FU 0 0

def Mod_seenAt_4 (x1 : Int32) (v0 : ModelV)  : Nat → Int32 → Int32 → Option Int32
  | 0, _, _ => none
  | n + 1, x2, x3 =>
    Option.bind (Mod_guards v0) fun p6 =>
    if p6 ≤ x3 then
      some x2
    else
      Option.bind (Mod_place x3 x1 v0) fun p17 =>
      nmL (x2 ||| (1 <<< (p17 &&& 31))) fun (x2_22 : Int32) =>
      nmL (x3 + 1) fun (x3_23 : Int32) =>
      Mod_seenAt_4 x1 v0 n x2_22 x3_23

def Mod_seenAt (x1 : Int32) (v0 : ModelV) : Option Int32 :=
  Mod_seenAt_4 x1 v0 FU 0 0

def Mod_common_4 (x0 : Int32) (x1 : Int32)  : Nat → Int32 → Int32 → Option Int32
  | 0, _, _ => none
  | n + 1, x2, x3 =>
    if x3 ≤ 0 then
      gd (nz x2) <|
      some ((x0 / x2) * x1)
    else
      gd (nz x3) <|
      nmL (x2 - x2 / x3 * x3) fun (x4_11 : Int32) =>
      Mod_common_4 x0 x1 n x3 x4_11

def Mod_common (x0 : Int32) (x1 : Int32) : Option Int32 :=
  Mod_common_4 x0 x1 FU x0 x1

def Mod_cycle_4 (v0 : ModelV)  : Nat → Int32 → Int32 → Option Int32
  | 0, _, _ => none
  | n + 1, x1, x2 =>
    Option.bind (Mod_guards v0) fun p6 =>
    if p6 ≤ x2 then
      some x1
    else
      Option.bind (Mod_period x2 v0) fun p15 =>
      Option.bind (Mod_common x1 p15) fun p18 =>
      nmL (x2 + 1) fun (x2_22 : Int32) =>
      Mod_cycle_4 v0 n p18 x2_22

def Mod_cycle (v0 : ModelV) : Option Int32 :=
  Mod_cycle_4 v0 FU 1 0

def Mod_endGap_59 (x1 : Int32) (x2 : Int32) (x3 : Int32) (x4 : Int32)  (s0 : Int32) (s1 : Int32) (v0 : ModelV) : Option ModelV :=
  gd (inB s1 12) <|
  nmL (Model_set_gapBegin v0 (upd (Model_gapBegin v0) (Int32.toNatClampNeg s1) s0)) fun (v0_59 : ModelV) =>
  gd (inB x1 12) <|
  nmL (Model_set_gap v0_59 (upd (Model_gap v0_59) (Int32.toNatClampNeg x1) (imax ((Model_gap v0_59) (Int32.toNatClampNeg x1)) x3))) fun (v0_75 : ModelV) =>
  nmL (Model_set_latestSeen v0_75 (upd (Model_latestSeen v0_75) (Int32.toNatClampNeg x1) x2)) fun (v0_82 : ModelV) =>
  some v0_82

def Mod_endGap_36 (x1 : Int32) (x2 : Int32) (x3 : Int32) (x4 : Int32)  (s0 : Int32) (v0 : ModelV) : Option ModelV :=
  if s0 = 0 then
    gd (inB x1 12) <|
    Mod_endGap_59 x1 x2 x3 x4 ((Model_gapBegin v0) (Int32.toNatClampNeg x1)) x1 v0
  else
    Mod_endGap_59 x1 x2 x3 x4 x4 x1 v0

def Mod_endGap_31 (x1 : Int32) (x2 : Int32) (x3 : Int32) (x4 : Int32)  (v0 : ModelV) : Option ModelV :=
  Mod_endGap_36 x1 x2 x3 x4 1 v0

def Mod_endGap_35 (x1 : Int32) (x2 : Int32) (x3 : Int32) (x4 : Int32)  (v0 : ModelV) : Option ModelV :=
  Mod_endGap_36 x1 x2 x3 x4 0 v0

def Mod_endGap (x1 : Int32) (x2 : Int32) (x3 : Int32) (x4 : Int32) (v0 : ModelV) : Option ModelV :=
  gd (inB x1 12) <|
  if (Model_gap v0) (Int32.toNatClampNeg x1) < x3 then
    Mod_endGap_31 x1 x2 x3 x4 v0
  else
    if x3 = (Model_gap v0) (Int32.toNatClampNeg x1) then
      if (Model_gapBegin v0) (Int32.toNatClampNeg x1) ≤ x4 then
        Mod_endGap_35 x1 x2 x3 x4 v0
      else
        Mod_endGap_31 x1 x2 x3 x4 v0
    else
      Mod_endGap_35 x1 x2 x3 x4 v0

def Mod_see (x1 : Int32) (x2 : Int32) (v0 : ModelV) : Option ModelV :=
  gd (inB x1 12) <|
  nmL (Model_set_seenCount v0 (upd (Model_seenCount v0) (Int32.toNatClampNeg x1) (((Model_seenCount v0) (Int32.toNatClampNeg x1)) + 1))) fun (v0_9 : ModelV) =>
  if (Model_firstSeen v0_9) (Int32.toNatClampNeg x1) = (-1) then
    nmL (Model_set_firstSeen v0_9 (upd (Model_firstSeen v0_9) (Int32.toNatClampNeg x1) x2)) fun (v0_26 : ModelV) =>
    nmL (Model_set_latestSeen v0_26 (upd (Model_latestSeen v0_26) (Int32.toNatClampNeg x1) x2)) fun (v0_33 : ModelV) =>
    some v0_33
  else
    Option.bind (Mod_endGap x1 x2 ((x2 - ((Model_latestSeen v0_9) (Int32.toNatClampNeg x1))) - 1) (((Model_latestSeen v0_9) (Int32.toNatClampNeg x1)) + 1) v0_9) fun p56 =>
    some p56

def Mod_layCycle_68  (x1 : Int32) (k54 : Int32 → ModelV → Option ModelV) : Nat → Int32 → ModelV → Option ModelV
  | 0, _, _ => none
  | n + 1, x2, v0 =>
    if x2 = 0 then
      nmL (x1 + 1) fun (x1_90 : Int32) =>
      k54 x1_90 v0
    else
      Option.bind (J_ntz x2) fun p74 =>
      Option.bind (Mod_see p74 x1 v0) fun p78 =>
      nmL (x2 &&& (x2 - 1)) fun (x2_86 : Int32) =>
      Mod_layCycle_68 x1 k54 n x2_86 p78

def Mod_layCycle_98   : Nat → Int32 → ModelV → Option ModelV
  | 0, _, _ => none
  | n + 1, x1, v0 =>
    Option.bind (Mod_rooms v0) fun p100 =>
    if p100 ≤ x1 then
      some v0
    else
      gd (inB x1 12) <|
      if (Model_firstSeen v0) (Int32.toNatClampNeg x1) = (-1) then
        nmL (x1 + 1) fun (x1_162 : Int32) =>
        Mod_layCycle_98 n x1_162 v0
      else
        nmL ((((Model_cycleNow v0) - ((Model_latestSeen v0) (Int32.toNatClampNeg x1))) - 1) + ((Model_firstSeen v0) (Int32.toNatClampNeg x1))) fun (x2_136 : Int32) =>
        gd (nz (Model_cycleNow v0)) <|
        Option.bind (Mod_endGap x1 ((Model_latestSeen v0) (Int32.toNatClampNeg x1)) x2_136 ((((Model_latestSeen v0) (Int32.toNatClampNeg x1)) + 1) - (((Model_latestSeen v0) (Int32.toNatClampNeg x1)) + 1) / (Model_cycleNow v0) * (Model_cycleNow v0)) v0) fun p159 =>
        nmL (x1 + 1) fun (x1_162 : Int32) =>
        Mod_layCycle_98 n x1_162 p159

def Mod_layCycle_54   : Nat → Int32 → ModelV → Option ModelV
  | 0, _, _ => none
  | n + 1, x1, v0 =>
    if Model_cycleNow v0 ≤ x1 then
      Mod_layCycle_98 FU 0 v0
    else
      Option.bind (Mod_seenAt x1 v0) fun p64 =>
      Mod_layCycle_68 x1 (fun (x1 : Int32) (v0 : ModelV) => Mod_layCycle_54 n x1 v0) FU p64 v0

def Mod_layCycle_10   : Nat → Int32 → ModelV → Option ModelV
  | 0, _, _ => none
  | n + 1, x1, v0 =>
    Option.bind (Mod_rooms v0) fun p12 =>
    if p12 ≤ x1 then
      Mod_layCycle_54 FU 0 v0
    else
      gd (inB x1 12) <|
      nmL (Model_set_firstSeen v0 (upd (Model_firstSeen v0) (Int32.toNatClampNeg x1) (-1))) fun (v0_24 : ModelV) =>
      nmL (Model_set_seenCount v0_24 (upd (Model_seenCount v0_24) (Int32.toNatClampNeg x1) 0)) fun (v0_31 : ModelV) =>
      nmL (Model_set_gap v0_31 (upd (Model_gap v0_31) (Int32.toNatClampNeg x1) (-1))) fun (v0_38 : ModelV) =>
      nmL (Model_set_gapBegin v0_38 (upd (Model_gapBegin v0_38) (Int32.toNatClampNeg x1) (-1))) fun (v0_45 : ModelV) =>
      nmL (x1 + 1) fun (x1_46 : Int32) =>
      Mod_layCycle_10 n x1_46 v0_45

def Mod_layCycle (v0 : ModelV) : Option ModelV :=
  Option.bind (Mod_cycle v0) fun p2 =>
  nmL (Model_set_cycleNow v0 p2) fun (v0_5 : ModelV) =>
  Mod_layCycle_10 FU 0 v0_5

def Mod_layNow (v0 : ModelV) : Option ModelV :=
  Option.bind (Mod_takePhases v0) fun p1 =>
  Option.bind (Mod_layCycle p1) fun p5 =>
  some p5

def Mod_worstLaid_4 (v0 : ModelV)  : Nat → Int32 → Int32 → Option Int32
  | 0, _, _ => none
  | n + 1, x1, x2 =>
    Option.bind (Mod_rooms v0) fun p6 =>
    if p6 ≤ x2 then
      some x1
    else
      gd (inB x2 12) <|
      nmL (imax x1 ((Model_gap v0) (Int32.toNatClampNeg x2))) fun (x1_22 : Int32) =>
      nmL (x2 + 1) fun (x2_23 : Int32) =>
      Mod_worstLaid_4 v0 n x1_22 x2_23

def Mod_worstLaid (v0 : ModelV) : Option Int32 :=
  Mod_worstLaid_4 v0 FU 0 0

def Mod_isLate (x1 : Int32) (v0 : ModelV) : Option Bool :=
  gd (inB x1 12) <|
  if (Model_gap v0) (Int32.toNatClampNeg x1) = (-1) then
    some true
  else
    Option.bind (Mod_ofRoom x1 0 v0) fun p19 =>
    if (Model_gap v0) (Int32.toNatClampNeg x1) ≤ p19 then
      some false
    else
      some true

def Mod_lateLaid_4 (v0 : ModelV)  : Nat → Int32 → Int32 → Option Int32
  | 0, _, _ => none
  | n + 1, x1, x2 =>
    Option.bind (Mod_rooms v0) fun p6 =>
    if p6 ≤ x2 then
      some x1
    else
      Option.bind (Mod_isLate x2 v0) fun p15 =>
      bif p15 then
        nmL (x1 + 1) fun (x1_27 : Int32) =>
        nmL (x2 + 1) fun (x2_28 : Int32) =>
        Mod_lateLaid_4 v0 n x1_27 x2_28
      else
        nmL (x1 + 0) fun (x1_27 : Int32) =>
        nmL (x2 + 1) fun (x2_28 : Int32) =>
        Mod_lateLaid_4 v0 n x1_27 x2_28

def Mod_lateLaid (v0 : ModelV) : Option Int32 :=
  Mod_lateLaid_4 v0 FU 0 0

def Mod_seenInCycle_4 (v0 : ModelV)  : Nat → Int32 → Int32 → Option Int32
  | 0, _, _ => none
  | n + 1, x1, x2 =>
    Option.bind (Mod_rooms v0) fun p6 =>
    if p6 ≤ x2 then
      some x1
    else
      gd (inB x2 12) <|
      nmL (x1 + ((Model_seenCount v0) (Int32.toNatClampNeg x2))) fun (x1_20 : Int32) =>
      nmL (x2 + 1) fun (x2_21 : Int32) =>
      Mod_seenInCycle_4 v0 n x1_20 x2_21

def Mod_seenInCycle (v0 : ModelV) : Option Int32 :=
  Mod_seenInCycle_4 v0 FU 0 0

def Mod_meet (x1 : Int32) (x2 : Int32) (x3 : Int32) (v0 : ModelV) : Option Bool :=
  Option.bind (Mod_place x1 x3 v0) fun p3 =>
  Option.bind (Mod_place x2 x3 v0) fun p9 =>
  if p3 = p9 then
    some true
  else
    some false

def Mod_passBy_22 (x1 : Int32) (x2 : Int32) (x3 : Int32) (v0 : ModelV)  (s0 : Int32) : Option Bool :=
  Option.bind (Mod_meet x1 x2 x3 v0) fun p28 =>
  bif p28 then
    some false
  else
    if s0 = 0 then
      some false
    else
      Option.bind (Mod_place x2 (x3 + 1) v0) fun p44 =>
      Option.bind (Mod_place x1 x3 v0) fun p50 =>
      if p44 = p50 then
        some true
      else
        some false

def Mod_passBy (x1 : Int32) (x2 : Int32) (x3 : Int32) (v0 : ModelV) : Option Bool :=
  Option.bind (Mod_place x1 (x3 + 1) v0) fun p5 =>
  Option.bind (Mod_place x2 x3 v0) fun p11 =>
  if p5 = p11 then
    Mod_passBy_22 x1 x2 x3 v0 1
  else
    Mod_passBy_22 x1 x2 x3 v0 0

def Mod_meetingsOf_5 (x1 : Int32) (x2 : Int32) (v0 : ModelV)  : Nat → Int32 → Int32 → Option Int32
  | 0, _, _ => none
  | n + 1, x3, x4 =>
    if Model_cycleNow v0 ≤ x4 then
      some x3
    else
      Option.bind (Mod_meet x1 x2 x4 v0) fun p20 =>
      bif p20 then
        nmL (x3 + 1) fun (x3_32 : Int32) =>
        nmL (x4 + 1) fun (x4_33 : Int32) =>
        Mod_meetingsOf_5 x1 x2 v0 n x3_32 x4_33
      else
        nmL (x3 + 0) fun (x3_32 : Int32) =>
        nmL (x4 + 1) fun (x4_33 : Int32) =>
        Mod_meetingsOf_5 x1 x2 v0 n x3_32 x4_33

def Mod_meetingsOf (x1 : Int32) (x2 : Int32) (v0 : ModelV) : Option Int32 :=
  Mod_meetingsOf_5 x1 x2 v0 FU 0 0

def Mod_passingsOf_5 (x1 : Int32) (x2 : Int32) (v0 : ModelV)  : Nat → Int32 → Int32 → Option Int32
  | 0, _, _ => none
  | n + 1, x3, x4 =>
    if Model_cycleNow v0 ≤ x4 then
      some x3
    else
      Option.bind (Mod_passBy x1 x2 x4 v0) fun p20 =>
      bif p20 then
        nmL (x3 + 1) fun (x3_32 : Int32) =>
        nmL (x4 + 1) fun (x4_33 : Int32) =>
        Mod_passingsOf_5 x1 x2 v0 n x3_32 x4_33
      else
        nmL (x3 + 0) fun (x3_32 : Int32) =>
        nmL (x4 + 1) fun (x4_33 : Int32) =>
        Mod_passingsOf_5 x1 x2 v0 n x3_32 x4_33

def Mod_passingsOf (x1 : Int32) (x2 : Int32) (v0 : ModelV) : Option Int32 :=
  Mod_passingsOf_5 x1 x2 v0 FU 0 0

def Mod_crossingsLaid_14 (v0 : ModelV) (x2 : Int32) (k4 : Int32 → Int32 → Option Int32) : Nat → Int32 → Int32 → Option Int32
  | 0, _, _ => none
  | n + 1, x1, x3 =>
    if x2 ≤ x3 then
      nmL (x2 + 1) fun (x2_41 : Int32) =>
      k4 x1 x2_41
    else
      Option.bind (Mod_meetingsOf x2 x3 v0) fun p23 =>
      Option.bind (Mod_passingsOf x2 x3 v0) fun p29 =>
      nmL (x1 + (p23 + p29)) fun (x1_34 : Int32) =>
      nmL (x3 + 1) fun (x3_35 : Int32) =>
      Mod_crossingsLaid_14 v0 x2 k4 n x1_34 x3_35

def Mod_crossingsLaid_4 (v0 : ModelV)  : Nat → Int32 → Int32 → Option Int32
  | 0, _, _ => none
  | n + 1, x1, x2 =>
    Option.bind (Mod_guards v0) fun p6 =>
    if p6 ≤ x2 then
      some x1
    else
      Mod_crossingsLaid_14 v0 x2 (fun (x1 : Int32) (x2 : Int32) => Mod_crossingsLaid_4 v0 n x1 x2) FU x1 0

def Mod_crossingsLaid (v0 : ModelV) : Option Int32 :=
  Mod_crossingsLaid_4 v0 FU 0 0

def Mod_nextPhases_7   : Nat → Int32 → ModelV → Option (Bool × ModelV)
  | 0, _, _ => none
  | n + 1, x1, v0 =>
    if x1 ≤ 0 then
      some (false, v0)
    else
      gd (inB x1 4) <|
      nmL (Model_set_phases v0 (upd (Model_phases v0) (Int32.toNatClampNeg x1) (((Model_phases v0) (Int32.toNatClampNeg x1)) + 1))) fun (v0_20 : ModelV) =>
      Option.bind (Mod_period x1 v0_20) fun p29 =>
      if p29 ≤ (Model_phases v0_20) (Int32.toNatClampNeg x1) then
        nmL (Model_set_phases v0_20 (upd (Model_phases v0_20) (Int32.toNatClampNeg x1) 0)) fun (v0_43 : ModelV) =>
        nmL (x1 + (-1)) fun (x1_44 : Int32) =>
        Mod_nextPhases_7 n x1_44 v0_43
      else
        some (true, v0_20)

def Mod_nextPhases (v0 : ModelV) : Option (Bool × ModelV) :=
  Option.bind (Mod_guards v0) fun p1 =>
  nmL (p1 - 1) fun (x1_6 : Int32) =>
  Mod_nextPhases_7 FU x1_6 v0

def Mod_judgePhases_67   : Nat → Int32 → ModelV → Option ModelV
  | 0, _, _ => none
  | n + 1, x3, v0 =>
    Option.bind (Mod_guards v0) fun p69 =>
    if p69 ≤ x3 then
      some v0
    else
      gd (inB x3 4) <|
      nmL (Model_set_bestPhases v0 (upd (Model_bestPhases v0) (Int32.toNatClampNeg x3) ((Model_phases v0) (Int32.toNatClampNeg x3)))) fun (v0_86 : ModelV) =>
      nmL (x3 + 1) fun (x3_87 : Int32) =>
      Mod_judgePhases_67 n x3_87 v0_86

def Mod_judgePhases_26   (x1 : Int32) (v0 : ModelV) : Option ModelV :=
  Option.bind (Mod_crossingsLaid v0) fun p27 =>
  if Model_leastWorst v0 = (-1) then
    nmL (Model_set_leastWorst v0 x1) fun (v0_57 : ModelV) =>
    nmL (Model_set_leastCrossings v0_57 p27) fun (v0_62 : ModelV) =>
    Mod_judgePhases_67 FU 0 v0_62
  else
    if x1 < Model_leastWorst v0 then
      nmL (Model_set_leastWorst v0 x1) fun (v0_57 : ModelV) =>
      nmL (Model_set_leastCrossings v0_57 p27) fun (v0_62 : ModelV) =>
      Mod_judgePhases_67 FU 0 v0_62
    else
      if Model_leastCrossings v0 ≤ p27 then
        some v0
      else
        nmL (Model_set_leastWorst v0 x1) fun (v0_57 : ModelV) =>
        nmL (Model_set_leastCrossings v0_57 p27) fun (v0_62 : ModelV) =>
        Mod_judgePhases_67 FU 0 v0_62

def Mod_judgePhases (v0 : ModelV) : Option ModelV :=
  Option.bind (Mod_layCycle v0) fun p1 =>
  Option.bind (Mod_worstLaid p1) fun p5 =>
  if Model_leastWorst p1 = (-1) then
    Mod_judgePhases_26 p5 p1
  else
    if p5 ≤ Model_leastWorst p1 then
      Mod_judgePhases_26 p5 p1
    else
      some p1

def Mod_layBest_32   : Nat → ModelV → Option ModelV
  | 0, _ => none
  | n + 1, v0 =>
    Option.bind (Mod_nextPhases v0) fun p33 =>
    bif p33.1 then
      Option.bind (Mod_judgePhases p33.2) fun p40 =>
      Mod_layBest_32 n p40
    else
      some p33.2

def Mod_layBest_7   : Nat → Int32 → ModelV → Option ModelV
  | 0, _, _ => none
  | n + 1, x1, v0 =>
    Option.bind (Mod_guards v0) fun p9 =>
    if p9 ≤ x1 then
      Option.bind (Mod_judgePhases v0) fun p29 =>
      Mod_layBest_32 FU p29
    else
      gd (inB x1 4) <|
      nmL (Model_set_phases v0 (upd (Model_phases v0) (Int32.toNatClampNeg x1) 0)) fun (v0_21 : ModelV) =>
      nmL (x1 + 1) fun (x1_22 : Int32) =>
      Mod_layBest_7 n x1_22 v0_21

def Mod_layBest (v0 : ModelV) : Option ModelV :=
  nmL (Model_set_leastWorst v0 (-1)) fun (v0_2 : ModelV) =>
  Mod_layBest_7 FU 0 v0_2

def Mod_reachFrom_56 (x1 : Int32) (x2 : Int32) (v0 : ModelV)  (k14 : Int32 → Int32 → Option Int32) (x3 : Int32) (x4 : Int32) (x5 : Int32) (s0 : Int32) : Option Int32 :=
  if s0 = 0 then
    nmL (x3 &&& (-1)) fun (x3_75 : Int32) =>
    nmL (x4 + 1) fun (x4_76 : Int32) =>
    k14 x3_75 x4_76
  else
    nmL (x3 &&& ((1 <<< (x5 &&& 31)) ^^^ (-1))) fun (x3_75 : Int32) =>
    nmL (x4 + 1) fun (x4_76 : Int32) =>
    k14 x3_75 x4_76

def Mod_reachFrom_55 (x1 : Int32) (x2 : Int32) (v0 : ModelV)  (k14 : Int32 → Int32 → Option Int32) (x3 : Int32) (x4 : Int32) (x5 : Int32) : Option Int32 :=
  Mod_reachFrom_56 x1 x2 v0 k14 x3 x4 x5 0

def Mod_reachFrom_14 (x1 : Int32) (x2 : Int32) (v0 : ModelV)  : Nat → Int32 → Int32 → Option Int32
  | 0, _, _ => none
  | n + 1, x3, x4 =>
    Option.bind (Mod_guards v0) fun p17 =>
    if p17 ≤ x4 then
      Option.bind (Mod_seenAt (x2 + 1) v0) fun p87 =>
      some (x3 &&& (p87 ^^^ (-1)))
    else
      Option.bind (Mod_place x4 x2 v0) fun p27 =>
      if p27 = x1 then
        Mod_reachFrom_55 x1 x2 v0 (fun (x3 : Int32) (x4 : Int32) => Mod_reachFrom_14 x1 x2 v0 n x3 x4) x3 x4 p27
      else
        Option.bind (Mod_place x4 (x2 + 1) v0) fun p44 =>
        if p44 = x1 then
          Mod_reachFrom_56 x1 x2 v0 (fun (x3 : Int32) (x4 : Int32) => Mod_reachFrom_14 x1 x2 v0 n x3 x4) x3 x4 p27 1
        else
          Mod_reachFrom_55 x1 x2 v0 (fun (x3 : Int32) (x4 : Int32) => Mod_reachFrom_14 x1 x2 v0 n x3 x4) x3 x4 p27

def Mod_reachFrom (x1 : Int32) (x2 : Int32) (v0 : ModelV) : Option Int32 :=
  gd (inB x1 12) <|
  nmL (((Model_joined v0) (Int32.toNatClampNeg x1)) ||| (1 <<< (x1 &&& 31))) fun (x3_10 : Int32) =>
  Mod_reachFrom_14 x1 x2 v0 FU x3_10 0

def Mod_nextRooms_5 (x1 : Int32) (x2 : Int32) (v0 : ModelV)  : Nat → Int32 → Int32 → Option Int32
  | 0, _, _ => none
  | n + 1, x3, x4 =>
    Option.bind (Mod_rooms v0) fun p8 =>
    if p8 ≤ x4 then
      some x3
    else
      Option.bind (Mod_has x1 x4) fun p18 =>
      bif p18 then
        Option.bind (Mod_reachFrom x4 x2 v0) fun p28 =>
        nmL (x3 ||| p28) fun (x3_36 : Int32) =>
        nmL (x4 + 1) fun (x4_37 : Int32) =>
        Mod_nextRooms_5 x1 x2 v0 n x3_36 x4_37
      else
        nmL (x3 ||| 0) fun (x3_36 : Int32) =>
        nmL (x4 + 1) fun (x4_37 : Int32) =>
        Mod_nextRooms_5 x1 x2 v0 n x3_36 x4_37

def Mod_nextRooms (x1 : Int32) (x2 : Int32) (v0 : ModelV) : Option Int32 :=
  Mod_nextRooms_5 x1 x2 v0 FU 0 0

def Mod_firstRooms (x1 : Int32) (x2 : Int32) (v0 : ModelV) : Option (Int32 × ModelV) :=
  Option.bind (Mod_takePhases v0) fun p1 =>
  Option.bind (Mod_layJoined p1) fun p5 =>
  Option.bind (Mod_seenAt x2 p5) fun p13 =>
  some ((1 <<< (x1 &&& 31)) &&& (p13 ^^^ (-1)), p5)

def Mod_sightings_4 (v0 : ModelV)  : Nat → Int32 → Int32 → Option Int32
  | 0, _, _ => none
  | n + 1, x1, x2 =>
    Option.bind (Mod_rooms v0) fun p6 =>
    if p6 ≤ x2 then
      some x1
    else
      Option.bind (Mod_ofRoom x2 1 v0) fun p16 =>
      nmL (x1 + p16) fun (x1_20 : Int32) =>
      nmL (x2 + 1) fun (x2_21 : Int32) =>
      Mod_sightings_4 v0 n x1_20 x2_21

def Mod_sightings (v0 : ModelV) : Option Int32 :=
  Mod_sightings_4 v0 FU 0 0

def Mod_different_4 (x1 : Int32) (v0 : ModelV)  : Nat → Int32 → Int32 → Option Int32
  | 0, _, _ => none
  | n + 1, x2, x3 =>
    Option.bind (Mod_period x1 v0) fun p7 =>
    if p7 ≤ x3 then
      Option.bind (J_bitCount x2) fun p31 =>
      some p31
    else
      Option.bind (Mod_step x1 x3 v0) fun p18 =>
      nmL (x2 ||| (1 <<< (p18 &&& 31))) fun (x2_23 : Int32) =>
      nmL (x3 + 1) fun (x3_24 : Int32) =>
      Mod_different_4 x1 v0 n x2_23 x3_24

def Mod_different (x1 : Int32) (v0 : ModelV) : Option Int32 :=
  Mod_different_4 x1 v0 FU 0 0

def Mod_isMinute (x0 : Int32) : Option Bool :=
  Option.bind (Mod_inRange x0 0 1000000) fun p5 =>
  some p5

def Mod_arePair_22 (x1 : Int32) (x2 : Int32)  (s0 : Int32) (v0 : ModelV) : Option (Bool × ModelV) :=
  nmL (Model_set_thrown v0 s0) fun (v0_22 : ModelV) =>
  Option.bind (Mod_takePhases v0_22) fun p26 =>
  Option.bind (Mod_cycle p26) fun p31 =>
  nmL (Model_set_cycleNow p26 p31) fun (v0_34 : ModelV) =>
  if Model_thrown v0_34 = 0 then
    if x1 = x2 then
      some (false, v0_34)
    else
      some (true, v0_34)
  else
    some (false, v0_34)

def Mod_arePair_21 (x1 : Int32) (x2 : Int32)  (v0 : ModelV) : Option (Bool × ModelV) :=
  Mod_arePair_22 x1 x2 1 v0

def Mod_arePair (x1 : Int32) (x2 : Int32) (v0 : ModelV) : Option (Bool × ModelV) :=
  Option.bind (Mod_isGuard x1 v0) fun p3 =>
  bif p3 then
    Option.bind (Mod_isGuard x2 v0) fun p11 =>
    bif p11 then
      Mod_arePair_22 x1 x2 0 v0
    else
      Mod_arePair_21 x1 x2 v0
  else
    Mod_arePair_21 x1 x2 v0

def Mod_isPhase (x1 : Int32) (x2 : Int32) (v0 : ModelV) : Option Bool :=
  Option.bind (Mod_period x1 v0) fun p4 =>
  Option.bind (Mod_inRange x2 0 (p4 - 1)) fun p9 =>
  some p9

def Mod_roomsD (v0 : ModelV) : Option Int32 :=
  gd (inB 0 172) <|
  some ((Model_draft v0) (Int32.toNatClampNeg 0))

def Mod_guardsD (v0 : ModelV) : Option Int32 :=
  gd (inB 2 172) <|
  some ((Model_draft v0) (Int32.toNatClampNeg 2))

def Mod_ofDoorD (x1 : Int32) (x2 : Int32) (v0 : ModelV) : Option Int32 :=
  Option.bind (Mod_doorAt x1 x2) fun p6 =>
  gd (inB p6 172) <|
  some ((Model_draft v0) (Int32.toNatClampNeg p6))

def Mod_stepD (x1 : Int32) (x2 : Int32) (v0 : ModelV) : Option Int32 :=
  Option.bind (Mod_guardAt x1 (2 + x2)) fun p8 =>
  gd (inB p8 172) <|
  some ((Model_draft v0) (Int32.toNatClampNeg p8))

def Mod_isRoomD (x1 : Int32) (v0 : ModelV) : Option Bool :=
  Option.bind (Mod_roomsD v0) fun p3 =>
  Option.bind (Mod_inRange x1 0 (p3 - 1)) fun p8 =>
  some p8

def Mod_isBetweenD_20 (x1 : Int32) (x2 : Int32) (x3 : Int32) (v0 : ModelV)   : Option Bool :=
  Option.bind (Mod_ofDoorD x1 0 v0) fun p23 =>
  if p23 = x3 then
    Option.bind (Mod_ofDoorD x1 1 v0) fun p33 =>
    if p33 = x2 then
      some true
    else
      some false
  else
    some false

def Mod_isBetweenD (x1 : Int32) (x2 : Int32) (x3 : Int32) (v0 : ModelV) : Option Bool :=
  Option.bind (Mod_ofDoorD x1 0 v0) fun p3 =>
  if p3 = x2 then
    Option.bind (Mod_ofDoorD x1 1 v0) fun p13 =>
    if p13 = x3 then
      some true
    else
      Mod_isBetweenD_20 x1 x2 x3 v0
  else
    Mod_isBetweenD_20 x1 x2 x3 v0

def Mod_openBetweenD_5 (x1 : Int32) (x2 : Int32) (v0 : ModelV)  : Nat → Int32 → Int32 → Option Int32
  | 0, _, _ => none
  | n + 1, x3, x4 =>
    gd (inB 1 172) <|
    if (Model_draft v0) (Int32.toNatClampNeg 1) ≤ x4 then
      some x3
    else
      Option.bind (Mod_isBetweenD x4 x1 x2 v0) fun p22 =>
      bif p22 then
        Option.bind (Mod_ofDoorD x4 2 v0) fun p32 =>
        nmL (x3 + p32) fun (x3_40 : Int32) =>
        nmL (x4 + 1) fun (x4_41 : Int32) =>
        Mod_openBetweenD_5 x1 x2 v0 n x3_40 x4_41
      else
        nmL (x3 + 0) fun (x3_40 : Int32) =>
        nmL (x4 + 1) fun (x4_41 : Int32) =>
        Mod_openBetweenD_5 x1 x2 v0 n x3_40 x4_41

def Mod_openBetweenD (x1 : Int32) (x2 : Int32) (v0 : ModelV) : Option Int32 :=
  Mod_openBetweenD_5 x1 x2 v0 FU 0 0

