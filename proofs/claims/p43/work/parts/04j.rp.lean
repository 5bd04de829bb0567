def GW_needRoom (x1 : Int32) (v0 : GWV) (v1 : HouseV) : Option Unit :=
  Option.bind (House_hasRoom x1 v1) fun p5 =>
  bif p5 then
    some ()
  else
    none

def GW_needDoor (x1 : Int32) (v0 : GWV) (v1 : HouseV) : Option Unit :=
  Option.bind (House_hasDoor x1 v1) fun p5 =>
  bif p5 then
    some ()
  else
    none

def GW_needGuard (x1 : Int32) (v0 : GWV) (v1 : HouseV) : Option Unit :=
  Option.bind (House_hasGuard x1 v1) fun p5 =>
  bif p5 then
    some ()
  else
    none

def GW_needRange_10 (x0 : Int32) (x1 : Int32) (x2 : Int32)   : Option Unit :=
  none

def GW_needRange (x0 : Int32) (x1 : Int32) (x2 : Int32) : Option Unit :=
  if x0 < x1 then
    GW_needRange_10 x0 x1 x2
  else
    if x0 ≤ x2 then
      some ()
    else
      GW_needRange_10 x0 x1 x2

def GW_needNotNegative (x0 : Int32) : Option Unit :=
  if 0 ≤ x0 then
    some ()
  else
    none

def GW_feed (x1 : Int32) (x2 : Int32) (x3 : Int32) (x4 : Int32) (x5 : Int32) (v0 : GWV) (v1 : ToksV) : Option (Int32 × ToksV) :=
  if Toks_filled v1 ≤ 580 then
    Option.bind (Toks_addBytes x1 v1) fun p20 =>
    Option.bind (Toks_addBytes x2 p20) fun p28 =>
    Option.bind (Toks_addBytes x3 p28) fun p36 =>
    Option.bind (Toks_addBytes x4 p36) fun p45 =>
    Option.bind (Toks_addBytes x5 p45) fun p54 =>
    some (Toks_filled p54, p54)
  else
    some ((-1), v1)

def GW_endReading (x1 : Int32) (v0 : GWV) (v1 : ToksV) : Option (GWV × ToksV) :=
  if x1 = 0 then
    nmL (GW_set_lastErrorPosition v0 (-1)) fun (v0_16 : GWV) =>
    nmL (Toks_set_filled v1 0) fun (v1_24 : ToksV) =>
    some (v0_16, v1_24)
  else
    nmL (GW_set_lastErrorPosition v0 (Toks_from v1)) fun (v0_16 : GWV) =>
    nmL (Toks_set_filled v1 0) fun (v1_24 : ToksV) =>
    some (v0_16, v1_24)

def GW_markPhasesChanged (v0 : GWV) (v1 : HouseV) : Option (GWV × HouseV) :=
  nmL (GW_set_lastStamp v0 ((GW_lastStamp v0) + 1)) fun (v0_7 : GWV) =>
  nmL (House_set_phasesStamp v1 (GW_lastStamp v0_7)) fun (v1_18 : HouseV) =>
  some (v0_7, v1_18)

def GW_markWalksChanged (v0 : GWV) (v1 : HouseV) : Option (GWV × HouseV) :=
  Option.bind (GW_markPhasesChanged v0 v1) fun p1 =>
  nmL (House_set_walksStamp p1.2 (GW_lastStamp p1.1)) fun (v1_12 : HouseV) =>
  some (p1.1, v1_12)

def GW_measured (v0 : GWV) (v1 : HouseV) (v2 : SightV) : Option SightV :=
  if Sight_stamp v2 = House_phasesStamp v1 then
    some v2
  else
    Option.bind (Sight_measure v2 v1) fun p25 =>
    some p25

def GW_best (v0 : GWV) (v1 : HouseV) (v2 : BestV) (v3 : HouseV) (v4 : SightV) : Option (BestV × HouseV × SightV) :=
  if Best_stamp v2 = House_walksStamp v1 then
    some (v2, v3, v4)
  else
    Option.bind (Best_search v2 v3 v4 v1) fun p25 =>
    some (p25.1, p25.2.1, p25.2.2)

def GW_load (x1 : Int32) (v0 : GWV) (v1 : HouseV) (v2 : HouseV) (v3 : HistV) (v4 : ToksV) : Option (Int32 × GWV × HouseV × HouseV × HistV × ToksV) :=
  Option.bind (GW_needRange x1 0 (Toks_filled v4)) fun p9 =>
  Option.bind (Toks_begin x1 v4) fun p17 =>
  Option.bind (HRead_readHouse p17 v2) fun p28 =>
  Option.bind (GW_endReading p28.1 v0 p28.2.1) fun p34 =>
  if p28.1 = 0 then
    Option.bind (House_copyFrom v1 p28.2.2) fun p54 =>
    Option.bind (GW_markWalksChanged p34.1 p54) fun p58 =>
    Option.bind (Hist_forget v3) fun p65 =>
    some (House_rooms p58.2, p58.1, p58.2, p28.2.2, p65, p34.2)
  else
    some ((-10) - p28.1, p34.1, v1, p28.2.2, v3, p34.2)

def GW_size (x1 : Int32) (v0 : GWV) (v1 : HouseV) (v2 : SightV) : Option (Int32 × SightV) :=
  if Int32.toInt x1 < 0 ∨ 9 < Int32.toInt x1 then
    none
  else if x1 = 0 then
    some (House_rooms v1, v2)
  else if x1 = 1 then
    some (House_doors v1, v2)
  else if x1 = 2 then
    some (House_guards v1, v2)
  else if x1 = 3 then
    Option.bind (House_cycleLength v1) fun p84 =>
    some (p84, v2)
  else if x1 = 4 then
    some (House_minute v1, v2)
  else if x1 = 5 then
    Option.bind (GW_measured v0 v1 v2) fun p97 =>
    some (Sight_worst p97, p97)
  else if x1 = 6 then
    Option.bind (GW_measured v0 v1 v2) fun p105 =>
    Option.bind (Sight_countLate p105 v1) fun p112 =>
    some (p112, p105)
  else if x1 = 7 then
    Option.bind (House_countCrossings v1) fun p120 =>
    some (p120, v2)
  else if x1 = 8 then
    Option.bind (House_countOpenDoors v1) fun p128 =>
    some (p128, v2)
  else if x1 = 9 then
    Option.bind (House_countSightings v1) fun p136 =>
    some (p136, v2)
  else none

def GW_door (x1 : Int32) (x2 : Int32) (v0 : GWV) (v1 : HouseV) : Option Int32 :=
  Option.bind (GW_needDoor x1 v0 v1) fun p2 =>
  if Int32.toInt x2 < 0 ∨ 3 < Int32.toInt x2 then
    none
  else if x2 = 0 then
    gd (inB x1 20) <|
    some ((House_doorFirst v1) (Int32.toNatClampNeg x1))
  else if x2 = 1 then
    gd (inB x1 20) <|
    some ((House_doorSecond v1) (Int32.toNatClampNeg x1))
  else if x2 = 2 then
    Option.bind (House_isOpen x1 v1) fun p61 =>
    bif p61 then
      some 1
    else
      some 0
  else if x2 = 3 then
    Option.bind (House_countGuardsThrough x1 v1) fun p78 =>
    some p78
  else none

def GW_room (x1 : Int32) (x2 : Int32) (v0 : GWV) (v1 : HouseV) (v2 : SightV) : Option (Int32 × SightV) :=
  Option.bind (GW_needRoom x1 v0 v1) fun p2 =>
  if Int32.toInt x2 < 0 ∨ 7 < Int32.toInt x2 then
    none
  else if x2 = 0 then
    gd (inB x1 12) <|
    some ((House_limits v1) (Int32.toNatClampNeg x1), v2)
  else if x2 = 1 then
    Option.bind (GW_measured v0 v1 v2) fun p63 =>
    gd (inB x1 12) <|
    some ((Sight_gaps p63) (Int32.toNatClampNeg x1), p63)
  else if x2 = 2 then
    Option.bind (GW_measured v0 v1 v2) fun p73 =>
    Option.bind (Sight_isLate x1 p73 v1) fun p81 =>
    bif p81 then
      some (1, p73)
    else
      some (0, p73)
  else if x2 = 3 then
    Option.bind (GW_measured v0 v1 v2) fun p94 =>
    gd (inB x1 12) <|
    some ((Sight_seen p94) (Int32.toNatClampNeg x1), p94)
  else if x2 = 4 then
    gd (inB x1 12) <|
    some ((House_sightings v1) (Int32.toNatClampNeg x1), v2)
  else if x2 = 5 then
    gd (inB x1 12) <|
    some ((House_lastSeen v1) (Int32.toNatClampNeg x1), v2)
  else if x2 = 6 then
    gd (inB x1 12) <|
    some ((House_runs v1) (Int32.toNatClampNeg x1), v2)
  else if x2 = 7 then
    gd (inB x1 12) <|
    some ((House_longestRuns v1) (Int32.toNatClampNeg x1), v2)
  else none

def GW_guard (x1 : Int32) (x2 : Int32) (v0 : GWV) (v1 : HouseV) : Option Int32 :=
  Option.bind (GW_needGuard x1 v0 v1) fun p2 =>
  if Int32.toInt x2 < 0 ∨ 3 < Int32.toInt x2 then
    none
  else if x2 = 0 then
    gd (inB x1 4) <|
    some ((House_periods v1) (Int32.toNatClampNeg x1))
  else if x2 = 1 then
    gd (inB x1 4) <|
    some ((House_phases v1) (Int32.toNatClampNeg x1))
  else if x2 = 2 then
    Option.bind (House_roomAt x1 (House_minute v1) v1) fun p68 =>
    some p68
  else if x2 = 3 then
    gd (inB x1 4) <|
    Option.bind (J_bitCount ((House_walked v1) (Int32.toNatClampNeg x1))) fun p81 =>
    some p81
  else none

def GW_walk (x1 : Int32) (x2 : Int32) (v0 : GWV) (v1 : HouseV) : Option Int32 :=
  Option.bind (GW_needGuard x1 v0 v1) fun p2 =>
  Option.bind (House_walkRoom x1 x2 v1) fun p11 =>
  some p11

def GW_roomOf (x1 : Int32) (x2 : Int32) (v0 : GWV) (v1 : HouseV) : Option Int32 :=
  Option.bind (GW_needGuard x1 v0 v1) fun p2 =>
  Option.bind (GW_needNotNegative x2) fun p6 =>
  Option.bind (House_roomAt x1 x2 v1) fun p15 =>
  some p15

def GW_guardsIn (x1 : Int32) (x2 : Int32) (v0 : GWV) (v1 : HouseV) : Option Int32 :=
  Option.bind (GW_needRoom x1 v0 v1) fun p2 =>
  Option.bind (GW_needNotNegative x2) fun p6 =>
  Option.bind (House_guardsAt x1 x2 v1) fun p15 =>
  some p15

def GW_nextSeen_23 (x1 : Int32) (x2 : Int32) (v0 : GWV) (v1 : HouseV) (x3 : Int32) : Nat → Int32 → Option Int32
  | 0, _ => none
  | n + 1, x4 =>
    if x3 ≤ x4 then
      some (-1)
    else
      Option.bind (House_guardsAt x1 (x2 + x4) v1) fun p38 =>
      if p38 = 0 then
        nmL (x4 + 1) fun (x4_49 : Int32) =>
        GW_nextSeen_23 x1 x2 v0 v1 x3 n x4_49
      else
        some (x2 + x4)

def GW_nextSeen (x1 : Int32) (x2 : Int32) (v0 : GWV) (v1 : HouseV) : Option Int32 :=
  Option.bind (GW_needRoom x1 v0 v1) fun p2 =>
  Option.bind (GW_needRange x2 0 1000000) fun p9 =>
  Option.bind (House_cycleLength v1) fun p16 =>
  GW_nextSeen_23 x1 x2 v0 v1 p16 FU 0

def GW_gapFrom (x1 : Int32) (v0 : GWV) (v1 : HouseV) (v2 : SightV) : Option (Int32 × SightV) :=
  Option.bind (GW_needRoom x1 v0 v1) fun p2 =>
  Option.bind (GW_measured v0 v1 v2) fun p6 =>
  gd (inB x1 12) <|
  some ((Sight_gapStarts p6) (Int32.toNatClampNeg x1), p6)

def GW_isJoined (x1 : Int32) (x2 : Int32) (v0 : GWV) (v1 : HouseV) : Option Bool :=
  Option.bind (GW_needRoom x1 v0 v1) fun p2 =>
  Option.bind (GW_needRoom x2 v0 v1) fun p7 =>
  Option.bind (House_areJoined x1 x2 v1) fun p16 =>
  some p16

def GW_distance (x1 : Int32) (x2 : Int32) (v0 : GWV) (v1 : HouseV) : Option Int32 :=
  Option.bind (GW_needRoom x1 v0 v1) fun p2 =>
  Option.bind (GW_needRoom x2 v0 v1) fun p7 =>
  Option.bind (House_doorsBetween x1 x2 v1) fun p16 =>
  some p16

def GW_meetings (x1 : Int32) (x2 : Int32) (v0 : GWV) (v1 : HouseV) : Option Int32 :=
  Option.bind (GW_needGuard x1 v0 v1) fun p2 =>
  Option.bind (GW_needGuard x2 v0 v1) fun p7 =>
  Option.bind (House_countPair x1 x2 1 0 v1) fun p18 =>
  some p18

def GW_passings (x1 : Int32) (x2 : Int32) (v0 : GWV) (v1 : HouseV) : Option Int32 :=
  Option.bind (GW_needGuard x1 v0 v1) fun p2 =>
  Option.bind (GW_needGuard x2 v0 v1) fun p7 =>
  Option.bind (House_countPair x1 x2 0 1 v1) fun p18 =>
  some p18

def GW_worstWith (x1 : Int32) (x2 : Int32) (v0 : GWV) (v1 : HouseV) (v2 : HouseV) (v3 : SightV) : Option (Int32 × HouseV × SightV) :=
  Option.bind (GW_needGuard x1 v0 v1) fun p2 =>
  gd (inB x1 4) <|
  Option.bind (GW_needRange x2 0 (((House_periods v1) (Int32.toNatClampNeg x1)) - 1)) fun p18 =>
  Option.bind (House_copyFrom v2 v1) fun p29 =>
  nmL (House_set_phases p29 (upd (House_phases p29) (Int32.toNatClampNeg x1) x2)) fun (v2_41 : HouseV) =>
  Option.bind (Sight_measure v3 v2_41) fun p50 =>
  some (Sight_worst p50, v2_41, p50)

def GW_bestWorst (v0 : GWV) (v1 : HouseV) (v2 : BestV) (v3 : HouseV) (v4 : SightV) : Option (Int32 × BestV × HouseV × SightV) :=
  Option.bind (GW_best v0 v1 v2 v3 v4) fun p1 =>
  some (Best_worst p1.1, p1.1, p1.2.1, p1.2.2)

def GW_bestCrossings (v0 : GWV) (v1 : HouseV) (v2 : BestV) (v3 : HouseV) (v4 : SightV) : Option (Int32 × BestV × HouseV × SightV) :=
  Option.bind (GW_best v0 v1 v2 v3 v4) fun p1 =>
  some (Best_crossings p1.1, p1.1, p1.2.1, p1.2.2)

def GW_bestPhase (x1 : Int32) (v0 : GWV) (v1 : HouseV) (v2 : BestV) (v3 : HouseV) (v4 : SightV) : Option (Int32 × BestV × HouseV × SightV) :=
  Option.bind (GW_needGuard x1 v0 v1) fun p2 =>
  Option.bind (GW_best v0 v1 v2 v3 v4) fun p6 =>
  gd (inB x1 4) <|
  some ((Best_phases p6.1) (Int32.toNatClampNeg x1), p6.1, p6.2.1, p6.2.2)

