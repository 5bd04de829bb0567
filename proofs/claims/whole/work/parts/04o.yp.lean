def Mod_size (x1 : Int32) (v0 : ModelV) : Option (Int32 × ModelV) :=
  nmL (Model_set_thrown v0 0) fun (v0_2 : ModelV) =>
  Option.bind (Mod_layNow v0_2) fun p6 =>
  if Int32.toInt x1 < 0 ∨ 9 < Int32.toInt x1 then
    Option.bind (Mod_raise 1 p6) fun p111 =>
    some (p111.1, p111.2)
  else if x1 = 0 then
    gd (inB x1 172) <|
    some ((Model_now p6) (Int32.toNatClampNeg x1), p6)
  else if x1 = 1 then
    gd (inB x1 172) <|
    some ((Model_now p6) (Int32.toNatClampNeg x1), p6)
  else if x1 = 2 then
    gd (inB x1 172) <|
    some ((Model_now p6) (Int32.toNatClampNeg x1), p6)
  else if x1 = 3 then
    some (Model_cycleNow p6, p6)
  else if x1 = 4 then
    gd (inB 3 172) <|
    some ((Model_now p6) (Int32.toNatClampNeg 3), p6)
  else if x1 = 5 then
    Option.bind (Mod_worstLaid p6) fun p84 =>
    some (p84, p6)
  else if x1 = 6 then
    Option.bind (Mod_lateLaid p6) fun p89 =>
    some (p89, p6)
  else if x1 = 7 then
    Option.bind (Mod_crossingsLaid p6) fun p94 =>
    some (p94, p6)
  else if x1 = 8 then
    Option.bind (Mod_openAt (-1) p6) fun p100 =>
    some (p100, p6)
  else if x1 = 9 then
    Option.bind (Mod_sightings p6) fun p105 =>
    some (p105, p6)
  else none

def Mod_door_22 (x1 : Int32) (x2 : Int32)  (v0 : ModelV) : Option (Int32 × ModelV) :=
  Option.bind (Mod_raise 1 v0) fun p24 =>
  some (p24.1, p24.2)

def Mod_door (x1 : Int32) (x2 : Int32) (v0 : ModelV) : Option (Int32 × ModelV) :=
  nmL (Model_set_thrown v0 0) fun (v0_2 : ModelV) =>
  Option.bind (Mod_isDoor x1 v0_2) fun p7 =>
  bif p7 then
    Option.bind (Mod_inRange x2 0 3) fun p16 =>
    bif p16 then
      if x2 = 3 then
        Option.bind (Mod_walksThrough x1 v0_2) fun p35 =>
        some (p35, v0_2)
      else
        Option.bind (Mod_ofDoor x1 x2 v0_2) fun p44 =>
        some (p44, v0_2)
    else
      Mod_door_22 x1 x2 v0_2
  else
    Mod_door_22 x1 x2 v0_2

def Mod_room_107 (x1 : Int32) (x2 : Int32)  (v0 : ModelV) : Option (Int32 × ModelV) :=
  Option.bind (Mod_ofRoom x1 (x2 - 3) v0) fun p112 =>
  some (p112, v0)

def Mod_room (x1 : Int32) (x2 : Int32) (v0 : ModelV) : Option (Int32 × ModelV) :=
  nmL (Model_set_thrown v0 0) fun (v0_2 : ModelV) =>
  Option.bind (Mod_isRoom x1 v0_2) fun p7 =>
  bif p7 then
    Option.bind (Mod_layNow v0_2) fun p20 =>
    if Int32.toInt x2 < 0 ∨ 7 < Int32.toInt x2 then
      Option.bind (Mod_raise 1 p20) fun p118 =>
      some (p118.1, p118.2)
    else if x2 = 0 then
      Option.bind (Mod_ofRoom x1 0 p20) fun p75 =>
      some (p75, p20)
    else if x2 = 1 then
      gd (inB x1 12) <|
      some ((Model_gap p20) (Int32.toNatClampNeg x1), p20)
    else if x2 = 2 then
      Option.bind (Mod_isLate x1 p20) fun p88 =>
      bif p88 then
        some (1, p20)
      else
        some (0, p20)
    else if x2 = 3 then
      gd (inB x1 12) <|
      some ((Model_seenCount p20) (Int32.toNatClampNeg x1), p20)
    else if x2 = 4 then
      Mod_room_107 x1 x2 p20
    else if x2 = 5 then
      Mod_room_107 x1 x2 p20
    else if x2 = 6 then
      Mod_room_107 x1 x2 p20
    else if x2 = 7 then
      Mod_room_107 x1 x2 p20
    else none
  else
    Option.bind (Mod_raise 1 v0_2) fun p15 =>
    some (p15.1, p15.2)

def Mod_guard (x1 : Int32) (x2 : Int32) (v0 : ModelV) : Option (Int32 × ModelV) :=
  nmL (Model_set_thrown v0 0) fun (v0_2 : ModelV) =>
  Option.bind (Mod_isGuard x1 v0_2) fun p7 =>
  bif p7 then
    Option.bind (Mod_takePhases v0_2) fun p20 =>
    if Int32.toInt x2 < 0 ∨ 3 < Int32.toInt x2 then
      Option.bind (Mod_raise 1 p20) fun p88 =>
      some (p88.1, p88.2)
    else if x2 = 0 then
      Option.bind (Mod_period x1 p20) fun p58 =>
      some (p58, p20)
    else if x2 = 1 then
      Option.bind (Mod_phaseOf x1 p20) fun p64 =>
      some (p64, p20)
    else if x2 = 2 then
      gd (inB 3 172) <|
      Option.bind (Mod_place x1 ((Model_now p20) (Int32.toNatClampNeg 3)) p20) fun p76 =>
      some (p76, p20)
    else if x2 = 3 then
      Option.bind (Mod_different x1 p20) fun p82 =>
      some (p82, p20)
    else none
  else
    Option.bind (Mod_raise 1 v0_2) fun p15 =>
    some (p15.1, p15.2)

def Mod_walk (x1 : Int32) (x2 : Int32) (v0 : ModelV) : Option (Int32 × ModelV) :=
  nmL (Model_set_thrown v0 0) fun (v0_2 : ModelV) =>
  Option.bind (Mod_isGuard x1 v0_2) fun p7 =>
  bif p7 then
    Option.bind (Mod_period x1 v0_2) fun p23 =>
    Option.bind (Mod_inRange x2 0 (p23 - 1)) fun p28 =>
    bif p28 then
      Option.bind (Mod_step x1 x2 v0_2) fun p37 =>
      some (p37, v0_2)
    else
      some ((-1), v0_2)
  else
    Option.bind (Mod_raise 1 v0_2) fun p15 =>
    some (p15.1, p15.2)

def Mod_roomOf_22 (x1 : Int32) (x2 : Int32)  (s0 : Int32) (v0 : ModelV) : Option (Int32 × ModelV) :=
  nmL (Model_set_thrown v0 s0) fun (v0_22 : ModelV) =>
  if Model_thrown v0_22 = 0 then
    Option.bind (Mod_takePhases v0_22) fun p35 =>
    Option.bind (Mod_place x1 x2 p35) fun p41 =>
    some (p41, p35)
  else
    some (0, v0_22)

def Mod_roomOf (x1 : Int32) (x2 : Int32) (v0 : ModelV) : Option (Int32 × ModelV) :=
  Option.bind (Mod_isGuard x1 v0) fun p3 =>
  bif p3 then
    if x2 < 0 then
      Mod_roomOf_22 x1 x2 2 v0
    else
      Mod_roomOf_22 x1 x2 0 v0
  else
    Mod_roomOf_22 x1 x2 1 v0

def Mod_guardsIn_22 (x1 : Int32) (x2 : Int32)  (s0 : Int32) (v0 : ModelV) : Option (Int32 × ModelV) :=
  nmL (Model_set_thrown v0 s0) fun (v0_22 : ModelV) =>
  if Model_thrown v0_22 = 0 then
    Option.bind (Mod_takePhases v0_22) fun p35 =>
    Option.bind (Mod_guardsAt x1 x2 p35) fun p41 =>
    some (p41, p35)
  else
    some (0, v0_22)

def Mod_guardsIn (x1 : Int32) (x2 : Int32) (v0 : ModelV) : Option (Int32 × ModelV) :=
  Option.bind (Mod_isRoom x1 v0) fun p3 =>
  bif p3 then
    if x2 < 0 then
      Mod_guardsIn_22 x1 x2 2 v0
    else
      Mod_guardsIn_22 x1 x2 0 v0
  else
    Mod_guardsIn_22 x1 x2 1 v0

def Mod_nextSeen_49 (x1 : Int32) (x2 : Int32) (x3 : Int32) : Nat → Int32 → ModelV → Option (Int32 × ModelV)
  | 0, _, _ => none
  | n + 1, x4, v0 =>
    if x2 + x3 ≤ x4 then
      some ((-1), v0)
    else
      Option.bind (Mod_guardsAt x1 x4 v0) fun p61 =>
      if p61 = 0 then
        nmL (x4 + 1) fun (x4_70 : Int32) =>
        Mod_nextSeen_49 x1 x2 x3 n x4_70 v0
      else
        some (x4, v0)

def Mod_nextSeen_25 (x1 : Int32) (x2 : Int32)  (s0 : Int32) (v0 : ModelV) : Option (Int32 × ModelV) :=
  nmL (Model_set_thrown v0 s0) fun (v0_25 : ModelV) =>
  if Model_thrown v0_25 = 0 then
    Option.bind (Mod_takePhases v0_25) fun p38 =>
    Option.bind (Mod_cycle p38) fun p42 =>
    Mod_nextSeen_49 x1 x2 p42 FU x2 p38
  else
    some (0, v0_25)

def Mod_nextSeen (x1 : Int32) (x2 : Int32) (v0 : ModelV) : Option (Int32 × ModelV) :=
  Option.bind (Mod_isRoom x1 v0) fun p3 =>
  bif p3 then
    Option.bind (Mod_isMinute x2) fun p14 =>
    bif p14 then
      Mod_nextSeen_25 x1 x2 0 v0
    else
      Mod_nextSeen_25 x1 x2 2 v0
  else
    Mod_nextSeen_25 x1 x2 1 v0

def Mod_gapFrom (x1 : Int32) (v0 : ModelV) : Option (Int32 × ModelV) :=
  nmL (Model_set_thrown v0 0) fun (v0_2 : ModelV) =>
  Option.bind (Mod_isRoom x1 v0_2) fun p7 =>
  bif p7 then
    Option.bind (Mod_layNow v0_2) fun p20 =>
    gd (inB x1 12) <|
    if (Model_gap p20) (Int32.toNatClampNeg x1) ≤ 0 then
      some ((-1), p20)
    else
      some ((Model_gapBegin p20) (Int32.toNatClampNeg x1), p20)
  else
    Option.bind (Mod_raise 1 v0_2) fun p15 =>
    some (p15.1, p15.2)

def Mod_isJoined_22 (x1 : Int32) (x2 : Int32)  (s0 : Int32) (v0 : ModelV) : Option (Bool × ModelV) :=
  nmL (Model_set_thrown v0 s0) fun (v0_22 : ModelV) =>
  if Model_thrown v0_22 = 0 then
    Option.bind (Mod_openBetween x1 x2 v0_22) fun p35 =>
    if p35 ≤ 0 then
      some (false, v0_22)
    else
      some (true, v0_22)
  else
    some (false, v0_22)

def Mod_isJoined_21 (x1 : Int32) (x2 : Int32)  (v0 : ModelV) : Option (Bool × ModelV) :=
  Mod_isJoined_22 x1 x2 1 v0

def Mod_isJoined (x1 : Int32) (x2 : Int32) (v0 : ModelV) : Option (Bool × ModelV) :=
  Option.bind (Mod_isRoom x1 v0) fun p3 =>
  bif p3 then
    Option.bind (Mod_isRoom x2 v0) fun p11 =>
    bif p11 then
      Mod_isJoined_22 x1 x2 0 v0
    else
      Mod_isJoined_21 x1 x2 v0
  else
    Mod_isJoined_21 x1 x2 v0

def Mod_distance_21 (x1 : Int32) (x2 : Int32)  (v0 : ModelV) : Option (Int32 × ModelV) :=
  Option.bind (Mod_raise 1 v0) fun p23 =>
  some (p23.1, p23.2)

def Mod_distance_64 (x1 : Int32) (x2 : Int32) (x3 : Int32) (x4 : Int32) (k38 : Int32 → Int32 → ModelV → Option (Int32 × ModelV)) : Nat → Int32 → Int32 → ModelV → Option (Int32 × ModelV)
  | 0, _, _, _ => none
  | n + 1, x5, x6, v0 =>
    Option.bind (Mod_rooms v0) fun p67 =>
    if p67 ≤ x6 then
      nmL (x4 + 1) fun (x4_107 : Int32) =>
      k38 x5 x4_107 v0
    else
      Option.bind (Mod_has x3 x6) fun p78 =>
      bif p78 then
        gd (inB x6 12) <|
        nmL (x5 ||| ((Model_joined v0) (Int32.toNatClampNeg x6))) fun (x5_96 : Int32) =>
        nmL (x6 + 1) fun (x6_98 : Int32) =>
        Mod_distance_64 x1 x2 x3 x4 k38 n x5_96 x6_98 v0
      else
        nmL (x5 ||| 0) fun (x5_96 : Int32) =>
        nmL (x6 + 1) fun (x6_98 : Int32) =>
        Mod_distance_64 x1 x2 x3 x4 k38 n x5_96 x6_98 v0

def Mod_distance_38 (x1 : Int32) (x2 : Int32)  : Nat → Int32 → Int32 → ModelV → Option (Int32 × ModelV)
  | 0, _, _, _ => none
  | n + 1, x3, x4, v0 =>
    Option.bind (Mod_rooms v0) fun p41 =>
    if p41 ≤ x4 then
      some ((-1), v0)
    else
      Option.bind (Mod_has x3 x2) fun p49 =>
      bif p49 then
        some (x4, v0)
      else
        Mod_distance_64 x1 x2 x3 x4 (fun (x3 : Int32) (x4 : Int32) (v0 : ModelV) => Mod_distance_38 x1 x2 n x3 x4 v0) FU x3 0 v0

def Mod_distance (x1 : Int32) (x2 : Int32) (v0 : ModelV) : Option (Int32 × ModelV) :=
  nmL (Model_set_thrown v0 0) fun (v0_2 : ModelV) =>
  Option.bind (Mod_isRoom x1 v0_2) fun p7 =>
  bif p7 then
    Option.bind (Mod_isRoom x2 v0_2) fun p15 =>
    bif p15 then
      Option.bind (Mod_layJoined v0_2) fun p28 =>
      nmL (1 <<< (x1 &&& 31)) fun (x3_34 : Int32) =>
      Mod_distance_38 x1 x2 FU x3_34 0 p28
    else
      Mod_distance_21 x1 x2 v0_2
  else
    Mod_distance_21 x1 x2 v0_2

def Mod_meetings (x1 : Int32) (x2 : Int32) (v0 : ModelV) : Option (Int32 × ModelV) :=
  Option.bind (Mod_arePair x1 x2 v0) fun p3 =>
  bif p3.1 then
    Option.bind (Mod_meetingsOf x1 x2 p3.2) fun p12 =>
    some (p12, p3.2)
  else
    some (0, p3.2)

def Mod_passings (x1 : Int32) (x2 : Int32) (v0 : ModelV) : Option (Int32 × ModelV) :=
  Option.bind (Mod_arePair x1 x2 v0) fun p3 =>
  bif p3.1 then
    Option.bind (Mod_passingsOf x1 x2 p3.2) fun p12 =>
    some (p12, p3.2)
  else
    some (0, p3.2)

def Mod_nextMeeting_47 (x1 : Int32) (x2 : Int32) (x3 : Int32) (x4 : Int32) : Nat → Int32 → ModelV → Option (Int32 × ModelV)
  | 0, _, _ => none
  | n + 1, x5, v0 =>
    if x4 = 0 then
      some ((-1), v0)
    else
      if x3 + (Model_cycleNow v0) ≤ x5 then
        some ((-1), v0)
      else
        Option.bind (Mod_meet x1 x2 x5 v0) fun p68 =>
        bif p68 then
          some (x5, v0)
        else
          nmL (x5 + 1) fun (x5_77 : Int32) =>
          Mod_nextMeeting_47 x1 x2 x3 x4 n x5_77 v0

def Mod_nextMeeting_32 (x1 : Int32) (x2 : Int32) (x3 : Int32)  (x4 : Int32) (s0 : Int32) (v0 : ModelV) : Option (Int32 × ModelV) :=
  nmL (Model_set_thrown v0 s0) fun (v0_32 : ModelV) =>
  if Model_thrown v0_32 = 0 then
    Mod_nextMeeting_47 x1 x2 x3 x4 FU x3 v0_32
  else
    some (0, v0_32)

def Mod_nextMeeting (x1 : Int32) (x2 : Int32) (x3 : Int32) (v0 : ModelV) : Option (Int32 × ModelV) :=
  Option.bind (Mod_arePair x1 x2 v0) fun p3 =>
  nmL (b2i p3.1) fun (x4_6 : Int32) =>
  if Model_thrown p3.2 = 0 then
    Option.bind (Mod_isMinute x3) fun p21 =>
    bif p21 then
      Mod_nextMeeting_32 x1 x2 x3 x4_6 0 p3.2
    else
      Mod_nextMeeting_32 x1 x2 x3 x4_6 2 p3.2
  else
    Mod_nextMeeting_32 x1 x2 x3 x4_6 1 p3.2

def Mod_worstWith_27 (x1 : Int32) (x2 : Int32)  (s0 : Int32) (v0 : ModelV) : Option (Int32 × ModelV) :=
  nmL (Model_set_thrown v0 s0) fun (v0_27 : ModelV) =>
  if Model_thrown v0_27 = 0 then
    Option.bind (Mod_takePhases v0_27) fun p40 =>
    gd (inB x1 4) <|
    nmL (Model_set_phases p40 (upd (Model_phases p40) (Int32.toNatClampNeg x1) x2)) fun (v0_49 : ModelV) =>
    Option.bind (Mod_layCycle v0_49) fun p51 =>
    Option.bind (Mod_worstLaid p51) fun p55 =>
    some (p55, p51)
  else
    some (0, v0_27)

def Mod_worstWith (x1 : Int32) (x2 : Int32) (v0 : ModelV) : Option (Int32 × ModelV) :=
  Option.bind (Mod_isGuard x1 v0) fun p3 =>
  bif p3 then
    Option.bind (Mod_isPhase x1 x2 v0) fun p16 =>
    bif p16 then
      Mod_worstWith_27 x1 x2 0 v0
    else
      Mod_worstWith_27 x1 x2 2 v0
  else
    Mod_worstWith_27 x1 x2 1 v0

def Mod_bestWorst (v0 : ModelV) : Option (Int32 × ModelV) :=
  nmL (Model_set_thrown v0 0) fun (v0_2 : ModelV) =>
  Option.bind (Mod_layBest v0_2) fun p6 =>
  some (Model_leastWorst p6, p6)

def Mod_bestCrossings (v0 : ModelV) : Option (Int32 × ModelV) :=
  nmL (Model_set_thrown v0 0) fun (v0_2 : ModelV) =>
  Option.bind (Mod_layBest v0_2) fun p6 =>
  some (Model_leastCrossings p6, p6)

def Mod_bestPhase (x1 : Int32) (v0 : ModelV) : Option (Int32 × ModelV) :=
  nmL (Model_set_thrown v0 0) fun (v0_2 : ModelV) =>
  Option.bind (Mod_isGuard x1 v0_2) fun p7 =>
  bif p7 then
    Option.bind (Mod_layBest v0_2) fun p20 =>
    gd (inB x1 4) <|
    some ((Model_bestPhases p20) (Int32.toNatClampNeg x1), p20)
  else
    Option.bind (Mod_raise 1 v0_2) fun p15 =>
    some (p15.1, p15.2)

def Mod_arrival_67 (x1 : Int32) (x2 : Int32) (x3 : Int32) (x5 : Int32) : Nat → Int32 → Int32 → ModelV → Option (Int32 × ModelV)
  | 0, _, _, _ => none
  | n + 1, x4, x6, v0 =>
    if x5 < x6 then
      some ((-1), v0)
    else
      if x4 = 0 then
        some ((-1), v0)
      else
        Option.bind (Mod_has x4 x2) fun p82 =>
        bif p82 then
          some (x3 + x6, v0)
        else
          Option.bind (Mod_nextRooms x4 (x3 + x6) v0) fun p100 =>
          nmL (x6 + 1) fun (x6_105 : Int32) =>
          Mod_arrival_67 x1 x2 x3 x5 n p100 x6_105 v0

def Mod_arrival_33 (x1 : Int32) (x2 : Int32) (x3 : Int32)  (s0 : Int32) (v0 : ModelV) : Option (Int32 × ModelV) :=
  nmL (Model_set_thrown v0 s0) fun (v0_33 : ModelV) =>
  if Model_thrown v0_33 = 0 then
    Option.bind (Mod_firstRooms x1 x3 v0_33) fun p48 =>
    Option.bind (Mod_cycle p48.2) fun p54 =>
    Option.bind (Mod_rooms p48.2) fun p58 =>
    nmL (p54 * p58) fun (x5_62 : Int32) =>
    Mod_arrival_67 x1 x2 x3 x5_62 FU p48.1 0 p48.2
  else
    some (0, v0_33)

def Mod_arrival_17 (x1 : Int32) (x2 : Int32) (x3 : Int32)  (v0 : ModelV) : Option (Int32 × ModelV) :=
  Mod_arrival_33 x1 x2 x3 1 v0

def Mod_arrival (x1 : Int32) (x2 : Int32) (x3 : Int32) (v0 : ModelV) : Option (Int32 × ModelV) :=
  Option.bind (Mod_isRoom x1 v0) fun p3 =>
  bif p3 then
    Option.bind (Mod_isRoom x2 v0) fun p11 =>
    bif p11 then
      Option.bind (Mod_isMinute x3) fun p22 =>
      bif p22 then
        Mod_arrival_33 x1 x2 x3 0 v0
      else
        Mod_arrival_33 x1 x2 x3 2 v0
    else
      Mod_arrival_17 x1 x2 x3 v0
  else
    Mod_arrival_17 x1 x2 x3 v0

def Mod_hiding_58 (x1 : Int32) (x2 : Int32) (x3 : Int32)  : Nat → Int32 → Int32 → ModelV → Option (Int32 × ModelV)
  | 0, _, _, _ => none
  | n + 1, x4, x5, v0 =>
    if x3 ≤ x5 then
      some (x4, v0)
    else
      Option.bind (Mod_nextRooms x4 (x2 + x5) v0) fun p71 =>
      nmL (x5 + 1) fun (x5_76 : Int32) =>
      Mod_hiding_58 x1 x2 x3 n p71 x5_76 v0

def Mod_hiding_35 (x1 : Int32) (x2 : Int32) (x3 : Int32)  (s0 : Int32) (v0 : ModelV) : Option (Int32 × ModelV) :=
  nmL (Model_set_thrown v0 s0) fun (v0_35 : ModelV) =>
  if Model_thrown v0_35 = 0 then
    Option.bind (Mod_firstRooms x1 x2 v0_35) fun p50 =>
    Mod_hiding_58 x1 x2 x3 FU p50.1 0 p50.2
  else
    some (0, v0_35)

def Mod_hiding_34 (x1 : Int32) (x2 : Int32) (x3 : Int32)  (v0 : ModelV) : Option (Int32 × ModelV) :=
  Mod_hiding_35 x1 x2 x3 2 v0

def Mod_hiding (x1 : Int32) (x2 : Int32) (x3 : Int32) (v0 : ModelV) : Option (Int32 × ModelV) :=
  Option.bind (Mod_isRoom x1 v0) fun p3 =>
  bif p3 then
    Option.bind (Mod_isMinute x2) fun p14 =>
    bif p14 then
      Option.bind (Mod_inRange x3 0 100) fun p24 =>
      bif p24 then
        Mod_hiding_35 x1 x2 x3 0 v0
      else
        Mod_hiding_34 x1 x2 x3 v0
    else
      Mod_hiding_34 x1 x2 x3 v0
  else
    Mod_hiding_35 x1 x2 x3 1 v0

def Mod_longestStay_37   : Nat → Int32 → Int32 → ModelV → Option (Int32 × ModelV)
  | 0, _, _, _ => none
  | n + 1, x1, x2, v0 =>
    if x1 = 0 then
      some (x2, v0)
    else
      if 100 ≤ x2 then
        some (x2, v0)
      else
        nmL (x2 + 1) fun (x2_47 : Int32) =>
        gd (inB 3 172) <|
        Option.bind (Mod_nextRooms x1 (((Model_now v0) (Int32.toNatClampNeg 3)) + x2_47) v0) fun p60 =>
        Mod_longestStay_37 n p60 x2_47 v0

def Mod_longestStay (v0 : ModelV) : Option (Int32 × ModelV) :=
  nmL (Model_set_thrown v0 0) fun (v0_2 : ModelV) =>
  Option.bind (Mod_takePhases v0_2) fun p6 =>
  Option.bind (Mod_layJoined p6) fun p10 =>
  Option.bind (Mod_rooms p10) fun p15 =>
  gd (inB 3 172) <|
  Option.bind (Mod_seenAt ((Model_now p10) (Int32.toNatClampNeg 3)) p10) fun p28 =>
  nmL (((1 <<< (p15 &&& 31)) - 1) &&& (p28 ^^^ (-1))) fun (x1_34 : Int32) =>
  Mod_longestStay_37 FU x1_34 (-1) p10

def Mod_coverage (v0 : ModelV) : Option (UInt64 × ModelV) :=
  nmL (Model_set_thrown v0 0) fun (v0_2 : ModelV) =>
  Option.bind (Mod_layNow v0_2) fun p6 =>
  Option.bind (Mod_seenInCycle p6) fun p10 =>
  Option.bind (Mod_rooms p6) fun p15 =>
  gd (n64 (FP.ddiv (FP.i2d p10) (FP.i2d (p15 * (Model_cycleNow p6))))) <|
  some (FP.ddiv (FP.i2d p10) (FP.i2d (p15 * (Model_cycleNow p6))), p6)

def Mod_seenRate (v0 : ModelV) : Option (UInt32 × ModelV) :=
  nmL (Model_set_thrown v0 0) fun (v0_2 : ModelV) =>
  gd (inB 3 172) <|
  if (Model_now v0_2) (Int32.toNatClampNeg 3) = 0 then
    some (FP.fconst0, v0_2)
  else
    Option.bind (Mod_sightings v0_2) fun p19 =>
    gd (n32 (FP.fdiv (FP.i2f p19) (FP.i2f ((Model_now v0_2) (Int32.toNatClampNeg 3))))) <|
    some (FP.fdiv (FP.i2f p19) (FP.i2f ((Model_now v0_2) (Int32.toNatClampNeg 3))), v0_2)

def Mod_passRoom_68 (x1 : Int32) (x2 : Bool)  (s0 : Int32) (s1 : Int32) (s2 : Int32) (v0 : ModelV) : Option ModelV :=
  gd (inB s2 172) <|
  nmL (Model_set_now v0 (upd (Model_now v0) (Int32.toNatClampNeg s2) (s1 + s0))) fun (v0_69 : ModelV) =>
  Option.bind (Mod_roomAt x1 2) fun p76 =>
  bif x2 then
    gd (inB 3 172) <|
    gd (inB p76 172) <|
    nmL (Model_set_now v0_69 (upd (Model_now v0_69) (Int32.toNatClampNeg p76) ((Model_now v0_69) (Int32.toNatClampNeg 3)))) fun (v0_98 : ModelV) =>
    some v0_98
  else
    Option.bind (Mod_ofRoom x1 2 v0_69) fun p95 =>
    gd (inB p76 172) <|
    nmL (Model_set_now v0_69 (upd (Model_now v0_69) (Int32.toNatClampNeg p76) p95)) fun (v0_98 : ModelV) =>
    some v0_98

def Mod_passRoom_16 (x1 : Int32) (x2 : Bool)  (s0 : Int32) (v0 : ModelV) : Option ModelV :=
  Option.bind (Mod_roomAt x1 3) fun p23 =>
  gd (inB p23 172) <|
  nmL (Model_set_now v0 (upd (Model_now v0) (Int32.toNatClampNeg p23) s0)) fun (v0_27 : ModelV) =>
  Option.bind (Mod_roomAt x1 4) fun p34 =>
  Option.bind (Mod_ofRoom x1 4 v0_27) fun p40 =>
  gd (inB p34 172) <|
  nmL (Model_set_now v0_27 (upd (Model_now v0_27) (Int32.toNatClampNeg p34) (imax p40 s0))) fun (v0_47 : ModelV) =>
  Option.bind (Mod_roomAt x1 1) fun p54 =>
  gd (inB p54 172) <|
  bif x2 then
    Mod_passRoom_68 x1 x2 1 ((Model_now v0_47) (Int32.toNatClampNeg p54)) p54 v0_47
  else
    Mod_passRoom_68 x1 x2 0 ((Model_now v0_47) (Int32.toNatClampNeg p54)) p54 v0_47

def Mod_passRoom (x1 : Int32) (x2 : Bool) (v0 : ModelV) : Option ModelV :=
  bif x2 then
    Mod_passRoom_16 x1 x2 0 v0
  else
    Option.bind (Mod_ofRoom x1 3 v0) fun p11 =>
    Mod_passRoom_16 x1 x2 (p11 + 1) v0

def Mod_record_48   (v0 : ModelV) : Option ModelV :=
  Option.bind (Mod_copy 0 (Model_undoCount v0) 172 (Model_now v0) 1720 (Model_history v0)) fun p61 =>
  nmL (Model_set_history v0 p61) fun (v0_61 : ModelV) =>
  nmL (Model_set_undoCount v0_61 ((Model_undoCount v0_61) + 1)) fun (v0_71 : ModelV) =>
  some v0_71

def Mod_record_11   : Nat → Int32 → ModelV → Option ModelV
  | 0, _, _ => none
  | n + 1, x1, v0 =>
    if 10 ≤ x1 then
      nmL (Model_set_undoCount v0 ((Model_undoCount v0) - 1)) fun (v0_45 : ModelV) =>
      Mod_record_48 v0_45
    else
      Option.bind (Mod_copyS x1 (x1 - 1) 1720 (Model_history v0)) fun p29 =>
      nmL (Model_set_history v0 p29) fun (v0_29 : ModelV) =>
      nmL (x1 + 1) fun (x1_32 : Int32) =>
      Mod_record_11 n x1_32 v0_29

def Mod_record (v0 : ModelV) : Option ModelV :=
  if Model_undoCount v0 = 10 then
    Mod_record_11 FU 1 v0
  else
    Mod_record_48 v0

def Mod_pass_74 (x1 : Int32) (x2 : Int32) (x3 : Int32) (x4 : Int32) (k54 : Int32 → ModelV → Option (Int32 × ModelV)) : Nat → Int32 → ModelV → Option (Int32 × ModelV)
  | 0, _, _ => none
  | n + 1, x5, v0 =>
    Option.bind (Mod_rooms v0) fun p77 =>
    if p77 ≤ x5 then
      gd (inB 3 172) <|
      nmL (Model_set_now v0 (upd (Model_now v0) (Int32.toNatClampNeg 3) (((Model_now v0) (Int32.toNatClampNeg 3)) + 1))) fun (v0_111 : ModelV) =>
      nmL (x3 + 1) fun (x3_112 : Int32) =>
      k54 x3_112 v0_111
    else
      Option.bind (Mod_has x4 x5) fun p90 =>
      Option.bind (Mod_passRoom x5 p90 v0) fun p93 =>
      nmL (x5 + 1) fun (x5_96 : Int32) =>
      Mod_pass_74 x1 x2 x3 x4 k54 n x5_96 p93

def Mod_pass_54 (x1 : Int32) (x2 : Int32) : Nat → Int32 → ModelV → Option (Int32 × ModelV)
  | 0, _, _ => none
  | n + 1, x3, v0 =>
    if x1 ≤ x3 then
      Option.bind (Mod_sightings v0) fun p119 =>
      some (p119 - x2, v0)
    else
      gd (inB 3 172) <|
      Option.bind (Mod_seenAt ((Model_now v0) (Int32.toNatClampNeg 3)) v0) fun p66 =>
      Mod_pass_74 x1 x2 x3 p66 (fun (x3 : Int32) (v0 : ModelV) => Mod_pass_54 x1 x2 n x3 v0) FU 0 v0

def Mod_pass (x1 : Int32) (v0 : ModelV) : Option (Int32 × ModelV) :=
  nmL (Model_set_thrown v0 0) fun (v0_2 : ModelV) =>
  Option.bind (Mod_inRange x1 1 500) fun p10 =>
  bif p10 then
    gd (inB 3 172) <|
    if ((Model_now v0_2) (Int32.toNatClampNeg 3)) + x1 ≤ 99999 then
      Option.bind (Mod_record v0_2) fun p40 =>
      Option.bind (Mod_takePhases p40) fun p44 =>
      Option.bind (Mod_sightings p44) fun p48 =>
      Mod_pass_54 x1 p48 FU 0 p44
    else
      some ((-2), v0_2)
  else
    Option.bind (Mod_raise 1 v0_2) fun p18 =>
    some (p18.1, p18.2)

def Mod_shift_27 (x1 : Int32) (x2 : Int32)  (s0 : Int32) (v0 : ModelV) : Option (Int32 × ModelV) :=
  nmL (Model_set_thrown v0 s0) fun (v0_27 : ModelV) =>
  if Model_thrown v0_27 = 0 then
    Option.bind (Mod_record v0_27) fun p40 =>
    Option.bind (Mod_guardAt x1 1) fun p49 =>
    gd (inB p49 172) <|
    nmL (Model_set_now p40 (upd (Model_now p40) (Int32.toNatClampNeg p49) x2)) fun (v0_53 : ModelV) =>
    Option.bind (Mod_layNow v0_53) fun p55 =>
    Option.bind (Mod_worstLaid p55) fun p59 =>
    some (p59, p55)
  else
    some (0, v0_27)

def Mod_shift (x1 : Int32) (x2 : Int32) (v0 : ModelV) : Option (Int32 × ModelV) :=
  Option.bind (Mod_isGuard x1 v0) fun p3 =>
  bif p3 then
    Option.bind (Mod_isPhase x1 x2 v0) fun p16 =>
    bif p16 then
      Mod_shift_27 x1 x2 0 v0
    else
      Mod_shift_27 x1 x2 2 v0
  else
    Mod_shift_27 x1 x2 1 v0

def Mod_adopt_45   (k17 : Int32 → Int32 → ModelV → Option (Int32 × ModelV)) (x2 : Int32) (s0 : Int32) (s1 : Int32) (v0 : ModelV) : Option (Int32 × ModelV) :=
  nmL (s1 + s0) fun (x1_46 : Int32) =>
  Option.bind (Mod_guardAt x2 1) fun p53 =>
  gd (inB x2 4) <|
  gd (inB p53 172) <|
  nmL (Model_set_now v0 (upd (Model_now v0) (Int32.toNatClampNeg p53) ((Model_bestPhases v0) (Int32.toNatClampNeg x2)))) fun (v0_62 : ModelV) =>
  nmL (x2 + 1) fun (x2_63 : Int32) =>
  k17 x1_46 x2_63 v0_62

def Mod_adopt_17   : Nat → Int32 → Int32 → ModelV → Option (Int32 × ModelV)
  | 0, _, _, _ => none
  | n + 1, x1, x2, v0 =>
    Option.bind (Mod_guards v0) fun p19 =>
    if p19 ≤ x2 then
      some (x1, v0)
    else
      Option.bind (Mod_phaseOf x2 v0) fun p28 =>
      gd (inB x2 4) <|
      if p28 = (Model_bestPhases v0) (Int32.toNatClampNeg x2) then
        Mod_adopt_45 (fun (x1 : Int32) (x2 : Int32) (v0 : ModelV) => Mod_adopt_17 n x1 x2 v0) x2 0 x1 v0
      else
        Mod_adopt_45 (fun (x1 : Int32) (x2 : Int32) (v0 : ModelV) => Mod_adopt_17 n x1 x2 v0) x2 1 x1 v0

def Mod_adopt (v0 : ModelV) : Option (Int32 × ModelV) :=
  nmL (Model_set_thrown v0 0) fun (v0_2 : ModelV) =>
  Option.bind (Mod_record v0_2) fun p6 =>
  Option.bind (Mod_layBest p6) fun p10 =>
  Mod_adopt_17 FU 0 0 p10

def Mod_closeDoor_62 (x1 : Int32)  (v0 : ModelV) : Option (Int32 × ModelV) :=
  Option.bind (Mod_record v0) fun p63 =>
  Option.bind (Mod_doorAt x1 2) fun p72 =>
  gd (inB p72 172) <|
  nmL (Model_set_now p63 (upd (Model_now p63) (Int32.toNatClampNeg p72) 0)) fun (v0_76 : ModelV) =>
  Option.bind (Mod_openAt (-1) v0_76) fun p79 =>
  some (p79, v0_76)

def Mod_closeDoor (x1 : Int32) (v0 : ModelV) : Option (Int32 × ModelV) :=
  nmL (Model_set_thrown v0 0) fun (v0_2 : ModelV) =>
  Option.bind (Mod_isDoor x1 v0_2) fun p7 =>
  bif p7 then
    Option.bind (Mod_ofDoor x1 2 v0_2) fun p22 =>
    if p22 = 0 then
      some ((-2), v0_2)
    else
      Option.bind (Mod_walksThrough x1 v0_2) fun p33 =>
      if p33 ≤ 0 then
        Mod_closeDoor_62 x1 v0_2
      else
        Option.bind (Mod_ofDoor x1 0 v0_2) fun p43 =>
        Option.bind (Mod_ofDoor x1 1 v0_2) fun p49 =>
        Option.bind (Mod_openBetween p43 p49 v0_2) fun p52 =>
        if p52 = 1 then
          some ((-3), v0_2)
        else
          Mod_closeDoor_62 x1 v0_2
  else
    Option.bind (Mod_raise 1 v0_2) fun p15 =>
    some (p15.1, p15.2)

def Mod_openDoor (x1 : Int32) (v0 : ModelV) : Option (Int32 × ModelV) :=
  nmL (Model_set_thrown v0 0) fun (v0_2 : ModelV) =>
  Option.bind (Mod_isDoor x1 v0_2) fun p7 =>
  bif p7 then
    Option.bind (Mod_ofDoor x1 2 v0_2) fun p22 =>
    if p22 = 1 then
      some ((-2), v0_2)
    else
      Option.bind (Mod_record v0_2) fun p33 =>
      Option.bind (Mod_doorAt x1 2) fun p42 =>
      gd (inB p42 172) <|
      nmL (Model_set_now p33 (upd (Model_now p33) (Int32.toNatClampNeg p42) 1)) fun (v0_46 : ModelV) =>
      Option.bind (Mod_openAt (-1) v0_46) fun p49 =>
      some (p49, v0_46)
  else
    Option.bind (Mod_raise 1 v0_2) fun p15 =>
    some (p15.1, p15.2)

def Mod_setLimit_28 (x1 : Int32) (x2 : Int32)  (s0 : Int32) (v0 : ModelV) : Option (Int32 × ModelV) :=
  nmL (Model_set_thrown v0 s0) fun (v0_28 : ModelV) =>
  if Model_thrown v0_28 = 0 then
    Option.bind (Mod_record v0_28) fun p41 =>
    Option.bind (Mod_roomAt x1 0) fun p50 =>
    gd (inB p50 172) <|
    nmL (Model_set_now p41 (upd (Model_now p41) (Int32.toNatClampNeg p50) x2)) fun (v0_54 : ModelV) =>
    Option.bind (Mod_layNow v0_54) fun p56 =>
    Option.bind (Mod_lateLaid p56) fun p60 =>
    some (p60, p56)
  else
    some (0, v0_28)

def Mod_setLimit (x1 : Int32) (x2 : Int32) (v0 : ModelV) : Option (Int32 × ModelV) :=
  Option.bind (Mod_isRoom x1 v0) fun p3 =>
  bif p3 then
    Option.bind (Mod_inRange x2 0 99) fun p17 =>
    bif p17 then
      Mod_setLimit_28 x1 x2 0 v0
    else
      Mod_setLimit_28 x1 x2 2 v0
  else
    Mod_setLimit_28 x1 x2 1 v0

def Mod_write (x1 : Int32) (v0 : ModelV) : Option ModelV :=
  gd (inB (Model_formattedLength v0) 110) <|
  nmL (Model_set_formatted v0 (upd (Model_formatted v0) (Int32.toNatClampNeg (Model_formattedLength v0)) x1)) fun (v0_9 : ModelV) =>
  nmL (Model_set_formattedLength v0_9 ((Model_formattedLength v0_9) + 1)) fun (v0_17 : ModelV) =>
  some v0_17

def Mod_writeRoom_42 (x1 : Int32) (x2 : Int32) : Nat → Int32 → ModelV → Option ModelV
  | 0, _, _ => none
  | n + 1, x3, v0 =>
    Option.bind (Mod_guards v0) fun p44 =>
    if p44 ≤ x3 then
      Option.bind (Mod_isLate x1 v0) fun p74 =>
      bif p74 then
        Option.bind (Mod_write 33 v0) fun p83 =>
        some p83
      else
        some v0
    else
      Option.bind (Mod_has x2 x3) fun p52 =>
      bif p52 then
        Option.bind (Mod_write (97 + x3) v0) fun p63 =>
        nmL (x3 + 1) fun (x3_66 : Int32) =>
        Mod_writeRoom_42 x1 x2 n x3_66 p63
      else
        nmL (x3 + 1) fun (x3_66 : Int32) =>
        Mod_writeRoom_42 x1 x2 n x3_66 v0

def Mod_writeRoom_17 (x1 : Int32)  (v0 : ModelV) : Option ModelV :=
  gd (nz 10) <|
  Option.bind (Mod_write (48 + (x1 - x1 / 10 * 10)) v0) fun p25 =>
  gd (inB 3 172) <|
  Option.bind (Mod_guardsAt x1 ((Model_now p25) (Int32.toNatClampNeg 3)) p25) fun p36 =>
  Mod_writeRoom_42 x1 p36 FU 0 p25

def Mod_writeRoom (x1 : Int32) (v0 : ModelV) : Option ModelV :=
  if x1 ≤ 9 then
    Mod_writeRoom_17 x1 v0
  else
    gd (nz 10) <|
    Option.bind (Mod_write (48 + (x1 / 10)) v0) fun p14 =>
    Mod_writeRoom_17 x1 p14

def Mod_format_34   (k16 : Int32 → ModelV → Option (Int32 × ModelV)) (x1 : Int32) (v0 : ModelV) : Option (Int32 × ModelV) :=
  Option.bind (Mod_writeRoom x1 v0) fun p36 =>
  nmL (x1 + 1) fun (x1_39 : Int32) =>
  k16 x1_39 p36

def Mod_format_16   : Nat → Int32 → ModelV → Option (Int32 × ModelV)
  | 0, _, _ => none
  | n + 1, x1, v0 =>
    Option.bind (Mod_rooms v0) fun p18 =>
    if p18 ≤ x1 then
      some (Model_formattedLength v0, v0)
    else
      if x1 ≤ 0 then
        Mod_format_34 (fun (x1 : Int32) (v0 : ModelV) => Mod_format_16 n x1 v0) x1 v0
      else
        Option.bind (Mod_write 32 v0) fun p31 =>
        Mod_format_34 (fun (x1 : Int32) (v0 : ModelV) => Mod_format_16 n x1 v0) x1 p31

def Mod_format (v0 : ModelV) : Option (Int32 × ModelV) :=
  nmL (Model_set_thrown v0 0) fun (v0_2 : ModelV) =>
  Option.bind (Mod_layNow v0_2) fun p6 =>
  nmL (Model_set_formattedLength p6 0) fun (v0_11 : ModelV) =>
  Mod_format_16 FU 0 v0_11

def Mod_formattedByte (x1 : Int32) (v0 : ModelV) : Option (Int32 × ModelV) :=
  nmL (Model_set_thrown v0 0) fun (v0_2 : ModelV) =>
  Option.bind (Mod_inRange x1 0 ((Model_formattedLength v0_2) - 1)) fun p13 =>
  bif p13 then
    gd (inB x1 110) <|
    some ((Model_formatted v0_2) (Int32.toNatClampNeg x1), v0_2)
  else
    some ((-1), v0_2)

def Mod_undoCount (v0 : ModelV) : Option (Int32 × ModelV) :=
  nmL (Model_set_thrown v0 0) fun (v0_2 : ModelV) =>
  some (Model_undoCount v0_2, v0_2)

def Mod_undo (v0 : ModelV) : Option (Int32 × ModelV) :=
  nmL (Model_set_thrown v0 0) fun (v0_2 : ModelV) =>
  if Model_undoCount v0_2 = 0 then
    some ((-1), v0_2)
  else
    nmL (Model_set_undoCount v0_2 ((Model_undoCount v0_2) - 1)) fun (v0_21 : ModelV) =>
    Option.bind (Mod_copy (Model_undoCount v0_21) 0 1720 (Model_history v0_21) 172 (Model_now v0_21)) fun p37 =>
    nmL (Model_set_now v0_21 p37) fun (v0_37 : ModelV) =>
    some (Model_undoCount v0_37, v0_37)

def Mod_saveSnapshot (v0 : ModelV) : Option ModelV :=
  nmL (Model_set_thrown v0 0) fun (v0_2 : ModelV) =>
  Option.bind (Mod_copy 0 0 172 (Model_now v0_2) 172 (Model_snapshot v0_2)) fun p15 =>
  nmL (Model_set_snapshot v0_2 p15) fun (v0_15 : ModelV) =>
  nmL (Model_set_hasSnapshot v0_15 true) fun (v0_20 : ModelV) =>
  some v0_20

def Mod_restoreSnapshot (v0 : ModelV) : Option (Bool × ModelV) :=
  nmL (Model_set_thrown v0 0) fun (v0_2 : ModelV) =>
  bif Model_hasSnapshot v0_2 then
    Option.bind (Mod_copy 0 0 172 (Model_snapshot v0_2) 172 (Model_now v0_2)) fun p24 =>
    nmL (Model_set_now v0_2 p24) fun (v0_24 : ModelV) =>
    nmL (Model_set_undoCount v0_24 0) fun (v0_29 : ModelV) =>
    some (true, v0_29)
  else
    some (false, v0_2)

def Mod_load (x1 : Int32) (v0 : ModelV) : Option (Int32 × ModelV) :=
  nmL (Model_set_thrown v0 0) fun (v0_2 : ModelV) =>
  Option.bind (Mod_inRange x1 0 (Model_bufferLength v0_2)) fun p11 =>
  bif p11 then
    Option.bind (Mod_clear (Model_draft v0_2)) fun p27 =>
    nmL (Model_set_draft v0_2 p27) fun (v0_27 : ModelV) =>
    Option.bind (Mod_startText x1 v0_27) fun p40 =>
    Option.bind (Mod_readAll p40) fun p44 =>
    Option.bind (Mod_finish p44) fun p56 =>
    if p56.1 = 0 then
      Option.bind (Mod_copy 0 0 172 (Model_draft p56.2) 172 (Model_now p56.2)) fun p80 =>
      nmL (Model_set_now p56.2 p80) fun (v0_80 : ModelV) =>
      nmL (Model_set_undoCount v0_80 0) fun (v0_85 : ModelV) =>
      nmL (Model_set_hasSnapshot v0_85 false) fun (v0_90 : ModelV) =>
      Option.bind (Mod_rooms v0_90) fun p94 =>
      some (p94, v0_90)
    else
      some ((-10) - (Model_error p56.2), p56.2)
  else
    Option.bind (Mod_raise 1 v0_2) fun p19 =>
    some (p19.1, p19.2)

def Mod_change_101 (x1 : Int32)  (s0 : Int32) (v0 : ModelV) : Option (Int32 × ModelV) :=
  asB (s0) fun (z_5 : Bool) =>
  Option.bind (Mod_check z_5 1 v0) fun p102 =>
  Option.bind (Mod_finish p102) fun p114 =>
  if p114.1 = 0 then
    Option.bind (Mod_record p114.2) fun p129 =>
    Option.bind (Mod_copy 0 0 172 (Model_draft p129) 172 (Model_now p129)) fun p142 =>
    nmL (Model_set_now p129 p142) fun (v0_142 : ModelV) =>
    Option.bind (Mod_cycle v0_142) fun p146 =>
    some (p146, v0_142)
  else
    some ((-10) - (Model_error p114.2), p114.2)

def Mod_change_96 (x1 : Int32)  (v0 : ModelV) : Option (Int32 × ModelV) :=
  Mod_change_101 x1 1 v0

def Mod_change_81 (x1 : Int32)  (v0 : ModelV) : Option (Int32 × ModelV) :=
  if Model_error v0 = 0 then
    if Model_token v0 = 0 then
      Mod_change_96 x1 v0
    else
      Mod_change_101 x1 0 v0
  else
    Mod_change_96 x1 v0

def Mod_change (x1 : Int32) (v0 : ModelV) : Option (Int32 × ModelV) :=
  nmL (Model_set_thrown v0 0) fun (v0_2 : ModelV) =>
  Option.bind (Mod_inRange x1 0 (Model_bufferLength v0_2)) fun p11 =>
  bif p11 then
    Option.bind (Mod_copy 0 0 172 (Model_now v0_2) 172 (Model_draft v0_2)) fun p33 =>
    nmL (Model_set_draft v0_2 p33) fun (v0_33 : ModelV) =>
    Option.bind (Mod_startText x1 v0_33) fun p46 =>
    Option.bind (Mod_expectWord 48 p46) fun p53 =>
    Option.bind (Mod_guardsD p53) fun p59 =>
    Option.bind (Mod_readNumber 0 (p59 - 1) p53) fun p64 =>
    if Model_error p64.2 = 0 then
      Option.bind (Mod_readWalk p64.1 true p64.2) fun p78 =>
      Mod_change_81 x1 p78
    else
      Mod_change_81 x1 p64.2
  else
    Option.bind (Mod_raise 1 v0_2) fun p19 =>
    some (p19.1, p19.2)

def Mod_walksIn_18 (x1 : Int32) (v0 : ModelV) (x2 : Int32) (x3 : Int32) (k4 : Int32 → Int32 → Option Int32) : Nat → Int32 → Int32 → Option Int32
  | 0, _, _ => none
  | n + 1, x4, x5 =>
    Option.bind (Mod_period x3 v0) fun p22 =>
    if p22 ≤ x5 then
      if x4 = 0 then
        nmL (x2 + 0) fun (x2_67 : Int32) =>
        nmL (x3 + 1) fun (x3_68 : Int32) =>
        k4 x2_67 x3_68
      else
        nmL (x2 + 1) fun (x2_67 : Int32) =>
        nmL (x3 + 1) fun (x3_68 : Int32) =>
        k4 x2_67 x3_68
    else
      Option.bind (Mod_step x3 x5 v0) fun p34 =>
      if p34 = x1 then
        nmL (x4 ||| 1) fun (x4_47 : Int32) =>
        nmL (x5 + 1) fun (x5_49 : Int32) =>
        Mod_walksIn_18 x1 v0 x2 x3 k4 n x4_47 x5_49
      else
        nmL (x4 ||| 0) fun (x4_47 : Int32) =>
        nmL (x5 + 1) fun (x5_49 : Int32) =>
        Mod_walksIn_18 x1 v0 x2 x3 k4 n x4_47 x5_49

def Mod_walksIn_4 (x1 : Int32) (v0 : ModelV)  : Nat → Int32 → Int32 → Option Int32
  | 0, _, _ => none
  | n + 1, x2, x3 =>
    Option.bind (Mod_guards v0) fun p6 =>
    if p6 ≤ x3 then
      some x2
    else
      Mod_walksIn_18 x1 v0 x2 x3 (fun (x2 : Int32) (x3 : Int32) => Mod_walksIn_4 x1 v0 n x2 x3) FU 0 0

def Mod_walksIn (x1 : Int32) (v0 : ModelV) : Option Int32 :=
  Mod_walksIn_4 x1 v0 FU 0 0

def Mod_property (x1 : Int32) (x2 : Int32) (v0 : ModelV) : Option Int32 :=
  if Int32.toInt x2 < 0 ∨ 9 < Int32.toInt x2 then
    Option.bind (Mod_ofRoom x1 4 v0) fun p142 =>
    some p142
  else if x2 = 0 then
    some x1
  else if x2 = 1 then
    Option.bind (Mod_openAt x1 v0) fun p60 =>
    some p60
  else if x2 = 2 then
    Option.bind (Mod_ofRoom x1 0 v0) fun p67 =>
    some p67
  else if x2 = 3 then
    gd (inB x1 12) <|
    some (imax 0 ((Model_gap v0) (Int32.toNatClampNeg x1)))
  else if x2 = 4 then
    gd (inB x1 12) <|
    if (Model_gap v0) (Int32.toNatClampNeg x1) = (-1) then
      some 1
    else
      some 0
  else if x2 = 5 then
    Option.bind (Mod_isLate x1 v0) fun p100 =>
    bif p100 then
      some 1
    else
      some 0
  else if x2 = 6 then
    gd (inB x1 12) <|
    some ((Model_seenCount v0) (Int32.toNatClampNeg x1))
  else if x2 = 7 then
    Option.bind (Mod_walksIn x1 v0) fun p121 =>
    some p121
  else if x2 = 8 then
    Option.bind (Mod_ofRoom x1 1 v0) fun p128 =>
    some p128
  else if x2 = 9 then
    Option.bind (Mod_ofRoom x1 3 v0) fun p135 =>
    some p135
  else none

def Mod_holdsFor_4 (x1 : Int32)  : Nat → Int32 → Int32 → ModelV → Option (Bool × ModelV)
  | 0, _, _, _ => none
  | n + 1, x2, x3, v0 =>
    if Model_codeCount v0 ≤ x3 then
      gd (inB 0 200) <|
      if lg_cmp ((Model_stack v0) (Int32.toNatClampNeg 0)) 1 = 0 then
        some (true, v0)
      else
        some (false, v0)
    else
      gd (inB x3 200) <|
      nmL ((Model_codes v0) (Int32.toNatClampNeg x3)) fun (x4_18 : Int32) =>
      if x4_18 = (-23) then
        gd (inB (x2 - 1) 200) <|
        nmL (Model_set_stack v0 (vp_updL (Model_stack v0) (Int32.toNatClampNeg (x2 - 1)) (1 - ((Model_stack v0) (Int32.toNatClampNeg (x2 - 1)))))) fun (v0_44 : ModelV) =>
        nmL (x3 + 1) fun (x3_118 : Int32) =>
        Mod_holdsFor_4 x1 n x2 x3_118 v0_44
      else
        if x4_18 ≤ (-20) then
          nmL (x2 + (-1)) fun (x2_88 : Int32) =>
          gd (inB (x2_88 - 1) 200) <|
          gd (inB x2_88 200) <|
          Option.bind (Mod_operate x4_18 ((Model_stack v0) (Int32.toNatClampNeg (x2_88 - 1))) ((Model_stack v0) (Int32.toNatClampNeg x2_88))) fun p114 =>
          nmL (Model_set_stack v0 (vp_updL (Model_stack v0) (Int32.toNatClampNeg (x2_88 - 1)) p114)) fun (v0_117 : ModelV) =>
          nmL (x3 + 1) fun (x3_118 : Int32) =>
          Mod_holdsFor_4 x1 n x2_88 x3_118 v0_117
        else
          if x4_18 < 0 then
            Option.bind (Mod_property x1 ((-1) - x4_18) v0) fun p77 =>
            gd (inB x2 200) <|
            nmL (Model_set_stack v0 (vp_updL (Model_stack v0) (Int32.toNatClampNeg x2) (Int32.toInt64 p77))) fun (v0_81 : ModelV) =>
            nmL (x2 + 1) fun (x2_82 : Int32) =>
            nmL (x3 + 1) fun (x3_118 : Int32) =>
            Mod_holdsFor_4 x1 n x2_82 x3_118 v0_81
          else
            gd (inB x2 200) <|
            nmL (Model_set_stack v0 (vp_updL (Model_stack v0) (Int32.toNatClampNeg x2) (Int32.toInt64 x4_18))) fun (v0_81 : ModelV) =>
            nmL (x2 + 1) fun (x2_82 : Int32) =>
            nmL (x3 + 1) fun (x3_118 : Int32) =>
            Mod_holdsFor_4 x1 n x2_82 x3_118 v0_81

def Mod_holdsFor (x1 : Int32) (v0 : ModelV) : Option (Bool × ModelV) :=
  Mod_holdsFor_4 x1 FU 0 0 v0

def Mod_query_128 (x1 : Int32) (x2 : Int32) : Nat → Int32 → Int32 → ModelV → Option (Int32 × ModelV)
  | 0, _, _, _ => none
  | n + 1, x3, x4, v0 =>
    Option.bind (Mod_rooms v0) fun p131 =>
    if p131 ≤ x4 then
      if x2 = 0 then
        some (x3, v0)
      else
        some ((-1), v0)
    else
      Option.bind (Mod_holdsFor x4 v0) fun p140 =>
      bif p140.1 then
        if x2 = 0 then
          nmL (x3 + 1) fun (x3_156 : Int32) =>
          nmL (x4 + 1) fun (x4_159 : Int32) =>
          Mod_query_128 x1 x2 n x3_156 x4_159 p140.2
        else
          some (x4, p140.2)
      else
        nmL (x4 + 1) fun (x4_159 : Int32) =>
        Mod_query_128 x1 x2 n x3 x4_159 p140.2

def Mod_query_99 (x1 : Int32)  (x2 : Int32) (s0 : Int32) (v0 : ModelV) : Option (Int32 × ModelV) :=
  asB (s0) fun (z_8 : Bool) =>
  Option.bind (Mod_check z_8 1 v0) fun p100 =>
  Option.bind (Mod_finish p100) fun p104 =>
  if p104.1 = 0 then
    Option.bind (Mod_layNow p104.2) fun p122 =>
    Mod_query_128 x1 x2 FU 0 0 p122
  else
    some ((-1000000000) - (Model_error p104.2), p104.2)

def Mod_query_94 (x1 : Int32)  (x2 : Int32) (v0 : ModelV) : Option (Int32 × ModelV) :=
  Mod_query_99 x1 x2 1 v0

def Mod_query_67 (x1 : Int32)  (x2 : Int32) (s0 : Int32) (v0 : ModelV) : Option (Int32 × ModelV) :=
  asB (s0) fun (z_5 : Bool) =>
  Option.bind (Mod_check z_5 1 v0) fun p68 =>
  Option.bind (Mod_advance p68) fun p72 =>
  Option.bind (Mod_compileTest (nestM 7) p72) fun p76 =>
  if Model_error p76 = 0 then
    if Model_token p76 = 0 then
      Mod_query_94 x1 x2 p76
    else
      Mod_query_99 x1 x2 0 p76
  else
    Mod_query_94 x1 x2 p76

def Mod_query_62 (x1 : Int32)  (x2 : Int32) (v0 : ModelV) : Option (Int32 × ModelV) :=
  Mod_query_67 x1 x2 1 v0

def Mod_query (x1 : Int32) (v0 : ModelV) : Option (Int32 × ModelV) :=
  nmL (Model_set_thrown v0 0) fun (v0_2 : ModelV) =>
  Option.bind (Mod_inRange x1 0 (imin (Model_bufferLength v0_2) 200)) fun p17 =>
  bif p17 then
    nmL (Model_set_codeCount v0_2 0) fun (v0_31 : ModelV) =>
    Option.bind (Mod_startText x1 v0_31) fun p36 =>
    Option.bind (Mod_isWord 52 p36) fun p43 =>
    nmL (b2i p43) fun (x2_46 : Int32) =>
    if x2_46 = 0 then
      Option.bind (Mod_isWord 53 p36) fun p56 =>
      bif p56 then
        Mod_query_62 x1 x2_46 p36
      else
        Mod_query_67 x1 x2_46 0 p36
    else
      Mod_query_62 x1 x2_46 p36
  else
    Option.bind (Mod_raise 1 v0_2) fun p25 =>
    some (p25.1, p25.2)

