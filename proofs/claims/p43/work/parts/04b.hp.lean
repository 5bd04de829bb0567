def House_hasRoom (x1 : Int32) (v0 : HouseV) : Option Bool :=
  if x1 < 0 then
    some false
  else
    if House_rooms v0 ≤ x1 then
      some false
    else
      if 12 ≤ x1 then
        some false
      else
        some true

def House_hasDoor (x1 : Int32) (v0 : HouseV) : Option Bool :=
  if x1 < 0 then
    some false
  else
    if House_doors v0 ≤ x1 then
      some false
    else
      if 20 ≤ x1 then
        some false
      else
        some true

def House_hasGuard (x1 : Int32) (v0 : HouseV) : Option Bool :=
  if x1 < 0 then
    some false
  else
    if House_guards v0 ≤ x1 then
      some false
    else
      if 4 ≤ x1 then
        some false
      else
        some true

def House_isOpen (x1 : Int32) (v0 : HouseV) : Option Bool :=
  Option.bind (GW_has (House_openDoors v0) x1) fun p5 =>
  some p5

def House_join (x1 : Int32) (x2 : Int32) (v0 : HouseV) : Option HouseV :=
  Option.bind (House_hasRoom x1 v0) fun p2 =>
  bif p2 then
    gd (inB x1 12) <|
    nmL (House_set_joined v0 (upd (House_joined v0) (Int32.toNatClampNeg x1) (((House_joined v0) (Int32.toNatClampNeg x1)) ||| (1 <<< (x2 &&& 31))))) fun (v0_19 : HouseV) =>
    some v0_19
  else
    some v0

def House_setOpen_39 (x1 : Int32) (x2 : Bool)  : Nat → Int32 → HouseV → Option HouseV
  | 0, _, _ => none
  | n + 1, x3, v0 =>
    if House_doors v0 ≤ x3 then
      some v0
    else
      if 20 ≤ x3 then
        some v0
      else
        Option.bind (House_isOpen x3 v0) fun p55 =>
        bif p55 then
          gd (inB x3 20) <|
          Option.bind (House_join ((House_doorFirst v0) (Int32.toNatClampNeg x3)) ((House_doorSecond v0) (Int32.toNatClampNeg x3)) v0) fun p74 =>
          Option.bind (House_join ((House_doorSecond p74) (Int32.toNatClampNeg x3)) ((House_doorFirst p74) (Int32.toNatClampNeg x3)) p74) fun p90 =>
          nmL (x3 + 1) fun (x3_93 : Int32) =>
          House_setOpen_39 x1 x2 n x3_93 p90
        else
          nmL (x3 + 1) fun (x3_93 : Int32) =>
          House_setOpen_39 x1 x2 n x3_93 v0

def House_setOpen_26 (x1 : Int32) (x2 : Bool)  (s0 : Int32) (v0 : HouseV) : Option HouseV :=
  nmL (House_set_openDoors v0 s0) fun (v0_26 : HouseV) =>
  Option.bind (J_fill 0 12 (House_joined v0_26)) fun p34 =>
  nmL (House_set_joined v0_26 p34) fun (v0_34 : HouseV) =>
  House_setOpen_39 x1 x2 FU 0 v0_34

def House_setOpen (x1 : Int32) (x2 : Bool) (v0 : HouseV) : Option HouseV :=
  bif x2 then
    House_setOpen_26 x1 x2 ((House_openDoors v0) ||| (1 <<< (x1 &&& 31))) v0
  else
    House_setOpen_26 x1 x2 ((House_openDoors v0) &&& ((1 <<< (x1 &&& 31)) ^^^ (-1))) v0

def House_addDoor (x1 : Int32) (x2 : Int32) (x3 : Bool) (v0 : HouseV) : Option HouseV :=
  if House_doors v0 < 0 then
    some v0
  else
    if House_doors v0 < 20 then
      gd (inB (House_doors v0) 20) <|
      nmL (House_set_doorFirst v0 (upd (House_doorFirst v0) (Int32.toNatClampNeg (House_doors v0)) x1)) fun (v0_26 : HouseV) =>
      gd (inB (House_doors v0_26) 20) <|
      nmL (House_set_doorSecond v0_26 (upd (House_doorSecond v0_26) (Int32.toNatClampNeg (House_doors v0_26)) x2)) fun (v0_36 : HouseV) =>
      nmL (House_set_doors v0_36 ((House_doors v0_36) + 1)) fun (v0_44 : HouseV) =>
      Option.bind (House_setOpen ((House_doors v0_44) - 1) x3 v0_44) fun p55 =>
      some p55
    else
      some v0

def House_begin (x1 : Int32) (v0 : HouseV) : Option HouseV :=
  nmL (House_set_rooms v0 x1) fun (v0_2 : HouseV) =>
  nmL (House_set_doors v0_2 0) fun (v0_7 : HouseV) =>
  nmL (House_set_guards v0_7 0) fun (v0_12 : HouseV) =>
  nmL (House_set_minute v0_12 0) fun (v0_17 : HouseV) =>
  nmL (House_set_openDoors v0_17 0) fun (v0_22 : HouseV) =>
  Option.bind (J_fill 0 12 (House_joined v0_22)) fun p30 =>
  nmL (House_set_joined v0_22 p30) fun (v0_30 : HouseV) =>
  Option.bind (J_fill 99 12 (House_limits v0_30)) fun p39 =>
  nmL (House_set_limits v0_30 p39) fun (v0_39 : HouseV) =>
  Option.bind (J_fill 0 12 (House_sightings v0_39)) fun p47 =>
  nmL (House_set_sightings v0_39 p47) fun (v0_47 : HouseV) =>
  Option.bind (J_fill (-1) 12 (House_lastSeen v0_47)) fun p55 =>
  nmL (House_set_lastSeen v0_47 p55) fun (v0_55 : HouseV) =>
  Option.bind (J_fill 0 12 (House_runs v0_55)) fun p63 =>
  nmL (House_set_runs v0_55 p63) fun (v0_63 : HouseV) =>
  Option.bind (J_fill 0 12 (House_longestRuns v0_63)) fun p71 =>
  nmL (House_set_longestRuns v0_63 p71) fun (v0_71 : HouseV) =>
  some v0_71

def House_countOpenDoors (v0 : HouseV) : Option Int32 :=
  Option.bind (J_bitCount (House_openDoors v0)) fun p4 =>
  some p4

def House_isBetweenSameRooms_46 (x1 : Int32) (x2 : Int32) (v0 : HouseV)   : Option Bool :=
  gd (inB x1 20) <|
  gd (inB x2 20) <|
  if (House_doorFirst v0) (Int32.toNatClampNeg x1) = (House_doorSecond v0) (Int32.toNatClampNeg x2) then
    if (House_doorSecond v0) (Int32.toNatClampNeg x1) = (House_doorFirst v0) (Int32.toNatClampNeg x2) then
      some true
    else
      some false
  else
    some false

def House_isBetweenSameRooms (x1 : Int32) (x2 : Int32) (v0 : HouseV) : Option Bool :=
  Option.bind (House_hasDoor x1 v0) fun p2 =>
  bif p2 then
    Option.bind (House_hasDoor x2 v0) fun p10 =>
    bif p10 then
      gd (inB x1 20) <|
      gd (inB x2 20) <|
      if (House_doorFirst v0) (Int32.toNatClampNeg x1) = (House_doorFirst v0) (Int32.toNatClampNeg x2) then
        if (House_doorSecond v0) (Int32.toNatClampNeg x1) = (House_doorSecond v0) (Int32.toNatClampNeg x2) then
          some true
        else
          House_isBetweenSameRooms_46 x1 x2 v0
      else
        House_isBetweenSameRooms_46 x1 x2 v0
    else
      some false
  else
    some false

def House_hasOtherOpenDoor_2 (x1 : Int32) (v0 : HouseV)  : Nat → Int32 → Option Bool
  | 0, _ => none
  | n + 1, x2 =>
    if House_doors v0 ≤ x2 then
      some false
    else
      if 20 ≤ x2 then
        some false
      else
        if x2 = x1 then
          nmL (x2 + 1) fun (x2_40 : Int32) =>
          House_hasOtherOpenDoor_2 x1 v0 n x2_40
        else
          Option.bind (House_isOpen x2 v0) fun p23 =>
          bif p23 then
            Option.bind (House_isBetweenSameRooms x2 x1 v0) fun p32 =>
            bif p32 then
              some true
            else
              nmL (x2 + 1) fun (x2_40 : Int32) =>
              House_hasOtherOpenDoor_2 x1 v0 n x2_40
          else
            nmL (x2 + 1) fun (x2_40 : Int32) =>
            House_hasOtherOpenDoor_2 x1 v0 n x2_40

def House_hasOtherOpenDoor (x1 : Int32) (v0 : HouseV) : Option Bool :=
  House_hasOtherOpenDoor_2 x1 v0 FU 0

def House_areJoined (x1 : Int32) (x2 : Int32) (v0 : HouseV) : Option Bool :=
  Option.bind (House_hasRoom x1 v0) fun p2 =>
  bif p2 then
    gd (inB x1 12) <|
    Option.bind (GW_has ((House_joined v0) (Int32.toNatClampNeg x1)) x2) fun p15 =>
    bif p15 then
      some true
    else
      some false
  else
    some false

def House_doorsBetween_31 (x1 : Int32) (x2 : Int32) (v0 : HouseV) (x3 : Int32) (x4 : Int32) (k7 : Int32 → Int32 → Option Int32) : Nat → Int32 → Int32 → Option Int32
  | 0, _, _ => none
  | n + 1, x5, x6 =>
    if House_rooms v0 ≤ x6 then
      nmL (x4 + 1) fun (x4_77 : Int32) =>
      k7 x5 x4_77
    else
      if 12 ≤ x6 then
        nmL (x4 + 1) fun (x4_77 : Int32) =>
        k7 x5 x4_77
      else
        Option.bind (GW_has x3 x6) fun p50 =>
        bif p50 then
          gd (inB x6 12) <|
          nmL (x5 ||| ((House_joined v0) (Int32.toNatClampNeg x6))) fun (x5_66 : Int32) =>
          nmL (x6 + 1) fun (x6_68 : Int32) =>
          House_doorsBetween_31 x1 x2 v0 x3 x4 k7 n x5_66 x6_68
        else
          nmL (x6 + 1) fun (x6_68 : Int32) =>
          House_doorsBetween_31 x1 x2 v0 x3 x4 k7 n x5 x6_68

def House_doorsBetween_7 (x1 : Int32) (x2 : Int32) (v0 : HouseV)  : Nat → Int32 → Int32 → Option Int32
  | 0, _, _ => none
  | n + 1, x3, x4 =>
    if 12 ≤ x4 then
      some (-1)
    else
      Option.bind (GW_has x3 x2) fun p16 =>
      bif p16 then
        some x4
      else
        House_doorsBetween_31 x1 x2 v0 x3 x4 (fun (x3 : Int32) (x4 : Int32) => House_doorsBetween_7 x1 x2 v0 n x3 x4) FU x3 0

def House_doorsBetween (x1 : Int32) (x2 : Int32) (v0 : HouseV) : Option Int32 :=
  nmL (1 <<< (x1 &&& 31)) fun (x3_3 : Int32) =>
  House_doorsBetween_7 x1 x2 v0 FU x3_3 0

def House_emptyWalk (x1 : Int32) (v0 : HouseV) : Option HouseV :=
  Option.bind (House_hasGuard x1 v0) fun p2 =>
  bif p2 then
    gd (inB x1 4) <|
    nmL (House_set_periods v0 (upd (House_periods v0) (Int32.toNatClampNeg x1) 0)) fun (v0_14 : HouseV) =>
    nmL (House_set_phases v0_14 (upd (House_phases v0_14) (Int32.toNatClampNeg x1) 0)) fun (v0_21 : HouseV) =>
    nmL (House_set_walked v0_21 (upd (House_walked v0_21) (Int32.toNatClampNeg x1) 0)) fun (v0_28 : HouseV) =>
    some v0_28
  else
    some v0

def House_addStep (x1 : Int32) (x2 : Int32) (v0 : HouseV) : Option HouseV :=
  Option.bind (House_hasGuard x1 v0) fun p2 =>
  bif p2 then
    gd (inB x1 4) <|
    if (House_periods v0) (Int32.toNatClampNeg x1) < 0 then
      some v0
    else
      if 10 ≤ (House_periods v0) (Int32.toNatClampNeg x1) then
        some v0
      else
        gd (inB ((x1 * 10) + ((House_periods v0) (Int32.toNatClampNeg x1))) 40) <|
        nmL (House_set_walks v0 (upd (House_walks v0) (Int32.toNatClampNeg ((x1 * 10) + ((House_periods v0) (Int32.toNatClampNeg x1)))) x2)) fun (v0_44 : HouseV) =>
        nmL (House_set_walked v0_44 (upd (House_walked v0_44) (Int32.toNatClampNeg x1) (((House_walked v0_44) (Int32.toNatClampNeg x1)) ||| (1 <<< (x2 &&& 31))))) fun (v0_56 : HouseV) =>
        nmL (House_set_periods v0_56 (upd (House_periods v0_56) (Int32.toNatClampNeg x1) (((House_periods v0_56) (Int32.toNatClampNeg x1)) + 1))) fun (v0_66 : HouseV) =>
        some v0_66
  else
    some v0

def House_walkRoom (x1 : Int32) (x2 : Int32) (v0 : HouseV) : Option Int32 :=
  Option.bind (House_hasGuard x1 v0) fun p2 =>
  bif p2 then
    if x2 < 0 then
      some (-1)
    else
      gd (inB x1 4) <|
      if (House_periods v0) (Int32.toNatClampNeg x1) ≤ x2 then
        some (-1)
      else
        if x2 < 10 then
          gd (inB ((x1 * 10) + x2) 40) <|
          some ((House_walks v0) (Int32.toNatClampNeg ((x1 * 10) + x2)))
        else
          some (-1)
  else
    some (-1)

def House_lastRoom (x1 : Int32) (v0 : HouseV) : Option Int32 :=
  Option.bind (House_hasGuard x1 v0) fun p2 =>
  bif p2 then
    gd (inB x1 4) <|
    if (House_periods v0) (Int32.toNatClampNeg x1) < 1 then
      some (-1)
    else
      if (House_periods v0) (Int32.toNatClampNeg x1) ≤ 10 then
        gd (inB (((x1 * 10) + ((House_periods v0) (Int32.toNatClampNeg x1))) - 1) 40) <|
        some ((House_walks v0) (Int32.toNatClampNeg (((x1 * 10) + ((House_periods v0) (Int32.toNatClampNeg x1))) - 1)))
      else
        some (-1)
  else
    some (-1)

def House_canGo (x1 : Int32) (x2 : Int32) (v0 : HouseV) : Option Bool :=
  if x1 = (-1) then
    some true
  else
    if x1 = x2 then
      some true
    else
      Option.bind (House_hasRoom x1 v0) fun p12 =>
      bif p12 then
        gd (inB x1 12) <|
        Option.bind (GW_has ((House_joined v0) (Int32.toNatClampNeg x1)) x2) fun p25 =>
        bif p25 then
          some true
        else
          some false
      else
        some false

def House_goesThrough_49 (x1 : Int32) (x2 : Int32) (x3 : Int32) (v0 : HouseV)  (k10 : Int32 → Int32 → Option Bool) (x4 : Int32) (x5 : Int32) (x6 : Int32) : Option Bool :=
  if x4 = x3 then
    if x6 = x2 then
      some true
    else
      nmL (x5 + 1) fun (x5_67 : Int32) =>
      k10 x6 x5_67
  else
    nmL (x5 + 1) fun (x5_67 : Int32) =>
    k10 x6 x5_67

def House_goesThrough_10 (x1 : Int32) (x2 : Int32) (x3 : Int32) (v0 : HouseV)  : Nat → Int32 → Int32 → Option Bool
  | 0, _, _ => none
  | n + 1, x4, x5 =>
    if 10 ≤ x5 then
      some false
    else
      Option.bind (House_walkRoom x1 x5 v0) fun p21 =>
      if p21 = (-1) then
        some false
      else
        Option.bind (House_walkRoom x1 x5 v0) fun p32 =>
        if x4 = x2 then
          if p32 = x3 then
            some true
          else
            House_goesThrough_49 x1 x2 x3 v0 (fun (x4 : Int32) (x5 : Int32) => House_goesThrough_10 x1 x2 x3 v0 n x4 x5) x4 x5 p32
        else
          House_goesThrough_49 x1 x2 x3 v0 (fun (x4 : Int32) (x5 : Int32) => House_goesThrough_10 x1 x2 x3 v0 n x4 x5) x4 x5 p32

def House_goesThrough (x1 : Int32) (x2 : Int32) (x3 : Int32) (v0 : HouseV) : Option Bool :=
  Option.bind (House_lastRoom x1 v0) fun p2 =>
  House_goesThrough_10 x1 x2 x3 v0 FU p2 0

def House_countGuardsThrough_14 (x1 : Int32) (v0 : HouseV)  : Nat → Int32 → Int32 → Option Int32
  | 0, _, _ => none
  | n + 1, x2, x3 =>
    if House_guards v0 ≤ x3 then
      some x2
    else
      gd (inB x1 20) <|
      Option.bind (House_goesThrough x3 ((House_doorFirst v0) (Int32.toNatClampNeg x1)) ((House_doorSecond v0) (Int32.toNatClampNeg x1)) v0) fun p36 =>
      bif p36 then
        nmL (x2 + 1) fun (x2_42 : Int32) =>
        nmL (x3 + 1) fun (x3_45 : Int32) =>
        House_countGuardsThrough_14 x1 v0 n x2_42 x3_45
      else
        nmL (x3 + 1) fun (x3_45 : Int32) =>
        House_countGuardsThrough_14 x1 v0 n x2 x3_45

def House_countGuardsThrough (x1 : Int32) (v0 : HouseV) : Option Int32 :=
  Option.bind (House_hasDoor x1 v0) fun p2 =>
  bif p2 then
    House_countGuardsThrough_14 x1 v0 FU 0 0
  else
    some 0

def House_cycleLength_4 (v0 : HouseV)  : Nat → Int32 → Int32 → Option Int32
  | 0, _, _ => none
  | n + 1, x1, x2 =>
    if House_guards v0 ≤ x2 then
      some x1
    else
      if 4 ≤ x2 then
        some x1
      else
        gd (inB x2 4) <|
        Option.bind (GW_leastMultiple x1 ((House_periods v0) (Int32.toNatClampNeg x2))) fun p24 =>
        nmL (x2 + 1) fun (x2_28 : Int32) =>
        House_cycleLength_4 v0 n p24 x2_28

def House_cycleLength (v0 : HouseV) : Option Int32 :=
  House_cycleLength_4 v0 FU 1 0

def House_roomAt_59 (x1 : Int32) (x2 : Int32) (v0 : HouseV)  (x3 : Int32) : Option Int32 :=
  if x3 < 0 then
    some (-1)
  else
    if x3 < 10 then
      gd (inB ((x1 * 10) + x3) 40) <|
      some ((House_walks v0) (Int32.toNatClampNeg ((x1 * 10) + x3)))
    else
      some (-1)

def House_roomAt (x1 : Int32) (x2 : Int32) (v0 : HouseV) : Option Int32 :=
  Option.bind (House_hasGuard x1 v0) fun p2 =>
  bif p2 then
    if x2 < 0 then
      some (-1)
    else
      gd (inB x1 4) <|
      if 1 ≤ (House_periods v0) (Int32.toNatClampNeg x1) then
        gd (nz ((House_periods v0) (Int32.toNatClampNeg x1))) <|
        nmL ((x2 - x2 / ((House_periods v0) (Int32.toNatClampNeg x1)) * ((House_periods v0) (Int32.toNatClampNeg x1))) + ((House_phases v0) (Int32.toNatClampNeg x1))) fun (x3_39 : Int32) =>
        if x3_39 < (House_periods v0) (Int32.toNatClampNeg x1) then
          House_roomAt_59 x1 x2 v0 x3_39
        else
          nmL (x3_39 - ((House_periods v0) (Int32.toNatClampNeg x1))) fun (x3_58 : Int32) =>
          House_roomAt_59 x1 x2 v0 x3_58
      else
        some (-1)
  else
    some (-1)

def House_guardsAt_5 (x1 : Int32) (x2 : Int32) (v0 : HouseV)  : Nat → Int32 → Int32 → Option Int32
  | 0, _, _ => none
  | n + 1, x3, x4 =>
    if House_guards v0 ≤ x4 then
      some x3
    else
      Option.bind (House_roomAt x4 x2 v0) fun p18 =>
      if p18 = x1 then
        nmL (x3 ||| (1 <<< (x4 &&& 31))) fun (x3_31 : Int32) =>
        nmL (x4 + 1) fun (x4_32 : Int32) =>
        House_guardsAt_5 x1 x2 v0 n x3_31 x4_32
      else
        nmL (x4 + 1) fun (x4_32 : Int32) =>
        House_guardsAt_5 x1 x2 v0 n x3 x4_32

def House_guardsAt (x1 : Int32) (x2 : Int32) (v0 : HouseV) : Option Int32 :=
  House_guardsAt_5 x1 x2 v0 FU 0 0

def House_roomsSeenAt_4 (x1 : Int32) (v0 : HouseV)  : Nat → Int32 → Int32 → Option Int32
  | 0, _, _ => none
  | n + 1, x2, x3 =>
    if House_guards v0 ≤ x3 then
      some x2
    else
      Option.bind (House_roomAt x3 x1 v0) fun p15 =>
      if p15 = (-1) then
        nmL (x3 + 1) fun (x3_33 : Int32) =>
        House_roomsSeenAt_4 x1 v0 n x2 x3_33
      else
        nmL (x2 ||| (1 <<< (p15 &&& 31))) fun (x2_32 : Int32) =>
        nmL (x3 + 1) fun (x3_33 : Int32) =>
        House_roomsSeenAt_4 x1 v0 n x2_32 x3_33

def House_roomsSeenAt (x1 : Int32) (v0 : HouseV) : Option Int32 :=
  House_roomsSeenAt_4 x1 v0 FU 0 0

def House_countPair_35 (x1 : Int32) (x2 : Int32) (x3 : Int32) (x4 : Int32) (v0 : HouseV) (x5 : Int32) : Nat → Int32 → Int32 → Int32 → Int32 → Option Int32
  | 0, _, _, _, _ => none
  | n + 1, x6, x7, x8, x9 =>
    if x5 < x9 then
      some x6
    else
      Option.bind (House_roomAt x1 x9 v0) fun p46 =>
      Option.bind (House_roomAt x2 x9 v0) fun p55 =>
      if x7 = x8 then
        nmL (x6 + x3) fun (x6_71 : Int32) =>
        nmL (x9 + 1) fun (x9_105 : Int32) =>
        House_countPair_35 x1 x2 x3 x4 v0 x5 n x6_71 p46 p55 x9_105
      else
        if x7 = p55 then
          if x8 = p46 then
            nmL (x6 + x4) fun (x6_95 : Int32) =>
            nmL (x9 + 1) fun (x9_105 : Int32) =>
            House_countPair_35 x1 x2 x3 x4 v0 x5 n x6_95 p46 p55 x9_105
          else
            nmL (x9 + 1) fun (x9_105 : Int32) =>
            House_countPair_35 x1 x2 x3 x4 v0 x5 n x6 p46 p55 x9_105
        else
          nmL (x9 + 1) fun (x9_105 : Int32) =>
          House_countPair_35 x1 x2 x3 x4 v0 x5 n x6 p46 p55 x9_105

def House_countPair (x1 : Int32) (x2 : Int32) (x3 : Int32) (x4 : Int32) (v0 : HouseV) : Option Int32 :=
  if x1 = x2 then
    some 0
  else
    Option.bind (House_cycleLength v0) fun p8 =>
    Option.bind (House_roomAt x1 0 v0) fun p19 =>
    Option.bind (House_roomAt x2 0 v0) fun p27 =>
    House_countPair_35 x1 x2 x3 x4 v0 p8 FU 0 p19 p27 1

def House_countCrossings_16 (v0 : HouseV) (x2 : Int32) (k4 : Int32 → Int32 → Option Int32) : Nat → Int32 → Int32 → Option Int32
  | 0, _, _ => none
  | n + 1, x1, x3 =>
    if House_guards v0 ≤ x3 then
      nmL (x2 + 1) fun (x2_41 : Int32) =>
      k4 x1 x2_41
    else
      Option.bind (House_countPair x2 x3 1 1 v0) fun p30 =>
      nmL (x1 + p30) fun (x1_34 : Int32) =>
      nmL (x3 + 1) fun (x3_35 : Int32) =>
      House_countCrossings_16 v0 x2 k4 n x1_34 x3_35

def House_countCrossings_4 (v0 : HouseV)  : Nat → Int32 → Int32 → Option Int32
  | 0, _, _ => none
  | n + 1, x1, x2 =>
    if House_guards v0 ≤ x2 then
      some x1
    else
      nmL (x2 + 1) fun (x3_15 : Int32) =>
      House_countCrossings_16 v0 x2 (fun (x1 : Int32) (x2 : Int32) => House_countCrossings_4 v0 n x1 x2) FU x1 x3_15

def House_countCrossings (v0 : HouseV) : Option Int32 :=
  House_countCrossings_4 v0 FU 0 0

def House_passMinute_100   (x1 : Int32) (v0 : HouseV) : Option (Int32 × HouseV) :=
  nmL (House_set_minute v0 ((House_minute v0) + 1)) fun (v0_107 : HouseV) =>
  Option.bind (J_bitCount x1) fun p111 =>
  some (p111, v0_107)

def House_passMinute_11  (x1 : Int32) : Nat → Int32 → HouseV → Option (Int32 × HouseV)
  | 0, _, _ => none
  | n + 1, x2, v0 =>
    if House_rooms v0 ≤ x2 then
      House_passMinute_100 x1 v0
    else
      if 12 ≤ x2 then
        House_passMinute_100 x1 v0
      else
        Option.bind (GW_has x1 x2) fun p27 =>
        bif p27 then
          gd (inB x2 12) <|
          nmL (House_set_sightings v0 (upd (House_sightings v0) (Int32.toNatClampNeg x2) (((House_sightings v0) (Int32.toNatClampNeg x2)) + 1))) fun (v0_42 : HouseV) =>
          nmL (House_set_lastSeen v0_42 (upd (House_lastSeen v0_42) (Int32.toNatClampNeg x2) (House_minute v0_42))) fun (v0_52 : HouseV) =>
          nmL (House_set_runs v0_52 (upd (House_runs v0_52) (Int32.toNatClampNeg x2) 0)) fun (v0_59 : HouseV) =>
          nmL (x2 + 1) fun (x2_94 : Int32) =>
          House_passMinute_11 x1 n x2_94 v0_59
        else
          gd (inB x2 12) <|
          nmL (House_set_runs v0 (upd (House_runs v0) (Int32.toNatClampNeg x2) (((House_runs v0) (Int32.toNatClampNeg x2)) + 1))) fun (v0_72 : HouseV) =>
          nmL (House_set_longestRuns v0_72 (upd (House_longestRuns v0_72) (Int32.toNatClampNeg x2) (imax ((House_longestRuns v0_72) (Int32.toNatClampNeg x2)) ((House_runs v0_72) (Int32.toNatClampNeg x2))))) fun (v0_93 : HouseV) =>
          nmL (x2 + 1) fun (x2_94 : Int32) =>
          House_passMinute_11 x1 n x2_94 v0_93

def House_passMinute (v0 : HouseV) : Option (Int32 × HouseV) :=
  Option.bind (House_roomsSeenAt (House_minute v0) v0) fun p5 =>
  House_passMinute_11 p5 FU 0 v0

def House_countSightings_4 (v0 : HouseV)  : Nat → Int32 → Int32 → Option Int32
  | 0, _, _ => none
  | n + 1, x1, x2 =>
    if House_rooms v0 ≤ x2 then
      some x1
    else
      if 12 ≤ x2 then
        some x1
      else
        gd (inB x2 12) <|
        nmL (x1 + ((House_sightings v0) (Int32.toNatClampNeg x2))) fun (x1_26 : Int32) =>
        nmL (x2 + 1) fun (x2_27 : Int32) =>
        House_countSightings_4 v0 n x1_26 x2_27

def House_countSightings (v0 : HouseV) : Option Int32 :=
  House_countSightings_4 v0 FU 0 0

def House_copyFrom (v0 : HouseV) (v1 : HouseV) : Option HouseV :=
  nmL (House_set_rooms v0 (House_rooms v1)) fun (v0_5 : HouseV) =>
  nmL (House_set_doors v0_5 (House_doors v1)) fun (v0_13 : HouseV) =>
  nmL (House_set_guards v0_13 (House_guards v1)) fun (v0_21 : HouseV) =>
  nmL (House_set_minute v0_21 (House_minute v1)) fun (v0_29 : HouseV) =>
  nmL (House_set_openDoors v0_29 (House_openDoors v1)) fun (v0_37 : HouseV) =>
  nmL (House_set_walksStamp v0_37 (House_walksStamp v1)) fun (v0_45 : HouseV) =>
  nmL (House_set_phasesStamp v0_45 (House_phasesStamp v1)) fun (v0_53 : HouseV) =>
  nmL (House_set_doorFirst v0_53 (va_cpy (House_doorFirst v1) (House_doorFirst v0_53) 0 0 20)) fun (v0_68 : HouseV) =>
  nmL (House_set_doorSecond v0_68 (va_cpy (House_doorSecond v1) (House_doorSecond v0_68) 0 0 20)) fun (v0_83 : HouseV) =>
  nmL (House_set_joined v0_83 (va_cpy (House_joined v1) (House_joined v0_83) 0 0 12)) fun (v0_98 : HouseV) =>
  nmL (House_set_limits v0_98 (va_cpy (House_limits v1) (House_limits v0_98) 0 0 12)) fun (v0_113 : HouseV) =>
  nmL (House_set_periods v0_113 (va_cpy (House_periods v1) (House_periods v0_113) 0 0 4)) fun (v0_127 : HouseV) =>
  nmL (House_set_phases v0_127 (va_cpy (House_phases v1) (House_phases v0_127) 0 0 4)) fun (v0_141 : HouseV) =>
  nmL (House_set_walks v0_141 (va_cpy (House_walks v1) (House_walks v0_141) 0 0 40)) fun (v0_156 : HouseV) =>
  nmL (House_set_walked v0_156 (va_cpy (House_walked v1) (House_walked v0_156) 0 0 4)) fun (v0_170 : HouseV) =>
  nmL (House_set_sightings v0_170 (va_cpy (House_sightings v1) (House_sightings v0_170) 0 0 12)) fun (v0_185 : HouseV) =>
  nmL (House_set_lastSeen v0_185 (va_cpy (House_lastSeen v1) (House_lastSeen v0_185) 0 0 12)) fun (v0_200 : HouseV) =>
  nmL (House_set_runs v0_200 (va_cpy (House_runs v1) (House_runs v0_200) 0 0 12)) fun (v0_215 : HouseV) =>
  nmL (House_set_longestRuns v0_215 (va_cpy (House_longestRuns v1) (House_longestRuns v0_215) 0 0 12)) fun (v0_230 : HouseV) =>
  some v0_230

