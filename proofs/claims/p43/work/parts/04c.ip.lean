def Sight_seeRoom_90 (x1 : Int32) (x2 : Int32)  (v0 : SightV) : Option SightV :=
  gd (inB x1 12) <|
  nmL (Sight_set_last v0 (upd (Sight_last v0) (Int32.toNatClampNeg x1) x2)) fun (v0_96 : SightV) =>
  nmL (Sight_set_seen v0_96 (upd (Sight_seen v0_96) (Int32.toNatClampNeg x1) (((Sight_seen v0_96) (Int32.toNatClampNeg x1)) + 1))) fun (v0_106 : SightV) =>
  some v0_106

def Sight_seeRoom (x1 : Int32) (x2 : Int32) (v0 : SightV) : Option SightV :=
  if x1 < 0 then
    some v0
  else
    if 12 ≤ x1 then
      some v0
    else
      gd (inB x1 12) <|
      if (Sight_last v0) (Int32.toNatClampNeg x1) = x2 then
        some v0
      else
        if (Sight_last v0) (Int32.toNatClampNeg x1) = (-1) then
          nmL (Sight_set_first v0 (upd (Sight_first v0) (Int32.toNatClampNeg x1) x2)) fun (v0_37 : SightV) =>
          Sight_seeRoom_90 x1 x2 v0_37
        else
          if (x2 - ((Sight_last v0) (Int32.toNatClampNeg x1))) - 1 ≤ (Sight_gaps v0) (Int32.toNatClampNeg x1) then
            Sight_seeRoom_90 x1 x2 v0
          else
            nmL (Sight_set_gaps v0 (upd (Sight_gaps v0) (Int32.toNatClampNeg x1) ((x2 - ((Sight_last v0) (Int32.toNatClampNeg x1))) - 1))) fun (v0_75 : SightV) =>
            nmL (Sight_set_gapStarts v0_75 (upd (Sight_gapStarts v0_75) (Int32.toNatClampNeg x1) (((Sight_last v0_75) (Int32.toNatClampNeg x1)) + 1))) fun (v0_89 : SightV) =>
            Sight_seeRoom_90 x1 x2 v0_89

def Sight_closeRound_108 (x1 : Int32) (x2 : Int32)  (x3 : Int32) (x4 : Int32) (v0 : SightV) : Option SightV :=
  gd (inB x1 12) <|
  nmL (Sight_set_gaps v0 (upd (Sight_gaps v0) (Int32.toNatClampNeg x1) x3)) fun (v0_114 : SightV) =>
  nmL (Sight_set_gapStarts v0_114 (upd (Sight_gapStarts v0_114) (Int32.toNatClampNeg x1) x4)) fun (v0_122 : SightV) =>
  some v0_122

def Sight_closeRound_71 (x1 : Int32) (x2 : Int32)  (x3 : Int32) (s0 : Int32) (v0 : SightV) : Option SightV :=
  gd (inB x1 12) <|
  if (Sight_gaps v0) (Int32.toNatClampNeg x1) < x3 then
    Sight_closeRound_108 x1 x2 x3 s0 v0
  else
    if x3 ≤ 0 then
      some v0
    else
      if x3 = (Sight_gaps v0) (Int32.toNatClampNeg x1) then
        if (Sight_gapStarts v0) (Int32.toNatClampNeg x1) ≤ s0 then
          some v0
        else
          Sight_closeRound_108 x1 x2 x3 s0 v0
      else
        some v0

def Sight_closeRound (x1 : Int32) (x2 : Int32) (v0 : SightV) : Option SightV :=
  if x1 < 0 then
    some v0
  else
    if x1 < 12 then
      gd (inB x1 12) <|
      if (Sight_last v0) (Int32.toNatClampNeg x1) = (-1) then
        nmL (Sight_set_gaps v0 (upd (Sight_gaps v0) (Int32.toNatClampNeg x1) (-1))) fun (v0_27 : SightV) =>
        some v0_27
      else
        nmL (((((Sight_first v0) (Int32.toNatClampNeg x1)) + x2) - ((Sight_last v0) (Int32.toNatClampNeg x1))) - 1) fun (x3_46 : Int32) =>
        if x2 ≤ ((Sight_last v0) (Int32.toNatClampNeg x1)) + 1 then
          Sight_closeRound_71 x1 x2 x3_46 0 v0
        else
          Sight_closeRound_71 x1 x2 x3_46 (((Sight_last v0) (Int32.toNatClampNeg x1)) + 1) v0
    else
      some v0

def Sight_seeMinute_2 (x2 : Int32) (v1 : HouseV)  : Nat → Int32 → SightV → Option SightV
  | 0, _, _ => none
  | n + 1, x3, v0 =>
    if House_guards v1 ≤ x3 then
      some v0
    else
      if 4 ≤ x3 then
        some v0
      else
        gd (inB x3 4) <|
        Option.bind (House_walkRoom x3 ((Sight_steps v0) (Int32.toNatClampNeg x3)) v1) fun p24 =>
        Option.bind (Sight_seeRoom p24 x2 v0) fun p28 =>
        nmL (Sight_set_steps p28 (upd (Sight_steps p28) (Int32.toNatClampNeg x3) (((Sight_steps p28) (Int32.toNatClampNeg x3)) + 1))) fun (v0_40 : SightV) =>
        if (Sight_steps v0_40) (Int32.toNatClampNeg x3) < (House_periods v1) (Int32.toNatClampNeg x3) then
          nmL (x3 + 1) fun (x3_63 : Int32) =>
          Sight_seeMinute_2 x2 v1 n x3_63 v0_40
        else
          nmL (Sight_set_steps v0_40 (upd (Sight_steps v0_40) (Int32.toNatClampNeg x3) 0)) fun (v0_62 : SightV) =>
          nmL (x3 + 1) fun (x3_63 : Int32) =>
          Sight_seeMinute_2 x2 v1 n x3_63 v0_62

def Sight_seeMinute (x2 : Int32) (v0 : SightV) (v1 : HouseV) : Option SightV :=
  Sight_seeMinute_2 x2 v1 FU 0 v0

def Sight_measure_85 (v1 : HouseV) (x2 : Int32) : Nat → Int32 → SightV → Option SightV
  | 0, _, _ => none
  | n + 1, x3, v0 =>
    if House_rooms v1 ≤ x3 then
      nmL (Sight_set_stamp v0 (House_phasesStamp v1)) fun (v0_133 : SightV) =>
      some v0_133
    else
      if 12 ≤ x3 then
        nmL (Sight_set_stamp v0 (House_phasesStamp v1)) fun (v0_133 : SightV) =>
        some v0_133
      else
        Option.bind (Sight_closeRound x3 x2 v0) fun p102 =>
        gd (inB x3 12) <|
        nmL (Sight_set_worst p102 (imax (Sight_worst p102) ((Sight_gaps p102) (Int32.toNatClampNeg x3)))) fun (v0_119 : SightV) =>
        nmL (x3 + 1) fun (x3_122 : Int32) =>
        Sight_measure_85 v1 x2 n x3_122 v0_119

def Sight_measure_61 (v1 : HouseV) (x2 : Int32) : Nat → Int32 → SightV → Option SightV
  | 0, _, _ => none
  | n + 1, x3, v0 =>
    if x2 ≤ x3 then
      nmL (Sight_set_worst v0 0) fun (v0_80 : SightV) =>
      Sight_measure_85 v1 x2 FU 0 v0_80
    else
      Option.bind (Sight_seeMinute x3 v0 v1) fun p69 =>
      nmL (x3 + 1) fun (x3_72 : Int32) =>
      Sight_measure_61 v1 x2 n x3_72 p69

def Sight_measure (v0 : SightV) (v1 : HouseV) : Option SightV :=
  Option.bind (J_fill 0 12 (Sight_seen v0)) fun p5 =>
  nmL (Sight_set_seen v0 p5) fun (v0_5 : SightV) =>
  Option.bind (J_fill 0 12 (Sight_gaps v0_5)) fun p13 =>
  nmL (Sight_set_gaps v0_5 p13) fun (v0_13 : SightV) =>
  Option.bind (J_fill (-1) 12 (Sight_gapStarts v0_13)) fun p21 =>
  nmL (Sight_set_gapStarts v0_13 p21) fun (v0_21 : SightV) =>
  Option.bind (J_fill (-1) 12 (Sight_first v0_21)) fun p29 =>
  nmL (Sight_set_first v0_21 p29) fun (v0_29 : SightV) =>
  Option.bind (J_fill (-1) 12 (Sight_last v0_29)) fun p37 =>
  nmL (Sight_set_last v0_29 p37) fun (v0_37 : SightV) =>
  nmL (Sight_set_steps v0_37 (va_cpy (House_phases v1) (Sight_steps v0_37) 0 0 4)) fun (v0_51 : SightV) =>
  Option.bind (House_cycleLength v1) fun p55 =>
  Sight_measure_61 v1 p55 FU 0 v0_51

def Sight_isLate (x2 : Int32) (v0 : SightV) (v1 : HouseV) : Option Bool :=
  if x2 < 0 then
    some false
  else
    if 12 ≤ x2 then
      some false
    else
      gd (inB x2 12) <|
      if (Sight_gaps v0) (Int32.toNatClampNeg x2) = (-1) then
        some true
      else
        if (Sight_gaps v0) (Int32.toNatClampNeg x2) ≤ (House_limits v1) (Int32.toNatClampNeg x2) then
          some false
        else
          some true

def Sight_countLate_4 (v0 : SightV) (v1 : HouseV)  : Nat → Int32 → Int32 → Option Int32
  | 0, _, _ => none
  | n + 1, x2, x3 =>
    if House_rooms v1 ≤ x3 then
      some x2
    else
      Option.bind (Sight_isLate x3 v0 v1) fun p15 =>
      bif p15 then
        nmL (x2 + 1) fun (x2_21 : Int32) =>
        nmL (x3 + 1) fun (x3_24 : Int32) =>
        Sight_countLate_4 v0 v1 n x2_21 x3_24
      else
        nmL (x3 + 1) fun (x3_24 : Int32) =>
        Sight_countLate_4 v0 v1 n x2 x3_24

def Sight_countLate (v0 : SightV) (v1 : HouseV) : Option Int32 :=
  Sight_countLate_4 v0 v1 FU 0 0

def Intr_barPassing_10 (x2 : Int32) (v1 : HouseV)  : Nat → Int32 → IntrV → Option IntrV
  | 0, _, _ => none
  | n + 1, x3, v0 =>
    if House_guards v1 ≤ x3 then
      some v0
    else
      Option.bind (House_roomAt x3 x2 v1) fun p21 =>
      Option.bind (House_roomAt x3 (x2 + 1) v1) fun p31 =>
      if p21 < 0 then
        nmL (x3 + 1) fun (x3_67 : Int32) =>
        Intr_barPassing_10 x2 v1 n x3_67 v0
      else
        if p31 < 0 then
          nmL (x3 + 1) fun (x3_67 : Int32) =>
          Intr_barPassing_10 x2 v1 n x3_67 v0
        else
          if 12 ≤ p31 then
            nmL (x3 + 1) fun (x3_67 : Int32) =>
            Intr_barPassing_10 x2 v1 n x3_67 v0
          else
            gd (inB p31 12) <|
            nmL (Intr_set_barred v0 (upd (Intr_barred v0) (Int32.toNatClampNeg p31) (((Intr_barred v0) (Int32.toNatClampNeg p31)) ||| (1 <<< (p21 &&& 31))))) fun (v0_66 : IntrV) =>
            nmL (x3 + 1) fun (x3_67 : Int32) =>
            Intr_barPassing_10 x2 v1 n x3_67 v0_66

def Intr_barPassing (x2 : Int32) (v0 : IntrV) (v1 : HouseV) : Option IntrV :=
  Option.bind (J_fill 0 12 (Intr_barred v0)) fun p5 =>
  nmL (Intr_set_barred v0 p5) fun (v0_5 : IntrV) =>
  Intr_barPassing_10 x2 v1 FU 0 v0_5

def Intr_roomsNext_65 (x2 : Int32) (x3 : Int32) (v1 : HouseV)  (x4 : Int32) (v0 : IntrV) : Option (Int32 × IntrV) :=
  Option.bind (House_roomsSeenAt (x3 + 1) v1) fun p71 =>
  some (x4 &&& (p71 ^^^ (-1)), v0)

def Intr_roomsNext_12 (x2 : Int32) (x3 : Int32) (v1 : HouseV)  : Nat → Int32 → Int32 → IntrV → Option (Int32 × IntrV)
  | 0, _, _, _ => none
  | n + 1, x4, x5, v0 =>
    if House_rooms v1 ≤ x5 then
      Intr_roomsNext_65 x2 x3 v1 x4 v0
    else
      if 12 ≤ x5 then
        Intr_roomsNext_65 x2 x3 v1 x4 v0
      else
        Option.bind (GW_has x2 x5) fun p31 =>
        bif p31 then
          gd (inB x5 12) <|
          nmL (x4 ||| (((House_joined v1) (Int32.toNatClampNeg x5)) &&& (((Intr_barred v0) (Int32.toNatClampNeg x5)) ^^^ (-1)))) fun (x4_57 : Int32) =>
          nmL (x5 + 1) fun (x5_59 : Int32) =>
          Intr_roomsNext_12 x2 x3 v1 n x4_57 x5_59 v0
        else
          nmL (x5 + 1) fun (x5_59 : Int32) =>
          Intr_roomsNext_12 x2 x3 v1 n x4 x5_59 v0

def Intr_roomsNext (x2 : Int32) (x3 : Int32) (v0 : IntrV) (v1 : HouseV) : Option (Int32 × IntrV) :=
  Option.bind (Intr_barPassing x3 v0 v1) fun p3 =>
  Intr_roomsNext_12 x2 x3 v1 FU x2 0 p3

def Intr_roomsAfter_16 (x2 : Int32) (x3 : Int32) (x4 : Int32) (v1 : HouseV)  : Nat → Int32 → Int32 → IntrV → Option (Int32 × IntrV)
  | 0, _, _, _ => none
  | n + 1, x5, x6, v0 =>
    if x4 ≤ x6 then
      some (x5, v0)
    else
      if x5 = 0 then
        some (x5, v0)
      else
        Option.bind (Intr_roomsNext x5 (x3 + x6) v0 v1) fun p36 =>
        nmL (x6 + 1) fun (x6_41 : Int32) =>
        Intr_roomsAfter_16 x2 x3 x4 v1 n p36.1 x6_41 p36.2

def Intr_roomsAfter (x2 : Int32) (x3 : Int32) (x4 : Int32) (v0 : IntrV) (v1 : HouseV) : Option (Int32 × IntrV) :=
  Option.bind (House_roomsSeenAt x3 v1) fun p5 =>
  nmL ((1 <<< (x2 &&& 31)) &&& (p5 ^^^ (-1))) fun (x5_11 : Int32) =>
  Intr_roomsAfter_16 x2 x3 x4 v1 FU x5_11 0 v0

def Intr_firstArrival_126 (x2 : Int32) (x3 : Int32) (x4 : Int32) (v1 : HouseV)  (k54 : Int32 → Int32 → Int32 → IntrV → Option (Int32 × IntrV)) (x5 : Int32) (x7 : Int32) (x8 : Int32) (s0 : Int32) (v0 : IntrV) : Option (Int32 × IntrV) :=
  Option.bind (Intr_roomsNext x7 (x4 + x8) v0 v1) fun p137 =>
  gd (inB s0 2520) <|
  nmL (p137.1 &&& (((Intr_visited p137.2) (Int32.toNatClampNeg s0)) ^^^ (-1))) fun (x7_150 : Int32) =>
  nmL (x8 + 1) fun (x8_152 : Int32) =>
  k54 s0 x7_150 x8_152 p137.2

def Intr_firstArrival_54 (x2 : Int32) (x3 : Int32) (x4 : Int32) (v1 : HouseV) (x5 : Int32) : Nat → Int32 → Int32 → Int32 → IntrV → Option (Int32 × IntrV)
  | 0, _, _, _, _ => none
  | n + 1, x6, x7, x8, v0 =>
    if 30240 < x8 then
      some ((-1), v0)
    else
      if x7 = 0 then
        some ((-1), v0)
      else
        Option.bind (GW_has x7 x3) fun p70 =>
        bif p70 then
          some (x4 + x8, v0)
        else
          if x6 < 0 then
            some ((-1), v0)
          else
            if x6 < 2520 then
              gd (inB x6 2520) <|
              nmL (Intr_set_visited v0 (upd (Intr_visited v0) (Int32.toNatClampNeg x6) (((Intr_visited v0) (Int32.toNatClampNeg x6)) ||| x7))) fun (v0_108 : IntrV) =>
              if x5 ≤ x6 + 1 then
                Intr_firstArrival_126 x2 x3 x4 v1 (fun (x6 : Int32) (x7 : Int32) (x8 : Int32) (v0 : IntrV) => Intr_firstArrival_54 x2 x3 x4 v1 x5 n x6 x7 x8 v0) x5 x7 x8 0 v0_108
              else
                Intr_firstArrival_126 x2 x3 x4 v1 (fun (x6 : Int32) (x7 : Int32) (x8 : Int32) (v0 : IntrV) => Intr_firstArrival_54 x2 x3 x4 v1 x5 n x6 x7 x8 v0) x5 x7 x8 (x6 + 1) v0_108
            else
              some ((-1), v0)

def Intr_firstArrival (x2 : Int32) (x3 : Int32) (x4 : Int32) (v0 : IntrV) (v1 : HouseV) : Option (Int32 × IntrV) :=
  Option.bind (House_cycleLength v1) fun p1 =>
  if p1 < 1 then
    some ((-1), v0)
  else
    if p1 ≤ 2520 then
      Option.bind (J_fill 0 2520 (Intr_visited v0)) fun p27 =>
      nmL (Intr_set_visited v0 p27) fun (v0_27 : IntrV) =>
      gd (nz p1) <|
      nmL (x4 - x4 / p1 * p1) fun (x6_35 : Int32) =>
      Option.bind (House_roomsSeenAt x4 v1) fun p43 =>
      nmL ((1 <<< (x2 &&& 31)) &&& (p43 ^^^ (-1))) fun (x7_49 : Int32) =>
      Intr_firstArrival_54 x2 x3 x4 v1 p1 FU x6_35 x7_49 0 v0_27
    else
      some ((-1), v0)

