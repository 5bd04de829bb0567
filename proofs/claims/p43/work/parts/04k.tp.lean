def GW_arrival (x1 : Int32) (x2 : Int32) (x3 : Int32) (v0 : GWV) (v1 : HouseV) (v2 : IntrV) : Option (Int32 × IntrV) :=
  Option.bind (GW_needRoom x1 v0 v1) fun p2 =>
  Option.bind (GW_needRoom x2 v0 v1) fun p7 =>
  Option.bind (GW_needRange x3 0 1000000) fun p14 =>
  Option.bind (Intr_firstArrival x1 x2 x3 v2 v1) fun p28 =>
  some (p28.1, p28.2)

def GW_hiding (x1 : Int32) (x2 : Int32) (x3 : Int32) (v0 : GWV) (v1 : HouseV) (v2 : IntrV) : Option (Int32 × IntrV) :=
  Option.bind (GW_needRoom x1 v0 v1) fun p2 =>
  Option.bind (GW_needRange x2 0 1000000) fun p9 =>
  Option.bind (GW_needRange x3 0 100) fun p16 =>
  Option.bind (Intr_roomsAfter x1 x2 x3 v2 v1) fun p30 =>
  some (p30.1, p30.2)

def GW_pass_41 (x1 : Int32) (v0 : GWV)  : Nat → Int32 → Int32 → HouseV → HistV → (Nat → HouseV) → Option (Int32 × HouseV × HistV × (Nat → HouseV))
  | 0, _, _, _, _, _ => none
  | n + 1, x2, x3, v1, v2, v3 =>
    if x1 ≤ x3 then
      some (x2, v1, v2, v3)
    else
      Option.bind (House_passMinute v1) fun p51 =>
      nmL (x2 + p51.1) fun (x2_55 : Int32) =>
      nmL (x3 + 1) fun (x3_56 : Int32) =>
      GW_pass_41 x1 v0 n x2_55 x3_56 p51.2 v2 v3

def GW_pass (x1 : Int32) (v0 : GWV) (v1 : HouseV) (v2 : HistV) (v3 : Nat → HouseV) : Option (Int32 × HouseV × HistV × (Nat → HouseV)) :=
  Option.bind (GW_needRange x1 1 500) fun p5 =>
  if (House_minute v1) + x1 ≤ 99999 then
    Option.bind (Hist_record v2 v3 v1) fun p34 =>
    GW_pass_41 x1 v0 FU 0 0 v1 p34.1 p34.2
  else
    some ((-2), v1, v2, v3)

def GW_shift (x1 : Int32) (x2 : Int32) (v0 : GWV) (v1 : HouseV) (v2 : HistV) (v3 : Nat → HouseV) (v4 : SightV) : Option (Int32 × GWV × HouseV × HistV × (Nat → HouseV) × SightV) :=
  Option.bind (GW_needGuard x1 v0 v1) fun p2 =>
  gd (inB x1 4) <|
  Option.bind (GW_needRange x2 0 (((House_periods v1) (Int32.toNatClampNeg x1)) - 1)) fun p18 =>
  Option.bind (Hist_record v2 v3 v1) fun p29 =>
  nmL (House_set_phases v1 (upd (House_phases v1) (Int32.toNatClampNeg x1) x2)) fun (v1_41 : HouseV) =>
  Option.bind (GW_markPhasesChanged v0 v1_41) fun p43 =>
  Option.bind (GW_measured p43.1 p43.2 v4) fun p47 =>
  some (Sight_worst p47, p43.1, p43.2, p29.1, p29.2, p47)

def GW_adopt_78   (x2 : Int32) (v0 : GWV) (v1 : HouseV) (v2 : HistV) (v3 : Nat → HouseV) (v4 : BestV) (v5 : HouseV) (v6 : SightV) : Option (Int32 × GWV × HouseV × HistV × (Nat → HouseV) × BestV × HouseV × SightV) :=
  Option.bind (GW_markPhasesChanged v0 v1) fun p79 =>
  some (x2, p79.1, p79.2, v2, v3, v4, v5, v6)

def GW_adopt_20   : Nat → Int32 → Int32 → GWV → HouseV → HistV → (Nat → HouseV) → BestV → HouseV → SightV → Option (Int32 × GWV × HouseV × HistV × (Nat → HouseV) × BestV × HouseV × SightV)
  | 0, _, _, _, _, _, _, _, _, _ => none
  | n + 1, x2, x3, v0, v1, v2, v3, v4, v5, v6 =>
    if House_guards v1 ≤ x3 then
      GW_adopt_78 x2 v0 v1 v2 v3 v4 v5 v6
    else
      if 4 ≤ x3 then
        GW_adopt_78 x2 v0 v1 v2 v3 v4 v5 v6
      else
        gd (inB x3 4) <|
        if (House_phases v1) (Int32.toNatClampNeg x3) = (Best_phases v4) (Int32.toNatClampNeg x3) then
          nmL (x3 + 1) fun (x3_72 : Int32) =>
          GW_adopt_20 n x2 x3_72 v0 v1 v2 v3 v4 v5 v6
        else
          nmL (House_set_phases v1 (upd (House_phases v1) (Int32.toNatClampNeg x3) ((Best_phases v4) (Int32.toNatClampNeg x3)))) fun (v1_68 : HouseV) =>
          nmL (x2 + 1) fun (x2_69 : Int32) =>
          nmL (x3 + 1) fun (x3_72 : Int32) =>
          GW_adopt_20 n x2_69 x3_72 v0 v1_68 v2 v3 v4 v5 v6

def GW_adopt (v0 : GWV) (v1 : HouseV) (v2 : HistV) (v3 : Nat → HouseV) (v4 : BestV) (v5 : HouseV) (v6 : SightV) : Option (Int32 × GWV × HouseV × HistV × (Nat → HouseV) × BestV × HouseV × SightV) :=
  Option.bind (GW_best v0 v1 v4 v5 v6) fun p1 =>
  Option.bind (Hist_record v2 v3 v1) fun p13 =>
  GW_adopt_20 FU 0 0 v0 v1 p13.1 p13.2 p1.1 p1.2.1 p1.2.2

def GW_closeDoor_44 (x1 : Int32) (v0 : GWV)  (v1 : HouseV) (v2 : HistV) (v3 : Nat → HouseV) : Option (Int32 × HouseV × HistV × (Nat → HouseV)) :=
  Option.bind (Hist_record v2 v3 v1) fun p52 =>
  Option.bind (House_setOpen x1 false v1) fun p61 =>
  Option.bind (House_countOpenDoors p61) fun p68 =>
  some (p68, p61, p52.1, p52.2)

def GW_closeDoor (x1 : Int32) (v0 : GWV) (v1 : HouseV) (v2 : HistV) (v3 : Nat → HouseV) : Option (Int32 × HouseV × HistV × (Nat → HouseV)) :=
  Option.bind (GW_needDoor x1 v0 v1) fun p2 =>
  Option.bind (House_isOpen x1 v1) fun p10 =>
  bif p10 then
    Option.bind (House_countGuardsThrough x1 v1) fun p24 =>
    if p24 ≤ 0 then
      GW_closeDoor_44 x1 v0 v1 v2 v3
    else
      Option.bind (House_hasOtherOpenDoor x1 v1) fun p35 =>
      bif p35 then
        GW_closeDoor_44 x1 v0 v1 v2 v3
      else
        some ((-3), v1, v2, v3)
  else
    some ((-2), v1, v2, v3)

def GW_openDoor (x1 : Int32) (v0 : GWV) (v1 : HouseV) (v2 : HistV) (v3 : Nat → HouseV) : Option (Int32 × HouseV × HistV × (Nat → HouseV)) :=
  Option.bind (GW_needDoor x1 v0 v1) fun p2 =>
  Option.bind (House_isOpen x1 v1) fun p10 =>
  bif p10 then
    some ((-2), v1, v2, v3)
  else
    Option.bind (Hist_record v2 v3 v1) fun p27 =>
    Option.bind (House_setOpen x1 true v1) fun p36 =>
    Option.bind (House_countOpenDoors p36) fun p43 =>
    some (p43, p36, p27.1, p27.2)

def GW_setLimit (x1 : Int32) (x2 : Int32) (v0 : GWV) (v1 : HouseV) (v2 : HistV) (v3 : Nat → HouseV) (v4 : SightV) : Option (Int32 × HouseV × HistV × (Nat → HouseV) × SightV) :=
  Option.bind (GW_needRoom x1 v0 v1) fun p2 =>
  Option.bind (GW_needRange x2 0 99) fun p9 =>
  Option.bind (Hist_record v2 v3 v1) fun p20 =>
  gd (inB x1 12) <|
  nmL (House_set_limits v1 (upd (House_limits v1) (Int32.toNatClampNeg x1) x2)) fun (v1_32 : HouseV) =>
  Option.bind (GW_measured v0 v1_32 v4) fun p34 =>
  Option.bind (Sight_countLate p34 v1_32) fun p41 =>
  some (p41, v1_32, p20.1, p20.2, p34)

def GW_change (x1 : Int32) (v0 : GWV) (v1 : HouseV) (v2 : HouseV) (v3 : HistV) (v4 : Nat → HouseV) (v5 : ToksV) : Option (Int32 × GWV × HouseV × HouseV × HistV × (Nat → HouseV) × ToksV) :=
  Option.bind (GW_needRange x1 0 (Toks_filled v5)) fun p9 =>
  Option.bind (Toks_begin x1 v5) fun p17 =>
  Option.bind (House_copyFrom v2 v1) fun p28 =>
  Option.bind (HRead_readChange p17 p28) fun p39 =>
  Option.bind (GW_endReading p39.1 v0 p39.2.1) fun p45 =>
  if p39.1 = 0 then
    Option.bind (Hist_record v3 v4 v1) fun p65 =>
    Option.bind (House_copyFrom v1 p39.2.2) fun p76 =>
    Option.bind (GW_markWalksChanged p45.1 p76) fun p80 =>
    Option.bind (House_cycleLength p80.2) fun p87 =>
    some (p87, p80.1, p80.2, p39.2.2, p65.1, p65.2, p45.2)
  else
    some ((-10) - p39.1, p45.1, v1, p39.2.2, v3, v4, p45.2)

def GW_undoCount (v0 : GWV) (v1 : HistV) : Option Int32 :=
  some (Hist_count v1)

def GW_undo (v0 : GWV) (v1 : HouseV) (v2 : HistV) (v3 : Nat → HouseV) : Option (Int32 × HouseV × HistV) :=
  Option.bind (Hist_takeBack v2 v3 v1) fun p8 =>
  bif p8.1 then
    some (Hist_count p8.2.1, p8.2.2, p8.2.1)
  else
    some ((-1), p8.2.2, p8.2.1)

def GW_saveSnapshot (v0 : GWV) (v1 : HouseV) (v2 : HistV) (v3 : HouseV) : Option (HistV × HouseV) :=
  Option.bind (Hist_keepSnapshot v2 v3 v1) fun p8 =>
  some (p8.1, p8.2)

def GW_restoreSnapshot (v0 : GWV) (v1 : HouseV) (v2 : HistV) (v3 : HouseV) : Option (Bool × HouseV × HistV) :=
  Option.bind (Hist_bringSnapshot v2 v3 v1) fun p8 =>
  some (p8.1, p8.2.2, p8.2.1)

