def HRead_readSemicolon (v1 : ToksV) : Option (Int32 × ToksV) :=
  Option.bind (Toks_isSign 59 v1) fun p6 =>
  bif p6 then
    Option.bind (Toks_advance v1) fun p18 =>
    some (0, p18)
  else
    some (1, v1)

def HRead_stepCode_42 (x2 : Int32) (v1 : ToksV) (v2 : HouseV)   : Option Int32 :=
  Option.bind (House_lastRoom x2 v2) fun p45 =>
  Option.bind (House_canGo p45 (Toks_number v1) v2) fun p55 =>
  bif p55 then
    some 0
  else
    some 4

def HRead_stepCode (x2 : Int32) (v1 : ToksV) (v2 : HouseV) : Option Int32 :=
  Option.bind (Toks_numberCode 0 ((House_rooms v2) - 1) v1) fun p11 =>
  if p11 = 0 then
    Option.bind (House_hasGuard x2 v2) fun p23 =>
    bif p23 then
      gd (inB x2 4) <|
      if (House_periods v2) (Int32.toNatClampNeg x2) < 10 then
        HRead_stepCode_42 x2 v1 v2
      else
        some 3
    else
      HRead_stepCode_42 x2 v1 v2
  else
    some p11

def HRead_endOfRoomsCode_44 (x2 : Int32) (x3 : Bool) (v1 : ToksV) (v2 : HouseV)   : Option Int32 :=
  Option.bind (House_lastRoom x2 v2) fun p47 =>
  Option.bind (House_walkRoom x2 0 v2) fun p53 =>
  Option.bind (House_canGo p47 p53 v2) fun p56 =>
  bif p56 then
    some 0
  else
    some 4

def HRead_endOfRoomsCode_23 (x2 : Int32) (x3 : Bool) (v1 : ToksV) (v2 : HouseV)  (s0 : Int32) : Option Int32 :=
  if s0 = 0 then
    Option.bind (Toks_isWord 15 v1) fun p36 =>
    bif p36 then
      HRead_endOfRoomsCode_44 x2 x3 v1 v2
    else
      some 1
  else
    HRead_endOfRoomsCode_44 x2 x3 v1 v2

def HRead_endOfRoomsCode (x2 : Int32) (x3 : Bool) (v1 : ToksV) (v2 : HouseV) : Option Int32 :=
  bif x3 then
    Option.bind (Toks_isEnd v1) fun p8 =>
    HRead_endOfRoomsCode_23 x2 x3 v1 v2 (b2i p8)
  else
    Option.bind (Toks_isSign 59 v1) fun p20 =>
    HRead_endOfRoomsCode_23 x2 x3 v1 v2 (b2i p20)

def HRead_readLimit_81   (v1 : ToksV) (v2 : HouseV) : Option (Int32 × ToksV × HouseV) :=
  Option.bind (Toks_advance v1) fun p85 =>
  Option.bind (HRead_readSemicolon p85) fun p89 =>
  some (p89.1, p89.2, v2)

def HRead_readLimit (v1 : ToksV) (v2 : HouseV) : Option (Int32 × ToksV × HouseV) :=
  Option.bind (Toks_advance v1) fun p4 =>
  Option.bind (Toks_numberCode 0 ((House_rooms v2) - 1) p4) fun p18 =>
  if p18 = 0 then
    nmL (Toks_number p4) fun (x3_35 : Int32) =>
    Option.bind (Toks_advance p4) fun p40 =>
    Option.bind (Toks_numberCode 0 99 p40) fun p50 =>
    if p50 = 0 then
      Option.bind (House_hasRoom x3_35 v2) fun p62 =>
      bif p62 then
        gd (inB x3_35 12) <|
        nmL (House_set_limits v2 (upd (House_limits v2) (Int32.toNatClampNeg x3_35) (Toks_number p40))) fun (v2_80 : HouseV) =>
        HRead_readLimit_81 p40 v2_80
      else
        HRead_readLimit_81 p40 v2
    else
      some (p50, p40, v2)
  else
    some (p18, p4, v2)

def HRead_readDoor_125   (s0 : Int32) (s1 : Int32) (s2 : Int32) (v1 : ToksV) (v2 : HouseV) : Option (Int32 × ToksV × HouseV) :=
  asB (s0) fun (z_9 : Bool) =>
  Option.bind (House_addDoor s2 s1 z_9 v2) fun p125 =>
  Option.bind (HRead_readSemicolon v1) fun p129 =>
  some (p129.1, p129.2, p125)

def HRead_readDoor_111   (x3 : Int32) (x4 : Int32) (x5 : Int32) (v1 : ToksV) (v2 : HouseV) : Option (Int32 × ToksV × HouseV) :=
  if x5 = 0 then
    HRead_readDoor_125 1 x4 x3 v1 v2
  else
    HRead_readDoor_125 0 x4 x3 v1 v2

def HRead_readDoor (v1 : ToksV) (v2 : HouseV) : Option (Int32 × ToksV × HouseV) :=
  Option.bind (Toks_advance v1) fun p4 =>
  Option.bind (Toks_numberCode 0 ((House_rooms v2) - 1) p4) fun p18 =>
  if p18 = 0 then
    nmL (Toks_number p4) fun (x3_35 : Int32) =>
    Option.bind (Toks_advance p4) fun p40 =>
    Option.bind (Toks_numberCode 0 ((House_rooms v2) - 1) p40) fun p54 =>
    if p54 = 0 then
      nmL (Toks_number p40) fun (x4_71 : Int32) =>
      if x4_71 = x3_35 then
        some (4, p40, v2)
      else
        Option.bind (Toks_advance p40) fun p85 =>
        Option.bind (Toks_isWord 14 p85) fun p94 =>
        nmL (b2i p94) fun (x5_97 : Int32) =>
        if x5_97 = 0 then
          HRead_readDoor_111 x3_35 x4_71 x5_97 p85 v2
        else
          Option.bind (Toks_advance p85) fun p108 =>
          HRead_readDoor_111 x3_35 x4_71 x5_97 p108 v2
    else
      some (p54, p40, v2)
  else
    some (p18, p4, v2)

def HRead_readWalk_108 (x2 : Int32) (x3 : Bool)  (x4 : Int32) (v1 : ToksV) (v2 : HouseV) : Option (Int32 × ToksV × HouseV) :=
  if x4 = 0 then
    Option.bind (Toks_isWord 15 v1) fun p119 =>
    bif p119 then
      Option.bind (Toks_advance v1) fun p132 =>
      gd (inB x2 4) <|
      Option.bind (Toks_numberCode 0 (((House_periods v2) (Int32.toNatClampNeg x2)) - 1) p132) fun p148 =>
      if p148 = 0 then
        nmL (House_set_phases v2 (upd (House_phases v2) (Int32.toNatClampNeg x2) (Toks_number p132))) fun (v2_170 : HouseV) =>
        Option.bind (Toks_advance p132) fun p175 =>
        some (p148, p175, v2_170)
      else
        some (p148, p132, v2)
    else
      some (x4, v1, v2)
  else
    some (x4, v1, v2)

def HRead_readWalk_94 (x2 : Int32) (x3 : Bool)  (x4 : Int32) (v1 : ToksV) (v2 : HouseV) : Option (Int32 × ToksV × HouseV) :=
  if x4 = 0 then
    Option.bind (HRead_endOfRoomsCode x2 x3 v1 v2) fun p103 =>
    HRead_readWalk_108 x2 x3 p103 v1 v2
  else
    HRead_readWalk_108 x2 x3 x4 v1 v2

def HRead_readWalk_34 (x2 : Int32) (x3 : Bool)  : Nat → Int32 → Int32 → ToksV → HouseV → Option (Int32 × ToksV × HouseV)
  | 0, _, _, _, _ => none
  | n + 1, x4, x5, v1, v2 =>
    if 10 < x5 then
      HRead_readWalk_94 x2 x3 x4 v1 v2
    else
      if x4 = 0 then
        Option.bind (Toks_isNumber v1) fun p50 =>
        bif p50 then
          Option.bind (HRead_stepCode x2 v1 v2) fun p59 =>
          if p59 = 0 then
            Option.bind (House_addStep x2 (Toks_number v1) v2) fun p78 =>
            Option.bind (Toks_advance v1) fun p85 =>
            nmL (x5 + 1) fun (x5_88 : Int32) =>
            HRead_readWalk_34 x2 x3 n p59 x5_88 p85 p78
          else
            nmL (x5 + 1) fun (x5_88 : Int32) =>
            HRead_readWalk_34 x2 x3 n p59 x5_88 v1 v2
        else
          HRead_readWalk_94 x2 x3 x4 v1 v2
      else
        HRead_readWalk_94 x2 x3 x4 v1 v2

def HRead_readWalk (x2 : Int32) (x3 : Bool) (v1 : ToksV) (v2 : HouseV) : Option (Int32 × ToksV × HouseV) :=
  Option.bind (House_hasGuard x2 v2) fun p2 =>
  bif p2 then
    Option.bind (House_emptyWalk x2 v2) fun p12 =>
    Option.bind (Toks_numberCode 0 ((House_rooms p12) - 1) v1) fun p26 =>
    HRead_readWalk_34 x2 x3 FU p26 0 v1 p12
  else
    some (2, v1, v2)

def HRead_readGuard (v1 : ToksV) (v2 : HouseV) : Option (Int32 × ToksV × HouseV) :=
  Option.bind (Toks_advance v1) fun p4 =>
  nmL (House_guards v2) fun (x2_11 : Int32) =>
  nmL (House_set_guards v2 ((House_guards v2) + 1)) fun (v2_19 : HouseV) =>
  Option.bind (HRead_readWalk x2_11 false p4 v2_19) fun p26 =>
  if p26.1 = 0 then
    Option.bind (HRead_readSemicolon p26.2.1) fun p35 =>
    some (p35.1, p35.2, p26.2.2)
  else
    some (p26.1, p26.2.1, p26.2.2)

def HRead_readClause (v1 : ToksV) (v2 : HouseV) : Option (Int32 × ToksV × HouseV) :=
  Option.bind (Toks_isWord 11 v1) fun p6 =>
  bif p6 then
    if 20 ≤ House_doors v2 then
      some (3, v1, v2)
    else
      Option.bind (HRead_readDoor v1 v2) fun p23 =>
      some (p23.1, p23.2.1, p23.2.2)
  else
    Option.bind (Toks_isWord 12 v1) fun p37 =>
    bif p37 then
      if 4 ≤ House_guards v2 then
        some (3, v1, v2)
      else
        Option.bind (HRead_readGuard v1 v2) fun p53 =>
        some (p53.1, p53.2.1, p53.2.2)
    else
      Option.bind (Toks_isWord 13 v1) fun p67 =>
      bif p67 then
        Option.bind (HRead_readLimit v1 v2) fun p75 =>
        some (p75.1, p75.2.1, p75.2.2)
      else
        some (1, v1, v2)

def HRead_readHouse_63   : Nat → Int32 → Int32 → ToksV → HouseV → Option (Int32 × ToksV × HouseV)
  | 0, _, _, _, _ => none
  | n + 1, x2, x3, v1, v2 =>
    if 600 ≤ x3 then
      some (x2, v1, v2)
    else
      if x2 = 0 then
        Option.bind (Toks_isEnd v1) fun p78 =>
        bif p78 then
          some (x2, v1, v2)
        else
          Option.bind (HRead_readClause v1 v2) fun p86 =>
          nmL (x3 + 1) fun (x3_90 : Int32) =>
          HRead_readHouse_63 n p86.1 x3_90 p86.2.1 p86.2.2
      else
        some (x2, v1, v2)

def HRead_readHouse (v1 : ToksV) (v2 : HouseV) : Option (Int32 × ToksV × HouseV) :=
  Option.bind (Toks_isWord 9 v1) fun p6 =>
  bif p6 then
    Option.bind (Toks_advance v1) fun p18 =>
    Option.bind (Toks_numberCode 1 12 p18) fun p28 =>
    if p28 = 0 then
      Option.bind (House_begin (Toks_number p18) v2) fun p46 =>
      Option.bind (Toks_advance p18) fun p53 =>
      Option.bind (HRead_readSemicolon p53) fun p57 =>
      HRead_readHouse_63 FU p57.1 0 p57.2 p46
    else
      some (p28, p18, v2)
  else
    some (1, v1, v2)

def HRead_readChange (v1 : ToksV) (v2 : HouseV) : Option (Int32 × ToksV × HouseV) :=
  Option.bind (Toks_isWord 10 v1) fun p6 =>
  bif p6 then
    Option.bind (Toks_advance v1) fun p18 =>
    Option.bind (Toks_numberCode 0 ((House_guards v2) - 1) p18) fun p32 =>
    if p32 = 0 then
      nmL (Toks_number p18) fun (x3_49 : Int32) =>
      Option.bind (Toks_advance p18) fun p54 =>
      Option.bind (HRead_readWalk x3_49 true p54 v2) fun p61 =>
      if p61.1 = 0 then
        Option.bind (Toks_isEnd p61.2.1) fun p75 =>
        bif p75 then
          some (0, p61.2.1, p61.2.2)
        else
          some (1, p61.2.1, p61.2.2)
      else
        some (p61.1, p61.2.1, p61.2.2)
    else
      some (p32, p18, v2)
  else
    some (1, v1, v2)

