def Toks_isLetter (x0 : Int32) : Option Bool :=
  if x0 < 97 then
    some false
  else
    if 122 < x0 then
      some false
    else
      some true

def Toks_isDigit (x0 : Int32) : Option Bool :=
  if x0 < 48 then
    some false
  else
    if 57 < x0 then
      some false
    else
      some true

def Toks_takeWord_0   : Nat → ToksV → Option ToksV
  | 0, _ => none
  | n + 1, v0 =>
    if Toks_to v0 < 0 then
      some v0
    else
      if Toks_limit v0 ≤ Toks_to v0 then
        some v0
      else
        gd (inB (Toks_to v0) 600) <|
        Option.bind (Toks_isLetter ((Toks_bytes v0) (Int32.toNatClampNeg (Toks_to v0)))) fun p27 =>
        bif p27 then
          nmL (Toks_set_to v0 ((Toks_to v0) + 1)) fun (v0_40 : ToksV) =>
          Toks_takeWord_0 n v0_40
        else
          some v0

def Toks_takeWord (v0 : ToksV) : Option ToksV :=
  Toks_takeWord_0 FU v0

def Toks_takeNumber_5   : Nat → ToksV → Option ToksV
  | 0, _ => none
  | n + 1, v0 =>
    if Toks_to v0 < 0 then
      some v0
    else
      if Toks_limit v0 ≤ Toks_to v0 then
        some v0
      else
        gd (inB (Toks_to v0) 600) <|
        Option.bind (Toks_isDigit ((Toks_bytes v0) (Int32.toNatClampNeg (Toks_to v0)))) fun p32 =>
        bif p32 then
          if 9999 < Toks_number v0 then
            nmL (Toks_set_to v0 ((Toks_to v0) + 1)) fun (v0_79 : ToksV) =>
            Toks_takeNumber_5 n v0_79
          else
            nmL (Toks_set_number v0 ((((Toks_number v0) * 10) + ((Toks_bytes v0) (Int32.toNatClampNeg (Toks_to v0)))) - 48)) fun (v0_69 : ToksV) =>
            nmL (Toks_set_to v0_69 ((Toks_to v0_69) + 1)) fun (v0_79 : ToksV) =>
            Toks_takeNumber_5 n v0_79
        else
          some v0

def Toks_takeNumber (v0 : ToksV) : Option ToksV :=
  nmL (Toks_set_number v0 0) fun (v0_2 : ToksV) =>
  Toks_takeNumber_5 FU v0_2

def Toks_advance_59   (v0 : ToksV) : Option ToksV :=
  nmL (Toks_set_from v0 (Toks_to v0)) fun (v0_64 : ToksV) =>
  if Toks_from v0_64 < 0 then
    nmL (Toks_set_kind v0_64 0) fun (v0_87 : ToksV) =>
    some v0_87
  else
    if Toks_from v0_64 < Toks_limit v0_64 then
      gd (inB (Toks_from v0_64) 600) <|
      Option.bind (Toks_isLetter ((Toks_bytes v0_64) (Int32.toNatClampNeg (Toks_from v0_64)))) fun p102 =>
      bif p102 then
        nmL (Toks_set_kind v0_64 1) fun (v0_110 : ToksV) =>
        Option.bind (Toks_takeWord v0_110) fun p114 =>
        some p114
      else
        Option.bind (Toks_isDigit ((Toks_bytes v0_64) (Int32.toNatClampNeg (Toks_from v0_64)))) fun p129 =>
        bif p129 then
          nmL (Toks_set_kind v0_64 2) fun (v0_137 : ToksV) =>
          Option.bind (Toks_takeNumber v0_137) fun p141 =>
          some p141
        else
          nmL (Toks_set_kind v0_64 3) fun (v0_149 : ToksV) =>
          nmL (Toks_set_to v0_149 ((Toks_to v0_149) + 1)) fun (v0_159 : ToksV) =>
          some v0_159
    else
      nmL (Toks_set_kind v0_64 0) fun (v0_87 : ToksV) =>
      some v0_87

def Toks_advance_0   : Nat → ToksV → Option ToksV
  | 0, _ => none
  | n + 1, v0 =>
    if Toks_to v0 < 0 then
      Toks_advance_59 v0
    else
      if Toks_limit v0 ≤ Toks_to v0 then
        Toks_advance_59 v0
      else
        gd (inB (Toks_to v0) 600) <|
        if (Toks_bytes v0) (Int32.toNatClampNeg (Toks_to v0)) = 32 then
          nmL (Toks_set_to v0 ((Toks_to v0) + 1)) fun (v0_53 : ToksV) =>
          Toks_advance_0 n v0_53
        else
          if (Toks_bytes v0) (Int32.toNatClampNeg (Toks_to v0)) = 10 then
            nmL (Toks_set_to v0 ((Toks_to v0) + 1)) fun (v0_53 : ToksV) =>
            Toks_advance_0 n v0_53
          else
            Toks_advance_59 v0

def Toks_advance (v0 : ToksV) : Option ToksV :=
  Toks_advance_0 FU v0

def Toks_begin (x1 : Int32) (v0 : ToksV) : Option ToksV :=
  nmL (Toks_set_limit v0 (imin x1 600)) fun (v0_8 : ToksV) =>
  nmL (Toks_set_to v0_8 0) fun (v0_13 : ToksV) =>
  Option.bind (Toks_advance v0_13) fun p17 =>
  some p17

def Toks_addBytes_3 (x1 : Int32)  : Nat → Int32 → ToksV → Option ToksV
  | 0, _, _ => none
  | n + 1, x2, v0 =>
    if x2 < 0 then
      some v0
    else
      if Toks_filled v0 < 0 then
        nmL (x2 + (-8)) fun (x2_50 : Int32) =>
        Toks_addBytes_3 x1 n x2_50 v0
      else
        if 600 ≤ Toks_filled v0 then
          nmL (x2 + (-8)) fun (x2_50 : Int32) =>
          Toks_addBytes_3 x1 n x2_50 v0
        else
          gd (inB (Toks_filled v0) 600) <|
          nmL (Toks_set_bytes v0 (upd (Toks_bytes v0) (Int32.toNatClampNeg (Toks_filled v0)) ((x1 >>> (x2 &&& 31)) &&& 255))) fun (v0_39 : ToksV) =>
          nmL (Toks_set_filled v0_39 ((Toks_filled v0_39) + 1)) fun (v0_47 : ToksV) =>
          nmL (x2 + (-8)) fun (x2_50 : Int32) =>
          Toks_addBytes_3 x1 n x2_50 v0_47

def Toks_addBytes (x1 : Int32) (v0 : ToksV) : Option ToksV :=
  Toks_addBytes_3 x1 FU 24 v0

def Toks_isEnd (v0 : ToksV) : Option Bool :=
  if Toks_kind v0 = 0 then
    some true
  else
    some false

def Toks_isNumber (v0 : ToksV) : Option Bool :=
  if Toks_kind v0 = 2 then
    some true
  else
    some false

def Toks_isSign (x1 : Int32) (v0 : ToksV) : Option Bool :=
  if Toks_kind v0 = 3 then
    if Toks_from v0 < 0 then
      some false
    else
      if 600 ≤ Toks_from v0 then
        some false
      else
        gd (inB (Toks_from v0) 600) <|
        if (Toks_bytes v0) (Int32.toNatClampNeg (Toks_from v0)) = x1 then
          some true
        else
          some false
  else
    some false

def Toks_numberCode (x1 : Int32) (x2 : Int32) (v0 : ToksV) : Option Int32 :=
  if Toks_kind v0 = 2 then
    if Toks_number v0 < x1 then
      some 2
    else
      if Toks_number v0 ≤ x2 then
        some 0
      else
        some 2
  else
    some 1

def Toks_isWord_28 (x1 : Nat) (v0 : ToksV)  : Nat → Int32 → Option Bool
  | 0, _ => none
  | n + 1, x2 =>
    gd (stOK x1) <|
    if stLen x1 ≤ x2 then
      some true
    else
      if (Toks_from v0) + x2 < 0 then
        some false
      else
        if 600 ≤ (Toks_from v0) + x2 then
          some false
        else
          gd (inB ((Toks_from v0) + x2) 600) <|
          gd (inB x2 (stL x1).length) <|
          if (Toks_bytes v0) (Int32.toNatClampNeg ((Toks_from v0) + x2)) = stCh x1 x2 then
            nmL (x2 + 1) fun (x2_78 : Int32) =>
            Toks_isWord_28 x1 v0 n x2_78
          else
            some false

def Toks_isWord (x1 : Nat) (v0 : ToksV) : Option Bool :=
  if Toks_kind v0 = 1 then
    gd (stOK x1) <|
    if (Toks_to v0) - (Toks_from v0) = stLen x1 then
      Toks_isWord_28 x1 v0 FU 0
    else
      some false
  else
    some false

