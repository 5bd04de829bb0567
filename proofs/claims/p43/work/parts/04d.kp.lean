def Toks_kindOf_14 (x0 : Int32)   : Option Int32 :=
  if x0 < 48 then
    some 3
  else
    if 57 < x0 then
      some 3
    else
      some 2

def Toks_kindOf (x0 : Int32) : Option Int32 :=
  if x0 < 97 then
    Toks_kindOf_14 x0
  else
    if 122 < x0 then
      Toks_kindOf_14 x0
    else
      some 1

def Toks_advance_129   : Nat → ToksV → Option ToksV
  | 0, _ => none
  | n + 1, v0 =>
    if Toks_to v0 < 0 then
      some v0
    else
      if Toks_limit v0 ≤ Toks_to v0 then
        some v0
      else
        gd (inB (Toks_to v0) 600) <|
        Option.bind (Toks_kindOf ((Toks_bytes v0) (Int32.toNatClampNeg (Toks_to v0)))) fun p156 =>
        if p156 = Toks_kind v0 then
          if Toks_kind v0 = 2 then
            if 9999 < Toks_number v0 then
              nmL (Toks_set_to v0 ((Toks_to v0) + 1)) fun (v0_215 : ToksV) =>
              Toks_advance_129 n v0_215
            else
              nmL (Toks_set_number v0 ((((Toks_number v0) * 10) + ((Toks_bytes v0) (Int32.toNatClampNeg (Toks_to v0)))) - 48)) fun (v0_205 : ToksV) =>
              nmL (Toks_set_to v0_205 ((Toks_to v0_205) + 1)) fun (v0_215 : ToksV) =>
              Toks_advance_129 n v0_215
          else
            nmL (Toks_set_to v0 ((Toks_to v0) + 1)) fun (v0_215 : ToksV) =>
            Toks_advance_129 n v0_215
        else
          some v0

def Toks_advance_107   (s0 : Int32) (v0 : ToksV) : Option ToksV :=
  nmL (Toks_set_kind v0 s0) fun (v0_107 : ToksV) =>
  if Toks_kind v0_107 = 3 then
    nmL (Toks_set_to v0_107 ((Toks_to v0_107) + 1)) fun (v0_125 : ToksV) =>
    some v0_125
  else
    Toks_advance_129 FU v0_107

def Toks_advance_106   (v0 : ToksV) : Option ToksV :=
  Toks_advance_107 0 v0

def Toks_advance_59   (v0 : ToksV) : Option ToksV :=
  nmL (Toks_set_from v0 (Toks_to v0)) fun (v0_64 : ToksV) =>
  nmL (Toks_set_number v0_64 0) fun (v0_69 : ToksV) =>
  if Toks_from v0_69 < 0 then
    Toks_advance_106 v0_69
  else
    if Toks_limit v0_69 ≤ Toks_from v0_69 then
      Toks_advance_106 v0_69
    else
      gd (inB (Toks_from v0_69) 600) <|
      Option.bind (Toks_kindOf ((Toks_bytes v0_69) (Int32.toNatClampNeg (Toks_from v0_69)))) fun p100 =>
      Toks_advance_107 p100 v0_69

def Toks_advance_0   : Nat → ToksV → Option ToksV
  | 0, _ => none
  | n + 1, v0 =>
    if Toks_to v0 < 0 then
      Toks_advance_59 v0
    else
      if Toks_limit v0 ≤ Toks_to v0 then
        Toks_advance_59 v0
      else
        gd (inB (Toks_to v0) 600) <|
        if (Toks_bytes v0) (Int32.toNatClampNeg (Toks_to v0)) = 32 then
          nmL (Toks_set_to v0 ((Toks_to v0) + 1)) fun (v0_53 : ToksV) =>
          Toks_advance_0 n v0_53
        else
          if (Toks_bytes v0) (Int32.toNatClampNeg (Toks_to v0)) = 10 then
            nmL (Toks_set_to v0 ((Toks_to v0) + 1)) fun (v0_53 : ToksV) =>
            Toks_advance_0 n v0_53
          else
            Toks_advance_59 v0

def Toks_advance (v0 : ToksV) : Option ToksV :=
  Toks_advance_0 FU v0

def Toks_begin (x1 : Int32) (v0 : ToksV) : Option ToksV :=
  nmL (Toks_set_limit v0 (imin x1 600)) fun (v0_8 : ToksV) =>
  nmL (Toks_set_to v0_8 0) fun (v0_13 : ToksV) =>
  Option.bind (Toks_advance v0_13) fun p17 =>
  some p17

def Toks_addBytes_3 (x1 : Int32)  : Nat → Int32 → ToksV → Option ToksV
  | 0, _, _ => none
  | n + 1, x2, v0 =>
    if x2 < 0 then
      some v0
    else
      if Toks_filled v0 < 0 then
        nmL (x2 + (-8)) fun (x2_50 : Int32) =>
        Toks_addBytes_3 x1 n x2_50 v0
      else
        if 600 ≤ Toks_filled v0 then
          nmL (x2 + (-8)) fun (x2_50 : Int32) =>
          Toks_addBytes_3 x1 n x2_50 v0
        else
          gd (inB (Toks_filled v0) 600) <|
          nmL (Toks_set_bytes v0 (upd (Toks_bytes v0) (Int32.toNatClampNeg (Toks_filled v0)) ((x1 >>> (x2 &&& 31)) &&& 255))) fun (v0_39 : ToksV) =>
          nmL (Toks_set_filled v0_39 ((Toks_filled v0_39) + 1)) fun (v0_47 : ToksV) =>
          nmL (x2 + (-8)) fun (x2_50 : Int32) =>
          Toks_addBytes_3 x1 n x2_50 v0_47

def Toks_addBytes (x1 : Int32) (v0 : ToksV) : Option ToksV :=
  Toks_addBytes_3 x1 FU 24 v0

def Toks_isEnd (v0 : ToksV) : Option Bool :=
  if Toks_kind v0 = 0 then
    some true
  else
    some false

def Toks_isNumber (v0 : ToksV) : Option Bool :=
  if Toks_kind v0 = 2 then
    some true
  else
    some false

def Toks_isSign (x1 : Int32) (v0 : ToksV) : Option Bool :=
  if Toks_kind v0 = 3 then
    if Toks_from v0 < 0 then
      some false
    else
      if 600 ≤ Toks_from v0 then
        some false
      else
        gd (inB (Toks_from v0) 600) <|
        if (Toks_bytes v0) (Int32.toNatClampNeg (Toks_from v0)) = x1 then
          some true
        else
          some false
  else
    some false

def Toks_numberCode (x1 : Int32) (x2 : Int32) (v0 : ToksV) : Option Int32 :=
  if Toks_kind v0 = 2 then
    if Toks_number v0 < x1 then
      some 2
    else
      if Toks_number v0 ≤ x2 then
        some 0
      else
        some 2
  else
    some 1

def Toks_isWord_28 (x1 : Nat) (v0 : ToksV)  : Nat → Int32 → Option Bool
  | 0, _ => none
  | n + 1, x2 =>
    gd (stOK x1) <|
    if stLen x1 ≤ x2 then
      some true
    else
      if (Toks_from v0) + x2 < 0 then
        some false
      else
        if 600 ≤ (Toks_from v0) + x2 then
          some false
        else
          gd (inB ((Toks_from v0) + x2) 600) <|
          gd (inB x2 (stL x1).length) <|
          if (Toks_bytes v0) (Int32.toNatClampNeg ((Toks_from v0) + x2)) = stCh x1 x2 then
            nmL (x2 + 1) fun (x2_78 : Int32) =>
            Toks_isWord_28 x1 v0 n x2_78
          else
            some false

def Toks_isWord (x1 : Nat) (v0 : ToksV) : Option Bool :=
  if Toks_kind v0 = 1 then
    gd (stOK x1) <|
    if (Toks_to v0) - (Toks_from v0) = stLen x1 then
      Toks_isWord_28 x1 v0 FU 0
    else
      some false
  else
    some false

