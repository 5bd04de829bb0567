def GW_coverage (v0 : GWV) (v1 : HouseV) (v2 : SightV) : Option (UInt64 × SightV) :=
  Option.bind (House_cycleLength v1) fun p11 =>
  nmL ((House_rooms v1) * p11) fun (x1_15 : Int32) =>
  if 0 < x1_15 then
    Option.bind (GW_measured v0 v1 v2) fun p23 =>
    Option.bind (Sight_countSeen p23 v1) fun p30 =>
    gd (n64 (FP.ddiv (FP.i2d p30) (FP.i2d x1_15))) <|
    some (FP.ddiv (FP.i2d p30) (FP.i2d x1_15), p23)
  else
    some (FP.dconst0, v2)

def GW_seenRate (v0 : GWV) (v1 : HouseV) : Option UInt32 :=
  if 0 < House_minute v1 then
    Option.bind (House_countSightings v1) fun p16 =>
    gd (n32 (FP.fdiv (FP.i2f p16) (FP.i2f (House_minute v1)))) <|
    some (FP.fdiv (FP.i2f p16) (FP.i2f (House_minute v1)))
  else
    some FP.fconst0

def Mod_copy_3 (x1 : Int32) (x3 : Int32) (v0 : Nat → Int32) (n0 : Nat) (n1 : Nat)  : Nat → Int32 → (Nat → Int32) → Option (Nat → Int32)
  | 0, _, _ => none
  | n + 1, x4, v1 =>
    if 172 ≤ x4 then
      some v1
    else
      gd (inB ((172 * x1) + x4) n0) <|
      gd (inB ((172 * x3) + x4) n1) <|
      nmL (upd v1 (Int32.toNatClampNeg ((172 * x3) + x4)) (v0 (Int32.toNatClampNeg ((172 * x1) + x4)))) fun (v1_30 : Nat → Int32) =>
      nmL (x4 + 1) fun (x4_31 : Int32) =>
      Mod_copy_3 x1 x3 v0 n0 n1 n x4_31 v1_30

def Mod_copy (x1 : Int32) (x3 : Int32) (n0 : Nat) (v0 : Nat → Int32) (n1 : Nat) (v1 : Nat → Int32) : Option (Nat → Int32) :=
  Mod_copy_3 x1 x3 v0 n0 n1 FU 0 v1

def Mod_copyS_3 (x1 : Int32) (x3 : Int32) (n0 : Nat)  : Nat → Int32 → (Nat → Int32) → Option (Nat → Int32)
  | 0, _, _ => none
  | n + 1, x4, v0 =>
    if 172 ≤ x4 then
      some v0
    else
      gd (inB ((172 * x1) + x4) n0) <|
      gd (inB ((172 * x3) + x4) n0) <|
      nmL (upd v0 (Int32.toNatClampNeg ((172 * x3) + x4)) (v0 (Int32.toNatClampNeg ((172 * x1) + x4)))) fun (v0_30 : Nat → Int32) =>
      nmL (x4 + 1) fun (x4_31 : Int32) =>
      Mod_copyS_3 x1 x3 n0 n x4_31 v0_30

def Mod_copyS (x1 : Int32) (x3 : Int32) (n0 : Nat) (v0 : Nat → Int32) : Option (Nat → Int32) :=
  Mod_copyS_3 x1 x3 n0 FU 0 v0

def Mod_roomAt (x0 : Int32) (x1 : Int32) : Option Int32 :=
  some ((4 + (5 * x0)) + x1)

def Mod_clear_21   : Nat → Int32 → (Nat → Int32) → Option (Nat → Int32)
  | 0, _, _ => none
  | n + 1, x1, v0 =>
    if 12 ≤ x1 then
      some v0
    else
      Option.bind (Mod_roomAt x1 0) fun p30 =>
      gd (inB p30 172) <|
      nmL (upd v0 (Int32.toNatClampNeg p30) 99) fun (v0_35 : Nat → Int32) =>
      Option.bind (Mod_roomAt x1 2) fun p39 =>
      gd (inB p39 172) <|
      nmL (upd v0_35 (Int32.toNatClampNeg p39) (-1)) fun (v0_43 : Nat → Int32) =>
      nmL (x1 + 1) fun (x1_44 : Int32) =>
      Mod_clear_21 n x1_44 v0_43

def Mod_clear_2   : Nat → Int32 → (Nat → Int32) → Option (Nat → Int32)
  | 0, _, _ => none
  | n + 1, x1, v0 =>
    if 172 ≤ x1 then
      Mod_clear_21 FU 0 v0
    else
      gd (inB x1 172) <|
      nmL (upd v0 (Int32.toNatClampNeg x1) 0) fun (v0_12 : Nat → Int32) =>
      nmL (x1 + 1) fun (x1_13 : Int32) =>
      Mod_clear_2 n x1_13 v0_12

def Mod_clear (v0 : Nat → Int32) : Option (Nat → Int32) :=
  Mod_clear_2 FU 0 v0

def Mod_thrown (v0 : ModelV) : Option Int32 :=
  some (Model_thrown v0)

def Mod_raise (x1 : Int32) (v0 : ModelV) : Option (Int32 × ModelV) :=
  nmL (Model_set_thrown v0 x1) fun (v0_2 : ModelV) =>
  some (0, v0_2)

def Mod_inRange (x0 : Int32) (x1 : Int32) (x2 : Int32) : Option Bool :=
  if x0 < x1 then
    some false
  else
    if x2 < x0 then
      some false
    else
      some true

def Mod_feed_76 (x1 : Int32) (x2 : Int32) (x3 : Int32) (x4 : Int32) (x5 : Int32)  (k23 : Int32 → ModelV → Option (Int32 × ModelV)) (x6 : Int32) (s0 : Int32) (v0 : ModelV) : Option (Int32 × ModelV) :=
  gd (nz 4) <|
  gd (inB (Model_bufferLength v0) 600) <|
  nmL (Model_set_buffer v0 (upd (Model_buffer v0) (Int32.toNatClampNeg (Model_bufferLength v0)) ((s0 >>> ((24 - (8 * (x6 - x6 / 4 * 4))) &&& 31)) &&& 255))) fun (v0_103 : ModelV) =>
  nmL (Model_set_bufferLength v0_103 ((Model_bufferLength v0_103) + 1)) fun (v0_111 : ModelV) =>
  nmL (x6 + 1) fun (x6_114 : Int32) =>
  k23 x6_114 v0_111

def Mod_feed_23 (x1 : Int32) (x2 : Int32) (x3 : Int32) (x4 : Int32) (x5 : Int32)  : Nat → Int32 → ModelV → Option (Int32 × ModelV)
  | 0, _, _ => none
  | n + 1, x6, v0 =>
    if 20 ≤ x6 then
      some (Model_bufferLength v0, v0)
    else
      if 4 ≤ x6 then
        if 8 ≤ x6 then
          if 12 ≤ x6 then
            if 16 ≤ x6 then
              Mod_feed_76 x1 x2 x3 x4 x5 (fun (x6 : Int32) (v0 : ModelV) => Mod_feed_23 x1 x2 x3 x4 x5 n x6 v0) x6 x5 v0
            else
              Mod_feed_76 x1 x2 x3 x4 x5 (fun (x6 : Int32) (v0 : ModelV) => Mod_feed_23 x1 x2 x3 x4 x5 n x6 v0) x6 x4 v0
          else
            Mod_feed_76 x1 x2 x3 x4 x5 (fun (x6 : Int32) (v0 : ModelV) => Mod_feed_23 x1 x2 x3 x4 x5 n x6 v0) x6 x3 v0
        else
          Mod_feed_76 x1 x2 x3 x4 x5 (fun (x6 : Int32) (v0 : ModelV) => Mod_feed_23 x1 x2 x3 x4 x5 n x6 v0) x6 x2 v0
      else
        Mod_feed_76 x1 x2 x3 x4 x5 (fun (x6 : Int32) (v0 : ModelV) => Mod_feed_23 x1 x2 x3 x4 x5 n x6 v0) x6 x1 v0

def Mod_feed (x1 : Int32) (x2 : Int32) (x3 : Int32) (x4 : Int32) (x5 : Int32) (v0 : ModelV) : Option (Int32 × ModelV) :=
  nmL (Model_set_thrown v0 0) fun (v0_2 : ModelV) =>
  if (Model_bufferLength v0_2) + 20 ≤ 600 then
    Mod_feed_23 x1 x2 x3 x4 x5 FU 0 v0_2
  else
    some ((-1), v0_2)

def Mod_errorPosition (v0 : ModelV) : Option (Int32 × ModelV) :=
  nmL (Model_set_thrown v0 0) fun (v0_2 : ModelV) =>
  some (Model_errorPosition v0_2, v0_2)

def Mod_byteAt (x1 : Int32) (v0 : ModelV) : Option Int32 :=
  if Model_limit v0 ≤ x1 then
    some (-1)
  else
    gd (inB x1 600) <|
    some ((Model_buffer v0) (Int32.toNatClampNeg x1))

def Mod_isLetter (x1 : Int32) (v0 : ModelV) : Option Bool :=
  Option.bind (Mod_byteAt x1 v0) fun p2 =>
  if p2 < 97 then
    some false
  else
    Option.bind (Mod_byteAt x1 v0) fun p12 =>
    if 122 < p12 then
      some false
    else
      some true

def Mod_isDigit (x1 : Int32) (v0 : ModelV) : Option Bool :=
  Option.bind (Mod_byteAt x1 v0) fun p2 =>
  if p2 < 48 then
    some false
  else
    Option.bind (Mod_byteAt x1 v0) fun p12 =>
    if 57 < p12 then
      some false
    else
      some true

def Mod_scan_77   : Nat → ModelV → Option ModelV
  | 0, _ => none
  | n + 1, v0 =>
    Option.bind (Mod_isLetter (Model_next v0) v0) fun p82 =>
    bif p82 then
      nmL (Model_set_next v0 ((Model_next v0) + 1)) fun (v0_95 : ModelV) =>
      Mod_scan_77 n v0_95
    else
      nmL (Model_set_token v0 1) fun (v0_103 : ModelV) =>
      some v0_103

def Mod_scan_120   : Nat → ModelV → Option ModelV
  | 0, _ => none
  | n + 1, v0 =>
    Option.bind (Mod_isDigit (Model_next v0) v0) fun p125 =>
    bif p125 then
      nmL (Model_set_next v0 ((Model_next v0) + 1)) fun (v0_138 : ModelV) =>
      Mod_scan_120 n v0_138
    else
      nmL (Model_set_token v0 2) fun (v0_146 : ModelV) =>
      some v0_146

def Mod_scan_0   : Nat → ModelV → Option ModelV
  | 0, _ => none
  | n + 1, v0 =>
    Option.bind (Mod_byteAt (Model_next v0) v0) fun p5 =>
    if p5 = 32 then
      nmL (Model_set_next v0 ((Model_next v0) + 1)) fun (v0_33 : ModelV) =>
      Mod_scan_0 n v0_33
    else
      Option.bind (Mod_byteAt (Model_next v0) v0) fun p18 =>
      if p18 = 10 then
        nmL (Model_set_next v0 ((Model_next v0) + 1)) fun (v0_33 : ModelV) =>
        Mod_scan_0 n v0_33
      else
        nmL (Model_set_beginsAt v0 (Model_next v0)) fun (v0_44 : ModelV) =>
        if Model_next v0_44 < Model_limit v0_44 then
          Option.bind (Mod_isLetter (Model_next v0_44) v0_44) fun p71 =>
          bif p71 then
            Mod_scan_77 FU v0_44
          else
            Option.bind (Mod_isDigit (Model_next v0_44) v0_44) fun p114 =>
            bif p114 then
              Mod_scan_120 FU v0_44
            else
              nmL (Model_set_next v0_44 ((Model_next v0_44) + 1)) fun (v0_159 : ModelV) =>
              nmL (Model_set_token v0_159 3) fun (v0_164 : ModelV) =>
              some v0_164
        else
          nmL (Model_set_token v0_44 0) fun (v0_60 : ModelV) =>
          some v0_60

def Mod_scan (v0 : ModelV) : Option ModelV :=
  Mod_scan_0 FU v0

def Mod_startText (x1 : Int32) (v0 : ModelV) : Option ModelV :=
  nmL (Model_set_limit v0 x1) fun (v0_2 : ModelV) =>
  nmL (Model_set_next v0_2 0) fun (v0_7 : ModelV) =>
  nmL (Model_set_error v0_7 0) fun (v0_12 : ModelV) =>
  nmL (Model_set_nested v0_12 0) fun (v0_17 : ModelV) =>
  Option.bind (Mod_scan v0_17) fun p21 =>
  some p21

def Mod_finish (v0 : ModelV) : Option (Int32 × ModelV) :=
  nmL (Model_set_bufferLength v0 0) fun (v0_2 : ModelV) =>
  if Model_error v0_2 = 0 then
    nmL (Model_set_errorPosition v0_2 (-1)) fun (v0_21 : ModelV) =>
    some (Model_error v0_21, v0_21)
  else
    nmL (Model_set_errorPosition v0_2 (Model_errorAt v0_2)) fun (v0_21 : ModelV) =>
    some (Model_error v0_21, v0_21)

def Mod_flaw (x1 : Int32) (v0 : ModelV) : Option ModelV :=
  if Model_error v0 = 0 then
    nmL (Model_set_error v0 x1) fun (v0_9 : ModelV) =>
    nmL (Model_set_errorAt v0_9 (Model_beginsAt v0_9)) fun (v0_17 : ModelV) =>
    some v0_17
  else
    some v0

def Mod_check (x1 : Bool) (x2 : Int32) (v0 : ModelV) : Option ModelV :=
  bif x1 then
    some v0
  else
    Option.bind (Mod_flaw x2 v0) fun p6 =>
    some p6

def Mod_advance (v0 : ModelV) : Option ModelV :=
  if Model_error v0 = 0 then
    Option.bind (Mod_scan v0) fun p8 =>
    some p8
  else
    some v0

def Mod_isSymbol (x1 : Int32) (v0 : ModelV) : Option Bool :=
  if Model_error v0 = 0 then
    if Model_token v0 = 3 then
      gd (inB (Model_beginsAt v0) 600) <|
      if (Model_buffer v0) (Int32.toNatClampNeg (Model_beginsAt v0)) = x1 then
        some true
      else
        some false
    else
      some false
  else
    some false

def Mod_isWord_39 (x1 : Nat) (v0 : ModelV)  : Nat → Int32 → Int32 → Option Bool
  | 0, _, _ => none
  | n + 1, x2, x3 =>
    if x2 = 0 then
      asB (x2) fun (z_6 : Bool) =>
      some z_6
    else
      gd (stOK x1) <|
      if stLen x1 ≤ x3 then
        asB (x2) fun (z_9 : Bool) =>
        some z_9
      else
        gd (inB x3 (stL x1).length) <|
        gd (inB ((Model_beginsAt v0) + x3) 600) <|
        if stCh x1 x3 = (Model_buffer v0) (Int32.toNatClampNeg ((Model_beginsAt v0) + x3)) then
          nmL (x3 + 1) fun (x3_76 : Int32) =>
          Mod_isWord_39 x1 v0 n 1 x3_76
        else
          nmL (x3 + 1) fun (x3_76 : Int32) =>
          Mod_isWord_39 x1 v0 n 0 x3_76

def Mod_isWord (x1 : Nat) (v0 : ModelV) : Option Bool :=
  if Model_error v0 = 0 then
    if Model_token v0 = 1 then
      gd (stOK x1) <|
      if stLen x1 = (Model_next v0) - (Model_beginsAt v0) then
        Mod_isWord_39 x1 v0 FU 1 0
      else
        Mod_isWord_39 x1 v0 FU 0 0
    else
      Mod_isWord_39 x1 v0 FU 0 0
  else
    Mod_isWord_39 x1 v0 FU 0 0

def Mod_accept (x1 : Nat) (v0 : ModelV) : Option (Bool × ModelV) :=
  Option.bind (Mod_isWord x1 v0) fun p2 =>
  nmL (b2i p2) fun (x2_5 : Int32) =>
  if x2_5 = 0 then
    asB (x2_5) fun (z_3 : Bool) =>
    some (z_3, v0)
  else
    Option.bind (Mod_scan v0) fun p11 =>
    asB (x2_5) fun (z_4 : Bool) =>
    some (z_4, p11)

def Mod_expectWord (x1 : Nat) (v0 : ModelV) : Option ModelV :=
  Option.bind (Mod_isWord x1 v0) fun p3 =>
  Option.bind (Mod_check p3 1 v0) fun p7 =>
  Option.bind (Mod_advance p7) fun p11 =>
  some p11

def Mod_expect (x1 : Int32) (v0 : ModelV) : Option ModelV :=
  Option.bind (Mod_isSymbol x1 v0) fun p3 =>
  Option.bind (Mod_check p3 1 v0) fun p7 =>
  Option.bind (Mod_advance p7) fun p11 =>
  some p11

def Mod_value_7 (v0 : ModelV)  : Nat → Int32 → Int32 → Option Int32
  | 0, _, _ => none
  | n + 1, x1, x2 =>
    if Model_next v0 ≤ x2 then
      some x1
    else
      if Model_token v0 = 2 then
        gd (inB x2 600) <|
        nmL (Int64.toInt32 (lmin 2000000000 (((10 * (Int32.toInt64 x1)) + (Int32.toInt64 ((Model_buffer v0) (Int32.toNatClampNeg x2)))) - 48))) fun (x1_48 : Int32) =>
        nmL (x2 + 1) fun (x2_49 : Int32) =>
        Mod_value_7 v0 n x1_48 x2_49
      else
        some x1

def Mod_value (v0 : ModelV) : Option Int32 :=
  nmL (Model_beginsAt v0) fun (x2_6 : Int32) =>
  Mod_value_7 v0 FU 0 x2_6

def Mod_readNumber_52 (x1 : Int32) (x2 : Int32)  (x3 : Int32) (s0 : Int32) (v0 : ModelV) : Option (Int32 × ModelV) :=
  asB (s0) fun (z_6 : Bool) =>
  Option.bind (Mod_check z_6 2 v0) fun p53 =>
  Option.bind (Mod_advance p53) fun p57 =>
  if Model_error p57 = 0 then
    some (x3, p57)
  else
    some (x1, p57)

def Mod_readNumber_47 (x1 : Int32) (x2 : Int32)  (x3 : Int32) (v0 : ModelV) : Option (Int32 × ModelV) :=
  Mod_readNumber_52 x1 x2 x3 1 v0

def Mod_readNumber_21 (x1 : Int32) (x2 : Int32)  (s0 : Int32) (v0 : ModelV) : Option (Int32 × ModelV) :=
  asB (s0) fun (z_3 : Bool) =>
  Option.bind (Mod_check z_3 1 v0) fun p22 =>
  Option.bind (Mod_value p22) fun p26 =>
  if Model_error p22 = 0 then
    Option.bind (Mod_inRange p26 x1 x2) fun p41 =>
    bif p41 then
      Mod_readNumber_47 x1 x2 p26 p22
    else
      Mod_readNumber_52 x1 x2 p26 0 p22
  else
    Mod_readNumber_47 x1 x2 p26 p22

def Mod_readNumber_16 (x1 : Int32) (x2 : Int32)  (v0 : ModelV) : Option (Int32 × ModelV) :=
  Mod_readNumber_21 x1 x2 1 v0

def Mod_readNumber (x1 : Int32) (x2 : Int32) (v0 : ModelV) : Option (Int32 × ModelV) :=
  if Model_error v0 = 0 then
    if Model_token v0 = 2 then
      Mod_readNumber_16 x1 x2 v0
    else
      Mod_readNumber_21 x1 x2 0 v0
  else
    Mod_readNumber_16 x1 x2 v0

def Mod_emit (x1 : Int32) (v0 : ModelV) : Option ModelV :=
  if Model_error v0 = 0 then
    gd (inB (Model_codeCount v0) 200) <|
    nmL (Model_set_codes v0 (upd (Model_codes v0) (Int32.toNatClampNeg (Model_codeCount v0)) x1)) fun (v0_16 : ModelV) =>
    nmL (Model_set_codeCount v0_16 ((Model_codeCount v0_16) + 1)) fun (v0_24 : ModelV) =>
    some v0_24
  else
    some v0

def Mod_enter_15   (s0 : Int32) (v0 : ModelV) : Option ModelV :=
  asB (s0) fun (z_2 : Bool) =>
  Option.bind (Mod_check z_2 3 v0) fun p16 =>
  nmL (Model_set_nested p16 ((Model_nested p16) + 1)) fun (v0_26 : ModelV) =>
  Option.bind (Mod_advance v0_26) fun p30 =>
  some p30

def Mod_enter (v0 : ModelV) : Option ModelV :=
  if 6 ≤ Model_nested v0 then
    Mod_enter_15 0 v0
  else
    Mod_enter_15 1 v0

def Mod_operate (x0 : Int32) (x1 : Int64) (x3 : Int64) : Option Int64 :=
  if Int32.toInt x0 < (-24) ∨ (-20) < Int32.toInt x0 then
    some (x1 ||| x3)
  else if x0 = (-24) then
    some (x1 &&& x3)
  else if x0 = (-23) then
    some (x1 ||| x3)
  else if x0 = (-22) then
    if lg_cmp x1 x3 ≤ 0 then
      some 0
    else
      some 1
  else if x0 = (-21) then
    if lg_cmp x1 x3 = 0 then
      some 1
    else
      some 0
  else if x0 = (-20) then
    if 0 ≤ lg_cmp x1 x3 then
      some 0
    else
      some 1
  else none

