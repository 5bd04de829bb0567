def Mod_compileValue_15   (v0 : ModelV) : Option ModelV :=
  Option.bind (Mod_readNumber 0 9999 v0) fun p21 =>
  Option.bind (Mod_emit p21.1 p21.2) fun p24 =>
  some p24

def Mod_compileValue_73   (x1 : Int32) (s0 : Int32) (v0 : ModelV) : Option ModelV :=
  asB (s0) fun (z_7 : Bool) =>
  Option.bind (Mod_check z_7 1 v0) fun p74 =>
  Option.bind (Mod_emit ((-1) - x1) p74) fun p81 =>
  Option.bind (Mod_advance p81) fun p85 =>
  some p85

def Mod_compileValue_58   (x1 : Int32) (v0 : ModelV) : Option ModelV :=
  if 11 ≤ x1 then
    Mod_compileValue_73 x1 0 v0
  else
    Mod_compileValue_73 x1 1 v0

def Mod_compileValue_30   : Nat → Int32 → ModelV → Option ModelV
  | 0, _, _ => none
  | n + 1, x1, v0 =>
    if 11 ≤ x1 then
      Mod_compileValue_58 x1 v0
    else
      gd (inB x1 11) <|
      Option.bind (Mod_isWord (32 + Int32.toNatClampNeg x1) v0) fun p46 =>
      bif p46 then
        Mod_compileValue_58 x1 v0
      else
        nmL (x1 + 1) fun (x1_52 : Int32) =>
        Mod_compileValue_30 n x1_52 v0

def Mod_compileValue (v0 : ModelV) : Option ModelV :=
  if Model_error v0 = 0 then
    if Model_token v0 = 2 then
      Mod_compileValue_15 v0
    else
      Mod_compileValue_30 FU 0 v0
  else
    Mod_compileValue_15 v0

abbrev nestMT : Type := ModelV → Option ModelV
def Mod_compileConjunction_4 (FN : nestMT)  : Nat → ModelV → Option ModelV
  | 0, _ => none
  | n + 1, v0 =>
    Option.bind (Mod_accept 50 v0) fun p8 =>
    bif p8.1 then
      Option.bind (FN p8.2) fun p15 =>
      Option.bind (Mod_emit (-24) p15) fun p21 =>
      Mod_compileConjunction_4 FN n p21
    else
      some p8.2

def Mod_compileConjunction (FN : nestMT) (v0 : ModelV) : Option ModelV :=
  Option.bind (FN v0) fun p1 =>
  Mod_compileConjunction_4 FN FU p1

def Mod_compileTest_4 (FN : nestMT)  : Nat → ModelV → Option ModelV
  | 0, _ => none
  | n + 1, v0 =>
    Option.bind (Mod_accept 51 v0) fun p8 =>
    bif p8.1 then
      Option.bind (Mod_compileConjunction FN p8.2) fun p15 =>
      Option.bind (Mod_emit (-25) p15) fun p21 =>
      Mod_compileTest_4 FN n p21
    else
      some p8.2

def Mod_compileTest (FN : nestMT) (v0 : ModelV) : Option ModelV :=
  Option.bind (Mod_compileConjunction FN v0) fun p1 =>
  Mod_compileTest_4 FN FU p1

def Mod_compileFactor_25 (FN : nestMT)  (v0 : ModelV) : Option ModelV :=
  Option.bind (Mod_emit (-23) v0) fun p28 =>
  nmL (Model_set_nested p28 ((Model_nested p28) - 1)) fun (v0_38 : ModelV) =>
  some v0_38

def Mod_compileFactor_68 (FN : nestMT)  (v0 : ModelV) : Option ModelV :=
  Option.bind (Mod_expect 41 v0) fun p71 =>
  nmL (Model_set_nested p71 ((Model_nested p71) - 1)) fun (v0_81 : ModelV) =>
  some v0_81

def Mod_compileFactor_143 (FN : nestMT)  (x1 : Int32) (s0 : Int32) (v0 : ModelV) : Option ModelV :=
  asB (s0) fun (z_9 : Bool) =>
  Option.bind (Mod_check z_9 1 v0) fun p144 =>
  Option.bind (Mod_advance p144) fun p148 =>
  Option.bind (Mod_compileValue p148) fun p152 =>
  Option.bind (Mod_emit x1 p152) fun p157 =>
  some p157

def Mod_compileFactor_138 (FN : nestMT)  (x1 : Int32) (v0 : ModelV) : Option ModelV :=
  Mod_compileFactor_143 FN x1 1 v0

def Mod_compileFactor_121 (FN : nestMT)  (s0 : Int32) (v0 : ModelV) : Option ModelV :=
  if s0 = (-22) then
    Option.bind (Mod_isSymbol 62 v0) fun p132 =>
    bif p132 then
      Mod_compileFactor_138 FN s0 v0
    else
      Mod_compileFactor_143 FN s0 0 v0
  else
    Mod_compileFactor_138 FN s0 v0

def Mod_compileFactor (FN : nestMT) (v0 : ModelV) : Option ModelV :=
  Option.bind (Mod_isWord 49 v0) fun p4 =>
  bif p4 then
    Option.bind (Mod_enter v0) fun p11 =>
    if Model_error p11 = 0 then
      Option.bind (FN p11) fun p22 =>
      Mod_compileFactor_25 FN p22
    else
      Mod_compileFactor_25 FN p11
  else
    Option.bind (Mod_isSymbol 40 v0) fun p47 =>
    bif p47 then
      Option.bind (Mod_enter v0) fun p54 =>
      if Model_error p54 = 0 then
        Option.bind (Mod_compileTest FN p54) fun p65 =>
        Mod_compileFactor_68 FN p65
      else
        Mod_compileFactor_68 FN p54
    else
      Option.bind (Mod_compileValue v0) fun p88 =>
      Option.bind (Mod_isSymbol 60 p88) fun p94 =>
      bif p94 then
        Mod_compileFactor_121 FN (-20) p88
      else
        Option.bind (Mod_isSymbol 61 p88) fun p108 =>
        bif p108 then
          Mod_compileFactor_121 FN (-21) p88
        else
          Mod_compileFactor_121 FN (-22) p88

def nestM : Nat → nestMT
  | 0 => fun _ => none
  | k + 1 => Mod_compileFactor (nestM k)

def Mod_readDoor_139   (x1 : Int32) (x2 : Int32) (s0 : Int32) (v0 : ModelV) : Option ModelV :=
  if Model_error v0 = 0 then
    gd (inB 1 172) <|
    nmL ((Model_draft v0) (Int32.toNatClampNeg 1)) fun (x4_153 : Int32) =>
    Option.bind (Mod_doorAt x4_153 0) fun p162 =>
    gd (inB p162 172) <|
    nmL (Model_set_draft v0 (upd (Model_draft v0) (Int32.toNatClampNeg p162) x1)) fun (v0_166 : ModelV) =>
    Option.bind (Mod_doorAt x4_153 1) fun p174 =>
    gd (inB p174 172) <|
    nmL (Model_set_draft v0_166 (upd (Model_draft v0_166) (Int32.toNatClampNeg p174) x2)) fun (v0_178 : ModelV) =>
    Option.bind (Mod_doorAt x4_153 2) fun p186 =>
    gd (inB p186 172) <|
    nmL (Model_set_draft v0_178 (upd (Model_draft v0_178) (Int32.toNatClampNeg p186) s0)) fun (v0_190 : ModelV) =>
    nmL (Model_set_draft v0_190 (upd (Model_draft v0_190) (Int32.toNatClampNeg 1) (((Model_draft v0_190) (Int32.toNatClampNeg 1)) + 1))) fun (v0_200 : ModelV) =>
    some v0_200
  else
    some v0

def Mod_readDoor_111   (x1 : Int32) (s0 : Int32) (v0 : ModelV) : Option ModelV :=
  asB (s0) fun (z_12 : Bool) =>
  Option.bind (Mod_check z_12 4 v0) fun p112 =>
  Option.bind (Mod_value p112) fun p116 =>
  Option.bind (Mod_advance p112) fun p121 =>
  Option.bind (Mod_accept 43 p121) fun p128 =>
  bif p128.1 then
    Mod_readDoor_139 x1 p116 0 p128.2
  else
    Mod_readDoor_139 x1 p116 1 p128.2

def Mod_readDoor_106   (x1 : Int32) (v0 : ModelV) : Option ModelV :=
  Mod_readDoor_111 x1 1 v0

def Mod_readDoor_86   (x1 : Int32) (s0 : Int32) (v0 : ModelV) : Option ModelV :=
  asB (s0) fun (z_9 : Bool) =>
  Option.bind (Mod_check z_9 2 v0) fun p87 =>
  if Model_error p87 = 0 then
    Option.bind (Mod_value p87) fun p99 =>
    if p99 = x1 then
      Mod_readDoor_111 x1 0 p87
    else
      Mod_readDoor_106 x1 p87
  else
    Mod_readDoor_106 x1 p87

def Mod_readDoor_81   (x1 : Int32) (v0 : ModelV) : Option ModelV :=
  Mod_readDoor_86 x1 1 v0

def Mod_readDoor_58   (x1 : Int32) (s0 : Int32) (v0 : ModelV) : Option ModelV :=
  asB (s0) fun (z_6 : Bool) =>
  Option.bind (Mod_check z_6 1 v0) fun p59 =>
  if Model_error p59 = 0 then
    Option.bind (Mod_value p59) fun p72 =>
    Option.bind (Mod_isRoomD p72 p59) fun p75 =>
    bif p75 then
      Mod_readDoor_81 x1 p59
    else
      Mod_readDoor_86 x1 0 p59
  else
    Mod_readDoor_81 x1 p59

def Mod_readDoor_53   (x1 : Int32) (v0 : ModelV) : Option ModelV :=
  Mod_readDoor_58 x1 1 v0

def Mod_readDoor_17   (s0 : Int32) (v0 : ModelV) : Option ModelV :=
  asB (s0) fun (z_3 : Bool) =>
  Option.bind (Mod_check z_3 3 v0) fun p18 =>
  Option.bind (Mod_advance p18) fun p22 =>
  Option.bind (Mod_roomsD p22) fun p28 =>
  Option.bind (Mod_readNumber 0 (p28 - 1) p22) fun p33 =>
  if Model_error p33.2 = 0 then
    if Model_token p33.2 = 2 then
      Mod_readDoor_53 p33.1 p33.2
    else
      Mod_readDoor_58 p33.1 0 p33.2
  else
    Mod_readDoor_53 p33.1 p33.2

def Mod_readDoor (v0 : ModelV) : Option ModelV :=
  gd (inB 1 172) <|
  if 20 ≤ (Model_draft v0) (Int32.toNatClampNeg 1) then
    Mod_readDoor_17 0 v0
  else
    Mod_readDoor_17 1 v0

def Mod_isStep (x1 : Int32) (x2 : Int32) (v0 : ModelV) : Option Bool :=
  if x1 = x2 then
    some true
  else
    Option.bind (Mod_openBetweenD x1 x2 v0) fun p8 =>
    if p8 ≤ 0 then
      some false
    else
      some true

def Mod_readStep_164 (x1 : Int32)  (v0 : ModelV) : Option ModelV :=
  Option.bind (Mod_advance v0) fun p165 =>
  some p165

def Mod_readStep_123 (x1 : Int32)  (x2 : Int32) (s0 : Int32) (v0 : ModelV) : Option ModelV :=
  asB (s0) fun (z_15 : Bool) =>
  Option.bind (Mod_check z_15 4 v0) fun p124 =>
  if Model_error p124 = 0 then
    Option.bind (Mod_guardAt x1 (2 + x2)) fun p142 =>
    Option.bind (Mod_value p124) fun p146 =>
    gd (inB p142 172) <|
    nmL (Model_set_draft p124 (upd (Model_draft p124) (Int32.toNatClampNeg p142) p146)) fun (v0_149 : ModelV) =>
    Option.bind (Mod_guardAt x1 0) fun p156 =>
    gd (inB p156 172) <|
    nmL (Model_set_draft v0_149 (upd (Model_draft v0_149) (Int32.toNatClampNeg p156) (((Model_draft v0_149) (Int32.toNatClampNeg p156)) + 1))) fun (v0_163 : ModelV) =>
    Mod_readStep_164 x1 v0_163
  else
    Mod_readStep_164 x1 p124

def Mod_readStep_118 (x1 : Int32)  (x2 : Int32) (v0 : ModelV) : Option ModelV :=
  Mod_readStep_123 x1 x2 1 v0

def Mod_readStep_83 (x1 : Int32)  (x2 : Int32) (s0 : Int32) (v0 : ModelV) : Option ModelV :=
  asB (s0) fun (z_11 : Bool) =>
  Option.bind (Mod_check z_11 3 v0) fun p84 =>
  if Model_error p84 = 0 then
    if x2 = 0 then
      Mod_readStep_118 x1 x2 p84
    else
      Option.bind (Mod_stepD x1 (x2 - 1) p84) fun p105 =>
      Option.bind (Mod_value p84) fun p109 =>
      Option.bind (Mod_isStep p105 p109 p84) fun p112 =>
      bif p112 then
        Mod_readStep_118 x1 x2 p84
      else
        Mod_readStep_123 x1 x2 0 p84
  else
    Mod_readStep_118 x1 x2 p84

def Mod_readStep_78 (x1 : Int32)  (x2 : Int32) (v0 : ModelV) : Option ModelV :=
  Mod_readStep_83 x1 x2 1 v0

def Mod_readStep_60 (x1 : Int32)  (x2 : Int32) (s0 : Int32) (v0 : ModelV) : Option ModelV :=
  asB (s0) fun (z_8 : Bool) =>
  Option.bind (Mod_check z_8 2 v0) fun p61 =>
  if Model_error p61 = 0 then
    if 10 ≤ x2 then
      Mod_readStep_83 x1 x2 0 p61
    else
      Mod_readStep_78 x1 x2 p61
  else
    Mod_readStep_78 x1 x2 p61

def Mod_readStep_55 (x1 : Int32)  (x2 : Int32) (v0 : ModelV) : Option ModelV :=
  Mod_readStep_60 x1 x2 1 v0

def Mod_readStep_32 (x1 : Int32)  (x2 : Int32) (s0 : Int32) (v0 : ModelV) : Option ModelV :=
  asB (s0) fun (z_5 : Bool) =>
  Option.bind (Mod_check z_5 1 v0) fun p33 =>
  if Model_error p33 = 0 then
    Option.bind (Mod_value p33) fun p46 =>
    Option.bind (Mod_isRoomD p46 p33) fun p49 =>
    bif p49 then
      Mod_readStep_55 x1 x2 p33
    else
      Mod_readStep_60 x1 x2 0 p33
  else
    Mod_readStep_55 x1 x2 p33

def Mod_readStep_27 (x1 : Int32)  (x2 : Int32) (v0 : ModelV) : Option ModelV :=
  Mod_readStep_32 x1 x2 1 v0

def Mod_readStep (x1 : Int32) (v0 : ModelV) : Option ModelV :=
  Option.bind (Mod_guardAt x1 0) fun p6 =>
  gd (inB p6 172) <|
  nmL ((Model_draft v0) (Int32.toNatClampNeg p6)) fun (x2_10 : Int32) =>
  if Model_error v0 = 0 then
    if Model_token v0 = 2 then
      Mod_readStep_27 x1 x2_10 v0
    else
      Mod_readStep_32 x1 x2_10 0 v0
  else
    Mod_readStep_27 x1 x2_10 v0

def Mod_readWalk_146 (x1 : Int32) (x2 : Bool)  (x3 : Int32) (s0 : Int32) (v0 : ModelV) : Option ModelV :=
  asB (s0) fun (z_15 : Bool) =>
  Option.bind (Mod_check z_15 4 v0) fun p147 =>
  Option.bind (Mod_accept 44 p147) fun p154 =>
  bif p154.1 then
    Option.bind (Mod_readNumber 0 (x3 - 1) p154.2) fun p165 =>
    Option.bind (Mod_guardAt x1 1) fun p176 =>
    if Model_error p165.2 = 0 then
      gd (inB p176 172) <|
      nmL (Model_set_draft p165.2 (upd (Model_draft p165.2) (Int32.toNatClampNeg p176) p165.1)) fun (v0_192 : ModelV) =>
      some v0_192
    else
      gd (inB p176 172) <|
      nmL (Model_set_draft p165.2 (upd (Model_draft p165.2) (Int32.toNatClampNeg p176) 0)) fun (v0_192 : ModelV) =>
      some v0_192
  else
    some p154.2

def Mod_readWalk_141 (x1 : Int32) (x2 : Bool)  (x3 : Int32) (v0 : ModelV) : Option ModelV :=
  Mod_readWalk_146 x1 x2 x3 1 v0

def Mod_readWalk_108 (x1 : Int32) (x2 : Bool)  (x3 : Int32) (s0 : Int32) (v0 : ModelV) : Option ModelV :=
  asB (s0) fun (z_12 : Bool) =>
  Option.bind (Mod_check z_12 1 v0) fun p109 =>
  if Model_error p109 = 0 then
    Option.bind (Mod_stepD x1 (x3 - 1) p109) fun p126 =>
    Option.bind (Mod_stepD x1 0 p109) fun p132 =>
    Option.bind (Mod_isStep p126 p132 p109) fun p135 =>
    bif p135 then
      Mod_readWalk_141 x1 x2 x3 p109
    else
      Mod_readWalk_146 x1 x2 x3 0 p109
  else
    Mod_readWalk_141 x1 x2 x3 p109

def Mod_readWalk_103 (x1 : Int32) (x2 : Bool)  (x3 : Int32) (v0 : ModelV) : Option ModelV :=
  Mod_readWalk_108 x1 x2 x3 1 v0

def Mod_readWalk_107 (x1 : Int32) (x2 : Bool)  (x3 : Int32) (v0 : ModelV) : Option ModelV :=
  Mod_readWalk_108 x1 x2 x3 0 v0

def Mod_readWalk_50 (x1 : Int32) (x2 : Bool)  (v0 : ModelV) : Option ModelV :=
  if Model_error v0 = 0 then
    Option.bind (Mod_guardAt x1 0) fun p64 =>
    gd (inB p64 172) <|
    nmL ((Model_draft v0) (Int32.toNatClampNeg p64)) fun (x3_68 : Int32) =>
    Option.bind (Mod_isWord 44 v0) fun p74 =>
    bif p74 then
      Mod_readWalk_103 x1 x2 x3_68 v0
    else
      bif x2 then
        if Model_token v0 = 0 then
          Mod_readWalk_103 x1 x2 x3_68 v0
        else
          Mod_readWalk_107 x1 x2 x3_68 v0
      else
        Option.bind (Mod_isSymbol 59 v0) fun p97 =>
        bif p97 then
          Mod_readWalk_103 x1 x2 x3_68 v0
        else
          Mod_readWalk_107 x1 x2 x3_68 v0
  else
    some v0

def Mod_readWalk_27 (x1 : Int32) (x2 : Bool)  : Nat → ModelV → Option ModelV
  | 0, _ => none
  | n + 1, v0 =>
    if Model_error v0 = 0 then
      if Model_token v0 = 2 then
        Option.bind (Mod_readStep x1 v0) fun p44 =>
        Mod_readWalk_27 x1 x2 n p44
      else
        Mod_readWalk_50 x1 x2 v0
    else
      Mod_readWalk_50 x1 x2 v0

def Mod_readWalk (x1 : Int32) (x2 : Bool) (v0 : ModelV) : Option ModelV :=
  Option.bind (Mod_guardAt x1 0) fun p6 =>
  gd (inB p6 172) <|
  nmL (Model_set_draft v0 (upd (Model_draft v0) (Int32.toNatClampNeg p6) 0)) fun (v0_10 : ModelV) =>
  Option.bind (Mod_guardAt x1 1) fun p17 =>
  gd (inB p17 172) <|
  nmL (Model_set_draft v0_10 (upd (Model_draft v0_10) (Int32.toNatClampNeg p17) 0)) fun (v0_21 : ModelV) =>
  Option.bind (Mod_readStep x1 v0_21) fun p24 =>
  Mod_readWalk_27 x1 x2 FU p24

def Mod_readLimit (v0 : ModelV) : Option ModelV :=
  Option.bind (Mod_roomsD v0) fun p3 =>
  Option.bind (Mod_readNumber 0 (p3 - 1) v0) fun p8 =>
  Option.bind (Mod_readNumber 0 99 p8.2) fun p16 =>
  if Model_error p16.2 = 0 then
    Option.bind (Mod_roomAt p8.1 0) fun p33 =>
    gd (inB p33 172) <|
    nmL (Model_set_draft p16.2 (upd (Model_draft p16.2) (Int32.toNatClampNeg p33) p16.1)) fun (v0_37 : ModelV) =>
    some v0_37
  else
    some p16.2

def Mod_readGuard_16   (s0 : Int32) (v0 : ModelV) : Option ModelV :=
  asB (s0) fun (z_3 : Bool) =>
  Option.bind (Mod_check z_3 3 v0) fun p17 =>
  Option.bind (Mod_advance p17) fun p21 =>
  if Model_error p21 = 0 then
    gd (inB 2 172) <|
    Option.bind (Mod_readWalk ((Model_draft p21) (Int32.toNatClampNeg 2)) false p21) fun p39 =>
    nmL (Model_set_draft p39 (upd (Model_draft p39) (Int32.toNatClampNeg 2) (((Model_draft p39) (Int32.toNatClampNeg 2)) + 1))) fun (v0_51 : ModelV) =>
    some v0_51
  else
    some p21

def Mod_readGuard (v0 : ModelV) : Option ModelV :=
  gd (inB 2 172) <|
  if 4 ≤ (Model_draft v0) (Int32.toNatClampNeg 2) then
    Mod_readGuard_16 0 v0
  else
    Mod_readGuard_16 1 v0

def Mod_readAll_84   (k26 : ModelV → Option ModelV) (v0 : ModelV) : Option ModelV :=
  Option.bind (Mod_expect 59 v0) fun p87 =>
  k26 p87

def Mod_readAll_26   : Nat → ModelV → Option ModelV
  | 0, _ => none
  | n + 1, v0 =>
    if Model_error v0 = 0 then
      if Model_token v0 = 0 then
        some v0
      else
        Option.bind (Mod_isWord 46 v0) fun p44 =>
        bif p44 then
          Option.bind (Mod_readDoor v0) fun p51 =>
          Mod_readAll_84 (fun (v0 : ModelV) => Mod_readAll_26 n v0) p51
        else
          Option.bind (Mod_isWord 47 v0) fun p61 =>
          bif p61 then
            Option.bind (Mod_readGuard v0) fun p68 =>
            Mod_readAll_84 (fun (v0 : ModelV) => Mod_readAll_26 n v0) p68
          else
            Option.bind (Mod_expectWord 34 v0) fun p77 =>
            Option.bind (Mod_readLimit p77) fun p81 =>
            Mod_readAll_84 (fun (v0 : ModelV) => Mod_readAll_26 n v0) p81
    else
      some v0

def Mod_readAll (v0 : ModelV) : Option ModelV :=
  Option.bind (Mod_expectWord 45 v0) fun p4 =>
  Option.bind (Mod_readNumber 1 12 p4) fun p16 =>
  gd (inB 0 172) <|
  nmL (Model_set_draft p16.2 (upd (Model_draft p16.2) (Int32.toNatClampNeg 0) p16.1)) fun (v0_19 : ModelV) =>
  Option.bind (Mod_expect 59 v0_19) fun p23 =>
  Mod_readAll_26 FU p23

