def QRead_readValues_57 (v2 : HouseV) (v3 : SightV)  (k3 : Int32 → QReadV → ToksV → (Nat → Int32) → Option (QReadV × ToksV × (Nat → Int32))) (x4 : Int32) (s0 : Int32) (s1 : Int32) (v0 : QReadV) (v1 : ToksV) (v4 : Nat → Int32) : Option (QReadV × ToksV × (Nat → Int32)) :=
  gd (inB s1 12) <|
  nmL (upd v4 (Int32.toNatClampNeg s1) s0) fun (v4_57 : Nat → Int32) =>
  gd (inB x4 12) <|
  if v4_57 (Int32.toNatClampNeg x4) = (-1) then
    nmL (QRead_set_error v0 1) fun (v0_68 : QReadV) =>
    nmL (x4 + 1) fun (x4_71 : Int32) =>
    k3 x4_71 v0_68 v1 v4_57
  else
    nmL (x4 + 1) fun (x4_71 : Int32) =>
    k3 x4_71 v0 v1 v4_57

def QRead_readValues_112 (v2 : HouseV) (v3 : SightV)  (v0 : QReadV) (v1 : ToksV) (v4 : Nat → Int32) : Option (QReadV × ToksV × (Nat → Int32)) :=
  if QRead_error v0 = 0 then
    Option.bind (Toks_advance v1) fun p123 =>
    some (v0, p123, v4)
  else
    some (v0, v1, v4)

def QRead_readValues_77 (v2 : HouseV) (v3 : SightV)  (v0 : QReadV) (v1 : ToksV) (v4 : Nat → Int32) : Option (QReadV × ToksV × (Nat → Int32)) :=
  if QRead_error v0 = 0 then
    Option.bind (Toks_isNumber v1) fun p88 =>
    bif p88 then
      if Toks_number v1 ≤ 9999 then
        QRead_readValues_112 v2 v3 v0 v1 v4
      else
        nmL (QRead_set_error v0 2) fun (v0_109 : QReadV) =>
        QRead_readValues_112 v2 v3 v0_109 v1 v4
    else
      QRead_readValues_112 v2 v3 v0 v1 v4
  else
    QRead_readValues_112 v2 v3 v0 v1 v4

def QRead_readValues_3 (v2 : HouseV) (v3 : SightV)  : Nat → Int32 → QReadV → ToksV → (Nat → Int32) → Option (QReadV × ToksV × (Nat → Int32))
  | 0, _, _, _, _ => none
  | n + 1, x4, v0, v1, v4 =>
    if House_rooms v2 ≤ x4 then
      QRead_readValues_77 v2 v3 v0 v1 v4
    else
      if 12 ≤ x4 then
        QRead_readValues_77 v2 v3 v0 v1 v4
      else
        if QRead_error v0 = 0 then
          Option.bind (Toks_isNumber v1) fun p33 =>
          bif p33 then
            QRead_readValues_57 v2 v3 (fun (x4 : Int32) (v0 : QReadV) (v1 : ToksV) (v4 : Nat → Int32) => QRead_readValues_3 v2 v3 n x4 v0 v1 v4) x4 (Toks_number v1) x4 v0 v1 v4
          else
            Option.bind (QRead_propertyOf x4 v0 v1 v2 v3) fun p54 =>
            QRead_readValues_57 v2 v3 (fun (x4 : Int32) (v0 : QReadV) (v1 : ToksV) (v4 : Nat → Int32) => QRead_readValues_3 v2 v3 n x4 v0 v1 v4) x4 p54 x4 v0 v1 v4
        else
          QRead_readValues_77 v2 v3 v0 v1 v4

def QRead_readValues (v0 : QReadV) (v1 : ToksV) (v2 : HouseV) (v3 : SightV) (v4 : Nat → Int32) : Option (QReadV × ToksV × (Nat → Int32)) :=
  QRead_readValues_3 v2 v3 FU 0 v0 v1 v4

def QRead_compareRows_5 (x2 : Int32) (v0 : QReadV) (v1 : HouseV) (v2 : Nat → Int32) (v3 : Nat → Int32)  : Nat → Int32 → Int32 → Option Int32
  | 0, _, _ => none
  | n + 1, x3, x4 =>
    if House_rooms v1 ≤ x4 then
      some x3
    else
      if 12 ≤ x4 then
        some x3
      else
        gd (inB x4 12) <|
        Option.bind (QRead_isOrdered (v2 (Int32.toNatClampNeg x4)) (v3 (Int32.toNatClampNeg x4)) x2) fun p36 =>
        bif p36 then
          nmL (x3 ||| (1 <<< (x4 &&& 31))) fun (x3_48 : Int32) =>
          nmL (x4 + 1) fun (x4_49 : Int32) =>
          QRead_compareRows_5 x2 v0 v1 v2 v3 n x3_48 x4_49
        else
          nmL (x4 + 1) fun (x4_49 : Int32) =>
          QRead_compareRows_5 x2 v0 v1 v2 v3 n x3 x4_49

def QRead_compareRows (x2 : Int32) (v0 : QReadV) (v1 : HouseV) (v2 : Nat → Int32) (v3 : Nat → Int32) : Option Int32 :=
  QRead_compareRows_5 x2 v0 v1 v2 v3 FU 0 0

abbrev nestQT : Type := Int32 → QReadV → ToksV → HouseV → SightV → (Nat → Int32) → (Nat → Int32) → Option (Int32 × QReadV × ToksV × (Nat → Int32) × (Nat → Int32))
def QRead_readFactor_24 (FN : nestQT) (x3 : Int32) (v2 : HouseV) (v3 : SightV)  (v0 : QReadV) (v1 : ToksV) (v4 : Nat → Int32) (v5 : Nat → Int32) : Option (Int32 × QReadV × ToksV × (Nat → Int32) × (Nat → Int32)) :=
  Option.bind (FN (x3 + 1) v0 v1 v2 v3 v4 v5) fun p30 =>
  some (p30.1, p30.2.1, p30.2.2.1, p30.2.2.2.1, p30.2.2.2.2)

def QRead_readFactor (FN : nestQT) (x3 : Int32) (v0 : QReadV) (v1 : ToksV) (v2 : HouseV) (v3 : SightV) (v4 : Nat → Int32) (v5 : Nat → Int32) : Option (Int32 × QReadV × ToksV × (Nat → Int32) × (Nat → Int32)) :=
  Option.bind (Toks_isWord 20 v1) fun p6 =>
  bif p6 then
    QRead_readFactor_24 FN x3 v2 v3 v0 v1 v4 v5
  else
    Option.bind (Toks_isSign 40 v1) fun p18 =>
    bif p18 then
      QRead_readFactor_24 FN x3 v2 v3 v0 v1 v4 v5
    else
      Option.bind (QRead_readValues v0 v1 v2 v3 v4) fun p41 =>
      Option.bind (QRead_readOrder p41.1 p41.2.1) fun p45 =>
      Option.bind (QRead_readValues p45.2.1 p45.2.2 v2 v3 v5) fun p57 =>
      Option.bind (QRead_compareRows p45.1 p57.1 v2 p41.2.2 p57.2.2) fun p64 =>
      some (p64, p57.1, p57.2.1, p41.2.2, p57.2.2)

def QRead_readConjunction_12 (FN : nestQT) (x3 : Int32) (v2 : HouseV) (v3 : SightV)  : Nat → Int32 → Int32 → QReadV → ToksV → (Nat → Int32) → (Nat → Int32) → Option (Int32 × QReadV × ToksV × (Nat → Int32) × (Nat → Int32))
  | 0, _, _, _, _, _, _ => none
  | n + 1, x4, x5, v0, v1, v4, v5 =>
    if 200 ≤ x5 then
      some (x4, v0, v1, v4, v5)
    else
      if QRead_error v0 = 0 then
        Option.bind (Toks_isWord 19 v1) fun p33 =>
        bif p33 then
          Option.bind (Toks_advance v1) fun p43 =>
          Option.bind (QRead_readFactor FN x3 v0 p43 v2 v3 v4 v5) fun p52 =>
          nmL (x4 &&& p52.1) fun (x4_56 : Int32) =>
          nmL (x5 + 1) fun (x5_58 : Int32) =>
          QRead_readConjunction_12 FN x3 v2 v3 n x4_56 x5_58 p52.2.1 p52.2.2.1 p52.2.2.2.1 p52.2.2.2.2
        else
          some (x4, v0, v1, v4, v5)
      else
        some (x4, v0, v1, v4, v5)

def QRead_readConjunction (FN : nestQT) (x3 : Int32) (v0 : QReadV) (v1 : ToksV) (v2 : HouseV) (v3 : SightV) (v4 : Nat → Int32) (v5 : Nat → Int32) : Option (Int32 × QReadV × ToksV × (Nat → Int32) × (Nat → Int32)) :=
  Option.bind (QRead_readFactor FN x3 v0 v1 v2 v3 v4 v5) fun p4 =>
  QRead_readConjunction_12 FN x3 v2 v3 FU p4.1 0 p4.2.1 p4.2.2.1 p4.2.2.2.1 p4.2.2.2.2

def QRead_readTest_12 (FN : nestQT) (x3 : Int32) (v2 : HouseV) (v3 : SightV)  : Nat → Int32 → Int32 → QReadV → ToksV → (Nat → Int32) → (Nat → Int32) → Option (Int32 × QReadV × ToksV × (Nat → Int32) × (Nat → Int32))
  | 0, _, _, _, _, _, _ => none
  | n + 1, x4, x5, v0, v1, v4, v5 =>
    if 200 ≤ x5 then
      some (x4, v0, v1, v4, v5)
    else
      if QRead_error v0 = 0 then
        Option.bind (Toks_isWord 18 v1) fun p33 =>
        bif p33 then
          Option.bind (Toks_advance v1) fun p43 =>
          Option.bind (QRead_readConjunction FN x3 v0 p43 v2 v3 v4 v5) fun p52 =>
          nmL (x4 ||| p52.1) fun (x4_56 : Int32) =>
          nmL (x5 + 1) fun (x5_58 : Int32) =>
          QRead_readTest_12 FN x3 v2 v3 n x4_56 x5_58 p52.2.1 p52.2.2.1 p52.2.2.2.1 p52.2.2.2.2
        else
          some (x4, v0, v1, v4, v5)
      else
        some (x4, v0, v1, v4, v5)

def QRead_readTest (FN : nestQT) (x3 : Int32) (v0 : QReadV) (v1 : ToksV) (v2 : HouseV) (v3 : SightV) (v4 : Nat → Int32) (v5 : Nat → Int32) : Option (Int32 × QReadV × ToksV × (Nat → Int32) × (Nat → Int32)) :=
  Option.bind (QRead_readConjunction FN x3 v0 v1 v2 v3 v4 v5) fun p4 =>
  QRead_readTest_12 FN x3 v2 v3 FU p4.1 0 p4.2.1 p4.2.2.1 p4.2.2.2.1 p4.2.2.2.2

def QRead_readNested_84 (FN : nestQT) (x3 : Int32) (v2 : HouseV) (v3 : SightV)  (x5 : Int32) (v0 : QReadV) (v1 : ToksV) (v4 : Nat → Int32) (v5 : Nat → Int32) : Option (Int32 × QReadV × ToksV × (Nat → Int32) × (Nat → Int32)) :=
  if QRead_error v0 = 0 then
    Option.bind (Toks_advance v1) fun p95 =>
    some (x5, v0, p95, v4, v5)
  else
    some (x5, v0, v1, v4, v5)

def QRead_readNested (FN : nestQT) (x3 : Int32) (v0 : QReadV) (v1 : ToksV) (v2 : HouseV) (v3 : SightV) (v4 : Nat → Int32) (v5 : Nat → Int32) : Option (Int32 × QReadV × ToksV × (Nat → Int32) × (Nat → Int32)) :=
  if x3 ≤ 6 then
    Option.bind (Toks_isWord 20 v1) fun p19 =>
    nmL (b2i p19) fun (x4_22 : Int32) =>
    Option.bind (Toks_advance v1) fun p28 =>
    if x4_22 = 0 then
      Option.bind (QRead_readTest FN x3 v0 p28 v2 v3 v4 v5) fun p55 =>
      if QRead_error p55.2.1 = 0 then
        Option.bind (Toks_isSign 41 p55.2.2.1) fun p73 =>
        bif p73 then
          QRead_readNested_84 FN x3 v2 v3 p55.1 p55.2.1 p55.2.2.1 p55.2.2.2.1 p55.2.2.2.2
        else
          nmL (QRead_set_error p55.2.1 1) fun (v0_81 : QReadV) =>
          QRead_readNested_84 FN x3 v2 v3 p55.1 v0_81 p55.2.2.1 p55.2.2.2.1 p55.2.2.2.2
      else
        QRead_readNested_84 FN x3 v2 v3 p55.1 p55.2.1 p55.2.2.1 p55.2.2.2.1 p55.2.2.2.2
    else
      Option.bind (House_allRooms v2) fun p37 =>
      Option.bind (QRead_readFactor FN x3 v0 p28 v2 v3 v4 v5) fun p44 =>
      some (p37 &&& (p44.1 ^^^ (-1)), p44.2.1, p44.2.2.1, p44.2.2.2.1, p44.2.2.2.2)
  else
    nmL (QRead_set_error v0 3) fun (v0_8 : QReadV) =>
    some (0, v0_8, v1, v4, v5)

def nestQ : Nat → nestQT
  | 0 => fun _ _ _ _ _ _ _ => none
  | k + 1 => QRead_readNested (nestQ k)

def QRead_readQuery_71 (v2 : HouseV) (v3 : SightV)  (x3 : Int32) (x4 : Int32) (v0 : QReadV) (v1 : ToksV) (v4 : Nat → Int32) (v5 : Nat → Int32) : Option (Int32 × QReadV × ToksV × (Nat → Int32) × (Nat → Int32)) :=
  if x3 = 0 then
    Option.bind (QRead_firstOf x4) fun p86 =>
    nmL (QRead_set_answer v0 p86) fun (v0_89 : QReadV) =>
    some (QRead_error v0_89, v0_89, v1, v4, v5)
  else
    Option.bind (J_bitCount x4) fun p78 =>
    nmL (QRead_set_answer v0 p78) fun (v0_89 : QReadV) =>
    some (QRead_error v0_89, v0_89, v1, v4, v5)

def QRead_readQuery_33 (v2 : HouseV) (v3 : SightV)  (x3 : Int32) (v0 : QReadV) (v1 : ToksV) (v4 : Nat → Int32) (v5 : Nat → Int32) : Option (Int32 × QReadV × ToksV × (Nat → Int32) × (Nat → Int32)) :=
  Option.bind (Toks_advance v1) fun p37 =>
  Option.bind (QRead_readTest (nestQ 7) 0 v0 p37 v2 v3 v4 v5) fun p44 =>
  if QRead_error p44.2.1 = 0 then
    Option.bind (Toks_isEnd p44.2.2.1) fun p60 =>
    bif p60 then
      QRead_readQuery_71 v2 v3 x3 p44.1 p44.2.1 p44.2.2.1 p44.2.2.2.1 p44.2.2.2.2
    else
      nmL (QRead_set_error p44.2.1 1) fun (v0_68 : QReadV) =>
      QRead_readQuery_71 v2 v3 x3 p44.1 v0_68 p44.2.2.1 p44.2.2.2.1 p44.2.2.2.2
  else
    QRead_readQuery_71 v2 v3 x3 p44.1 p44.2.1 p44.2.2.1 p44.2.2.2.1 p44.2.2.2.2

def QRead_readQuery (v0 : QReadV) (v1 : ToksV) (v2 : HouseV) (v3 : SightV) (v4 : Nat → Int32) (v5 : Nat → Int32) : Option (Int32 × QReadV × ToksV × (Nat → Int32) × (Nat → Int32)) :=
  nmL (QRead_set_error v0 0) fun (v0_2 : QReadV) =>
  Option.bind (Toks_isWord 16 v1) fun p11 =>
  nmL (b2i p11) fun (x3_14 : Int32) =>
  if x3_14 = 0 then
    Option.bind (Toks_isWord 17 v1) fun p25 =>
    bif p25 then
      QRead_readQuery_33 v2 v3 x3_14 v0_2 v1 v4 v5
    else
      some (1, v0_2, v1, v4, v5)
  else
    QRead_readQuery_33 v2 v3 x3_14 v0_2 v1 v4 v5

