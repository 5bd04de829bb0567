def QRead_firstOf_2 (x0 : Int32)  : Nat → Int32 → Option Int32
  | 0, _ => none
  | n + 1, x1 =>
    if 12 ≤ x1 then
      some (-1)
    else
      Option.bind (GW_has x0 x1) fun p10 =>
      bif p10 then
        some x1
      else
        nmL (x1 + 1) fun (x1_18 : Int32) =>
        QRead_firstOf_2 x0 n x1_18

def QRead_firstOf (x0 : Int32) : Option Int32 :=
  QRead_firstOf_2 x0 FU 0

def QRead_isOrdered (x0 : Int32) (x1 : Int32) (x2 : Int32) : Option Bool :=
  if 0 ≤ x2 then
    if x2 ≤ 0 then
      if x0 = x1 then
        some true
      else
        some false
    else
      if x0 ≤ x1 then
        some false
      else
        some true
  else
    if x1 ≤ x0 then
      some false
    else
      some true

def QRead_propertyOf (x3 : Int32) (v0 : QReadV) (v1 : ToksV) (v2 : HouseV) (v3 : SightV) : Option Int32 :=
  Option.bind (House_hasRoom x3 v2) fun p2 =>
  bif p2 then
    Option.bind (Toks_isWord 21 v1) fun p16 =>
    bif p16 then
      some x3
    else
      Option.bind (Toks_isWord 22 v1) fun p30 =>
      bif p30 then
        Option.bind (House_countOpenDoorsOf x3 v2) fun p38 =>
        some p38
      else
        Option.bind (Toks_isWord 23 v1) fun p48 =>
        bif p48 then
          gd (inB x3 12) <|
          some ((House_limits v2) (Int32.toNatClampNeg x3))
        else
          Option.bind (Toks_isWord 24 v1) fun p67 =>
          bif p67 then
            gd (inB x3 12) <|
            some (imax 0 ((Sight_gaps v3) (Int32.toNatClampNeg x3)))
          else
            Option.bind (Toks_isWord 25 v1) fun p90 =>
            bif p90 then
              gd (inB x3 12) <|
              if (Sight_gaps v3) (Int32.toNatClampNeg x3) = (-1) then
                some 1
              else
                some 0
            else
              Option.bind (Toks_isWord 26 v1) fun p118 =>
              bif p118 then
                Option.bind (Sight_isLate x3 v3 v2) fun p127 =>
                bif p127 then
                  some 1
                else
                  some 0
              else
                Option.bind (Toks_isWord 27 v1) fun p145 =>
                bif p145 then
                  gd (inB x3 12) <|
                  some ((Sight_seen v3) (Int32.toNatClampNeg x3))
                else
                  Option.bind (Toks_isWord 28 v1) fun p164 =>
                  bif p164 then
                    Option.bind (House_countGuardsWalking x3 v2) fun p172 =>
                    some p172
                  else
                    Option.bind (Toks_isWord 29 v1) fun p182 =>
                    bif p182 then
                      gd (inB x3 12) <|
                      some ((House_sightings v2) (Int32.toNatClampNeg x3))
                    else
                      Option.bind (Toks_isWord 30 v1) fun p201 =>
                      bif p201 then
                        gd (inB x3 12) <|
                        some ((House_runs v2) (Int32.toNatClampNeg x3))
                      else
                        Option.bind (Toks_isWord 31 v1) fun p220 =>
                        bif p220 then
                          gd (inB x3 12) <|
                          some ((House_longestRuns v2) (Int32.toNatClampNeg x3))
                        else
                          some (-1)
  else
    some (-1)

def QRead_readOrder_66   (x1 : Int32) (v0 : QReadV) (v1 : ToksV) : Option (Int32 × QReadV × ToksV) :=
  Option.bind (Toks_advance v1) fun p70 =>
  some (x1, v0, p70)

def QRead_readOrder_42   (s0 : Int32) (v0 : QReadV) (v1 : ToksV) : Option (Int32 × QReadV × ToksV) :=
  if s0 = 0 then
    Option.bind (Toks_isSign 61 v1) fun p53 =>
    bif p53 then
      QRead_readOrder_66 s0 v0 v1
    else
      nmL (QRead_set_error v0 1) fun (v0_61 : QReadV) =>
      some (0, v0_61, v1)
  else
    QRead_readOrder_66 s0 v0 v1

def QRead_readOrder (v0 : QReadV) (v1 : ToksV) : Option (Int32 × QReadV × ToksV) :=
  if QRead_error v0 = 0 then
    Option.bind (Toks_isSign 60 v1) fun p15 =>
    bif p15 then
      QRead_readOrder_42 (-1) v0 v1
    else
      Option.bind (Toks_isSign 62 v1) fun p31 =>
      bif p31 then
        QRead_readOrder_42 1 v0 v1
      else
        QRead_readOrder_42 0 v0 v1
  else
    some (0, v0, v1)

