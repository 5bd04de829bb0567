def Hist_record_64 (v2 : HouseV)  (s0 : Int32) (v0 : HistV) (v1 : Nat → HouseV) : Option (HistV × (Nat → HouseV)) :=
  nmL (Hist_set_next v0 s0) fun (v0_64 : HistV) =>
  nmL (Hist_set_count v0_64 (imin ((Hist_count v0_64) + 1) 10)) fun (v0_79 : HistV) =>
  some (v0_79, v1)

def Hist_record (v0 : HistV) (v1 : Nat → HouseV) (v2 : HouseV) : Option (HistV × (Nat → HouseV)) :=
  if Hist_next v0 < 0 then
    some (v0, v1)
  else
    if 10 ≤ Hist_next v0 then
      some (v0, v1)
    else
      gd (inB (Hist_next v0) 10) <|
      Option.bind (House_copyFrom (v1 (Int32.toNatClampNeg (Hist_next v0))) v2) fun p39 =>
      nmL (updH v1 (Int32.toNatClampNeg (Hist_next v0)) p39) fun (v1_39 : Nat → HouseV) =>
      if 10 ≤ (Hist_next v0) + 1 then
        Hist_record_64 v2 0 v0 v1_39
      else
        Hist_record_64 v2 ((Hist_next v0) + 1) v0 v1_39

def Hist_takeBack_18 (v1 : Nat → HouseV)  (s0 : Int32) (v0 : HistV) (v2 : HouseV) : Option (Bool × HistV × HouseV) :=
  if Hist_count v0 = 0 then
    some (false, v0, v2)
  else
    if 10 ≤ s0 then
      some (false, v0, v2)
    else
      gd (inB s0 10) <|
      Option.bind (House_copyFrom v2 (v1 (Int32.toNatClampNeg s0))) fun p50 =>
      nmL (Hist_set_next v0 s0) fun (v0_55 : HistV) =>
      nmL (Hist_set_count v0_55 ((Hist_count v0_55) - 1)) fun (v0_65 : HistV) =>
      some (true, v0_65, p50)

def Hist_takeBack (v0 : HistV) (v1 : Nat → HouseV) (v2 : HouseV) : Option (Bool × HistV × HouseV) :=
  if Hist_next v0 ≤ 0 then
    Hist_takeBack_18 v1 9 v0 v2
  else
    Hist_takeBack_18 v1 ((Hist_next v0) - 1) v0 v2

def Hist_keepSnapshot (v0 : HistV) (v1 : HouseV) (v2 : HouseV) : Option (HistV × HouseV) :=
  Option.bind (House_copyFrom v1 v2) fun p5 =>
  nmL (Hist_set_saved v0 true) fun (v0_10 : HistV) =>
  some (v0_10, p5)

def Hist_bringSnapshot (v0 : HistV) (v1 : HouseV) (v2 : HouseV) : Option (Bool × HistV × HouseV) :=
  bif Hist_saved v0 then
    Option.bind (House_copyFrom v2 v1) fun p14 =>
    nmL (Hist_set_count v0 0) fun (v0_19 : HistV) =>
    some (true, v0_19, p14)
  else
    some (false, v0, v2)

def Hist_forget (v0 : HistV) : Option HistV :=
  nmL (Hist_set_count v0 0) fun (v0_2 : HistV) =>
  nmL (Hist_set_saved v0_2 false) fun (v0_7 : HistV) =>
  some v0_7

