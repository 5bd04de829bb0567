def L_load (x1 : Int32) (v0 : GWV) (v1 : HouseV) (v2 : HouseV) (v3 : HistV) (v4 : ToksV) (v6 : Nat → Int64) : Option (Int32 × GWV × HouseV × HouseV × HistV × ToksV × (Nat → Int64)) :=
  Option.bind (GW_load x1 v0 v1 v2 v3 v4) fun p4 =>
  exC p4 (fun u4 =>
    gd (inB 0 1) <|
    nmL (vp_updL v6 (Int32.toNatClampNeg 0) (Int32.toInt64 u4.1)) fun (v6_8 : Nat → Int64) =>
    some (0, u4.2.1, u4.2.2.1, u4.2.2.2.1, u4.2.2.2.2.1, u4.2.2.2.2.2, v6_8))
    (fun b4 =>
    bif b4 then
      some (1, v0, v1, v2, v3, v4, v6)
    else
      none)

def L_size (x1 : Int32) (v0 : GWV) (v1 : HouseV) (v2 : SightV) (v3 : Nat → Int64) : Option (Int32 × SightV × (Nat → Int64)) :=
  Option.bind (GW_size x1 v0 v1 v2) fun p4 =>
  exC p4 (fun u4 =>
    gd (inB 0 1) <|
    nmL (vp_updL v3 (Int32.toNatClampNeg 0) (Int32.toInt64 u4.1)) fun (v3_8 : Nat → Int64) =>
    some (0, u4.2, v3_8))
    (fun b4 =>
    bif b4 then
      none
    else
      some (1, v2, v3))

def L_door (x1 : Int32) (x2 : Int32) (v0 : GWV) (v1 : HouseV) (v2 : Nat → Int64) : Option (Int32 × (Nat → Int64)) :=
  Option.bind (GW_door x1 x2 v0 v1) fun p5 =>
  exC p5 (fun u5 =>
    gd (inB 0 1) <|
    nmL (vp_updL v2 (Int32.toNatClampNeg 0) (Int32.toInt64 u5)) fun (v2_9 : Nat → Int64) =>
    some (0, v2_9))
    (fun b5 =>
    bif b5 then
      none
    else
      some (1, v2))

def L_room (x1 : Int32) (x2 : Int32) (v0 : GWV) (v1 : HouseV) (v2 : SightV) (v3 : Nat → Int64) : Option (Int32 × SightV × (Nat → Int64)) :=
  Option.bind (GW_room x1 x2 v0 v1 v2) fun p5 =>
  exC p5 (fun u5 =>
    gd (inB 0 1) <|
    nmL (vp_updL v3 (Int32.toNatClampNeg 0) (Int32.toInt64 u5.1)) fun (v3_9 : Nat → Int64) =>
    some (0, u5.2, v3_9))
    (fun b5 =>
    bif b5 then
      none
    else
      some (1, v2, v3))

def L_guard (x1 : Int32) (x2 : Int32) (v0 : GWV) (v1 : HouseV) (v2 : Nat → Int64) : Option (Int32 × (Nat → Int64)) :=
  Option.bind (GW_guard x1 x2 v0 v1) fun p5 =>
  exC p5 (fun u5 =>
    gd (inB 0 1) <|
    nmL (vp_updL v2 (Int32.toNatClampNeg 0) (Int32.toInt64 u5)) fun (v2_9 : Nat → Int64) =>
    some (0, v2_9))
    (fun b5 =>
    bif b5 then
      none
    else
      some (1, v2))

def L_walk (x1 : Int32) (x2 : Int32) (v0 : GWV) (v1 : HouseV) (v2 : Nat → Int64) : Option (Int32 × (Nat → Int64)) :=
  Option.bind (GW_walk x1 x2 v0 v1) fun p5 =>
  exC p5 (fun u5 =>
    gd (inB 0 1) <|
    nmL (vp_updL v2 (Int32.toNatClampNeg 0) (Int32.toInt64 u5)) fun (v2_9 : Nat → Int64) =>
    some (0, v2_9))
    (fun b5 =>
    bif b5 then
      none
    else
      some (1, v2))

def L_roomOf (x1 : Int32) (x2 : Int32) (v0 : GWV) (v1 : HouseV) (v2 : Nat → Int64) : Option (Int32 × (Nat → Int64)) :=
  Option.bind (GW_roomOf x1 x2 v0 v1) fun p5 =>
  exC p5 (fun u5 =>
    gd (inB 0 1) <|
    nmL (vp_updL v2 (Int32.toNatClampNeg 0) (Int32.toInt64 u5)) fun (v2_9 : Nat → Int64) =>
    some (0, v2_9))
    (fun b5 =>
    bif b5 then
      some (2, v2)
    else
      some (1, v2))

def L_guardsIn (x1 : Int32) (x2 : Int32) (v0 : GWV) (v1 : HouseV) (v2 : Nat → Int64) : Option (Int32 × (Nat → Int64)) :=
  Option.bind (GW_guardsIn x1 x2 v0 v1) fun p5 =>
  exC p5 (fun u5 =>
    gd (inB 0 1) <|
    nmL (vp_updL v2 (Int32.toNatClampNeg 0) (Int32.toInt64 u5)) fun (v2_9 : Nat → Int64) =>
    some (0, v2_9))
    (fun b5 =>
    bif b5 then
      some (2, v2)
    else
      some (1, v2))

def L_nextSeen (x1 : Int32) (x2 : Int32) (v0 : GWV) (v1 : HouseV) (v2 : Nat → Int64) : Option (Int32 × (Nat → Int64)) :=
  Option.bind (GW_nextSeen x1 x2 v0 v1) fun p5 =>
  exC p5 (fun u5 =>
    gd (inB 0 1) <|
    nmL (vp_updL v2 (Int32.toNatClampNeg 0) (Int32.toInt64 u5)) fun (v2_9 : Nat → Int64) =>
    some (0, v2_9))
    (fun b5 =>
    bif b5 then
      some (2, v2)
    else
      some (1, v2))

def L_gapFrom (x1 : Int32) (v0 : GWV) (v1 : HouseV) (v2 : SightV) (v3 : Nat → Int64) : Option (Int32 × SightV × (Nat → Int64)) :=
  Option.bind (GW_gapFrom x1 v0 v1 v2) fun p4 =>
  exC p4 (fun u4 =>
    gd (inB 0 1) <|
    nmL (vp_updL v3 (Int32.toNatClampNeg 0) (Int32.toInt64 u4.1)) fun (v3_8 : Nat → Int64) =>
    some (0, u4.2, v3_8))
    (fun b4 =>
    bif b4 then
      none
    else
      some (1, v2, v3))

def L_isJoined (x1 : Int32) (x2 : Int32) (v0 : GWV) (v1 : HouseV) (v2 : Nat → Int64) : Option (Int32 × (Nat → Int64)) :=
  Option.bind (GW_isJoined x1 x2 v0 v1) fun p5 =>
  exC p5 (fun u5 =>
    bif u5 then
      gd (inB 0 1) <|
      nmL (vp_updL v2 (Int32.toNatClampNeg 0) 1) fun (v2_16 : Nat → Int64) =>
      some (0, v2_16)
    else
      gd (inB 0 1) <|
      nmL (vp_updL v2 (Int32.toNatClampNeg 0) 0) fun (v2_16 : Nat → Int64) =>
      some (0, v2_16))
    (fun b5 =>
    bif b5 then
      none
    else
      some (1, v2))

def L_distance (x1 : Int32) (x2 : Int32) (v0 : GWV) (v1 : HouseV) (v2 : Nat → Int64) : Option (Int32 × (Nat → Int64)) :=
  Option.bind (GW_distance x1 x2 v0 v1) fun p5 =>
  exC p5 (fun u5 =>
    gd (inB 0 1) <|
    nmL (vp_updL v2 (Int32.toNatClampNeg 0) (Int32.toInt64 u5)) fun (v2_9 : Nat → Int64) =>
    some (0, v2_9))
    (fun b5 =>
    bif b5 then
      none
    else
      some (1, v2))

def L_meetings (x1 : Int32) (x2 : Int32) (v0 : GWV) (v1 : HouseV) (v2 : Nat → Int64) : Option (Int32 × (Nat → Int64)) :=
  Option.bind (GW_meetings x1 x2 v0 v1) fun p5 =>
  exC p5 (fun u5 =>
    gd (inB 0 1) <|
    nmL (vp_updL v2 (Int32.toNatClampNeg 0) (Int32.toInt64 u5)) fun (v2_9 : Nat → Int64) =>
    some (0, v2_9))
    (fun b5 =>
    bif b5 then
      none
    else
      some (1, v2))

def L_passings (x1 : Int32) (x2 : Int32) (v0 : GWV) (v1 : HouseV) (v2 : Nat → Int64) : Option (Int32 × (Nat → Int64)) :=
  Option.bind (GW_passings x1 x2 v0 v1) fun p5 =>
  exC p5 (fun u5 =>
    gd (inB 0 1) <|
    nmL (vp_updL v2 (Int32.toNatClampNeg 0) (Int32.toInt64 u5)) fun (v2_9 : Nat → Int64) =>
    some (0, v2_9))
    (fun b5 =>
    bif b5 then
      none
    else
      some (1, v2))

def L_nextMeeting (x1 : Int32) (x2 : Int32) (x3 : Int32) (v0 : GWV) (v1 : HouseV) (v2 : Nat → Int64) : Option (Int32 × (Nat → Int64)) :=
  Option.bind (GW_nextMeeting x1 x2 x3 v0 v1) fun p7 =>
  exC p7 (fun u7 =>
    gd (inB 0 1) <|
    nmL (vp_updL v2 (Int32.toNatClampNeg 0) (Int32.toInt64 u7)) fun (v2_11 : Nat → Int64) =>
    some (0, v2_11))
    (fun b7 =>
    bif b7 then
      some (2, v2)
    else
      some (1, v2))

def L_worstWith (x1 : Int32) (x2 : Int32) (v0 : GWV) (v1 : HouseV) (v2 : HouseV) (v3 : SightV) (v4 : Nat → Int64) : Option (Int32 × HouseV × SightV × (Nat → Int64)) :=
  Option.bind (GW_worstWith x1 x2 v0 v1 v2 v3) fun p5 =>
  exC p5 (fun u5 =>
    gd (inB 0 1) <|
    nmL (vp_updL v4 (Int32.toNatClampNeg 0) (Int32.toInt64 u5.1)) fun (v4_9 : Nat → Int64) =>
    some (0, u5.2.1, u5.2.2, v4_9))
    (fun b5 =>
    bif b5 then
      some (2, v2, v3, v4)
    else
      some (1, v2, v3, v4))

def L_bestPhase (x1 : Int32) (v0 : GWV) (v1 : HouseV) (v2 : BestV) (v3 : HouseV) (v4 : SightV) (v5 : Nat → Int64) : Option (Int32 × BestV × HouseV × SightV × (Nat → Int64)) :=
  Option.bind (GW_bestPhase x1 v0 v1 v2 v3 v4) fun p4 =>
  exC p4 (fun u4 =>
    gd (inB 0 1) <|
    nmL (vp_updL v5 (Int32.toNatClampNeg 0) (Int32.toInt64 u4.1)) fun (v5_8 : Nat → Int64) =>
    some (0, u4.2.1, u4.2.2.1, u4.2.2.2, v5_8))
    (fun b4 =>
    bif b4 then
      none
    else
      some (1, v2, v3, v4, v5))

def L_arrival (x1 : Int32) (x2 : Int32) (x3 : Int32) (v0 : GWV) (v1 : HouseV) (v2 : IntrV) (v3 : Nat → Int64) : Option (Int32 × IntrV × (Nat → Int64)) :=
  Option.bind (GW_arrival x1 x2 x3 v0 v1 v2) fun p7 =>
  exC p7 (fun u7 =>
    gd (inB 0 1) <|
    nmL (vp_updL v3 (Int32.toNatClampNeg 0) (Int32.toInt64 u7.1)) fun (v3_11 : Nat → Int64) =>
    some (0, u7.2, v3_11))
    (fun b7 =>
    bif b7 then
      some (2, v2, v3)
    else
      some (1, v2, v3))

def L_hiding (x1 : Int32) (x2 : Int32) (x3 : Int32) (v0 : GWV) (v1 : HouseV) (v2 : IntrV) (v3 : Nat → Int64) : Option (Int32 × IntrV × (Nat → Int64)) :=
  Option.bind (GW_hiding x1 x2 x3 v0 v1 v2) fun p7 =>
  exC p7 (fun u7 =>
    gd (inB 0 1) <|
    nmL (vp_updL v3 (Int32.toNatClampNeg 0) (Int32.toInt64 u7.1)) fun (v3_11 : Nat → Int64) =>
    some (0, u7.2, v3_11))
    (fun b7 =>
    bif b7 then
      some (2, v2, v3)
    else
      some (1, v2, v3))

def L_pass (x1 : Int32) (v0 : GWV) (v1 : HouseV) (v2 : HistV) (v3 : Nat → HouseV) (v4 : Nat → Int64) : Option (Int32 × HouseV × HistV × (Nat → HouseV) × (Nat → Int64)) :=
  Option.bind (GW_pass x1 v0 v1 v2 v3) fun p4 =>
  exC p4 (fun u4 =>
    gd (inB 0 1) <|
    nmL (vp_updL v4 (Int32.toNatClampNeg 0) (Int32.toInt64 u4.1)) fun (v4_8 : Nat → Int64) =>
    some (0, u4.2.1, u4.2.2.1, u4.2.2.2, v4_8))
    (fun b4 =>
    bif b4 then
      some (1, v1, v2, v3, v4)
    else
      none)

def L_shift (x1 : Int32) (x2 : Int32) (v0 : GWV) (v1 : HouseV) (v2 : HistV) (v3 : Nat → HouseV) (v4 : SightV) (v5 : Nat → Int64) : Option (Int32 × GWV × HouseV × HistV × (Nat → HouseV) × SightV × (Nat → Int64)) :=
  Option.bind (GW_shift x1 x2 v0 v1 v2 v3 v4) fun p5 =>
  exC p5 (fun u5 =>
    gd (inB 0 1) <|
    nmL (vp_updL v5 (Int32.toNatClampNeg 0) (Int32.toInt64 u5.1)) fun (v5_9 : Nat → Int64) =>
    some (0, u5.2.1, u5.2.2.1, u5.2.2.2.1, u5.2.2.2.2.1, u5.2.2.2.2.2, v5_9))
    (fun b5 =>
    bif b5 then
      some (2, v0, v1, v2, v3, v4, v5)
    else
      some (1, v0, v1, v2, v3, v4, v5))

def L_closeDoor (x1 : Int32) (v0 : GWV) (v1 : HouseV) (v2 : HistV) (v3 : Nat → HouseV) (v4 : Nat → Int64) : Option (Int32 × HouseV × HistV × (Nat → HouseV) × (Nat → Int64)) :=
  Option.bind (GW_closeDoor x1 v0 v1 v2 v3) fun p4 =>
  exC p4 (fun u4 =>
    gd (inB 0 1) <|
    nmL (vp_updL v4 (Int32.toNatClampNeg 0) (Int32.toInt64 u4.1)) fun (v4_8 : Nat → Int64) =>
    some (0, u4.2.1, u4.2.2.1, u4.2.2.2, v4_8))
    (fun b4 =>
    bif b4 then
      none
    else
      some (1, v1, v2, v3, v4))

def L_openDoor (x1 : Int32) (v0 : GWV) (v1 : HouseV) (v2 : HistV) (v3 : Nat → HouseV) (v4 : Nat → Int64) : Option (Int32 × HouseV × HistV × (Nat → HouseV) × (Nat → Int64)) :=
  Option.bind (GW_openDoor x1 v0 v1 v2 v3) fun p4 =>
  exC p4 (fun u4 =>
    gd (inB 0 1) <|
    nmL (vp_updL v4 (Int32.toNatClampNeg 0) (Int32.toInt64 u4.1)) fun (v4_8 : Nat → Int64) =>
    some (0, u4.2.1, u4.2.2.1, u4.2.2.2, v4_8))
    (fun b4 =>
    bif b4 then
      none
    else
      some (1, v1, v2, v3, v4))

def L_setLimit (x1 : Int32) (x2 : Int32) (v0 : GWV) (v1 : HouseV) (v2 : HistV) (v3 : Nat → HouseV) (v4 : SightV) (v5 : Nat → Int64) : Option (Int32 × HouseV × HistV × (Nat → HouseV) × SightV × (Nat → Int64)) :=
  Option.bind (GW_setLimit x1 x2 v0 v1 v2 v3 v4) fun p5 =>
  exC p5 (fun u5 =>
    gd (inB 0 1) <|
    nmL (vp_updL v5 (Int32.toNatClampNeg 0) (Int32.toInt64 u5.1)) fun (v5_9 : Nat → Int64) =>
    some (0, u5.2.1, u5.2.2.1, u5.2.2.2.1, u5.2.2.2.2, v5_9))
    (fun b5 =>
    bif b5 then
      some (2, v1, v2, v3, v4, v5)
    else
      some (1, v1, v2, v3, v4, v5))

def L_change (x1 : Int32) (v0 : GWV) (v1 : HouseV) (v2 : HouseV) (v3 : HistV) (v4 : Nat → HouseV) (v5 : ToksV) (v7 : Nat → Int64) : Option (Int32 × GWV × HouseV × HouseV × HistV × (Nat → HouseV) × ToksV × (Nat → Int64)) :=
  Option.bind (GW_change x1 v0 v1 v2 v3 v4 v5) fun p4 =>
  exC p4 (fun u4 =>
    gd (inB 0 1) <|
    nmL (vp_updL v7 (Int32.toNatClampNeg 0) (Int32.toInt64 u4.1)) fun (v7_8 : Nat → Int64) =>
    some (0, u4.2.1, u4.2.2.1, u4.2.2.2.1, u4.2.2.2.2.1, u4.2.2.2.2.2.1, u4.2.2.2.2.2.2, v7_8))
    (fun b4 =>
    bif b4 then
      some (1, v0, v1, v2, v3, v4, v5, v7)
    else
      none)

def L_query (x1 : Int32) (v0 : GWV) (v1 : HouseV) (v2 : SightV) (v3 : ToksV) (v4 : QReadV) (v5 : Nat → Int32) (v6 : Nat → Int32) (v7 : Nat → Int64) : Option (Int32 × GWV × SightV × ToksV × QReadV × (Nat → Int32) × (Nat → Int32) × (Nat → Int64)) :=
  Option.bind (GW_query x1 v0 v1 v2 v3 v4 v5 v6) fun p4 =>
  exC p4 (fun u4 =>
    gd (inB 0 1) <|
    nmL (vp_updL v7 (Int32.toNatClampNeg 0) (Int32.toInt64 u4.1)) fun (v7_8 : Nat → Int64) =>
    some (0, u4.2.1, u4.2.2.1, u4.2.2.2.1, u4.2.2.2.2.1, u4.2.2.2.2.2.1, u4.2.2.2.2.2.2, v7_8))
    (fun b4 =>
    bif b4 then
      some (1, v0, v2, v3, v4, v5, v6, v7)
    else
      none)

