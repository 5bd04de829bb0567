def Law_216 (L : Nat) (xs : Nat → Int32) (k23 : Int32 → GWV → HouseV → HouseV → HistV → (Nat → HouseV) → HouseV → SightV → SightV → BestV → HouseV → SightV → IntrV → ToksV → QReadV → (Nat → Int32) → (Nat → Int32) → ModelV → (Nat → Int64) → Option Unit) (x4 : Int32) (v0 : GWV) (v1 : HouseV) (v2 : HouseV) (v3 : HistV) (v4 : Nat → HouseV) (v5 : HouseV) (v6 : SightV) (v7 : SightV) (v8 : BestV) (v9 : HouseV) (v10 : SightV) (v11 : IntrV) (v12 : ToksV) (v14 : QReadV) (v15 : Nat → Int32) (v16 : Nat → Int32) (v17 : ModelV) (v19 : Nat → Int64) : Option Unit :=
  gd (inB (x4 + 1) L) <|
  gd (inB (x4 + 2) L) <|
  gd (inB (x4 + 3) L) <|
  gd (inB (x4 + 4) L) <|
  gd (inB (x4 + 5) L) <|
  Option.bind (GW_feed (xs (Int32.toNatClampNeg (x4 + 1))) (xs (Int32.toNatClampNeg (x4 + 2))) (xs (Int32.toNatClampNeg (x4 + 3))) (xs (Int32.toNatClampNeg (x4 + 4))) (xs (Int32.toNatClampNeg (x4 + 5))) v0 v12) fun p247 =>
  Option.bind (Mod_feed (xs (Int32.toNatClampNeg (x4 + 1))) (xs (Int32.toNatClampNeg (x4 + 2))) (xs (Int32.toNatClampNeg (x4 + 3))) (xs (Int32.toNatClampNeg (x4 + 4))) (xs (Int32.toNatClampNeg (x4 + 5))) v17) fun p281 =>
  if p247.1 = p281.1 then
    nmL (x4 + 6) fun (x4_2229 : Int32) =>
    k23 x4_2229 v0 v1 v2 v3 v4 v5 v6 v7 v8 v9 v10 v11 p247.2 v14 v15 v16 p281.2 v19
  else
    none

def Law_289 (L : Nat) (xs : Nat → Int32) (k23 : Int32 → GWV → HouseV → HouseV → HistV → (Nat → HouseV) → HouseV → SightV → SightV → BestV → HouseV → SightV → IntrV → ToksV → QReadV → (Nat → Int32) → (Nat → Int32) → ModelV → (Nat → Int64) → Option Unit) (x4 : Int32) (v0 : GWV) (v1 : HouseV) (v2 : HouseV) (v3 : HistV) (v4 : Nat → HouseV) (v5 : HouseV) (v6 : SightV) (v7 : SightV) (v8 : BestV) (v9 : HouseV) (v10 : SightV) (v11 : IntrV) (v12 : ToksV) (v14 : QReadV) (v15 : Nat → Int32) (v16 : Nat → Int32) (v17 : ModelV) (v19 : Nat → Int64) : Option Unit :=
  gd (inB (x4 + 1) L) <|
  Option.bind (L_load (xs (Int32.toNatClampNeg (x4 + 1))) v0 v1 v2 v3 v12 v19) fun p297 =>
  Option.bind (Mod_load (xs (Int32.toNatClampNeg (x4 + 1))) v17) fun p309 =>
  Option.bind (Mod_thrown p309.2) fun p315 =>
  if p315 = p297.1 then
    if p297.1 = 0 then
      gd (inB 0 1) <|
      if lg_cmp (p297.2.2.2.2.2.2 (Int32.toNatClampNeg 0)) (Int32.toInt64 p309.1) = 0 then
        nmL (x4 + 6) fun (x4_2229 : Int32) =>
        k23 x4_2229 p297.2.1 p297.2.2.1 p297.2.2.2.1 p297.2.2.2.2.1 v4 v5 v6 v7 v8 v9 v10 v11 p297.2.2.2.2.2.1 v14 v15 v16 p309.2 p297.2.2.2.2.2.2
      else
        none
    else
      nmL (x4 + 6) fun (x4_2229 : Int32) =>
      k23 x4_2229 p297.2.1 p297.2.2.1 p297.2.2.2.1 p297.2.2.2.2.1 v4 v5 v6 v7 v8 v9 v10 v11 p297.2.2.2.2.2.1 v14 v15 v16 p309.2 p297.2.2.2.2.2.2
  else
    none

def Law_345 (L : Nat) (xs : Nat → Int32) (k23 : Int32 → GWV → HouseV → HouseV → HistV → (Nat → HouseV) → HouseV → SightV → SightV → BestV → HouseV → SightV → IntrV → ToksV → QReadV → (Nat → Int32) → (Nat → Int32) → ModelV → (Nat → Int64) → Option Unit) (x4 : Int32) (v0 : GWV) (v1 : HouseV) (v2 : HouseV) (v3 : HistV) (v4 : Nat → HouseV) (v5 : HouseV) (v6 : SightV) (v7 : SightV) (v8 : BestV) (v9 : HouseV) (v10 : SightV) (v11 : IntrV) (v12 : ToksV) (v14 : QReadV) (v15 : Nat → Int32) (v16 : Nat → Int32) (v17 : ModelV) (v19 : Nat → Int64) : Option Unit :=
  Option.bind (GW_errorPosition v0) fun p346 =>
  Option.bind (Mod_errorPosition v17) fun p350 =>
  if p346 = p350.1 then
    nmL (x4 + 6) fun (x4_2229 : Int32) =>
    k23 x4_2229 v0 v1 v2 v3 v4 v5 v6 v7 v8 v9 v10 v11 v12 v14 v15 v16 p350.2 v19
  else
    none

def Law_358 (L : Nat) (xs : Nat → Int32) (k23 : Int32 → GWV → HouseV → HouseV → HistV → (Nat → HouseV) → HouseV → SightV → SightV → BestV → HouseV → SightV → IntrV → ToksV → QReadV → (Nat → Int32) → (Nat → Int32) → ModelV → (Nat → Int64) → Option Unit) (x4 : Int32) (v0 : GWV) (v1 : HouseV) (v2 : HouseV) (v3 : HistV) (v4 : Nat → HouseV) (v5 : HouseV) (v6 : SightV) (v7 : SightV) (v8 : BestV) (v9 : HouseV) (v10 : SightV) (v11 : IntrV) (v12 : ToksV) (v14 : QReadV) (v15 : Nat → Int32) (v16 : Nat → Int32) (v17 : ModelV) (v19 : Nat → Int64) : Option Unit :=
  gd (inB (x4 + 1) L) <|
  Option.bind (L_size (xs (Int32.toNatClampNeg (x4 + 1))) v0 v1 v6 v19) fun p366 =>
  Option.bind (Mod_size (xs (Int32.toNatClampNeg (x4 + 1))) v17) fun p378 =>
  Option.bind (Mod_thrown p378.2) fun p384 =>
  if p384 = p366.1 then
    if p366.1 = 0 then
      gd (inB 0 1) <|
      if lg_cmp (p366.2.2 (Int32.toNatClampNeg 0)) (Int32.toInt64 p378.1) = 0 then
        nmL (x4 + 6) fun (x4_2229 : Int32) =>
        k23 x4_2229 v0 v1 v2 v3 v4 v5 p366.2.1 v7 v8 v9 v10 v11 v12 v14 v15 v16 p378.2 p366.2.2
      else
        none
    else
      nmL (x4 + 6) fun (x4_2229 : Int32) =>
      k23 x4_2229 v0 v1 v2 v3 v4 v5 p366.2.1 v7 v8 v9 v10 v11 v12 v14 v15 v16 p378.2 p366.2.2
  else
    none

def Law_414 (L : Nat) (xs : Nat → Int32) (k23 : Int32 → GWV → HouseV → HouseV → HistV → (Nat → HouseV) → HouseV → SightV → SightV → BestV → HouseV → SightV → IntrV → ToksV → QReadV → (Nat → Int32) → (Nat → Int32) → ModelV → (Nat → Int64) → Option Unit) (x4 : Int32) (v0 : GWV) (v1 : HouseV) (v2 : HouseV) (v3 : HistV) (v4 : Nat → HouseV) (v5 : HouseV) (v6 : SightV) (v7 : SightV) (v8 : BestV) (v9 : HouseV) (v10 : SightV) (v11 : IntrV) (v12 : ToksV) (v14 : QReadV) (v15 : Nat → Int32) (v16 : Nat → Int32) (v17 : ModelV) (v19 : Nat → Int64) : Option Unit :=
  gd (inB (x4 + 1) L) <|
  gd (inB (x4 + 2) L) <|
  Option.bind (L_door (xs (Int32.toNatClampNeg (x4 + 1))) (xs (Int32.toNatClampNeg (x4 + 2))) v0 v1 v19) fun p428 =>
  Option.bind (Mod_door (xs (Int32.toNatClampNeg (x4 + 1))) (xs (Int32.toNatClampNeg (x4 + 2))) v17) fun p446 =>
  Option.bind (Mod_thrown p446.2) fun p452 =>
  if p452 = p428.1 then
    if p428.1 = 0 then
      gd (inB 0 1) <|
      if lg_cmp (p428.2 (Int32.toNatClampNeg 0)) (Int32.toInt64 p446.1) = 0 then
        nmL (x4 + 6) fun (x4_2229 : Int32) =>
        k23 x4_2229 v0 v1 v2 v3 v4 v5 v6 v7 v8 v9 v10 v11 v12 v14 v15 v16 p446.2 p428.2
      else
        none
    else
      nmL (x4 + 6) fun (x4_2229 : Int32) =>
      k23 x4_2229 v0 v1 v2 v3 v4 v5 v6 v7 v8 v9 v10 v11 v12 v14 v15 v16 p446.2 p428.2
  else
    none

def Law_482 (L : Nat) (xs : Nat → Int32) (k23 : Int32 → GWV → HouseV → HouseV → HistV → (Nat → HouseV) → HouseV → SightV → SightV → BestV → HouseV → SightV → IntrV → ToksV → QReadV → (Nat → Int32) → (Nat → Int32) → ModelV → (Nat → Int64) → Option Unit) (x4 : Int32) (v0 : GWV) (v1 : HouseV) (v2 : HouseV) (v3 : HistV) (v4 : Nat → HouseV) (v5 : HouseV) (v6 : SightV) (v7 : SightV) (v8 : BestV) (v9 : HouseV) (v10 : SightV) (v11 : IntrV) (v12 : ToksV) (v14 : QReadV) (v15 : Nat → Int32) (v16 : Nat → Int32) (v17 : ModelV) (v19 : Nat → Int64) : Option Unit :=
  gd (inB (x4 + 1) L) <|
  gd (inB (x4 + 2) L) <|
  Option.bind (L_room (xs (Int32.toNatClampNeg (x4 + 1))) (xs (Int32.toNatClampNeg (x4 + 2))) v0 v1 v6 v19) fun p496 =>
  Option.bind (Mod_room (xs (Int32.toNatClampNeg (x4 + 1))) (xs (Int32.toNatClampNeg (x4 + 2))) v17) fun p514 =>
  Option.bind (Mod_thrown p514.2) fun p520 =>
  if p520 = p496.1 then
    if p496.1 = 0 then
      gd (inB 0 1) <|
      if lg_cmp (p496.2.2 (Int32.toNatClampNeg 0)) (Int32.toInt64 p514.1) = 0 then
        nmL (x4 + 6) fun (x4_2229 : Int32) =>
        k23 x4_2229 v0 v1 v2 v3 v4 v5 p496.2.1 v7 v8 v9 v10 v11 v12 v14 v15 v16 p514.2 p496.2.2
      else
        none
    else
      nmL (x4 + 6) fun (x4_2229 : Int32) =>
      k23 x4_2229 v0 v1 v2 v3 v4 v5 p496.2.1 v7 v8 v9 v10 v11 v12 v14 v15 v16 p514.2 p496.2.2
  else
    none

def Law_550 (L : Nat) (xs : Nat → Int32) (k23 : Int32 → GWV → HouseV → HouseV → HistV → (Nat → HouseV) → HouseV → SightV → SightV → BestV → HouseV → SightV → IntrV → ToksV → QReadV → (Nat → Int32) → (Nat → Int32) → ModelV → (Nat → Int64) → Option Unit) (x4 : Int32) (v0 : GWV) (v1 : HouseV) (v2 : HouseV) (v3 : HistV) (v4 : Nat → HouseV) (v5 : HouseV) (v6 : SightV) (v7 : SightV) (v8 : BestV) (v9 : HouseV) (v10 : SightV) (v11 : IntrV) (v12 : ToksV) (v14 : QReadV) (v15 : Nat → Int32) (v16 : Nat → Int32) (v17 : ModelV) (v19 : Nat → Int64) : Option Unit :=
  gd (inB (x4 + 1) L) <|
  gd (inB (x4 + 2) L) <|
  Option.bind (L_guard (xs (Int32.toNatClampNeg (x4 + 1))) (xs (Int32.toNatClampNeg (x4 + 2))) v0 v1 v19) fun p564 =>
  Option.bind (Mod_guard (xs (Int32.toNatClampNeg (x4 + 1))) (xs (Int32.toNatClampNeg (x4 + 2))) v17) fun p582 =>
  Option.bind (Mod_thrown p582.2) fun p588 =>
  if p588 = p564.1 then
    if p564.1 = 0 then
      gd (inB 0 1) <|
      if lg_cmp (p564.2 (Int32.toNatClampNeg 0)) (Int32.toInt64 p582.1) = 0 then
        nmL (x4 + 6) fun (x4_2229 : Int32) =>
        k23 x4_2229 v0 v1 v2 v3 v4 v5 v6 v7 v8 v9 v10 v11 v12 v14 v15 v16 p582.2 p564.2
      else
        none
    else
      nmL (x4 + 6) fun (x4_2229 : Int32) =>
      k23 x4_2229 v0 v1 v2 v3 v4 v5 v6 v7 v8 v9 v10 v11 v12 v14 v15 v16 p582.2 p564.2
  else
    none

def Law_618 (L : Nat) (xs : Nat → Int32) (k23 : Int32 → GWV → HouseV → HouseV → HistV → (Nat → HouseV) → HouseV → SightV → SightV → BestV → HouseV → SightV → IntrV → ToksV → QReadV → (Nat → Int32) → (Nat → Int32) → ModelV → (Nat → Int64) → Option Unit) (x4 : Int32) (v0 : GWV) (v1 : HouseV) (v2 : HouseV) (v3 : HistV) (v4 : Nat → HouseV) (v5 : HouseV) (v6 : SightV) (v7 : SightV) (v8 : BestV) (v9 : HouseV) (v10 : SightV) (v11 : IntrV) (v12 : ToksV) (v14 : QReadV) (v15 : Nat → Int32) (v16 : Nat → Int32) (v17 : ModelV) (v19 : Nat → Int64) : Option Unit :=
  gd (inB (x4 + 1) L) <|
  gd (inB (x4 + 2) L) <|
  Option.bind (L_walk (xs (Int32.toNatClampNeg (x4 + 1))) (xs (Int32.toNatClampNeg (x4 + 2))) v0 v1 v19) fun p632 =>
  Option.bind (Mod_walk (xs (Int32.toNatClampNeg (x4 + 1))) (xs (Int32.toNatClampNeg (x4 + 2))) v17) fun p650 =>
  Option.bind (Mod_thrown p650.2) fun p656 =>
  if p656 = p632.1 then
    if p632.1 = 0 then
      gd (inB 0 1) <|
      if lg_cmp (p632.2 (Int32.toNatClampNeg 0)) (Int32.toInt64 p650.1) = 0 then
        nmL (x4 + 6) fun (x4_2229 : Int32) =>
        k23 x4_2229 v0 v1 v2 v3 v4 v5 v6 v7 v8 v9 v10 v11 v12 v14 v15 v16 p650.2 p632.2
      else
        none
    else
      nmL (x4 + 6) fun (x4_2229 : Int32) =>
      k23 x4_2229 v0 v1 v2 v3 v4 v5 v6 v7 v8 v9 v10 v11 v12 v14 v15 v16 p650.2 p632.2
  else
    none

def Law_686 (L : Nat) (xs : Nat → Int32) (k23 : Int32 → GWV → HouseV → HouseV → HistV → (Nat → HouseV) → HouseV → SightV → SightV → BestV → HouseV → SightV → IntrV → ToksV → QReadV → (Nat → Int32) → (Nat → Int32) → ModelV → (Nat → Int64) → Option Unit) (x4 : Int32) (v0 : GWV) (v1 : HouseV) (v2 : HouseV) (v3 : HistV) (v4 : Nat → HouseV) (v5 : HouseV) (v6 : SightV) (v7 : SightV) (v8 : BestV) (v9 : HouseV) (v10 : SightV) (v11 : IntrV) (v12 : ToksV) (v14 : QReadV) (v15 : Nat → Int32) (v16 : Nat → Int32) (v17 : ModelV) (v19 : Nat → Int64) : Option Unit :=
  gd (inB (x4 + 1) L) <|
  gd (inB (x4 + 2) L) <|
  Option.bind (L_roomOf (xs (Int32.toNatClampNeg (x4 + 1))) (xs (Int32.toNatClampNeg (x4 + 2))) v0 v1 v19) fun p700 =>
  Option.bind (Mod_roomOf (xs (Int32.toNatClampNeg (x4 + 1))) (xs (Int32.toNatClampNeg (x4 + 2))) v17) fun p718 =>
  Option.bind (Mod_thrown p718.2) fun p724 =>
  if p724 = p700.1 then
    if p700.1 = 0 then
      gd (inB 0 1) <|
      if lg_cmp (p700.2 (Int32.toNatClampNeg 0)) (Int32.toInt64 p718.1) = 0 then
        nmL (x4 + 6) fun (x4_2229 : Int32) =>
        k23 x4_2229 v0 v1 v2 v3 v4 v5 v6 v7 v8 v9 v10 v11 v12 v14 v15 v16 p718.2 p700.2
      else
        none
    else
      nmL (x4 + 6) fun (x4_2229 : Int32) =>
      k23 x4_2229 v0 v1 v2 v3 v4 v5 v6 v7 v8 v9 v10 v11 v12 v14 v15 v16 p718.2 p700.2
  else
    none

def Law_754 (L : Nat) (xs : Nat → Int32) (k23 : Int32 → GWV → HouseV → HouseV → HistV → (Nat → HouseV) → HouseV → SightV → SightV → BestV → HouseV → SightV → IntrV → ToksV → QReadV → (Nat → Int32) → (Nat → Int32) → ModelV → (Nat → Int64) → Option Unit) (x4 : Int32) (v0 : GWV) (v1 : HouseV) (v2 : HouseV) (v3 : HistV) (v4 : Nat → HouseV) (v5 : HouseV) (v6 : SightV) (v7 : SightV) (v8 : BestV) (v9 : HouseV) (v10 : SightV) (v11 : IntrV) (v12 : ToksV) (v14 : QReadV) (v15 : Nat → Int32) (v16 : Nat → Int32) (v17 : ModelV) (v19 : Nat → Int64) : Option Unit :=
  gd (inB (x4 + 1) L) <|
  gd (inB (x4 + 2) L) <|
  Option.bind (L_guardsIn (xs (Int32.toNatClampNeg (x4 + 1))) (xs (Int32.toNatClampNeg (x4 + 2))) v0 v1 v19) fun p768 =>
  Option.bind (Mod_guardsIn (xs (Int32.toNatClampNeg (x4 + 1))) (xs (Int32.toNatClampNeg (x4 + 2))) v17) fun p786 =>
  Option.bind (Mod_thrown p786.2) fun p792 =>
  if p792 = p768.1 then
    if p768.1 = 0 then
      gd (inB 0 1) <|
      if lg_cmp (p768.2 (Int32.toNatClampNeg 0)) (Int32.toInt64 p786.1) = 0 then
        nmL (x4 + 6) fun (x4_2229 : Int32) =>
        k23 x4_2229 v0 v1 v2 v3 v4 v5 v6 v7 v8 v9 v10 v11 v12 v14 v15 v16 p786.2 p768.2
      else
        none
    else
      nmL (x4 + 6) fun (x4_2229 : Int32) =>
      k23 x4_2229 v0 v1 v2 v3 v4 v5 v6 v7 v8 v9 v10 v11 v12 v14 v15 v16 p786.2 p768.2
  else
    none

def Law_822 (L : Nat) (xs : Nat → Int32) (k23 : Int32 → GWV → HouseV → HouseV → HistV → (Nat → HouseV) → HouseV → SightV → SightV → BestV → HouseV → SightV → IntrV → ToksV → QReadV → (Nat → Int32) → (Nat → Int32) → ModelV → (Nat → Int64) → Option Unit) (x4 : Int32) (v0 : GWV) (v1 : HouseV) (v2 : HouseV) (v3 : HistV) (v4 : Nat → HouseV) (v5 : HouseV) (v6 : SightV) (v7 : SightV) (v8 : BestV) (v9 : HouseV) (v10 : SightV) (v11 : IntrV) (v12 : ToksV) (v14 : QReadV) (v15 : Nat → Int32) (v16 : Nat → Int32) (v17 : ModelV) (v19 : Nat → Int64) : Option Unit :=
  gd (inB (x4 + 1) L) <|
  gd (inB (x4 + 2) L) <|
  Option.bind (L_nextSeen (xs (Int32.toNatClampNeg (x4 + 1))) (xs (Int32.toNatClampNeg (x4 + 2))) v0 v1 v19) fun p836 =>
  Option.bind (Mod_nextSeen (xs (Int32.toNatClampNeg (x4 + 1))) (xs (Int32.toNatClampNeg (x4 + 2))) v17) fun p854 =>
  Option.bind (Mod_thrown p854.2) fun p860 =>
  if p860 = p836.1 then
    if p836.1 = 0 then
      gd (inB 0 1) <|
      if lg_cmp (p836.2 (Int32.toNatClampNeg 0)) (Int32.toInt64 p854.1) = 0 then
        nmL (x4 + 6) fun (x4_2229 : Int32) =>
        k23 x4_2229 v0 v1 v2 v3 v4 v5 v6 v7 v8 v9 v10 v11 v12 v14 v15 v16 p854.2 p836.2
      else
        none
    else
      nmL (x4 + 6) fun (x4_2229 : Int32) =>
      k23 x4_2229 v0 v1 v2 v3 v4 v5 v6 v7 v8 v9 v10 v11 v12 v14 v15 v16 p854.2 p836.2
  else
    none

def Law_890 (L : Nat) (xs : Nat → Int32) (k23 : Int32 → GWV → HouseV → HouseV → HistV → (Nat → HouseV) → HouseV → SightV → SightV → BestV → HouseV → SightV → IntrV → ToksV → QReadV → (Nat → Int32) → (Nat → Int32) → ModelV → (Nat → Int64) → Option Unit) (x4 : Int32) (v0 : GWV) (v1 : HouseV) (v2 : HouseV) (v3 : HistV) (v4 : Nat → HouseV) (v5 : HouseV) (v6 : SightV) (v7 : SightV) (v8 : BestV) (v9 : HouseV) (v10 : SightV) (v11 : IntrV) (v12 : ToksV) (v14 : QReadV) (v15 : Nat → Int32) (v16 : Nat → Int32) (v17 : ModelV) (v19 : Nat → Int64) : Option Unit :=
  gd (inB (x4 + 1) L) <|
  Option.bind (L_gapFrom (xs (Int32.toNatClampNeg (x4 + 1))) v0 v1 v6 v19) fun p898 =>
  Option.bind (Mod_gapFrom (xs (Int32.toNatClampNeg (x4 + 1))) v17) fun p910 =>
  Option.bind (Mod_thrown p910.2) fun p916 =>
  if p916 = p898.1 then
    if p898.1 = 0 then
      gd (inB 0 1) <|
      if lg_cmp (p898.2.2 (Int32.toNatClampNeg 0)) (Int32.toInt64 p910.1) = 0 then
        nmL (x4 + 6) fun (x4_2229 : Int32) =>
        k23 x4_2229 v0 v1 v2 v3 v4 v5 p898.2.1 v7 v8 v9 v10 v11 v12 v14 v15 v16 p910.2 p898.2.2
      else
        none
    else
      nmL (x4 + 6) fun (x4_2229 : Int32) =>
      k23 x4_2229 v0 v1 v2 v3 v4 v5 p898.2.1 v7 v8 v9 v10 v11 v12 v14 v15 v16 p910.2 p898.2.2
  else
    none

def Law_946 (L : Nat) (xs : Nat → Int32) (k23 : Int32 → GWV → HouseV → HouseV → HistV → (Nat → HouseV) → HouseV → SightV → SightV → BestV → HouseV → SightV → IntrV → ToksV → QReadV → (Nat → Int32) → (Nat → Int32) → ModelV → (Nat → Int64) → Option Unit) (x4 : Int32) (v0 : GWV) (v1 : HouseV) (v2 : HouseV) (v3 : HistV) (v4 : Nat → HouseV) (v5 : HouseV) (v6 : SightV) (v7 : SightV) (v8 : BestV) (v9 : HouseV) (v10 : SightV) (v11 : IntrV) (v12 : ToksV) (v14 : QReadV) (v15 : Nat → Int32) (v16 : Nat → Int32) (v17 : ModelV) (v19 : Nat → Int64) : Option Unit :=
  gd (inB (x4 + 1) L) <|
  gd (inB (x4 + 2) L) <|
  Option.bind (L_isJoined (xs (Int32.toNatClampNeg (x4 + 1))) (xs (Int32.toNatClampNeg (x4 + 2))) v0 v1 v19) fun p960 =>
  Option.bind (Mod_isJoined (xs (Int32.toNatClampNeg (x4 + 1))) (xs (Int32.toNatClampNeg (x4 + 2))) v17) fun p978 =>
  nmL (b2i p978.1) fun (x6_981 : Int32) =>
  Option.bind (Mod_thrown p978.2) fun p984 =>
  if p984 = p960.1 then
    if p960.1 = 0 then
      gd (inB 0 1) <|
      if x6_981 = 0 then
        if lg_cmp (p960.2 (Int32.toNatClampNeg 0)) 0 = 0 then
          nmL (x4 + 6) fun (x4_2229 : Int32) =>
          k23 x4_2229 v0 v1 v2 v3 v4 v5 v6 v7 v8 v9 v10 v11 v12 v14 v15 v16 p978.2 p960.2
        else
          none
      else
        if lg_cmp (p960.2 (Int32.toNatClampNeg 0)) 1 = 0 then
          nmL (x4 + 6) fun (x4_2229 : Int32) =>
          k23 x4_2229 v0 v1 v2 v3 v4 v5 v6 v7 v8 v9 v10 v11 v12 v14 v15 v16 p978.2 p960.2
        else
          none
    else
      nmL (x4 + 6) fun (x4_2229 : Int32) =>
      k23 x4_2229 v0 v1 v2 v3 v4 v5 v6 v7 v8 v9 v10 v11 v12 v14 v15 v16 p978.2 p960.2
  else
    none

def Law_1021 (L : Nat) (xs : Nat → Int32) (k23 : Int32 → GWV → HouseV → HouseV → HistV → (Nat → HouseV) → HouseV → SightV → SightV → BestV → HouseV → SightV → IntrV → ToksV → QReadV → (Nat → Int32) → (Nat → Int32) → ModelV → (Nat → Int64) → Option Unit) (x4 : Int32) (v0 : GWV) (v1 : HouseV) (v2 : HouseV) (v3 : HistV) (v4 : Nat → HouseV) (v5 : HouseV) (v6 : SightV) (v7 : SightV) (v8 : BestV) (v9 : HouseV) (v10 : SightV) (v11 : IntrV) (v12 : ToksV) (v14 : QReadV) (v15 : Nat → Int32) (v16 : Nat → Int32) (v17 : ModelV) (v19 : Nat → Int64) : Option Unit :=
  gd (inB (x4 + 1) L) <|
  gd (inB (x4 + 2) L) <|
  Option.bind (L_distance (xs (Int32.toNatClampNeg (x4 + 1))) (xs (Int32.toNatClampNeg (x4 + 2))) v0 v1 v19) fun p1035 =>
  Option.bind (Mod_distance (xs (Int32.toNatClampNeg (x4 + 1))) (xs (Int32.toNatClampNeg (x4 + 2))) v17) fun p1053 =>
  Option.bind (Mod_thrown p1053.2) fun p1059 =>
  if p1059 = p1035.1 then
    if p1035.1 = 0 then
      gd (inB 0 1) <|
      if lg_cmp (p1035.2 (Int32.toNatClampNeg 0)) (Int32.toInt64 p1053.1) = 0 then
        nmL (x4 + 6) fun (x4_2229 : Int32) =>
        k23 x4_2229 v0 v1 v2 v3 v4 v5 v6 v7 v8 v9 v10 v11 v12 v14 v15 v16 p1053.2 p1035.2
      else
        none
    else
      nmL (x4 + 6) fun (x4_2229 : Int32) =>
      k23 x4_2229 v0 v1 v2 v3 v4 v5 v6 v7 v8 v9 v10 v11 v12 v14 v15 v16 p1053.2 p1035.2
  else
    none

def Law_1089 (L : Nat) (xs : Nat → Int32) (k23 : Int32 → GWV → HouseV → HouseV → HistV → (Nat → HouseV) → HouseV → SightV → SightV → BestV → HouseV → SightV → IntrV → ToksV → QReadV → (Nat → Int32) → (Nat → Int32) → ModelV → (Nat → Int64) → Option Unit) (x4 : Int32) (v0 : GWV) (v1 : HouseV) (v2 : HouseV) (v3 : HistV) (v4 : Nat → HouseV) (v5 : HouseV) (v6 : SightV) (v7 : SightV) (v8 : BestV) (v9 : HouseV) (v10 : SightV) (v11 : IntrV) (v12 : ToksV) (v14 : QReadV) (v15 : Nat → Int32) (v16 : Nat → Int32) (v17 : ModelV) (v19 : Nat → Int64) : Option Unit :=
  gd (inB (x4 + 1) L) <|
  gd (inB (x4 + 2) L) <|
  Option.bind (L_meetings (xs (Int32.toNatClampNeg (x4 + 1))) (xs (Int32.toNatClampNeg (x4 + 2))) v0 v1 v19) fun p1103 =>
  Option.bind (Mod_meetings (xs (Int32.toNatClampNeg (x4 + 1))) (xs (Int32.toNatClampNeg (x4 + 2))) v17) fun p1121 =>
  Option.bind (Mod_thrown p1121.2) fun p1127 =>
  if p1127 = p1103.1 then
    if p1103.1 = 0 then
      gd (inB 0 1) <|
      if lg_cmp (p1103.2 (Int32.toNatClampNeg 0)) (Int32.toInt64 p1121.1) = 0 then
        nmL (x4 + 6) fun (x4_2229 : Int32) =>
        k23 x4_2229 v0 v1 v2 v3 v4 v5 v6 v7 v8 v9 v10 v11 v12 v14 v15 v16 p1121.2 p1103.2
      else
        none
    else
      nmL (x4 + 6) fun (x4_2229 : Int32) =>
      k23 x4_2229 v0 v1 v2 v3 v4 v5 v6 v7 v8 v9 v10 v11 v12 v14 v15 v16 p1121.2 p1103.2
  else
    none

def Law_1157 (L : Nat) (xs : Nat → Int32) (k23 : Int32 → GWV → HouseV → HouseV → HistV → (Nat → HouseV) → HouseV → SightV → SightV → BestV → HouseV → SightV → IntrV → ToksV → QReadV → (Nat → Int32) → (Nat → Int32) → ModelV → (Nat → Int64) → Option Unit) (x4 : Int32) (v0 : GWV) (v1 : HouseV) (v2 : HouseV) (v3 : HistV) (v4 : Nat → HouseV) (v5 : HouseV) (v6 : SightV) (v7 : SightV) (v8 : BestV) (v9 : HouseV) (v10 : SightV) (v11 : IntrV) (v12 : ToksV) (v14 : QReadV) (v15 : Nat → Int32) (v16 : Nat → Int32) (v17 : ModelV) (v19 : Nat → Int64) : Option Unit :=
  gd (inB (x4 + 1) L) <|
  gd (inB (x4 + 2) L) <|
  Option.bind (L_passings (xs (Int32.toNatClampNeg (x4 + 1))) (xs (Int32.toNatClampNeg (x4 + 2))) v0 v1 v19) fun p1171 =>
  Option.bind (Mod_passings (xs (Int32.toNatClampNeg (x4 + 1))) (xs (Int32.toNatClampNeg (x4 + 2))) v17) fun p1189 =>
  Option.bind (Mod_thrown p1189.2) fun p1195 =>
  if p1195 = p1171.1 then
    if p1171.1 = 0 then
      gd (inB 0 1) <|
      if lg_cmp (p1171.2 (Int32.toNatClampNeg 0)) (Int32.toInt64 p1189.1) = 0 then
        nmL (x4 + 6) fun (x4_2229 : Int32) =>
        k23 x4_2229 v0 v1 v2 v3 v4 v5 v6 v7 v8 v9 v10 v11 v12 v14 v15 v16 p1189.2 p1171.2
      else
        none
    else
      nmL (x4 + 6) fun (x4_2229 : Int32) =>
      k23 x4_2229 v0 v1 v2 v3 v4 v5 v6 v7 v8 v9 v10 v11 v12 v14 v15 v16 p1189.2 p1171.2
  else
    none

def Law_1225 (L : Nat) (xs : Nat → Int32) (k23 : Int32 → GWV → HouseV → HouseV → HistV → (Nat → HouseV) → HouseV → SightV → SightV → BestV → HouseV → SightV → IntrV → ToksV → QReadV → (Nat → Int32) → (Nat → Int32) → ModelV → (Nat → Int64) → Option Unit) (x4 : Int32) (v0 : GWV) (v1 : HouseV) (v2 : HouseV) (v3 : HistV) (v4 : Nat → HouseV) (v5 : HouseV) (v6 : SightV) (v7 : SightV) (v8 : BestV) (v9 : HouseV) (v10 : SightV) (v11 : IntrV) (v12 : ToksV) (v14 : QReadV) (v15 : Nat → Int32) (v16 : Nat → Int32) (v17 : ModelV) (v19 : Nat → Int64) : Option Unit :=
  gd (inB (x4 + 1) L) <|
  gd (inB (x4 + 2) L) <|
  gd (inB (x4 + 3) L) <|
  Option.bind (L_nextMeeting (xs (Int32.toNatClampNeg (x4 + 1))) (xs (Int32.toNatClampNeg (x4 + 2))) (xs (Int32.toNatClampNeg (x4 + 3))) v0 v1 v19) fun p1245 =>
  Option.bind (Mod_nextMeeting (xs (Int32.toNatClampNeg (x4 + 1))) (xs (Int32.toNatClampNeg (x4 + 2))) (xs (Int32.toNatClampNeg (x4 + 3))) v17) fun p1269 =>
  Option.bind (Mod_thrown p1269.2) fun p1275 =>
  if p1275 = p1245.1 then
    if p1245.1 = 0 then
      gd (inB 0 1) <|
      if lg_cmp (p1245.2 (Int32.toNatClampNeg 0)) (Int32.toInt64 p1269.1) = 0 then
        nmL (x4 + 6) fun (x4_2229 : Int32) =>
        k23 x4_2229 v0 v1 v2 v3 v4 v5 v6 v7 v8 v9 v10 v11 v12 v14 v15 v16 p1269.2 p1245.2
      else
        none
    else
      nmL (x4 + 6) fun (x4_2229 : Int32) =>
      k23 x4_2229 v0 v1 v2 v3 v4 v5 v6 v7 v8 v9 v10 v11 v12 v14 v15 v16 p1269.2 p1245.2
  else
    none

def Law_1305 (L : Nat) (xs : Nat → Int32) (k23 : Int32 → GWV → HouseV → HouseV → HistV → (Nat → HouseV) → HouseV → SightV → SightV → BestV → HouseV → SightV → IntrV → ToksV → QReadV → (Nat → Int32) → (Nat → Int32) → ModelV → (Nat → Int64) → Option Unit) (x4 : Int32) (v0 : GWV) (v1 : HouseV) (v2 : HouseV) (v3 : HistV) (v4 : Nat → HouseV) (v5 : HouseV) (v6 : SightV) (v7 : SightV) (v8 : BestV) (v9 : HouseV) (v10 : SightV) (v11 : IntrV) (v12 : ToksV) (v14 : QReadV) (v15 : Nat → Int32) (v16 : Nat → Int32) (v17 : ModelV) (v19 : Nat → Int64) : Option Unit :=
  gd (inB (x4 + 1) L) <|
  gd (inB (x4 + 2) L) <|
  Option.bind (L_worstWith (xs (Int32.toNatClampNeg (x4 + 1))) (xs (Int32.toNatClampNeg (x4 + 2))) v0 v1 v2 v7 v19) fun p1319 =>
  Option.bind (Mod_worstWith (xs (Int32.toNatClampNeg (x4 + 1))) (xs (Int32.toNatClampNeg (x4 + 2))) v17) fun p1337 =>
  Option.bind (Mod_thrown p1337.2) fun p1343 =>
  if p1343 = p1319.1 then
    if p1319.1 = 0 then
      gd (inB 0 1) <|
      if lg_cmp (p1319.2.2.2 (Int32.toNatClampNeg 0)) (Int32.toInt64 p1337.1) = 0 then
        nmL (x4 + 6) fun (x4_2229 : Int32) =>
        k23 x4_2229 v0 v1 p1319.2.1 v3 v4 v5 v6 p1319.2.2.1 v8 v9 v10 v11 v12 v14 v15 v16 p1337.2 p1319.2.2.2
      else
        none
    else
      nmL (x4 + 6) fun (x4_2229 : Int32) =>
      k23 x4_2229 v0 v1 p1319.2.1 v3 v4 v5 v6 p1319.2.2.1 v8 v9 v10 v11 v12 v14 v15 v16 p1337.2 p1319.2.2.2
  else
    none

def Law_1373 (L : Nat) (xs : Nat → Int32) (k23 : Int32 → GWV → HouseV → HouseV → HistV → (Nat → HouseV) → HouseV → SightV → SightV → BestV → HouseV → SightV → IntrV → ToksV → QReadV → (Nat → Int32) → (Nat → Int32) → ModelV → (Nat → Int64) → Option Unit) (x4 : Int32) (v0 : GWV) (v1 : HouseV) (v2 : HouseV) (v3 : HistV) (v4 : Nat → HouseV) (v5 : HouseV) (v6 : SightV) (v7 : SightV) (v8 : BestV) (v9 : HouseV) (v10 : SightV) (v11 : IntrV) (v12 : ToksV) (v14 : QReadV) (v15 : Nat → Int32) (v16 : Nat → Int32) (v17 : ModelV) (v19 : Nat → Int64) : Option Unit :=
  Option.bind (GW_bestWorst v0 v1 v8 v9 v10) fun p1374 =>
  Option.bind (Mod_bestWorst v17) fun p1378 =>
  if p1374.1 = p1378.1 then
    nmL (x4 + 6) fun (x4_2229 : Int32) =>
    k23 x4_2229 v0 v1 v2 v3 v4 v5 v6 v7 p1374.2.1 p1374.2.2.1 p1374.2.2.2 v11 v12 v14 v15 v16 p1378.2 v19
  else
    none

def Law_1386 (L : Nat) (xs : Nat → Int32) (k23 : Int32 → GWV → HouseV → HouseV → HistV → (Nat → HouseV) → HouseV → SightV → SightV → BestV → HouseV → SightV → IntrV → ToksV → QReadV → (Nat → Int32) → (Nat → Int32) → ModelV → (Nat → Int64) → Option Unit) (x4 : Int32) (v0 : GWV) (v1 : HouseV) (v2 : HouseV) (v3 : HistV) (v4 : Nat → HouseV) (v5 : HouseV) (v6 : SightV) (v7 : SightV) (v8 : BestV) (v9 : HouseV) (v10 : SightV) (v11 : IntrV) (v12 : ToksV) (v14 : QReadV) (v15 : Nat → Int32) (v16 : Nat → Int32) (v17 : ModelV) (v19 : Nat → Int64) : Option Unit :=
  Option.bind (GW_bestCrossings v0 v1 v8 v9 v10) fun p1387 =>
  Option.bind (Mod_bestCrossings v17) fun p1391 =>
  if p1387.1 = p1391.1 then
    nmL (x4 + 6) fun (x4_2229 : Int32) =>
    k23 x4_2229 v0 v1 v2 v3 v4 v5 v6 v7 p1387.2.1 p1387.2.2.1 p1387.2.2.2 v11 v12 v14 v15 v16 p1391.2 v19
  else
    none

def Law_1399 (L : Nat) (xs : Nat → Int32) (k23 : Int32 → GWV → HouseV → HouseV → HistV → (Nat → HouseV) → HouseV → SightV → SightV → BestV → HouseV → SightV → IntrV → ToksV → QReadV → (Nat → Int32) → (Nat → Int32) → ModelV → (Nat → Int64) → Option Unit) (x4 : Int32) (v0 : GWV) (v1 : HouseV) (v2 : HouseV) (v3 : HistV) (v4 : Nat → HouseV) (v5 : HouseV) (v6 : SightV) (v7 : SightV) (v8 : BestV) (v9 : HouseV) (v10 : SightV) (v11 : IntrV) (v12 : ToksV) (v14 : QReadV) (v15 : Nat → Int32) (v16 : Nat → Int32) (v17 : ModelV) (v19 : Nat → Int64) : Option Unit :=
  gd (inB (x4 + 1) L) <|
  Option.bind (L_bestPhase (xs (Int32.toNatClampNeg (x4 + 1))) v0 v1 v8 v9 v10 v19) fun p1407 =>
  Option.bind (Mod_bestPhase (xs (Int32.toNatClampNeg (x4 + 1))) v17) fun p1419 =>
  Option.bind (Mod_thrown p1419.2) fun p1425 =>
  if p1425 = p1407.1 then
    if p1407.1 = 0 then
      gd (inB 0 1) <|
      if lg_cmp (p1407.2.2.2.2 (Int32.toNatClampNeg 0)) (Int32.toInt64 p1419.1) = 0 then
        nmL (x4 + 6) fun (x4_2229 : Int32) =>
        k23 x4_2229 v0 v1 v2 v3 v4 v5 v6 v7 p1407.2.1 p1407.2.2.1 p1407.2.2.2.1 v11 v12 v14 v15 v16 p1419.2 p1407.2.2.2.2
      else
        none
    else
      nmL (x4 + 6) fun (x4_2229 : Int32) =>
      k23 x4_2229 v0 v1 v2 v3 v4 v5 v6 v7 p1407.2.1 p1407.2.2.1 p1407.2.2.2.1 v11 v12 v14 v15 v16 p1419.2 p1407.2.2.2.2
  else
    none

def Law_1455 (L : Nat) (xs : Nat → Int32) (k23 : Int32 → GWV → HouseV → HouseV → HistV → (Nat → HouseV) → HouseV → SightV → SightV → BestV → HouseV → SightV → IntrV → ToksV → QReadV → (Nat → Int32) → (Nat → Int32) → ModelV → (Nat → Int64) → Option Unit) (x4 : Int32) (v0 : GWV) (v1 : HouseV) (v2 : HouseV) (v3 : HistV) (v4 : Nat → HouseV) (v5 : HouseV) (v6 : SightV) (v7 : SightV) (v8 : BestV) (v9 : HouseV) (v10 : SightV) (v11 : IntrV) (v12 : ToksV) (v14 : QReadV) (v15 : Nat → Int32) (v16 : Nat → Int32) (v17 : ModelV) (v19 : Nat → Int64) : Option Unit :=
  gd (inB (x4 + 1) L) <|
  gd (inB (x4 + 2) L) <|
  gd (inB (x4 + 3) L) <|
  Option.bind (L_arrival (xs (Int32.toNatClampNeg (x4 + 1))) (xs (Int32.toNatClampNeg (x4 + 2))) (xs (Int32.toNatClampNeg (x4 + 3))) v0 v1 v11 v19) fun p1475 =>
  Option.bind (Mod_arrival (xs (Int32.toNatClampNeg (x4 + 1))) (xs (Int32.toNatClampNeg (x4 + 2))) (xs (Int32.toNatClampNeg (x4 + 3))) v17) fun p1499 =>
  Option.bind (Mod_thrown p1499.2) fun p1505 =>
  if p1505 = p1475.1 then
    if p1475.1 = 0 then
      gd (inB 0 1) <|
      if lg_cmp (p1475.2.2 (Int32.toNatClampNeg 0)) (Int32.toInt64 p1499.1) = 0 then
        nmL (x4 + 6) fun (x4_2229 : Int32) =>
        k23 x4_2229 v0 v1 v2 v3 v4 v5 v6 v7 v8 v9 v10 p1475.2.1 v12 v14 v15 v16 p1499.2 p1475.2.2
      else
        none
    else
      nmL (x4 + 6) fun (x4_2229 : Int32) =>
      k23 x4_2229 v0 v1 v2 v3 v4 v5 v6 v7 v8 v9 v10 p1475.2.1 v12 v14 v15 v16 p1499.2 p1475.2.2
  else
    none

def Law_1535 (L : Nat) (xs : Nat → Int32) (k23 : Int32 → GWV → HouseV → HouseV → HistV → (Nat → HouseV) → HouseV → SightV → SightV → BestV → HouseV → SightV → IntrV → ToksV → QReadV → (Nat → Int32) → (Nat → Int32) → ModelV → (Nat → Int64) → Option Unit) (x4 : Int32) (v0 : GWV) (v1 : HouseV) (v2 : HouseV) (v3 : HistV) (v4 : Nat → HouseV) (v5 : HouseV) (v6 : SightV) (v7 : SightV) (v8 : BestV) (v9 : HouseV) (v10 : SightV) (v11 : IntrV) (v12 : ToksV) (v14 : QReadV) (v15 : Nat → Int32) (v16 : Nat → Int32) (v17 : ModelV) (v19 : Nat → Int64) : Option Unit :=
  gd (inB (x4 + 1) L) <|
  gd (inB (x4 + 2) L) <|
  gd (inB (x4 + 3) L) <|
  Option.bind (L_hiding (xs (Int32.toNatClampNeg (x4 + 1))) (xs (Int32.toNatClampNeg (x4 + 2))) (xs (Int32.toNatClampNeg (x4 + 3))) v0 v1 v11 v19) fun p1555 =>
  Option.bind (Mod_hiding (xs (Int32.toNatClampNeg (x4 + 1))) (xs (Int32.toNatClampNeg (x4 + 2))) (xs (Int32.toNatClampNeg (x4 + 3))) v17) fun p1579 =>
  Option.bind (Mod_thrown p1579.2) fun p1585 =>
  if p1585 = p1555.1 then
    if p1555.1 = 0 then
      gd (inB 0 1) <|
      if lg_cmp (p1555.2.2 (Int32.toNatClampNeg 0)) (Int32.toInt64 p1579.1) = 0 then
        nmL (x4 + 6) fun (x4_2229 : Int32) =>
        k23 x4_2229 v0 v1 v2 v3 v4 v5 v6 v7 v8 v9 v10 p1555.2.1 v12 v14 v15 v16 p1579.2 p1555.2.2
      else
        none
    else
      nmL (x4 + 6) fun (x4_2229 : Int32) =>
      k23 x4_2229 v0 v1 v2 v3 v4 v5 v6 v7 v8 v9 v10 p1555.2.1 v12 v14 v15 v16 p1579.2 p1555.2.2
  else
    none

def Law_1615 (L : Nat) (xs : Nat → Int32) (k23 : Int32 → GWV → HouseV → HouseV → HistV → (Nat → HouseV) → HouseV → SightV → SightV → BestV → HouseV → SightV → IntrV → ToksV → QReadV → (Nat → Int32) → (Nat → Int32) → ModelV → (Nat → Int64) → Option Unit) (x4 : Int32) (v0 : GWV) (v1 : HouseV) (v2 : HouseV) (v3 : HistV) (v4 : Nat → HouseV) (v5 : HouseV) (v6 : SightV) (v7 : SightV) (v8 : BestV) (v9 : HouseV) (v10 : SightV) (v11 : IntrV) (v12 : ToksV) (v14 : QReadV) (v15 : Nat → Int32) (v16 : Nat → Int32) (v17 : ModelV) (v19 : Nat → Int64) : Option Unit :=
  Option.bind (GW_longestStay v0 v1 v11) fun p1616 =>
  Option.bind (Mod_longestStay v17) fun p1620 =>
  if p1616.1 = p1620.1 then
    nmL (x4 + 6) fun (x4_2229 : Int32) =>
    k23 x4_2229 v0 v1 v2 v3 v4 v5 v6 v7 v8 v9 v10 p1616.2 v12 v14 v15 v16 p1620.2 v19
  else
    none

def Law_1628 (L : Nat) (xs : Nat → Int32) (k23 : Int32 → GWV → HouseV → HouseV → HistV → (Nat → HouseV) → HouseV → SightV → SightV → BestV → HouseV → SightV → IntrV → ToksV → QReadV → (Nat → Int32) → (Nat → Int32) → ModelV → (Nat → Int64) → Option Unit) (x4 : Int32) (v0 : GWV) (v1 : HouseV) (v2 : HouseV) (v3 : HistV) (v4 : Nat → HouseV) (v5 : HouseV) (v6 : SightV) (v7 : SightV) (v8 : BestV) (v9 : HouseV) (v10 : SightV) (v11 : IntrV) (v12 : ToksV) (v14 : QReadV) (v15 : Nat → Int32) (v16 : Nat → Int32) (v17 : ModelV) (v19 : Nat → Int64) : Option Unit :=
  Option.bind (GW_coverage v0 v1 v6) fun p1629 =>
  Option.bind (Mod_coverage v17) fun p1635 =>
  if Op.cmpValue (FP.dcmp p1629.1 p1635.1) .l = 0 then
    nmL (x4 + 6) fun (x4_2229 : Int32) =>
    k23 x4_2229 v0 v1 v2 v3 v4 v5 p1629.2 v7 v8 v9 v10 v11 v12 v14 v15 v16 p1635.2 v19
  else
    if Op.cmpValue (FP.dcmp p1629.1 p1629.1) .l = 0 then
      none
    else
      if Op.cmpValue (FP.dcmp p1635.1 p1635.1) .l = 0 then
        none
      else
        nmL (x4 + 6) fun (x4_2229 : Int32) =>
        k23 x4_2229 v0 v1 v2 v3 v4 v5 p1629.2 v7 v8 v9 v10 v11 v12 v14 v15 v16 p1635.2 v19

def Law_1669 (L : Nat) (xs : Nat → Int32) (k23 : Int32 → GWV → HouseV → HouseV → HistV → (Nat → HouseV) → HouseV → SightV → SightV → BestV → HouseV → SightV → IntrV → ToksV → QReadV → (Nat → Int32) → (Nat → Int32) → ModelV → (Nat → Int64) → Option Unit) (x4 : Int32) (v0 : GWV) (v1 : HouseV) (v2 : HouseV) (v3 : HistV) (v4 : Nat → HouseV) (v5 : HouseV) (v6 : SightV) (v7 : SightV) (v8 : BestV) (v9 : HouseV) (v10 : SightV) (v11 : IntrV) (v12 : ToksV) (v14 : QReadV) (v15 : Nat → Int32) (v16 : Nat → Int32) (v17 : ModelV) (v19 : Nat → Int64) : Option Unit :=
  Option.bind (GW_seenRate v0 v1) fun p1670 =>
  gd (n64 (FP.f2d p1670)) <|
  Option.bind (Mod_seenRate v17) fun p1677 =>
  gd (n64 (FP.f2d p1677.1)) <|
  if Op.cmpValue (FP.dcmp (FP.f2d p1670) (FP.f2d p1677.1)) .l = 0 then
    nmL (x4 + 6) fun (x4_2229 : Int32) =>
    k23 x4_2229 v0 v1 v2 v3 v4 v5 v6 v7 v8 v9 v10 v11 v12 v14 v15 v16 p1677.2 v19
  else
    if Op.cmpValue (FP.dcmp (FP.f2d p1670) (FP.f2d p1670)) .l = 0 then
      none
    else
      if Op.cmpValue (FP.dcmp (FP.f2d p1677.1) (FP.f2d p1677.1)) .l = 0 then
        none
      else
        nmL (x4 + 6) fun (x4_2229 : Int32) =>
        k23 x4_2229 v0 v1 v2 v3 v4 v5 v6 v7 v8 v9 v10 v11 v12 v14 v15 v16 p1677.2 v19

def Law_1712 (L : Nat) (xs : Nat → Int32) (k23 : Int32 → GWV → HouseV → HouseV → HistV → (Nat → HouseV) → HouseV → SightV → SightV → BestV → HouseV → SightV → IntrV → ToksV → QReadV → (Nat → Int32) → (Nat → Int32) → ModelV → (Nat → Int64) → Option Unit) (x4 : Int32) (v0 : GWV) (v1 : HouseV) (v2 : HouseV) (v3 : HistV) (v4 : Nat → HouseV) (v5 : HouseV) (v6 : SightV) (v7 : SightV) (v8 : BestV) (v9 : HouseV) (v10 : SightV) (v11 : IntrV) (v12 : ToksV) (v14 : QReadV) (v15 : Nat → Int32) (v16 : Nat → Int32) (v17 : ModelV) (v19 : Nat → Int64) : Option Unit :=
  gd (inB (x4 + 1) L) <|
  Option.bind (L_pass (xs (Int32.toNatClampNeg (x4 + 1))) v0 v1 v3 v4 v19) fun p1720 =>
  Option.bind (Mod_pass (xs (Int32.toNatClampNeg (x4 + 1))) v17) fun p1732 =>
  Option.bind (Mod_thrown p1732.2) fun p1738 =>
  if p1738 = p1720.1 then
    if p1720.1 = 0 then
      gd (inB 0 1) <|
      if lg_cmp (p1720.2.2.2.2 (Int32.toNatClampNeg 0)) (Int32.toInt64 p1732.1) = 0 then
        nmL (x4 + 6) fun (x4_2229 : Int32) =>
        k23 x4_2229 v0 p1720.2.1 v2 p1720.2.2.1 p1720.2.2.2.1 v5 v6 v7 v8 v9 v10 v11 v12 v14 v15 v16 p1732.2 p1720.2.2.2.2
      else
        none
    else
      nmL (x4 + 6) fun (x4_2229 : Int32) =>
      k23 x4_2229 v0 p1720.2.1 v2 p1720.2.2.1 p1720.2.2.2.1 v5 v6 v7 v8 v9 v10 v11 v12 v14 v15 v16 p1732.2 p1720.2.2.2.2
  else
    none

def Law_1768 (L : Nat) (xs : Nat → Int32) (k23 : Int32 → GWV → HouseV → HouseV → HistV → (Nat → HouseV) → HouseV → SightV → SightV → BestV → HouseV → SightV → IntrV → ToksV → QReadV → (Nat → Int32) → (Nat → Int32) → ModelV → (Nat → Int64) → Option Unit) (x4 : Int32) (v0 : GWV) (v1 : HouseV) (v2 : HouseV) (v3 : HistV) (v4 : Nat → HouseV) (v5 : HouseV) (v6 : SightV) (v7 : SightV) (v8 : BestV) (v9 : HouseV) (v10 : SightV) (v11 : IntrV) (v12 : ToksV) (v14 : QReadV) (v15 : Nat → Int32) (v16 : Nat → Int32) (v17 : ModelV) (v19 : Nat → Int64) : Option Unit :=
  gd (inB (x4 + 1) L) <|
  gd (inB (x4 + 2) L) <|
  Option.bind (L_shift (xs (Int32.toNatClampNeg (x4 + 1))) (xs (Int32.toNatClampNeg (x4 + 2))) v0 v1 v3 v4 v6 v19) fun p1782 =>
  Option.bind (Mod_shift (xs (Int32.toNatClampNeg (x4 + 1))) (xs (Int32.toNatClampNeg (x4 + 2))) v17) fun p1800 =>
  Option.bind (Mod_thrown p1800.2) fun p1806 =>
  if p1806 = p1782.1 then
    if p1782.1 = 0 then
      gd (inB 0 1) <|
      if lg_cmp (p1782.2.2.2.2.2.2 (Int32.toNatClampNeg 0)) (Int32.toInt64 p1800.1) = 0 then
        nmL (x4 + 6) fun (x4_2229 : Int32) =>
        k23 x4_2229 p1782.2.1 p1782.2.2.1 v2 p1782.2.2.2.1 p1782.2.2.2.2.1 v5 p1782.2.2.2.2.2.1 v7 v8 v9 v10 v11 v12 v14 v15 v16 p1800.2 p1782.2.2.2.2.2.2
      else
        none
    else
      nmL (x4 + 6) fun (x4_2229 : Int32) =>
      k23 x4_2229 p1782.2.1 p1782.2.2.1 v2 p1782.2.2.2.1 p1782.2.2.2.2.1 v5 p1782.2.2.2.2.2.1 v7 v8 v9 v10 v11 v12 v14 v15 v16 p1800.2 p1782.2.2.2.2.2.2
  else
    none

def Law_1836 (L : Nat) (xs : Nat → Int32) (k23 : Int32 → GWV → HouseV → HouseV → HistV → (Nat → HouseV) → HouseV → SightV → SightV → BestV → HouseV → SightV → IntrV → ToksV → QReadV → (Nat → Int32) → (Nat → Int32) → ModelV → (Nat → Int64) → Option Unit) (x4 : Int32) (v0 : GWV) (v1 : HouseV) (v2 : HouseV) (v3 : HistV) (v4 : Nat → HouseV) (v5 : HouseV) (v6 : SightV) (v7 : SightV) (v8 : BestV) (v9 : HouseV) (v10 : SightV) (v11 : IntrV) (v12 : ToksV) (v14 : QReadV) (v15 : Nat → Int32) (v16 : Nat → Int32) (v17 : ModelV) (v19 : Nat → Int64) : Option Unit :=
  Option.bind (GW_adopt v0 v1 v3 v4 v8 v9 v10) fun p1837 =>
  Option.bind (Mod_adopt v17) fun p1841 =>
  if p1837.1 = p1841.1 then
    nmL (x4 + 6) fun (x4_2229 : Int32) =>
    k23 x4_2229 p1837.2.1 p1837.2.2.1 v2 p1837.2.2.2.1 p1837.2.2.2.2.1 v5 v6 v7 p1837.2.2.2.2.2.1 p1837.2.2.2.2.2.2.1 p1837.2.2.2.2.2.2.2 v11 v12 v14 v15 v16 p1841.2 v19
  else
    none

def Law_1849 (L : Nat) (xs : Nat → Int32) (k23 : Int32 → GWV → HouseV → HouseV → HistV → (Nat → HouseV) → HouseV → SightV → SightV → BestV → HouseV → SightV → IntrV → ToksV → QReadV → (Nat → Int32) → (Nat → Int32) → ModelV → (Nat → Int64) → Option Unit) (x4 : Int32) (v0 : GWV) (v1 : HouseV) (v2 : HouseV) (v3 : HistV) (v4 : Nat → HouseV) (v5 : HouseV) (v6 : SightV) (v7 : SightV) (v8 : BestV) (v9 : HouseV) (v10 : SightV) (v11 : IntrV) (v12 : ToksV) (v14 : QReadV) (v15 : Nat → Int32) (v16 : Nat → Int32) (v17 : ModelV) (v19 : Nat → Int64) : Option Unit :=
  gd (inB (x4 + 1) L) <|
  Option.bind (L_closeDoor (xs (Int32.toNatClampNeg (x4 + 1))) v0 v1 v3 v4 v19) fun p1857 =>
  Option.bind (Mod_closeDoor (xs (Int32.toNatClampNeg (x4 + 1))) v17) fun p1869 =>
  Option.bind (Mod_thrown p1869.2) fun p1875 =>
  if p1875 = p1857.1 then
    if p1857.1 = 0 then
      gd (inB 0 1) <|
      if lg_cmp (p1857.2.2.2.2 (Int32.toNatClampNeg 0)) (Int32.toInt64 p1869.1) = 0 then
        nmL (x4 + 6) fun (x4_2229 : Int32) =>
        k23 x4_2229 v0 p1857.2.1 v2 p1857.2.2.1 p1857.2.2.2.1 v5 v6 v7 v8 v9 v10 v11 v12 v14 v15 v16 p1869.2 p1857.2.2.2.2
      else
        none
    else
      nmL (x4 + 6) fun (x4_2229 : Int32) =>
      k23 x4_2229 v0 p1857.2.1 v2 p1857.2.2.1 p1857.2.2.2.1 v5 v6 v7 v8 v9 v10 v11 v12 v14 v15 v16 p1869.2 p1857.2.2.2.2
  else
    none

def Law_1905 (L : Nat) (xs : Nat → Int32) (k23 : Int32 → GWV → HouseV → HouseV → HistV → (Nat → HouseV) → HouseV → SightV → SightV → BestV → HouseV → SightV → IntrV → ToksV → QReadV → (Nat → Int32) → (Nat → Int32) → ModelV → (Nat → Int64) → Option Unit) (x4 : Int32) (v0 : GWV) (v1 : HouseV) (v2 : HouseV) (v3 : HistV) (v4 : Nat → HouseV) (v5 : HouseV) (v6 : SightV) (v7 : SightV) (v8 : BestV) (v9 : HouseV) (v10 : SightV) (v11 : IntrV) (v12 : ToksV) (v14 : QReadV) (v15 : Nat → Int32) (v16 : Nat → Int32) (v17 : ModelV) (v19 : Nat → Int64) : Option Unit :=
  gd (inB (x4 + 1) L) <|
  Option.bind (L_openDoor (xs (Int32.toNatClampNeg (x4 + 1))) v0 v1 v3 v4 v19) fun p1913 =>
  Option.bind (Mod_openDoor (xs (Int32.toNatClampNeg (x4 + 1))) v17) fun p1925 =>
  Option.bind (Mod_thrown p1925.2) fun p1931 =>
  if p1931 = p1913.1 then
    if p1913.1 = 0 then
      gd (inB 0 1) <|
      if lg_cmp (p1913.2.2.2.2 (Int32.toNatClampNeg 0)) (Int32.toInt64 p1925.1) = 0 then
        nmL (x4 + 6) fun (x4_2229 : Int32) =>
        k23 x4_2229 v0 p1913.2.1 v2 p1913.2.2.1 p1913.2.2.2.1 v5 v6 v7 v8 v9 v10 v11 v12 v14 v15 v16 p1925.2 p1913.2.2.2.2
      else
        none
    else
      nmL (x4 + 6) fun (x4_2229 : Int32) =>
      k23 x4_2229 v0 p1913.2.1 v2 p1913.2.2.1 p1913.2.2.2.1 v5 v6 v7 v8 v9 v10 v11 v12 v14 v15 v16 p1925.2 p1913.2.2.2.2
  else
    none

def Law_1961 (L : Nat) (xs : Nat → Int32) (k23 : Int32 → GWV → HouseV → HouseV → HistV → (Nat → HouseV) → HouseV → SightV → SightV → BestV → HouseV → SightV → IntrV → ToksV → QReadV → (Nat → Int32) → (Nat → Int32) → ModelV → (Nat → Int64) → Option Unit) (x4 : Int32) (v0 : GWV) (v1 : HouseV) (v2 : HouseV) (v3 : HistV) (v4 : Nat → HouseV) (v5 : HouseV) (v6 : SightV) (v7 : SightV) (v8 : BestV) (v9 : HouseV) (v10 : SightV) (v11 : IntrV) (v12 : ToksV) (v14 : QReadV) (v15 : Nat → Int32) (v16 : Nat → Int32) (v17 : ModelV) (v19 : Nat → Int64) : Option Unit :=
  gd (inB (x4 + 1) L) <|
  gd (inB (x4 + 2) L) <|
  Option.bind (L_setLimit (xs (Int32.toNatClampNeg (x4 + 1))) (xs (Int32.toNatClampNeg (x4 + 2))) v0 v1 v3 v4 v6 v19) fun p1975 =>
  Option.bind (Mod_setLimit (xs (Int32.toNatClampNeg (x4 + 1))) (xs (Int32.toNatClampNeg (x4 + 2))) v17) fun p1993 =>
  Option.bind (Mod_thrown p1993.2) fun p1999 =>
  if p1999 = p1975.1 then
    if p1975.1 = 0 then
      gd (inB 0 1) <|
      if lg_cmp (p1975.2.2.2.2.2 (Int32.toNatClampNeg 0)) (Int32.toInt64 p1993.1) = 0 then
        nmL (x4 + 6) fun (x4_2229 : Int32) =>
        k23 x4_2229 v0 p1975.2.1 v2 p1975.2.2.1 p1975.2.2.2.1 v5 p1975.2.2.2.2.1 v7 v8 v9 v10 v11 v12 v14 v15 v16 p1993.2 p1975.2.2.2.2.2
      else
        none
    else
      nmL (x4 + 6) fun (x4_2229 : Int32) =>
      k23 x4_2229 v0 p1975.2.1 v2 p1975.2.2.1 p1975.2.2.2.1 v5 p1975.2.2.2.2.1 v7 v8 v9 v10 v11 v12 v14 v15 v16 p1993.2 p1975.2.2.2.2.2
  else
    none

def Law_2029 (L : Nat) (xs : Nat → Int32) (k23 : Int32 → GWV → HouseV → HouseV → HistV → (Nat → HouseV) → HouseV → SightV → SightV → BestV → HouseV → SightV → IntrV → ToksV → QReadV → (Nat → Int32) → (Nat → Int32) → ModelV → (Nat → Int64) → Option Unit) (x4 : Int32) (v0 : GWV) (v1 : HouseV) (v2 : HouseV) (v3 : HistV) (v4 : Nat → HouseV) (v5 : HouseV) (v6 : SightV) (v7 : SightV) (v8 : BestV) (v9 : HouseV) (v10 : SightV) (v11 : IntrV) (v12 : ToksV) (v14 : QReadV) (v15 : Nat → Int32) (v16 : Nat → Int32) (v17 : ModelV) (v19 : Nat → Int64) : Option Unit :=
  gd (inB (x4 + 1) L) <|
  Option.bind (L_change (xs (Int32.toNatClampNeg (x4 + 1))) v0 v1 v2 v3 v4 v12 v19) fun p2037 =>
  Option.bind (Mod_change (xs (Int32.toNatClampNeg (x4 + 1))) v17) fun p2049 =>
  Option.bind (Mod_thrown p2049.2) fun p2055 =>
  if p2055 = p2037.1 then
    if p2037.1 = 0 then
      gd (inB 0 1) <|
      if lg_cmp (p2037.2.2.2.2.2.2.2 (Int32.toNatClampNeg 0)) (Int32.toInt64 p2049.1) = 0 then
        nmL (x4 + 6) fun (x4_2229 : Int32) =>
        k23 x4_2229 p2037.2.1 p2037.2.2.1 p2037.2.2.2.1 p2037.2.2.2.2.1 p2037.2.2.2.2.2.1 v5 v6 v7 v8 v9 v10 v11 p2037.2.2.2.2.2.2.1 v14 v15 v16 p2049.2 p2037.2.2.2.2.2.2.2
      else
        none
    else
      nmL (x4 + 6) fun (x4_2229 : Int32) =>
      k23 x4_2229 p2037.2.1 p2037.2.2.1 p2037.2.2.2.1 p2037.2.2.2.2.1 p2037.2.2.2.2.2.1 v5 v6 v7 v8 v9 v10 v11 p2037.2.2.2.2.2.2.1 v14 v15 v16 p2049.2 p2037.2.2.2.2.2.2.2
  else
    none

def Law_2085 (L : Nat) (xs : Nat → Int32) (k23 : Int32 → GWV → HouseV → HouseV → HistV → (Nat → HouseV) → HouseV → SightV → SightV → BestV → HouseV → SightV → IntrV → ToksV → QReadV → (Nat → Int32) → (Nat → Int32) → ModelV → (Nat → Int64) → Option Unit) (x4 : Int32) (v0 : GWV) (v1 : HouseV) (v2 : HouseV) (v3 : HistV) (v4 : Nat → HouseV) (v5 : HouseV) (v6 : SightV) (v7 : SightV) (v8 : BestV) (v9 : HouseV) (v10 : SightV) (v11 : IntrV) (v12 : ToksV) (v14 : QReadV) (v15 : Nat → Int32) (v16 : Nat → Int32) (v17 : ModelV) (v19 : Nat → Int64) : Option Unit :=
  Option.bind (GW_format v0 v1 v6) fun p2086 =>
  Option.bind (Mod_format v17) fun p2090 =>
  if p2086.1 = p2090.1 then
    nmL (x4 + 6) fun (x4_2229 : Int32) =>
    k23 x4_2229 p2086.2.1 v1 v2 v3 v4 v5 p2086.2.2 v7 v8 v9 v10 v11 v12 v14 v15 v16 p2090.2 v19
  else
    none

def Law_2098 (L : Nat) (xs : Nat → Int32) (k23 : Int32 → GWV → HouseV → HouseV → HistV → (Nat → HouseV) → HouseV → SightV → SightV → BestV → HouseV → SightV → IntrV → ToksV → QReadV → (Nat → Int32) → (Nat → Int32) → ModelV → (Nat → Int64) → Option Unit) (x4 : Int32) (v0 : GWV) (v1 : HouseV) (v2 : HouseV) (v3 : HistV) (v4 : Nat → HouseV) (v5 : HouseV) (v6 : SightV) (v7 : SightV) (v8 : BestV) (v9 : HouseV) (v10 : SightV) (v11 : IntrV) (v12 : ToksV) (v14 : QReadV) (v15 : Nat → Int32) (v16 : Nat → Int32) (v17 : ModelV) (v19 : Nat → Int64) : Option Unit :=
  gd (inB (x4 + 1) L) <|
  Option.bind (GW_formattedByte (xs (Int32.toNatClampNeg (x4 + 1))) v0) fun p2105 =>
  Option.bind (Mod_formattedByte (xs (Int32.toNatClampNeg (x4 + 1))) v17) fun p2115 =>
  if p2105 = p2115.1 then
    nmL (x4 + 6) fun (x4_2229 : Int32) =>
    k23 x4_2229 v0 v1 v2 v3 v4 v5 v6 v7 v8 v9 v10 v11 v12 v14 v15 v16 p2115.2 v19
  else
    none

def Law_2123 (L : Nat) (xs : Nat → Int32) (k23 : Int32 → GWV → HouseV → HouseV → HistV → (Nat → HouseV) → HouseV → SightV → SightV → BestV → HouseV → SightV → IntrV → ToksV → QReadV → (Nat → Int32) → (Nat → Int32) → ModelV → (Nat → Int64) → Option Unit) (x4 : Int32) (v0 : GWV) (v1 : HouseV) (v2 : HouseV) (v3 : HistV) (v4 : Nat → HouseV) (v5 : HouseV) (v6 : SightV) (v7 : SightV) (v8 : BestV) (v9 : HouseV) (v10 : SightV) (v11 : IntrV) (v12 : ToksV) (v14 : QReadV) (v15 : Nat → Int32) (v16 : Nat → Int32) (v17 : ModelV) (v19 : Nat → Int64) : Option Unit :=
  Option.bind (GW_undoCount v0 v3) fun p2124 =>
  Option.bind (Mod_undoCount v17) fun p2128 =>
  if p2124 = p2128.1 then
    nmL (x4 + 6) fun (x4_2229 : Int32) =>
    k23 x4_2229 v0 v1 v2 v3 v4 v5 v6 v7 v8 v9 v10 v11 v12 v14 v15 v16 p2128.2 v19
  else
    none

def Law_2136 (L : Nat) (xs : Nat → Int32) (k23 : Int32 → GWV → HouseV → HouseV → HistV → (Nat → HouseV) → HouseV → SightV → SightV → BestV → HouseV → SightV → IntrV → ToksV → QReadV → (Nat → Int32) → (Nat → Int32) → ModelV → (Nat → Int64) → Option Unit) (x4 : Int32) (v0 : GWV) (v1 : HouseV) (v2 : HouseV) (v3 : HistV) (v4 : Nat → HouseV) (v5 : HouseV) (v6 : SightV) (v7 : SightV) (v8 : BestV) (v9 : HouseV) (v10 : SightV) (v11 : IntrV) (v12 : ToksV) (v14 : QReadV) (v15 : Nat → Int32) (v16 : Nat → Int32) (v17 : ModelV) (v19 : Nat → Int64) : Option Unit :=
  Option.bind (GW_undo v0 v1 v3 v4) fun p2137 =>
  Option.bind (Mod_undo v17) fun p2141 =>
  if p2137.1 = p2141.1 then
    nmL (x4 + 6) fun (x4_2229 : Int32) =>
    k23 x4_2229 v0 p2137.2.1 v2 p2137.2.2 v4 v5 v6 v7 v8 v9 v10 v11 v12 v14 v15 v16 p2141.2 v19
  else
    none

def Law_2149 (L : Nat) (xs : Nat → Int32) (k23 : Int32 → GWV → HouseV → HouseV → HistV → (Nat → HouseV) → HouseV → SightV → SightV → BestV → HouseV → SightV → IntrV → ToksV → QReadV → (Nat → Int32) → (Nat → Int32) → ModelV → (Nat → Int64) → Option Unit) (x4 : Int32) (v0 : GWV) (v1 : HouseV) (v2 : HouseV) (v3 : HistV) (v4 : Nat → HouseV) (v5 : HouseV) (v6 : SightV) (v7 : SightV) (v8 : BestV) (v9 : HouseV) (v10 : SightV) (v11 : IntrV) (v12 : ToksV) (v14 : QReadV) (v15 : Nat → Int32) (v16 : Nat → Int32) (v17 : ModelV) (v19 : Nat → Int64) : Option Unit :=
  Option.bind (GW_saveSnapshot v0 v1 v3 v5) fun p2150 =>
  Option.bind (Mod_saveSnapshot v17) fun p2154 =>
  nmL (x4 + 6) fun (x4_2229 : Int32) =>
  k23 x4_2229 v0 v1 v2 p2150.1 v4 p2150.2 v6 v7 v8 v9 v10 v11 v12 v14 v15 v16 p2154 v19

def Law_2160 (L : Nat) (xs : Nat → Int32) (k23 : Int32 → GWV → HouseV → HouseV → HistV → (Nat → HouseV) → HouseV → SightV → SightV → BestV → HouseV → SightV → IntrV → ToksV → QReadV → (Nat → Int32) → (Nat → Int32) → ModelV → (Nat → Int64) → Option Unit) (x4 : Int32) (v0 : GWV) (v1 : HouseV) (v2 : HouseV) (v3 : HistV) (v4 : Nat → HouseV) (v5 : HouseV) (v6 : SightV) (v7 : SightV) (v8 : BestV) (v9 : HouseV) (v10 : SightV) (v11 : IntrV) (v12 : ToksV) (v14 : QReadV) (v15 : Nat → Int32) (v16 : Nat → Int32) (v17 : ModelV) (v19 : Nat → Int64) : Option Unit :=
  Option.bind (GW_restoreSnapshot v0 v1 v3 v5) fun p2161 =>
  Option.bind (Mod_restoreSnapshot v17) fun p2165 =>
  if b2i p2161.1 = b2i p2165.1 then
    nmL (x4 + 6) fun (x4_2229 : Int32) =>
    k23 x4_2229 v0 p2161.2.1 v2 p2161.2.2 v4 v5 v6 v7 v8 v9 v10 v11 v12 v14 v15 v16 p2165.2 v19
  else
    none

def Law_2173 (L : Nat) (xs : Nat → Int32) (k23 : Int32 → GWV → HouseV → HouseV → HistV → (Nat → HouseV) → HouseV → SightV → SightV → BestV → HouseV → SightV → IntrV → ToksV → QReadV → (Nat → Int32) → (Nat → Int32) → ModelV → (Nat → Int64) → Option Unit) (x4 : Int32) (v0 : GWV) (v1 : HouseV) (v2 : HouseV) (v3 : HistV) (v4 : Nat → HouseV) (v5 : HouseV) (v6 : SightV) (v7 : SightV) (v8 : BestV) (v9 : HouseV) (v10 : SightV) (v11 : IntrV) (v12 : ToksV) (v14 : QReadV) (v15 : Nat → Int32) (v16 : Nat → Int32) (v17 : ModelV) (v19 : Nat → Int64) : Option Unit :=
  gd (inB (x4 + 1) L) <|
  Option.bind (L_query (xs (Int32.toNatClampNeg (x4 + 1))) v0 v1 v6 v12 v14 v15 v16 v19) fun p2181 =>
  Option.bind (Mod_query (xs (Int32.toNatClampNeg (x4 + 1))) v17) fun p2193 =>
  Option.bind (Mod_thrown p2193.2) fun p2199 =>
  if p2199 = p2181.1 then
    if p2181.1 = 0 then
      gd (inB 0 1) <|
      if lg_cmp (p2181.2.2.2.2.2.2.2 (Int32.toNatClampNeg 0)) (Int32.toInt64 p2193.1) = 0 then
        nmL (x4 + 6) fun (x4_2229 : Int32) =>
        k23 x4_2229 p2181.2.1 v1 v2 v3 v4 v5 p2181.2.2.1 v7 v8 v9 v10 v11 p2181.2.2.2.1 p2181.2.2.2.2.1 p2181.2.2.2.2.2.1 p2181.2.2.2.2.2.2.1 p2193.2 p2181.2.2.2.2.2.2.2
      else
        none
    else
      nmL (x4 + 6) fun (x4_2229 : Int32) =>
      k23 x4_2229 p2181.2.1 v1 v2 v3 v4 v5 p2181.2.2.1 v7 v8 v9 v10 v11 p2181.2.2.2.1 p2181.2.2.2.2.1 p2181.2.2.2.2.2.1 p2181.2.2.2.2.2.2.1 p2193.2 p2181.2.2.2.2.2.2.2
  else
    none

def Law_23 (L : Nat) (xs : Nat → Int32) : Nat → Int32 → GWV → HouseV → HouseV → HistV → (Nat → HouseV) → HouseV → SightV → SightV → BestV → HouseV → SightV → IntrV → ToksV → QReadV → (Nat → Int32) → (Nat → Int32) → ModelV → (Nat → Int64) → Option Unit
  | 0, _, _, _, _, _, _, _, _, _, _, _, _, _, _, _, _, _, _, _ => none
  | n + 1, x4, v0, v1, v2, v3, v4, v5, v6, v7, v8, v9, v10, v11, v12, v14, v15, v16, v17, v19 =>
    if (Int32.ofNat L) - 6 < x4 then
      some ()
    else
      gd (inB x4 L) <|
      if Int32.toInt ((xs (Int32.toNatClampNeg x4)) &&& 63) < 0 ∨ 39 < Int32.toInt ((xs (Int32.toNatClampNeg x4)) &&& 63) then
        nmL (x4 + 6) fun (x4_2229 : Int32) =>
        Law_23 L xs n x4_2229 v0 v1 v2 v3 v4 v5 v6 v7 v8 v9 v10 v11 v12 v14 v15 v16 v17 v19
      else if (xs (Int32.toNatClampNeg x4)) &&& 63 = 0 then
        Law_216 L xs (fun (x4 : Int32) (v0 : GWV) (v1 : HouseV) (v2 : HouseV) (v3 : HistV) (v4 : Nat → HouseV) (v5 : HouseV) (v6 : SightV) (v7 : SightV) (v8 : BestV) (v9 : HouseV) (v10 : SightV) (v11 : IntrV) (v12 : ToksV) (v14 : QReadV) (v15 : Nat → Int32) (v16 : Nat → Int32) (v17 : ModelV) (v19 : Nat → Int64) => Law_23 L xs n x4 v0 v1 v2 v3 v4 v5 v6 v7 v8 v9 v10 v11 v12 v14 v15 v16 v17 v19) x4 v0 v1 v2 v3 v4 v5 v6 v7 v8 v9 v10 v11 v12 v14 v15 v16 v17 v19
      else if (xs (Int32.toNatClampNeg x4)) &&& 63 = 1 then
        Law_289 L xs (fun (x4 : Int32) (v0 : GWV) (v1 : HouseV) (v2 : HouseV) (v3 : HistV) (v4 : Nat → HouseV) (v5 : HouseV) (v6 : SightV) (v7 : SightV) (v8 : BestV) (v9 : HouseV) (v10 : SightV) (v11 : IntrV) (v12 : ToksV) (v14 : QReadV) (v15 : Nat → Int32) (v16 : Nat → Int32) (v17 : ModelV) (v19 : Nat → Int64) => Law_23 L xs n x4 v0 v1 v2 v3 v4 v5 v6 v7 v8 v9 v10 v11 v12 v14 v15 v16 v17 v19) x4 v0 v1 v2 v3 v4 v5 v6 v7 v8 v9 v10 v11 v12 v14 v15 v16 v17 v19
      else if (xs (Int32.toNatClampNeg x4)) &&& 63 = 2 then
        Law_345 L xs (fun (x4 : Int32) (v0 : GWV) (v1 : HouseV) (v2 : HouseV) (v3 : HistV) (v4 : Nat → HouseV) (v5 : HouseV) (v6 : SightV) (v7 : SightV) (v8 : BestV) (v9 : HouseV) (v10 : SightV) (v11 : IntrV) (v12 : ToksV) (v14 : QReadV) (v15 : Nat → Int32) (v16 : Nat → Int32) (v17 : ModelV) (v19 : Nat → Int64) => Law_23 L xs n x4 v0 v1 v2 v3 v4 v5 v6 v7 v8 v9 v10 v11 v12 v14 v15 v16 v17 v19) x4 v0 v1 v2 v3 v4 v5 v6 v7 v8 v9 v10 v11 v12 v14 v15 v16 v17 v19
      else if (xs (Int32.toNatClampNeg x4)) &&& 63 = 3 then
        Law_358 L xs (fun (x4 : Int32) (v0 : GWV) (v1 : HouseV) (v2 : HouseV) (v3 : HistV) (v4 : Nat → HouseV) (v5 : HouseV) (v6 : SightV) (v7 : SightV) (v8 : BestV) (v9 : HouseV) (v10 : SightV) (v11 : IntrV) (v12 : ToksV) (v14 : QReadV) (v15 : Nat → Int32) (v16 : Nat → Int32) (v17 : ModelV) (v19 : Nat → Int64) => Law_23 L xs n x4 v0 v1 v2 v3 v4 v5 v6 v7 v8 v9 v10 v11 v12 v14 v15 v16 v17 v19) x4 v0 v1 v2 v3 v4 v5 v6 v7 v8 v9 v10 v11 v12 v14 v15 v16 v17 v19
      else if (xs (Int32.toNatClampNeg x4)) &&& 63 = 4 then
        Law_414 L xs (fun (x4 : Int32) (v0 : GWV) (v1 : HouseV) (v2 : HouseV) (v3 : HistV) (v4 : Nat → HouseV) (v5 : HouseV) (v6 : SightV) (v7 : SightV) (v8 : BestV) (v9 : HouseV) (v10 : SightV) (v11 : IntrV) (v12 : ToksV) (v14 : QReadV) (v15 : Nat → Int32) (v16 : Nat → Int32) (v17 : ModelV) (v19 : Nat → Int64) => Law_23 L xs n x4 v0 v1 v2 v3 v4 v5 v6 v7 v8 v9 v10 v11 v12 v14 v15 v16 v17 v19) x4 v0 v1 v2 v3 v4 v5 v6 v7 v8 v9 v10 v11 v12 v14 v15 v16 v17 v19
      else if (xs (Int32.toNatClampNeg x4)) &&& 63 = 5 then
        Law_482 L xs (fun (x4 : Int32) (v0 : GWV) (v1 : HouseV) (v2 : HouseV) (v3 : HistV) (v4 : Nat → HouseV) (v5 : HouseV) (v6 : SightV) (v7 : SightV) (v8 : BestV) (v9 : HouseV) (v10 : SightV) (v11 : IntrV) (v12 : ToksV) (v14 : QReadV) (v15 : Nat → Int32) (v16 : Nat → Int32) (v17 : ModelV) (v19 : Nat → Int64) => Law_23 L xs n x4 v0 v1 v2 v3 v4 v5 v6 v7 v8 v9 v10 v11 v12 v14 v15 v16 v17 v19) x4 v0 v1 v2 v3 v4 v5 v6 v7 v8 v9 v10 v11 v12 v14 v15 v16 v17 v19
      else if (xs (Int32.toNatClampNeg x4)) &&& 63 = 6 then
        Law_550 L xs (fun (x4 : Int32) (v0 : GWV) (v1 : HouseV) (v2 : HouseV) (v3 : HistV) (v4 : Nat → HouseV) (v5 : HouseV) (v6 : SightV) (v7 : SightV) (v8 : BestV) (v9 : HouseV) (v10 : SightV) (v11 : IntrV) (v12 : ToksV) (v14 : QReadV) (v15 : Nat → Int32) (v16 : Nat → Int32) (v17 : ModelV) (v19 : Nat → Int64) => Law_23 L xs n x4 v0 v1 v2 v3 v4 v5 v6 v7 v8 v9 v10 v11 v12 v14 v15 v16 v17 v19) x4 v0 v1 v2 v3 v4 v5 v6 v7 v8 v9 v10 v11 v12 v14 v15 v16 v17 v19
      else if (xs (Int32.toNatClampNeg x4)) &&& 63 = 7 then
        Law_618 L xs (fun (x4 : Int32) (v0 : GWV) (v1 : HouseV) (v2 : HouseV) (v3 : HistV) (v4 : Nat → HouseV) (v5 : HouseV) (v6 : SightV) (v7 : SightV) (v8 : BestV) (v9 : HouseV) (v10 : SightV) (v11 : IntrV) (v12 : ToksV) (v14 : QReadV) (v15 : Nat → Int32) (v16 : Nat → Int32) (v17 : ModelV) (v19 : Nat → Int64) => Law_23 L xs n x4 v0 v1 v2 v3 v4 v5 v6 v7 v8 v9 v10 v11 v12 v14 v15 v16 v17 v19) x4 v0 v1 v2 v3 v4 v5 v6 v7 v8 v9 v10 v11 v12 v14 v15 v16 v17 v19
      else if (xs (Int32.toNatClampNeg x4)) &&& 63 = 8 then
        Law_686 L xs (fun (x4 : Int32) (v0 : GWV) (v1 : HouseV) (v2 : HouseV) (v3 : HistV) (v4 : Nat → HouseV) (v5 : HouseV) (v6 : SightV) (v7 : SightV) (v8 : BestV) (v9 : HouseV) (v10 : SightV) (v11 : IntrV) (v12 : ToksV) (v14 : QReadV) (v15 : Nat → Int32) (v16 : Nat → Int32) (v17 : ModelV) (v19 : Nat → Int64) => Law_23 L xs n x4 v0 v1 v2 v3 v4 v5 v6 v7 v8 v9 v10 v11 v12 v14 v15 v16 v17 v19) x4 v0 v1 v2 v3 v4 v5 v6 v7 v8 v9 v10 v11 v12 v14 v15 v16 v17 v19
      else if (xs (Int32.toNatClampNeg x4)) &&& 63 = 9 then
        Law_754 L xs (fun (x4 : Int32) (v0 : GWV) (v1 : HouseV) (v2 : HouseV) (v3 : HistV) (v4 : Nat → HouseV) (v5 : HouseV) (v6 : SightV) (v7 : SightV) (v8 : BestV) (v9 : HouseV) (v10 : SightV) (v11 : IntrV) (v12 : ToksV) (v14 : QReadV) (v15 : Nat → Int32) (v16 : Nat → Int32) (v17 : ModelV) (v19 : Nat → Int64) => Law_23 L xs n x4 v0 v1 v2 v3 v4 v5 v6 v7 v8 v9 v10 v11 v12 v14 v15 v16 v17 v19) x4 v0 v1 v2 v3 v4 v5 v6 v7 v8 v9 v10 v11 v12 v14 v15 v16 v17 v19
      else if (xs (Int32.toNatClampNeg x4)) &&& 63 = 10 then
        Law_822 L xs (fun (x4 : Int32) (v0 : GWV) (v1 : HouseV) (v2 : HouseV) (v3 : HistV) (v4 : Nat → HouseV) (v5 : HouseV) (v6 : SightV) (v7 : SightV) (v8 : BestV) (v9 : HouseV) (v10 : SightV) (v11 : IntrV) (v12 : ToksV) (v14 : QReadV) (v15 : Nat → Int32) (v16 : Nat → Int32) (v17 : ModelV) (v19 : Nat → Int64) => Law_23 L xs n x4 v0 v1 v2 v3 v4 v5 v6 v7 v8 v9 v10 v11 v12 v14 v15 v16 v17 v19) x4 v0 v1 v2 v3 v4 v5 v6 v7 v8 v9 v10 v11 v12 v14 v15 v16 v17 v19
      else if (xs (Int32.toNatClampNeg x4)) &&& 63 = 11 then
        Law_890 L xs (fun (x4 : Int32) (v0 : GWV) (v1 : HouseV) (v2 : HouseV) (v3 : HistV) (v4 : Nat → HouseV) (v5 : HouseV) (v6 : SightV) (v7 : SightV) (v8 : BestV) (v9 : HouseV) (v10 : SightV) (v11 : IntrV) (v12 : ToksV) (v14 : QReadV) (v15 : Nat → Int32) (v16 : Nat → Int32) (v17 : ModelV) (v19 : Nat → Int64) => Law_23 L xs n x4 v0 v1 v2 v3 v4 v5 v6 v7 v8 v9 v10 v11 v12 v14 v15 v16 v17 v19) x4 v0 v1 v2 v3 v4 v5 v6 v7 v8 v9 v10 v11 v12 v14 v15 v16 v17 v19
      else if (xs (Int32.toNatClampNeg x4)) &&& 63 = 12 then
        Law_946 L xs (fun (x4 : Int32) (v0 : GWV) (v1 : HouseV) (v2 : HouseV) (v3 : HistV) (v4 : Nat → HouseV) (v5 : HouseV) (v6 : SightV) (v7 : SightV) (v8 : BestV) (v9 : HouseV) (v10 : SightV) (v11 : IntrV) (v12 : ToksV) (v14 : QReadV) (v15 : Nat → Int32) (v16 : Nat → Int32) (v17 : ModelV) (v19 : Nat → Int64) => Law_23 L xs n x4 v0 v1 v2 v3 v4 v5 v6 v7 v8 v9 v10 v11 v12 v14 v15 v16 v17 v19) x4 v0 v1 v2 v3 v4 v5 v6 v7 v8 v9 v10 v11 v12 v14 v15 v16 v17 v19
      else if (xs (Int32.toNatClampNeg x4)) &&& 63 = 13 then
        Law_1021 L xs (fun (x4 : Int32) (v0 : GWV) (v1 : HouseV) (v2 : HouseV) (v3 : HistV) (v4 : Nat → HouseV) (v5 : HouseV) (v6 : SightV) (v7 : SightV) (v8 : BestV) (v9 : HouseV) (v10 : SightV) (v11 : IntrV) (v12 : ToksV) (v14 : QReadV) (v15 : Nat → Int32) (v16 : Nat → Int32) (v17 : ModelV) (v19 : Nat → Int64) => Law_23 L xs n x4 v0 v1 v2 v3 v4 v5 v6 v7 v8 v9 v10 v11 v12 v14 v15 v16 v17 v19) x4 v0 v1 v2 v3 v4 v5 v6 v7 v8 v9 v10 v11 v12 v14 v15 v16 v17 v19
      else if (xs (Int32.toNatClampNeg x4)) &&& 63 = 14 then
        Law_1089 L xs (fun (x4 : Int32) (v0 : GWV) (v1 : HouseV) (v2 : HouseV) (v3 : HistV) (v4 : Nat → HouseV) (v5 : HouseV) (v6 : SightV) (v7 : SightV) (v8 : BestV) (v9 : HouseV) (v10 : SightV) (v11 : IntrV) (v12 : ToksV) (v14 : QReadV) (v15 : Nat → Int32) (v16 : Nat → Int32) (v17 : ModelV) (v19 : Nat → Int64) => Law_23 L xs n x4 v0 v1 v2 v3 v4 v5 v6 v7 v8 v9 v10 v11 v12 v14 v15 v16 v17 v19) x4 v0 v1 v2 v3 v4 v5 v6 v7 v8 v9 v10 v11 v12 v14 v15 v16 v17 v19
      else if (xs (Int32.toNatClampNeg x4)) &&& 63 = 15 then
        Law_1157 L xs (fun (x4 : Int32) (v0 : GWV) (v1 : HouseV) (v2 : HouseV) (v3 : HistV) (v4 : Nat → HouseV) (v5 : HouseV) (v6 : SightV) (v7 : SightV) (v8 : BestV) (v9 : HouseV) (v10 : SightV) (v11 : IntrV) (v12 : ToksV) (v14 : QReadV) (v15 : Nat → Int32) (v16 : Nat → Int32) (v17 : ModelV) (v19 : Nat → Int64) => Law_23 L xs n x4 v0 v1 v2 v3 v4 v5 v6 v7 v8 v9 v10 v11 v12 v14 v15 v16 v17 v19) x4 v0 v1 v2 v3 v4 v5 v6 v7 v8 v9 v10 v11 v12 v14 v15 v16 v17 v19
      else if (xs (Int32.toNatClampNeg x4)) &&& 63 = 16 then
        Law_1225 L xs (fun (x4 : Int32) (v0 : GWV) (v1 : HouseV) (v2 : HouseV) (v3 : HistV) (v4 : Nat → HouseV) (v5 : HouseV) (v6 : SightV) (v7 : SightV) (v8 : BestV) (v9 : HouseV) (v10 : SightV) (v11 : IntrV) (v12 : ToksV) (v14 : QReadV) (v15 : Nat → Int32) (v16 : Nat → Int32) (v17 : ModelV) (v19 : Nat → Int64) => Law_23 L xs n x4 v0 v1 v2 v3 v4 v5 v6 v7 v8 v9 v10 v11 v12 v14 v15 v16 v17 v19) x4 v0 v1 v2 v3 v4 v5 v6 v7 v8 v9 v10 v11 v12 v14 v15 v16 v17 v19
      else if (xs (Int32.toNatClampNeg x4)) &&& 63 = 17 then
        Law_1305 L xs (fun (x4 : Int32) (v0 : GWV) (v1 : HouseV) (v2 : HouseV) (v3 : HistV) (v4 : Nat → HouseV) (v5 : HouseV) (v6 : SightV) (v7 : SightV) (v8 : BestV) (v9 : HouseV) (v10 : SightV) (v11 : IntrV) (v12 : ToksV) (v14 : QReadV) (v15 : Nat → Int32) (v16 : Nat → Int32) (v17 : ModelV) (v19 : Nat → Int64) => Law_23 L xs n x4 v0 v1 v2 v3 v4 v5 v6 v7 v8 v9 v10 v11 v12 v14 v15 v16 v17 v19) x4 v0 v1 v2 v3 v4 v5 v6 v7 v8 v9 v10 v11 v12 v14 v15 v16 v17 v19
      else if (xs (Int32.toNatClampNeg x4)) &&& 63 = 18 then
        Law_1373 L xs (fun (x4 : Int32) (v0 : GWV) (v1 : HouseV) (v2 : HouseV) (v3 : HistV) (v4 : Nat → HouseV) (v5 : HouseV) (v6 : SightV) (v7 : SightV) (v8 : BestV) (v9 : HouseV) (v10 : SightV) (v11 : IntrV) (v12 : ToksV) (v14 : QReadV) (v15 : Nat → Int32) (v16 : Nat → Int32) (v17 : ModelV) (v19 : Nat → Int64) => Law_23 L xs n x4 v0 v1 v2 v3 v4 v5 v6 v7 v8 v9 v10 v11 v12 v14 v15 v16 v17 v19) x4 v0 v1 v2 v3 v4 v5 v6 v7 v8 v9 v10 v11 v12 v14 v15 v16 v17 v19
      else if (xs (Int32.toNatClampNeg x4)) &&& 63 = 19 then
        Law_1386 L xs (fun (x4 : Int32) (v0 : GWV) (v1 : HouseV) (v2 : HouseV) (v3 : HistV) (v4 : Nat → HouseV) (v5 : HouseV) (v6 : SightV) (v7 : SightV) (v8 : BestV) (v9 : HouseV) (v10 : SightV) (v11 : IntrV) (v12 : ToksV) (v14 : QReadV) (v15 : Nat → Int32) (v16 : Nat → Int32) (v17 : ModelV) (v19 : Nat → Int64) => Law_23 L xs n x4 v0 v1 v2 v3 v4 v5 v6 v7 v8 v9 v10 v11 v12 v14 v15 v16 v17 v19) x4 v0 v1 v2 v3 v4 v5 v6 v7 v8 v9 v10 v11 v12 v14 v15 v16 v17 v19
      else if (xs (Int32.toNatClampNeg x4)) &&& 63 = 20 then
        Law_1399 L xs (fun (x4 : Int32) (v0 : GWV) (v1 : HouseV) (v2 : HouseV) (v3 : HistV) (v4 : Nat → HouseV) (v5 : HouseV) (v6 : SightV) (v7 : SightV) (v8 : BestV) (v9 : HouseV) (v10 : SightV) (v11 : IntrV) (v12 : ToksV) (v14 : QReadV) (v15 : Nat → Int32) (v16 : Nat → Int32) (v17 : ModelV) (v19 : Nat → Int64) => Law_23 L xs n x4 v0 v1 v2 v3 v4 v5 v6 v7 v8 v9 v10 v11 v12 v14 v15 v16 v17 v19) x4 v0 v1 v2 v3 v4 v5 v6 v7 v8 v9 v10 v11 v12 v14 v15 v16 v17 v19
      else if (xs (Int32.toNatClampNeg x4)) &&& 63 = 21 then
        Law_1455 L xs (fun (x4 : Int32) (v0 : GWV) (v1 : HouseV) (v2 : HouseV) (v3 : HistV) (v4 : Nat → HouseV) (v5 : HouseV) (v6 : SightV) (v7 : SightV) (v8 : BestV) (v9 : HouseV) (v10 : SightV) (v11 : IntrV) (v12 : ToksV) (v14 : QReadV) (v15 : Nat → Int32) (v16 : Nat → Int32) (v17 : ModelV) (v19 : Nat → Int64) => Law_23 L xs n x4 v0 v1 v2 v3 v4 v5 v6 v7 v8 v9 v10 v11 v12 v14 v15 v16 v17 v19) x4 v0 v1 v2 v3 v4 v5 v6 v7 v8 v9 v10 v11 v12 v14 v15 v16 v17 v19
      else if (xs (Int32.toNatClampNeg x4)) &&& 63 = 22 then
        Law_1535 L xs (fun (x4 : Int32) (v0 : GWV) (v1 : HouseV) (v2 : HouseV) (v3 : HistV) (v4 : Nat → HouseV) (v5 : HouseV) (v6 : SightV) (v7 : SightV) (v8 : BestV) (v9 : HouseV) (v10 : SightV) (v11 : IntrV) (v12 : ToksV) (v14 : QReadV) (v15 : Nat → Int32) (v16 : Nat → Int32) (v17 : ModelV) (v19 : Nat → Int64) => Law_23 L xs n x4 v0 v1 v2 v3 v4 v5 v6 v7 v8 v9 v10 v11 v12 v14 v15 v16 v17 v19) x4 v0 v1 v2 v3 v4 v5 v6 v7 v8 v9 v10 v11 v12 v14 v15 v16 v17 v19
      else if (xs (Int32.toNatClampNeg x4)) &&& 63 = 23 then
        Law_1615 L xs (fun (x4 : Int32) (v0 : GWV) (v1 : HouseV) (v2 : HouseV) (v3 : HistV) (v4 : Nat → HouseV) (v5 : HouseV) (v6 : SightV) (v7 : SightV) (v8 : BestV) (v9 : HouseV) (v10 : SightV) (v11 : IntrV) (v12 : ToksV) (v14 : QReadV) (v15 : Nat → Int32) (v16 : Nat → Int32) (v17 : ModelV) (v19 : Nat → Int64) => Law_23 L xs n x4 v0 v1 v2 v3 v4 v5 v6 v7 v8 v9 v10 v11 v12 v14 v15 v16 v17 v19) x4 v0 v1 v2 v3 v4 v5 v6 v7 v8 v9 v10 v11 v12 v14 v15 v16 v17 v19
      else if (xs (Int32.toNatClampNeg x4)) &&& 63 = 24 then
        Law_1628 L xs (fun (x4 : Int32) (v0 : GWV) (v1 : HouseV) (v2 : HouseV) (v3 : HistV) (v4 : Nat → HouseV) (v5 : HouseV) (v6 : SightV) (v7 : SightV) (v8 : BestV) (v9 : HouseV) (v10 : SightV) (v11 : IntrV) (v12 : ToksV) (v14 : QReadV) (v15 : Nat → Int32) (v16 : Nat → Int32) (v17 : ModelV) (v19 : Nat → Int64) => Law_23 L xs n x4 v0 v1 v2 v3 v4 v5 v6 v7 v8 v9 v10 v11 v12 v14 v15 v16 v17 v19) x4 v0 v1 v2 v3 v4 v5 v6 v7 v8 v9 v10 v11 v12 v14 v15 v16 v17 v19
      else if (xs (Int32.toNatClampNeg x4)) &&& 63 = 25 then
        Law_1669 L xs (fun (x4 : Int32) (v0 : GWV) (v1 : HouseV) (v2 : HouseV) (v3 : HistV) (v4 : Nat → HouseV) (v5 : HouseV) (v6 : SightV) (v7 : SightV) (v8 : BestV) (v9 : HouseV) (v10 : SightV) (v11 : IntrV) (v12 : ToksV) (v14 : QReadV) (v15 : Nat → Int32) (v16 : Nat → Int32) (v17 : ModelV) (v19 : Nat → Int64) => Law_23 L xs n x4 v0 v1 v2 v3 v4 v5 v6 v7 v8 v9 v10 v11 v12 v14 v15 v16 v17 v19) x4 v0 v1 v2 v3 v4 v5 v6 v7 v8 v9 v10 v11 v12 v14 v15 v16 v17 v19
      else if (xs (Int32.toNatClampNeg x4)) &&& 63 = 26 then
        Law_1712 L xs (fun (x4 : Int32) (v0 : GWV) (v1 : HouseV) (v2 : HouseV) (v3 : HistV) (v4 : Nat → HouseV) (v5 : HouseV) (v6 : SightV) (v7 : SightV) (v8 : BestV) (v9 : HouseV) (v10 : SightV) (v11 : IntrV) (v12 : ToksV) (v14 : QReadV) (v15 : Nat → Int32) (v16 : Nat → Int32) (v17 : ModelV) (v19 : Nat → Int64) => Law_23 L xs n x4 v0 v1 v2 v3 v4 v5 v6 v7 v8 v9 v10 v11 v12 v14 v15 v16 v17 v19) x4 v0 v1 v2 v3 v4 v5 v6 v7 v8 v9 v10 v11 v12 v14 v15 v16 v17 v19
      else if (xs (Int32.toNatClampNeg x4)) &&& 63 = 27 then
        Law_1768 L xs (fun (x4 : Int32) (v0 : GWV) (v1 : HouseV) (v2 : HouseV) (v3 : HistV) (v4 : Nat → HouseV) (v5 : HouseV) (v6 : SightV) (v7 : SightV) (v8 : BestV) (v9 : HouseV) (v10 : SightV) (v11 : IntrV) (v12 : ToksV) (v14 : QReadV) (v15 : Nat → Int32) (v16 : Nat → Int32) (v17 : ModelV) (v19 : Nat → Int64) => Law_23 L xs n x4 v0 v1 v2 v3 v4 v5 v6 v7 v8 v9 v10 v11 v12 v14 v15 v16 v17 v19) x4 v0 v1 v2 v3 v4 v5 v6 v7 v8 v9 v10 v11 v12 v14 v15 v16 v17 v19
      else if (xs (Int32.toNatClampNeg x4)) &&& 63 = 28 then
        Law_1836 L xs (fun (x4 : Int32) (v0 : GWV) (v1 : HouseV) (v2 : HouseV) (v3 : HistV) (v4 : Nat → HouseV) (v5 : HouseV) (v6 : SightV) (v7 : SightV) (v8 : BestV) (v9 : HouseV) (v10 : SightV) (v11 : IntrV) (v12 : ToksV) (v14 : QReadV) (v15 : Nat → Int32) (v16 : Nat → Int32) (v17 : ModelV) (v19 : Nat → Int64) => Law_23 L xs n x4 v0 v1 v2 v3 v4 v5 v6 v7 v8 v9 v10 v11 v12 v14 v15 v16 v17 v19) x4 v0 v1 v2 v3 v4 v5 v6 v7 v8 v9 v10 v11 v12 v14 v15 v16 v17 v19
      else if (xs (Int32.toNatClampNeg x4)) &&& 63 = 29 then
        Law_1849 L xs (fun (x4 : Int32) (v0 : GWV) (v1 : HouseV) (v2 : HouseV) (v3 : HistV) (v4 : Nat → HouseV) (v5 : HouseV) (v6 : SightV) (v7 : SightV) (v8 : BestV) (v9 : HouseV) (v10 : SightV) (v11 : IntrV) (v12 : ToksV) (v14 : QReadV) (v15 : Nat → Int32) (v16 : Nat → Int32) (v17 : ModelV) (v19 : Nat → Int64) => Law_23 L xs n x4 v0 v1 v2 v3 v4 v5 v6 v7 v8 v9 v10 v11 v12 v14 v15 v16 v17 v19) x4 v0 v1 v2 v3 v4 v5 v6 v7 v8 v9 v10 v11 v12 v14 v15 v16 v17 v19
      else if (xs (Int32.toNatClampNeg x4)) &&& 63 = 30 then
        Law_1905 L xs (fun (x4 : Int32) (v0 : GWV) (v1 : HouseV) (v2 : HouseV) (v3 : HistV) (v4 : Nat → HouseV) (v5 : HouseV) (v6 : SightV) (v7 : SightV) (v8 : BestV) (v9 : HouseV) (v10 : SightV) (v11 : IntrV) (v12 : ToksV) (v14 : QReadV) (v15 : Nat → Int32) (v16 : Nat → Int32) (v17 : ModelV) (v19 : Nat → Int64) => Law_23 L xs n x4 v0 v1 v2 v3 v4 v5 v6 v7 v8 v9 v10 v11 v12 v14 v15 v16 v17 v19) x4 v0 v1 v2 v3 v4 v5 v6 v7 v8 v9 v10 v11 v12 v14 v15 v16 v17 v19
      else if (xs (Int32.toNatClampNeg x4)) &&& 63 = 31 then
        Law_1961 L xs (fun (x4 : Int32) (v0 : GWV) (v1 : HouseV) (v2 : HouseV) (v3 : HistV) (v4 : Nat → HouseV) (v5 : HouseV) (v6 : SightV) (v7 : SightV) (v8 : BestV) (v9 : HouseV) (v10 : SightV) (v11 : IntrV) (v12 : ToksV) (v14 : QReadV) (v15 : Nat → Int32) (v16 : Nat → Int32) (v17 : ModelV) (v19 : Nat → Int64) => Law_23 L xs n x4 v0 v1 v2 v3 v4 v5 v6 v7 v8 v9 v10 v11 v12 v14 v15 v16 v17 v19) x4 v0 v1 v2 v3 v4 v5 v6 v7 v8 v9 v10 v11 v12 v14 v15 v16 v17 v19
      else if (xs (Int32.toNatClampNeg x4)) &&& 63 = 32 then
        Law_2029 L xs (fun (x4 : Int32) (v0 : GWV) (v1 : HouseV) (v2 : HouseV) (v3 : HistV) (v4 : Nat → HouseV) (v5 : HouseV) (v6 : SightV) (v7 : SightV) (v8 : BestV) (v9 : HouseV) (v10 : SightV) (v11 : IntrV) (v12 : ToksV) (v14 : QReadV) (v15 : Nat → Int32) (v16 : Nat → Int32) (v17 : ModelV) (v19 : Nat → Int64) => Law_23 L xs n x4 v0 v1 v2 v3 v4 v5 v6 v7 v8 v9 v10 v11 v12 v14 v15 v16 v17 v19) x4 v0 v1 v2 v3 v4 v5 v6 v7 v8 v9 v10 v11 v12 v14 v15 v16 v17 v19
      else if (xs (Int32.toNatClampNeg x4)) &&& 63 = 33 then
        Law_2085 L xs (fun (x4 : Int32) (v0 : GWV) (v1 : HouseV) (v2 : HouseV) (v3 : HistV) (v4 : Nat → HouseV) (v5 : HouseV) (v6 : SightV) (v7 : SightV) (v8 : BestV) (v9 : HouseV) (v10 : SightV) (v11 : IntrV) (v12 : ToksV) (v14 : QReadV) (v15 : Nat → Int32) (v16 : Nat → Int32) (v17 : ModelV) (v19 : Nat → Int64) => Law_23 L xs n x4 v0 v1 v2 v3 v4 v5 v6 v7 v8 v9 v10 v11 v12 v14 v15 v16 v17 v19) x4 v0 v1 v2 v3 v4 v5 v6 v7 v8 v9 v10 v11 v12 v14 v15 v16 v17 v19
      else if (xs (Int32.toNatClampNeg x4)) &&& 63 = 34 then
        Law_2098 L xs (fun (x4 : Int32) (v0 : GWV) (v1 : HouseV) (v2 : HouseV) (v3 : HistV) (v4 : Nat → HouseV) (v5 : HouseV) (v6 : SightV) (v7 : SightV) (v8 : BestV) (v9 : HouseV) (v10 : SightV) (v11 : IntrV) (v12 : ToksV) (v14 : QReadV) (v15 : Nat → Int32) (v16 : Nat → Int32) (v17 : ModelV) (v19 : Nat → Int64) => Law_23 L xs n x4 v0 v1 v2 v3 v4 v5 v6 v7 v8 v9 v10 v11 v12 v14 v15 v16 v17 v19) x4 v0 v1 v2 v3 v4 v5 v6 v7 v8 v9 v10 v11 v12 v14 v15 v16 v17 v19
      else if (xs (Int32.toNatClampNeg x4)) &&& 63 = 35 then
        Law_2123 L xs (fun (x4 : Int32) (v0 : GWV) (v1 : HouseV) (v2 : HouseV) (v3 : HistV) (v4 : Nat → HouseV) (v5 : HouseV) (v6 : SightV) (v7 : SightV) (v8 : BestV) (v9 : HouseV) (v10 : SightV) (v11 : IntrV) (v12 : ToksV) (v14 : QReadV) (v15 : Nat → Int32) (v16 : Nat → Int32) (v17 : ModelV) (v19 : Nat → Int64) => Law_23 L xs n x4 v0 v1 v2 v3 v4 v5 v6 v7 v8 v9 v10 v11 v12 v14 v15 v16 v17 v19) x4 v0 v1 v2 v3 v4 v5 v6 v7 v8 v9 v10 v11 v12 v14 v15 v16 v17 v19
      else if (xs (Int32.toNatClampNeg x4)) &&& 63 = 36 then
        Law_2136 L xs (fun (x4 : Int32) (v0 : GWV) (v1 : HouseV) (v2 : HouseV) (v3 : HistV) (v4 : Nat → HouseV) (v5 : HouseV) (v6 : SightV) (v7 : SightV) (v8 : BestV) (v9 : HouseV) (v10 : SightV) (v11 : IntrV) (v12 : ToksV) (v14 : QReadV) (v15 : Nat → Int32) (v16 : Nat → Int32) (v17 : ModelV) (v19 : Nat → Int64) => Law_23 L xs n x4 v0 v1 v2 v3 v4 v5 v6 v7 v8 v9 v10 v11 v12 v14 v15 v16 v17 v19) x4 v0 v1 v2 v3 v4 v5 v6 v7 v8 v9 v10 v11 v12 v14 v15 v16 v17 v19
      else if (xs (Int32.toNatClampNeg x4)) &&& 63 = 37 then
        Law_2149 L xs (fun (x4 : Int32) (v0 : GWV) (v1 : HouseV) (v2 : HouseV) (v3 : HistV) (v4 : Nat → HouseV) (v5 : HouseV) (v6 : SightV) (v7 : SightV) (v8 : BestV) (v9 : HouseV) (v10 : SightV) (v11 : IntrV) (v12 : ToksV) (v14 : QReadV) (v15 : Nat → Int32) (v16 : Nat → Int32) (v17 : ModelV) (v19 : Nat → Int64) => Law_23 L xs n x4 v0 v1 v2 v3 v4 v5 v6 v7 v8 v9 v10 v11 v12 v14 v15 v16 v17 v19) x4 v0 v1 v2 v3 v4 v5 v6 v7 v8 v9 v10 v11 v12 v14 v15 v16 v17 v19
      else if (xs (Int32.toNatClampNeg x4)) &&& 63 = 38 then
        Law_2160 L xs (fun (x4 : Int32) (v0 : GWV) (v1 : HouseV) (v2 : HouseV) (v3 : HistV) (v4 : Nat → HouseV) (v5 : HouseV) (v6 : SightV) (v7 : SightV) (v8 : BestV) (v9 : HouseV) (v10 : SightV) (v11 : IntrV) (v12 : ToksV) (v14 : QReadV) (v15 : Nat → Int32) (v16 : Nat → Int32) (v17 : ModelV) (v19 : Nat → Int64) => Law_23 L xs n x4 v0 v1 v2 v3 v4 v5 v6 v7 v8 v9 v10 v11 v12 v14 v15 v16 v17 v19) x4 v0 v1 v2 v3 v4 v5 v6 v7 v8 v9 v10 v11 v12 v14 v15 v16 v17 v19
      else if (xs (Int32.toNatClampNeg x4)) &&& 63 = 39 then
        Law_2173 L xs (fun (x4 : Int32) (v0 : GWV) (v1 : HouseV) (v2 : HouseV) (v3 : HistV) (v4 : Nat → HouseV) (v5 : HouseV) (v6 : SightV) (v7 : SightV) (v8 : BestV) (v9 : HouseV) (v10 : SightV) (v11 : IntrV) (v12 : ToksV) (v14 : QReadV) (v15 : Nat → Int32) (v16 : Nat → Int32) (v17 : ModelV) (v19 : Nat → Int64) => Law_23 L xs n x4 v0 v1 v2 v3 v4 v5 v6 v7 v8 v9 v10 v11 v12 v14 v15 v16 v17 v19) x4 v0 v1 v2 v3 v4 v5 v6 v7 v8 v9 v10 v11 v12 v14 v15 v16 v17 v19
      else none

