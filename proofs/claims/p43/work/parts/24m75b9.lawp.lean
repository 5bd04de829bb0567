def N_law_397 (L : Nat) (xs : Nat → Int32)  (k235 : Int32 → Int32 → GWV → BestV → HouseV → SightV → HistV → (Nat → HouseV) → HouseV → HouseV → ToksV → IntrV → QReadV → (Nat → Int32) → (Nat → Int32) → HouseV → SightV → SightV → (Nat → Int32) → OwnV → Nat → RowsT → (Nat → Int32) → Nat → RowsT → Nat → RowsT → (Nat → Int64) → Nat → Nat → Option Unit) (x4 : Int64) (x7 : Int32) (x8 : Int32) (w0 : GWV) (w1 : BestV) (w2 : HouseV) (w3 : SightV) (w4 : HistV) (w5 : Nat → HouseV) (w6 : HouseV) (w7 : HouseV) (w9 : ToksV) (w10 : IntrV) (w11 : QReadV) (w12 : Nat → Int32) (w13 : Nat → Int32) (w14 : HouseV) (w15 : SightV) (w16 : SightV) (w17 : Nat → Int32) (w18 : OwnV) (w19 : Nat) (w20 : RowsT) (w21 : Nat → Int32) (w22 : Nat) (w23 : RowsT) (w24 : Nat) (w25 : RowsT) (w26 : Nat → Int64) (c : Nat) (s : Nat) : Option Unit :=
  gd (nz 2) <|
  if x8 - x8 / 2 * 2 = 0 then
    if 10 ≤ x7 then
      nmL (x8 + 1) fun (x8_420 : Int32) =>
      k235 x7 x8_420 w0 w1 w2 w3 w4 w5 w6 w7 w9 w10 w11 w12 w13 w14 w15 w16 w17 w18 w19 w20 w21 w22 w23 w24 w25 w26 c s
    else
      gd (decide (c + 3 ≤ 600000 ∧ s + 36 ≤ 1300000)) <|
      Option.bind (L_isPassed w0 w7 w4 w5 w15) fun p412 =>
      bif p412.1 then
        nmL (x8 + 1) fun (x8_420 : Int32) =>
        k235 x7 x8_420 w0 w1 w2 w3 p412.2.2.1 p412.2.2.2.1 w6 p412.2.1 w9 w10 w11 w12 w13 w14 p412.2.2.2.2 w16 w17 w18 w19 w20 w21 w22 w23 w24 w25 w26 (c + 3) (s + 36)
      else
        none
  else
    nmL (x8 + 1) fun (x8_420 : Int32) =>
    k235 x7 x8_420 w0 w1 w2 w3 w4 w5 w6 w7 w9 w10 w11 w12 w13 w14 w15 w16 w17 w18 w19 w20 w21 w22 w23 w24 w25 w26 c s

def N_law_347 (L : Nat) (xs : Nat → Int32)  (k235 : Int32 → Int32 → GWV → BestV → HouseV → SightV → HistV → (Nat → HouseV) → HouseV → HouseV → ToksV → IntrV → QReadV → (Nat → Int32) → (Nat → Int32) → HouseV → SightV → SightV → (Nat → Int32) → OwnV → Nat → RowsT → (Nat → Int32) → Nat → RowsT → Nat → RowsT → (Nat → Int64) → Nat → Nat → Option Unit) (x4 : Int64) (x7 : Int32) (x8 : Int32) (x9 : Int32) (x10 : Int64) (w0 : GWV) (w1 : BestV) (w2 : HouseV) (w3 : SightV) (w4 : HistV) (w5 : Nat → HouseV) (w6 : HouseV) (w7 : HouseV) (w9 : ToksV) (w10 : IntrV) (w11 : QReadV) (w12 : Nat → Int32) (w13 : Nat → Int32) (w14 : HouseV) (w15 : SightV) (w16 : SightV) (w17 : Nat → Int32) (w18 : OwnV) (w19 : Nat) (w20 : RowsT) (w21 : Nat → Int32) (w22 : Nat) (w23 : RowsT) (w24 : Nat) (w25 : RowsT) (w26 : Nat → Int64) (c : Nat) (s : Nat) : Option Unit :=
  nmL (x7 + 1) fun (x7_351 : Int32) =>
  gd (inB x7 10) <|
  nmL (vp_updL w26 (Int32.toNatClampNeg x7) x10) fun (v26_356 : Nat → Int64) =>
  Option.bind (GW_undoCount w0 w4) fun p358 =>
  if p358 = x7_351 then
    Option.bind (L_isSound x9 w0 w7 w15 w10) fun p369 =>
    bif p369.1 then
      gd (nz 3) <|
      if x8 - x8 / 3 * 3 = 1 then
        if 9 ≤ x7_351 then
          N_law_397 L xs k235 x4 x7_351 x8 w0 w1 w2 w3 w4 w5 w6 w7 w9 p369.2.2 w11 w12 w13 w14 p369.2.1 w16 w17 w18 w19 w20 w21 w22 w23 w24 w25 v26_356 c s
        else
          Option.bind (L_isBest w0 w7 w14 w4 w5 p369.2.1 w16 w1 w2 w3) fun p391 =>
          bif p391.1 then
            N_law_397 L xs k235 x4 x7_351 x8 p391.2.1 p391.2.2.2.2.2.2.2.2.1 p391.2.2.2.2.2.2.2.2.2.1 p391.2.2.2.2.2.2.2.2.2.2 p391.2.2.2.2.1 p391.2.2.2.2.2.1 w6 p391.2.2.1 w9 p369.2.2 w11 w12 w13 p391.2.2.2.1 p391.2.2.2.2.2.2.1 p391.2.2.2.2.2.2.2.1 w17 w18 w19 w20 w21 w22 w23 w24 w25 v26_356 c s
          else
            none
      else
        N_law_397 L xs k235 x4 x7_351 x8 w0 w1 w2 w3 w4 w5 w6 w7 w9 p369.2.2 w11 w12 w13 w14 p369.2.1 w16 w17 w18 w19 w20 w21 w22 w23 w24 w25 v26_356 c s
    else
      none
  else
    none

def N_law_319 (L : Nat) (xs : Nat → Int32) (x4 : Int64) (x7 : Int32) (x8 : Int32) (x9 : Int32) (x10 : Int64) (k235 : Int32 → Int32 → GWV → BestV → HouseV → SightV → HistV → (Nat → HouseV) → HouseV → HouseV → ToksV → IntrV → QReadV → (Nat → Int32) → (Nat → Int32) → HouseV → SightV → SightV → (Nat → Int32) → OwnV → Nat → RowsT → (Nat → Int32) → Nat → RowsT → Nat → RowsT → (Nat → Int64) → Nat → Nat → Option Unit) : Nat → Int32 → GWV → BestV → HouseV → SightV → HistV → (Nat → HouseV) → HouseV → HouseV → ToksV → IntrV → QReadV → (Nat → Int32) → (Nat → Int32) → HouseV → SightV → SightV → (Nat → Int32) → OwnV → Nat → RowsT → (Nat → Int32) → Nat → RowsT → Nat → RowsT → (Nat → Int64) → Nat → Nat → Option Unit
  | 0, _, _, _, _, _, _, _, _, _, _, _, _, _, _, _, _, _, _, _, _, _, _, _, _, _, _, _, _, _ => none
  | n + 1, x13, w0, w1, w2, w3, w4, w5, w6, w7, w9, w10, w11, w12, w13, w14, w15, w16, w17, w18, w19, w20, w21, w22, w23, w24, w25, w26, c, s =>
    if 10 ≤ x13 then
      nmL (x7 + (-1)) fun (x7_344 : Int32) =>
      N_law_347 L xs k235 x4 x7_344 x8 x9 x10 w0 w1 w2 w3 w4 w5 w6 w7 w9 w10 w11 w12 w13 w14 w15 w16 w17 w18 w19 w20 w21 w22 w23 w24 w25 w26 c s
    else
      gd (inB x13 10) <|
      gd (inB (x13 - 1) 10) <|
      nmL (vp_updL w26 (Int32.toNatClampNeg (x13 - 1)) (w26 (Int32.toNatClampNeg x13))) fun (v26_337 : Nat → Int64) =>
      nmL (x13 + 1) fun (x13_338 : Int32) =>
      N_law_319 L xs x4 x7 x8 x9 x10 k235 n x13_338 w0 w1 w2 w3 w4 w5 w6 w7 w9 w10 w11 w12 w13 w14 w15 w16 w17 w18 w19 w20 w21 w22 w23 w24 w25 v26_337 c s

def N_law_301 (L : Nat) (xs : Nat → Int32)  (k235 : Int32 → Int32 → GWV → BestV → HouseV → SightV → HistV → (Nat → HouseV) → HouseV → HouseV → ToksV → IntrV → QReadV → (Nat → Int32) → (Nat → Int32) → HouseV → SightV → SightV → (Nat → Int32) → OwnV → Nat → RowsT → (Nat → Int32) → Nat → RowsT → Nat → RowsT → (Nat → Int64) → Nat → Nat → Option Unit) (x4 : Int64) (x7 : Int32) (x8 : Int32) (x9 : Int32) (x10 : Int64) (x12 : Int32) (w0 : GWV) (w1 : BestV) (w2 : HouseV) (w3 : SightV) (w4 : HistV) (w5 : Nat → HouseV) (w6 : HouseV) (w7 : HouseV) (w9 : ToksV) (w10 : IntrV) (w11 : QReadV) (w12 : Nat → Int32) (w13 : Nat → Int32) (w14 : HouseV) (w15 : SightV) (w16 : SightV) (w17 : Nat → Int32) (w18 : OwnV) (w19 : Nat) (w20 : RowsT) (w21 : Nat → Int32) (w22 : Nat) (w23 : RowsT) (w24 : Nat) (w25 : RowsT) (w26 : Nat → Int64) (c : Nat) (s : Nat) : Option Unit :=
  if x12 = 0 then
    nmL (x8 + 1) fun (x8_420 : Int32) =>
    k235 x7 x8_420 w0 w1 w2 w3 w4 w5 w6 w7 w9 w10 w11 w12 w13 w14 w15 w16 w17 w18 w19 w20 w21 w22 w23 w24 w25 w26 c s
  else
    if x7 = 10 then
      N_law_319 L xs x4 x7 x8 x9 x10 k235 FU 1 w0 w1 w2 w3 w4 w5 w6 w7 w9 w10 w11 w12 w13 w14 w15 w16 w17 w18 w19 w20 w21 w22 w23 w24 w25 w26 c s
    else
      N_law_347 L xs k235 x4 x7 x8 x9 x10 w0 w1 w2 w3 w4 w5 w6 w7 w9 w10 w11 w12 w13 w14 w15 w16 w17 w18 w19 w20 w21 w22 w23 w24 w25 w26 c s

def N_law_432 (L : Nat) (xs : Nat → Int32) (x4 : Int64) : Nat → Int32 → GWV → BestV → HouseV → SightV → HistV → (Nat → HouseV) → HouseV → HouseV → ToksV → IntrV → QReadV → (Nat → Int32) → (Nat → Int32) → HouseV → SightV → SightV → (Nat → Int64) → Nat → Nat → Option Unit
  | 0, _, _, _, _, _, _, _, _, _, _, _, _, _, _, _, _, _, _, _, _ => none
  | n + 1, x8, w0, w1, w2, w3, w4, w5, w6, w7, w9, w10, w11, w12, w13, w14, w15, w16, w17, c, s =>
    if x8 < 0 then
      Option.bind (GW_undo w0 w7 w4 w5) fun p468 =>
      if p468.1 = (-1) then
        Option.bind (L_isBest w0 p468.2.1 w14 p468.2.2 w5 w15 w16 w1 w2 w3) fun p476 =>
        bif p476.1 then
          gd (decide (c + 3 ≤ 600000 ∧ s + 36 ≤ 1300000)) <|
          Option.bind (L_isPassed p476.2.1 p476.2.2.1 p476.2.2.2.2.1 p476.2.2.2.2.2.1 p476.2.2.2.2.2.2.1) fun p483 =>
          bif p483.1 then
            Option.bind (L_isSound 5 p476.2.1 p483.2.1 p483.2.2.2.2 w10) fun p493 =>
            bif p493.1 then
              Option.bind (GW_restoreSnapshot p476.2.1 p483.2.1 p483.2.2.1 w6) fun p500 =>
              bif p500.1 then
                Option.bind (L_all p476.2.1 p500.2.1 p493.2.1) fun p507 =>
                if lg_cmp p507.1 x4 = 0 then
                  Option.bind (GW_undoCount p476.2.1 p500.2.2) fun p517 =>
                  if p517 = 0 then
                    some ()
                  else
                    none
                else
                  none
              else
                none
            else
              none
          else
            none
        else
          none
      else
        none
    else
      Option.bind (GW_undo w0 w7 w4 w5) fun p438 =>
      if p438.1 = x8 then
        Option.bind (L_all w0 p438.2.1 w15) fun p447 =>
        gd (inB x8 10) <|
        if lg_cmp p447.1 (w17 (Int32.toNatClampNeg x8)) = 0 then
          nmL (x8 + (-1)) fun (x8_461 : Int32) =>
          N_law_432 L xs x4 n x8_461 w0 w1 w2 w3 p438.2.2 w5 w6 p438.2.1 w9 w10 w11 w12 w13 w14 p447.2 w16 w17 c s
        else
          none
      else
        none

def N_law_235 (L : Nat) (xs : Nat → Int32) (x4 : Int64) : Nat → Int32 → Int32 → GWV → BestV → HouseV → SightV → HistV → (Nat → HouseV) → HouseV → HouseV → ToksV → IntrV → QReadV → (Nat → Int32) → (Nat → Int32) → HouseV → SightV → SightV → (Nat → Int32) → OwnV → Nat → RowsT → (Nat → Int32) → Nat → RowsT → Nat → RowsT → (Nat → Int64) → Nat → Nat → Option Unit
  | 0, _, _, _, _, _, _, _, _, _, _, _, _, _, _, _, _, _, _, _, _, _, _, _, _, _, _, _, _, _, _ => none
  | n + 1, x7, x8, w0, w1, w2, w3, w4, w5, w6, w7, w9, w10, w11, w12, w13, w14, w15, w16, w17, w18, w19, w20, w21, w22, w23, w24, w25, w26, c, s =>
    if 28 ≤ x8 then
      nmL (x7 - 1) fun (x8_430 : Int32) =>
      N_law_432 L xs x4 FU x8_430 w0 w1 w2 w3 w4 w5 w6 w7 w9 w10 w11 w12 w13 w14 w15 w16 w26 c s
    else
      gd (nz 26) <|
      Option.bind (L_cell L xs (5 + (x8 - x8 / 26 * 26))) fun p250 =>
      nmL (p250 >>> (((x8 / 26) * 3) &&& 31)) fun (x9_261 : Int32) =>
      Option.bind (L_all w0 w7 w15) fun p264 =>
      gd (decide (c + 20700 ≤ 600000 ∧ s + 44000 ≤ 1300000)) <|
      Option.bind (L_act x9_261 w0 w7 w14 w4 w5 p264.2 w1 w2 w3 w9 w17 w18 w19 w20 w22 w23 w24 w25 w21) fun p274 =>
      if p274.1 < 0 then
        none
      else
        if p274.1 = 0 then
          Option.bind (L_all p274.2.1 p274.2.2.1 p274.2.2.2.2.2.2.1) fun p290 =>
          if lg_cmp p290.1 p264.1 = 0 then
            N_law_301 L xs (fun (x7 : Int32) (x8 : Int32) (w0 : GWV) (w1 : BestV) (w2 : HouseV) (w3 : SightV) (w4 : HistV) (w5 : Nat → HouseV) (w6 : HouseV) (w7 : HouseV) (w9 : ToksV) (w10 : IntrV) (w11 : QReadV) (w12 : Nat → Int32) (w13 : Nat → Int32) (w14 : HouseV) (w15 : SightV) (w16 : SightV) (w17 : Nat → Int32) (w18 : OwnV) (w19 : Nat) (w20 : RowsT) (w21 : Nat → Int32) (w22 : Nat) (w23 : RowsT) (w24 : Nat) (w25 : RowsT) (w26 : Nat → Int64) (c : Nat) (s : Nat) => N_law_235 L xs x4 n x7 x8 w0 w1 w2 w3 w4 w5 w6 w7 w9 w10 w11 w12 w13 w14 w15 w16 w17 w18 w19 w20 w21 w22 w23 w24 w25 w26 c s) x4 x7 x8 x9_261 p264.1 p274.1 p274.2.1 p274.2.2.2.2.2.2.2.1 p274.2.2.2.2.2.2.2.2.1 p274.2.2.2.2.2.2.2.2.2.1 p274.2.2.2.2.1 p274.2.2.2.2.2.1 w6 p274.2.2.1 p274.2.2.2.2.2.2.2.2.2.2.1 w10 w11 w12 w13 p274.2.2.2.1 p290.2 w16 p274.2.2.2.2.2.2.2.2.2.2.2.1 p274.2.2.2.2.2.2.2.2.2.2.2.2.1 p274.2.2.2.2.2.2.2.2.2.2.2.2.2.1 p274.2.2.2.2.2.2.2.2.2.2.2.2.2.2.1 p274.2.2.2.2.2.2.2.2.2.2.2.2.2.2.2.2.2.2.2 p274.2.2.2.2.2.2.2.2.2.2.2.2.2.2.2.1 p274.2.2.2.2.2.2.2.2.2.2.2.2.2.2.2.2.1 p274.2.2.2.2.2.2.2.2.2.2.2.2.2.2.2.2.2.1 p274.2.2.2.2.2.2.2.2.2.2.2.2.2.2.2.2.2.2.1 w26 (c + 20700) (s + 44000)
          else
            none
        else
          N_law_301 L xs (fun (x7 : Int32) (x8 : Int32) (w0 : GWV) (w1 : BestV) (w2 : HouseV) (w3 : SightV) (w4 : HistV) (w5 : Nat → HouseV) (w6 : HouseV) (w7 : HouseV) (w9 : ToksV) (w10 : IntrV) (w11 : QReadV) (w12 : Nat → Int32) (w13 : Nat → Int32) (w14 : HouseV) (w15 : SightV) (w16 : SightV) (w17 : Nat → Int32) (w18 : OwnV) (w19 : Nat) (w20 : RowsT) (w21 : Nat → Int32) (w22 : Nat) (w23 : RowsT) (w24 : Nat) (w25 : RowsT) (w26 : Nat → Int64) (c : Nat) (s : Nat) => N_law_235 L xs x4 n x7 x8 w0 w1 w2 w3 w4 w5 w6 w7 w9 w10 w11 w12 w13 w14 w15 w16 w17 w18 w19 w20 w21 w22 w23 w24 w25 w26 c s) x4 x7 x8 x9_261 p264.1 p274.1 p274.2.1 p274.2.2.2.2.2.2.2.1 p274.2.2.2.2.2.2.2.2.1 p274.2.2.2.2.2.2.2.2.2.1 p274.2.2.2.2.1 p274.2.2.2.2.2.1 w6 p274.2.2.1 p274.2.2.2.2.2.2.2.2.2.2.1 w10 w11 w12 w13 p274.2.2.2.1 p274.2.2.2.2.2.2.1 w16 p274.2.2.2.2.2.2.2.2.2.2.2.1 p274.2.2.2.2.2.2.2.2.2.2.2.2.1 p274.2.2.2.2.2.2.2.2.2.2.2.2.2.1 p274.2.2.2.2.2.2.2.2.2.2.2.2.2.2.1 p274.2.2.2.2.2.2.2.2.2.2.2.2.2.2.2.2.2.2.2 p274.2.2.2.2.2.2.2.2.2.2.2.2.2.2.2.1 p274.2.2.2.2.2.2.2.2.2.2.2.2.2.2.2.2.1 p274.2.2.2.2.2.2.2.2.2.2.2.2.2.2.2.2.2.1 p274.2.2.2.2.2.2.2.2.2.2.2.2.2.2.2.2.2.2.1 w26 (c + 20700) (s + 44000)

def N_law (L : Nat) (xs : Nat → Int32) : Option Unit :=
  gd (decide (0 + 1 ≤ 600000 ∧ 0 + 14 ≤ 1300000)) <|
  gd (decide (0 + 1 + 218 ≤ 600000 ∧ 0 + 14 + 6043 ≤ 1300000)) <|
  Option.bind (House_begin 1 House0) fun p4 =>
  gd (decide (0 + 1 + 218 + 1 ≤ 600000 ∧ 0 + 14 + 6043 + 6 ≤ 1300000)) <|
  Option.bind (L_word 25 GW0 Toks0 (fun _ => 0)) fun p18 =>
  Option.bind (L_end GW0 p18.1 p18.2) fun p24 =>
  Option.bind (GW_load p24.1 GW0 p4 House0 Hist0 p24.2.1) fun p27 =>
  if p27.1 = 3 then
    Option.bind (GW_size 3 p27.2.1 p27.2.2.1 Sight0) fun p36 =>
    if p36.1 = 4 then
      Option.bind (GW_roomOf 0 2 p27.2.1 p27.2.2.1) fun p46 =>
      if p46 = 2 then
        Option.bind (GW_roomOf 1 0 p27.2.1 p27.2.2.1) fun p56 =>
        if p56 = 1 then
          Option.bind (GW_room 0 1 p27.2.1 p27.2.2.1 p36.2) fun p66 =>
          if p66.1 = 3 then
            Option.bind (GW_room 1 1 p27.2.1 p27.2.2.1 p66.2) fun p76 =>
            if p76.1 = 0 then
              Option.bind (GW_room 2 1 p27.2.1 p27.2.2.1 p76.2) fun p85 =>
              if p85.1 = 1 then
                Option.bind (GW_size 5 p27.2.1 p27.2.2.1 p85.2) fun p94 =>
                if p94.1 = 3 then
                  Option.bind (GW_meetings 0 1 p27.2.1 p27.2.2.1) fun p104 =>
                  if p104 = 0 then
                    Option.bind (GW_passings 0 1 p27.2.1 p27.2.2.1) fun p113 =>
                    if p113 = 2 then
                      Option.bind (GW_closeDoor 0 p27.2.1 p27.2.2.1 p27.2.2.2.2.1 (fun _ => House0)) fun p124 =>
                      if p124.1 = (-3) then
                        Option.bind (GW_arrival 2 0 0 p27.2.1 p124.2.1 Intr0) fun p136 =>
                        if p136.1 = (-1) then
                          Option.bind (GW_nextSeen 0 1 p27.2.1 p124.2.1) fun p146 =>
                          if p146 = 4 then
                            Option.bind (GW_gapFrom 0 p27.2.1 p124.2.1 p94.2) fun p155 =>
                            if p155.1 = 1 then
                              Option.bind (GW_size 6 p27.2.1 p124.2.1 p155.2) fun p165 =>
                              if p165.1 = 0 then
                                Option.bind (GW_hiding 2 0 1 p27.2.1 p124.2.1 p136.2) fun p175 =>
                                if p175.1 = 0 then
                                  gd (decide (0 + 1 + 218 + 1 + 64 ≤ 600000 ∧ 0 + 14 + 6043 + 6 + 600 ≤ 1300000)) <|
                                  Option.bind (L_drawn L xs 0) fun p185 =>
                                  Option.bind (L_tell p27.2.1 p124.2.1 p27.2.2.2.1 p124.2.2.1 p27.2.2.2.2.2 p24.2.2 p185.1 p185.2.1 p185.2.2.1 p185.2.2.2.1 p185.2.2.2.2.1 p185.2.2.2.2.2.1 p185.2.2.2.2.2.2.1 p185.2.2.2.2.2.2.2) fun p192 =>
                                  if p192.1 = Own_rooms p185.1 then
                                    Option.bind (L_isSound 99 p192.2.1 p192.2.2.1 p165.2 p175.2) fun p205 =>
                                    bif p205.1 then
                                      Option.bind (GW_saveSnapshot p192.2.1 p192.2.2.1 p192.2.2.2.2.1 House0) fun p214 =>
                                      Option.bind (L_all p192.2.1 p192.2.2.1 p205.2.1) fun p218 =>
                                      gd (decide (0 + 1 + 218 + 1 + 64 + 1 ≤ 600000 ∧ 0 + 14 + 6043 + 6 + 600 + 10 ≤ 1300000)) <|
                                      N_law_235 L xs p218.1 FU 0 0 p192.2.1 Best0 House0 Sight0 p214.1 p124.2.2.2 p214.2 p192.2.2.1 p192.2.2.2.2.2.1 p205.2.2 QRead0 (fun _ => 0) (fun _ => 0) p192.2.2.2.1 p218.2 Sight0 p192.2.2.2.2.2.2 p185.1 p185.2.1 p185.2.2.1 p185.2.2.2.2.2.2.2 p185.2.2.2.1 p185.2.2.2.2.1 p185.2.2.2.2.2.1 p185.2.2.2.2.2.2.1 (fun _ => 0) (0 + 1 + 218 + 1 + 64 + 1) (0 + 14 + 6043 + 6 + 600 + 10)
                                    else
                                      none
                                  else
                                    none
                                else
                                  none
                              else
                                none
                            else
                              none
                          else
                            none
                        else
                          none
                      else
                        none
                    else
                      none
                  else
                    none
                else
                  none
              else
                none
            else
              none
          else
            none
        else
          none
      else
        none
    else
      none
  else
    none

