def L_add_65 (x2 : Int32) (v0 : GWV)  : Nat → Int32 → ToksV → (Nat → Int32) → Option (ToksV × (Nat → Int32))
  | 0, _, _, _ => none
  | n + 1, x3, v1, v2 =>
    if 5 ≤ x3 then
      some (v1, v2)
    else
      gd (inB x3 6) <|
      nmL (upd v2 (Int32.toNatClampNeg x3) 0) fun (v2_73 : Nat → Int32) =>
      nmL (x3 + 1) fun (x3_74 : Int32) =>
      L_add_65 x2 v0 n x3_74 v1 v2_73

def L_add (x2 : Int32) (v0 : GWV) (v1 : ToksV) (v2 : Nat → Int32) : Option (ToksV × (Nat → Int32)) :=
  gd (inB 5 6) <|
  gd (nz 20) <|
  gd (nz 4) <|
  gd (inB (((v2 (Int32.toNatClampNeg 5)) - (v2 (Int32.toNatClampNeg 5)) / 20 * 20) / 4) 6) <|
  nmL (upd v2 (Int32.toNatClampNeg (((v2 (Int32.toNatClampNeg 5)) - (v2 (Int32.toNatClampNeg 5)) / 20 * 20) / 4)) ((v2 (Int32.toNatClampNeg (((v2 (Int32.toNatClampNeg 5)) - (v2 (Int32.toNatClampNeg 5)) / 20 * 20) / 4))) ||| (x2 <<< ((24 - (8 * ((v2 (Int32.toNatClampNeg 5)) - (v2 (Int32.toNatClampNeg 5)) / 4 * 4))) &&& 31)))) fun (v2_25 : Nat → Int32) =>
  nmL (upd v2_25 (Int32.toNatClampNeg 5) ((v2_25 (Int32.toNatClampNeg 5)) + 1)) fun (v2_32 : Nat → Int32) =>
  if (v2_32 (Int32.toNatClampNeg 5)) - (v2_32 (Int32.toNatClampNeg 5)) / 20 * 20 = 0 then
    gd (inB 0 6) <|
    gd (inB 1 6) <|
    gd (inB 2 6) <|
    gd (inB 3 6) <|
    gd (inB 4 6) <|
    Option.bind (GW_feed (v2_32 (Int32.toNatClampNeg 0)) (v2_32 (Int32.toNatClampNeg 1)) (v2_32 (Int32.toNatClampNeg 2)) (v2_32 (Int32.toNatClampNeg 3)) (v2_32 (Int32.toNatClampNeg 4)) v0 v1) fun p59 =>
    L_add_65 x2 v0 FU 0 p59.2 v2_32
  else
    some (v1, v2_32)

def L_number_18 (x2 : Int32) (v0 : GWV)  : Nat → Int32 → ToksV → (Nat → Int32) → Option (ToksV × (Nat → Int32))
  | 0, _, _, _ => none
  | n + 1, x3, v1, v2 =>
    if x3 ≤ 0 then
      some (v1, v2)
    else
      gd (nz x3) <|
      gd (nz 10) <|
      Option.bind (L_add (48 + ((x2 / x3) - (x2 / x3) / 10 * 10)) v0 v1 v2) fun p33 =>
      nmL (x3 / 10) fun (x3_40 : Int32) =>
      L_number_18 x2 v0 n x3_40 p33.1 p33.2

def L_number_2 (x2 : Int32) (v0 : GWV)  : Nat → Int32 → ToksV → (Nat → Int32) → Option (ToksV × (Nat → Int32))
  | 0, _, _, _ => none
  | n + 1, x3, v1, v2 =>
    gd (nz 10) <|
    if x2 / 10 < x3 then
      L_number_18 x2 v0 FU x3 v1 v2
    else
      nmL (x3 * 10) fun (x3_14 : Int32) =>
      L_number_2 x2 v0 n x3_14 v1 v2

def L_number (x2 : Int32) (v0 : GWV) (v1 : ToksV) (v2 : Nat → Int32) : Option (ToksV × (Nat → Int32)) :=
  L_number_2 x2 v0 FU 1 v1 v2

def L_end_4 (v0 : GWV) (x2 : Int32) : Nat → ToksV → (Nat → Int32) → Option (Int32 × ToksV × (Nat → Int32))
  | 0, _, _ => none
  | n + 1, v1, v2 =>
    gd (inB 5 6) <|
    gd (nz 20) <|
    if (v2 (Int32.toNatClampNeg 5)) - (v2 (Int32.toNatClampNeg 5)) / 20 * 20 = 0 then
      nmL (upd v2 (Int32.toNatClampNeg 5) 0) fun (v2_26 : Nat → Int32) =>
      some (x2, v1, v2_26)
    else
      Option.bind (L_add 32 v0 v1 v2) fun p17 =>
      L_end_4 v0 x2 n p17.1 p17.2

def L_end (v0 : GWV) (v1 : ToksV) (v2 : Nat → Int32) : Option (Int32 × ToksV × (Nat → Int32)) :=
  gd (inB 5 6) <|
  nmL (v2 (Int32.toNatClampNeg 5)) fun (x2_3 : Int32) =>
  L_end_4 v0 x2_3 FU v1 v2

def L_word_2 (x2 : Nat) (v0 : GWV)  : Nat → Int32 → ToksV → (Nat → Int32) → Option (ToksV × (Nat → Int32))
  | 0, _, _, _ => none
  | n + 1, x3, v1, v2 =>
    gd (stOK x2) <|
    if stLen x2 ≤ x3 then
      some (v1, v2)
    else
      gd (inB x3 (stL x2).length) <|
      Option.bind (L_add (stCh x2 x3) v0 v1 v2) fun p17 =>
      nmL (x3 + 1) fun (x3_20 : Int32) =>
      L_word_2 x2 v0 n x3_20 p17.1 p17.2

def L_word (x2 : Nat) (v0 : GWV) (v1 : ToksV) (v2 : Nat → Int32) : Option (ToksV × (Nat → Int32)) :=
  L_word_2 x2 v0 FU 0 v1 v2

def L_with (x2 : Nat) (x3 : Int32) (v0 : GWV) (v1 : ToksV) (v2 : Nat → Int32) : Option (ToksV × (Nat → Int32)) :=
  Option.bind (L_word x2 v0 v1 v2) fun p3 =>
  Option.bind (L_number x3 v0 p3.1 p3.2) fun p9 =>
  some (p9.1, p9.2)

def L_walkOf_11 (x3 : Int32) (v0 : GWV) (v3 : Nat → Int32) (n3 : Nat) (x5 : Int32) : Nat → Int32 → ToksV → (Nat → Int32) → Option (ToksV × (Nat → Int32))
  | 0, _, _, _ => none
  | n + 1, x6, v1, v2 =>
    if x5 ≤ x6 then
      if x3 ≤ 0 then
        some (v1, v2)
      else
        Option.bind (L_with 22 x3 v0 v1 v2) fun p49 =>
        some (p49.1, p49.2)
    else
      gd (inB x6 n3) <|
      nmL (v3 (Int32.toNatClampNeg x6)) fun (x7_23 : Int32) =>
      Option.bind (L_with 18 x7_23 v0 v1 v2) fun p31 =>
      nmL (x6 + 1) fun (x6_34 : Int32) =>
      L_walkOf_11 x3 v0 v3 n3 x5 n x6_34 p31.1 p31.2

def L_walkOf (x3 : Int32) (v0 : GWV) (v1 : ToksV) (v2 : Nat → Int32) (n3 : Nat) (v3 : Nat → Int32) : Option (ToksV × (Nat → Int32)) :=
  nmL (nI n3) fun (x5_6 : Int32) =>
  L_walkOf_11 x3 v0 v3 n3 x5_6 FU 0 v1 v2

def L_tell_137 (v7 : OwnV) (v8 : Nat) (v9 : RowsT) (v10 : Nat) (v11 : RowsT) (v12 : Nat) (v13 : RowsT) (v14 : Nat → Int32)  : Nat → Int32 → GWV → HouseV → HouseV → HistV → ToksV → (Nat → Int32) → Option (Int32 × GWV × HouseV × HouseV × HistV × ToksV × (Nat → Int32))
  | 0, _, _, _, _, _, _, _ => none
  | n + 1, x3, v0, v1, v2, v3, v4, v6 =>
    if Own_rooms v7 ≤ x3 then
      Option.bind (L_end v0 v4 v6) fun p200 =>
      Option.bind (GW_load p200.1 v0 v1 v2 v3 p200.2.1) fun p203 =>
      some (p203.1, p203.2.1, p203.2.2.1, p203.2.2.2.1, p203.2.2.2.2.1, p203.2.2.2.2.2, p200.2.2)
    else
      gd (inB x3 12) <|
      gd (decide ((Int32.toNatClampNeg x3) < v10)) <|
      gd (decide ((Int32.toNatClampNeg x3) < v11.1)) <|
      gd (inB 0 (v11.2.1 (Int32.toNatClampNeg x3))) <|
      if v11.2.2 (Int32.toNatClampNeg x3) (Int32.toNatClampNeg 0) = 99 then
        nmL (x3 + 1) fun (x3_191 : Int32) =>
        L_tell_137 v7 v8 v9 v10 v11 v12 v13 v14 n x3_191 v0 v1 v2 v3 v4 v6
      else
        Option.bind (L_with 23 x3 v0 v4 v6) fun p166 =>
        Option.bind (L_with 18 (v11.2.2 (Int32.toNatClampNeg x3) (Int32.toNatClampNeg 0)) v0 p166.1 p166.2) fun p181 =>
        Option.bind (L_add 59 v0 p181.1 p181.2) fun p188 =>
        nmL (x3 + 1) fun (x3_191 : Int32) =>
        L_tell_137 v7 v8 v9 v10 v11 v12 v13 v14 n x3_191 v0 v1 v2 v3 p188.1 p188.2

def L_tell_79 (v7 : OwnV) (v8 : Nat) (v9 : RowsT) (v10 : Nat) (v11 : RowsT) (v12 : Nat) (v13 : RowsT) (v14 : Nat → Int32)  (k20 : Int32 → GWV → HouseV → HouseV → HistV → ToksV → (Nat → Int32) → Option (Int32 × GWV × HouseV × HouseV × HistV × ToksV × (Nat → Int32))) (x3 : Int32) (s0 : Nat) (v0 : GWV) (v1 : HouseV) (v2 : HouseV) (v3 : HistV) (v4 : ToksV) (v6 : Nat → Int32) : Option (Int32 × GWV × HouseV × HouseV × HistV × ToksV × (Nat → Int32)) :=
  Option.bind (L_word s0 v0 v4 v6) fun p79 =>
  nmL (x3 + 1) fun (x3_82 : Int32) =>
  k20 x3_82 v0 v1 v2 v3 p79.1 p79.2

def L_tell_90 (v7 : OwnV) (v8 : Nat) (v9 : RowsT) (v10 : Nat) (v11 : RowsT) (v12 : Nat) (v13 : RowsT) (v14 : Nat → Int32)  : Nat → Int32 → GWV → HouseV → HouseV → HistV → ToksV → (Nat → Int32) → Option (Int32 × GWV × HouseV × HouseV × HistV × ToksV × (Nat → Int32))
  | 0, _, _, _, _, _, _, _ => none
  | n + 1, x3, v0, v1, v2, v3, v4, v6 =>
    if Own_guards v7 ≤ x3 then
      L_tell_137 v7 v8 v9 v10 v11 v12 v13 v14 FU 0 v0 v1 v2 v3 v4 v6
    else
      Option.bind (L_word 21 v0 v4 v6) fun p102 =>
      gd (inB x3 4) <|
      gd (decide ((Int32.toNatClampNeg x3) < v12)) <|
      gd (decide ((Int32.toNatClampNeg x3) < v13.1)) <|
      Option.bind (L_walkOf (v14 (Int32.toNatClampNeg x3)) v0 p102.1 p102.2 (v13.2.1 (Int32.toNatClampNeg x3)) (v13.2.2 (Int32.toNatClampNeg x3))) fun p119 =>
      Option.bind (L_add 59 v0 p119.1 p119.2) fun p126 =>
      nmL (x3 + 1) fun (x3_129 : Int32) =>
      L_tell_90 v7 v8 v9 v10 v11 v12 v13 v14 n x3_129 v0 v1 v2 v3 p126.1 p126.2

def L_tell_20 (v7 : OwnV) (v8 : Nat) (v9 : RowsT) (v10 : Nat) (v11 : RowsT) (v12 : Nat) (v13 : RowsT) (v14 : Nat → Int32)  : Nat → Int32 → GWV → HouseV → HouseV → HistV → ToksV → (Nat → Int32) → Option (Int32 × GWV × HouseV × HouseV × HistV × ToksV × (Nat → Int32))
  | 0, _, _, _, _, _, _, _ => none
  | n + 1, x3, v0, v1, v2, v3, v4, v6 =>
    if Own_doors v7 ≤ x3 then
      L_tell_90 v7 v8 v9 v10 v11 v12 v13 v14 FU 0 v0 v1 v2 v3 v4 v6
    else
      gd (inB x3 20) <|
      gd (decide ((Int32.toNatClampNeg x3) < v8)) <|
      gd (decide ((Int32.toNatClampNeg x3) < v9.1)) <|
      gd (inB 0 (v9.2.1 (Int32.toNatClampNeg x3))) <|
      Option.bind (L_with 17 (v9.2.2 (Int32.toNatClampNeg x3) (Int32.toNatClampNeg 0)) v0 v4 v6) fun p40 =>
      gd (inB 1 (v9.2.1 (Int32.toNatClampNeg x3))) <|
      Option.bind (L_with 18 (v9.2.2 (Int32.toNatClampNeg x3) (Int32.toNatClampNeg 1)) v0 p40.1 p40.2) fun p55 =>
      gd (inB 2 (v9.2.1 (Int32.toNatClampNeg x3))) <|
      if v9.2.2 (Int32.toNatClampNeg x3) (Int32.toNatClampNeg 2) = 1 then
        L_tell_79 v7 v8 v9 v10 v11 v12 v13 v14 (fun (x3 : Int32) (v0 : GWV) (v1 : HouseV) (v2 : HouseV) (v3 : HistV) (v4 : ToksV) (v6 : Nat → Int32) => L_tell_20 v7 v8 v9 v10 v11 v12 v13 v14 n x3 v0 v1 v2 v3 v4 v6) x3 19 v0 v1 v2 v3 p55.1 p55.2
      else
        L_tell_79 v7 v8 v9 v10 v11 v12 v13 v14 (fun (x3 : Int32) (v0 : GWV) (v1 : HouseV) (v2 : HouseV) (v3 : HistV) (v4 : ToksV) (v6 : Nat → Int32) => L_tell_20 v7 v8 v9 v10 v11 v12 v13 v14 n x3 v0 v1 v2 v3 v4 v6) x3 20 v0 v1 v2 v3 p55.1 p55.2

def L_tell (v0 : GWV) (v1 : HouseV) (v2 : HouseV) (v3 : HistV) (v4 : ToksV) (v6 : Nat → Int32) (v7 : OwnV) (v8 : Nat) (v9 : RowsT) (v10 : Nat) (v11 : RowsT) (v12 : Nat) (v13 : RowsT) (v14 : Nat → Int32) : Option (Int32 × GWV × HouseV × HouseV × HistV × ToksV × (Nat → Int32)) :=
  Option.bind (L_with 16 (Own_rooms v7) v0 v4 v6) fun p8 =>
  Option.bind (L_add 59 v0 p8.1 p8.2) fun p15 =>
  L_tell_20 v7 v8 v9 v10 v11 v12 v13 v14 FU 0 v0 v1 v2 v3 p15.1 p15.2

def L_drawn_255 (L : Nat) (xs : Nat → Int32) (x1 : Int32) (x5 : Int32) : Nat → Int32 → OwnV → Nat → RowsT → (Nat → Int32) → Nat → RowsT → Nat → RowsT → Nat → Nat → Option (OwnV × Nat × RowsT × Nat × RowsT × Nat × RowsT × (Nat → Int32))
  | 0, _, _, _, _, _, _, _, _, _, _, _ => none
  | n + 1, x6, w0, w1, w2, w3, w4, w5, w6, w7, c, s =>
    if x5 ≤ x6 then
      some (w0, w1, w2, w4, w5, w6, w7, w3)
    else
      gd (nz 2) <|
      Option.bind (L_cell L xs ((x1 + 3) + (x6 - x6 / 2 * 2))) fun p271 =>
      nmL (p271 >>> (((x6 / 2) * 6) &&& 31)) fun (x7_282 : Int32) =>
      gd (decide (c + 2 ≤ 64 ∧ s + 20 ≤ 600)) <|
      Option.bind (Own_walkBy x7_282 w0 w1 w2) fun p293 =>
      gd (inB x6 4) <|
      gd (decide ((Int32.toNatClampNeg x6) = w6 ∧ w6 = w7.1)) <|
      nmL (w6 + 1) fun (v6_296 : Nat) =>
      nmL (rrApp w7 p293.1 p293.2) fun (v7_296 : RowsT) =>
      gd (decide ((Int32.toNatClampNeg x6) < v6_296)) <|
      gd (decide ((Int32.toNatClampNeg x6) < v7_296.1)) <|
      Option.bind (L_most (x7_282 >>> (7 &&& 31)) (nI (v7_296.2.1 (Int32.toNatClampNeg x6)))) fun p316 =>
      nmL (upd w3 (Int32.toNatClampNeg x6) p316) fun (v3_319 : Nat → Int32) =>
      nmL (Own_set_guards w0 ((Own_guards w0) + 1)) fun (v0_327 : OwnV) =>
      nmL (x6 + 1) fun (x6_330 : Int32) =>
      L_drawn_255 L xs x1 x5 n x6_330 v0_327 w1 w2 v3_319 w4 w5 v6_296 v7_296 (c + 2) (s + 20)

def L_drawn_128 (L : Nat) (xs : Nat → Int32) (x1 : Int32) (x3 : Int32) (x4 : Int32) : Nat → Int32 → OwnV → Nat → RowsT → (Nat → Int32) → Nat → RowsT → Nat → RowsT → Nat → Nat → Option (OwnV × Nat × RowsT × Nat × RowsT × Nat × RowsT × (Nat → Int32))
  | 0, _, _, _, _, _, _, _, _, _, _, _ => none
  | n + 1, x5, w0, w1, w2, w3, w4, w5, w6, w7, c, s =>
    if x4 ≤ x5 then
      Option.bind (L_most (x3 >>> (12 &&& 31)) 5) fun p247 =>
      L_drawn_255 L xs x1 p247 FU 0 w0 w1 w2 w3 w4 w5 w6 w7 c s
    else
      gd (nz 2) <|
      Option.bind (L_cell L xs ((x1 + 1) + (x5 - x5 / 2 * 2))) fun p144 =>
      nmL (p144 >>> (((x5 / 2) * 5) &&& 31)) fun (x6_154 : Int32) =>
      Option.bind (L_most x6_154 (Own_rooms w0)) fun p162 =>
      nmL (Own_set_doors w0 ((Own_doors w0) + 1)) fun (v0_179 : OwnV) =>
      gd (decide (c + 1 ≤ 64 ∧ s + 3 ≤ 600)) <|
      gd (inB 0 3) <|
      nmL (upd (fun _ => 0) (Int32.toNatClampNeg 0) p162) fun (v8_189 : Nat → Int32) =>
      Option.bind (L_most (x6_154 >>> (2 &&& 31)) ((Own_rooms v0_179) - 1)) fun p206 =>
      gd (nz (Own_rooms v0_179)) <|
      gd (inB 1 3) <|
      nmL (upd v8_189 (Int32.toNatClampNeg 1) (((p162 + 1) + p206) - ((p162 + 1) + p206) / (Own_rooms v0_179) * (Own_rooms v0_179))) fun (v8_215 : Nat → Int32) =>
      Option.bind (L_most (x6_154 >>> (4 &&& 31)) 5) fun p223 =>
      if p223 = 0 then
        gd (inB 2 3) <|
        nmL (upd v8_215 (Int32.toNatClampNeg 2) 0) fun (v8_234 : Nat → Int32) =>
        gd (inB (Own_doors w0) 20) <|
        gd (decide ((Int32.toNatClampNeg (Own_doors w0)) = w1 ∧ w1 = w2.1)) <|
        nmL (w1 + 1) fun (v1_235 : Nat) =>
        nmL (rrApp w2 3 v8_234) fun (v2_235 : RowsT) =>
        nmL (x5 + 1) fun (x5_236 : Int32) =>
        L_drawn_128 L xs x1 x3 x4 n x5_236 v0_179 v1_235 v2_235 w3 w4 w5 w6 w7 (c + 1) (s + 3)
      else
        gd (inB 2 3) <|
        nmL (upd v8_215 (Int32.toNatClampNeg 2) 1) fun (v8_234 : Nat → Int32) =>
        gd (inB (Own_doors w0) 20) <|
        gd (decide ((Int32.toNatClampNeg (Own_doors w0)) = w1 ∧ w1 = w2.1)) <|
        nmL (w1 + 1) fun (v1_235 : Nat) =>
        nmL (rrApp w2 3 v8_234) fun (v2_235 : RowsT) =>
        nmL (x5 + 1) fun (x5_236 : Int32) =>
        L_drawn_128 L xs x1 x3 x4 n x5_236 v0_179 v1_235 v2_235 w3 w4 w5 w6 w7 (c + 1) (s + 3)

def L_drawn_78 (L : Nat) (xs : Nat → Int32) (x1 : Int32)  (k29 : Int32 → OwnV → Nat → RowsT → (Nat → Int32) → Nat → RowsT → Nat → RowsT → Nat → Nat → Option (OwnV × Nat × RowsT × Nat × RowsT × Nat × RowsT × (Nat → Int32))) (x3 : Int32) (x4 : Int32) (s0 : Int32) (s1 : Int32) (s4 : Int32) (w0 : OwnV) (w1 : Nat) (w2 : RowsT) (w3 : Nat → Int32) (w4 : Nat) (w5 : RowsT) (w6 : Nat) (w7 : RowsT) (w8 : Nat → Int32) (c : Nat) (s : Nat) : Option (OwnV × Nat × RowsT × Nat × RowsT × Nat × RowsT × (Nat → Int32)) :=
  gd (inB s1 5) <|
  nmL (upd w8 (Int32.toNatClampNeg s1) s0) fun (v8_78 : Nat → Int32) =>
  gd (inB 1 5) <|
  nmL (upd v8_78 (Int32.toNatClampNeg 1) 0) fun (v8_82 : Nat → Int32) =>
  gd (inB 2 5) <|
  nmL (upd v8_82 (Int32.toNatClampNeg 2) (-1)) fun (v8_86 : Nat → Int32) =>
  gd (inB 3 5) <|
  nmL (upd v8_86 (Int32.toNatClampNeg 3) 0) fun (v8_90 : Nat → Int32) =>
  gd (inB 4 5) <|
  nmL (upd v8_90 (Int32.toNatClampNeg 4) 0) fun (v8_94 : Nat → Int32) =>
  gd (inB s4 12) <|
  gd (decide ((Int32.toNatClampNeg s4) = w4 ∧ w4 = w5.1)) <|
  nmL (w4 + 1) fun (v4_95 : Nat) =>
  nmL (rrApp w5 5 v8_94) fun (v5_95 : RowsT) =>
  nmL (x4 + 1) fun (x4_96 : Int32) =>
  k29 x4_96 w0 w1 w2 w3 v4_95 v5_95 w6 w7 c s

def L_drawn_29 (L : Nat) (xs : Nat → Int32) (x1 : Int32) (x3 : Int32) : Nat → Int32 → OwnV → Nat → RowsT → (Nat → Int32) → Nat → RowsT → Nat → RowsT → Nat → Nat → Option (OwnV × Nat × RowsT × Nat × RowsT × Nat × RowsT × (Nat → Int32))
  | 0, _, _, _, _, _, _, _, _, _, _, _ => none
  | n + 1, x4, w0, w1, w2, w3, w4, w5, w6, w7, c, s =>
    if Own_rooms w0 ≤ x4 then
      if Own_rooms w0 = 1 then
        L_drawn_128 L xs x1 x3 0 FU 0 w0 w1 w2 w3 w4 w5 w6 w7 c s
      else
        Option.bind (L_most (x3 >>> (9 &&& 31)) 11) fun p120 =>
        L_drawn_128 L xs x1 x3 p120 FU 0 w0 w1 w2 w3 w4 w5 w6 w7 c s
    else
      gd (decide (c + 1 ≤ 64 ∧ s + 5 ≤ 600)) <|
      Option.bind (L_most (x3 >>> ((3 + x4) &&& 31)) 3) fun p56 =>
      if p56 = 0 then
        L_drawn_78 L xs x1 (fun (x4 : Int32) (w0 : OwnV) (w1 : Nat) (w2 : RowsT) (w3 : Nat → Int32) (w4 : Nat) (w5 : RowsT) (w6 : Nat) (w7 : RowsT) (c : Nat) (s : Nat) => L_drawn_29 L xs x1 x3 n x4 w0 w1 w2 w3 w4 w5 w6 w7 c s) x3 x4 99 0 x4 w0 w1 w2 w3 w4 w5 w6 w7 (fun _ => 0) (c + 1) (s + 5)
      else
        Option.bind (L_most (x3 >>> ((2 * x4) &&& 31)) 7) fun p75 =>
        L_drawn_78 L xs x1 (fun (x4 : Int32) (w0 : OwnV) (w1 : Nat) (w2 : RowsT) (w3 : Nat → Int32) (w4 : Nat) (w5 : RowsT) (w6 : Nat) (w7 : RowsT) (c : Nat) (s : Nat) => L_drawn_29 L xs x1 x3 n x4 w0 w1 w2 w3 w4 w5 w6 w7 c s) x3 x4 p75 0 x4 w0 w1 w2 w3 w4 w5 w6 w7 (fun _ => 0) (c + 1) (s + 5)

def L_drawn (L : Nat) (xs : Nat → Int32) (x1 : Int32) : Option (OwnV × Nat × RowsT × Nat × RowsT × Nat × RowsT × (Nat → Int32)) :=
  gd (decide (0 + 1 ≤ 64 ∧ 0 + 8 ≤ 600)) <|
  gd (decide (0 + 1 + 4 ≤ 64 ∧ 0 + 8 + 40 ≤ 600)) <|
  Option.bind (L_cell L xs x1) fun p10 =>
  Option.bind (L_most p10 6) fun p19 =>
  nmL (Own_set_rooms Own0 (1 + p19)) fun (v0_23 : OwnV) =>
  L_drawn_29 L xs x1 p10 FU 0 v0_23 0 rr0 (fun _ => 0) 0 rr0 0 rr0 (0 + 1 + 4) (0 + 8 + 40)

def L_all_168 (v0 : GWV) (v1 : HouseV) (x3 : Int32) (k126 : Int64 → Int32 → SightV → Option (Int64 × SightV)) : Nat → Int64 → Int32 → SightV → Option (Int64 × SightV)
  | 0, _, _, _ => none
  | n + 1, x1, x4, v2 =>
    Option.bind (GW_guard x3 0 v0 v1) fun p173 =>
    if p173 ≤ x4 then
      nmL (x3 + 1) fun (x3_200 : Int32) =>
      k126 x1 x3_200 v2
    else
      Option.bind (GW_walk x3 x4 v0 v1) fun p188 =>
      nmL (x4 + 1) fun (x4_194 : Int32) =>
      L_all_168 v0 v1 x3 k126 n ((31 * x1) + (Int32.toInt64 p188)) x4_194 v2

def L_all_138 (v0 : GWV) (v1 : HouseV) (x3 : Int32) (k126 : Int64 → Int32 → SightV → Option (Int64 × SightV)) : Nat → Int64 → Int32 → SightV → Option (Int64 × SightV)
  | 0, _, _, _ => none
  | n + 1, x1, x4, v2 =>
    if 4 ≤ x4 then
      L_all_168 v0 v1 x3 k126 FU x1 0 v2
    else
      Option.bind (GW_guard x3 x4 v0 v1) fun p153 =>
      nmL (x4 + 1) fun (x4_159 : Int32) =>
      L_all_138 v0 v1 x3 k126 n ((31 * x1) + (Int32.toInt64 p153)) x4_159 v2

def L_all_126 (v0 : GWV) (v1 : HouseV)  : Nat → Int64 → Int32 → SightV → Option (Int64 × SightV)
  | 0, _, _, _ => none
  | n + 1, x1, x3, v2 =>
    Option.bind (GW_size 2 v0 v1 v2) fun p129 =>
    if p129.1 ≤ x3 then
      some (x1, p129.2)
    else
      L_all_138 v0 v1 x3 (fun (x1 : Int64) (x3 : Int32) (v2 : SightV) => L_all_126 v0 v1 n x1 x3 v2) FU x1 0 p129.2

def L_all_43 (v0 : GWV) (v1 : HouseV) (x3 : Int32) (k31 : Int64 → Int32 → SightV → Option (Int64 × SightV)) : Nat → Int64 → Int32 → SightV → Option (Int64 × SightV)
  | 0, _, _, _ => none
  | n + 1, x1, x4, v2 =>
    if 8 ≤ x4 then
      nmL (x3 + 1) fun (x3_71 : Int32) =>
      k31 x1 x3_71 v2
    else
      Option.bind (GW_room x3 x4 v0 v1 v2) fun p59 =>
      nmL (x4 + 1) fun (x4_65 : Int32) =>
      L_all_43 v0 v1 x3 k31 n ((31 * x1) + (Int32.toInt64 p59.1)) x4_65 p59.2

def L_all_91 (v0 : GWV) (v1 : HouseV) (x3 : Int32) (k79 : Int64 → Int32 → SightV → Option (Int64 × SightV)) : Nat → Int64 → Int32 → SightV → Option (Int64 × SightV)
  | 0, _, _, _ => none
  | n + 1, x1, x4, v2 =>
    if 4 ≤ x4 then
      nmL (x3 + 1) fun (x3_118 : Int32) =>
      k79 x1 x3_118 v2
    else
      Option.bind (GW_door x3 x4 v0 v1) fun p106 =>
      nmL (x4 + 1) fun (x4_112 : Int32) =>
      L_all_91 v0 v1 x3 k79 n ((31 * x1) + (Int32.toInt64 p106)) x4_112 v2

def L_all_79 (v0 : GWV) (v1 : HouseV)  : Nat → Int64 → Int32 → SightV → Option (Int64 × SightV)
  | 0, _, _, _ => none
  | n + 1, x1, x3, v2 =>
    Option.bind (GW_size 1 v0 v1 v2) fun p82 =>
    if p82.1 ≤ x3 then
      L_all_126 v0 v1 FU x1 0 p82.2
    else
      L_all_91 v0 v1 x3 (fun (x1 : Int64) (x3 : Int32) (v2 : SightV) => L_all_79 v0 v1 n x1 x3 v2) FU x1 0 p82.2

def L_all_31 (v0 : GWV) (v1 : HouseV)  : Nat → Int64 → Int32 → SightV → Option (Int64 × SightV)
  | 0, _, _, _ => none
  | n + 1, x1, x3, v2 =>
    Option.bind (GW_size 0 v0 v1 v2) fun p34 =>
    if p34.1 ≤ x3 then
      L_all_79 v0 v1 FU x1 0 p34.2
    else
      L_all_43 v0 v1 x3 (fun (x1 : Int64) (x3 : Int32) (v2 : SightV) => L_all_31 v0 v1 n x1 x3 v2) FU x1 0 p34.2

def L_all_4 (v0 : GWV) (v1 : HouseV)  : Nat → Int64 → Int32 → SightV → Option (Int64 × SightV)
  | 0, _, _, _ => none
  | n + 1, x1, x3, v2 =>
    if 10 ≤ x3 then
      L_all_31 v0 v1 FU x1 0 v2
    else
      Option.bind (GW_size x3 v0 v1 v2) fun p17 =>
      nmL (x3 + 1) fun (x3_23 : Int32) =>
      L_all_4 v0 v1 n ((31 * x1) + (Int32.toInt64 p17.1)) x3_23 p17.2

def L_all (v0 : GWV) (v1 : HouseV) (v2 : SightV) : Option (Int64 × SightV) :=
  L_all_4 v0 v1 FU 0 0 v2

def L_isQuick_205 (x1 : Int32) (v0 : GWV) (v1 : HouseV)  (k111 : Int32 → SightV → IntrV → Option (Bool × SightV × IntrV)) (x2 : Int32) (x3 : Int32) (x4 : Int32) (x5 : Int32) (x6 : Int32) (x7 : Int32) (s0 : Int32) (s1 : Int32) (v2 : SightV) (v3 : IntrV) : Option (Bool × SightV × IntrV) :=
  if s1 = s0 then
    nmL (x7 + 1) fun (x7_210 : Int32) =>
    k111 x7_210 v2 v3
  else
    some (false, v2, v3)

def L_isQuick_190 (x1 : Int32) (v0 : GWV) (v1 : HouseV)  (k111 : Int32 → SightV → IntrV → Option (Bool × SightV × IntrV)) (x2 : Int32) (x3 : Int32) (x4 : Int32) (x5 : Int32) (x6 : Int32) (x7 : Int32) (s0 : Int32) (v2 : SightV) (v3 : IntrV) : Option (Bool × SightV × IntrV) :=
  if x4 + x7 = x5 then
    L_isQuick_205 x1 v0 v1 k111 x2 x3 x4 x5 x6 x7 1 s0 v2 v3
  else
    L_isQuick_205 x1 v0 v1 k111 x2 x3 x4 x5 x6 x7 0 s0 v2 v3

def L_isQuick_132 (x1 : Int32) (v0 : GWV) (v1 : HouseV) (x2 : Int32) (x3 : Int32) (x4 : Int32) (x5 : Int32) (x6 : Int32) (x7 : Int32) (x8 : Int32) (k111 : Int32 → SightV → IntrV → Option (Bool × SightV × IntrV)) : Nat → Int32 → SightV → IntrV → Option (Bool × SightV × IntrV)
  | 0, _, _, _ => none
  | n + 1, x9, v2, v3 =>
    Option.bind (GW_size 0 v0 v1 v2) fun p136 =>
    if p136.1 ≤ x9 then
      if (x8 >>> (x3 &&& 31)) &&& 1 = 1 then
        L_isQuick_190 x1 v0 v1 k111 x2 x3 x4 x5 x6 x7 1 p136.2 v3
      else
        L_isQuick_190 x1 v0 v1 k111 x2 x3 x4 x5 x6 x7 0 p136.2 v3
    else
      if (x8 >>> (x9 &&& 31)) &&& 1 = 1 then
        Option.bind (GW_guardsIn x9 (x4 + x7) v0 v1) fun p161 =>
        if p161 = 0 then
          nmL (x9 + 1) fun (x9_169 : Int32) =>
          L_isQuick_132 x1 v0 v1 x2 x3 x4 x5 x6 x7 x8 k111 n x9_169 p136.2 v3
        else
          some (false, p136.2, v3)
      else
        nmL (x9 + 1) fun (x9_169 : Int32) =>
        L_isQuick_132 x1 v0 v1 x2 x3 x4 x5 x6 x7 x8 k111 n x9_169 p136.2 v3

def L_isQuick_111 (x1 : Int32) (v0 : GWV) (v1 : HouseV) (x2 : Int32) (x3 : Int32) (x4 : Int32) (x5 : Int32) (x6 : Int32) : Nat → Int32 → SightV → IntrV → Option (Bool × SightV × IntrV)
  | 0, _, _, _ => none
  | n + 1, x7, v2, v3 =>
    if x6 < x7 then
      if x5 < 0 then
        some (true, v2, v3)
      else
        Option.bind (GW_distance x2 x3 v0 v1) fun p224 =>
        if p224 < 0 then
          some (false, v2, v3)
        else
          Option.bind (GW_distance x2 x3 v0 v1) fun p238 =>
          if x5 - x4 < p238 then
            some (false, v2, v3)
          else
            some (true, v2, v3)
    else
      Option.bind (GW_hiding x2 x4 x7 v0 v1 v3) fun p124 =>
      L_isQuick_132 x1 v0 v1 x2 x3 x4 x5 x6 x7 p124.1 (fun (x7 : Int32) (v2 : SightV) (v3 : IntrV) => L_isQuick_111 x1 v0 v1 x2 x3 x4 x5 x6 n x7 v2 v3) FU 0 v2 p124.2

def L_isQuick (x1 : Int32) (v0 : GWV) (v1 : HouseV) (v2 : SightV) (v3 : IntrV) : Option (Bool × SightV × IntrV) :=
  Option.bind (GW_size 0 v0 v1 v2) fun p3 =>
  Option.bind (L_most x1 p3.1) fun p6 =>
  Option.bind (GW_size 0 v0 v1 p3.2) fun p15 =>
  Option.bind (L_most (x1 >>> (3 &&& 31)) p15.1) fun p18 =>
  Option.bind (L_most (x1 >>> (5 &&& 31)) 50) fun p27 =>
  Option.bind (GW_arrival p6 p18 p27 v0 v1 v3) fun p37 =>
  Option.bind (GW_guardsIn p6 p27 v0 v1) fun p46 =>
  if p46 = 0 then
    if 0 ≤ p37.1 then
      nmL (imin 100 (p37.1 - p27)) fun (x6_106 : Int32) =>
      L_isQuick_111 x1 v0 v1 p6 p18 p27 p37.1 x6_106 FU 0 p15.2 p37.2
    else
      L_isQuick_111 x1 v0 v1 p6 p18 p27 p37.1 40 FU 0 p15.2 p37.2
  else
    if 0 ≤ p37.1 then
      some (false, p15.2, p37.2)
    else
      Option.bind (GW_hiding p6 p27 0 v0 v1 p37.2) fun p62 =>
      if p62.1 = 0 then
        Option.bind (GW_hiding p6 p27 9 v0 v1 p62.2) fun p74 =>
        if p74.1 = 0 then
          some (true, p15.2, p74.2)
        else
          some (false, p15.2, p74.2)
      else
        some (false, p15.2, p62.2)

def L_isSound_231 (x1 : Int32) (v0 : GWV) (v1 : HouseV)  (k11 : Int32 → Int32 → SightV → IntrV → Option (Bool × SightV × IntrV)) (x2 : Int32) (x3 : Int32) (x4 : Int32) (v2 : SightV) (v3 : IntrV) : Option (Bool × SightV × IntrV) :=
  Option.bind (GW_room x4 6 v0 v1 v2) fun p236 =>
  Option.bind (GW_room x4 7 v0 v1 p236.2) fun p244 =>
  if p244.1 < p236.1 then
    some (false, p244.2, v3)
  else
    Option.bind (GW_room x4 5 v0 v1 p244.2) fun p254 =>
    Option.bind (GW_size 4 v0 v1 p254.2) fun p259 =>
    if p254.1 < p259.1 then
      nmL (x4 + 1) fun (x4_267 : Int32) =>
      k11 x3 x4_267 p259.2 v3
    else
      some (false, p259.2, v3)

def L_isSound_150 (x1 : Int32) (v0 : GWV) (v1 : HouseV) (x2 : Int32) (x3 : Int32) (x4 : Int32) (x5 : Int32) (x6 : Int32) (k11 : Int32 → Int32 → SightV → IntrV → Option (Bool × SightV × IntrV)) : Nat → Int32 → SightV → IntrV → Option (Bool × SightV × IntrV)
  | 0, _, _, _ => none
  | n + 1, x7, v2, v3 =>
    if x5 ≤ x7 then
      if x5 ≤ 0 then
        L_isSound_231 x1 v0 v1 k11 x2 x3 x4 v2 v3
      else
        Option.bind (GW_guardsIn x4 (x6 + x5) v0 v1) fun p192 =>
        if p192 = 0 then
          some (false, v2, v3)
        else
          Option.bind (GW_guardsIn x4 ((x6 + x2) - 1) v0 v1) fun p207 =>
          if p207 = 0 then
            some (false, v2, v3)
          else
            Option.bind (GW_nextSeen x4 x6 v0 v1) fun p218 =>
            if p218 = x6 + x5 then
              L_isSound_231 x1 v0 v1 k11 x2 x3 x4 v2 v3
            else
              some (false, v2, v3)
    else
      Option.bind (GW_guardsIn x4 (x6 + x7) v0 v1) fun p165 =>
      if p165 = 0 then
        nmL (x7 + 1) fun (x7_173 : Int32) =>
        L_isSound_150 x1 v0 v1 x2 x3 x4 x5 x6 k11 n x7_173 v2 v3
      else
        some (false, v2, v3)

def L_isSound_142 (x1 : Int32) (v0 : GWV) (v1 : HouseV)  (k11 : Int32 → Int32 → SightV → IntrV → Option (Bool × SightV × IntrV)) (x2 : Int32) (x3 : Int32) (x4 : Int32) (x5 : Int32) (x6 : Int32) (s0 : Int32) (s1 : Int32) (v2 : SightV) (v3 : IntrV) : Option (Bool × SightV × IntrV) :=
  if s1 = s0 then
    L_isSound_150 x1 v0 v1 x2 x3 x4 x5 x6 k11 FU 0 v2 v3
  else
    some (false, v2, v3)

def L_isSound_137 (x1 : Int32) (v0 : GWV) (v1 : HouseV)  (k11 : Int32 → Int32 → SightV → IntrV → Option (Bool × SightV × IntrV)) (x2 : Int32) (x3 : Int32) (x4 : Int32) (x5 : Int32) (x6 : Int32) (s0 : Int32) (v2 : SightV) (v3 : IntrV) : Option (Bool × SightV × IntrV) :=
  L_isSound_142 x1 v0 v1 k11 x2 x3 x4 x5 x6 1 s0 v2 v3

def L_isSound_120 (x1 : Int32) (v0 : GWV) (v1 : HouseV)  (k11 : Int32 → Int32 → SightV → IntrV → Option (Bool × SightV × IntrV)) (x2 : Int32) (x3 : Int32) (x4 : Int32) (x5 : Int32) (x6 : Int32) (s0 : Int32) (v2 : SightV) (v3 : IntrV) : Option (Bool × SightV × IntrV) :=
  if x5 < 0 then
    L_isSound_137 x1 v0 v1 k11 x2 x3 x4 x5 x6 s0 v2 v3
  else
    Option.bind (GW_room x4 0 v0 v1 v2) fun p131 =>
    if x5 ≤ p131.1 then
      L_isSound_142 x1 v0 v1 k11 x2 x3 x4 x5 x6 0 s0 p131.2 v3
    else
      L_isSound_137 x1 v0 v1 k11 x2 x3 x4 x5 x6 s0 p131.2 v3

def L_isSound_101 (x1 : Int32) (v0 : GWV) (v1 : HouseV)  (k11 : Int32 → Int32 → SightV → IntrV → Option (Bool × SightV × IntrV)) (x2 : Int32) (x3 : Int32) (x4 : Int32) (x5 : Int32) (x6 : Int32) (s0 : Int32) (s1 : Int32) (v2 : SightV) (v3 : IntrV) : Option (Bool × SightV × IntrV) :=
  if s1 = s0 then
    Option.bind (GW_room x4 2 v0 v1 v2) fun p108 =>
    if p108.1 = 1 then
      L_isSound_120 x1 v0 v1 k11 x2 x3 x4 x5 x6 1 p108.2 v3
    else
      L_isSound_120 x1 v0 v1 k11 x2 x3 x4 x5 x6 0 p108.2 v3
  else
    some (false, v2, v3)

def L_isSound_400 (x1 : Int32) (v0 : GWV) (v1 : HouseV)  (k290 : Int32 → Int32 → SightV → IntrV → Option (Bool × SightV × IntrV)) (k350 : Int32 → SightV → IntrV → Option (Bool × SightV × IntrV)) (x4 : Int32) (x5 : Int32) (x6 : Int32) (x7 : Int32) (v2 : SightV) (v3 : IntrV) : Option (Bool × SightV × IntrV) :=
  Option.bind (GW_roomOf x5 x7 v0 v1) fun p405 =>
  Option.bind (GW_guard x5 1 v0 v1) fun p417 =>
  gd (nz x6) <|
  Option.bind (GW_walk x5 ((x7 + p417) - (x7 + p417) / x6 * x6) v0 v1) fun p424 =>
  if p405 = p424 then
    nmL (x7 + 1) fun (x7_432 : Int32) =>
    k350 x7_432 v2 v3
  else
    some (false, v2, v3)

def L_isSound_350 (x1 : Int32) (v0 : GWV) (v1 : HouseV) (x4 : Int32) (x5 : Int32) (x6 : Int32) (k290 : Int32 → Int32 → SightV → IntrV → Option (Bool × SightV × IntrV)) : Nat → Int32 → SightV → IntrV → Option (Bool × SightV × IntrV)
  | 0, _, _, _ => none
  | n + 1, x7, v2, v3 =>
    if x6 ≤ x7 then
      nmL (x5 + 1) fun (x5_438 : Int32) =>
      k290 x4 x5_438 v2 v3
    else
      Option.bind (GW_walk x5 x7 v0 v1) fun p362 =>
      gd (nz x6) <|
      Option.bind (GW_walk x5 ((x7 + 1) - (x7 + 1) / x6 * x6) v0 v1) fun p377 =>
      if p362 = p377 then
        L_isSound_400 x1 v0 v1 k290 (fun (x7 : Int32) (v2 : SightV) (v3 : IntrV) => L_isSound_350 x1 v0 v1 x4 x5 x6 k290 n x7 v2 v3) x4 x5 x6 x7 v2 v3
      else
        Option.bind (GW_isJoined p362 p377 v0 v1) fun p394 =>
        bif p394 then
          L_isSound_400 x1 v0 v1 k290 (fun (x7 : Int32) (v2 : SightV) (v3 : IntrV) => L_isSound_350 x1 v0 v1 x4 x5 x6 k290 n x7 v2 v3) x4 x5 x6 x7 v2 v3
        else
          some (false, v2, v3)

def L_isSound_303 (x1 : Int32) (v0 : GWV) (v1 : HouseV) (x5 : Int32) (k290 : Int32 → Int32 → SightV → IntrV → Option (Bool × SightV × IntrV)) : Nat → Int32 → Int32 → SightV → IntrV → Option (Bool × SightV × IntrV)
  | 0, _, _, _, _ => none
  | n + 1, x4, x6, v2, v3 =>
    if x5 ≤ x6 then
      Option.bind (GW_guard x5 0 v0 v1) fun p342 =>
      L_isSound_350 x1 v0 v1 x4 x5 p342 k290 FU 0 v2 v3
    else
      Option.bind (GW_meetings x5 x6 v0 v1) fun p317 =>
      Option.bind (GW_passings x5 x6 v0 v1) fun p325 =>
      nmL (x4 + (p317 + p325)) fun (x4_330 : Int32) =>
      nmL (x6 + 1) fun (x6_332 : Int32) =>
      L_isSound_303 x1 v0 v1 x5 k290 n x4_330 x6_332 v2 v3

def L_isSound_502 (x1 : Int32) (v0 : GWV) (v1 : HouseV)  (k460 : Int32 → SightV → IntrV → Option (Bool × SightV × IntrV)) (x5 : Int32) (v2 : SightV) (v3 : IntrV) : Option (Bool × SightV × IntrV) :=
  Option.bind (GW_door x5 3 v0 v1) fun p506 =>
  if p506 ≤ 0 then
    nmL (x5 + 1) fun (x5_535 : Int32) =>
    k460 x5_535 v2 v3
  else
    Option.bind (GW_door x5 0 v0 v1) fun p517 =>
    Option.bind (GW_door x5 1 v0 v1) fun p524 =>
    Option.bind (GW_isJoined p517 p524 v0 v1) fun p527 =>
    bif p527 then
      nmL (x5 + 1) fun (x5_535 : Int32) =>
      k460 x5_535 v2 v3
    else
      some (false, v2, v3)

def L_isSound_460 (x1 : Int32) (v0 : GWV) (v1 : HouseV)  : Nat → Int32 → SightV → IntrV → Option (Bool × SightV × IntrV)
  | 0, _, _, _ => none
  | n + 1, x5, v2, v3 =>
    Option.bind (GW_size 1 v0 v1 v2) fun p464 =>
    if p464.1 ≤ x5 then
      Option.bind (L_isQuick x1 v0 v1 p464.2 v3) fun p543 =>
      some (p543.1, p543.2.1, p543.2.2)
    else
      Option.bind (GW_door x5 2 v0 v1) fun p474 =>
      if p474 = 1 then
        Option.bind (GW_door x5 0 v0 v1) fun p486 =>
        Option.bind (GW_door x5 1 v0 v1) fun p493 =>
        Option.bind (GW_isJoined p486 p493 v0 v1) fun p496 =>
        bif p496 then
          L_isSound_502 x1 v0 v1 (fun (x5 : Int32) (v2 : SightV) (v3 : IntrV) => L_isSound_460 x1 v0 v1 n x5 v2 v3) x5 p464.2 v3
        else
          some (false, p464.2, v3)
      else
        L_isSound_502 x1 v0 v1 (fun (x5 : Int32) (v2 : SightV) (v3 : IntrV) => L_isSound_460 x1 v0 v1 n x5 v2 v3) x5 p464.2 v3

def L_isSound_290 (x1 : Int32) (v0 : GWV) (v1 : HouseV)  : Nat → Int32 → Int32 → SightV → IntrV → Option (Bool × SightV × IntrV)
  | 0, _, _, _, _ => none
  | n + 1, x4, x5, v2, v3 =>
    Option.bind (GW_size 2 v0 v1 v2) fun p294 =>
    if p294.1 ≤ x5 then
      Option.bind (GW_size 7 v0 v1 p294.2) fun p449 =>
      if x4 = p449.1 then
        L_isSound_460 x1 v0 v1 FU 0 p449.2 v3
      else
        some (false, p449.2, v3)
    else
      L_isSound_303 x1 v0 v1 x5 (fun (x4 : Int32) (x5 : Int32) (v2 : SightV) (v3 : IntrV) => L_isSound_290 x1 v0 v1 n x4 x5 v2 v3) FU x4 0 p294.2 v3

def L_isSound_91 (x1 : Int32) (v0 : GWV) (v1 : HouseV)  (k11 : Int32 → Int32 → SightV → IntrV → Option (Bool × SightV × IntrV)) (x2 : Int32) (x3 : Int32) (x4 : Int32) (x5 : Int32) (x6 : Int32) (s0 : Int32) (v2 : SightV) (v3 : IntrV) : Option (Bool × SightV × IntrV) :=
  if x6 < 0 then
    L_isSound_101 x1 v0 v1 k11 x2 x3 x4 x5 x6 0 s0 v2 v3
  else
    L_isSound_101 x1 v0 v1 k11 x2 x3 x4 x5 x6 1 s0 v2 v3

def L_isSound_70 (x1 : Int32) (v0 : GWV) (v1 : HouseV)  (k11 : Int32 → Int32 → SightV → IntrV → Option (Bool × SightV × IntrV)) (x2 : Int32) (x3 : Int32) (x4 : Int32) (x5 : Int32) (x6 : Int32) (s0 : Int32) (s1 : Int32) (v2 : SightV) (v3 : IntrV) : Option (Bool × SightV × IntrV) :=
  if s1 = s0 then
    if x2 - 1 < x5 then
      some (false, v2, v3)
    else
      if x5 ≤ 0 then
        L_isSound_91 x1 v0 v1 k11 x2 x3 x4 x5 x6 0 v2 v3
      else
        L_isSound_91 x1 v0 v1 k11 x2 x3 x4 x5 x6 1 v2 v3
  else
    some (false, v2, v3)

def L_isSound_55 (x1 : Int32) (v0 : GWV) (v1 : HouseV)  (k11 : Int32 → Int32 → SightV → IntrV → Option (Bool × SightV × IntrV)) (x2 : Int32) (x3 : Int32) (x4 : Int32) (x5 : Int32) (x6 : Int32) (s0 : Int32) (v2 : SightV) (v3 : IntrV) : Option (Bool × SightV × IntrV) :=
  Option.bind (GW_room x4 3 v0 v1 v2) fun p59 =>
  if p59.1 = 0 then
    L_isSound_70 x1 v0 v1 k11 x2 x3 x4 x5 x6 1 s0 p59.2 v3
  else
    L_isSound_70 x1 v0 v1 k11 x2 x3 x4 x5 x6 0 s0 p59.2 v3

def L_isSound_11 (x1 : Int32) (v0 : GWV) (v1 : HouseV) (x2 : Int32) : Nat → Int32 → Int32 → SightV → IntrV → Option (Bool × SightV × IntrV)
  | 0, _, _, _, _ => none
  | n + 1, x3, x4, v2, v3 =>
    Option.bind (GW_size 0 v0 v1 v2) fun p15 =>
    if p15.1 ≤ x4 then
      Option.bind (GW_size 5 v0 v1 p15.2) fun p276 =>
      if x3 = p276.1 then
        L_isSound_290 x1 v0 v1 FU 0 0 p276.2 v3
      else
        some (false, p276.2, v3)
    else
      Option.bind (GW_room x4 1 v0 v1 p15.2) fun p25 =>
      Option.bind (GW_gapFrom x4 v0 v1 p25.2) fun p33 =>
      nmL (imax x3 p25.1) fun (x3_44 : Int32) =>
      if 0 ≤ p25.1 then
        L_isSound_55 x1 v0 v1 (fun (x3 : Int32) (x4 : Int32) (v2 : SightV) (v3 : IntrV) => L_isSound_11 x1 v0 v1 x2 n x3 x4 v2 v3) x2 x3_44 x4 p25.1 p33.1 0 p33.2 v3
      else
        L_isSound_55 x1 v0 v1 (fun (x3 : Int32) (x4 : Int32) (v2 : SightV) (v3 : IntrV) => L_isSound_11 x1 v0 v1 x2 n x3 x4 v2 v3) x2 x3_44 x4 p25.1 p33.1 1 p33.2 v3

def L_isSound (x1 : Int32) (v0 : GWV) (v1 : HouseV) (v2 : SightV) (v3 : IntrV) : Option (Bool × SightV × IntrV) :=
  Option.bind (GW_size 3 v0 v1 v2) fun p2 =>
  L_isSound_11 x1 v0 v1 p2.1 FU 0 0 p2.2 v3

def L_isBest_150  (x1 : Int64) : Nat → Int32 → GWV → HouseV → HouseV → HistV → (Nat → HouseV) → SightV → SightV → BestV → HouseV → SightV → Option (Bool × GWV × HouseV × HouseV × HistV × (Nat → HouseV) × SightV × SightV × BestV × HouseV × SightV)
  | 0, _, _, _, _, _, _, _, _, _, _, _ => none
  | n + 1, x6, v0, v1, v2, v3, v4, v5, v6, v7, v8, v9 =>
    Option.bind (GW_size 2 v0 v1 v5) fun p154 =>
    if p154.1 ≤ x6 then
      Option.bind (GW_adopt v0 v1 v3 v4 v7 v8 v9) fun p185 =>
      if p185.1 = 0 then
        Option.bind (GW_undo p185.2.1 p185.2.2.1 p185.2.2.2.1 p185.2.2.2.2.1) fun p192 =>
        if p192.1 < 0 then
          some (false, p185.2.1, p192.2.1, v2, p192.2.2, p185.2.2.2.2.1, p154.2, v6, p185.2.2.2.2.2.1, p185.2.2.2.2.2.2.1, p185.2.2.2.2.2.2.2)
        else
          Option.bind (GW_undo p185.2.1 p192.2.1 p192.2.2 p185.2.2.2.2.1) fun p199 =>
          if p199.1 < 0 then
            some (false, p185.2.1, p199.2.1, v2, p199.2.2, p185.2.2.2.2.1, p154.2, v6, p185.2.2.2.2.2.1, p185.2.2.2.2.2.2.1, p185.2.2.2.2.2.2.2)
          else
            Option.bind (L_all p185.2.1 p199.2.1 p154.2) fun p206 =>
            if lg_cmp p206.1 x1 = 0 then
              some (true, p185.2.1, p199.2.1, v2, p199.2.2, p185.2.2.2.2.1, p206.2, v6, p185.2.2.2.2.2.1, p185.2.2.2.2.2.2.1, p185.2.2.2.2.2.2.2)
            else
              some (false, p185.2.1, p199.2.1, v2, p199.2.2, p185.2.2.2.2.1, p206.2, v6, p185.2.2.2.2.2.1, p185.2.2.2.2.2.2.1, p185.2.2.2.2.2.2.2)
      else
        some (false, p185.2.1, p185.2.2.1, v2, p185.2.2.2.1, p185.2.2.2.2.1, p154.2, v6, p185.2.2.2.2.2.1, p185.2.2.2.2.2.2.1, p185.2.2.2.2.2.2.2)
    else
      Option.bind (GW_guard x6 1 v0 v1) fun p164 =>
      Option.bind (GW_bestPhase x6 v0 v1 v7 v8 v9) fun p170 =>
      if p164 = p170.1 then
        nmL (x6 + 1) fun (x6_178 : Int32) =>
        L_isBest_150 x1 n x6_178 v0 v1 v2 v3 v4 p154.2 v6 p170.2.1 p170.2.2.1 p170.2.2.2
      else
        some (false, v0, v1, v2, v3, v4, p154.2, v6, p170.2.1, p170.2.2.1, p170.2.2.2)

def L_isBest_61  (x1 : Int64) (x3 : Int32) (x4 : Int32) (x5 : Int32) (x6 : Int32) (k22 : Int32 → Int32 → GWV → HouseV → HouseV → HistV → (Nat → HouseV) → SightV → SightV → BestV → HouseV → SightV → Option (Bool × GWV × HouseV × HouseV × HistV × (Nat → HouseV) × SightV × SightV × BestV × HouseV × SightV)) : Nat → Int32 → GWV → HouseV → HouseV → HistV → (Nat → HouseV) → SightV → SightV → BestV → HouseV → SightV → Option (Bool × GWV × HouseV × HouseV × HistV × (Nat → HouseV) × SightV × SightV × BestV × HouseV × SightV)
  | 0, _, _, _, _, _, _, _, _, _, _, _ => none
  | n + 1, x7, v0, v1, v2, v3, v4, v5, v6, v7, v8, v9 =>
    Option.bind (GW_guard x6 0 v0 v1) fun p67 =>
    if p67 ≤ x7 then
      nmL (x6 + 1) fun (x6_93 : Int32) =>
      k22 x5 x6_93 v0 v1 v2 v3 v4 v5 v6 v7 v8 v9
    else
      Option.bind (GW_worstWith x6 x7 v0 v1 v2 v6) fun p78 =>
      if x3 ≤ p78.1 then
        nmL (x7 + 1) fun (x7_87 : Int32) =>
        L_isBest_61 x1 x3 x4 x5 x6 k22 n x7_87 v0 v1 p78.2.1 v3 v4 v5 p78.2.2 v7 v8 v9
      else
        some (false, v0, v1, p78.2.1, v3, v4, v5, p78.2.2, v7, v8, v9)

def L_isBest_22  (x1 : Int64) (x3 : Int32) (x4 : Int32) : Nat → Int32 → Int32 → GWV → HouseV → HouseV → HistV → (Nat → HouseV) → SightV → SightV → BestV → HouseV → SightV → Option (Bool × GWV × HouseV × HouseV × HistV × (Nat → HouseV) × SightV × SightV × BestV × HouseV × SightV)
  | 0, _, _, _, _, _, _, _, _, _, _, _, _ => none
  | n + 1, x5, x6, v0, v1, v2, v3, v4, v5, v6, v7, v8, v9 =>
    Option.bind (GW_size 2 v0 v1 v5) fun p26 =>
    if p26.1 ≤ x6 then
      Option.bind (L_all v0 v1 p26.2) fun p100 =>
      if lg_cmp p100.1 x1 = 0 then
        Option.bind (GW_adopt v0 v1 v3 v4 v7 v8 v9) fun p109 =>
        if p109.1 = x5 then
          Option.bind (GW_size 5 p109.2.1 p109.2.2.1 p100.2) fun p119 =>
          if p119.1 = x3 then
            Option.bind (GW_size 7 p109.2.1 p109.2.2.1 p119.2) fun p129 =>
            if p129.1 = x4 then
              Option.bind (GW_bestWorst p109.2.1 p109.2.2.1 p109.2.2.2.2.2.1 p109.2.2.2.2.2.2.1 p109.2.2.2.2.2.2.2) fun p138 =>
              if p138.1 = x3 then
                L_isBest_150 x1 FU 0 p109.2.1 p109.2.2.1 v2 p109.2.2.2.1 p109.2.2.2.2.1 p129.2 v6 p138.2.1 p138.2.2.1 p138.2.2.2
              else
                some (false, p109.2.1, p109.2.2.1, v2, p109.2.2.2.1, p109.2.2.2.2.1, p129.2, v6, p138.2.1, p138.2.2.1, p138.2.2.2)
            else
              some (false, p109.2.1, p109.2.2.1, v2, p109.2.2.2.1, p109.2.2.2.2.1, p129.2, v6, p109.2.2.2.2.2.1, p109.2.2.2.2.2.2.1, p109.2.2.2.2.2.2.2)
          else
            some (false, p109.2.1, p109.2.2.1, v2, p109.2.2.2.1, p109.2.2.2.2.1, p119.2, v6, p109.2.2.2.2.2.1, p109.2.2.2.2.2.2.1, p109.2.2.2.2.2.2.2)
        else
          some (false, p109.2.1, p109.2.2.1, v2, p109.2.2.2.1, p109.2.2.2.2.1, p100.2, v6, p109.2.2.2.2.2.1, p109.2.2.2.2.2.2.1, p109.2.2.2.2.2.2.2)
      else
        some (false, v0, v1, v2, v3, v4, p100.2, v6, v7, v8, v9)
    else
      Option.bind (GW_bestPhase x6 v0 v1 v7 v8 v9) fun p37 =>
      Option.bind (GW_guard x6 1 v0 v1) fun p44 =>
      if p37.1 = p44 then
        nmL (x5 + 0) fun (x5_56 : Int32) =>
        L_isBest_61 x1 x3 x4 x5_56 x6 (fun (x5 : Int32) (x6 : Int32) (v0 : GWV) (v1 : HouseV) (v2 : HouseV) (v3 : HistV) (v4 : Nat → HouseV) (v5 : SightV) (v6 : SightV) (v7 : BestV) (v8 : HouseV) (v9 : SightV) => L_isBest_22 x1 x3 x4 n x5 x6 v0 v1 v2 v3 v4 v5 v6 v7 v8 v9) FU 0 v0 v1 v2 v3 v4 p26.2 v6 p37.2.1 p37.2.2.1 p37.2.2.2
      else
        nmL (x5 + 1) fun (x5_56 : Int32) =>
        L_isBest_61 x1 x3 x4 x5_56 x6 (fun (x5 : Int32) (x6 : Int32) (v0 : GWV) (v1 : HouseV) (v2 : HouseV) (v3 : HistV) (v4 : Nat → HouseV) (v5 : SightV) (v6 : SightV) (v7 : BestV) (v8 : HouseV) (v9 : SightV) => L_isBest_22 x1 x3 x4 n x5 x6 v0 v1 v2 v3 v4 v5 v6 v7 v8 v9) FU 0 v0 v1 v2 v3 v4 p26.2 v6 p37.2.1 p37.2.2.1 p37.2.2.2

def L_isBest (v0 : GWV) (v1 : HouseV) (v2 : HouseV) (v3 : HistV) (v4 : Nat → HouseV) (v5 : SightV) (v6 : SightV) (v7 : BestV) (v8 : HouseV) (v9 : SightV) : Option (Bool × GWV × HouseV × HouseV × HistV × (Nat → HouseV) × SightV × SightV × BestV × HouseV × SightV) :=
  Option.bind (L_all v0 v1 v5) fun p1 =>
  Option.bind (GW_bestWorst v0 v1 v7 v8 v9) fun p6 =>
  Option.bind (GW_bestCrossings v0 v1 p6.2.1 p6.2.2.1 p6.2.2.2) fun p11 =>
  L_isBest_22 p1.1 p6.1 p11.1 FU 0 0 v0 v1 v2 v3 v4 p1.2 v6 p11.2.1 p11.2.2.1 p11.2.2.2

def L_isPassed_154 (v0 : GWV)  (k124 : Int32 → HouseV → HistV → (Nat → HouseV) → SightV → Nat → (Nat → Int32) → Nat → (Nat → Int32) → Nat → (Nat → Int32) → Nat → Nat → Option (Bool × HouseV × HistV × (Nat → HouseV) × SightV)) (x1 : Int64) (x3 : Int32) (x4 : Int32) (x9 : Int32) (s0 : Int32) (v1 : HouseV) (v2 : HistV) (v3 : Nat → HouseV) (v4 : SightV) (l0 : Nat) (w0 : Nat → Int32) (l1 : Nat) (w1 : Nat → Int32) (l2 : Nat) (w2 : Nat → Int32) (c : Nat) (s : Nat) : Option (Bool × HouseV × HistV × (Nat → HouseV) × SightV) :=
  Option.bind (GW_room x9 4 v0 v1 v4) fun p160 =>
  gd (inB x9 l2) <|
  Option.bind (GW_room x9 3 v0 v1 p160.2) fun p173 =>
  if p160.1 = (w2 (Int32.toNatClampNeg x9)) + (2 * p173.1) then
    Option.bind (GW_room x9 7 v0 v1 p173.2) fun p186 =>
    gd (inB x9 l1) <|
    gd (inB x9 l0) <|
    if imax (w1 (Int32.toNatClampNeg x9)) ((w0 (Int32.toNatClampNeg x9)) + s0) < p186.1 then
      some (false, v1, v2, v3, p186.2)
    else
      Option.bind (GW_room x9 7 v0 v1 p186.2) fun p213 =>
      if imin s0 (2 * x3) ≤ p213.1 then
        nmL (x9 + 1) fun (x9_229 : Int32) =>
        k124 x9_229 v1 v2 v3 p213.2 l0 w0 l1 w1 l2 w2 c s
      else
        some (false, v1, v2, v3, p213.2)
  else
    some (false, v1, v2, v3, p173.2)

def L_isPassed_124 (v0 : GWV) (x1 : Int64) (x3 : Int32) (x4 : Int32) : Nat → Int32 → HouseV → HistV → (Nat → HouseV) → SightV → Nat → (Nat → Int32) → Nat → (Nat → Int32) → Nat → (Nat → Int32) → Nat → Nat → Option (Bool × HouseV × HistV × (Nat → HouseV) × SightV)
  | 0, _, _, _, _, _, _, _, _, _, _, _, _, _ => none
  | n + 1, x9, v1, v2, v3, v4, l0, w0, l1, w1, l2, w2, c, s =>
    if x4 ≤ x9 then
      Option.bind (GW_undo v0 v1 v2 v3) fun p236 =>
      if p236.1 < 0 then
        some (false, p236.2.1, p236.2.2, v3, v4)
      else
        Option.bind (L_all v0 p236.2.1 v4) fun p243 =>
        if lg_cmp p243.1 x1 = 0 then
          some (true, p236.2.1, p236.2.2, v3, p243.2)
        else
          some (false, p236.2.1, p236.2.2, v3, p243.2)
    else
      Option.bind (GW_room x9 1 v0 v1 v4) fun p135 =>
      if 0 ≤ p135.1 then
        Option.bind (GW_room x9 1 v0 v1 p135.2) fun p151 =>
        L_isPassed_154 v0 (fun (x9 : Int32) (v1 : HouseV) (v2 : HistV) (v3 : Nat → HouseV) (v4 : SightV) (l0 : Nat) (w0 : Nat → Int32) (l1 : Nat) (w1 : Nat → Int32) (l2 : Nat) (w2 : Nat → Int32) (c : Nat) (s : Nat) => L_isPassed_124 v0 x1 x3 x4 n x9 v1 v2 v3 v4 l0 w0 l1 w1 l2 w2 c s) x1 x3 x4 x9 p151.1 v1 v2 v3 p151.2 l0 w0 l1 w1 l2 w2 c s
      else
        L_isPassed_154 v0 (fun (x9 : Int32) (v1 : HouseV) (v2 : HistV) (v3 : Nat → HouseV) (v4 : SightV) (l0 : Nat) (w0 : Nat → Int32) (l1 : Nat) (w1 : Nat → Int32) (l2 : Nat) (w2 : Nat → Int32) (c : Nat) (s : Nat) => L_isPassed_124 v0 x1 x3 x4 n x9 v1 v2 v3 v4 l0 w0 l1 w1 l2 w2 c s) x1 x3 x4 x9 (2 * x3) v1 v2 v3 p135.2 l0 w0 l1 w1 l2 w2 c s

def L_isPassed_42 (v0 : GWV) (x1 : Int64) (x3 : Int32) (x4 : Int32) : Nat → Int32 → Int32 → HouseV → HistV → (Nat → HouseV) → SightV → Nat → (Nat → Int32) → Nat → (Nat → Int32) → Nat → (Nat → Int32) → Nat → Nat → Option (Bool × HouseV × HistV × (Nat → HouseV) × SightV)
  | 0, _, _, _, _, _, _, _, _, _, _, _, _, _, _ => none
  | n + 1, x5, x9, v1, v2, v3, v4, l0, w0, l1, w1, l2, w2, c, s =>
    if x4 ≤ x9 then
      Option.bind (GW_pass (2 * x3) v0 v1 v2 v3) fun p111 =>
      if p111.1 = x5 then
        L_isPassed_124 v0 x1 x3 x4 FU 0 p111.2.1 p111.2.2.1 p111.2.2.2 v4 l0 w0 l1 w1 l2 w2 c s
      else
        some (false, p111.2.1, p111.2.2.1, p111.2.2.2, v4)
    else
      Option.bind (GW_room x9 3 v0 v1 v4) fun p56 =>
      nmL (x5 + (2 * p56.1)) fun (x5_61 : Int32) =>
      Option.bind (GW_room x9 6 v0 v1 p56.2) fun p72 =>
      gd (inB x9 l0) <|
      nmL (upd w0 (Int32.toNatClampNeg x9) p72.1) fun (v5_75 : Nat → Int32) =>
      Option.bind (GW_room x9 7 v0 v1 p72.2) fun p85 =>
      gd (inB x9 l1) <|
      nmL (upd w1 (Int32.toNatClampNeg x9) p85.1) fun (v6_88 : Nat → Int32) =>
      Option.bind (GW_room x9 4 v0 v1 p85.2) fun p97 =>
      gd (inB x9 l2) <|
      nmL (upd w2 (Int32.toNatClampNeg x9) p97.1) fun (v7_100 : Nat → Int32) =>
      nmL (x9 + 1) fun (x9_101 : Int32) =>
      L_isPassed_42 v0 x1 x3 x4 n x5_61 x9_101 v1 v2 v3 p97.2 l0 v5_75 l1 v6_88 l2 v7_100 c s

def L_isPassed (v0 : GWV) (v1 : HouseV) (v2 : HistV) (v3 : Nat → HouseV) (v4 : SightV) : Option (Bool × HouseV × HistV × (Nat → HouseV) × SightV) :=
  Option.bind (L_all v0 v1 v4) fun p1 =>
  Option.bind (GW_size 3 v0 v1 p1.2) fun p7 =>
  Option.bind (GW_size 0 v0 v1 p7.2) fun p13 =>
  gd (inB p13.1 1001) <|
  gd (decide (0 + 1 ≤ 3 ∧ 0 + (Int32.toNatClampNeg p13.1) ≤ 36)) <|
  gd (decide (0 + 1 + 1 ≤ 3 ∧ 0 + (Int32.toNatClampNeg p13.1) + (Int32.toNatClampNeg p13.1) ≤ 36)) <|
  gd (decide (0 + 1 + 1 + 1 ≤ 3 ∧ 0 + (Int32.toNatClampNeg p13.1) + (Int32.toNatClampNeg p13.1) + (Int32.toNatClampNeg p13.1) ≤ 36)) <|
  L_isPassed_42 v0 p1.1 p7.1 p13.1 FU 0 0 v1 v2 v3 p13.2 (Int32.toNatClampNeg p13.1) (fun _ => 0) (Int32.toNatClampNeg p13.1) (fun _ => 0) (Int32.toNatClampNeg p13.1) (fun _ => 0) (0 + 1 + 1 + 1) (0 + (Int32.toNatClampNeg p13.1) + (Int32.toNatClampNeg p13.1) + (Int32.toNatClampNeg p13.1))

def L_act_118 (x3 : Int32)  (x6 : Int32) (s0 : Int32) (s1 : Int32) (s2 : Int32) (r3 : Nat) (v0 : GWV) (v1 : HouseV) (v2 : HouseV) (v3 : HistV) (v4 : Nat → HouseV) (v5 : SightV) (v6 : BestV) (v7 : HouseV) (v8 : SightV) (v9 : ToksV) (v11 : Nat → Int32) (v12 : OwnV) (v13 : Nat) (v14 : RowsT) (v15 : Nat) (v16 : RowsT) (v17 : Nat) (v18 : RowsT) (v19 : Nat → Int32) (c : Nat) (s : Nat) : Option (Int32 × GWV × HouseV × HouseV × HistV × (Nat → HouseV) × SightV × BestV × HouseV × SightV × ToksV × (Nat → Int32) × OwnV × Nat × RowsT × Nat × RowsT × Nat × RowsT × (Nat → Int32)) :=
  Option.bind (L_most s1 s0) fun p118 =>
  gd (decide (r3 < v16.1)) <|
  gd (inB s2 (v16.2.1 r3)) <|
  nmL (rrSet v16 r3 (upd (v16.2.2 r3) (Int32.toNatClampNeg s2) p118)) fun (v16_121 : RowsT) =>
  gd (inB x6 12) <|
  gd (decide ((Int32.toNatClampNeg x6) < v15)) <|
  gd (decide ((Int32.toNatClampNeg x6) < v16_121.1)) <|
  gd (inB 0 (v16_121.2.1 (Int32.toNatClampNeg x6))) <|
  Option.bind (GW_setLimit x6 (v16_121.2.2 (Int32.toNatClampNeg x6) (Int32.toNatClampNeg 0)) v0 v1 v3 v4 v5) fun p134 =>
  gd (decide (c + 156 ≤ 20700 ∧ s + 312 ≤ 44000)) <|
  Option.bind (Own_lates v12 v15 v16_121 v17 v18 v19) fun p138 =>
  if p134.1 = p138 then
    some (1, v0, p134.2.1, v2, p134.2.2.1, p134.2.2.2.1, p134.2.2.2.2, v6, v7, v8, v9, v11, v12, v13, v14, v15, v16_121, v17, v18, v19)
  else
    some ((-1), v0, p134.2.1, v2, p134.2.2.1, p134.2.2.2.1, p134.2.2.2.2, v6, v7, v8, v9, v11, v12, v13, v14, v15, v16_121, v17, v18, v19)

def L_act_202 (x3 : Int32)  (k169 : Int32 → Int32 → GWV → HouseV → HouseV → HistV → (Nat → HouseV) → SightV → BestV → HouseV → SightV → ToksV → (Nat → Int32) → OwnV → Nat → RowsT → Nat → RowsT → Nat → RowsT → (Nat → Int32) → (Nat → Int32) → Nat → Nat → Option (Int32 × GWV × HouseV × HouseV × HistV × (Nat → HouseV) × SightV × BestV × HouseV × SightV × ToksV × (Nat → Int32) × OwnV × Nat × RowsT × Nat × RowsT × Nat × RowsT × (Nat → Int32))) (x8 : Int32) (s0 : Int32) (s1 : Int32) (v0 : GWV) (v1 : HouseV) (v2 : HouseV) (v3 : HistV) (v4 : Nat → HouseV) (v5 : SightV) (v6 : BestV) (v7 : HouseV) (v8 : SightV) (v9 : ToksV) (v11 : Nat → Int32) (v12 : OwnV) (v13 : Nat) (v14 : RowsT) (v15 : Nat) (v16 : RowsT) (v17 : Nat) (v18 : RowsT) (v19 : Nat → Int32) (w0 : Nat → Int32) (c : Nat) (s : Nat) : Option (Int32 × GWV × HouseV × HouseV × HistV × (Nat → HouseV) × SightV × BestV × HouseV × SightV × ToksV × (Nat → Int32) × OwnV × Nat × RowsT × Nat × RowsT × Nat × RowsT × (Nat → Int32)) :=
  nmL (s1 + s0) fun (x7_203 : Int32) =>
  gd (inB (2 + x8) 6) <|
  gd (inB x8 4) <|
  nmL (upd v19 (Int32.toNatClampNeg x8) (w0 (Int32.toNatClampNeg (2 + x8)))) fun (v19_218 : Nat → Int32) =>
  nmL (x8 + 1) fun (x8_219 : Int32) =>
  k169 x7_203 x8_219 v0 v1 v2 v3 v4 v5 v6 v7 v8 v9 v11 v12 v13 v14 v15 v16 v17 v18 v19_218 w0 c s

def L_act_169 (x3 : Int32)  : Nat → Int32 → Int32 → GWV → HouseV → HouseV → HistV → (Nat → HouseV) → SightV → BestV → HouseV → SightV → ToksV → (Nat → Int32) → OwnV → Nat → RowsT → Nat → RowsT → Nat → RowsT → (Nat → Int32) → (Nat → Int32) → Nat → Nat → Option (Int32 × GWV × HouseV × HouseV × HistV × (Nat → HouseV) × SightV × BestV × HouseV × SightV × ToksV × (Nat → Int32) × OwnV × Nat × RowsT × Nat × RowsT × Nat × RowsT × (Nat → Int32))
  | 0, _, _, _, _, _, _, _, _, _, _, _, _, _, _, _, _, _, _, _, _, _, _, _, _ => none
  | n + 1, x7, x8, v0, v1, v2, v3, v4, v5, v6, v7, v8, v9, v11, v12, v13, v14, v15, v16, v17, v18, v19, w0, c, s =>
    if Own_guards v12 ≤ x8 then
      Option.bind (GW_adopt v0 v1 v3 v4 v6 v7 v8) fun p226 =>
      if p226.1 = x7 then
        some (1, p226.2.1, p226.2.2.1, v2, p226.2.2.2.1, p226.2.2.2.2.1, v5, p226.2.2.2.2.2.1, p226.2.2.2.2.2.2.1, p226.2.2.2.2.2.2.2, v9, v11, v12, v13, v14, v15, v16, v17, v18, v19)
      else
        some ((-1), p226.2.1, p226.2.2.1, v2, p226.2.2.2.1, p226.2.2.2.2.1, v5, p226.2.2.2.2.2.1, p226.2.2.2.2.2.2.1, p226.2.2.2.2.2.2.2, v9, v11, v12, v13, v14, v15, v16, v17, v18, v19)
    else
      gd (inB x8 4) <|
      gd (inB (2 + x8) 6) <|
      if v19 (Int32.toNatClampNeg x8) = w0 (Int32.toNatClampNeg (2 + x8)) then
        L_act_202 x3 (fun (x7 : Int32) (x8 : Int32) (v0 : GWV) (v1 : HouseV) (v2 : HouseV) (v3 : HistV) (v4 : Nat → HouseV) (v5 : SightV) (v6 : BestV) (v7 : HouseV) (v8 : SightV) (v9 : ToksV) (v11 : Nat → Int32) (v12 : OwnV) (v13 : Nat) (v14 : RowsT) (v15 : Nat) (v16 : RowsT) (v17 : Nat) (v18 : RowsT) (v19 : Nat → Int32) (w0 : Nat → Int32) (c : Nat) (s : Nat) => L_act_169 x3 n x7 x8 v0 v1 v2 v3 v4 v5 v6 v7 v8 v9 v11 v12 v13 v14 v15 v16 v17 v18 v19 w0 c s) x8 0 x7 v0 v1 v2 v3 v4 v5 v6 v7 v8 v9 v11 v12 v13 v14 v15 v16 v17 v18 v19 w0 c s
      else
        L_act_202 x3 (fun (x7 : Int32) (x8 : Int32) (v0 : GWV) (v1 : HouseV) (v2 : HouseV) (v3 : HistV) (v4 : Nat → HouseV) (v5 : SightV) (v6 : BestV) (v7 : HouseV) (v8 : SightV) (v9 : ToksV) (v11 : Nat → Int32) (v12 : OwnV) (v13 : Nat) (v14 : RowsT) (v15 : Nat) (v16 : RowsT) (v17 : Nat) (v18 : RowsT) (v19 : Nat → Int32) (w0 : Nat → Int32) (c : Nat) (s : Nat) => L_act_169 x3 n x7 x8 v0 v1 v2 v3 v4 v5 v6 v7 v8 v9 v11 v12 v13 v14 v15 v16 v17 v18 v19 w0 c s) x8 1 x7 v0 v1 v2 v3 v4 v5 v6 v7 v8 v9 v11 v12 v13 v14 v15 v16 v17 v18 v19 w0 c s

def L_act_332 (x3 : Int32)  (x6 : Int32) (s0 : Int32) (v0 : GWV) (v1 : HouseV) (v2 : HouseV) (v3 : HistV) (v4 : Nat → HouseV) (v5 : SightV) (v6 : BestV) (v7 : HouseV) (v8 : SightV) (v9 : ToksV) (v11 : Nat → Int32) (v12 : OwnV) (v13 : Nat) (v14 : RowsT) (v15 : Nat) (v16 : RowsT) (v17 : Nat) (v18 : RowsT) (v19 : Nat → Int32) (c : Nat) (s : Nat) : Option (Int32 × GWV × HouseV × HouseV × HistV × (Nat → HouseV) × SightV × BestV × HouseV × SightV × ToksV × (Nat → Int32) × OwnV × Nat × RowsT × Nat × RowsT × Nat × RowsT × (Nat → Int32)) :=
  if 0 ≤ s0 then
    gd (inB x6 20) <|
    gd (decide ((Int32.toNatClampNeg x6) < v13)) <|
    gd (decide ((Int32.toNatClampNeg x6) < v14.1)) <|
    gd (inB 2 (v14.2.1 (Int32.toNatClampNeg x6))) <|
    nmL (rrSet v14 (Int32.toNatClampNeg x6) (upd (v14.2.2 (Int32.toNatClampNeg x6)) (Int32.toNatClampNeg 2) 0)) fun (v14_365 : RowsT) =>
    Option.bind (GW_closeDoor x6 v0 v1 v3 v4) fun p369 =>
    Option.bind (Own_opens (-1) v12 v13 v14_365) fun p374 =>
    if p369.1 = p374 then
      some (1, v0, p369.2.1, v2, p369.2.2.1, p369.2.2.2, v5, v6, v7, v8, v9, v11, v12, v13, v14_365, v15, v16, v17, v18, v19)
    else
      some ((-1), v0, p369.2.1, v2, p369.2.2.1, p369.2.2.2, v5, v6, v7, v8, v9, v11, v12, v13, v14_365, v15, v16, v17, v18, v19)
  else
    Option.bind (GW_closeDoor x6 v0 v1 v3 v4) fun p342 =>
    if p342.1 = s0 then
      some (0, v0, p342.2.1, v2, p342.2.2.1, p342.2.2.2, v5, v6, v7, v8, v9, v11, v12, v13, v14, v15, v16, v17, v18, v19)
    else
      some ((-1), v0, p342.2.1, v2, p342.2.2.1, p342.2.2.2, v5, v6, v7, v8, v9, v11, v12, v13, v14, v15, v16, v17, v18, v19)

def L_act_331 (x3 : Int32)  (x6 : Int32) (v0 : GWV) (v1 : HouseV) (v2 : HouseV) (v3 : HistV) (v4 : Nat → HouseV) (v5 : SightV) (v6 : BestV) (v7 : HouseV) (v8 : SightV) (v9 : ToksV) (v11 : Nat → Int32) (v12 : OwnV) (v13 : Nat) (v14 : RowsT) (v15 : Nat) (v16 : RowsT) (v17 : Nat) (v18 : RowsT) (v19 : Nat → Int32) (c : Nat) (s : Nat) : Option (Int32 × GWV × HouseV × HouseV × HistV × (Nat → HouseV) × SightV × BestV × HouseV × SightV × ToksV × (Nat → Int32) × OwnV × Nat × RowsT × Nat × RowsT × Nat × RowsT × (Nat → Int32)) :=
  L_act_332 x3 x6 0 v0 v1 v2 v3 v4 v5 v6 v7 v8 v9 v11 v12 v13 v14 v15 v16 v17 v18 v19 c s

def L_act_40 (x3 : Int32)  (s0 : Int32) (s1 : Int32) (s2 : Int32) (v0 : GWV) (v1 : HouseV) (v2 : HouseV) (v3 : HistV) (v4 : Nat → HouseV) (v5 : SightV) (v6 : BestV) (v7 : HouseV) (v8 : SightV) (v9 : ToksV) (v11 : Nat → Int32) (v12 : OwnV) (v13 : Nat) (v14 : RowsT) (v15 : Nat) (v16 : RowsT) (v17 : Nat) (v18 : RowsT) (v19 : Nat → Int32) (c : Nat) (s : Nat) : Option (Int32 × GWV × HouseV × HouseV × HistV × (Nat → HouseV) × SightV × BestV × HouseV × SightV × ToksV × (Nat → Int32) × OwnV × Nat × RowsT × Nat × RowsT × Nat × RowsT × (Nat → Int32)) :=
  Option.bind (L_most s1 s0) fun p40 =>
  nmL (s2 + p40) fun (x6_44 : Int32) =>
  Option.bind (Own_pass x6_44 v12 v15 v16 v17 v18 v19) fun p49 =>
  Option.bind (GW_pass x6_44 v0 v1 v3 v4) fun p57 =>
  if p57.1 = p49.1 then
    some (1, v0, p57.2.1, v2, p57.2.2.1, p57.2.2.2, v5, v6, v7, v8, v9, v11, p49.2.1, v13, v14, v15, p49.2.2, v17, v18, v19)
  else
    some ((-1), v0, p57.2.1, v2, p57.2.2.1, p57.2.2.2, v5, v6, v7, v8, v9, v11, p49.2.1, v13, v14, v15, p49.2.2, v17, v18, v19)

def L_act (x3 : Int32) (v0 : GWV) (v1 : HouseV) (v2 : HouseV) (v3 : HistV) (v4 : Nat → HouseV) (v5 : SightV) (v6 : BestV) (v7 : HouseV) (v8 : SightV) (v9 : ToksV) (v11 : Nat → Int32) (v12 : OwnV) (v13 : Nat) (v14 : RowsT) (v15 : Nat) (v16 : RowsT) (v17 : Nat) (v18 : RowsT) (v19 : Nat → Int32) : Option (Int32 × GWV × HouseV × HouseV × HistV × (Nat → HouseV) × SightV × BestV × HouseV × SightV × ToksV × (Nat → Int32) × OwnV × Nat × RowsT × Nat × RowsT × Nat × RowsT × (Nat → Int32)) :=
  Option.bind (L_most x3 16) fun p3 =>
  nmL (x3 >>> (4 &&& 31)) fun (x5_11 : Int32) =>
  if 5 ≤ p3 then
    if p3 = 5 then
      Option.bind (L_most x5_11 (Own_rooms v12)) fun p83 =>
      gd (inB p83 12) <|
      gd (decide ((Int32.toNatClampNeg p83) < v15)) <|
      Option.bind (L_most (x5_11 >>> (5 &&& 31)) 3) fun p105 =>
      if p105 = 0 then
        L_act_118 x3 p83 100 (x5_11 >>> (3 &&& 31)) 0 (Int32.toNatClampNeg p83) v0 v1 v2 v3 v4 v5 v6 v7 v8 v9 v11 v12 v13 v14 v15 v16 v17 v18 v19 0 0
      else
        L_act_118 x3 p83 6 (x5_11 >>> (3 &&& 31)) 0 (Int32.toNatClampNeg p83) v0 v1 v2 v3 v4 v5 v6 v7 v8 v9 v11 v12 v13 v14 v15 v16 v17 v18 v19 0 0
    else
      if p3 = 6 then
        gd (decide (0 + 20600 ≤ 20700 ∧ 0 + 43000 ≤ 44000)) <|
        Option.bind (Own_best v12 v13 v14 v15 v16 v17 v18 v19) fun p158 =>
        L_act_169 x3 FU 0 0 v0 v1 v2 v3 v4 v5 v6 v7 v8 v9 v11 v12 v13 v14 v15 v16 v17 v18 v19 p158 (0 + 20600) (0 + 43000)
      else
        if 12 ≤ p3 then
          if Own_guards v12 = 0 then
            some (0, v0, v1, v2, v3, v4, v5, v6, v7, v8, v9, v11, v12, v13, v14, v15, v16, v17, v18, v19)
          else
            Option.bind (L_most x5_11 (Own_guards v12)) fun p461 =>
            if 14 ≤ p3 then
              gd (inB p461 4) <|
              gd (decide ((Int32.toNatClampNeg p461) < v17)) <|
              gd (decide ((Int32.toNatClampNeg p461) < v18.1)) <|
              Option.bind (L_most (x5_11 >>> (3 &&& 31)) (nI (v18.2.1 (Int32.toNatClampNeg p461)))) fun p579 =>
              nmL (upd v19 (Int32.toNatClampNeg p461) p579) fun (v19_582 : Nat → Int32) =>
              Option.bind (GW_shift p461 (v19_582 (Int32.toNatClampNeg p461)) v0 v1 v3 v4 v5) fun p593 =>
              gd (decide (0 + 78 ≤ 20700 ∧ 0 + 156 ≤ 44000)) <|
              Option.bind (Own_worst v12 v17 v18 v19_582) fun p597 =>
              if p593.1 = p597 then
                some (1, p593.2.1, p593.2.2.1, v2, p593.2.2.2.1, p593.2.2.2.2.1, p593.2.2.2.2.2, v6, v7, v8, v9, v11, v12, v13, v14, v15, v16, v17, v18, v19_582)
              else
                some ((-1), p593.2.1, p593.2.2.1, v2, p593.2.2.2.1, p593.2.2.2.2.1, p593.2.2.2.2.2, v6, v7, v8, v9, v11, v12, v13, v14, v15, v16, v17, v18, v19_582)
            else
              gd (decide (0 + 2 ≤ 20700 ∧ 0 + 20 ≤ 44000)) <|
              Option.bind (Own_walkBy (x5_11 >>> (2 &&& 31)) v12 v13 v14) fun p484 =>
              gd (inB p461 4) <|
              gd (decide ((Int32.toNatClampNeg p461) < v17)) <|
              gd (decide ((Int32.toNatClampNeg p461) < v18.1)) <|
              nmL (rrPut v18 (Int32.toNatClampNeg p461) p484.1 p484.2) fun (v18_487 : RowsT) =>
              gd (decide ((Int32.toNatClampNeg p461) < v18_487.1)) <|
              Option.bind (L_most (x5_11 >>> (8 &&& 31)) (nI (v18_487.2.1 (Int32.toNatClampNeg p461)))) fun p507 =>
              nmL (upd v19 (Int32.toNatClampNeg p461) p507) fun (v19_510 : Nat → Int32) =>
              Option.bind (L_with 24 p461 v0 v9 v11) fun p517 =>
              Option.bind (L_walkOf (v19_510 (Int32.toNatClampNeg p461)) v0 p517.1 p517.2 (v18_487.2.1 (Int32.toNatClampNeg p461)) (v18_487.2.2 (Int32.toNatClampNeg p461))) fun p536 =>
              Option.bind (L_end v0 p536.1 p536.2) fun p542 =>
              Option.bind (GW_change p542.1 v0 v1 v2 v3 v4 p542.2.1) fun p545 =>
              Option.bind (Own_cycle v12 v17 v18_487) fun p549 =>
              if p545.1 = p549 then
                some (1, p545.2.1, p545.2.2.1, p545.2.2.2.1, p545.2.2.2.2.1, p545.2.2.2.2.2.1, v5, v6, v7, v8, p545.2.2.2.2.2.2, p542.2.2, v12, v13, v14, v15, v16, v17, v18_487, v19_510)
              else
                some ((-1), p545.2.1, p545.2.2.1, p545.2.2.2.1, p545.2.2.2.2.1, p545.2.2.2.2.2.1, v5, v6, v7, v8, p545.2.2.2.2.2.2, p542.2.2, v12, v13, v14, v15, v16, v17, v18_487, v19_510)
        else
          if Own_doors v12 = 0 then
            some (0, v0, v1, v2, v3, v4, v5, v6, v7, v8, v9, v11, v12, v13, v14, v15, v16, v17, v18, v19)
          else
            Option.bind (L_most x5_11 (Own_doors v12)) fun p262 =>
            if 9 ≤ p3 then
              gd (inB p262 20) <|
              gd (decide ((Int32.toNatClampNeg p262) < v13)) <|
              gd (decide ((Int32.toNatClampNeg p262) < v14.1)) <|
              gd (inB 2 (v14.2.1 (Int32.toNatClampNeg p262))) <|
              if v14.2.2 (Int32.toNatClampNeg p262) (Int32.toNatClampNeg 2) = 1 then
                Option.bind (GW_openDoor p262 v0 v1 v3 v4) fun p402 =>
                if p402.1 = (-2) then
                  some (0, v0, p402.2.1, v2, p402.2.2.1, p402.2.2.2, v5, v6, v7, v8, v9, v11, v12, v13, v14, v15, v16, v17, v18, v19)
                else
                  some ((-1), v0, p402.2.1, v2, p402.2.2.1, p402.2.2.2, v5, v6, v7, v8, v9, v11, v12, v13, v14, v15, v16, v17, v18, v19)
              else
                nmL (rrSet v14 (Int32.toNatClampNeg p262) (upd (v14.2.2 (Int32.toNatClampNeg p262)) (Int32.toNatClampNeg 2) 1)) fun (v14_425 : RowsT) =>
                Option.bind (GW_openDoor p262 v0 v1 v3 v4) fun p429 =>
                Option.bind (Own_opens (-1) v12 v13 v14_425) fun p434 =>
                if p429.1 = p434 then
                  some (1, v0, p429.2.1, v2, p429.2.2.1, p429.2.2.2, v5, v6, v7, v8, v9, v11, v12, v13, v14_425, v15, v16, v17, v18, v19)
                else
                  some ((-1), v0, p429.2.1, v2, p429.2.2.1, p429.2.2.2, v5, v6, v7, v8, v9, v11, v12, v13, v14_425, v15, v16, v17, v18, v19)
            else
              gd (inB p262 20) <|
              gd (decide ((Int32.toNatClampNeg p262) < v13)) <|
              gd (decide ((Int32.toNatClampNeg p262) < v14.1)) <|
              gd (inB 2 (v14.2.1 (Int32.toNatClampNeg p262))) <|
              if v14.2.2 (Int32.toNatClampNeg p262) (Int32.toNatClampNeg 2) = 0 then
                L_act_332 x3 p262 (-2) v0 v1 v2 v3 v4 v5 v6 v7 v8 v9 v11 v12 v13 v14 v15 v16 v17 v18 v19 0 0
              else
                Option.bind (Own_through p262 v12 v13 v14 v17 v18) fun p294 =>
                if p294 ≤ 0 then
                  L_act_331 x3 p262 v0 v1 v2 v3 v4 v5 v6 v7 v8 v9 v11 v12 v13 v14 v15 v16 v17 v18 v19 0 0
                else
                  gd (inB 0 (v14.2.1 (Int32.toNatClampNeg p262))) <|
                  gd (inB 1 (v14.2.1 (Int32.toNatClampNeg p262))) <|
                  Option.bind (Own_open (v14.2.2 (Int32.toNatClampNeg p262) (Int32.toNatClampNeg 0)) (v14.2.2 (Int32.toNatClampNeg p262) (Int32.toNatClampNeg 1)) v12 v13 v14) fun p319 =>
                  if p319 = 1 then
                    L_act_332 x3 p262 (-3) v0 v1 v2 v3 v4 v5 v6 v7 v8 v9 v11 v12 v13 v14 v15 v16 v17 v18 v19 0 0
                  else
                    L_act_331 x3 p262 v0 v1 v2 v3 v4 v5 v6 v7 v8 v9 v11 v12 v13 v14 v15 v16 v17 v18 v19 0 0
  else
    Option.bind (L_most (x5_11 >>> (3 &&& 31)) 4) fun p27 =>
    if p27 = 0 then
      L_act_40 x3 60 x5_11 1 v0 v1 v2 v3 v4 v5 v6 v7 v8 v9 v11 v12 v13 v14 v15 v16 v17 v18 v19 0 0
    else
      L_act_40 x3 6 x5_11 1 v0 v1 v2 v3 v4 v5 v6 v7 v8 v9 v11 v12 v13 v14 v15 v16 v17 v18 v19 0 0

