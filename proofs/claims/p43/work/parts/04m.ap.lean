def L_most (x0 : Int32) (x1 : Int32) : Option Int32 :=
  gd (nz x1) <|
  some ((x0 &&& 2147483647) - (x0 &&& 2147483647) / x1 * x1)

def Own_open_54 (x1 : Int32) (x2 : Int32) (v0 : OwnV) (v1 : Nat) (v2 : RowsT)  (k5 : Int32 → Int32 → Option Int32) (x4 : Int32) (s0 : Int32) : Option Int32 :=
  gd (inB x4 20) <|
  gd (decide ((Int32.toNatClampNeg x4) < v1)) <|
  gd (decide ((Int32.toNatClampNeg x4) < v2.1)) <|
  gd (inB 0 (v2.2.1 (Int32.toNatClampNeg x4))) <|
  if v2.2.2 (Int32.toNatClampNeg x4) (Int32.toNatClampNeg 0) = x2 then
    gd (inB 1 (v2.2.1 (Int32.toNatClampNeg x4))) <|
    if v2.2.2 (Int32.toNatClampNeg x4) (Int32.toNatClampNeg 1) = x1 then
      nmL (s0 + 1) fun (x3_86 : Int32) =>
      nmL (x4 + 1) fun (x4_87 : Int32) =>
      k5 x3_86 x4_87
    else
      nmL (s0 + 0) fun (x3_86 : Int32) =>
      nmL (x4 + 1) fun (x4_87 : Int32) =>
      k5 x3_86 x4_87
  else
    nmL (s0 + 0) fun (x3_86 : Int32) =>
    nmL (x4 + 1) fun (x4_87 : Int32) =>
    k5 x3_86 x4_87

def Own_open_5 (x1 : Int32) (x2 : Int32) (v0 : OwnV) (v1 : Nat) (v2 : RowsT)  : Nat → Int32 → Int32 → Option Int32
  | 0, _, _ => none
  | n + 1, x3, x4 =>
    if Own_doors v0 ≤ x4 then
      some x3
    else
      gd (inB x4 20) <|
      gd (decide ((Int32.toNatClampNeg x4) < v1)) <|
      gd (decide ((Int32.toNatClampNeg x4) < v2.1)) <|
      gd (inB 2 (v2.2.1 (Int32.toNatClampNeg x4))) <|
      if v2.2.2 (Int32.toNatClampNeg x4) (Int32.toNatClampNeg 2) = 1 then
        gd (inB 0 (v2.2.1 (Int32.toNatClampNeg x4))) <|
        if v2.2.2 (Int32.toNatClampNeg x4) (Int32.toNatClampNeg 0) = x1 then
          gd (inB 1 (v2.2.1 (Int32.toNatClampNeg x4))) <|
          if v2.2.2 (Int32.toNatClampNeg x4) (Int32.toNatClampNeg 1) = x2 then
            nmL (x3 + 1) fun (x3_86 : Int32) =>
            nmL (x4 + 1) fun (x4_87 : Int32) =>
            Own_open_5 x1 x2 v0 v1 v2 n x3_86 x4_87
          else
            Own_open_54 x1 x2 v0 v1 v2 (fun (x3 : Int32) (x4 : Int32) => Own_open_5 x1 x2 v0 v1 v2 n x3 x4) x4 x3
        else
          Own_open_54 x1 x2 v0 v1 v2 (fun (x3 : Int32) (x4 : Int32) => Own_open_5 x1 x2 v0 v1 v2 n x3 x4) x4 x3
      else
        nmL (x3 + 0) fun (x3_86 : Int32) =>
        nmL (x4 + 1) fun (x4_87 : Int32) =>
        Own_open_5 x1 x2 v0 v1 v2 n x3_86 x4_87

def Own_open (x1 : Int32) (x2 : Int32) (v0 : OwnV) (v1 : Nat) (v2 : RowsT) : Option Int32 :=
  Own_open_5 x1 x2 v0 v1 v2 FU 0 0

def Own_opens_41 (x1 : Int32) (v0 : OwnV) (v1 : Nat) (v2 : RowsT)  (k4 : Int32 → Int32 → Option Int32) (x3 : Int32) (s0 : Int32) : Option Int32 :=
  gd (inB x3 20) <|
  gd (decide ((Int32.toNatClampNeg x3) < v1)) <|
  gd (decide ((Int32.toNatClampNeg x3) < v2.1)) <|
  gd (inB 2 (v2.2.1 (Int32.toNatClampNeg x3))) <|
  nmL (s0 + (v2.2.2 (Int32.toNatClampNeg x3) (Int32.toNatClampNeg 2))) fun (x2_54 : Int32) =>
  nmL (x3 + 1) fun (x3_55 : Int32) =>
  k4 x2_54 x3_55

def Own_opens_4 (x1 : Int32) (v0 : OwnV) (v1 : Nat) (v2 : RowsT)  : Nat → Int32 → Int32 → Option Int32
  | 0, _, _ => none
  | n + 1, x2, x3 =>
    if Own_doors v0 ≤ x3 then
      some x2
    else
      if x1 < 0 then
        Own_opens_41 x1 v0 v1 v2 (fun (x2 : Int32) (x3 : Int32) => Own_opens_4 x1 v0 v1 v2 n x2 x3) x3 x2
      else
        gd (inB x3 20) <|
        gd (decide ((Int32.toNatClampNeg x3) < v1)) <|
        gd (decide ((Int32.toNatClampNeg x3) < v2.1)) <|
        gd (inB 0 (v2.2.1 (Int32.toNatClampNeg x3))) <|
        if v2.2.2 (Int32.toNatClampNeg x3) (Int32.toNatClampNeg 0) = x1 then
          Own_opens_41 x1 v0 v1 v2 (fun (x2 : Int32) (x3 : Int32) => Own_opens_4 x1 v0 v1 v2 n x2 x3) x3 x2
        else
          gd (inB 1 (v2.2.1 (Int32.toNatClampNeg x3))) <|
          if v2.2.2 (Int32.toNatClampNeg x3) (Int32.toNatClampNeg 1) = x1 then
            Own_opens_41 x1 v0 v1 v2 (fun (x2 : Int32) (x3 : Int32) => Own_opens_4 x1 v0 v1 v2 n x2 x3) x3 x2
          else
            nmL (x2 + 0) fun (x2_54 : Int32) =>
            nmL (x3 + 1) fun (x3_55 : Int32) =>
            Own_opens_4 x1 v0 v1 v2 n x2_54 x3_55

def Own_opens (x1 : Int32) (v0 : OwnV) (v1 : Nat) (v2 : RowsT) : Option Int32 :=
  Own_opens_4 x1 v0 v1 v2 FU 0 0

def Own_cycle_6 (v0 : OwnV) (v1 : Nat) (v2 : RowsT) (x1 : Int32) (k2 : Int32 → Option Int32) : Nat → Int32 → Int32 → Option Int32
  | 0, _, _ => none
  | n + 1, x2, x3 =>
    if Own_guards v0 ≤ x3 then
      if x2 = 0 then
        nmL (x1 + 1) fun (x1_46 : Int32) =>
        k2 x1_46
      else
        some x1
    else
      gd (inB x3 4) <|
      gd (decide ((Int32.toNatClampNeg x3) < v1)) <|
      gd (decide ((Int32.toNatClampNeg x3) < v2.1)) <|
      gd (nz (nI (v2.2.1 (Int32.toNatClampNeg x3)))) <|
      if x1 - x1 / (nI (v2.2.1 (Int32.toNatClampNeg x3))) * (nI (v2.2.1 (Int32.toNatClampNeg x3))) = 0 then
        nmL (x2 &&& 1) fun (x2_33 : Int32) =>
        nmL (x3 + 1) fun (x3_34 : Int32) =>
        Own_cycle_6 v0 v1 v2 x1 k2 n x2_33 x3_34
      else
        nmL (x2 &&& 0) fun (x2_33 : Int32) =>
        nmL (x3 + 1) fun (x3_34 : Int32) =>
        Own_cycle_6 v0 v1 v2 x1 k2 n x2_33 x3_34

def Own_cycle_2 (v0 : OwnV) (v1 : Nat) (v2 : RowsT)  : Nat → Int32 → Option Int32
  | 0, _ => none
  | n + 1, x1 =>
    Own_cycle_6 v0 v1 v2 x1 (fun (x1 : Int32) => Own_cycle_2 v0 v1 v2 n x1) FU 1 0

def Own_cycle (v0 : OwnV) (v1 : Nat) (v2 : RowsT) : Option Int32 :=
  Own_cycle_2 v0 v1 v2 FU 1

def Own_at (x1 : Int32) (x2 : Int64) (v0 : OwnV) (v1 : Nat) (v2 : RowsT) (v3 : Nat → Int32) : Option Int32 :=
  gd (inB x1 4) <|
  gd (decide ((Int32.toNatClampNeg x1) < v1)) <|
  gd (decide ((Int32.toNatClampNeg x1) < v2.1)) <|
  gd (nzl (Int32.toInt64 (nI (v2.2.1 (Int32.toNatClampNeg x1))))) <|
  gd (inB (Int64.toInt32 ((x2 + (Int32.toInt64 (v3 (Int32.toNatClampNeg x1)))) - (x2 + (Int32.toInt64 (v3 (Int32.toNatClampNeg x1)))) / (Int32.toInt64 (nI (v2.2.1 (Int32.toNatClampNeg x1)))) * (Int32.toInt64 (nI (v2.2.1 (Int32.toNatClampNeg x1)))))) (v2.2.1 (Int32.toNatClampNeg x1))) <|
  some (v2.2.2 (Int32.toNatClampNeg x1) (Int32.toNatClampNeg (Int64.toInt32 ((x2 + (Int32.toInt64 (v3 (Int32.toNatClampNeg x1)))) - (x2 + (Int32.toInt64 (v3 (Int32.toNatClampNeg x1)))) / (Int32.toInt64 (nI (v2.2.1 (Int32.toNatClampNeg x1)))) * (Int32.toInt64 (nI (v2.2.1 (Int32.toNatClampNeg x1))))))))

def Own_in_6 (x1 : Int32) (x2 : Int64) (v0 : OwnV) (v1 : Nat) (v2 : RowsT) (v3 : Nat → Int32)  : Nat → Int32 → Int32 → Option Int32
  | 0, _, _ => none
  | n + 1, x4, x5 =>
    if Own_guards v0 ≤ x5 then
      some x4
    else
      Option.bind (Own_at x5 x2 v0 v1 v2 v3) fun p21 =>
      if p21 = x1 then
        nmL (x4 ||| (1 <<< (x5 &&& 31))) fun (x4_37 : Int32) =>
        nmL (x5 + 1) fun (x5_39 : Int32) =>
        Own_in_6 x1 x2 v0 v1 v2 v3 n x4_37 x5_39
      else
        nmL (x4 ||| 0) fun (x4_37 : Int32) =>
        nmL (x5 + 1) fun (x5_39 : Int32) =>
        Own_in_6 x1 x2 v0 v1 v2 v3 n x4_37 x5_39

def Own_in (x1 : Int32) (x2 : Int64) (v0 : OwnV) (v1 : Nat) (v2 : RowsT) (v3 : Nat → Int32) : Option Int32 :=
  Own_in_6 x1 x2 v0 v1 v2 v3 FU 0 0

def Own_seen_10 (x1 : Int32) (v0 : OwnV) (v1 : Nat) (v2 : RowsT) (v3 : Nat → Int32) (x3 : Int32) : Nat → Int32 → Int32 → Option Int32
  | 0, _, _ => none
  | n + 1, x2, x4 =>
    if x3 ≤ x4 then
      some x2
    else
      Option.bind (Own_in x1 (Int32.toInt64 x4) v0 v1 v2 v3) fun p22 =>
      if p22 = 0 then
        nmL (x2 + 0) fun (x2_34 : Int32) =>
        nmL (x4 + 1) fun (x4_35 : Int32) =>
        Own_seen_10 x1 v0 v1 v2 v3 x3 n x2_34 x4_35
      else
        nmL (x2 + 1) fun (x2_34 : Int32) =>
        nmL (x4 + 1) fun (x4_35 : Int32) =>
        Own_seen_10 x1 v0 v1 v2 v3 x3 n x2_34 x4_35

def Own_seen (x1 : Int32) (v0 : OwnV) (v1 : Nat) (v2 : RowsT) (v3 : Nat → Int32) : Option Int32 :=
  Option.bind (Own_cycle v0 v1 v2) fun p3 =>
  Own_seen_10 x1 v0 v1 v2 v3 p3 FU 0 0

def Own_gap_72 (x1 : Int32) (v0 : OwnV) (v1 : Nat) (v2 : RowsT) (v3 : Nat → Int32) (x2 : Int32) (x4 : Int32) (k34 : Int32 → (Nat → Int32) → Nat → Nat → Option (Nat → Int32)) : Nat → Int32 → (Nat → Int32) → Nat → Nat → Option (Nat → Int32)
  | 0, _, _, _, _ => none
  | n + 1, x5, w0, c, s =>
    Option.bind (Own_in x1 (Int32.toInt64 (x4 + x5)) v0 v1 v2 v3) fun p80 =>
    if p80 = 0 then
      nmL (x5 + 1) fun (x5_86 : Int32) =>
      Own_gap_72 x1 v0 v1 v2 v3 x2 x4 k34 n x5_86 w0 c s
    else
      gd (inB 0 2) <|
      if x5 ≤ w0 (Int32.toNatClampNeg 0) then
        nmL (x4 + 1) fun (x4_114 : Int32) =>
        k34 x4_114 w0 c s
      else
        gd (decide (c + 1 ≤ 13 ∧ s + 2 ≤ 26)) <|
        nmL (upd (fun _ => 0) (Int32.toNatClampNeg 0) x5) fun (v5_107 : Nat → Int32) =>
        gd (inB 1 2) <|
        nmL (upd v5_107 (Int32.toNatClampNeg 1) x4) fun (v5_112 : Nat → Int32) =>
        nmL (x4 + 1) fun (x4_114 : Int32) =>
        k34 x4_114 v5_112 (c + 1) (s + 2)

def Own_gap_34 (x1 : Int32) (v0 : OwnV) (v1 : Nat) (v2 : RowsT) (v3 : Nat → Int32) (x2 : Int32) : Nat → Int32 → (Nat → Int32) → Nat → Nat → Option (Nat → Int32)
  | 0, _, _, _, _ => none
  | n + 1, x4, w0, c, s =>
    if x2 ≤ x4 then
      some w0
    else
      Option.bind (Own_in x1 (Int32.toInt64 x4) v0 v1 v2 v3) fun p45 =>
      if p45 = 0 then
        Option.bind (Own_in x1 (Int32.toInt64 ((x4 + x2) - 1)) v0 v1 v2 v3) fun p60 =>
        if p60 = 0 then
          nmL (x4 + 1) fun (x4_114 : Int32) =>
          Own_gap_34 x1 v0 v1 v2 v3 x2 n x4_114 w0 c s
        else
          Own_gap_72 x1 v0 v1 v2 v3 x2 x4 (fun (x4 : Int32) (w0 : Nat → Int32) (c : Nat) (s : Nat) => Own_gap_34 x1 v0 v1 v2 v3 x2 n x4 w0 c s) FU 0 w0 c s
      else
        nmL (x4 + 1) fun (x4_114 : Int32) =>
        Own_gap_34 x1 v0 v1 v2 v3 x2 n x4_114 w0 c s

def Own_gap (x1 : Int32) (v0 : OwnV) (v1 : Nat) (v2 : RowsT) (v3 : Nat → Int32) : Option (Nat → Int32) :=
  Option.bind (Own_cycle v0 v1 v2) fun p1 =>
  gd (decide (0 + 1 ≤ 13 ∧ 0 + 2 ≤ 26)) <|
  gd (inB 0 2) <|
  nmL (upd (fun _ => 0) (Int32.toNatClampNeg 0) (-1)) fun (v4_11 : Nat → Int32) =>
  gd (inB 1 2) <|
  nmL (upd v4_11 (Int32.toNatClampNeg 1) (-1)) fun (v4_15 : Nat → Int32) =>
  Option.bind (Own_seen x1 v0 v1 v2 v3) fun p19 =>
  if p19 = 0 then
    some v4_15
  else
    nmL (upd v4_15 (Int32.toNatClampNeg 0) 0) fun (v4_30 : Nat → Int32) =>
    Own_gap_34 x1 v0 v1 v2 v3 p1 FU 0 v4_30 (0 + 1) (0 + 2)

def Own_late (x1 : Int32) (v0 : OwnV) (v1 : Nat) (v2 : RowsT) (v3 : Nat) (v4 : RowsT) (v5 : Nat → Int32) : Option Bool :=
  gd (decide (0 + 13 ≤ 26 ∧ 0 + 26 ≤ 52)) <|
  Option.bind (Own_gap x1 v0 v3 v4 v5) fun p2 =>
  gd (inB 0 2) <|
  if p2 (Int32.toNatClampNeg 0) < 0 then
    some true
  else
    gd (decide (0 + 13 + 13 ≤ 26 ∧ 0 + 26 + 26 ≤ 52)) <|
    Option.bind (Own_gap x1 v0 v3 v4 v5) fun p12 =>
    gd (inB x1 12) <|
    gd (decide ((Int32.toNatClampNeg x1) < v1)) <|
    gd (decide ((Int32.toNatClampNeg x1) < v2.1)) <|
    gd (inB 0 (v2.2.1 (Int32.toNatClampNeg x1))) <|
    if p12 (Int32.toNatClampNeg 0) ≤ v2.2.2 (Int32.toNatClampNeg x1) (Int32.toNatClampNeg 0) then
      some false
    else
      some true

def Own_worst_4 (v0 : OwnV) (v1 : Nat) (v2 : RowsT) (v3 : Nat → Int32)  : Nat → Int32 → Int32 → Nat → Nat → Option Int32
  | 0, _, _, _, _ => none
  | n + 1, x1, x2, c, s =>
    if Own_rooms v0 ≤ x2 then
      some x1
    else
      gd (decide (c + 13 ≤ 78 ∧ s + 26 ≤ 156)) <|
      Option.bind (Own_gap x2 v0 v1 v2 v3) fun p15 =>
      gd (inB 0 2) <|
      nmL (imax x1 (p15 (Int32.toNatClampNeg 0))) fun (x1_23 : Int32) =>
      nmL (x2 + 1) fun (x2_24 : Int32) =>
      Own_worst_4 v0 v1 v2 v3 n x1_23 x2_24 (c + 13) (s + 26)

def Own_worst (v0 : OwnV) (v1 : Nat) (v2 : RowsT) (v3 : Nat → Int32) : Option Int32 :=
  Own_worst_4 v0 v1 v2 v3 FU 0 0 0 0

def Own_lates_4 (v0 : OwnV) (v1 : Nat) (v2 : RowsT) (v3 : Nat) (v4 : RowsT) (v5 : Nat → Int32)  : Nat → Int32 → Int32 → Nat → Nat → Option Int32
  | 0, _, _, _, _ => none
  | n + 1, x1, x2, c, s =>
    if Own_rooms v0 ≤ x2 then
      some x1
    else
      gd (decide (c + 26 ≤ 156 ∧ s + 52 ≤ 312)) <|
      Option.bind (Own_late x2 v0 v1 v2 v3 v4 v5) fun p15 =>
      bif p15 then
        nmL (x1 + 1) fun (x1_27 : Int32) =>
        nmL (x2 + 1) fun (x2_28 : Int32) =>
        Own_lates_4 v0 v1 v2 v3 v4 v5 n x1_27 x2_28 (c + 26) (s + 52)
      else
        nmL (x1 + 0) fun (x1_27 : Int32) =>
        nmL (x2 + 1) fun (x2_28 : Int32) =>
        Own_lates_4 v0 v1 v2 v3 v4 v5 n x1_27 x2_28 (c + 26) (s + 52)

def Own_lates (v0 : OwnV) (v1 : Nat) (v2 : RowsT) (v3 : Nat) (v4 : RowsT) (v5 : Nat → Int32) : Option Int32 :=
  Own_lates_4 v0 v1 v2 v3 v4 v5 FU 0 0 0 0

def Own_meets_11 (x1 : Int32) (x2 : Int32) (v0 : OwnV) (v1 : Nat) (v2 : RowsT) (v3 : Nat → Int32) (x4 : Int32) : Nat → Int32 → Int32 → Option Int32
  | 0, _, _ => none
  | n + 1, x3, x5 =>
    if x4 ≤ x5 then
      some x3
    else
      Option.bind (Own_at x1 (Int32.toInt64 x5) v0 v1 v2 v3) fun p24 =>
      Option.bind (Own_at x2 (Int32.toInt64 x5) v0 v1 v2 v3) fun p32 =>
      if p24 = p32 then
        nmL (x3 + 1) fun (x3_44 : Int32) =>
        nmL (x5 + 1) fun (x5_45 : Int32) =>
        Own_meets_11 x1 x2 v0 v1 v2 v3 x4 n x3_44 x5_45
      else
        nmL (x3 + 0) fun (x3_44 : Int32) =>
        nmL (x5 + 1) fun (x5_45 : Int32) =>
        Own_meets_11 x1 x2 v0 v1 v2 v3 x4 n x3_44 x5_45

def Own_meets (x1 : Int32) (x2 : Int32) (v0 : OwnV) (v1 : Nat) (v2 : RowsT) (v3 : Nat → Int32) : Option Int32 :=
  Option.bind (Own_cycle v0 v1 v2) fun p3 =>
  Own_meets_11 x1 x2 v0 v1 v2 v3 p3 FU 0 0

def Own_passes_11 (x1 : Int32) (x2 : Int32) (v0 : OwnV) (v1 : Nat) (v2 : RowsT) (v3 : Nat → Int32) (x4 : Int32) : Nat → Int32 → Int32 → Option Int32
  | 0, _, _ => none
  | n + 1, x3, x5 =>
    if x4 ≤ x5 then
      some x3
    else
      Option.bind (Own_at x1 (Int32.toInt64 x5) v0 v1 v2 v3) fun p24 =>
      Option.bind (Own_at x2 (Int32.toInt64 x5) v0 v1 v2 v3) fun p32 =>
      if p24 = p32 then
        nmL (x3 + 0) fun (x3_86 : Int32) =>
        nmL (x5 + 1) fun (x5_87 : Int32) =>
        Own_passes_11 x1 x2 v0 v1 v2 v3 x4 n x3_86 x5_87
      else
        Option.bind (Own_at x1 (Int32.toInt64 x5) v0 v1 v2 v3) fun p43 =>
        Option.bind (Own_at x2 (Int32.toInt64 (x5 + 1)) v0 v1 v2 v3) fun p53 =>
        if p43 = p53 then
          Option.bind (Own_at x2 (Int32.toInt64 x5) v0 v1 v2 v3) fun p64 =>
          Option.bind (Own_at x1 (Int32.toInt64 (x5 + 1)) v0 v1 v2 v3) fun p74 =>
          if p64 = p74 then
            nmL (x3 + 1) fun (x3_86 : Int32) =>
            nmL (x5 + 1) fun (x5_87 : Int32) =>
            Own_passes_11 x1 x2 v0 v1 v2 v3 x4 n x3_86 x5_87
          else
            nmL (x3 + 0) fun (x3_86 : Int32) =>
            nmL (x5 + 1) fun (x5_87 : Int32) =>
            Own_passes_11 x1 x2 v0 v1 v2 v3 x4 n x3_86 x5_87
        else
          nmL (x3 + 0) fun (x3_86 : Int32) =>
          nmL (x5 + 1) fun (x5_87 : Int32) =>
          Own_passes_11 x1 x2 v0 v1 v2 v3 x4 n x3_86 x5_87

def Own_passes (x1 : Int32) (x2 : Int32) (v0 : OwnV) (v1 : Nat) (v2 : RowsT) (v3 : Nat → Int32) : Option Int32 :=
  Option.bind (Own_cycle v0 v1 v2) fun p3 =>
  Own_passes_11 x1 x2 v0 v1 v2 v3 p3 FU 0 0

def Own_crossings_16 (v0 : OwnV) (v1 : Nat) (v2 : RowsT) (v3 : Nat → Int32) (x2 : Int32) (k4 : Int32 → Int32 → Option Int32) : Nat → Int32 → Int32 → Option Int32
  | 0, _, _ => none
  | n + 1, x1, x3 =>
    if Own_guards v0 ≤ x3 then
      nmL (x2 + 1) fun (x2_46 : Int32) =>
      k4 x1 x2_46
    else
      Option.bind (Own_meets x2 x3 v0 v1 v2 v3) fun p28 =>
      Option.bind (Own_passes x2 x3 v0 v1 v2 v3) fun p34 =>
      nmL (x1 + (p28 + p34)) fun (x1_39 : Int32) =>
      nmL (x3 + 1) fun (x3_40 : Int32) =>
      Own_crossings_16 v0 v1 v2 v3 x2 k4 n x1_39 x3_40

def Own_crossings_4 (v0 : OwnV) (v1 : Nat) (v2 : RowsT) (v3 : Nat → Int32)  : Nat → Int32 → Int32 → Option Int32
  | 0, _, _ => none
  | n + 1, x1, x2 =>
    if Own_guards v0 ≤ x2 then
      some x1
    else
      nmL (x2 + 1) fun (x3_15 : Int32) =>
      Own_crossings_16 v0 v1 v2 v3 x2 (fun (x1 : Int32) (x2 : Int32) => Own_crossings_4 v0 v1 v2 v3 n x1 x2) FU x1 x3_15

def Own_crossings (v0 : OwnV) (v1 : Nat) (v2 : RowsT) (v3 : Nat → Int32) : Option Int32 :=
  Own_crossings_4 v0 v1 v2 v3 FU 0 0

def Own_pass_12 (x1 : Int32) (v1 : Nat) (v3 : Nat) (v4 : RowsT) (v5 : Nat → Int32) (x3 : Int32) (k4 : Int32 → Int32 → OwnV → RowsT → Option (Int32 × OwnV × RowsT)) : Nat → Int32 → Int32 → OwnV → RowsT → Option (Int32 × OwnV × RowsT)
  | 0, _, _, _, _ => none
  | n + 1, x2, x4, v0, v2 =>
    if Own_rooms v0 ≤ x4 then
      nmL (Own_set_minute v0 ((Own_minute v0) + 1)) fun (v0_133 : OwnV) =>
      nmL (x3 + 1) fun (x3_136 : Int32) =>
      k4 x2 x3_136 v0_133 v2
    else
      Option.bind (Own_in x4 (Int32.toInt64 (Own_minute v0)) v0 v3 v4 v5) fun p29 =>
      if p29 = 0 then
        gd (inB x4 12) <|
        gd (decide ((Int32.toNatClampNeg x4) < v1)) <|
        gd (decide ((Int32.toNatClampNeg x4) < v2.1)) <|
        gd (inB 3 (v2.2.1 (Int32.toNatClampNeg x4))) <|
        nmL (rrSet v2 (Int32.toNatClampNeg x4) (upd (v2.2.2 (Int32.toNatClampNeg x4)) (Int32.toNatClampNeg 3) ((v2.2.2 (Int32.toNatClampNeg x4) (Int32.toNatClampNeg 3)) + 1))) fun (v2_89 : RowsT) =>
        gd (decide ((Int32.toNatClampNeg x4) < v2_89.1)) <|
        gd (inB 4 (v2_89.2.1 (Int32.toNatClampNeg x4))) <|
        gd (inB 3 (v2_89.2.1 (Int32.toNatClampNeg x4))) <|
        nmL (rrSet v2_89 (Int32.toNatClampNeg x4) (upd (v2_89.2.2 (Int32.toNatClampNeg x4)) (Int32.toNatClampNeg 4) (imax (v2_89.2.2 (Int32.toNatClampNeg x4) (Int32.toNatClampNeg 4)) (v2_89.2.2 (Int32.toNatClampNeg x4) (Int32.toNatClampNeg 3))))) fun (v2_119 : RowsT) =>
        nmL (x4 + 1) fun (x4_120 : Int32) =>
        Own_pass_12 x1 v1 v3 v4 v5 x3 k4 n x2 x4_120 v0 v2_119
      else
        gd (inB x4 12) <|
        gd (decide ((Int32.toNatClampNeg x4) < v1)) <|
        gd (decide ((Int32.toNatClampNeg x4) < v2.1)) <|
        gd (inB 1 (v2.2.1 (Int32.toNatClampNeg x4))) <|
        nmL (rrSet v2 (Int32.toNatClampNeg x4) (upd (v2.2.2 (Int32.toNatClampNeg x4)) (Int32.toNatClampNeg 1) ((v2.2.2 (Int32.toNatClampNeg x4) (Int32.toNatClampNeg 1)) + 1))) fun (v2_47 : RowsT) =>
        gd (decide ((Int32.toNatClampNeg x4) < v2_47.1)) <|
        gd (inB 2 (v2_47.2.1 (Int32.toNatClampNeg x4))) <|
        nmL (rrSet v2_47 (Int32.toNatClampNeg x4) (upd (v2_47.2.2 (Int32.toNatClampNeg x4)) (Int32.toNatClampNeg 2) (Own_minute v0))) fun (v2_60 : RowsT) =>
        gd (decide ((Int32.toNatClampNeg x4) < v2_60.1)) <|
        gd (inB 3 (v2_60.2.1 (Int32.toNatClampNeg x4))) <|
        nmL (rrSet v2_60 (Int32.toNatClampNeg x4) (upd (v2_60.2.2 (Int32.toNatClampNeg x4)) (Int32.toNatClampNeg 3) 0)) fun (v2_70 : RowsT) =>
        nmL (x2 + 1) fun (x2_71 : Int32) =>
        nmL (x4 + 1) fun (x4_120 : Int32) =>
        Own_pass_12 x1 v1 v3 v4 v5 x3 k4 n x2_71 x4_120 v0 v2_70

def Own_pass_4 (x1 : Int32) (v1 : Nat) (v3 : Nat) (v4 : RowsT) (v5 : Nat → Int32)  : Nat → Int32 → Int32 → OwnV → RowsT → Option (Int32 × OwnV × RowsT)
  | 0, _, _, _, _ => none
  | n + 1, x2, x3, v0, v2 =>
    if x1 ≤ x3 then
      some (x2, v0, v2)
    else
      Own_pass_12 x1 v1 v3 v4 v5 x3 (fun (x2 : Int32) (x3 : Int32) (v0 : OwnV) (v2 : RowsT) => Own_pass_4 x1 v1 v3 v4 v5 n x2 x3 v0 v2) FU x2 0 v0 v2

def Own_pass (x1 : Int32) (v0 : OwnV) (v1 : Nat) (v2 : RowsT) (v3 : Nat) (v4 : RowsT) (v5 : Nat → Int32) : Option (Int32 × OwnV × RowsT) :=
  Own_pass_4 x1 v1 v3 v4 v5 FU 0 0 v0 v2

def Own_through_90 (x1 : Int32) (v0 : OwnV) (v1 : Nat) (v2 : RowsT) (v3 : Nat) (v4 : RowsT)  (k4 : Int32 → Int32 → Option Int32) (k18 : Int32 → Int32 → Option Int32) (x2 : Int32) (x3 : Int32) (x5 : Int32) (x6 : Int32) (x7 : Int32) (s0 : Int32) : Option Int32 :=
  gd (inB x1 20) <|
  gd (decide ((Int32.toNatClampNeg x1) < v1)) <|
  gd (decide ((Int32.toNatClampNeg x1) < v2.1)) <|
  gd (inB 0 (v2.2.1 (Int32.toNatClampNeg x1))) <|
  if x7 = v2.2.2 (Int32.toNatClampNeg x1) (Int32.toNatClampNeg 0) then
    gd (inB 1 (v2.2.1 (Int32.toNatClampNeg x1))) <|
    if x6 = v2.2.2 (Int32.toNatClampNeg x1) (Int32.toNatClampNeg 1) then
      nmL (s0 ||| 1) fun (x4_122 : Int32) =>
      nmL (x5 + 1) fun (x5_124 : Int32) =>
      k18 x4_122 x5_124
    else
      nmL (s0 ||| 0) fun (x4_122 : Int32) =>
      nmL (x5 + 1) fun (x5_124 : Int32) =>
      k18 x4_122 x5_124
  else
    nmL (s0 ||| 0) fun (x4_122 : Int32) =>
    nmL (x5 + 1) fun (x5_124 : Int32) =>
    k18 x4_122 x5_124

def Own_through_18 (x1 : Int32) (v0 : OwnV) (v1 : Nat) (v2 : RowsT) (v3 : Nat) (v4 : RowsT) (x2 : Int32) (x3 : Int32) (k4 : Int32 → Int32 → Option Int32) : Nat → Int32 → Int32 → Option Int32
  | 0, _, _ => none
  | n + 1, x4, x5 =>
    gd (inB x3 4) <|
    gd (decide ((Int32.toNatClampNeg x3) < v3)) <|
    gd (decide ((Int32.toNatClampNeg x3) < v4.1)) <|
    if nI (v4.2.1 (Int32.toNatClampNeg x3)) ≤ x5 then
      if x4 = 0 then
        nmL (x2 + 0) fun (x2_142 : Int32) =>
        nmL (x3 + 1) fun (x3_143 : Int32) =>
        k4 x2_142 x3_143
      else
        nmL (x2 + 1) fun (x2_142 : Int32) =>
        nmL (x3 + 1) fun (x3_143 : Int32) =>
        k4 x2_142 x3_143
    else
      gd (inB x5 (v4.2.1 (Int32.toNatClampNeg x3))) <|
      nmL (v4.2.2 (Int32.toNatClampNeg x3) (Int32.toNatClampNeg x5)) fun (x6_39 : Int32) =>
      gd (nz (nI (v4.2.1 (Int32.toNatClampNeg x3)))) <|
      gd (inB ((x5 + 1) - (x5 + 1) / (nI (v4.2.1 (Int32.toNatClampNeg x3))) * (nI (v4.2.1 (Int32.toNatClampNeg x3)))) (v4.2.1 (Int32.toNatClampNeg x3))) <|
      nmL (v4.2.2 (Int32.toNatClampNeg x3) (Int32.toNatClampNeg ((x5 + 1) - (x5 + 1) / (nI (v4.2.1 (Int32.toNatClampNeg x3))) * (nI (v4.2.1 (Int32.toNatClampNeg x3)))))) fun (x7_60 : Int32) =>
      gd (inB x1 20) <|
      gd (decide ((Int32.toNatClampNeg x1) < v1)) <|
      gd (decide ((Int32.toNatClampNeg x1) < v2.1)) <|
      gd (inB 0 (v2.2.1 (Int32.toNatClampNeg x1))) <|
      if x6_39 = v2.2.2 (Int32.toNatClampNeg x1) (Int32.toNatClampNeg 0) then
        gd (inB 1 (v2.2.1 (Int32.toNatClampNeg x1))) <|
        if x7_60 = v2.2.2 (Int32.toNatClampNeg x1) (Int32.toNatClampNeg 1) then
          nmL (x4 ||| 1) fun (x4_122 : Int32) =>
          nmL (x5 + 1) fun (x5_124 : Int32) =>
          Own_through_18 x1 v0 v1 v2 v3 v4 x2 x3 k4 n x4_122 x5_124
        else
          Own_through_90 x1 v0 v1 v2 v3 v4 k4 (fun (x4 : Int32) (x5 : Int32) => Own_through_18 x1 v0 v1 v2 v3 v4 x2 x3 k4 n x4 x5) x2 x3 x5 x6_39 x7_60 x4
      else
        Own_through_90 x1 v0 v1 v2 v3 v4 k4 (fun (x4 : Int32) (x5 : Int32) => Own_through_18 x1 v0 v1 v2 v3 v4 x2 x3 k4 n x4 x5) x2 x3 x5 x6_39 x7_60 x4

def Own_through_4 (x1 : Int32) (v0 : OwnV) (v1 : Nat) (v2 : RowsT) (v3 : Nat) (v4 : RowsT)  : Nat → Int32 → Int32 → Option Int32
  | 0, _, _ => none
  | n + 1, x2, x3 =>
    if Own_guards v0 ≤ x3 then
      some x2
    else
      Own_through_18 x1 v0 v1 v2 v3 v4 x2 x3 (fun (x2 : Int32) (x3 : Int32) => Own_through_4 x1 v0 v1 v2 v3 v4 n x2 x3) FU 0 0

def Own_through (x1 : Int32) (v0 : OwnV) (v1 : Nat) (v2 : RowsT) (v3 : Nat) (v4 : RowsT) : Option Int32 :=
  Own_through_4 x1 v0 v1 v2 v3 v4 FU 0 0

def Own_walkBy_130 (x1 : Int32) (v0 : OwnV) (v1 : Nat) (v2 : RowsT) (x2 : Int32) : Nat → Int32 → Nat → (Nat → Int32) → Nat → (Nat → Int32) → Nat → Nat → Option (Nat × (Nat → Int32))
  | 0, _, _, _, _, _, _, _ => none
  | n + 1, x5, l0, w0, l1, w1, c, s =>
    if x2 ≤ x5 then
      some (l1, w1)
    else
      gd (inB x5 l0) <|
      gd (inB x5 l1) <|
      nmL (upd w1 (Int32.toNatClampNeg x5) (w0 (Int32.toNatClampNeg x5))) fun (v4_144 : Nat → Int32) =>
      nmL (x5 + 1) fun (x5_145 : Int32) =>
      Own_walkBy_130 x1 v0 v1 v2 x2 n x5_145 l0 w0 l1 v4_144 c s

def Own_walkBy_85 (x1 : Int32) (v0 : OwnV) (v1 : Nat) (v2 : RowsT)  : Nat → Int32 → Nat → (Nat → Int32) → Nat → Nat → Option (Nat × (Nat → Int32))
  | 0, _, _, _, _, _ => none
  | n + 1, x2, l0, w0, c, s =>
    if x2 ≤ 1 then
      gd (inB x2 1001) <|
      gd (decide (c + 1 ≤ 2 ∧ s + (Int32.toNatClampNeg x2) ≤ 20)) <|
      Own_walkBy_130 x1 v0 v1 v2 x2 FU 0 l0 w0 (Int32.toNatClampNeg x2) (fun _ => 0) (c + 1) (s + (Int32.toNatClampNeg x2))
    else
      gd (inB (x2 - 1) l0) <|
      gd (inB 0 l0) <|
      if w0 (Int32.toNatClampNeg (x2 - 1)) = w0 (Int32.toNatClampNeg 0) then
        gd (inB x2 1001) <|
        gd (decide (c + 1 ≤ 2 ∧ s + (Int32.toNatClampNeg x2) ≤ 20)) <|
        Own_walkBy_130 x1 v0 v1 v2 x2 FU 0 l0 w0 (Int32.toNatClampNeg x2) (fun _ => 0) (c + 1) (s + (Int32.toNatClampNeg x2))
      else
        Option.bind (Own_open (w0 (Int32.toNatClampNeg (x2 - 1))) (w0 (Int32.toNatClampNeg 0)) v0 v1 v2) fun p110 =>
        if p110 = 0 then
          nmL (x2 + (-1)) fun (x2_116 : Int32) =>
          Own_walkBy_85 x1 v0 v1 v2 n x2_116 l0 w0 c s
        else
          gd (inB x2 1001) <|
          gd (decide (c + 1 ≤ 2 ∧ s + (Int32.toNatClampNeg x2) ≤ 20)) <|
          Own_walkBy_130 x1 v0 v1 v2 x2 FU 0 l0 w0 (Int32.toNatClampNeg x2) (fun _ => 0) (c + 1) (s + (Int32.toNatClampNeg x2))

def Own_walkBy_28 (x1 : Int32) (v0 : OwnV) (v1 : Nat) (v2 : RowsT) (x2 : Int32) : Nat → Int32 → Nat → (Nat → Int32) → Nat → Nat → Option (Nat × (Nat → Int32))
  | 0, _, _, _, _, _ => none
  | n + 1, x4, l0, w0, c, s =>
    if x2 ≤ x4 then
      Own_walkBy_85 x1 v0 v1 v2 FU x2 l0 w0 c s
    else
      Option.bind (L_most (x1 >>> ((x4 + 4) &&& 31)) (Own_rooms v0)) fun p44 =>
      gd (inB (x4 - 1) l0) <|
      Option.bind (Own_open (w0 (Int32.toNatClampNeg (x4 - 1))) p44 v0 v1 v2) fun p61 =>
      if p61 ≤ 0 then
        gd (inB x4 l0) <|
        nmL (upd w0 (Int32.toNatClampNeg x4) (w0 (Int32.toNatClampNeg (x4 - 1)))) fun (v3_78 : Nat → Int32) =>
        nmL (x4 + 1) fun (x4_79 : Int32) =>
        Own_walkBy_28 x1 v0 v1 v2 x2 n x4_79 l0 v3_78 c s
      else
        gd (inB x4 l0) <|
        nmL (upd w0 (Int32.toNatClampNeg x4) p44) fun (v3_78 : Nat → Int32) =>
        nmL (x4 + 1) fun (x4_79 : Int32) =>
        Own_walkBy_28 x1 v0 v1 v2 x2 n x4_79 l0 v3_78 c s

def Own_walkBy (x1 : Int32) (v0 : OwnV) (v1 : Nat) (v2 : RowsT) : Option (Nat × (Nat → Int32)) :=
  Option.bind (L_most x1 4) fun p3 =>
  nmL (1 + p3) fun (x2_7 : Int32) =>
  gd (inB x2_7 1001) <|
  gd (decide (0 + 1 ≤ 2 ∧ 0 + (Int32.toNatClampNeg x2_7) ≤ 20)) <|
  Option.bind (L_most (x1 >>> (3 &&& 31)) (Own_rooms v0)) fun p21 =>
  gd (inB 0 (Int32.toNatClampNeg x2_7)) <|
  nmL (upd (fun _ => 0) (Int32.toNatClampNeg 0) p21) fun (v3_24 : Nat → Int32) =>
  Own_walkBy_28 x1 v0 v1 v2 x2_7 FU 1 (Int32.toNatClampNeg x2_7) v3_24 (0 + 1) (0 + (Int32.toNatClampNeg x2_7))

def Own_copy_110 (v0 : OwnV) (v1 : Nat) (v2 : RowsT) (v3 : Nat) (v4 : RowsT) (v5 : Nat) (v6 : RowsT) (v7 : Nat → Int32)  : Nat → Int32 → OwnV → Nat → RowsT → (Nat → Int32) → Nat → RowsT → Nat → Nat → Nat → Option (OwnV × Nat × RowsT × Nat × RowsT × Nat × (Nat → Int32))
  | 0, _, _, _, _, _, _, _, _, _, _ => none
  | n + 1, x2, w0, w1, w2, w3, w4, w5, w6, c, s =>
    if Own_guards v0 ≤ x2 then
      gd (decide (c + 1 ≤ 64 ∧ s + 4 ≤ 600)) <|
      some (w0, w1, w2, w4, w5, w6, (v7))
    else
      gd (inB x2 4) <|
      gd (decide ((Int32.toNatClampNeg x2) < v5)) <|
      gd (decide ((Int32.toNatClampNeg x2) = w6)) <|
      gd (decide ((Int32.toNatClampNeg x2) < v6.1)) <|
      nmL (w6 + 1) fun (v14_129 : Nat) =>
      nmL (x2 + 1) fun (x2_130 : Int32) =>
      Own_copy_110 v0 v1 v2 v3 v4 v5 v6 v7 n x2_130 w0 w1 w2 w3 w4 w5 v14_129 c s

def Own_copy_76 (v0 : OwnV) (v1 : Nat) (v2 : RowsT) (v3 : Nat) (v4 : RowsT) (v5 : Nat) (v6 : RowsT) (v7 : Nat → Int32)  : Nat → Int32 → OwnV → Nat → RowsT → (Nat → Int32) → Nat → RowsT → Nat → Nat → Nat → Option (OwnV × Nat × RowsT × Nat × RowsT × Nat × (Nat → Int32))
  | 0, _, _, _, _, _, _, _, _, _, _ => none
  | n + 1, x2, w0, w1, w2, w3, w4, w5, w6, c, s =>
    if Own_rooms v0 ≤ x2 then
      Own_copy_110 v0 v1 v2 v3 v4 v5 v6 v7 FU 0 w0 w1 w2 w3 w4 w5 w6 c s
    else
      gd (inB x2 12) <|
      gd (decide ((Int32.toNatClampNeg x2) < v3)) <|
      gd (decide ((Int32.toNatClampNeg x2) < v4.1)) <|
      gd (decide (c + 1 ≤ 64 ∧ s + (v4.2.1 (Int32.toNatClampNeg x2)) ≤ 600)) <|
      gd (decide ((Int32.toNatClampNeg x2) = w4 ∧ w4 = w5.1)) <|
      nmL (w4 + 1) fun (v12_101 : Nat) =>
      nmL (rrApp w5 (v4.2.1 (Int32.toNatClampNeg x2)) (v4.2.2 (Int32.toNatClampNeg x2))) fun (v13_101 : RowsT) =>
      nmL (x2 + 1) fun (x2_102 : Int32) =>
      Own_copy_76 v0 v1 v2 v3 v4 v5 v6 v7 n x2_102 w0 w1 w2 w3 v12_101 v13_101 w6 (c + 1) (s + (v4.2.1 (Int32.toNatClampNeg x2)))

def Own_copy_42 (v0 : OwnV) (v1 : Nat) (v2 : RowsT) (v3 : Nat) (v4 : RowsT) (v5 : Nat) (v6 : RowsT) (v7 : Nat → Int32)  : Nat → Int32 → OwnV → Nat → RowsT → (Nat → Int32) → Nat → RowsT → Nat → Nat → Nat → Option (OwnV × Nat × RowsT × Nat × RowsT × Nat × (Nat → Int32))
  | 0, _, _, _, _, _, _, _, _, _, _ => none
  | n + 1, x2, w0, w1, w2, w3, w4, w5, w6, c, s =>
    if Own_doors v0 ≤ x2 then
      Own_copy_76 v0 v1 v2 v3 v4 v5 v6 v7 FU 0 w0 w1 w2 w3 w4 w5 w6 c s
    else
      gd (inB x2 20) <|
      gd (decide ((Int32.toNatClampNeg x2) < v1)) <|
      gd (decide ((Int32.toNatClampNeg x2) < v2.1)) <|
      gd (decide (c + 1 ≤ 64 ∧ s + (v2.2.1 (Int32.toNatClampNeg x2)) ≤ 600)) <|
      gd (decide ((Int32.toNatClampNeg x2) = w1 ∧ w1 = w2.1)) <|
      nmL (w1 + 1) fun (v9_67 : Nat) =>
      nmL (rrApp w2 (v2.2.1 (Int32.toNatClampNeg x2)) (v2.2.2 (Int32.toNatClampNeg x2))) fun (v10_67 : RowsT) =>
      nmL (x2 + 1) fun (x2_68 : Int32) =>
      Own_copy_42 v0 v1 v2 v3 v4 v5 v6 v7 n x2_68 w0 v9_67 v10_67 w3 w4 w5 w6 (c + 1) (s + (v2.2.1 (Int32.toNatClampNeg x2)))

def Own_copy (v0 : OwnV) (v1 : Nat) (v2 : RowsT) (v3 : Nat) (v4 : RowsT) (v5 : Nat) (v6 : RowsT) (v7 : Nat → Int32) : Option (OwnV × Nat × RowsT × Nat × RowsT × Nat × (Nat → Int32)) :=
  gd (decide (0 + 1 ≤ 64 ∧ 0 + 8 ≤ 600)) <|
  gd (decide (0 + 1 + 4 ≤ 64 ∧ 0 + 8 + 40 ≤ 600)) <|
  nmL (Own_set_rooms Own0 (Own_rooms v0)) fun (v8_13 : OwnV) =>
  nmL (Own_set_doors v8_13 (Own_doors v0)) fun (v8_21 : OwnV) =>
  nmL (Own_set_guards v8_21 (Own_guards v0)) fun (v8_29 : OwnV) =>
  nmL (Own_set_minute v8_29 (Own_minute v0)) fun (v8_37 : OwnV) =>
  Own_copy_42 v0 v1 v2 v3 v4 v5 v6 v7 FU 0 v8_37 0 rr0 (fun _ => 0) 0 rr0 0 (0 + 1 + 4) (0 + 8 + 40)

def Own_best_148 (v0 : OwnV) (v1 : Nat) (v2 : RowsT) (v3 : Nat) (v4 : RowsT) (v5 : Nat) (v6 : RowsT) (v7 : Nat → Int32)  (k41 : Int32 → OwnV → Nat → RowsT → (Nat → Int32) → Nat → RowsT → Nat → (Nat → Int32) → Nat → Nat → Option (Nat → Int32)) (x3 : Int32) (x4 : Int32) (x6 : Int32) (x7 : Int32) (w0 : OwnV) (w1 : Nat) (w2 : RowsT) (w3 : Nat → Int32) (w4 : Nat) (w5 : RowsT) (w6 : Nat) (c : Nat) (s : Nat) : Option (Nat → Int32) :=
  gd (decide (c + 1 ≤ 20600 ∧ s + 6 ≤ 43000)) <|
  gd (inB 0 6) <|
  nmL (upd (fun _ => 0) (Int32.toNatClampNeg 0) x6) fun (v15_156 : Nat → Int32) =>
  gd (inB 1 6) <|
  nmL (upd v15_156 (Int32.toNatClampNeg 1) x7) fun (v15_161 : Nat → Int32) =>
  gd (inB 0 4) <|
  gd (inB 2 6) <|
  nmL (upd v15_161 (Int32.toNatClampNeg 2) (w3 (Int32.toNatClampNeg 0))) fun (v15_170 : Nat → Int32) =>
  gd (inB 1 4) <|
  gd (inB 3 6) <|
  nmL (upd v15_170 (Int32.toNatClampNeg 3) (w3 (Int32.toNatClampNeg 1))) fun (v15_179 : Nat → Int32) =>
  gd (inB 2 4) <|
  gd (inB 4 6) <|
  nmL (upd v15_179 (Int32.toNatClampNeg 4) (w3 (Int32.toNatClampNeg 2))) fun (v15_188 : Nat → Int32) =>
  gd (inB 3 4) <|
  gd (inB 5 6) <|
  nmL (upd v15_188 (Int32.toNatClampNeg 5) (w3 (Int32.toNatClampNeg 3))) fun (v15_197 : Nat → Int32) =>
  nmL (x4 + 1) fun (x4_199 : Int32) =>
  k41 x4_199 w0 w1 w2 w3 w4 w5 w6 v15_197 (c + 1) (s + 6)

def Own_best_122 (v0 : OwnV) (v1 : Nat) (v2 : RowsT) (v3 : Nat) (v4 : RowsT) (v5 : Nat) (v6 : RowsT) (v7 : Nat → Int32)  (k41 : Int32 → OwnV → Nat → RowsT → (Nat → Int32) → Nat → RowsT → Nat → (Nat → Int32) → Nat → Nat → Option (Nat → Int32)) (x3 : Int32) (x4 : Int32) (x6 : Int32) (w0 : OwnV) (w1 : Nat) (w2 : RowsT) (w3 : Nat → Int32) (w4 : Nat) (w5 : RowsT) (w6 : Nat) (w7 : Nat → Int32) (c : Nat) (s : Nat) : Option (Nat → Int32) :=
  Option.bind (Own_crossings w0 w6 v6 w3) fun p123 =>
  gd (inB 0 6) <|
  if x6 < w7 (Int32.toNatClampNeg 0) then
    Own_best_148 v0 v1 v2 v3 v4 v5 v6 v7 k41 x3 x4 x6 p123 w0 w1 w2 w3 w4 w5 w6 c s
  else
    gd (inB 1 6) <|
    if w7 (Int32.toNatClampNeg 1) ≤ p123 then
      nmL (x4 + 1) fun (x4_199 : Int32) =>
      k41 x4_199 w0 w1 w2 w3 w4 w5 w6 w7 c s
    else
      Own_best_148 v0 v1 v2 v3 v4 v5 v6 v7 k41 x3 x4 x6 p123 w0 w1 w2 w3 w4 w5 w6 c s

def Own_best_59 (v0 : OwnV) (v1 : Nat) (v2 : RowsT) (v3 : Nat) (v4 : RowsT) (v5 : Nat) (v6 : RowsT) (v7 : Nat → Int32) (x3 : Int32) (x4 : Int32) (k41 : Int32 → OwnV → Nat → RowsT → (Nat → Int32) → Nat → RowsT → Nat → (Nat → Int32) → Nat → Nat → Option (Nat → Int32)) : Nat → Int32 → Int32 → OwnV → Nat → RowsT → (Nat → Int32) → Nat → RowsT → Nat → (Nat → Int32) → Nat → Nat → Option (Nat → Int32)
  | 0, _, _, _, _, _, _, _, _, _, _, _, _ => none
  | n + 1, x5, x6, w0, w1, w2, w3, w4, w5, w6, w7, c, s =>
    if x6 < 0 then
      gd (decide (c + 78 ≤ 20600 ∧ s + 156 ≤ 43000)) <|
      Option.bind (Own_worst w0 w6 v6 w3) fun p102 =>
      gd (inB 0 6) <|
      if p102 ≤ w7 (Int32.toNatClampNeg 0) then
        Own_best_122 v0 v1 v2 v3 v4 v5 v6 v7 k41 x3 x4 p102 w0 w1 w2 w3 w4 w5 w6 w7 (c + 78) (s + 156)
      else
        nmL (x4 + 1) fun (x4_199 : Int32) =>
        k41 x4_199 w0 w1 w2 w3 w4 w5 w6 w7 (c + 78) (s + 156)
    else
      gd (inB x6 4) <|
      gd (decide ((Int32.toNatClampNeg x6) < v5)) <|
      gd (decide ((Int32.toNatClampNeg x6) < v6.1)) <|
      gd (nz (nI (v6.2.1 (Int32.toNatClampNeg x6)))) <|
      nmL (upd w3 (Int32.toNatClampNeg x6) (x5 - x5 / (nI (v6.2.1 (Int32.toNatClampNeg x6))) * (nI (v6.2.1 (Int32.toNatClampNeg x6))))) fun (v11_81 : Nat → Int32) =>
      nmL (x5 / (nI (v6.2.1 (Int32.toNatClampNeg x6)))) fun (x5_93 : Int32) =>
      nmL (x6 + (-1)) fun (x6_95 : Int32) =>
      Own_best_59 v0 v1 v2 v3 v4 v5 v6 v7 x3 x4 k41 n x5_93 x6_95 w0 w1 w2 v11_81 w4 w5 w6 w7 c s

def Own_best_41 (v0 : OwnV) (v1 : Nat) (v2 : RowsT) (v3 : Nat) (v4 : RowsT) (v5 : Nat) (v6 : RowsT) (v7 : Nat → Int32) (x3 : Int32) : Nat → Int32 → OwnV → Nat → RowsT → (Nat → Int32) → Nat → RowsT → Nat → (Nat → Int32) → Nat → Nat → Option (Nat → Int32)
  | 0, _, _, _, _, _, _, _, _, _, _, _ => none
  | n + 1, x4, w0, w1, w2, w3, w4, w5, w6, w7, c, s =>
    if x3 ≤ x4 then
      some w7
    else
      nmL ((Own_guards v0) - 1) fun (x6_57 : Int32) =>
      Own_best_59 v0 v1 v2 v3 v4 v5 v6 v7 x3 x4 (fun (x4 : Int32) (w0 : OwnV) (w1 : Nat) (w2 : RowsT) (w3 : Nat → Int32) (w4 : Nat) (w5 : RowsT) (w6 : Nat) (w7 : Nat → Int32) (c : Nat) (s : Nat) => Own_best_41 v0 v1 v2 v3 v4 v5 v6 v7 x3 n x4 w0 w1 w2 w3 w4 w5 w6 w7 c s) FU x4 x6_57 w0 w1 w2 w3 w4 w5 w6 w7 c s

def Own_best_148c41z2 (v0 : OwnV) (v1 : Nat) (v2 : RowsT) (v3 : Nat) (v4 : RowsT) (v5 : Nat) (v6 : RowsT) (v7 : Nat → Int32)  (k41z2 : Int32 → OwnV → Nat → RowsT → (Nat → Int32) → Nat → RowsT → Nat → Nat → Nat → Option (Nat → Int32)) (x3 : Int32) (x4 : Int32) (x6 : Int32) (x7 : Int32) (w0 : OwnV) (w1 : Nat) (w2 : RowsT) (w3 : Nat → Int32) (w4 : Nat) (w5 : RowsT) (w6 : Nat) (c : Nat) (s : Nat) : Option (Nat → Int32) :=
  gd (decide (c + 1 ≤ 20600 ∧ s + 6 ≤ 43000)) <|
  gd (inB 0 6) <|
  nmL (upd (fun _ => 0) (Int32.toNatClampNeg 0) x6) fun (v15_156 : Nat → Int32) =>
  gd (inB 1 6) <|
  nmL (upd v15_156 (Int32.toNatClampNeg 1) x7) fun (v15_161 : Nat → Int32) =>
  gd (inB 0 4) <|
  gd (inB 2 6) <|
  nmL (upd v15_161 (Int32.toNatClampNeg 2) (w3 (Int32.toNatClampNeg 0))) fun (v15_170 : Nat → Int32) =>
  gd (inB 1 4) <|
  gd (inB 3 6) <|
  nmL (upd v15_170 (Int32.toNatClampNeg 3) (w3 (Int32.toNatClampNeg 1))) fun (v15_179 : Nat → Int32) =>
  gd (inB 2 4) <|
  gd (inB 4 6) <|
  nmL (upd v15_179 (Int32.toNatClampNeg 4) (w3 (Int32.toNatClampNeg 2))) fun (v15_188 : Nat → Int32) =>
  gd (inB 3 4) <|
  gd (inB 5 6) <|
  nmL (upd v15_188 (Int32.toNatClampNeg 5) (w3 (Int32.toNatClampNeg 3))) fun (v15_197 : Nat → Int32) =>
  nmL (x4 + 1) fun (x4_199 : Int32) =>
  Own_best_41 v0 v1 v2 v3 v4 v5 v6 v7 x3 FU x4_199 w0 w1 w2 w3 w4 w5 w6 v15_197 (c + 1) (s + 6)

def Own_best_122z2c41z2 (v0 : OwnV) (v1 : Nat) (v2 : RowsT) (v3 : Nat) (v4 : RowsT) (v5 : Nat) (v6 : RowsT) (v7 : Nat → Int32)  (k41z2 : Int32 → OwnV → Nat → RowsT → (Nat → Int32) → Nat → RowsT → Nat → Nat → Nat → Option (Nat → Int32)) (x3 : Int32) (x4 : Int32) (x6 : Int32) (w0 : OwnV) (w1 : Nat) (w2 : RowsT) (w3 : Nat → Int32) (w4 : Nat) (w5 : RowsT) (w6 : Nat) (c : Nat) (s : Nat) : Option (Nat → Int32) :=
  Option.bind (Own_crossings w0 w6 v6 w3) fun p123 =>
  Own_best_148c41z2 v0 v1 v2 v3 v4 v5 v6 v7 k41z2 x3 x4 x6 p123 w0 w1 w2 w3 w4 w5 w6 c s

def Own_best_59z2c41z2 (v0 : OwnV) (v1 : Nat) (v2 : RowsT) (v3 : Nat) (v4 : RowsT) (v5 : Nat) (v6 : RowsT) (v7 : Nat → Int32) (x3 : Int32) (x4 : Int32) (k41z2 : Int32 → OwnV → Nat → RowsT → (Nat → Int32) → Nat → RowsT → Nat → Nat → Nat → Option (Nat → Int32)) : Nat → Int32 → Int32 → OwnV → Nat → RowsT → (Nat → Int32) → Nat → RowsT → Nat → Nat → Nat → Option (Nat → Int32)
  | 0, _, _, _, _, _, _, _, _, _, _, _ => none
  | n + 1, x5, x6, w0, w1, w2, w3, w4, w5, w6, c, s =>
    if x6 < 0 then
      gd (decide (c + 78 ≤ 20600 ∧ s + 156 ≤ 43000)) <|
      Option.bind (Own_worst w0 w6 v6 w3) fun p102 =>
      Own_best_122z2c41z2 v0 v1 v2 v3 v4 v5 v6 v7 k41z2 x3 x4 p102 w0 w1 w2 w3 w4 w5 w6 (c + 78) (s + 156)
    else
      gd (inB x6 4) <|
      gd (decide ((Int32.toNatClampNeg x6) < v5)) <|
      gd (decide ((Int32.toNatClampNeg x6) < v6.1)) <|
      gd (nz (nI (v6.2.1 (Int32.toNatClampNeg x6)))) <|
      nmL (upd w3 (Int32.toNatClampNeg x6) (x5 - x5 / (nI (v6.2.1 (Int32.toNatClampNeg x6))) * (nI (v6.2.1 (Int32.toNatClampNeg x6))))) fun (v11_81 : Nat → Int32) =>
      nmL (x5 / (nI (v6.2.1 (Int32.toNatClampNeg x6)))) fun (x5_93 : Int32) =>
      nmL (x6 + (-1)) fun (x6_95 : Int32) =>
      Own_best_59z2c41z2 v0 v1 v2 v3 v4 v5 v6 v7 x3 x4 k41z2 n x5_93 x6_95 w0 w1 w2 v11_81 w4 w5 w6 c s

def Own_best_41z2 (v0 : OwnV) (v1 : Nat) (v2 : RowsT) (v3 : Nat) (v4 : RowsT) (v5 : Nat) (v6 : RowsT) (v7 : Nat → Int32) (x3 : Int32) : Nat → Int32 → OwnV → Nat → RowsT → (Nat → Int32) → Nat → RowsT → Nat → Nat → Nat → Option (Nat → Int32)
  | 0, _, _, _, _, _, _, _, _, _, _ => none
  | n + 1, x4, w0, w1, w2, w3, w4, w5, w6, c, s =>
    if x3 ≤ x4 then
      none
    else
      nmL ((Own_guards v0) - 1) fun (x6_57 : Int32) =>
      Own_best_59z2c41z2 v0 v1 v2 v3 v4 v5 v6 v7 x3 x4 (fun (x4 : Int32) (w0 : OwnV) (w1 : Nat) (w2 : RowsT) (w3 : Nat → Int32) (w4 : Nat) (w5 : RowsT) (w6 : Nat) (c : Nat) (s : Nat) => Own_best_41z2 v0 v1 v2 v3 v4 v5 v6 v7 x3 n x4 w0 w1 w2 w3 w4 w5 w6 c s) FU x4 x6_57 w0 w1 w2 w3 w4 w5 w6 c s

def Own_best_12z2 (v0 : OwnV) (v1 : Nat) (v2 : RowsT) (v3 : Nat) (v4 : RowsT) (v5 : Nat) (v6 : RowsT) (v7 : Nat → Int32)  : Nat → Int32 → Int32 → OwnV → Nat → RowsT → (Nat → Int32) → Nat → RowsT → Nat → Nat → Nat → Option (Nat → Int32)
  | 0, _, _, _, _, _, _, _, _, _, _, _ => none
  | n + 1, x3, x4, w0, w1, w2, w3, w4, w5, w6, c, s =>
    if Own_guards v0 ≤ x4 then
      Own_best_41z2 v0 v1 v2 v3 v4 v5 v6 v7 x3 FU 0 w0 w1 w2 w3 w4 w5 w6 c s
    else
      gd (inB x4 4) <|
      gd (decide ((Int32.toNatClampNeg x4) < v5)) <|
      gd (decide ((Int32.toNatClampNeg x4) < v6.1)) <|
      nmL (x3 * (nI (v6.2.1 (Int32.toNatClampNeg x4)))) fun (x3_31 : Int32) =>
      nmL (x4 + 1) fun (x4_32 : Int32) =>
      Own_best_12z2 v0 v1 v2 v3 v4 v5 v6 v7 n x3_31 x4_32 w0 w1 w2 w3 w4 w5 w6 c s

def Own_best (v0 : OwnV) (v1 : Nat) (v2 : RowsT) (v3 : Nat) (v4 : RowsT) (v5 : Nat) (v6 : RowsT) (v7 : Nat → Int32) : Option (Nat → Int32) :=
  gd (decide (0 + 64 ≤ 20600 ∧ 0 + 600 ≤ 43000)) <|
  Option.bind (Own_copy v0 v1 v2 v3 v4 v5 v6 v7) fun p1 =>
  Own_best_12z2 v0 v1 v2 v3 v4 v5 v6 v7 FU 1 0 p1.1 p1.2.1 p1.2.2.1 p1.2.2.2.2.2.2 p1.2.2.2.1 p1.2.2.2.2.1 p1.2.2.2.2.2.1 (0 + 64) (0 + 600)

def L_cell (L : Nat) (xs : Nat → Int32) (x1 : Int32) : Option Int32 :=
  if nI L ≤ x1 then
    some (37 * x1)
  else
    gd (inB x1 L) <|
    some (xs (Int32.toNatClampNeg x1))

