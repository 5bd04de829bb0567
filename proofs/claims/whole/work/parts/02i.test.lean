def House_hasRoom (x1 : Int32) (v0 : HouseV) : Option Bool :=
  if x1 < 0 then
    some false
  else
    if House_rooms v0 ≤ x1 then
      some false
    else
      if 12 ≤ x1 then
        some false
      else
        some true

abbrev rmX2_hasRoom : Room := { frames := 0, cells := 0, slots := 0, locals := 0 }
set_option maxRecDepth 20000 in
theorem in_X2_hasRoom_X2 : ∀ w ∈ u_ws RX2 TX2 19, w ∈ wsX2_hasRoom := by decide +kernel
set_option maxHeartbeats 4000000 in
set_option maxRecDepth 100000 in
theorem c_X2_hasRoom {E : Ex} {a0 : Nat → Nat} {x1 : Int32} {v0 : HouseV} {r : Bool} (hf : House_hasRoom x1 v0 = some r) : Ct E yX2_hasRoom wsX2_hasRoom rmX2_hasRoom [.ref (a0 0), .int x1] [wHouse E a0 v0] (fun rv g => rv = some (.int (b2i r)) ∧ g = [wHouse E a0 v0]) := by
  refine ct_of (own := RX2) (by decide +kernel) rfl rfl (Nat.le_of_ble_eq_true rfl) (fun K C => ?_)
  refine ww_sub C (lv' := [(0, .ref (a0 0)), (1, .int x1)]) [0, 1] rfl ?_
  rw [House_hasRoom] at hf
  refine ww_iload_n C dX2_hasRoom_0 rfl 1 rfl ?_
  refine ww_if_lt (tgt := 22) C dX2_hasRoom_1 (by decide) (fun c_1 => ?_) (fun c_1 => ?_)
  · replace hf := ifT c_1 hf
    refine ww_iconst (v := 0) C dX2_hasRoom_22 (by decide) ?_
    obtain rfl := Option.some.inj hf
    exact ww_zret C (nar_b false) ⟨rfl, rfl⟩ dX2_hasRoom_23
  · replace hf := ifF c_1 hf
    refine ww_iload_n C dX2_hasRoom_4 rfl 1 rfl ?_
    refine ww_aload_n C dX2_hasRoom_5 rfl 0 rfl ?_
    refine ww_get C clOK2 in_X2_hasRoom_X2 (w := wHouse E a0 v0) (fs := fsHouse a0 v0) (v := .int (House_rooms v0)) 0 0 0 rfl q_House (by decide) (by decide +kernel) g_House_rooms dX2_hasRoom_6 ?_
    refine ww_icmp_ge (tgt := 22) C dX2_hasRoom_9 (by decide) (fun c_2 => ?_) (fun c_2 => ?_)
    · replace hf := ifT c_2 hf
      refine ww_iconst (v := 0) C dX2_hasRoom_22 (by decide) ?_
      obtain rfl := Option.some.inj hf
      exact ww_zret C (nar_b false) ⟨rfl, rfl⟩ dX2_hasRoom_23
    · replace hf := ifF c_2 hf
      refine ww_iload_n C dX2_hasRoom_12 rfl 1 rfl ?_
      refine ww_bipush (v := 12) C dX2_hasRoom_13 (by decide) ?_
      refine ww_icmp_ge (tgt := 22) C dX2_hasRoom_15 (by decide) (fun c_3 => ?_) (fun c_3 => ?_)
      · replace hf := ifT c_3 hf
        refine ww_iconst (v := 0) C dX2_hasRoom_22 (by decide) ?_
        obtain rfl := Option.some.inj hf
        exact ww_zret C (nar_b false) ⟨rfl, rfl⟩ dX2_hasRoom_23
      · replace hf := ifF c_3 hf
        refine ww_iconst (v := 1) C dX2_hasRoom_18 (by decide) ?_
        refine ww_goto (tgt := 23) C dX2_hasRoom_19 (by decide) ?_
        obtain rfl := Option.some.inj hf
        exact ww_zret C (nar_b true) ⟨rfl, rfl⟩ dX2_hasRoom_23

theorem yk_X2_hasRoom : yX2_hasRoom.cls = RX2 ∧ yX2_hasRoom.cls ≠ "java/lang/invoke/MethodHandle" ∧ yX2_hasRoom.cls ≠ "java/lang/invoke/VarHandle" ∧ (parseMethodDescriptor yX2_hasRoom.desc).map (fun d => d.parameters.length) = some 1 := by decide +kernel
def House_hasGuard (x1 : Int32) (v0 : HouseV) : Option Bool :=
  if x1 < 0 then
    some false
  else
    if House_guards v0 ≤ x1 then
      some false
    else
      if 4 ≤ x1 then
        some false
      else
        some true

abbrev rmX2_hasGuard : Room := { frames := 0, cells := 0, slots := 0, locals := 0 }
set_option maxRecDepth 20000 in
theorem in_X2_hasGuard_X2 : ∀ w ∈ u_ws RX2 TX2 19, w ∈ wsX2_hasGuard := by decide +kernel
set_option maxHeartbeats 4000000 in
set_option maxRecDepth 100000 in
theorem c_X2_hasGuard {E : Ex} {a0 : Nat → Nat} {x1 : Int32} {v0 : HouseV} {r : Bool} (hf : House_hasGuard x1 v0 = some r) : Ct E yX2_hasGuard wsX2_hasGuard rmX2_hasGuard [.ref (a0 0), .int x1] [wHouse E a0 v0] (fun rv g => rv = some (.int (b2i r)) ∧ g = [wHouse E a0 v0]) := by
  refine ct_of (own := RX2) (by decide +kernel) rfl rfl (Nat.le_of_ble_eq_true rfl) (fun K C => ?_)
  refine ww_sub C (lv' := [(0, .ref (a0 0)), (1, .int x1)]) [0, 1] rfl ?_
  rw [House_hasGuard] at hf
  refine ww_iload_n C dX2_hasGuard_0 rfl 1 rfl ?_
  refine ww_if_lt (tgt := 21) C dX2_hasGuard_1 (by decide) (fun c_1 => ?_) (fun c_1 => ?_)
  · replace hf := ifT c_1 hf
    refine ww_iconst (v := 0) C dX2_hasGuard_21 (by decide) ?_
    obtain rfl := Option.some.inj hf
    exact ww_zret C (nar_b false) ⟨rfl, rfl⟩ dX2_hasGuard_22
  · replace hf := ifF c_1 hf
    refine ww_iload_n C dX2_hasGuard_4 rfl 1 rfl ?_
    refine ww_aload_n C dX2_hasGuard_5 rfl 0 rfl ?_
    refine ww_get C clOK2 in_X2_hasGuard_X2 (w := wHouse E a0 v0) (fs := fsHouse a0 v0) (v := .int (House_guards v0)) 0 0 2 rfl q_House (by decide) (by decide +kernel) g_House_guards dX2_hasGuard_6 ?_
    refine ww_icmp_ge (tgt := 21) C dX2_hasGuard_9 (by decide) (fun c_2 => ?_) (fun c_2 => ?_)
    · replace hf := ifT c_2 hf
      refine ww_iconst (v := 0) C dX2_hasGuard_21 (by decide) ?_
      obtain rfl := Option.some.inj hf
      exact ww_zret C (nar_b false) ⟨rfl, rfl⟩ dX2_hasGuard_22
    · replace hf := ifF c_2 hf
      refine ww_iload_n C dX2_hasGuard_12 rfl 1 rfl ?_
      refine ww_iconst (v := 4) C dX2_hasGuard_13 (by decide) ?_
      refine ww_icmp_ge (tgt := 21) C dX2_hasGuard_14 (by decide) (fun c_3 => ?_) (fun c_3 => ?_)
      · replace hf := ifT c_3 hf
        refine ww_iconst (v := 0) C dX2_hasGuard_21 (by decide) ?_
        obtain rfl := Option.some.inj hf
        exact ww_zret C (nar_b false) ⟨rfl, rfl⟩ dX2_hasGuard_22
      · replace hf := ifF c_3 hf
        refine ww_iconst (v := 1) C dX2_hasGuard_17 (by decide) ?_
        refine ww_goto (tgt := 22) C dX2_hasGuard_18 (by decide) ?_
        obtain rfl := Option.some.inj hf
        exact ww_zret C (nar_b true) ⟨rfl, rfl⟩ dX2_hasGuard_22

theorem yk_X2_hasGuard : yX2_hasGuard.cls = RX2 ∧ yX2_hasGuard.cls ≠ "java/lang/invoke/MethodHandle" ∧ yX2_hasGuard.cls ≠ "java/lang/invoke/VarHandle" ∧ (parseMethodDescriptor yX2_hasGuard.desc).map (fun d => d.parameters.length) = some 1 := by decide +kernel
def House_roomAt_59 (x1 : Int32) (x2 : Int32) (v0 : HouseV)  (x3 : Int32) : Option Int32 :=
  if x3 < 0 then
    some (-1)
  else
    if x3 < 10 then
      gd (inB ((x1 * 10) + x3) 40) <|
      some ((House_walks v0) (Int32.toNatClampNeg ((x1 * 10) + x3)))
    else
      some (-1)

def House_roomAt (x1 : Int32) (x2 : Int32) (v0 : HouseV) : Option Int32 :=
  Option.bind (House_hasGuard x1 v0) fun p2 =>
  bif p2 then
    if x2 < 0 then
      some (-1)
    else
      gd (inB x1 4) <|
      if 1 ≤ (House_periods v0) (Int32.toNatClampNeg x1) then
        gd (nz ((House_periods v0) (Int32.toNatClampNeg x1))) <|
        nmL ((x2 - x2 / ((House_periods v0) (Int32.toNatClampNeg x1)) * ((House_periods v0) (Int32.toNatClampNeg x1))) + ((House_phases v0) (Int32.toNatClampNeg x1))) fun (x3_39 : Int32) =>
        if x3_39 < (House_periods v0) (Int32.toNatClampNeg x1) then
          House_roomAt_59 x1 x2 v0 x3_39
        else
          nmL (x3_39 - ((House_periods v0) (Int32.toNatClampNeg x1))) fun (x3_58 : Int32) =>
          House_roomAt_59 x1 x2 v0 x3_58
      else
        some (-1)
  else
    some (-1)

abbrev rmX2_roomAt : Room := { frames := 1, cells := 0, slots := 0, locals := 21 }
set_option maxRecDepth 20000 in
theorem in_X2_roomAt_X2 : ∀ w ∈ u_ws RX2 TX2 19, w ∈ wsX2_roomAt := by decide +kernel
set_option maxHeartbeats 4000000 in
set_option maxRecDepth 100000 in
theorem w_X2_roomAt_59 {E : Ex} {K : Kx} (C : Cx E K cX2_roomAt 4 (some .int) RX2 wsX2_roomAt rmX2_roomAt) {a0 : Nat → Nat} {x1 : Int32} {x2 : Int32} {v0 : HouseV}  {x3 : Int32} {r : Int32} (hf : House_roomAt_59 x1 x2 v0 x3 = some r) : WW E K 0 0 (QQ E K (fun rv g => rv = some (.int r) ∧ g = [wHouse E a0 v0]) 0 0) 59 [(0, .ref (a0 0)), (1, .int x1), (3, .int x3)] [] [wHouse E a0 v0] := by
  rw [House_roomAt_59] at hf
  refine ww_iload_n C dX2_roomAt_59 rfl 2 rfl ?_
  refine ww_if_lt (tgt := 69) C dX2_roomAt_60 (by decide) (fun c_9 => ?_) (fun c_9 => ?_)
  · replace hf := ifT c_9 hf
    refine ww_iconst (v := (-1)) C dX2_roomAt_69 (by decide) ?_
    refine ww_goto (tgt := 84) C dX2_roomAt_70 (by decide) ?_
    obtain rfl := Option.some.inj hf
    exact ww_iret C ⟨rfl, rfl⟩ dX2_roomAt_84
  · replace hf := ifF c_9 hf
    refine ww_iload_n C dX2_roomAt_63 rfl 2 rfl ?_
    refine ww_bipush (v := 10) C dX2_roomAt_64 (by decide) ?_
    refine ww_icmp_lt (tgt := 73) C dX2_roomAt_66 (by decide) (fun c_10 => ?_) (fun c_10 => ?_)
    · replace hf := ifT c_10 hf
      refine ww_aload_n C dX2_roomAt_73 rfl 0 rfl ?_
      refine ww_get C clOK2 in_X2_roomAt_X2 (w := wHouse E a0 v0) (fs := fsHouse a0 v0) (v := .ref (a0 7)) 0 0 13 rfl q_House (by decide) (by decide +kernel) g_House_walks dX2_roomAt_74 ?_
      refine ww_iload_n C dX2_roomAt_77 rfl 1 rfl ?_
      refine ww_bipush (v := 10) C dX2_roomAt_78 (by decide) ?_
      refine ww_imul C dX2_roomAt_80 ?_
      refine ww_iload_n C dX2_roomAt_81 rfl 2 rfl ?_
      refine ww_iadd C dX2_roomAt_82 ?_
      obtain ⟨g_11, hf⟩ := gdE hf
      refine ww_iald C (f := House_walks v0) (w := wHouse E a0 v0) 0 7 rfl c_House_walks (inB_vp g_11) dX2_roomAt_83 ?_
      obtain rfl := Option.some.inj hf
      exact ww_iret C ⟨rfl, rfl⟩ dX2_roomAt_84
    · replace hf := ifF c_10 hf
      refine ww_iconst (v := (-1)) C dX2_roomAt_69 (by decide) ?_
      refine ww_goto (tgt := 84) C dX2_roomAt_70 (by decide) ?_
      obtain rfl := Option.some.inj hf
      exact ww_iret C ⟨rfl, rfl⟩ dX2_roomAt_84

set_option maxHeartbeats 4000000 in
set_option maxRecDepth 100000 in
theorem c_X2_roomAt {E : Ex} {a0 : Nat → Nat} {x1 : Int32} {x2 : Int32} {v0 : HouseV} {r : Int32} (hf : House_roomAt x1 x2 v0 = some r) : Ct E yX2_roomAt wsX2_roomAt rmX2_roomAt [.ref (a0 0), .int x1, .int x2] [wHouse E a0 v0] (fun rv g => rv = some (.int r) ∧ g = [wHouse E a0 v0]) := by
  refine ct_of (own := RX2) (by decide +kernel) rfl rfl (Nat.le_of_ble_eq_true rfl) (fun K C => ?_)
  refine ww_sub C (lv' := [(0, .ref (a0 0)), (1, .int x1), (2, .int x2)]) [0, 1, 2] rfl ?_
  rw [House_roomAt] at hf
  refine ww_aload_n C dX2_roomAt_0 rfl 0 rfl ?_
  refine ww_iload_n C dX2_roomAt_1 rfl 1 rfl ?_
  obtain ⟨p2, hp2, hf⟩ := bdE hf
  refine ww_callV C (As := [.int x1]) (st := []) (gr := []) (c_X2_hasGuard (E := E) (a0 := a0) hp2) gX2_roomAt_X2_hasGuard rfl yk_X2_hasGuard ⟨by decide, by decide⟩ ⟨by decide, by decide⟩ clOK2 0 0 rfl rfl [0] [] 1 rfl (by decide) rfl rfl (Nat.le_of_ble_eq_true rfl) dX2_roomAt_2 ?_
  rintro _ _ ⟨rfl, rfl⟩
  refine ww_perm (gs' := [wHouse E a0 v0]) [0] 1 rfl (by decide) rfl ?_
  refine ww_if_eqB (tgt := 22) C dX2_roomAt_5 (by decide) (fun c_1 => ?_) (fun c_1 => ?_)
  · replace hf := bfE c_1 hf
    refine ww_iconst (v := (-1)) C dX2_roomAt_22 (by decide) ?_
    obtain rfl := Option.some.inj hf
    exact ww_iret C ⟨rfl, rfl⟩ dX2_roomAt_23
  · replace hf := btE c_1 hf
    refine ww_iload_n C dX2_roomAt_8 rfl 2 rfl ?_
    refine ww_if_lt (tgt := 22) C dX2_roomAt_9 (by decide) (fun c_2 => ?_) (fun c_2 => ?_)
    · replace hf := ifT c_2 hf
      refine ww_iconst (v := (-1)) C dX2_roomAt_22 (by decide) ?_
      obtain rfl := Option.some.inj hf
      exact ww_iret C ⟨rfl, rfl⟩ dX2_roomAt_23
    · replace hf := ifF c_2 hf
      refine ww_aload_n C dX2_roomAt_12 rfl 0 rfl ?_
      refine ww_get C clOK2 in_X2_roomAt_X2 (w := wHouse E a0 v0) (fs := fsHouse a0 v0) (v := .ref (a0 5)) 0 0 11 rfl q_House (by decide) (by decide +kernel) g_House_periods dX2_roomAt_13 ?_
      refine ww_iload_n C dX2_roomAt_16 rfl 1 rfl ?_
      obtain ⟨g_3, hf⟩ := gdE hf
      refine ww_iald C (f := House_periods v0) (w := wHouse E a0 v0) 0 5 rfl c_House_periods (inB_vp g_3) dX2_roomAt_17 ?_
      refine ww_iconst (v := 1) C dX2_roomAt_18 (by decide) ?_
      refine ww_icmp_ge (tgt := 24) C dX2_roomAt_19 (by decide) (fun c_4 => ?_) (fun c_4 => ?_)
      · replace hf := ifT c_4 hf
        refine ww_iload_n C dX2_roomAt_24 rfl 2 rfl ?_
        refine ww_aload_n C dX2_roomAt_25 rfl 0 rfl ?_
        refine ww_get C clOK2 in_X2_roomAt_X2 (w := wHouse E a0 v0) (fs := fsHouse a0 v0) (v := .ref (a0 5)) 0 0 11 rfl q_House (by decide) (by decide +kernel) g_House_periods dX2_roomAt_26 ?_
        refine ww_iload_n C dX2_roomAt_29 rfl 1 rfl ?_
        refine ww_iald C (f := House_periods v0) (w := wHouse E a0 v0) 0 5 rfl c_House_periods (inB_vp g_3) dX2_roomAt_30 ?_
        obtain ⟨g_5, hf⟩ := gdE hf
        refine ww_irem C dX2_roomAt_31 (nz_ne g_5) ?_
        refine ww_aload_n C dX2_roomAt_32 rfl 0 rfl ?_
        refine ww_get C clOK2 in_X2_roomAt_X2 (w := wHouse E a0 v0) (fs := fsHouse a0 v0) (v := .ref (a0 6)) 0 0 12 rfl q_House (by decide) (by decide +kernel) g_House_phases dX2_roomAt_33 ?_
        refine ww_iload_n C dX2_roomAt_36 rfl 1 rfl ?_
        refine ww_iald C (f := House_phases v0) (w := wHouse E a0 v0) 0 6 rfl c_House_phases (inB_vp g_3) dX2_roomAt_37 ?_
        refine ww_iadd C dX2_roomAt_38 ?_
        refine ww_topi (fun x3_39 e_x3_39 => ?_)
        replace hf := ltE e_x3_39 hf
        refine ww_istore_n (lv' := [(3, .int x3_39), (0, .ref (a0 0)), (1, .int x1), (2, .int x2)]) C dX2_roomAt_39 rfl (by decide) rfl ?_
        refine ww_iload_n C dX2_roomAt_40 rfl 0 rfl ?_
        refine ww_aload_n C dX2_roomAt_41 rfl 1 rfl ?_
        refine ww_get C clOK2 in_X2_roomAt_X2 (w := wHouse E a0 v0) (fs := fsHouse a0 v0) (v := .ref (a0 5)) 0 0 11 rfl q_House (by decide) (by decide +kernel) g_House_periods dX2_roomAt_42 ?_
        refine ww_iload_n C dX2_roomAt_45 rfl 2 rfl ?_
        refine ww_iald C (f := House_periods v0) (w := wHouse E a0 v0) 0 5 rfl c_House_periods (inB_vp g_3) dX2_roomAt_46 ?_
        refine ww_icmp_lt (tgt := 59) C dX2_roomAt_47 (by decide) (fun c_7 => ?_) (fun c_7 => ?_)
        · replace hf := ifT c_7 hf
          refine ww_sub C (lv' := [(0, .ref (a0 0)), (1, .int x1), (3, .int x3_39)]) [1, 2, 0] rfl ?_
          exact w_X2_roomAt_59 C hf
        · replace hf := ifF c_7 hf
          refine ww_iload_n C dX2_roomAt_50 rfl 0 rfl ?_
          refine ww_aload_n C dX2_roomAt_51 rfl 1 rfl ?_
          refine ww_get C clOK2 in_X2_roomAt_X2 (w := wHouse E a0 v0) (fs := fsHouse a0 v0) (v := .ref (a0 5)) 0 0 11 rfl q_House (by decide) (by decide +kernel) g_House_periods dX2_roomAt_52 ?_
          refine ww_iload_n C dX2_roomAt_55 rfl 2 rfl ?_
          refine ww_iald C (f := House_periods v0) (w := wHouse E a0 v0) 0 5 rfl c_House_periods (inB_vp g_3) dX2_roomAt_56 ?_
          refine ww_isub C dX2_roomAt_57 ?_
          refine ww_topi (fun x3_58 e_x3_58 => ?_)
          replace hf := ltE e_x3_58 hf
          refine ww_istore_n (lv' := [(3, .int x3_58), (0, .ref (a0 0)), (1, .int x1), (2, .int x2)]) C dX2_roomAt_58 rfl (by decide) rfl ?_
          refine ww_sub C (lv' := [(0, .ref (a0 0)), (1, .int x1), (3, .int x3_58)]) [1, 2, 0] rfl ?_
          exact w_X2_roomAt_59 C hf
      · replace hf := ifF c_4 hf
        refine ww_iconst (v := (-1)) C dX2_roomAt_22 (by decide) ?_
        obtain rfl := Option.some.inj hf
        exact ww_iret C ⟨rfl, rfl⟩ dX2_roomAt_23

theorem yk_X2_roomAt : yX2_roomAt.cls = RX2 ∧ yX2_roomAt.cls ≠ "java/lang/invoke/MethodHandle" ∧ yX2_roomAt.cls ≠ "java/lang/invoke/VarHandle" ∧ (parseMethodDescriptor yX2_roomAt.desc).map (fun d => d.parameters.length) = some 2 := by decide +kernel
def House_guardsAt_5 (x1 : Int32) (x2 : Int32) (v0 : HouseV)  : Nat → Int32 → Int32 → Option Int32
  | 0, _, _ => none
  | n + 1, x3, x4 =>
    if House_guards v0 ≤ x4 then
      some x3
    else
      Option.bind (House_roomAt x4 x2 v0) fun p18 =>
      if p18 = x1 then
        nmL (x3 ||| (1 <<< (x4 &&& 31))) fun (x3_31 : Int32) =>
        nmL (x4 + 1) fun (x4_32 : Int32) =>
        House_guardsAt_5 x1 x2 v0 n x3_31 x4_32
      else
        nmL (x4 + 1) fun (x4_32 : Int32) =>
        House_guardsAt_5 x1 x2 v0 n x3 x4_32

def House_guardsAt (x1 : Int32) (x2 : Int32) (v0 : HouseV) : Option Int32 :=
  House_guardsAt_5 x1 x2 v0 FU 0 0

abbrev rmX2_guardsAt : Room := { frames := 2, cells := 0, slots := 0, locals := 44 }
set_option maxRecDepth 20000 in
theorem in_X2_guardsAt_X2 : ∀ w ∈ u_ws RX2 TX2 19, w ∈ wsX2_guardsAt := by decide +kernel
set_option maxHeartbeats 4000000 in
set_option maxRecDepth 100000 in
theorem w_X2_guardsAt_5 {E : Ex} {K : Kx} (C : Cx E K cX2_guardsAt 5 (some .int) RX2 wsX2_guardsAt rmX2_guardsAt) {a0 : Nat → Nat} {x1 : Int32} {x2 : Int32} {v0 : HouseV}  {r : Int32} : ∀ (n : Nat) (x3 : Int32) (x4 : Int32), House_guardsAt_5 x1 x2 v0 n x3 x4 = some r → WW E K 0 0 (QQ E K (fun rv g => rv = some (.int r) ∧ g = [wHouse E a0 v0]) 0 0) 5 [(0, .ref (a0 0)), (1, .int x1), (2, .int x2), (3, .int x3), (4, .int x4)] [] [wHouse E a0 v0] := by
  intro n
  induction n with
  | zero =>
    intro x3 x4 hf
    simp [House_guardsAt_5] at hf
  | succ n ih =>
    intro x3 x4 hf
    rw [House_guardsAt_5] at hf
    refine ww_iload C dX2_guardsAt_5 4 rfl ?_
    refine ww_aload_n C dX2_guardsAt_7 rfl 0 rfl ?_
    refine ww_get C clOK2 in_X2_guardsAt_X2 (w := wHouse E a0 v0) (fs := fsHouse a0 v0) (v := .int (House_guards v0)) 0 0 2 rfl q_House (by decide) (by decide +kernel) g_House_guards dX2_guardsAt_8 ?_
    refine ww_icmp_ge (tgt := 38) C dX2_guardsAt_11 (by decide) (fun c_1 => ?_) (fun c_1 => ?_)
    · replace hf := ifT c_1 hf
      refine ww_iload_n C dX2_guardsAt_38 rfl 3 rfl ?_
      obtain rfl := Option.some.inj hf
      exact ww_iret C ⟨rfl, rfl⟩ dX2_guardsAt_39
    · replace hf := ifF c_1 hf
      refine ww_aload_n C dX2_guardsAt_14 rfl 0 rfl ?_
      refine ww_iload C dX2_guardsAt_15 4 rfl ?_
      refine ww_iload_n C dX2_guardsAt_17 rfl 2 rfl ?_
      obtain ⟨p18, hp18, hf⟩ := bdE hf
      refine ww_callV C (As := [.int x4, .int x2]) (st := []) (gr := []) (c_X2_roomAt (E := E) (a0 := a0) hp18) gX2_guardsAt_X2_roomAt rfl yk_X2_roomAt ⟨by decide, by decide⟩ ⟨by decide, by decide⟩ clOK2 0 0 rfl rfl [0] [] 1 rfl (by decide) rfl rfl (Nat.le_of_ble_eq_true rfl) dX2_guardsAt_18 ?_
      rintro _ _ ⟨rfl, rfl⟩
      refine ww_perm (gs' := [wHouse E a0 v0]) [0] 1 rfl (by decide) rfl ?_
      refine ww_iload_n C dX2_guardsAt_21 rfl 1 rfl ?_
      refine ww_icmp_ne (tgt := 32) C dX2_guardsAt_22 (by decide) (fun c_2 => ?_) (fun c_2 => ?_)
      · replace hf := ifF c_2 hf
        obtain ⟨x4_32, e_x4_32⟩ : ∃ y : Int32, y = x4 + 1 := ⟨_, rfl⟩
        replace hf := ltE e_x4_32 hf
        refine ww_iinc (v := x4_32) (lv' := [(4, .int x4_32), (0, .ref (a0 0)), (1, .int x1), (2, .int x2), (3, .int x3)]) C dX2_guardsAt_32 4 rfl (by rw [e_x4_32]; rfl) (by decide) rfl ?_
        refine ww_goto (tgt := 5) C dX2_guardsAt_35 (by decide) ?_
        refine ww_sub C (lv' := [(0, .ref (a0 0)), (1, .int x1), (2, .int x2), (3, .int x3), (4, .int x4_32)]) [1, 2, 3, 4, 0] rfl ?_
        exact ih _ _ hf
      · replace hf := ifT c_2 hf
        refine ww_iload_n C dX2_guardsAt_25 rfl 3 rfl ?_
        refine ww_iconst (v := 1) C dX2_guardsAt_26 (by decide) ?_
        refine ww_iload C dX2_guardsAt_27 4 rfl ?_
        refine ww_ishl C dX2_guardsAt_29 ?_
        refine ww_ior C dX2_guardsAt_30 ?_
        refine ww_topi (fun x3_31 e_x3_31 => ?_)
        replace hf := ltE e_x3_31 hf
        refine ww_istore_n (lv' := [(3, .int x3_31), (0, .ref (a0 0)), (1, .int x1), (2, .int x2), (4, .int x4)]) C dX2_guardsAt_31 rfl (by decide) rfl ?_
        obtain ⟨x4_32, e_x4_32⟩ : ∃ y : Int32, y = x4 + 1 := ⟨_, rfl⟩
        replace hf := ltE e_x4_32 hf
        refine ww_iinc (v := x4_32) (lv' := [(4, .int x4_32), (3, .int x3_31), (0, .ref (a0 0)), (1, .int x1), (2, .int x2)]) C dX2_guardsAt_32 4 rfl (by rw [e_x4_32]; rfl) (by decide) rfl ?_
        refine ww_goto (tgt := 5) C dX2_guardsAt_35 (by decide) ?_
        refine ww_sub C (lv' := [(0, .ref (a0 0)), (1, .int x1), (2, .int x2), (3, .int x3_31), (4, .int x4_32)]) [2, 3, 4, 1, 0] rfl ?_
        exact ih _ _ hf

set_option maxHeartbeats 4000000 in
set_option maxRecDepth 100000 in
theorem c_X2_guardsAt {E : Ex} {a0 : Nat → Nat} {x1 : Int32} {x2 : Int32} {v0 : HouseV} {r : Int32} (hf : House_guardsAt x1 x2 v0 = some r) : Ct E yX2_guardsAt wsX2_guardsAt rmX2_guardsAt [.ref (a0 0), .int x1, .int x2] [wHouse E a0 v0] (fun rv g => rv = some (.int r) ∧ g = [wHouse E a0 v0]) := by
  refine ct_of (own := RX2) (by decide +kernel) rfl rfl (Nat.le_of_ble_eq_true rfl) (fun K C => ?_)
  refine ww_sub C (lv' := [(0, .ref (a0 0)), (1, .int x1), (2, .int x2)]) [0, 1, 2] rfl ?_
  rw [House_guardsAt] at hf
  refine ww_iconst (v := 0) C dX2_guardsAt_0 (by decide) ?_
  refine ww_istore_n (lv' := [(3, .int 0), (0, .ref (a0 0)), (1, .int x1), (2, .int x2)]) C dX2_guardsAt_1 rfl (by decide) rfl ?_
  refine ww_iconst (v := 0) C dX2_guardsAt_2 (by decide) ?_
  refine ww_istore (lv' := [(4, .int 0), (3, .int 0), (0, .ref (a0 0)), (1, .int x1), (2, .int x2)]) C dX2_guardsAt_3 (by decide) rfl ?_
  refine ww_sub C (lv' := [(0, .ref (a0 0)), (1, .int x1), (2, .int x2), (3, .int 0), (4, .int 0)]) [2, 3, 4, 1, 0] rfl ?_
  exact w_X2_guardsAt_5 C FU _ _ hf

theorem yk_X2_guardsAt : yX2_guardsAt.cls = RX2 ∧ yX2_guardsAt.cls ≠ "java/lang/invoke/MethodHandle" ∧ yX2_guardsAt.cls ≠ "java/lang/invoke/VarHandle" ∧ (parseMethodDescriptor yX2_guardsAt.desc).map (fun d => d.parameters.length) = some 2 := by decide +kernel
def House_walkRoom (x1 : Int32) (x2 : Int32) (v0 : HouseV) : Option Int32 :=
  Option.bind (House_hasGuard x1 v0) fun p2 =>
  bif p2 then
    if x2 < 0 then
      some (-1)
    else
      gd (inB x1 4) <|
      if (House_periods v0) (Int32.toNatClampNeg x1) ≤ x2 then
        some (-1)
      else
        if x2 < 10 then
          gd (inB ((x1 * 10) + x2) 40) <|
          some ((House_walks v0) (Int32.toNatClampNeg ((x1 * 10) + x2)))
        else
          some (-1)
  else
    some (-1)

abbrev rmX2_walkRoom : Room := { frames := 1, cells := 0, slots := 0, locals := 21 }
set_option maxRecDepth 20000 in
theorem in_X2_walkRoom_X2 : ∀ w ∈ u_ws RX2 TX2 19, w ∈ wsX2_walkRoom := by decide +kernel
set_option maxHeartbeats 4000000 in
set_option maxRecDepth 100000 in
theorem c_X2_walkRoom {E : Ex} {a0 : Nat → Nat} {x1 : Int32} {x2 : Int32} {v0 : HouseV} {r : Int32} (hf : House_walkRoom x1 x2 v0 = some r) : Ct E yX2_walkRoom wsX2_walkRoom rmX2_walkRoom [.ref (a0 0), .int x1, .int x2] [wHouse E a0 v0] (fun rv g => rv = some (.int r) ∧ g = [wHouse E a0 v0]) := by
  refine ct_of (own := RX2) (by decide +kernel) rfl rfl (Nat.le_of_ble_eq_true rfl) (fun K C => ?_)
  refine ww_sub C (lv' := [(0, .ref (a0 0)), (1, .int x1), (2, .int x2)]) [0, 1, 2] rfl ?_
  rw [House_walkRoom] at hf
  refine ww_aload_n C dX2_walkRoom_0 rfl 0 rfl ?_
  refine ww_iload_n C dX2_walkRoom_1 rfl 1 rfl ?_
  obtain ⟨p2, hp2, hf⟩ := bdE hf
  refine ww_callV C (As := [.int x1]) (st := []) (gr := []) (c_X2_hasGuard (E := E) (a0 := a0) hp2) gX2_walkRoom_X2_hasGuard rfl yk_X2_hasGuard ⟨by decide, by decide⟩ ⟨by decide, by decide⟩ clOK2 0 0 rfl rfl [0] [] 1 rfl (by decide) rfl rfl (Nat.le_of_ble_eq_true rfl) dX2_walkRoom_2 ?_
  rintro _ _ ⟨rfl, rfl⟩
  refine ww_perm (gs' := [wHouse E a0 v0]) [0] 1 rfl (by decide) rfl ?_
  refine ww_if_eqB (tgt := 28) C dX2_walkRoom_5 (by decide) (fun c_1 => ?_) (fun c_1 => ?_)
  · replace hf := bfE c_1 hf
    refine ww_iconst (v := (-1)) C dX2_walkRoom_28 (by decide) ?_
    obtain rfl := Option.some.inj hf
    exact ww_iret C ⟨rfl, rfl⟩ dX2_walkRoom_29
  · replace hf := btE c_1 hf
    refine ww_iload_n C dX2_walkRoom_8 rfl 2 rfl ?_
    refine ww_if_lt (tgt := 28) C dX2_walkRoom_9 (by decide) (fun c_2 => ?_) (fun c_2 => ?_)
    · replace hf := ifT c_2 hf
      refine ww_iconst (v := (-1)) C dX2_walkRoom_28 (by decide) ?_
      obtain rfl := Option.some.inj hf
      exact ww_iret C ⟨rfl, rfl⟩ dX2_walkRoom_29
    · replace hf := ifF c_2 hf
      refine ww_iload_n C dX2_walkRoom_12 rfl 2 rfl ?_
      refine ww_aload_n C dX2_walkRoom_13 rfl 0 rfl ?_
      refine ww_get C clOK2 in_X2_walkRoom_X2 (w := wHouse E a0 v0) (fs := fsHouse a0 v0) (v := .ref (a0 5)) 0 0 11 rfl q_House (by decide) (by decide +kernel) g_House_periods dX2_walkRoom_14 ?_
      refine ww_iload_n C dX2_walkRoom_17 rfl 1 rfl ?_
      obtain ⟨g_3, hf⟩ := gdE hf
      refine ww_iald C (f := House_periods v0) (w := wHouse E a0 v0) 0 5 rfl c_House_periods (inB_vp g_3) dX2_walkRoom_18 ?_
      refine ww_icmp_ge (tgt := 28) C dX2_walkRoom_19 (by decide) (fun c_4 => ?_) (fun c_4 => ?_)
      · replace hf := ifT c_4 hf
        refine ww_iconst (v := (-1)) C dX2_walkRoom_28 (by decide) ?_
        obtain rfl := Option.some.inj hf
        exact ww_iret C ⟨rfl, rfl⟩ dX2_walkRoom_29
      · replace hf := ifF c_4 hf
        refine ww_iload_n C dX2_walkRoom_22 rfl 2 rfl ?_
        refine ww_bipush (v := 10) C dX2_walkRoom_23 (by decide) ?_
        refine ww_icmp_lt (tgt := 30) C dX2_walkRoom_25 (by decide) (fun c_5 => ?_) (fun c_5 => ?_)
        · replace hf := ifT c_5 hf
          refine ww_aload_n C dX2_walkRoom_30 rfl 0 rfl ?_
          refine ww_get C clOK2 in_X2_walkRoom_X2 (w := wHouse E a0 v0) (fs := fsHouse a0 v0) (v := .ref (a0 7)) 0 0 13 rfl q_House (by decide) (by decide +kernel) g_House_walks dX2_walkRoom_31 ?_
          refine ww_iload_n C dX2_walkRoom_34 rfl 1 rfl ?_
          refine ww_bipush (v := 10) C dX2_walkRoom_35 (by decide) ?_
          refine ww_imul C dX2_walkRoom_37 ?_
          refine ww_iload_n C dX2_walkRoom_38 rfl 2 rfl ?_
          refine ww_iadd C dX2_walkRoom_39 ?_
          obtain ⟨g_6, hf⟩ := gdE hf
          refine ww_iald C (f := House_walks v0) (w := wHouse E a0 v0) 0 7 rfl c_House_walks (inB_vp g_6) dX2_walkRoom_40 ?_
          obtain rfl := Option.some.inj hf
          exact ww_iret C ⟨rfl, rfl⟩ dX2_walkRoom_41
        · replace hf := ifF c_5 hf
          refine ww_iconst (v := (-1)) C dX2_walkRoom_28 (by decide) ?_
          obtain rfl := Option.some.inj hf
          exact ww_iret C ⟨rfl, rfl⟩ dX2_walkRoom_29

theorem yk_X2_walkRoom : yX2_walkRoom.cls = RX2 ∧ yX2_walkRoom.cls ≠ "java/lang/invoke/MethodHandle" ∧ yX2_walkRoom.cls ≠ "java/lang/invoke/VarHandle" ∧ (parseMethodDescriptor yX2_walkRoom.desc).map (fun d => d.parameters.length) = some 2 := by decide +kernel
def House_lastRoom (x1 : Int32) (v0 : HouseV) : Option Int32 :=
  Option.bind (House_hasGuard x1 v0) fun p2 =>
  bif p2 then
    gd (inB x1 4) <|
    if (House_periods v0) (Int32.toNatClampNeg x1) < 1 then
      some (-1)
    else
      if (House_periods v0) (Int32.toNatClampNeg x1) ≤ 10 then
        gd (inB (((x1 * 10) + ((House_periods v0) (Int32.toNatClampNeg x1))) - 1) 40) <|
        some ((House_walks v0) (Int32.toNatClampNeg (((x1 * 10) + ((House_periods v0) (Int32.toNatClampNeg x1))) - 1)))
      else
        some (-1)
  else
    some (-1)

abbrev rmX2_lastRoom : Room := { frames := 1, cells := 0, slots := 0, locals := 21 }
set_option maxRecDepth 20000 in
theorem in_X2_lastRoom_X2 : ∀ w ∈ u_ws RX2 TX2 19, w ∈ wsX2_lastRoom := by decide +kernel
set_option maxHeartbeats 4000000 in
set_option maxRecDepth 100000 in
theorem c_X2_lastRoom {E : Ex} {a0 : Nat → Nat} {x1 : Int32} {v0 : HouseV} {r : Int32} (hf : House_lastRoom x1 v0 = some r) : Ct E yX2_lastRoom wsX2_lastRoom rmX2_lastRoom [.ref (a0 0), .int x1] [wHouse E a0 v0] (fun rv g => rv = some (.int r) ∧ g = [wHouse E a0 v0]) := by
  refine ct_of (own := RX2) (by decide +kernel) rfl rfl (Nat.le_of_ble_eq_true rfl) (fun K C => ?_)
  refine ww_sub C (lv' := [(0, .ref (a0 0)), (1, .int x1)]) [0, 1] rfl ?_
  rw [House_lastRoom] at hf
  refine ww_aload_n C dX2_lastRoom_0 rfl 0 rfl ?_
  refine ww_iload_n C dX2_lastRoom_1 rfl 1 rfl ?_
  obtain ⟨p2, hp2, hf⟩ := bdE hf
  refine ww_callV C (As := [.int x1]) (st := []) (gr := []) (c_X2_hasGuard (E := E) (a0 := a0) hp2) gX2_lastRoom_X2_hasGuard rfl yk_X2_hasGuard ⟨by decide, by decide⟩ ⟨by decide, by decide⟩ clOK2 0 0 rfl rfl [0] [] 1 rfl (by decide) rfl rfl (Nat.le_of_ble_eq_true rfl) dX2_lastRoom_2 ?_
  rintro _ _ ⟨rfl, rfl⟩
  refine ww_perm (gs' := [wHouse E a0 v0]) [0] 1 rfl (by decide) rfl ?_
  refine ww_if_eqB (tgt := 29) C dX2_lastRoom_5 (by decide) (fun c_1 => ?_) (fun c_1 => ?_)
  · replace hf := bfE c_1 hf
    refine ww_iconst (v := (-1)) C dX2_lastRoom_29 (by decide) ?_
    obtain rfl := Option.some.inj hf
    exact ww_iret C ⟨rfl, rfl⟩ dX2_lastRoom_30
  · replace hf := btE c_1 hf
    refine ww_aload_n C dX2_lastRoom_8 rfl 0 rfl ?_
    refine ww_get C clOK2 in_X2_lastRoom_X2 (w := wHouse E a0 v0) (fs := fsHouse a0 v0) (v := .ref (a0 5)) 0 0 11 rfl q_House (by decide) (by decide +kernel) g_House_periods dX2_lastRoom_9 ?_
    refine ww_iload_n C dX2_lastRoom_12 rfl 1 rfl ?_
    obtain ⟨g_2, hf⟩ := gdE hf
    refine ww_iald C (f := House_periods v0) (w := wHouse E a0 v0) 0 5 rfl c_House_periods (inB_vp g_2) dX2_lastRoom_13 ?_
    refine ww_iconst (v := 1) C dX2_lastRoom_14 (by decide) ?_
    refine ww_icmp_lt (tgt := 29) C dX2_lastRoom_15 (by decide) (fun c_3 => ?_) (fun c_3 => ?_)
    · replace hf := ifT c_3 hf
      refine ww_iconst (v := (-1)) C dX2_lastRoom_29 (by decide) ?_
      obtain rfl := Option.some.inj hf
      exact ww_iret C ⟨rfl, rfl⟩ dX2_lastRoom_30
    · replace hf := ifF c_3 hf
      refine ww_aload_n C dX2_lastRoom_18 rfl 0 rfl ?_
      refine ww_get C clOK2 in_X2_lastRoom_X2 (w := wHouse E a0 v0) (fs := fsHouse a0 v0) (v := .ref (a0 5)) 0 0 11 rfl q_House (by decide) (by decide +kernel) g_House_periods dX2_lastRoom_19 ?_
      refine ww_iload_n C dX2_lastRoom_22 rfl 1 rfl ?_
      refine ww_iald C (f := House_periods v0) (w := wHouse E a0 v0) 0 5 rfl c_House_periods (inB_vp g_2) dX2_lastRoom_23 ?_
      refine ww_bipush (v := 10) C dX2_lastRoom_24 (by decide) ?_
      refine ww_icmp_le (tgt := 31) C dX2_lastRoom_26 (by decide) (fun c_4 => ?_) (fun c_4 => ?_)
      · replace hf := ifT c_4 hf
        refine ww_aload_n C dX2_lastRoom_31 rfl 0 rfl ?_
        refine ww_get C clOK2 in_X2_lastRoom_X2 (w := wHouse E a0 v0) (fs := fsHouse a0 v0) (v := .ref (a0 7)) 0 0 13 rfl q_House (by decide) (by decide +kernel) g_House_walks dX2_lastRoom_32 ?_
        refine ww_iload_n C dX2_lastRoom_35 rfl 1 rfl ?_
        refine ww_bipush (v := 10) C dX2_lastRoom_36 (by decide) ?_
        refine ww_imul C dX2_lastRoom_38 ?_
        refine ww_aload_n C dX2_lastRoom_39 rfl 0 rfl ?_
        refine ww_get C clOK2 in_X2_lastRoom_X2 (w := wHouse E a0 v0) (fs := fsHouse a0 v0) (v := .ref (a0 5)) 0 0 11 rfl q_House (by decide) (by decide +kernel) g_House_periods dX2_lastRoom_40 ?_
        refine ww_iload_n C dX2_lastRoom_43 rfl 1 rfl ?_
        refine ww_iald C (f := House_periods v0) (w := wHouse E a0 v0) 0 5 rfl c_House_periods (inB_vp g_2) dX2_lastRoom_44 ?_
        refine ww_iadd C dX2_lastRoom_45 ?_
        refine ww_iconst (v := 1) C dX2_lastRoom_46 (by decide) ?_
        refine ww_isub C dX2_lastRoom_47 ?_
        obtain ⟨g_5, hf⟩ := gdE hf
        refine ww_iald C (f := House_walks v0) (w := wHouse E a0 v0) 0 7 rfl c_House_walks (inB_vp g_5) dX2_lastRoom_48 ?_
        obtain rfl := Option.some.inj hf
        exact ww_iret C ⟨rfl, rfl⟩ dX2_lastRoom_49
      · replace hf := ifF c_4 hf
        refine ww_iconst (v := (-1)) C dX2_lastRoom_29 (by decide) ?_
        obtain rfl := Option.some.inj hf
        exact ww_iret C ⟨rfl, rfl⟩ dX2_lastRoom_30

theorem yk_X2_lastRoom : yX2_lastRoom.cls = RX2 ∧ yX2_lastRoom.cls ≠ "java/lang/invoke/MethodHandle" ∧ yX2_lastRoom.cls ≠ "java/lang/invoke/VarHandle" ∧ (parseMethodDescriptor yX2_lastRoom.desc).map (fun d => d.parameters.length) = some 1 := by decide +kernel
def House_goesThrough_49 (x1 : Int32) (x2 : Int32) (x3 : Int32) (v0 : HouseV)  (k10 : Int32 → Int32 → Option Bool) (x4 : Int32) (x5 : Int32) (x6 : Int32) : Option Bool :=
  if x4 = x3 then
    if x6 = x2 then
      some true
    else
      nmL (x5 + 1) fun (x5_67 : Int32) =>
      k10 x6 x5_67
  else
    nmL (x5 + 1) fun (x5_67 : Int32) =>
    k10 x6 x5_67

def House_goesThrough_10 (x1 : Int32) (x2 : Int32) (x3 : Int32) (v0 : HouseV)  : Nat → Int32 → Int32 → Option Bool
  | 0, _, _ => none
  | n + 1, x4, x5 =>
    if 10 ≤ x5 then
      some false
    else
      Option.bind (House_walkRoom x1 x5 v0) fun p21 =>
      if p21 = (-1) then
        some false
      else
        Option.bind (House_walkRoom x1 x5 v0) fun p32 =>
        if x4 = x2 then
          if p32 = x3 then
            some true
          else
            House_goesThrough_49 x1 x2 x3 v0 (fun (x4 : Int32) (x5 : Int32) => House_goesThrough_10 x1 x2 x3 v0 n x4 x5) x4 x5 p32
        else
          House_goesThrough_49 x1 x2 x3 v0 (fun (x4 : Int32) (x5 : Int32) => House_goesThrough_10 x1 x2 x3 v0 n x4 x5) x4 x5 p32

def House_goesThrough (x1 : Int32) (x2 : Int32) (x3 : Int32) (v0 : HouseV) : Option Bool :=
  Option.bind (House_lastRoom x1 v0) fun p2 =>
  House_goesThrough_10 x1 x2 x3 v0 FU p2 0

abbrev rmX2_goesThrough : Room := { frames := 2, cells := 0, slots := 0, locals := 43 }
set_option maxHeartbeats 4000000 in
set_option maxRecDepth 100000 in
theorem w_X2_goesThrough_49 {E : Ex} {K : Kx} (C : Cx E K cX2_goesThrough 7 (some .boolean) RX2 wsX2_goesThrough rmX2_goesThrough) {a0 : Nat → Nat} {x1 : Int32} {x2 : Int32} {x3 : Int32} {v0 : HouseV}  {x4 : Int32} {x5 : Int32} {x6 : Int32} {k10 : Int32 → Int32 → Option Bool} {r : Bool} (hk10 : ∀ (x4 : Int32) (x5 : Int32), k10 x4 x5 = some r → WW E K 0 0 (QQ E K (fun rv g => rv = some (.int (b2i r)) ∧ g = [wHouse E a0 v0]) 0 0) 10 [(0, .ref (a0 0)), (1, .int x1), (2, .int x2), (3, .int x3), (4, .int x4), (5, .int x5)] [] [wHouse E a0 v0]) (hf : House_goesThrough_49 x1 x2 x3 v0 k10 x4 x5 x6 = some r) : WW E K 0 0 (QQ E K (fun rv g => rv = some (.int (b2i r)) ∧ g = [wHouse E a0 v0]) 0 0) 49 [(0, .ref (a0 0)), (1, .int x1), (2, .int x2), (3, .int x3), (4, .int x4), (5, .int x5), (6, .int x6)] [] [wHouse E a0 v0] := by
  rw [House_goesThrough_49] at hf
  refine ww_iload C dX2_goesThrough_49 4 rfl ?_
  refine ww_iload_n C dX2_goesThrough_51 rfl 3 rfl ?_
  refine ww_icmp_ne (tgt := 63) C dX2_goesThrough_52 (by decide) (fun c_5 => ?_) (fun c_5 => ?_)
  · replace hf := ifF c_5 hf
    refine ww_iload C dX2_goesThrough_63 6 rfl ?_
    refine ww_istore (lv' := [(4, .int x6), (0, .ref (a0 0)), (1, .int x1), (2, .int x2), (3, .int x3), (5, .int x5), (6, .int x6)]) C dX2_goesThrough_65 (by decide) rfl ?_
    obtain ⟨x5_67, e_x5_67⟩ : ∃ y : Int32, y = x5 + 1 := ⟨_, rfl⟩
    replace hf := ltE e_x5_67 hf
    refine ww_iinc (v := x5_67) (lv' := [(5, .int x5_67), (4, .int x6), (0, .ref (a0 0)), (1, .int x1), (2, .int x2), (3, .int x3), (6, .int x6)]) C dX2_goesThrough_67 5 rfl (by rw [e_x5_67]; rfl) (by decide) rfl ?_
    refine ww_goto (tgt := 10) C dX2_goesThrough_70 (by decide) ?_
    refine ww_sub C (lv' := [(0, .ref (a0 0)), (1, .int x1), (2, .int x2), (3, .int x3), (4, .int x6), (5, .int x5_67)]) [2, 3, 4, 5, 1, 0] rfl ?_
    exact hk10 _ _ hf
  · replace hf := ifT c_5 hf
    refine ww_iload C dX2_goesThrough_55 6 rfl ?_
    refine ww_iload_n C dX2_goesThrough_57 rfl 2 rfl ?_
    refine ww_icmp_ne (tgt := 63) C dX2_goesThrough_58 (by decide) (fun c_6 => ?_) (fun c_6 => ?_)
    · replace hf := ifF c_6 hf
      refine ww_iload C dX2_goesThrough_63 6 rfl ?_
      refine ww_istore (lv' := [(4, .int x6), (0, .ref (a0 0)), (1, .int x1), (2, .int x2), (3, .int x3), (5, .int x5), (6, .int x6)]) C dX2_goesThrough_65 (by decide) rfl ?_
      obtain ⟨x5_67, e_x5_67⟩ : ∃ y : Int32, y = x5 + 1 := ⟨_, rfl⟩
      replace hf := ltE e_x5_67 hf
      refine ww_iinc (v := x5_67) (lv' := [(5, .int x5_67), (4, .int x6), (0, .ref (a0 0)), (1, .int x1), (2, .int x2), (3, .int x3), (6, .int x6)]) C dX2_goesThrough_67 5 rfl (by rw [e_x5_67]; rfl) (by decide) rfl ?_
      refine ww_goto (tgt := 10) C dX2_goesThrough_70 (by decide) ?_
      refine ww_sub C (lv' := [(0, .ref (a0 0)), (1, .int x1), (2, .int x2), (3, .int x3), (4, .int x6), (5, .int x5_67)]) [2, 3, 4, 5, 1, 0] rfl ?_
      exact hk10 _ _ hf
    · replace hf := ifT c_6 hf
      refine ww_iconst (v := 1) C dX2_goesThrough_61 (by decide) ?_
      obtain rfl := Option.some.inj hf
      exact ww_zret C (nar_b true) ⟨rfl, rfl⟩ dX2_goesThrough_62

set_option maxHeartbeats 4000000 in
set_option maxRecDepth 100000 in
theorem w_X2_goesThrough_10 {E : Ex} {K : Kx} (C : Cx E K cX2_goesThrough 7 (some .boolean) RX2 wsX2_goesThrough rmX2_goesThrough) {a0 : Nat → Nat} {x1 : Int32} {x2 : Int32} {x3 : Int32} {v0 : HouseV}  {r : Bool} : ∀ (n : Nat) (x4 : Int32) (x5 : Int32), House_goesThrough_10 x1 x2 x3 v0 n x4 x5 = some r → WW E K 0 0 (QQ E K (fun rv g => rv = some (.int (b2i r)) ∧ g = [wHouse E a0 v0]) 0 0) 10 [(0, .ref (a0 0)), (1, .int x1), (2, .int x2), (3, .int x3), (4, .int x4), (5, .int x5)] [] [wHouse E a0 v0] := by
  intro n
  induction n with
  | zero =>
    intro x4 x5 hf
    simp [House_goesThrough_10] at hf
  | succ n ih =>
    intro x4 x5 hf
    rw [House_goesThrough_10] at hf
    refine ww_iload C dX2_goesThrough_10 5 rfl ?_
    refine ww_bipush (v := 10) C dX2_goesThrough_12 (by decide) ?_
    refine ww_icmp_ge (tgt := 73) C dX2_goesThrough_14 (by decide) (fun c_1 => ?_) (fun c_1 => ?_)
    · replace hf := ifT c_1 hf
      refine ww_iconst (v := 0) C dX2_goesThrough_73 (by decide) ?_
      obtain rfl := Option.some.inj hf
      exact ww_zret C (nar_b false) ⟨rfl, rfl⟩ dX2_goesThrough_74
    · replace hf := ifF c_1 hf
      refine ww_aload_n C dX2_goesThrough_17 rfl 0 rfl ?_
      refine ww_iload_n C dX2_goesThrough_18 rfl 1 rfl ?_
      refine ww_iload C dX2_goesThrough_19 5 rfl ?_
      obtain ⟨p21, hp21, hf⟩ := bdE hf
      refine ww_callV C (As := [.int x1, .int x5]) (st := []) (gr := []) (c_X2_walkRoom (E := E) (a0 := a0) hp21) gX2_goesThrough_X2_walkRoom rfl yk_X2_walkRoom ⟨by decide, by decide⟩ ⟨by decide, by decide⟩ clOK2 0 0 rfl rfl [0] [] 1 rfl (by decide) rfl rfl (Nat.le_of_ble_eq_true rfl) dX2_goesThrough_21 ?_
      rintro _ _ ⟨rfl, rfl⟩
      refine ww_perm (gs' := [wHouse E a0 v0]) [0] 1 rfl (by decide) rfl ?_
      refine ww_iconst (v := (-1)) C dX2_goesThrough_24 (by decide) ?_
      refine ww_icmp_eq (tgt := 73) C dX2_goesThrough_25 (by decide) (fun c_2 => ?_) (fun c_2 => ?_)
      · replace hf := ifT c_2 hf
        refine ww_iconst (v := 0) C dX2_goesThrough_73 (by decide) ?_
        obtain rfl := Option.some.inj hf
        exact ww_zret C (nar_b false) ⟨rfl, rfl⟩ dX2_goesThrough_74
      · replace hf := ifF c_2 hf
        refine ww_aload_n C dX2_goesThrough_28 rfl 0 rfl ?_
        refine ww_iload_n C dX2_goesThrough_29 rfl 1 rfl ?_
        refine ww_iload C dX2_goesThrough_30 5 rfl ?_
        obtain ⟨p32, hp32, hf⟩ := bdE hf
        refine ww_callV C (As := [.int x1, .int x5]) (st := []) (gr := []) (c_X2_walkRoom (E := E) (a0 := a0) hp32) gX2_goesThrough_X2_walkRoom rfl yk_X2_walkRoom ⟨by decide, by decide⟩ ⟨by decide, by decide⟩ clOK2 0 0 rfl rfl [0] [] 1 rfl (by decide) rfl rfl (Nat.le_of_ble_eq_true rfl) dX2_goesThrough_32 ?_
        rintro _ _ ⟨rfl, rfl⟩
        refine ww_perm (gs' := [wHouse E a0 v0]) [0] 1 rfl (by decide) rfl ?_
        refine ww_istore (lv' := [(6, .int p32), (0, .ref (a0 0)), (1, .int x1), (2, .int x2), (3, .int x3), (4, .int x4), (5, .int x5)]) C dX2_goesThrough_35 (by decide) rfl ?_
        refine ww_iload C dX2_goesThrough_37 5 rfl ?_
        refine ww_iload_n C dX2_goesThrough_39 rfl 3 rfl ?_
        refine ww_icmp_ne (tgt := 49) C dX2_goesThrough_40 (by decide) (fun c_3 => ?_) (fun c_3 => ?_)
        · replace hf := ifF c_3 hf
          refine ww_sub C (lv' := [(0, .ref (a0 0)), (1, .int x1), (2, .int x2), (3, .int x3), (4, .int x4), (5, .int x5), (6, .int p32)]) [1, 2, 3, 4, 5, 6, 0] rfl ?_
          exact w_X2_goesThrough_49 C (k10 := (fun (x4 : Int32) (x5 : Int32) => House_goesThrough_10 x1 x2 x3 v0 n x4 x5)) ih hf
        · replace hf := ifT c_3 hf
          refine ww_iload C dX2_goesThrough_43 0 rfl ?_
          refine ww_iload_n C dX2_goesThrough_45 rfl 4 rfl ?_
          refine ww_icmp_eq (tgt := 61) C dX2_goesThrough_46 (by decide) (fun c_4 => ?_) (fun c_4 => ?_)
          · replace hf := ifT c_4 hf
            refine ww_iconst (v := 1) C dX2_goesThrough_61 (by decide) ?_
            obtain rfl := Option.some.inj hf
            exact ww_zret C (nar_b true) ⟨rfl, rfl⟩ dX2_goesThrough_62
          · replace hf := ifF c_4 hf
            refine ww_sub C (lv' := [(0, .ref (a0 0)), (1, .int x1), (2, .int x2), (3, .int x3), (4, .int x4), (5, .int x5), (6, .int p32)]) [1, 2, 3, 4, 5, 6, 0] rfl ?_
            exact w_X2_goesThrough_49 C (k10 := (fun (x4 : Int32) (x5 : Int32) => House_goesThrough_10 x1 x2 x3 v0 n x4 x5)) ih hf

set_option maxHeartbeats 4000000 in
set_option maxRecDepth 100000 in
theorem c_X2_goesThrough {E : Ex} {a0 : Nat → Nat} {x1 : Int32} {x2 : Int32} {x3 : Int32} {v0 : HouseV} {r : Bool} (hf : House_goesThrough x1 x2 x3 v0 = some r) : Ct E yX2_goesThrough wsX2_goesThrough rmX2_goesThrough [.ref (a0 0), .int x1, .int x2, .int x3] [wHouse E a0 v0] (fun rv g => rv = some (.int (b2i r)) ∧ g = [wHouse E a0 v0]) := by
  refine ct_of (own := RX2) (by decide +kernel) rfl rfl (Nat.le_of_ble_eq_true rfl) (fun K C => ?_)
  refine ww_sub C (lv' := [(0, .ref (a0 0)), (1, .int x1), (2, .int x2), (3, .int x3)]) [0, 1, 2, 3] rfl ?_
  rw [House_goesThrough] at hf
  refine ww_aload_n C dX2_goesThrough_0 rfl 0 rfl ?_
  refine ww_iload_n C dX2_goesThrough_1 rfl 1 rfl ?_
  obtain ⟨p2, hp2, hf⟩ := bdE hf
  refine ww_callV C (As := [.int x1]) (st := []) (gr := []) (c_X2_lastRoom (E := E) (a0 := a0) hp2) gX2_goesThrough_X2_lastRoom rfl yk_X2_lastRoom ⟨by decide, by decide⟩ ⟨by decide, by decide⟩ clOK2 0 0 rfl rfl [0] [] 1 rfl (by decide) rfl rfl (Nat.le_of_ble_eq_true rfl) dX2_goesThrough_2 ?_
  rintro _ _ ⟨rfl, rfl⟩
  refine ww_perm (gs' := [wHouse E a0 v0]) [0] 1 rfl (by decide) rfl ?_
  refine ww_istore (lv' := [(4, .int p2), (0, .ref (a0 0)), (1, .int x1), (2, .int x2), (3, .int x3)]) C dX2_goesThrough_5 (by decide) rfl ?_
  refine ww_iconst (v := 0) C dX2_goesThrough_7 (by decide) ?_
  refine ww_istore (lv' := [(5, .int 0), (4, .int p2), (0, .ref (a0 0)), (1, .int x1), (2, .int x2), (3, .int x3)]) C dX2_goesThrough_8 (by decide) rfl ?_
  refine ww_sub C (lv' := [(0, .ref (a0 0)), (1, .int x1), (2, .int x2), (3, .int x3), (4, .int p2), (5, .int 0)]) [2, 3, 4, 5, 1, 0] rfl ?_
  exact w_X2_goesThrough_10 C FU _ _ hf

theorem yk_X2_goesThrough : yX2_goesThrough.cls = RX2 ∧ yX2_goesThrough.cls ≠ "java/lang/invoke/MethodHandle" ∧ yX2_goesThrough.cls ≠ "java/lang/invoke/VarHandle" ∧ (parseMethodDescriptor yX2_goesThrough.desc).map (fun d => d.parameters.length) = some 3 := by decide +kernel
def House_emptyWalk (x1 : Int32) (v0 : HouseV) : Option HouseV :=
  Option.bind (House_hasGuard x1 v0) fun p2 =>
  bif p2 then
    gd (inB x1 4) <|
    nmL (House_set_periods v0 (upd (House_periods v0) (Int32.toNatClampNeg x1) 0)) fun (v0_14 : HouseV) =>
    nmL (House_set_phases v0_14 (upd (House_phases v0_14) (Int32.toNatClampNeg x1) 0)) fun (v0_21 : HouseV) =>
    nmL (House_set_walked v0_21 (upd (House_walked v0_21) (Int32.toNatClampNeg x1) 0)) fun (v0_28 : HouseV) =>
    some v0_28
  else
    some v0

abbrev rmX2_emptyWalk : Room := { frames := 1, cells := 0, slots := 0, locals := 21 }
set_option maxRecDepth 20000 in
theorem in_X2_emptyWalk_X2 : ∀ w ∈ u_ws RX2 TX2 19, w ∈ wsX2_emptyWalk := by decide +kernel
set_option maxHeartbeats 4000000 in
set_option maxRecDepth 100000 in
theorem c_X2_emptyWalk {E : Ex} {a0 : Nat → Nat} {x1 : Int32} {v0 : HouseV} {r : HouseV} (hf : House_emptyWalk x1 v0 = some r) : Ct E yX2_emptyWalk wsX2_emptyWalk rmX2_emptyWalk [.ref (a0 0), .int x1] [wHouse E a0 v0] (fun rv g => rv = none ∧ g = [wHouse E a0 r]) := by
  refine ct_of (own := RX2) (by decide +kernel) rfl rfl (Nat.le_of_ble_eq_true rfl) (fun K C => ?_)
  refine ww_sub C (lv' := [(0, .ref (a0 0)), (1, .int x1)]) [0, 1] rfl ?_
  rw [House_emptyWalk] at hf
  refine ww_aload_n C dX2_emptyWalk_0 rfl 0 rfl ?_
  refine ww_iload_n C dX2_emptyWalk_1 rfl 1 rfl ?_
  obtain ⟨p2, hp2, hf⟩ := bdE hf
  refine ww_callV C (As := [.int x1]) (st := []) (gr := []) (c_X2_hasGuard (E := E) (a0 := a0) hp2) gX2_emptyWalk_X2_hasGuard rfl yk_X2_hasGuard ⟨by decide, by decide⟩ ⟨by decide, by decide⟩ clOK2 0 0 rfl rfl [0] [] 1 rfl (by decide) rfl rfl (Nat.le_of_ble_eq_true rfl) dX2_emptyWalk_2 ?_
  rintro _ _ ⟨rfl, rfl⟩
  refine ww_perm (gs' := [wHouse E a0 v0]) [0] 1 rfl (by decide) rfl ?_
  refine ww_if_eqB (tgt := 29) C dX2_emptyWalk_5 (by decide) (fun c_1 => ?_) (fun c_1 => ?_)
  · replace hf := bfE c_1 hf
    obtain rfl := Option.some.inj hf
    exact ww_vret C ⟨rfl, rfl⟩ dX2_emptyWalk_29
  · replace hf := btE c_1 hf
    refine ww_aload_n C dX2_emptyWalk_8 rfl 0 rfl ?_
    refine ww_get C clOK2 in_X2_emptyWalk_X2 (w := wHouse E a0 v0) (fs := fsHouse a0 v0) (v := .ref (a0 5)) 0 0 11 rfl q_House (by decide) (by decide +kernel) g_House_periods dX2_emptyWalk_9 ?_
    refine ww_iload_n C dX2_emptyWalk_12 rfl 1 rfl ?_
    refine ww_iconst (v := 0) C dX2_emptyWalk_13 (by decide) ?_
    obtain ⟨g_2, hf⟩ := gdE hf
    obtain ⟨v0_14, e_v0_14⟩ : ∃ y : HouseV, y = House_set_periods v0 (upd (House_periods v0) (Int32.toNatClampNeg x1) 0) := ⟨_, rfl⟩
    replace hf := ltE e_v0_14 hf
    refine ww_iast C (f := House_periods v0) (w := wHouse E a0 v0) (w' := wHouse E a0 v0_14) (gs' := [wHouse E a0 v0_14]) 0 5 rfl c_House_periods (inB_vp g_2) (by rw [e_v0_14]; exact s_House_periods) rfl dX2_emptyWalk_14 ?_
    refine ww_aload_n C dX2_emptyWalk_15 rfl 0 rfl ?_
    refine ww_get C clOK2 in_X2_emptyWalk_X2 (w := wHouse E a0 v0_14) (fs := fsHouse a0 v0_14) (v := .ref (a0 6)) 0 0 12 rfl q_House (by decide) (by decide +kernel) g_House_phases dX2_emptyWalk_16 ?_
    refine ww_iload_n C dX2_emptyWalk_19 rfl 1 rfl ?_
    refine ww_iconst (v := 0) C dX2_emptyWalk_20 (by decide) ?_
    obtain ⟨v0_21, e_v0_21⟩ : ∃ y : HouseV, y = House_set_phases v0_14 (upd (House_phases v0_14) (Int32.toNatClampNeg x1) 0) := ⟨_, rfl⟩
    replace hf := ltE e_v0_21 hf
    refine ww_iast C (f := House_phases v0_14) (w := wHouse E a0 v0_14) (w' := wHouse E a0 v0_21) (gs' := [wHouse E a0 v0_21]) 0 6 rfl c_House_phases (inB_vp g_2) (by rw [e_v0_21]; exact s_House_phases) rfl dX2_emptyWalk_21 ?_
    refine ww_aload_n C dX2_emptyWalk_22 rfl 0 rfl ?_
    refine ww_get C clOK2 in_X2_emptyWalk_X2 (w := wHouse E a0 v0_21) (fs := fsHouse a0 v0_21) (v := .ref (a0 8)) 0 0 14 rfl q_House (by decide) (by decide +kernel) g_House_walked dX2_emptyWalk_23 ?_
    refine ww_iload_n C dX2_emptyWalk_26 rfl 1 rfl ?_
    refine ww_iconst (v := 0) C dX2_emptyWalk_27 (by decide) ?_
    obtain ⟨v0_28, e_v0_28⟩ : ∃ y : HouseV, y = House_set_walked v0_21 (upd (House_walked v0_21) (Int32.toNatClampNeg x1) 0) := ⟨_, rfl⟩
    replace hf := ltE e_v0_28 hf
    refine ww_iast C (f := House_walked v0_21) (w := wHouse E a0 v0_21) (w' := wHouse E a0 v0_28) (gs' := [wHouse E a0 v0_28]) 0 8 rfl c_House_walked (inB_vp g_2) (by rw [e_v0_28]; exact s_House_walked) rfl dX2_emptyWalk_28 ?_
    obtain rfl := Option.some.inj hf
    exact ww_vret C ⟨rfl, rfl⟩ dX2_emptyWalk_29

theorem yk_X2_emptyWalk : yX2_emptyWalk.cls = RX2 ∧ yX2_emptyWalk.cls ≠ "java/lang/invoke/MethodHandle" ∧ yX2_emptyWalk.cls ≠ "java/lang/invoke/VarHandle" ∧ (parseMethodDescriptor yX2_emptyWalk.desc).map (fun d => d.parameters.length) = some 1 := by decide +kernel
def House_addStep (x1 : Int32) (x2 : Int32) (v0 : HouseV) : Option HouseV :=
  Option.bind (House_hasGuard x1 v0) fun p2 =>
  bif p2 then
    gd (inB x1 4) <|
    if (House_periods v0) (Int32.toNatClampNeg x1) < 0 then
      some v0
    else
      if 10 ≤ (House_periods v0) (Int32.toNatClampNeg x1) then
        some v0
      else
        gd (inB ((x1 * 10) + ((House_periods v0) (Int32.toNatClampNeg x1))) 40) <|
        nmL (House_set_walks v0 (upd (House_walks v0) (Int32.toNatClampNeg ((x1 * 10) + ((House_periods v0) (Int32.toNatClampNeg x1)))) x2)) fun (v0_44 : HouseV) =>
        nmL (House_set_walked v0_44 (upd (House_walked v0_44) (Int32.toNatClampNeg x1) (((House_walked v0_44) (Int32.toNatClampNeg x1)) ||| (1 <<< (x2 &&& 31))))) fun (v0_56 : HouseV) =>
        nmL (House_set_periods v0_56 (upd (House_periods v0_56) (Int32.toNatClampNeg x1) (((House_periods v0_56) (Int32.toNatClampNeg x1)) + 1))) fun (v0_66 : HouseV) =>
        some v0_66
  else
    some v0

abbrev rmX2_addStep : Room := { frames := 1, cells := 0, slots := 0, locals := 21 }
set_option maxRecDepth 20000 in
theorem in_X2_addStep_X2 : ∀ w ∈ u_ws RX2 TX2 19, w ∈ wsX2_addStep := by decide +kernel
set_option maxHeartbeats 4000000 in
set_option maxRecDepth 100000 in
theorem c_X2_addStep {E : Ex} {a0 : Nat → Nat} {x1 : Int32} {x2 : Int32} {v0 : HouseV} {r : HouseV} (hf : House_addStep x1 x2 v0 = some r) : Ct E yX2_addStep wsX2_addStep rmX2_addStep [.ref (a0 0), .int x1, .int x2] [wHouse E a0 v0] (fun rv g => rv = none ∧ g = [wHouse E a0 r]) := by
  refine ct_of (own := RX2) (by decide +kernel) rfl rfl (Nat.le_of_ble_eq_true rfl) (fun K C => ?_)
  refine ww_sub C (lv' := [(0, .ref (a0 0)), (1, .int x1), (2, .int x2)]) [0, 1, 2] rfl ?_
  rw [House_addStep] at hf
  refine ww_aload_n C dX2_addStep_0 rfl 0 rfl ?_
  refine ww_iload_n C dX2_addStep_1 rfl 1 rfl ?_
  obtain ⟨p2, hp2, hf⟩ := bdE hf
  refine ww_callV C (As := [.int x1]) (st := []) (gr := []) (c_X2_hasGuard (E := E) (a0 := a0) hp2) gX2_addStep_X2_hasGuard rfl yk_X2_hasGuard ⟨by decide, by decide⟩ ⟨by decide, by decide⟩ clOK2 0 0 rfl rfl [0] [] 1 rfl (by decide) rfl rfl (Nat.le_of_ble_eq_true rfl) dX2_addStep_2 ?_
  rintro _ _ ⟨rfl, rfl⟩
  refine ww_perm (gs' := [wHouse E a0 v0]) [0] 1 rfl (by decide) rfl ?_
  refine ww_if_eqB (tgt := 67) C dX2_addStep_5 (by decide) (fun c_1 => ?_) (fun c_1 => ?_)
  · replace hf := bfE c_1 hf
    obtain rfl := Option.some.inj hf
    exact ww_vret C ⟨rfl, rfl⟩ dX2_addStep_67
  · replace hf := btE c_1 hf
    refine ww_aload_n C dX2_addStep_8 rfl 0 rfl ?_
    refine ww_get C clOK2 in_X2_addStep_X2 (w := wHouse E a0 v0) (fs := fsHouse a0 v0) (v := .ref (a0 5)) 0 0 11 rfl q_House (by decide) (by decide +kernel) g_House_periods dX2_addStep_9 ?_
    refine ww_iload_n C dX2_addStep_12 rfl 1 rfl ?_
    obtain ⟨g_2, hf⟩ := gdE hf
    refine ww_iald C (f := House_periods v0) (w := wHouse E a0 v0) 0 5 rfl c_House_periods (inB_vp g_2) dX2_addStep_13 ?_
    refine ww_if_lt (tgt := 67) C dX2_addStep_14 (by decide) (fun c_3 => ?_) (fun c_3 => ?_)
    · replace hf := ifT c_3 hf
      obtain rfl := Option.some.inj hf
      exact ww_vret C ⟨rfl, rfl⟩ dX2_addStep_67
    · replace hf := ifF c_3 hf
      refine ww_aload_n C dX2_addStep_17 rfl 0 rfl ?_
      refine ww_get C clOK2 in_X2_addStep_X2 (w := wHouse E a0 v0) (fs := fsHouse a0 v0) (v := .ref (a0 5)) 0 0 11 rfl q_House (by decide) (by decide +kernel) g_House_periods dX2_addStep_18 ?_
      refine ww_iload_n C dX2_addStep_21 rfl 1 rfl ?_
      refine ww_iald C (f := House_periods v0) (w := wHouse E a0 v0) 0 5 rfl c_House_periods (inB_vp g_2) dX2_addStep_22 ?_
      refine ww_bipush (v := 10) C dX2_addStep_23 (by decide) ?_
      refine ww_icmp_ge (tgt := 67) C dX2_addStep_25 (by decide) (fun c_4 => ?_) (fun c_4 => ?_)
      · replace hf := ifT c_4 hf
        obtain rfl := Option.some.inj hf
        exact ww_vret C ⟨rfl, rfl⟩ dX2_addStep_67
      · replace hf := ifF c_4 hf
        refine ww_aload_n C dX2_addStep_28 rfl 0 rfl ?_
        refine ww_get C clOK2 in_X2_addStep_X2 (w := wHouse E a0 v0) (fs := fsHouse a0 v0) (v := .ref (a0 7)) 0 0 13 rfl q_House (by decide) (by decide +kernel) g_House_walks dX2_addStep_29 ?_
        refine ww_iload_n C dX2_addStep_32 rfl 1 rfl ?_
        refine ww_bipush (v := 10) C dX2_addStep_33 (by decide) ?_
        refine ww_imul C dX2_addStep_35 ?_
        refine ww_aload_n C dX2_addStep_36 rfl 0 rfl ?_
        refine ww_get C clOK2 in_X2_addStep_X2 (w := wHouse E a0 v0) (fs := fsHouse a0 v0) (v := .ref (a0 5)) 0 0 11 rfl q_House (by decide) (by decide +kernel) g_House_periods dX2_addStep_37 ?_
        refine ww_iload_n C dX2_addStep_40 rfl 1 rfl ?_
        refine ww_iald C (f := House_periods v0) (w := wHouse E a0 v0) 0 5 rfl c_House_periods (inB_vp g_2) dX2_addStep_41 ?_
        refine ww_iadd C dX2_addStep_42 ?_
        refine ww_iload_n C dX2_addStep_43 rfl 2 rfl ?_
        obtain ⟨g_5, hf⟩ := gdE hf
        obtain ⟨v0_44, e_v0_44⟩ : ∃ y : HouseV, y = House_set_walks v0 (upd (House_walks v0) (Int32.toNatClampNeg ((x1 * 10) + ((House_periods v0) (Int32.toNatClampNeg x1)))) x2) := ⟨_, rfl⟩
        replace hf := ltE e_v0_44 hf
        refine ww_iast C (f := House_walks v0) (w := wHouse E a0 v0) (w' := wHouse E a0 v0_44) (gs' := [wHouse E a0 v0_44]) 0 7 rfl c_House_walks (inB_vp g_5) (by rw [e_v0_44]; exact s_House_walks) rfl dX2_addStep_44 ?_
        refine ww_aload_n C dX2_addStep_45 rfl 0 rfl ?_
        refine ww_get C clOK2 in_X2_addStep_X2 (w := wHouse E a0 v0_44) (fs := fsHouse a0 v0_44) (v := .ref (a0 8)) 0 0 14 rfl q_House (by decide) (by decide +kernel) g_House_walked dX2_addStep_46 ?_
        refine ww_iload_n C dX2_addStep_49 rfl 1 rfl ?_
        refine ww_dup2 C dX2_addStep_50 rfl rfl ?_
        refine ww_iald C (f := House_walked v0_44) (w := wHouse E a0 v0_44) 0 8 rfl c_House_walked (inB_vp g_2) dX2_addStep_51 ?_
        refine ww_iconst (v := 1) C dX2_addStep_52 (by decide) ?_
        refine ww_iload_n C dX2_addStep_53 rfl 2 rfl ?_
        refine ww_ishl C dX2_addStep_54 ?_
        refine ww_ior C dX2_addStep_55 ?_
        obtain ⟨v0_56, e_v0_56⟩ : ∃ y : HouseV, y = House_set_walked v0_44 (upd (House_walked v0_44) (Int32.toNatClampNeg x1) (((House_walked v0_44) (Int32.toNatClampNeg x1)) ||| (1 <<< (x2 &&& 31)))) := ⟨_, rfl⟩
        replace hf := ltE e_v0_56 hf
        refine ww_iast C (f := House_walked v0_44) (w := wHouse E a0 v0_44) (w' := wHouse E a0 v0_56) (gs' := [wHouse E a0 v0_56]) 0 8 rfl c_House_walked (inB_vp g_2) (by rw [e_v0_56]; exact s_House_walked) rfl dX2_addStep_56 ?_
        refine ww_aload_n C dX2_addStep_57 rfl 0 rfl ?_
        refine ww_get C clOK2 in_X2_addStep_X2 (w := wHouse E a0 v0_56) (fs := fsHouse a0 v0_56) (v := .ref (a0 5)) 0 0 11 rfl q_House (by decide) (by decide +kernel) g_House_periods dX2_addStep_58 ?_
        refine ww_iload_n C dX2_addStep_61 rfl 1 rfl ?_
        refine ww_dup2 C dX2_addStep_62 rfl rfl ?_
        refine ww_iald C (f := House_periods v0_56) (w := wHouse E a0 v0_56) 0 5 rfl c_House_periods (inB_vp g_2) dX2_addStep_63 ?_
        refine ww_iconst (v := 1) C dX2_addStep_64 (by decide) ?_
        refine ww_iadd C dX2_addStep_65 ?_
        obtain ⟨v0_66, e_v0_66⟩ : ∃ y : HouseV, y = House_set_periods v0_56 (upd (House_periods v0_56) (Int32.toNatClampNeg x1) (((House_periods v0_56) (Int32.toNatClampNeg x1)) + 1)) := ⟨_, rfl⟩
        replace hf := ltE e_v0_66 hf
        refine ww_iast C (f := House_periods v0_56) (w := wHouse E a0 v0_56) (w' := wHouse E a0 v0_66) (gs' := [wHouse E a0 v0_66]) 0 5 rfl c_House_periods (inB_vp g_2) (by rw [e_v0_66]; exact s_House_periods) rfl dX2_addStep_66 ?_
        obtain rfl := Option.some.inj hf
        exact ww_vret C ⟨rfl, rfl⟩ dX2_addStep_67

theorem yk_X2_addStep : yX2_addStep.cls = RX2 ∧ yX2_addStep.cls ≠ "java/lang/invoke/MethodHandle" ∧ yX2_addStep.cls ≠ "java/lang/invoke/VarHandle" ∧ (parseMethodDescriptor yX2_addStep.desc).map (fun d => d.parameters.length) = some 2 := by decide +kernel
def House_join (x1 : Int32) (x2 : Int32) (v0 : HouseV) : Option HouseV :=
  Option.bind (House_hasRoom x1 v0) fun p2 =>
  bif p2 then
    gd (inB x1 12) <|
    nmL (House_set_joined v0 (upd (House_joined v0) (Int32.toNatClampNeg x1) (((House_joined v0) (Int32.toNatClampNeg x1)) ||| (1 <<< (x2 &&& 31))))) fun (v0_19 : HouseV) =>
    some v0_19
  else
    some v0

abbrev rmX2_join : Room := { frames := 1, cells := 0, slots := 0, locals := 21 }
set_option maxRecDepth 20000 in
theorem in_X2_join_X2 : ∀ w ∈ u_ws RX2 TX2 19, w ∈ wsX2_join := by decide +kernel
set_option maxHeartbeats 4000000 in
set_option maxRecDepth 100000 in
theorem c_X2_join {E : Ex} {a0 : Nat → Nat} {x1 : Int32} {x2 : Int32} {v0 : HouseV} {r : HouseV} (hf : House_join x1 x2 v0 = some r) : Ct E yX2_join wsX2_join rmX2_join [.ref (a0 0), .int x1, .int x2] [wHouse E a0 v0] (fun rv g => rv = none ∧ g = [wHouse E a0 r]) := by
  refine ct_of (own := RX2) (by decide +kernel) rfl rfl (Nat.le_of_ble_eq_true rfl) (fun K C => ?_)
  refine ww_sub C (lv' := [(0, .ref (a0 0)), (1, .int x1), (2, .int x2)]) [0, 1, 2] rfl ?_
  rw [House_join] at hf
  refine ww_aload_n C dX2_join_0 rfl 0 rfl ?_
  refine ww_iload_n C dX2_join_1 rfl 1 rfl ?_
  obtain ⟨p2, hp2, hf⟩ := bdE hf
  refine ww_callV C (As := [.int x1]) (st := []) (gr := []) (c_X2_hasRoom (E := E) (a0 := a0) hp2) gX2_join_X2_hasRoom rfl yk_X2_hasRoom ⟨by decide, by decide⟩ ⟨by decide, by decide⟩ clOK2 0 0 rfl rfl [0] [] 1 rfl (by decide) rfl rfl (Nat.le_of_ble_eq_true rfl) dX2_join_2 ?_
  rintro _ _ ⟨rfl, rfl⟩
  refine ww_perm (gs' := [wHouse E a0 v0]) [0] 1 rfl (by decide) rfl ?_
  refine ww_if_eqB (tgt := 20) C dX2_join_5 (by decide) (fun c_1 => ?_) (fun c_1 => ?_)
  · replace hf := bfE c_1 hf
    obtain rfl := Option.some.inj hf
    exact ww_vret C ⟨rfl, rfl⟩ dX2_join_20
  · replace hf := btE c_1 hf
    refine ww_aload_n C dX2_join_8 rfl 0 rfl ?_
    refine ww_get C clOK2 in_X2_join_X2 (w := wHouse E a0 v0) (fs := fsHouse a0 v0) (v := .ref (a0 3)) 0 0 9 rfl q_House (by decide) (by decide +kernel) g_House_joined dX2_join_9 ?_
    refine ww_iload_n C dX2_join_12 rfl 1 rfl ?_
    refine ww_dup2 C dX2_join_13 rfl rfl ?_
    obtain ⟨g_2, hf⟩ := gdE hf
    refine ww_iald C (f := House_joined v0) (w := wHouse E a0 v0) 0 3 rfl c_House_joined (inB_vp g_2) dX2_join_14 ?_
    refine ww_iconst (v := 1) C dX2_join_15 (by decide) ?_
    refine ww_iload_n C dX2_join_16 rfl 2 rfl ?_
    refine ww_ishl C dX2_join_17 ?_
    refine ww_ior C dX2_join_18 ?_
    obtain ⟨v0_19, e_v0_19⟩ : ∃ y : HouseV, y = House_set_joined v0 (upd (House_joined v0) (Int32.toNatClampNeg x1) (((House_joined v0) (Int32.toNatClampNeg x1)) ||| (1 <<< (x2 &&& 31)))) := ⟨_, rfl⟩
    replace hf := ltE e_v0_19 hf
    refine ww_iast C (f := House_joined v0) (w := wHouse E a0 v0) (w' := wHouse E a0 v0_19) (gs' := [wHouse E a0 v0_19]) 0 3 rfl c_House_joined (inB_vp g_2) (by rw [e_v0_19]; exact s_House_joined) rfl dX2_join_19 ?_
    obtain rfl := Option.some.inj hf
    exact ww_vret C ⟨rfl, rfl⟩ dX2_join_20

theorem yk_X2_join : yX2_join.cls = RX2 ∧ yX2_join.cls ≠ "java/lang/invoke/MethodHandle" ∧ yX2_join.cls ≠ "java/lang/invoke/VarHandle" ∧ (parseMethodDescriptor yX2_join.desc).map (fun d => d.parameters.length) = some 2 := by decide +kernel
