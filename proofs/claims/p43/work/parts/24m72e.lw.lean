abbrev rmX3_readSemicolon : Room := { frames := 2, cells := 0, slots := 0, locals := 40 }
set_option maxRecDepth 20000 in
theorem in_X3_readSemicolon_X3 : ∀ w ∈ u_ws RX3 TX3 1, w ∈ wsX3_readSemicolon := by decide +kernel
set_option maxHeartbeats 4000000 in
set_option maxRecDepth 100000 in
theorem c_X3_readSemicolon {E : Ex} {a0 : Nat → Nat} {a1 : Nat → Nat} {v1 : ToksV} {r : (Int32 × ToksV)} (hf : HRead_readSemicolon v1 = some r) : Ct E yX3_readSemicolon wsX3_readSemicolon rmX3_readSemicolon [.ref (a0 0)] [wHRead E a0 (rf1 (a1 0)), wToks E a1 v1] (fun rv g => rv = some (.int r.1) ∧ g = [wHRead E a0 (rf1 (a1 0)), wToks E a1 r.2]) := by
  refine ct_of (own := RX3) (by decide +kernel) rfl rfl (Nat.le_of_ble_eq_true rfl) (fun K C => ?_)
  refine ww_sub C (lv' := [(0, .ref (a0 0))]) [0] rfl ?_
  rw [HRead_readSemicolon] at hf
  refine ww_aload_n C dX3_readSemicolon_0 rfl 0 rfl ?_
  refine ww_get C clOK3 in_X3_readSemicolon_X3 (w := wHRead E a0 (rf1 (a1 0))) (fs := fsHRead a0 (rf1 (a1 0))) (v := .ref (a1 0)) 0 0 0 rfl q_HRead (by decide) (by decide +kernel) g_HRead_tokens dX3_readSemicolon_1 ?_
  refine ww_bipush (v := 59) C dX3_readSemicolon_4 (by decide) ?_
  obtain ⟨p6, hp6, hf⟩ := bdE hf
  refine ww_callV C (As := [.int 59]) (st := []) (gr := [wHRead E a0 (rf1 (a1 0))]) (c_X7_isSign (E := E) (a0 := a1) hp6) gX3_readSemicolon_X7_isSign rfl yk_X7_isSign ⟨by decide, by decide⟩ ⟨by decide, by decide⟩ clOK7 0 0 rfl rfl [1] [0] 2 rfl (by decide) rfl rfl (Nat.le_of_ble_eq_true rfl) dX3_readSemicolon_6 ?_
  rintro _ _ ⟨rfl, rfl⟩
  refine ww_perm (gs' := [wHRead E a0 (rf1 (a1 0)), wToks E a1 v1]) [1, 0] 2 rfl (by decide) rfl ?_
  refine ww_if_neB (tgt := 14) C dX3_readSemicolon_9 (by decide) (fun c_1 => ?_) (fun c_1 => ?_)
  · replace hf := btE c_1 hf
    refine ww_aload_n C dX3_readSemicolon_14 rfl 0 rfl ?_
    refine ww_get C clOK3 in_X3_readSemicolon_X3 (w := wHRead E a0 (rf1 (a1 0))) (fs := fsHRead a0 (rf1 (a1 0))) (v := .ref (a1 0)) 0 0 0 rfl q_HRead (by decide) (by decide +kernel) g_HRead_tokens dX3_readSemicolon_15 ?_
    obtain ⟨p18, hp18, hf⟩ := bdE hf
    refine ww_callV C (As := []) (st := []) (gr := [wHRead E a0 (rf1 (a1 0))]) (c_X7_advance (E := E) (a0 := a1) hp18) gX3_readSemicolon_X7_advance rfl yk_X7_advance ⟨by decide, by decide⟩ ⟨by decide, by decide⟩ clOK7 0 0 rfl rfl [1] [0] 2 rfl (by decide) rfl rfl (Nat.le_of_ble_eq_true rfl) dX3_readSemicolon_18 ?_
    rintro _ _ ⟨rfl, rfl⟩
    refine ww_perm (gs' := [wHRead E a0 (rf1 (a1 0)), wToks E a1 p18]) [1, 0] 2 rfl (by decide) rfl ?_
    refine ww_iconst (v := 0) C dX3_readSemicolon_21 (by decide) ?_
    obtain rfl := Option.some.inj hf
    exact ww_iret C ⟨rfl, rfl⟩ dX3_readSemicolon_22
  · replace hf := bfE c_1 hf
    refine ww_iconst (v := 1) C dX3_readSemicolon_12 (by decide) ?_
    obtain rfl := Option.some.inj hf
    exact ww_iret C ⟨rfl, rfl⟩ dX3_readSemicolon_13

theorem yk_X3_readSemicolon : yX3_readSemicolon.cls = RX3 ∧ yX3_readSemicolon.cls ≠ "java/lang/invoke/MethodHandle" ∧ yX3_readSemicolon.cls ≠ "java/lang/invoke/VarHandle" ∧ (parseMethodDescriptor yX3_readSemicolon.desc).map (fun d => d.parameters.length) = some 0 := by decide +kernel
abbrev rmX3_stepCode : Room := { frames := 2, cells := 0, slots := 0, locals := 43 }
set_option maxRecDepth 20000 in
theorem in_X3_stepCode_X2 : ∀ w ∈ u_ws RX2 TX2 19, w ∈ wsX3_stepCode := by decide +kernel
set_option maxRecDepth 20000 in
theorem in_X3_stepCode_X3 : ∀ w ∈ u_ws RX3 TX3 1, w ∈ wsX3_stepCode := by decide +kernel
set_option maxRecDepth 20000 in
theorem in_X3_stepCode_X7 : ∀ w ∈ u_ws RX7 TX7 7, w ∈ wsX3_stepCode := by decide +kernel
set_option maxHeartbeats 4000000 in
set_option maxRecDepth 100000 in
theorem w_X3_stepCode_42 {E : Ex} {K : Kx} (C : Cx E K cX3_stepCode 4 (some .int) RX3 wsX3_stepCode rmX3_stepCode) {a0 : Nat → Nat} {a1 : Nat → Nat} {a2 : Nat → Nat} {x2 : Int32} {v1 : ToksV} {v2 : HouseV}   {r : Int32} (hf : HRead_stepCode_42 x2 v1 v2  = some r) : WW E K 0 0 (QQ E K (fun rv g => rv = some (.int r) ∧ g = [wHRead E a0 (rf1 (a1 0)), wToks E a1 v1, wHouse E a2 v2]) 0 0) 42 [(0, .ref (a0 0)), (1, .ref (a2 0)), (2, .int x2)] [] [wHRead E a0 (rf1 (a1 0)), wToks E a1 v1, wHouse E a2 v2] := by
  rw [HRead_stepCode_42] at hf
  refine ww_aload_n C dX3_stepCode_42 rfl 1 rfl ?_
  refine ww_aload_n C dX3_stepCode_43 rfl 1 rfl ?_
  refine ww_iload_n C dX3_stepCode_44 rfl 2 rfl ?_
  obtain ⟨p45, hp45, hf⟩ := bdE hf
  refine ww_callV C (As := [.int x2]) (st := [.ref (a2 0)]) (gr := [wHRead E a0 (rf1 (a1 0)), wToks E a1 v1]) (c_X2_lastRoom (E := E) (a0 := a2) hp45) gX3_stepCode_X2_lastRoom rfl yk_X2_lastRoom ⟨by decide, by decide⟩ ⟨by decide, by decide⟩ clOK2 0 0 rfl rfl [2] [0, 1] 3 rfl (by decide) rfl rfl (Nat.le_of_ble_eq_true rfl) dX3_stepCode_45 ?_
  rintro _ _ ⟨rfl, rfl⟩
  refine ww_perm (gs' := [wHRead E a0 (rf1 (a1 0)), wToks E a1 v1, wHouse E a2 v2]) [1, 2, 0] 3 rfl (by decide) rfl ?_
  refine ww_aload_n C dX3_stepCode_48 rfl 0 rfl ?_
  refine ww_get C clOK3 in_X3_stepCode_X3 (w := wHRead E a0 (rf1 (a1 0))) (fs := fsHRead a0 (rf1 (a1 0))) (v := .ref (a1 0)) 0 0 0 rfl q_HRead (by decide) (by decide +kernel) g_HRead_tokens dX3_stepCode_49 ?_
  refine ww_get C clOK7 in_X3_stepCode_X7 (w := wToks E a1 v1) (fs := fsToks a1 v1) (v := .int (Toks_number v1)) 1 0 3 rfl q_Toks (by decide) (by decide +kernel) g_Toks_number dX3_stepCode_52 ?_
  obtain ⟨p55, hp55, hf⟩ := bdE hf
  refine ww_callV C (As := [.int p45, .int (Toks_number v1)]) (st := []) (gr := [wHRead E a0 (rf1 (a1 0)), wToks E a1 v1]) (c_X2_canGo (E := E) (a0 := a2) hp55) gX3_stepCode_X2_canGo rfl yk_X2_canGo ⟨by decide, by decide⟩ ⟨by decide, by decide⟩ clOK2 0 0 rfl rfl [2] [0, 1] 3 rfl (by decide) rfl rfl (Nat.le_of_ble_eq_true rfl) dX3_stepCode_55 ?_
  rintro _ _ ⟨rfl, rfl⟩
  refine ww_perm (gs' := [wHRead E a0 (rf1 (a1 0)), wToks E a1 v1, wHouse E a2 v2]) [1, 2, 0] 3 rfl (by decide) rfl ?_
  refine ww_if_eqB (tgt := 65) C dX3_stepCode_58 (by decide) (fun c_5 => ?_) (fun c_5 => ?_)
  · replace hf := bfE c_5 hf
    refine ww_iconst (v := 4) C dX3_stepCode_65 (by decide) ?_
    obtain rfl := Option.some.inj hf
    exact ww_iret C ⟨rfl, rfl⟩ dX3_stepCode_66
  · replace hf := btE c_5 hf
    refine ww_iconst (v := 0) C dX3_stepCode_61 (by decide) ?_
    refine ww_goto (tgt := 66) C dX3_stepCode_62 (by decide) ?_
    obtain rfl := Option.some.inj hf
    exact ww_iret C ⟨rfl, rfl⟩ dX3_stepCode_66

set_option maxHeartbeats 4000000 in
set_option maxRecDepth 100000 in
theorem c_X3_stepCode {E : Ex} {a0 : Nat → Nat} {a1 : Nat → Nat} {a2 : Nat → Nat} {x2 : Int32} {v1 : ToksV} {v2 : HouseV} {r : Int32} (hf : HRead_stepCode x2 v1 v2 = some r) : Ct E yX3_stepCode wsX3_stepCode rmX3_stepCode [.ref (a0 0), .ref (a2 0), .int x2] [wHRead E a0 (rf1 (a1 0)), wToks E a1 v1, wHouse E a2 v2] (fun rv g => rv = some (.int r) ∧ g = [wHRead E a0 (rf1 (a1 0)), wToks E a1 v1, wHouse E a2 v2]) := by
  refine ct_of (own := RX3) (by decide +kernel) rfl rfl (Nat.le_of_ble_eq_true rfl) (fun K C => ?_)
  refine ww_sub C (lv' := [(0, .ref (a0 0)), (1, .ref (a2 0)), (2, .int x2)]) [0, 1, 2] rfl ?_
  rw [HRead_stepCode] at hf
  refine ww_aload_n C dX3_stepCode_0 rfl 0 rfl ?_
  refine ww_get C clOK3 in_X3_stepCode_X3 (w := wHRead E a0 (rf1 (a1 0))) (fs := fsHRead a0 (rf1 (a1 0))) (v := .ref (a1 0)) 0 0 0 rfl q_HRead (by decide) (by decide +kernel) g_HRead_tokens dX3_stepCode_1 ?_
  refine ww_iconst (v := 0) C dX3_stepCode_4 (by decide) ?_
  refine ww_aload_n C dX3_stepCode_5 rfl 1 rfl ?_
  refine ww_get C clOK2 in_X3_stepCode_X2 (w := wHouse E a2 v2) (fs := fsHouse a2 v2) (v := .int (House_rooms v2)) 2 0 0 rfl q_House (by decide) (by decide +kernel) g_House_rooms dX3_stepCode_6 ?_
  refine ww_iconst (v := 1) C dX3_stepCode_9 (by decide) ?_
  refine ww_isub C dX3_stepCode_10 ?_
  obtain ⟨p11, hp11, hf⟩ := bdE hf
  refine ww_callV C (As := [.int 0, .int ((House_rooms v2) - 1)]) (st := []) (gr := [wHRead E a0 (rf1 (a1 0)), wHouse E a2 v2]) (c_X7_numberCode (E := E) (a0 := a1) hp11) gX3_stepCode_X7_numberCode rfl yk_X7_numberCode ⟨by decide, by decide⟩ ⟨by decide, by decide⟩ clOK7 0 0 rfl rfl [1] [0, 2] 3 rfl (by decide) rfl rfl (Nat.le_of_ble_eq_true rfl) dX3_stepCode_11 ?_
  rintro _ _ ⟨rfl, rfl⟩
  refine ww_perm (gs' := [wHRead E a0 (rf1 (a1 0)), wToks E a1 v1, wHouse E a2 v2]) [1, 0, 2] 3 rfl (by decide) rfl ?_
  refine ww_istore_n (lv' := [(3, .int p11), (0, .ref (a0 0)), (1, .ref (a2 0)), (2, .int x2)]) C dX3_stepCode_14 rfl (by decide) rfl ?_
  refine ww_iload_n C dX3_stepCode_15 rfl 0 rfl ?_
  refine ww_if_eq (tgt := 21) C dX3_stepCode_16 (by decide) (fun c_1 => ?_) (fun c_1 => ?_)
  · replace hf := ifT c_1 hf
    refine ww_aload_n C dX3_stepCode_21 rfl 2 rfl ?_
    refine ww_iload_n C dX3_stepCode_22 rfl 3 rfl ?_
    obtain ⟨p23, hp23, hf⟩ := bdE hf
    refine ww_callV C (As := [.int x2]) (st := []) (gr := [wHRead E a0 (rf1 (a1 0)), wToks E a1 v1]) (c_X2_hasGuard (E := E) (a0 := a2) hp23) gX3_stepCode_X2_hasGuard rfl yk_X2_hasGuard ⟨by decide, by decide⟩ ⟨by decide, by decide⟩ clOK2 0 0 rfl rfl [2] [0, 1] 3 rfl (by decide) rfl rfl (Nat.le_of_ble_eq_true rfl) dX3_stepCode_23 ?_
    rintro _ _ ⟨rfl, rfl⟩
    refine ww_perm (gs' := [wHRead E a0 (rf1 (a1 0)), wToks E a1 v1, wHouse E a2 v2]) [1, 2, 0] 3 rfl (by decide) rfl ?_
    refine ww_if_eqB (tgt := 42) C dX3_stepCode_26 (by decide) (fun c_2 => ?_) (fun c_2 => ?_)
    · replace hf := bfE c_2 hf
      refine ww_sub C (lv' := [(0, .ref (a0 0)), (1, .ref (a2 0)), (2, .int x2)]) [1, 2, 3] rfl ?_
      exact w_X3_stepCode_42 C hf
    · replace hf := btE c_2 hf
      refine ww_aload_n C dX3_stepCode_29 rfl 2 rfl ?_
      refine ww_get C clOK2 in_X3_stepCode_X2 (w := wHouse E a2 v2) (fs := fsHouse a2 v2) (v := .ref (a2 5)) 2 0 11 rfl q_House (by decide) (by decide +kernel) g_House_periods dX3_stepCode_30 ?_
      refine ww_iload_n C dX3_stepCode_33 rfl 3 rfl ?_
      obtain ⟨g_3, hf⟩ := gdE hf
      refine ww_iald C (f := House_periods v2) (w := wHouse E a2 v2) 2 5 rfl c_House_periods (inB_vp g_3) dX3_stepCode_34 ?_
      refine ww_bipush (v := 10) C dX3_stepCode_35 (by decide) ?_
      refine ww_icmp_lt (tgt := 42) C dX3_stepCode_37 (by decide) (fun c_4 => ?_) (fun c_4 => ?_)
      · replace hf := ifT c_4 hf
        refine ww_sub C (lv' := [(0, .ref (a0 0)), (1, .ref (a2 0)), (2, .int x2)]) [1, 2, 3] rfl ?_
        exact w_X3_stepCode_42 C hf
      · replace hf := ifF c_4 hf
        refine ww_iconst (v := 3) C dX3_stepCode_40 (by decide) ?_
        obtain rfl := Option.some.inj hf
        exact ww_iret C ⟨rfl, rfl⟩ dX3_stepCode_41
  · replace hf := ifF c_1 hf
    refine ww_iload_n C dX3_stepCode_19 rfl 0 rfl ?_
    obtain rfl := Option.some.inj hf
    exact ww_iret C ⟨rfl, rfl⟩ dX3_stepCode_20

theorem yk_X3_stepCode : yX3_stepCode.cls = RX3 ∧ yX3_stepCode.cls ≠ "java/lang/invoke/MethodHandle" ∧ yX3_stepCode.cls ≠ "java/lang/invoke/VarHandle" ∧ (parseMethodDescriptor yX3_stepCode.desc).map (fun d => d.parameters.length) = some 2 := by decide +kernel
abbrev rmX3_endOfRoomsCode : Room := { frames := 6, cells := 0, slots := 0, locals := 222 }
set_option maxRecDepth 20000 in
theorem in_X3_endOfRoomsCode_X3 : ∀ w ∈ u_ws RX3 TX3 1, w ∈ wsX3_endOfRoomsCode := by decide +kernel
set_option maxHeartbeats 4000000 in
set_option maxRecDepth 100000 in
theorem w_X3_endOfRoomsCode_44 {E : Ex} {K : Kx} (C : Cx E K cX3_endOfRoomsCode 5 (some .int) RX3 wsX3_endOfRoomsCode rmX3_endOfRoomsCode) {a0 : Nat → Nat} {a1 : Nat → Nat} {a2 : Nat → Nat} {x2 : Int32} {x3 : Bool} {v1 : ToksV} {v2 : HouseV}   {r : Int32} (hf : HRead_endOfRoomsCode_44 x2 x3 v1 v2  = some r) : WW E K 0 0 (QQ E K (fun rv g => rv = some (.int r) ∧ g = [wHRead E a0 (rf1 (a1 0)), wToks E a1 v1, wHouse E a2 v2]) 0 0) 44 [(1, .ref (a2 0)), (2, .int x2)] [] [wHRead E a0 (rf1 (a1 0)), wToks E a1 v1, wHouse E a2 v2] := by
  rw [HRead_endOfRoomsCode_44] at hf
  refine ww_aload_n C dX3_endOfRoomsCode_44 rfl 0 rfl ?_
  refine ww_aload_n C dX3_endOfRoomsCode_45 rfl 0 rfl ?_
  refine ww_iload_n C dX3_endOfRoomsCode_46 rfl 1 rfl ?_
  obtain ⟨p47, hp47, hf⟩ := bdE hf
  refine ww_callV C (As := [.int x2]) (st := [.ref (a2 0)]) (gr := [wHRead E a0 (rf1 (a1 0)), wToks E a1 v1]) (c_X2_lastRoom (E := E) (a0 := a2) hp47) gX3_endOfRoomsCode_X2_lastRoom rfl yk_X2_lastRoom ⟨by decide, by decide⟩ ⟨by decide, by decide⟩ clOK2 0 0 rfl rfl [2] [0, 1] 3 rfl (by decide) rfl rfl (Nat.le_of_ble_eq_true rfl) dX3_endOfRoomsCode_47 ?_
  rintro _ _ ⟨rfl, rfl⟩
  refine ww_perm (gs' := [wHRead E a0 (rf1 (a1 0)), wToks E a1 v1, wHouse E a2 v2]) [1, 2, 0] 3 rfl (by decide) rfl ?_
  refine ww_aload_n C dX3_endOfRoomsCode_50 rfl 0 rfl ?_
  refine ww_iload_n C dX3_endOfRoomsCode_51 rfl 1 rfl ?_
  refine ww_iconst (v := 0) C dX3_endOfRoomsCode_52 (by decide) ?_
  obtain ⟨p53, hp53, hf⟩ := bdE hf
  refine ww_callV C (As := [.int x2, .int 0]) (st := [.int p47, .ref (a2 0)]) (gr := [wHRead E a0 (rf1 (a1 0)), wToks E a1 v1]) (c_X2_walkRoom (E := E) (a0 := a2) hp53) gX3_endOfRoomsCode_X2_walkRoom rfl yk_X2_walkRoom ⟨by decide, by decide⟩ ⟨by decide, by decide⟩ clOK2 0 0 rfl rfl [2] [0, 1] 3 rfl (by decide) rfl rfl (Nat.le_of_ble_eq_true rfl) dX3_endOfRoomsCode_53 ?_
  rintro _ _ ⟨rfl, rfl⟩
  refine ww_perm (gs' := [wHRead E a0 (rf1 (a1 0)), wToks E a1 v1, wHouse E a2 v2]) [1, 2, 0] 3 rfl (by decide) rfl ?_
  obtain ⟨p56, hp56, hf⟩ := bdE hf
  refine ww_callV C (As := [.int p47, .int p53]) (st := []) (gr := [wHRead E a0 (rf1 (a1 0)), wToks E a1 v1]) (c_X2_canGo (E := E) (a0 := a2) hp56) gX3_endOfRoomsCode_X2_canGo rfl yk_X2_canGo ⟨by decide, by decide⟩ ⟨by decide, by decide⟩ clOK2 0 0 rfl rfl [2] [0, 1] 3 rfl (by decide) rfl rfl (Nat.le_of_ble_eq_true rfl) dX3_endOfRoomsCode_56 ?_
  rintro _ _ ⟨rfl, rfl⟩
  refine ww_perm (gs' := [wHRead E a0 (rf1 (a1 0)), wToks E a1 v1, wHouse E a2 v2]) [1, 2, 0] 3 rfl (by decide) rfl ?_
  refine ww_if_eqB (tgt := 66) C dX3_endOfRoomsCode_59 (by decide) (fun c_4 => ?_) (fun c_4 => ?_)
  · replace hf := bfE c_4 hf
    refine ww_iconst (v := 4) C dX3_endOfRoomsCode_66 (by decide) ?_
    obtain rfl := Option.some.inj hf
    exact ww_iret C ⟨rfl, rfl⟩ dX3_endOfRoomsCode_67
  · replace hf := btE c_4 hf
    refine ww_iconst (v := 0) C dX3_endOfRoomsCode_62 (by decide) ?_
    refine ww_goto (tgt := 67) C dX3_endOfRoomsCode_63 (by decide) ?_
    obtain rfl := Option.some.inj hf
    exact ww_iret C ⟨rfl, rfl⟩ dX3_endOfRoomsCode_67

set_option maxHeartbeats 4000000 in
set_option maxRecDepth 100000 in
theorem w_X3_endOfRoomsCode_23 {E : Ex} {K : Kx} (C : Cx E K cX3_endOfRoomsCode 5 (some .int) RX3 wsX3_endOfRoomsCode rmX3_endOfRoomsCode) {a0 : Nat → Nat} {a1 : Nat → Nat} {a2 : Nat → Nat} {x2 : Int32} {x3 : Bool} {v1 : ToksV} {v2 : HouseV}  {s0 : Int32} {r : Int32} (hf : HRead_endOfRoomsCode_23 x2 x3 v1 v2 s0 = some r) : WW E K 0 0 (QQ E K (fun rv g => rv = some (.int r) ∧ g = [wHRead E a0 (rf1 (a1 0)), wToks E a1 v1, wHouse E a2 v2]) 0 0) 23 [(0, .ref (a0 0)), (1, .ref (a2 0)), (2, .int x2)] [.int s0] [wHRead E a0 (rf1 (a1 0)), wToks E a1 v1, wHouse E a2 v2] := by
  rw [HRead_endOfRoomsCode_23] at hf
  refine ww_istore (lv' := [(4, .int s0), (0, .ref (a0 0)), (1, .ref (a2 0)), (2, .int x2)]) C dX3_endOfRoomsCode_23 (by decide) rfl ?_
  refine ww_iload C dX3_endOfRoomsCode_25 0 rfl ?_
  refine ww_if_ne (tgt := 44) C dX3_endOfRoomsCode_27 (by decide) (fun c_2 => ?_) (fun c_2 => ?_)
  · replace hf := ifF c_2 hf
    refine ww_sub C (lv' := [(1, .ref (a2 0)), (2, .int x2)]) [2, 3] rfl ?_
    exact w_X3_endOfRoomsCode_44 C hf
  · replace hf := ifT c_2 hf
    refine ww_aload_n C dX3_endOfRoomsCode_30 rfl 1 rfl ?_
    refine ww_get C clOK3 in_X3_endOfRoomsCode_X3 (w := wHRead E a0 (rf1 (a1 0))) (fs := fsHRead a0 (rf1 (a1 0))) (v := .ref (a1 0)) 0 0 0 rfl q_HRead (by decide) (by decide +kernel) g_HRead_tokens dX3_endOfRoomsCode_31 ?_
    refine ww_ldcS C (i := 15) rfl dX3_endOfRoomsCode_34 ?_
    obtain ⟨p36, hp36, hf⟩ := bdE hf
    refine ww_callV C (As := [.ref (eK E 15)]) (st := []) (gr := [wHRead E a0 (rf1 (a1 0)), wHouse E a2 v2]) (c_X7_isWord (E := E) (a0 := a1) hp36) gX3_endOfRoomsCode_X7_isWord rfl yk_X7_isWord ⟨by decide, by decide⟩ ⟨by decide, by decide⟩ clOK7 0 0 rfl rfl [1] [0, 2] 3 rfl (by decide) rfl rfl (Nat.le_of_ble_eq_true rfl) dX3_endOfRoomsCode_36 ?_
    rintro _ _ ⟨rfl, rfl⟩
    refine ww_perm (gs' := [wHRead E a0 (rf1 (a1 0)), wToks E a1 v1, wHouse E a2 v2]) [1, 0, 2] 3 rfl (by decide) rfl ?_
    refine ww_if_neB (tgt := 44) C dX3_endOfRoomsCode_39 (by decide) (fun c_3 => ?_) (fun c_3 => ?_)
    · replace hf := btE c_3 hf
      refine ww_sub C (lv' := [(1, .ref (a2 0)), (2, .int x2)]) [2, 3] rfl ?_
      exact w_X3_endOfRoomsCode_44 C hf
    · replace hf := bfE c_3 hf
      refine ww_iconst (v := 1) C dX3_endOfRoomsCode_42 (by decide) ?_
      obtain rfl := Option.some.inj hf
      exact ww_iret C ⟨rfl, rfl⟩ dX3_endOfRoomsCode_43

set_option maxHeartbeats 4000000 in
set_option maxRecDepth 100000 in
theorem c_X3_endOfRoomsCode {E : Ex} {a0 : Nat → Nat} {a1 : Nat → Nat} {a2 : Nat → Nat} {x2 : Int32} {x3 : Bool} {v1 : ToksV} {v2 : HouseV} {r : Int32} (hf : HRead_endOfRoomsCode x2 x3 v1 v2 = some r) : Ct E yX3_endOfRoomsCode wsX3_endOfRoomsCode rmX3_endOfRoomsCode [.ref (a0 0), .ref (a2 0), .int x2, .int (b2i x3)] [wHRead E a0 (rf1 (a1 0)), wToks E a1 v1, wHouse E a2 v2] (fun rv g => rv = some (.int r) ∧ g = [wHRead E a0 (rf1 (a1 0)), wToks E a1 v1, wHouse E a2 v2]) := by
  refine ct_of (own := RX3) (by decide +kernel) rfl rfl (Nat.le_of_ble_eq_true rfl) (fun K C => ?_)
  refine ww_sub C (lv' := [(0, .ref (a0 0)), (1, .ref (a2 0)), (2, .int x2), (3, .int (b2i x3))]) [0, 1, 2, 3] rfl ?_
  rw [HRead_endOfRoomsCode] at hf
  refine ww_iload_n C dX3_endOfRoomsCode_0 rfl 3 rfl ?_
  refine ww_if_eqB (tgt := 14) C dX3_endOfRoomsCode_1 (by decide) (fun c_1 => ?_) (fun c_1 => ?_)
  · replace hf := bfE c_1 hf
    refine ww_aload_n C dX3_endOfRoomsCode_14 rfl 0 rfl ?_
    refine ww_get C clOK3 in_X3_endOfRoomsCode_X3 (w := wHRead E a0 (rf1 (a1 0))) (fs := fsHRead a0 (rf1 (a1 0))) (v := .ref (a1 0)) 0 0 0 rfl q_HRead (by decide) (by decide +kernel) g_HRead_tokens dX3_endOfRoomsCode_15 ?_
    refine ww_bipush (v := 59) C dX3_endOfRoomsCode_18 (by decide) ?_
    obtain ⟨p20, hp20, hf⟩ := bdE hf
    refine ww_callV C (As := [.int 59]) (st := []) (gr := [wHRead E a0 (rf1 (a1 0)), wHouse E a2 v2]) (c_X7_isSign (E := E) (a0 := a1) hp20) gX3_endOfRoomsCode_X7_isSign rfl yk_X7_isSign ⟨by decide, by decide⟩ ⟨by decide, by decide⟩ clOK7 0 0 rfl rfl [1] [0, 2] 3 rfl (by decide) rfl rfl (Nat.le_of_ble_eq_true rfl) dX3_endOfRoomsCode_20 ?_
    rintro _ _ ⟨rfl, rfl⟩
    refine ww_perm (gs' := [wHRead E a0 (rf1 (a1 0)), wToks E a1 v1, wHouse E a2 v2]) [1, 0, 2] 3 rfl (by decide) rfl ?_
    refine ww_sub C (lv' := [(0, .ref (a0 0)), (1, .ref (a2 0)), (2, .int x2)]) [0, 1, 2] rfl ?_
    exact w_X3_endOfRoomsCode_23 C hf
  · replace hf := btE c_1 hf
    refine ww_aload_n C dX3_endOfRoomsCode_4 rfl 0 rfl ?_
    refine ww_get C clOK3 in_X3_endOfRoomsCode_X3 (w := wHRead E a0 (rf1 (a1 0))) (fs := fsHRead a0 (rf1 (a1 0))) (v := .ref (a1 0)) 0 0 0 rfl q_HRead (by decide) (by decide +kernel) g_HRead_tokens dX3_endOfRoomsCode_5 ?_
    obtain ⟨p8, hp8, hf⟩ := bdE hf
    refine ww_callV C (As := []) (st := []) (gr := [wHRead E a0 (rf1 (a1 0)), wHouse E a2 v2]) (c_X7_isEnd (E := E) (a0 := a1) hp8) gX3_endOfRoomsCode_X7_isEnd rfl yk_X7_isEnd ⟨by decide, by decide⟩ ⟨by decide, by decide⟩ clOK7 0 0 rfl rfl [1] [0, 2] 3 rfl (by decide) rfl rfl (Nat.le_of_ble_eq_true rfl) dX3_endOfRoomsCode_8 ?_
    rintro _ _ ⟨rfl, rfl⟩
    refine ww_perm (gs' := [wHRead E a0 (rf1 (a1 0)), wToks E a1 v1, wHouse E a2 v2]) [1, 0, 2] 3 rfl (by decide) rfl ?_
    refine ww_goto (tgt := 23) C dX3_endOfRoomsCode_11 (by decide) ?_
    refine ww_sub C (lv' := [(0, .ref (a0 0)), (1, .ref (a2 0)), (2, .int x2)]) [0, 1, 2] rfl ?_
    exact w_X3_endOfRoomsCode_23 C hf

theorem yk_X3_endOfRoomsCode : yX3_endOfRoomsCode.cls = RX3 ∧ yX3_endOfRoomsCode.cls ≠ "java/lang/invoke/MethodHandle" ∧ yX3_endOfRoomsCode.cls ≠ "java/lang/invoke/VarHandle" ∧ (parseMethodDescriptor yX3_endOfRoomsCode.desc).map (fun d => d.parameters.length) = some 3 := by decide +kernel
abbrev rmX3_readLimit : Room := { frames := 3, cells := 0, slots := 0, locals := 60 }
set_option maxRecDepth 20000 in
theorem in_X3_readLimit_X2 : ∀ w ∈ u_ws RX2 TX2 19, w ∈ wsX3_readLimit := by decide +kernel
set_option maxRecDepth 20000 in
theorem in_X3_readLimit_X3 : ∀ w ∈ u_ws RX3 TX3 1, w ∈ wsX3_readLimit := by decide +kernel
set_option maxRecDepth 20000 in
theorem in_X3_readLimit_X7 : ∀ w ∈ u_ws RX7 TX7 7, w ∈ wsX3_readLimit := by decide +kernel
set_option maxHeartbeats 4000000 in
set_option maxRecDepth 100000 in
theorem w_X3_readLimit_81 {E : Ex} {K : Kx} (C : Cx E K cX3_readLimit 4 (some .int) RX3 wsX3_readLimit rmX3_readLimit) {a0 : Nat → Nat} {a1 : Nat → Nat} {a2 : Nat → Nat}   {v1 : ToksV} {v2 : HouseV} {r : (Int32 × ToksV × HouseV)} (hf : HRead_readLimit_81 v1 v2 = some r) : WW E K 0 0 (QQ E K (fun rv g => rv = some (.int r.1) ∧ g = [wHRead E a0 (rf1 (a1 0)), wToks E a1 r.2.1, wHouse E a2 r.2.2]) 0 0) 81 [(0, .ref (a0 0))] [] [wHRead E a0 (rf1 (a1 0)), wToks E a1 v1, wHouse E a2 v2] := by
  rw [HRead_readLimit_81] at hf
  refine ww_aload_n C dX3_readLimit_81 rfl 0 rfl ?_
  refine ww_get C clOK3 in_X3_readLimit_X3 (w := wHRead E a0 (rf1 (a1 0))) (fs := fsHRead a0 (rf1 (a1 0))) (v := .ref (a1 0)) 0 0 0 rfl q_HRead (by decide) (by decide +kernel) g_HRead_tokens dX3_readLimit_82 ?_
  obtain ⟨p85, hp85, hf⟩ := bdE hf
  refine ww_callV C (As := []) (st := []) (gr := [wHRead E a0 (rf1 (a1 0)), wHouse E a2 v2]) (c_X7_advance (E := E) (a0 := a1) hp85) gX3_readLimit_X7_advance rfl yk_X7_advance ⟨by decide, by decide⟩ ⟨by decide, by decide⟩ clOK7 0 0 rfl rfl [1] [0, 2] 3 rfl (by decide) rfl rfl (Nat.le_of_ble_eq_true rfl) dX3_readLimit_85 ?_
  rintro _ _ ⟨rfl, rfl⟩
  refine ww_perm (gs' := [wHRead E a0 (rf1 (a1 0)), wToks E a1 p85, wHouse E a2 v2]) [1, 0, 2] 3 rfl (by decide) rfl ?_
  refine ww_aload_n C dX3_readLimit_88 rfl 0 rfl ?_
  obtain ⟨p89, hp89, hf⟩ := bdE hf
  refine ww_callV C (As := []) (st := []) (gr := [wHouse E a2 v2]) (c_X3_readSemicolon (E := E) (a0 := a0) (a1 := a1) hp89) gX3_readLimit_X3_readSemicolon rfl yk_X3_readSemicolon ⟨by decide, by decide⟩ ⟨by decide, by decide⟩ clOK3 0 0 rfl rfl [0, 1] [2] 3 rfl (by decide) rfl rfl (Nat.le_of_ble_eq_true rfl) dX3_readLimit_89 ?_
  rintro _ _ ⟨rfl, rfl⟩
  refine ww_perm (gs' := [wHRead E a0 (rf1 (a1 0)), wToks E a1 p89.2, wHouse E a2 v2]) [0, 1, 2] 3 rfl (by decide) rfl ?_
  obtain rfl := Option.some.inj hf
  exact ww_iret C ⟨rfl, rfl⟩ dX3_readLimit_92

set_option maxHeartbeats 4000000 in
set_option maxRecDepth 100000 in
theorem c_X3_readLimit {E : Ex} {a0 : Nat → Nat} {a1 : Nat → Nat} {a2 : Nat → Nat} {v1 : ToksV} {v2 : HouseV} {r : (Int32 × ToksV × HouseV)} (hf : HRead_readLimit v1 v2 = some r) : Ct E yX3_readLimit wsX3_readLimit rmX3_readLimit [.ref (a0 0), .ref (a2 0)] [wHRead E a0 (rf1 (a1 0)), wToks E a1 v1, wHouse E a2 v2] (fun rv g => rv = some (.int r.1) ∧ g = [wHRead E a0 (rf1 (a1 0)), wToks E a1 r.2.1, wHouse E a2 r.2.2]) := by
  refine ct_of (own := RX3) (by decide +kernel) rfl rfl (Nat.le_of_ble_eq_true rfl) (fun K C => ?_)
  refine ww_sub C (lv' := [(0, .ref (a0 0)), (1, .ref (a2 0))]) [0, 1] rfl ?_
  rw [HRead_readLimit] at hf
  refine ww_aload_n C dX3_readLimit_0 rfl 0 rfl ?_
  refine ww_get C clOK3 in_X3_readLimit_X3 (w := wHRead E a0 (rf1 (a1 0))) (fs := fsHRead a0 (rf1 (a1 0))) (v := .ref (a1 0)) 0 0 0 rfl q_HRead (by decide) (by decide +kernel) g_HRead_tokens dX3_readLimit_1 ?_
  obtain ⟨p4, hp4, hf⟩ := bdE hf
  refine ww_callV C (As := []) (st := []) (gr := [wHRead E a0 (rf1 (a1 0)), wHouse E a2 v2]) (c_X7_advance (E := E) (a0 := a1) hp4) gX3_readLimit_X7_advance rfl yk_X7_advance ⟨by decide, by decide⟩ ⟨by decide, by decide⟩ clOK7 0 0 rfl rfl [1] [0, 2] 3 rfl (by decide) rfl rfl (Nat.le_of_ble_eq_true rfl) dX3_readLimit_4 ?_
  rintro _ _ ⟨rfl, rfl⟩
  refine ww_perm (gs' := [wHRead E a0 (rf1 (a1 0)), wToks E a1 p4, wHouse E a2 v2]) [1, 0, 2] 3 rfl (by decide) rfl ?_
  refine ww_aload_n C dX3_readLimit_7 rfl 0 rfl ?_
  refine ww_get C clOK3 in_X3_readLimit_X3 (w := wHRead E a0 (rf1 (a1 0))) (fs := fsHRead a0 (rf1 (a1 0))) (v := .ref (a1 0)) 0 0 0 rfl q_HRead (by decide) (by decide +kernel) g_HRead_tokens dX3_readLimit_8 ?_
  refine ww_iconst (v := 0) C dX3_readLimit_11 (by decide) ?_
  refine ww_aload_n C dX3_readLimit_12 rfl 1 rfl ?_
  refine ww_get C clOK2 in_X3_readLimit_X2 (w := wHouse E a2 v2) (fs := fsHouse a2 v2) (v := .int (House_rooms v2)) 2 0 0 rfl q_House (by decide) (by decide +kernel) g_House_rooms dX3_readLimit_13 ?_
  refine ww_iconst (v := 1) C dX3_readLimit_16 (by decide) ?_
  refine ww_isub C dX3_readLimit_17 ?_
  obtain ⟨p18, hp18, hf⟩ := bdE hf
  refine ww_callV C (As := [.int 0, .int ((House_rooms v2) - 1)]) (st := []) (gr := [wHRead E a0 (rf1 (a1 0)), wHouse E a2 v2]) (c_X7_numberCode (E := E) (a0 := a1) hp18) gX3_readLimit_X7_numberCode rfl yk_X7_numberCode ⟨by decide, by decide⟩ ⟨by decide, by decide⟩ clOK7 0 0 rfl rfl [1] [0, 2] 3 rfl (by decide) rfl rfl (Nat.le_of_ble_eq_true rfl) dX3_readLimit_18 ?_
  rintro _ _ ⟨rfl, rfl⟩
  refine ww_perm (gs' := [wHRead E a0 (rf1 (a1 0)), wToks E a1 p4, wHouse E a2 v2]) [1, 0, 2] 3 rfl (by decide) rfl ?_
  refine ww_istore_n (lv' := [(2, .int p18), (0, .ref (a0 0)), (1, .ref (a2 0))]) C dX3_readLimit_21 rfl (by decide) rfl ?_
  refine ww_iload_n C dX3_readLimit_22 rfl 0 rfl ?_
  refine ww_if_eq (tgt := 28) C dX3_readLimit_23 (by decide) (fun c_1 => ?_) (fun c_1 => ?_)
  · replace hf := ifT c_1 hf
    refine ww_aload_n C dX3_readLimit_28 rfl 1 rfl ?_
    refine ww_get C clOK3 in_X3_readLimit_X3 (w := wHRead E a0 (rf1 (a1 0))) (fs := fsHRead a0 (rf1 (a1 0))) (v := .ref (a1 0)) 0 0 0 rfl q_HRead (by decide) (by decide +kernel) g_HRead_tokens dX3_readLimit_29 ?_
    refine ww_get C clOK7 in_X3_readLimit_X7 (w := wToks E a1 p4) (fs := fsToks a1 p4) (v := .int (Toks_number p4)) 1 0 3 rfl q_Toks (by decide) (by decide +kernel) g_Toks_number dX3_readLimit_32 ?_
    refine ww_topi (fun x3_35 e_x3_35 => ?_)
    replace hf := ltE e_x3_35 hf
    refine ww_istore_n (lv' := [(3, .int x3_35), (2, .int p18), (0, .ref (a0 0)), (1, .ref (a2 0))]) C dX3_readLimit_35 rfl (by decide) rfl ?_
    refine ww_aload_n C dX3_readLimit_36 rfl 2 rfl ?_
    refine ww_get C clOK3 in_X3_readLimit_X3 (w := wHRead E a0 (rf1 (a1 0))) (fs := fsHRead a0 (rf1 (a1 0))) (v := .ref (a1 0)) 0 0 0 rfl q_HRead (by decide) (by decide +kernel) g_HRead_tokens dX3_readLimit_37 ?_
    obtain ⟨p40, hp40, hf⟩ := bdE hf
    refine ww_callV C (As := []) (st := []) (gr := [wHRead E a0 (rf1 (a1 0)), wHouse E a2 v2]) (c_X7_advance (E := E) (a0 := a1) hp40) gX3_readLimit_X7_advance rfl yk_X7_advance ⟨by decide, by decide⟩ ⟨by decide, by decide⟩ clOK7 0 0 rfl rfl [1] [0, 2] 3 rfl (by decide) rfl rfl (Nat.le_of_ble_eq_true rfl) dX3_readLimit_40 ?_
    rintro _ _ ⟨rfl, rfl⟩
    refine ww_perm (gs' := [wHRead E a0 (rf1 (a1 0)), wToks E a1 p40, wHouse E a2 v2]) [1, 0, 2] 3 rfl (by decide) rfl ?_
    refine ww_aload_n C dX3_readLimit_43 rfl 2 rfl ?_
    refine ww_get C clOK3 in_X3_readLimit_X3 (w := wHRead E a0 (rf1 (a1 0))) (fs := fsHRead a0 (rf1 (a1 0))) (v := .ref (a1 0)) 0 0 0 rfl q_HRead (by decide) (by decide +kernel) g_HRead_tokens dX3_readLimit_44 ?_
    refine ww_iconst (v := 0) C dX3_readLimit_47 (by decide) ?_
    refine ww_bipush (v := 99) C dX3_readLimit_48 (by decide) ?_
    obtain ⟨p50, hp50, hf⟩ := bdE hf
    refine ww_callV C (As := [.int 0, .int 99]) (st := []) (gr := [wHRead E a0 (rf1 (a1 0)), wHouse E a2 v2]) (c_X7_numberCode (E := E) (a0 := a1) hp50) gX3_readLimit_X7_numberCode rfl yk_X7_numberCode ⟨by decide, by decide⟩ ⟨by decide, by decide⟩ clOK7 0 0 rfl rfl [1] [0, 2] 3 rfl (by decide) rfl rfl (Nat.le_of_ble_eq_true rfl) dX3_readLimit_50 ?_
    rintro _ _ ⟨rfl, rfl⟩
    refine ww_perm (gs' := [wHRead E a0 (rf1 (a1 0)), wToks E a1 p40, wHouse E a2 v2]) [1, 0, 2] 3 rfl (by decide) rfl ?_
    refine ww_istore_n (lv' := [(2, .int p50), (3, .int x3_35), (0, .ref (a0 0)), (1, .ref (a2 0))]) C dX3_readLimit_53 rfl (by decide) rfl ?_
    refine ww_iload_n C dX3_readLimit_54 rfl 0 rfl ?_
    refine ww_if_eq (tgt := 60) C dX3_readLimit_55 (by decide) (fun c_3 => ?_) (fun c_3 => ?_)
    · replace hf := ifT c_3 hf
      refine ww_aload_n C dX3_readLimit_60 rfl 3 rfl ?_
      refine ww_iload_n C dX3_readLimit_61 rfl 1 rfl ?_
      obtain ⟨p62, hp62, hf⟩ := bdE hf
      refine ww_callV C (As := [.int x3_35]) (st := []) (gr := [wHRead E a0 (rf1 (a1 0)), wToks E a1 p40]) (c_X2_hasRoom (E := E) (a0 := a2) hp62) gX3_readLimit_X2_hasRoom rfl yk_X2_hasRoom ⟨by decide, by decide⟩ ⟨by decide, by decide⟩ clOK2 0 0 rfl rfl [2] [0, 1] 3 rfl (by decide) rfl rfl (Nat.le_of_ble_eq_true rfl) dX3_readLimit_62 ?_
      rintro _ _ ⟨rfl, rfl⟩
      refine ww_perm (gs' := [wHRead E a0 (rf1 (a1 0)), wToks E a1 p40, wHouse E a2 v2]) [1, 2, 0] 3 rfl (by decide) rfl ?_
      refine ww_if_eqB (tgt := 81) C dX3_readLimit_65 (by decide) (fun c_4 => ?_) (fun c_4 => ?_)
      · replace hf := bfE c_4 hf
        refine ww_sub C (lv' := [(0, .ref (a0 0))]) [2] rfl ?_
        exact w_X3_readLimit_81 C hf
      · replace hf := btE c_4 hf
        refine ww_aload_n C dX3_readLimit_68 rfl 3 rfl ?_
        refine ww_get C clOK2 in_X3_readLimit_X2 (w := wHouse E a2 v2) (fs := fsHouse a2 v2) (v := .ref (a2 4)) 2 0 10 rfl q_House (by decide) (by decide +kernel) g_House_limits dX3_readLimit_69 ?_
        refine ww_iload_n C dX3_readLimit_72 rfl 1 rfl ?_
        refine ww_aload_n C dX3_readLimit_73 rfl 2 rfl ?_
        refine ww_get C clOK3 in_X3_readLimit_X3 (w := wHRead E a0 (rf1 (a1 0))) (fs := fsHRead a0 (rf1 (a1 0))) (v := .ref (a1 0)) 0 0 0 rfl q_HRead (by decide) (by decide +kernel) g_HRead_tokens dX3_readLimit_74 ?_
        refine ww_get C clOK7 in_X3_readLimit_X7 (w := wToks E a1 p40) (fs := fsToks a1 p40) (v := .int (Toks_number p40)) 1 0 3 rfl q_Toks (by decide) (by decide +kernel) g_Toks_number dX3_readLimit_77 ?_
        obtain ⟨g_5, hf⟩ := gdE hf
        obtain ⟨v2_80, e_v2_80⟩ : ∃ y : HouseV, y = House_set_limits v2 (upd (House_limits v2) (Int32.toNatClampNeg x3_35) (Toks_number p40)) := ⟨_, rfl⟩
        replace hf := ltE e_v2_80 hf
        refine ww_iast C (f := House_limits v2) (w := wHouse E a2 v2) (w' := wHouse E a2 v2_80) (gs' := [wHRead E a0 (rf1 (a1 0)), wToks E a1 p40, wHouse E a2 v2_80]) 2 4 rfl c_House_limits (inB_vp g_5) (by rw [e_v2_80]; exact s_House_limits) rfl dX3_readLimit_80 ?_
        refine ww_sub C (lv' := [(0, .ref (a0 0))]) [2] rfl ?_
        exact w_X3_readLimit_81 C hf
    · replace hf := ifF c_3 hf
      refine ww_iload_n C dX3_readLimit_58 rfl 0 rfl ?_
      obtain rfl := Option.some.inj hf
      exact ww_iret C ⟨rfl, rfl⟩ dX3_readLimit_59
  · replace hf := ifF c_1 hf
    refine ww_iload_n C dX3_readLimit_26 rfl 0 rfl ?_
    obtain rfl := Option.some.inj hf
    exact ww_iret C ⟨rfl, rfl⟩ dX3_readLimit_27

theorem yk_X3_readLimit : yX3_readLimit.cls = RX3 ∧ yX3_readLimit.cls ≠ "java/lang/invoke/MethodHandle" ∧ yX3_readLimit.cls ≠ "java/lang/invoke/VarHandle" ∧ (parseMethodDescriptor yX3_readLimit.desc).map (fun d => d.parameters.length) = some 1 := by decide +kernel
abbrev rmX3_readDoor : Room := { frames := 6, cells := 0, slots := 0, locals := 222 }
set_option maxRecDepth 20000 in
theorem in_X3_readDoor_X2 : ∀ w ∈ u_ws RX2 TX2 19, w ∈ wsX3_readDoor := by decide +kernel
set_option maxRecDepth 20000 in
theorem in_X3_readDoor_X3 : ∀ w ∈ u_ws RX3 TX3 1, w ∈ wsX3_readDoor := by decide +kernel
set_option maxRecDepth 20000 in
theorem in_X3_readDoor_X7 : ∀ w ∈ u_ws RX7 TX7 7, w ∈ wsX3_readDoor := by decide +kernel
set_option maxHeartbeats 4000000 in
set_option maxRecDepth 100000 in
theorem w_X3_readDoor_125 {E : Ex} {K : Kx} (C : Cx E K cX3_readDoor 6 (some .int) RX3 wsX3_readDoor rmX3_readDoor) {a0 : Nat → Nat} {a1 : Nat → Nat} {a2 : Nat → Nat}   {s0 : Int32} {s1 : Int32} {s2 : Int32} {v1 : ToksV} {v2 : HouseV} {r : (Int32 × ToksV × HouseV)} (hf : HRead_readDoor_125 s0 s1 s2 v1 v2 = some r) : WW E K 0 0 (QQ E K (fun rv g => rv = some (.int r.1) ∧ g = [wHRead E a0 (rf1 (a1 0)), wToks E a1 r.2.1, wHouse E a2 r.2.2]) 0 0) 125 [(0, .ref (a0 0))] [.int s0, .int s1, .int s2, .ref (a2 0)] [wHRead E a0 (rf1 (a1 0)), wToks E a1 v1, wHouse E a2 v2] := by
  rw [HRead_readDoor_125] at hf
  obtain ⟨z_9, e_z_9, hf⟩ := asBE hf
  rw [e_z_9]
  obtain ⟨p125, hp125, hf⟩ := bdE hf
  refine ww_callV C (As := [.int s2, .int s1, .int (b2i z_9)]) (st := []) (gr := [wHRead E a0 (rf1 (a1 0)), wToks E a1 v1]) (c_X2_addDoor (E := E) (a0 := a2) hp125) gX3_readDoor_X2_addDoor rfl yk_X2_addDoor ⟨by decide, by decide⟩ ⟨by decide, by decide⟩ clOK2 0 0 rfl rfl [2] [0, 1] 3 rfl (by decide) rfl rfl (Nat.le_of_ble_eq_true rfl) dX3_readDoor_125 ?_
  rintro _ _ ⟨rfl, rfl⟩
  refine ww_perm (gs' := [wHRead E a0 (rf1 (a1 0)), wToks E a1 v1, wHouse E a2 p125]) [1, 2, 0] 3 rfl (by decide) rfl ?_
  refine ww_aload_n C dX3_readDoor_128 rfl 0 rfl ?_
  obtain ⟨p129, hp129, hf⟩ := bdE hf
  refine ww_callV C (As := []) (st := []) (gr := [wHouse E a2 p125]) (c_X3_readSemicolon (E := E) (a0 := a0) (a1 := a1) hp129) gX3_readDoor_X3_readSemicolon rfl yk_X3_readSemicolon ⟨by decide, by decide⟩ ⟨by decide, by decide⟩ clOK3 0 0 rfl rfl [0, 1] [2] 3 rfl (by decide) rfl rfl (Nat.le_of_ble_eq_true rfl) dX3_readDoor_129 ?_
  rintro _ _ ⟨rfl, rfl⟩
  refine ww_perm (gs' := [wHRead E a0 (rf1 (a1 0)), wToks E a1 p129.2, wHouse E a2 p125]) [0, 1, 2] 3 rfl (by decide) rfl ?_
  obtain rfl := Option.some.inj hf
  exact ww_iret C ⟨rfl, rfl⟩ dX3_readDoor_132

set_option maxHeartbeats 4000000 in
set_option maxRecDepth 100000 in
theorem w_X3_readDoor_111 {E : Ex} {K : Kx} (C : Cx E K cX3_readDoor 6 (some .int) RX3 wsX3_readDoor rmX3_readDoor) {a0 : Nat → Nat} {a1 : Nat → Nat} {a2 : Nat → Nat}   {x3 : Int32} {x4 : Int32} {x5 : Int32} {v1 : ToksV} {v2 : HouseV} {r : (Int32 × ToksV × HouseV)} (hf : HRead_readDoor_111 x3 x4 x5 v1 v2 = some r) : WW E K 0 0 (QQ E K (fun rv g => rv = some (.int r.1) ∧ g = [wHRead E a0 (rf1 (a1 0)), wToks E a1 r.2.1, wHouse E a2 r.2.2]) 0 0) 111 [(0, .ref (a0 0)), (1, .ref (a2 0)), (3, .int x3), (4, .int x4), (5, .int x5)] [] [wHRead E a0 (rf1 (a1 0)), wToks E a1 v1, wHouse E a2 v2] := by
  rw [HRead_readDoor_111] at hf
  refine ww_aload_n C dX3_readDoor_111 rfl 1 rfl ?_
  refine ww_iload_n C dX3_readDoor_112 rfl 2 rfl ?_
  refine ww_iload C dX3_readDoor_113 3 rfl ?_
  refine ww_iload C dX3_readDoor_115 4 rfl ?_
  refine ww_if_ne (tgt := 124) C dX3_readDoor_117 (by decide) (fun c_8 => ?_) (fun c_8 => ?_)
  · replace hf := ifF c_8 hf
    refine ww_iconst (v := 0) C dX3_readDoor_124 (by decide) ?_
    refine ww_sub C (lv' := [(0, .ref (a0 0))]) [0] rfl ?_
    exact w_X3_readDoor_125 C hf
  · replace hf := ifT c_8 hf
    refine ww_iconst (v := 1) C dX3_readDoor_120 (by decide) ?_
    refine ww_goto (tgt := 125) C dX3_readDoor_121 (by decide) ?_
    refine ww_sub C (lv' := [(0, .ref (a0 0))]) [0] rfl ?_
    exact w_X3_readDoor_125 C hf

set_option maxHeartbeats 4000000 in
set_option maxRecDepth 100000 in
theorem c_X3_readDoor {E : Ex} {a0 : Nat → Nat} {a1 : Nat → Nat} {a2 : Nat → Nat} {v1 : ToksV} {v2 : HouseV} {r : (Int32 × ToksV × HouseV)} (hf : HRead_readDoor v1 v2 = some r) : Ct E yX3_readDoor wsX3_readDoor rmX3_readDoor [.ref (a0 0), .ref (a2 0)] [wHRead E a0 (rf1 (a1 0)), wToks E a1 v1, wHouse E a2 v2] (fun rv g => rv = some (.int r.1) ∧ g = [wHRead E a0 (rf1 (a1 0)), wToks E a1 r.2.1, wHouse E a2 r.2.2]) := by
  refine ct_of (own := RX3) (by decide +kernel) rfl rfl (Nat.le_of_ble_eq_true rfl) (fun K C => ?_)
  refine ww_sub C (lv' := [(0, .ref (a0 0)), (1, .ref (a2 0))]) [0, 1] rfl ?_
  rw [HRead_readDoor] at hf
  refine ww_aload_n C dX3_readDoor_0 rfl 0 rfl ?_
  refine ww_get C clOK3 in_X3_readDoor_X3 (w := wHRead E a0 (rf1 (a1 0))) (fs := fsHRead a0 (rf1 (a1 0))) (v := .ref (a1 0)) 0 0 0 rfl q_HRead (by decide) (by decide +kernel) g_HRead_tokens dX3_readDoor_1 ?_
  obtain ⟨p4, hp4, hf⟩ := bdE hf
  refine ww_callV C (As := []) (st := []) (gr := [wHRead E a0 (rf1 (a1 0)), wHouse E a2 v2]) (c_X7_advance (E := E) (a0 := a1) hp4) gX3_readDoor_X7_advance rfl yk_X7_advance ⟨by decide, by decide⟩ ⟨by decide, by decide⟩ clOK7 0 0 rfl rfl [1] [0, 2] 3 rfl (by decide) rfl rfl (Nat.le_of_ble_eq_true rfl) dX3_readDoor_4 ?_
  rintro _ _ ⟨rfl, rfl⟩
  refine ww_perm (gs' := [wHRead E a0 (rf1 (a1 0)), wToks E a1 p4, wHouse E a2 v2]) [1, 0, 2] 3 rfl (by decide) rfl ?_
  refine ww_aload_n C dX3_readDoor_7 rfl 0 rfl ?_
  refine ww_get C clOK3 in_X3_readDoor_X3 (w := wHRead E a0 (rf1 (a1 0))) (fs := fsHRead a0 (rf1 (a1 0))) (v := .ref (a1 0)) 0 0 0 rfl q_HRead (by decide) (by decide +kernel) g_HRead_tokens dX3_readDoor_8 ?_
  refine ww_iconst (v := 0) C dX3_readDoor_11 (by decide) ?_
  refine ww_aload_n C dX3_readDoor_12 rfl 1 rfl ?_
  refine ww_get C clOK2 in_X3_readDoor_X2 (w := wHouse E a2 v2) (fs := fsHouse a2 v2) (v := .int (House_rooms v2)) 2 0 0 rfl q_House (by decide) (by decide +kernel) g_House_rooms dX3_readDoor_13 ?_
  refine ww_iconst (v := 1) C dX3_readDoor_16 (by decide) ?_
  refine ww_isub C dX3_readDoor_17 ?_
  obtain ⟨p18, hp18, hf⟩ := bdE hf
  refine ww_callV C (As := [.int 0, .int ((House_rooms v2) - 1)]) (st := []) (gr := [wHRead E a0 (rf1 (a1 0)), wHouse E a2 v2]) (c_X7_numberCode (E := E) (a0 := a1) hp18) gX3_readDoor_X7_numberCode rfl yk_X7_numberCode ⟨by decide, by decide⟩ ⟨by decide, by decide⟩ clOK7 0 0 rfl rfl [1] [0, 2] 3 rfl (by decide) rfl rfl (Nat.le_of_ble_eq_true rfl) dX3_readDoor_18 ?_
  rintro _ _ ⟨rfl, rfl⟩
  refine ww_perm (gs' := [wHRead E a0 (rf1 (a1 0)), wToks E a1 p4, wHouse E a2 v2]) [1, 0, 2] 3 rfl (by decide) rfl ?_
  refine ww_istore_n (lv' := [(2, .int p18), (0, .ref (a0 0)), (1, .ref (a2 0))]) C dX3_readDoor_21 rfl (by decide) rfl ?_
  refine ww_iload_n C dX3_readDoor_22 rfl 0 rfl ?_
  refine ww_if_eq (tgt := 28) C dX3_readDoor_23 (by decide) (fun c_1 => ?_) (fun c_1 => ?_)
  · replace hf := ifT c_1 hf
    refine ww_aload_n C dX3_readDoor_28 rfl 1 rfl ?_
    refine ww_get C clOK3 in_X3_readDoor_X3 (w := wHRead E a0 (rf1 (a1 0))) (fs := fsHRead a0 (rf1 (a1 0))) (v := .ref (a1 0)) 0 0 0 rfl q_HRead (by decide) (by decide +kernel) g_HRead_tokens dX3_readDoor_29 ?_
    refine ww_get C clOK7 in_X3_readDoor_X7 (w := wToks E a1 p4) (fs := fsToks a1 p4) (v := .int (Toks_number p4)) 1 0 3 rfl q_Toks (by decide) (by decide +kernel) g_Toks_number dX3_readDoor_32 ?_
    refine ww_topi (fun x3_35 e_x3_35 => ?_)
    replace hf := ltE e_x3_35 hf
    refine ww_istore_n (lv' := [(3, .int x3_35), (2, .int p18), (0, .ref (a0 0)), (1, .ref (a2 0))]) C dX3_readDoor_35 rfl (by decide) rfl ?_
    refine ww_aload_n C dX3_readDoor_36 rfl 2 rfl ?_
    refine ww_get C clOK3 in_X3_readDoor_X3 (w := wHRead E a0 (rf1 (a1 0))) (fs := fsHRead a0 (rf1 (a1 0))) (v := .ref (a1 0)) 0 0 0 rfl q_HRead (by decide) (by decide +kernel) g_HRead_tokens dX3_readDoor_37 ?_
    obtain ⟨p40, hp40, hf⟩ := bdE hf
    refine ww_callV C (As := []) (st := []) (gr := [wHRead E a0 (rf1 (a1 0)), wHouse E a2 v2]) (c_X7_advance (E := E) (a0 := a1) hp40) gX3_readDoor_X7_advance rfl yk_X7_advance ⟨by decide, by decide⟩ ⟨by decide, by decide⟩ clOK7 0 0 rfl rfl [1] [0, 2] 3 rfl (by decide) rfl rfl (Nat.le_of_ble_eq_true rfl) dX3_readDoor_40 ?_
    rintro _ _ ⟨rfl, rfl⟩
    refine ww_perm (gs' := [wHRead E a0 (rf1 (a1 0)), wToks E a1 p40, wHouse E a2 v2]) [1, 0, 2] 3 rfl (by decide) rfl ?_
    refine ww_aload_n C dX3_readDoor_43 rfl 2 rfl ?_
    refine ww_get C clOK3 in_X3_readDoor_X3 (w := wHRead E a0 (rf1 (a1 0))) (fs := fsHRead a0 (rf1 (a1 0))) (v := .ref (a1 0)) 0 0 0 rfl q_HRead (by decide) (by decide +kernel) g_HRead_tokens dX3_readDoor_44 ?_
    refine ww_iconst (v := 0) C dX3_readDoor_47 (by decide) ?_
    refine ww_aload_n C dX3_readDoor_48 rfl 3 rfl ?_
    refine ww_get C clOK2 in_X3_readDoor_X2 (w := wHouse E a2 v2) (fs := fsHouse a2 v2) (v := .int (House_rooms v2)) 2 0 0 rfl q_House (by decide) (by decide +kernel) g_House_rooms dX3_readDoor_49 ?_
    refine ww_iconst (v := 1) C dX3_readDoor_52 (by decide) ?_
    refine ww_isub C dX3_readDoor_53 ?_
    obtain ⟨p54, hp54, hf⟩ := bdE hf
    refine ww_callV C (As := [.int 0, .int ((House_rooms v2) - 1)]) (st := []) (gr := [wHRead E a0 (rf1 (a1 0)), wHouse E a2 v2]) (c_X7_numberCode (E := E) (a0 := a1) hp54) gX3_readDoor_X7_numberCode rfl yk_X7_numberCode ⟨by decide, by decide⟩ ⟨by decide, by decide⟩ clOK7 0 0 rfl rfl [1] [0, 2] 3 rfl (by decide) rfl rfl (Nat.le_of_ble_eq_true rfl) dX3_readDoor_54 ?_
    rintro _ _ ⟨rfl, rfl⟩
    refine ww_perm (gs' := [wHRead E a0 (rf1 (a1 0)), wToks E a1 p40, wHouse E a2 v2]) [1, 0, 2] 3 rfl (by decide) rfl ?_
    refine ww_istore_n (lv' := [(2, .int p54), (3, .int x3_35), (0, .ref (a0 0)), (1, .ref (a2 0))]) C dX3_readDoor_57 rfl (by decide) rfl ?_
    refine ww_iload_n C dX3_readDoor_58 rfl 0 rfl ?_
    refine ww_if_eq (tgt := 64) C dX3_readDoor_59 (by decide) (fun c_3 => ?_) (fun c_3 => ?_)
    · replace hf := ifT c_3 hf
      refine ww_aload_n C dX3_readDoor_64 rfl 2 rfl ?_
      refine ww_get C clOK3 in_X3_readDoor_X3 (w := wHRead E a0 (rf1 (a1 0))) (fs := fsHRead a0 (rf1 (a1 0))) (v := .ref (a1 0)) 0 0 0 rfl q_HRead (by decide) (by decide +kernel) g_HRead_tokens dX3_readDoor_65 ?_
      refine ww_get C clOK7 in_X3_readDoor_X7 (w := wToks E a1 p40) (fs := fsToks a1 p40) (v := .int (Toks_number p40)) 1 0 3 rfl q_Toks (by decide) (by decide +kernel) g_Toks_number dX3_readDoor_68 ?_
      refine ww_topi (fun x4_71 e_x4_71 => ?_)
      replace hf := ltE e_x4_71 hf
      refine ww_istore (lv' := [(4, .int x4_71), (2, .int p54), (3, .int x3_35), (0, .ref (a0 0)), (1, .ref (a2 0))]) C dX3_readDoor_71 (by decide) rfl ?_
      refine ww_iload C dX3_readDoor_73 0 rfl ?_
      refine ww_iload_n C dX3_readDoor_75 rfl 2 rfl ?_
      refine ww_icmp_ne (tgt := 81) C dX3_readDoor_76 (by decide) (fun c_5 => ?_) (fun c_5 => ?_)
      · replace hf := ifF c_5 hf
        refine ww_aload_n C dX3_readDoor_81 rfl 3 rfl ?_
        refine ww_get C clOK3 in_X3_readDoor_X3 (w := wHRead E a0 (rf1 (a1 0))) (fs := fsHRead a0 (rf1 (a1 0))) (v := .ref (a1 0)) 0 0 0 rfl q_HRead (by decide) (by decide +kernel) g_HRead_tokens dX3_readDoor_82 ?_
        obtain ⟨p85, hp85, hf⟩ := bdE hf
        refine ww_callV C (As := []) (st := []) (gr := [wHRead E a0 (rf1 (a1 0)), wHouse E a2 v2]) (c_X7_advance (E := E) (a0 := a1) hp85) gX3_readDoor_X7_advance rfl yk_X7_advance ⟨by decide, by decide⟩ ⟨by decide, by decide⟩ clOK7 0 0 rfl rfl [1] [0, 2] 3 rfl (by decide) rfl rfl (Nat.le_of_ble_eq_true rfl) dX3_readDoor_85 ?_
        rintro _ _ ⟨rfl, rfl⟩
        refine ww_perm (gs' := [wHRead E a0 (rf1 (a1 0)), wToks E a1 p85, wHouse E a2 v2]) [1, 0, 2] 3 rfl (by decide) rfl ?_
        refine ww_aload_n C dX3_readDoor_88 rfl 3 rfl ?_
        refine ww_get C clOK3 in_X3_readDoor_X3 (w := wHRead E a0 (rf1 (a1 0))) (fs := fsHRead a0 (rf1 (a1 0))) (v := .ref (a1 0)) 0 0 0 rfl q_HRead (by decide) (by decide +kernel) g_HRead_tokens dX3_readDoor_89 ?_
        refine ww_ldcS C (i := 14) rfl dX3_readDoor_92 ?_
        obtain ⟨p94, hp94, hf⟩ := bdE hf
        refine ww_callV C (As := [.ref (eK E 14)]) (st := []) (gr := [wHRead E a0 (rf1 (a1 0)), wHouse E a2 v2]) (c_X7_isWord (E := E) (a0 := a1) hp94) gX3_readDoor_X7_isWord rfl yk_X7_isWord ⟨by decide, by decide⟩ ⟨by decide, by decide⟩ clOK7 0 0 rfl rfl [1] [0, 2] 3 rfl (by decide) rfl rfl (Nat.le_of_ble_eq_true rfl) dX3_readDoor_94 ?_
        rintro _ _ ⟨rfl, rfl⟩
        refine ww_perm (gs' := [wHRead E a0 (rf1 (a1 0)), wToks E a1 p85, wHouse E a2 v2]) [1, 0, 2] 3 rfl (by decide) rfl ?_
        refine ww_topi (fun x5_97 e_x5_97 => ?_)
        replace hf := ltE e_x5_97 hf
        refine ww_istore (lv' := [(5, .int x5_97), (4, .int x4_71), (2, .int p54), (3, .int x3_35), (0, .ref (a0 0)), (1, .ref (a2 0))]) C dX3_readDoor_97 (by decide) rfl ?_
        refine ww_iload C dX3_readDoor_99 0 rfl ?_
        refine ww_if_eq (tgt := 111) C dX3_readDoor_101 (by decide) (fun c_7 => ?_) (fun c_7 => ?_)
        · replace hf := ifT c_7 hf
          refine ww_sub C (lv' := [(0, .ref (a0 0)), (1, .ref (a2 0)), (3, .int x3_35), (4, .int x4_71), (5, .int x5_97)]) [4, 5, 3, 1, 0] rfl ?_
          exact w_X3_readDoor_111 C hf
        · replace hf := ifF c_7 hf
          refine ww_aload_n C dX3_readDoor_104 rfl 4 rfl ?_
          refine ww_get C clOK3 in_X3_readDoor_X3 (w := wHRead E a0 (rf1 (a1 0))) (fs := fsHRead a0 (rf1 (a1 0))) (v := .ref (a1 0)) 0 0 0 rfl q_HRead (by decide) (by decide +kernel) g_HRead_tokens dX3_readDoor_105 ?_
          obtain ⟨p108, hp108, hf⟩ := bdE hf
          refine ww_callV C (As := []) (st := []) (gr := [wHRead E a0 (rf1 (a1 0)), wHouse E a2 v2]) (c_X7_advance (E := E) (a0 := a1) hp108) gX3_readDoor_X7_advance rfl yk_X7_advance ⟨by decide, by decide⟩ ⟨by decide, by decide⟩ clOK7 0 0 rfl rfl [1] [0, 2] 3 rfl (by decide) rfl rfl (Nat.le_of_ble_eq_true rfl) dX3_readDoor_108 ?_
          rintro _ _ ⟨rfl, rfl⟩
          refine ww_perm (gs' := [wHRead E a0 (rf1 (a1 0)), wToks E a1 p108, wHouse E a2 v2]) [1, 0, 2] 3 rfl (by decide) rfl ?_
          refine ww_sub C (lv' := [(0, .ref (a0 0)), (1, .ref (a2 0)), (3, .int x3_35), (4, .int x4_71), (5, .int x5_97)]) [4, 5, 3, 1, 0] rfl ?_
          exact w_X3_readDoor_111 C hf
      · replace hf := ifT c_5 hf
        refine ww_iconst (v := 4) C dX3_readDoor_79 (by decide) ?_
        obtain rfl := Option.some.inj hf
        exact ww_iret C ⟨rfl, rfl⟩ dX3_readDoor_80
    · replace hf := ifF c_3 hf
      refine ww_iload_n C dX3_readDoor_62 rfl 0 rfl ?_
      obtain rfl := Option.some.inj hf
      exact ww_iret C ⟨rfl, rfl⟩ dX3_readDoor_63
  · replace hf := ifF c_1 hf
    refine ww_iload_n C dX3_readDoor_26 rfl 0 rfl ?_
    obtain rfl := Option.some.inj hf
    exact ww_iret C ⟨rfl, rfl⟩ dX3_readDoor_27

theorem yk_X3_readDoor : yX3_readDoor.cls = RX3 ∧ yX3_readDoor.cls ≠ "java/lang/invoke/MethodHandle" ∧ yX3_readDoor.cls ≠ "java/lang/invoke/VarHandle" ∧ (parseMethodDescriptor yX3_readDoor.desc).map (fun d => d.parameters.length) = some 1 := by decide +kernel
abbrev rmX3_readWalk : Room := { frames := 7, cells := 0, slots := 0, locals := 246 }
set_option maxRecDepth 20000 in
theorem in_X3_readWalk_X2 : ∀ w ∈ u_ws RX2 TX2 19, w ∈ wsX3_readWalk := by decide +kernel
set_option maxRecDepth 20000 in
theorem in_X3_readWalk_X3 : ∀ w ∈ u_ws RX3 TX3 1, w ∈ wsX3_readWalk := by decide +kernel
set_option maxRecDepth 20000 in
theorem in_X3_readWalk_X7 : ∀ w ∈ u_ws RX7 TX7 7, w ∈ wsX3_readWalk := by decide +kernel
set_option maxHeartbeats 4000000 in
set_option maxRecDepth 100000 in
theorem w_X3_readWalk_108 {E : Ex} {K : Kx} (C : Cx E K cX3_readWalk 6 (some .int) RX3 wsX3_readWalk rmX3_readWalk) {a0 : Nat → Nat} {a1 : Nat → Nat} {a2 : Nat → Nat} {x2 : Int32} {x3 : Bool}  {x4 : Int32} {v1 : ToksV} {v2 : HouseV} {r : (Int32 × ToksV × HouseV)} (hf : HRead_readWalk_108 x2 x3 x4 v1 v2 = some r) : WW E K 0 0 (QQ E K (fun rv g => rv = some (.int r.1) ∧ g = [wHRead E a0 (rf1 (a1 0)), wToks E a1 r.2.1, wHouse E a2 r.2.2]) 0 0) 108 [(0, .ref (a0 0)), (1, .ref (a2 0)), (2, .int x2), (4, .int x4)] [] [wHRead E a0 (rf1 (a1 0)), wToks E a1 v1, wHouse E a2 v2] := by
  rw [HRead_readWalk_108] at hf
  refine ww_iload C dX3_readWalk_108 3 rfl ?_
  refine ww_if_ne (tgt := 125) C dX3_readWalk_110 (by decide) (fun c_7 => ?_) (fun c_7 => ?_)
  · replace hf := ifF c_7 hf
    refine ww_iload C dX3_readWalk_125 3 rfl ?_
    obtain rfl := Option.some.inj hf
    exact ww_iret C ⟨rfl, rfl⟩ dX3_readWalk_127
  · replace hf := ifT c_7 hf
    refine ww_aload_n C dX3_readWalk_113 rfl 0 rfl ?_
    refine ww_get C clOK3 in_X3_readWalk_X3 (w := wHRead E a0 (rf1 (a1 0))) (fs := fsHRead a0 (rf1 (a1 0))) (v := .ref (a1 0)) 0 0 0 rfl q_HRead (by decide) (by decide +kernel) g_HRead_tokens dX3_readWalk_114 ?_
    refine ww_ldcS C (i := 15) rfl dX3_readWalk_117 ?_
    obtain ⟨p119, hp119, hf⟩ := bdE hf
    refine ww_callV C (As := [.ref (eK E 15)]) (st := []) (gr := [wHRead E a0 (rf1 (a1 0)), wHouse E a2 v2]) (c_X7_isWord (E := E) (a0 := a1) hp119) gX3_readWalk_X7_isWord rfl yk_X7_isWord ⟨by decide, by decide⟩ ⟨by decide, by decide⟩ clOK7 0 0 rfl rfl [1] [0, 2] 3 rfl (by decide) rfl rfl (Nat.le_of_ble_eq_true rfl) dX3_readWalk_119 ?_
    rintro _ _ ⟨rfl, rfl⟩
    refine ww_perm (gs' := [wHRead E a0 (rf1 (a1 0)), wToks E a1 v1, wHouse E a2 v2]) [1, 0, 2] 3 rfl (by decide) rfl ?_
    refine ww_if_neB (tgt := 128) C dX3_readWalk_122 (by decide) (fun c_8 => ?_) (fun c_8 => ?_)
    · replace hf := btE c_8 hf
      refine ww_aload_n C dX3_readWalk_128 rfl 0 rfl ?_
      refine ww_get C clOK3 in_X3_readWalk_X3 (w := wHRead E a0 (rf1 (a1 0))) (fs := fsHRead a0 (rf1 (a1 0))) (v := .ref (a1 0)) 0 0 0 rfl q_HRead (by decide) (by decide +kernel) g_HRead_tokens dX3_readWalk_129 ?_
      obtain ⟨p132, hp132, hf⟩ := bdE hf
      refine ww_callV C (As := []) (st := []) (gr := [wHRead E a0 (rf1 (a1 0)), wHouse E a2 v2]) (c_X7_advance (E := E) (a0 := a1) hp132) gX3_readWalk_X7_advance rfl yk_X7_advance ⟨by decide, by decide⟩ ⟨by decide, by decide⟩ clOK7 0 0 rfl rfl [1] [0, 2] 3 rfl (by decide) rfl rfl (Nat.le_of_ble_eq_true rfl) dX3_readWalk_132 ?_
      rintro _ _ ⟨rfl, rfl⟩
      refine ww_perm (gs' := [wHRead E a0 (rf1 (a1 0)), wToks E a1 p132, wHouse E a2 v2]) [1, 0, 2] 3 rfl (by decide) rfl ?_
      refine ww_aload_n C dX3_readWalk_135 rfl 0 rfl ?_
      refine ww_get C clOK3 in_X3_readWalk_X3 (w := wHRead E a0 (rf1 (a1 0))) (fs := fsHRead a0 (rf1 (a1 0))) (v := .ref (a1 0)) 0 0 0 rfl q_HRead (by decide) (by decide +kernel) g_HRead_tokens dX3_readWalk_136 ?_
      refine ww_iconst (v := 0) C dX3_readWalk_139 (by decide) ?_
      refine ww_aload_n C dX3_readWalk_140 rfl 1 rfl ?_
      refine ww_get C clOK2 in_X3_readWalk_X2 (w := wHouse E a2 v2) (fs := fsHouse a2 v2) (v := .ref (a2 5)) 2 0 11 rfl q_House (by decide) (by decide +kernel) g_House_periods dX3_readWalk_141 ?_
      refine ww_iload_n C dX3_readWalk_144 rfl 2 rfl ?_
      obtain ⟨g_9, hf⟩ := gdE hf
      refine ww_iald C (f := House_periods v2) (w := wHouse E a2 v2) 2 5 rfl c_House_periods (inB_vp g_9) dX3_readWalk_145 ?_
      refine ww_iconst (v := 1) C dX3_readWalk_146 (by decide) ?_
      refine ww_isub C dX3_readWalk_147 ?_
      obtain ⟨p148, hp148, hf⟩ := bdE hf
      refine ww_callV C (As := [.int 0, .int (((House_periods v2) (Int32.toNatClampNeg x2)) - 1)]) (st := []) (gr := [wHRead E a0 (rf1 (a1 0)), wHouse E a2 v2]) (c_X7_numberCode (E := E) (a0 := a1) hp148) gX3_readWalk_X7_numberCode rfl yk_X7_numberCode ⟨by decide, by decide⟩ ⟨by decide, by decide⟩ clOK7 0 0 rfl rfl [1] [0, 2] 3 rfl (by decide) rfl rfl (Nat.le_of_ble_eq_true rfl) dX3_readWalk_148 ?_
      rintro _ _ ⟨rfl, rfl⟩
      refine ww_perm (gs' := [wHRead E a0 (rf1 (a1 0)), wToks E a1 p132, wHouse E a2 v2]) [1, 0, 2] 3 rfl (by decide) rfl ?_
      refine ww_istore (lv' := [(4, .int p148), (0, .ref (a0 0)), (1, .ref (a2 0)), (2, .int x2)]) C dX3_readWalk_151 (by decide) rfl ?_
      refine ww_iload C dX3_readWalk_153 0 rfl ?_
      refine ww_if_ne (tgt := 178) C dX3_readWalk_155 (by decide) (fun c_10 => ?_) (fun c_10 => ?_)
      · replace hf := ifF c_10 hf
        refine ww_iload C dX3_readWalk_178 0 rfl ?_
        obtain rfl := Option.some.inj hf
        exact ww_iret C ⟨rfl, rfl⟩ dX3_readWalk_180
      · replace hf := ifT c_10 hf
        refine ww_aload_n C dX3_readWalk_158 rfl 2 rfl ?_
        refine ww_get C clOK2 in_X3_readWalk_X2 (w := wHouse E a2 v2) (fs := fsHouse a2 v2) (v := .ref (a2 6)) 2 0 12 rfl q_House (by decide) (by decide +kernel) g_House_phases dX3_readWalk_159 ?_
        refine ww_iload_n C dX3_readWalk_162 rfl 3 rfl ?_
        refine ww_aload_n C dX3_readWalk_163 rfl 1 rfl ?_
        refine ww_get C clOK3 in_X3_readWalk_X3 (w := wHRead E a0 (rf1 (a1 0))) (fs := fsHRead a0 (rf1 (a1 0))) (v := .ref (a1 0)) 0 0 0 rfl q_HRead (by decide) (by decide +kernel) g_HRead_tokens dX3_readWalk_164 ?_
        refine ww_get C clOK7 in_X3_readWalk_X7 (w := wToks E a1 p132) (fs := fsToks a1 p132) (v := .int (Toks_number p132)) 1 0 3 rfl q_Toks (by decide) (by decide +kernel) g_Toks_number dX3_readWalk_167 ?_
        obtain ⟨v2_170, e_v2_170⟩ : ∃ y : HouseV, y = House_set_phases v2 (upd (House_phases v2) (Int32.toNatClampNeg x2) (Toks_number p132)) := ⟨_, rfl⟩
        replace hf := ltE e_v2_170 hf
        refine ww_iast C (f := House_phases v2) (w := wHouse E a2 v2) (w' := wHouse E a2 v2_170) (gs' := [wHRead E a0 (rf1 (a1 0)), wToks E a1 p132, wHouse E a2 v2_170]) 2 6 rfl c_House_phases (inB_vp g_9) (by rw [e_v2_170]; exact s_House_phases) rfl dX3_readWalk_170 ?_
        refine ww_aload_n C dX3_readWalk_171 rfl 1 rfl ?_
        refine ww_get C clOK3 in_X3_readWalk_X3 (w := wHRead E a0 (rf1 (a1 0))) (fs := fsHRead a0 (rf1 (a1 0))) (v := .ref (a1 0)) 0 0 0 rfl q_HRead (by decide) (by decide +kernel) g_HRead_tokens dX3_readWalk_172 ?_
        obtain ⟨p175, hp175, hf⟩ := bdE hf
        refine ww_callV C (As := []) (st := []) (gr := [wHRead E a0 (rf1 (a1 0)), wHouse E a2 v2_170]) (c_X7_advance (E := E) (a0 := a1) hp175) gX3_readWalk_X7_advance rfl yk_X7_advance ⟨by decide, by decide⟩ ⟨by decide, by decide⟩ clOK7 0 0 rfl rfl [1] [0, 2] 3 rfl (by decide) rfl rfl (Nat.le_of_ble_eq_true rfl) dX3_readWalk_175 ?_
        rintro _ _ ⟨rfl, rfl⟩
        refine ww_perm (gs' := [wHRead E a0 (rf1 (a1 0)), wToks E a1 p175, wHouse E a2 v2_170]) [1, 0, 2] 3 rfl (by decide) rfl ?_
        refine ww_iload C dX3_readWalk_178 0 rfl ?_
        obtain rfl := Option.some.inj hf
        exact ww_iret C ⟨rfl, rfl⟩ dX3_readWalk_180
    · replace hf := bfE c_8 hf
      refine ww_iload C dX3_readWalk_125 3 rfl ?_
      obtain rfl := Option.some.inj hf
      exact ww_iret C ⟨rfl, rfl⟩ dX3_readWalk_127

set_option maxHeartbeats 4000000 in
set_option maxRecDepth 100000 in
theorem w_X3_readWalk_94 {E : Ex} {K : Kx} (C : Cx E K cX3_readWalk 6 (some .int) RX3 wsX3_readWalk rmX3_readWalk) {a0 : Nat → Nat} {a1 : Nat → Nat} {a2 : Nat → Nat} {x2 : Int32} {x3 : Bool}  {x4 : Int32} {v1 : ToksV} {v2 : HouseV} {r : (Int32 × ToksV × HouseV)} (hf : HRead_readWalk_94 x2 x3 x4 v1 v2 = some r) : WW E K 0 0 (QQ E K (fun rv g => rv = some (.int r.1) ∧ g = [wHRead E a0 (rf1 (a1 0)), wToks E a1 r.2.1, wHouse E a2 r.2.2]) 0 0) 94 [(0, .ref (a0 0)), (1, .ref (a2 0)), (2, .int x2), (3, .int (b2i x3)), (4, .int x4)] [] [wHRead E a0 (rf1 (a1 0)), wToks E a1 v1, wHouse E a2 v2] := by
  rw [HRead_readWalk_94] at hf
  refine ww_iload C dX3_readWalk_94 4 rfl ?_
  refine ww_if_ne (tgt := 108) C dX3_readWalk_96 (by decide) (fun c_6 => ?_) (fun c_6 => ?_)
  · replace hf := ifF c_6 hf
    refine ww_sub C (lv' := [(0, .ref (a0 0)), (1, .ref (a2 0)), (2, .int x2), (4, .int x4)]) [0, 1, 2, 4] rfl ?_
    exact w_X3_readWalk_108 C hf
  · replace hf := ifT c_6 hf
    refine ww_aload_n C dX3_readWalk_99 rfl 0 rfl ?_
    refine ww_aload_n C dX3_readWalk_100 rfl 1 rfl ?_
    refine ww_iload_n C dX3_readWalk_101 rfl 2 rfl ?_
    refine ww_iload_n C dX3_readWalk_102 rfl 3 rfl ?_
    obtain ⟨p103, hp103, hf⟩ := bdE hf
    refine ww_callV C (As := [.ref (a2 0), .int x2, .int (b2i x3)]) (st := []) (gr := []) (c_X3_endOfRoomsCode (E := E) (a0 := a0) (a1 := a1) (a2 := a2) hp103) gX3_readWalk_X3_endOfRoomsCode rfl yk_X3_endOfRoomsCode ⟨by decide, by decide⟩ ⟨by decide, by decide⟩ clOK3 0 0 rfl rfl [0, 1, 2] [] 3 rfl (by decide) rfl rfl (Nat.le_of_ble_eq_true rfl) dX3_readWalk_103 ?_
    rintro _ _ ⟨rfl, rfl⟩
    refine ww_perm (gs' := [wHRead E a0 (rf1 (a1 0)), wToks E a1 v1, wHouse E a2 v2]) [0, 1, 2] 3 rfl (by decide) rfl ?_
    refine ww_istore (lv' := [(4, .int p103), (0, .ref (a0 0)), (1, .ref (a2 0)), (2, .int x2), (3, .int (b2i x3))]) C dX3_readWalk_106 (by decide) rfl ?_
    refine ww_sub C (lv' := [(0, .ref (a0 0)), (1, .ref (a2 0)), (2, .int x2), (4, .int p103)]) [1, 2, 3, 0] rfl ?_
    exact w_X3_readWalk_108 C hf

set_option maxHeartbeats 4000000 in
set_option maxRecDepth 100000 in
theorem w_X3_readWalk_34 {E : Ex} {K : Kx} (C : Cx E K cX3_readWalk 6 (some .int) RX3 wsX3_readWalk rmX3_readWalk) {a0 : Nat → Nat} {a1 : Nat → Nat} {a2 : Nat → Nat} {x2 : Int32} {x3 : Bool}  {r : (Int32 × ToksV × HouseV)} : ∀ (n : Nat) (x4 : Int32) (x5 : Int32) (v1 : ToksV) (v2 : HouseV), HRead_readWalk_34 x2 x3 n x4 x5 v1 v2 = some r → WW E K 0 0 (QQ E K (fun rv g => rv = some (.int r.1) ∧ g = [wHRead E a0 (rf1 (a1 0)), wToks E a1 r.2.1, wHouse E a2 r.2.2]) 0 0) 34 [(0, .ref (a0 0)), (1, .ref (a2 0)), (2, .int x2), (3, .int (b2i x3)), (4, .int x4), (5, .int x5)] [] [wHRead E a0 (rf1 (a1 0)), wToks E a1 v1, wHouse E a2 v2] := by
  intro n
  induction n with
  | zero =>
    intro x4 x5 v1 v2 hf
    simp [HRead_readWalk_34] at hf
  | succ n ih =>
    intro x4 x5 v1 v2 hf
    rw [HRead_readWalk_34] at hf
    refine ww_iload C dX3_readWalk_34 5 rfl ?_
    refine ww_bipush (v := 10) C dX3_readWalk_36 (by decide) ?_
    refine ww_icmp_gt (tgt := 94) C dX3_readWalk_38 (by decide) (fun c_2 => ?_) (fun c_2 => ?_)
    · replace hf := ifT c_2 hf
      refine ww_sub C (lv' := [(0, .ref (a0 0)), (1, .ref (a2 0)), (2, .int x2), (3, .int (b2i x3)), (4, .int x4)]) [0, 1, 2, 3, 4] rfl ?_
      exact w_X3_readWalk_94 C hf
    · replace hf := ifF c_2 hf
      refine ww_iload C dX3_readWalk_41 4 rfl ?_
      refine ww_if_ne (tgt := 94) C dX3_readWalk_43 (by decide) (fun c_3 => ?_) (fun c_3 => ?_)
      · replace hf := ifF c_3 hf
        refine ww_sub C (lv' := [(0, .ref (a0 0)), (1, .ref (a2 0)), (2, .int x2), (3, .int (b2i x3)), (4, .int x4)]) [0, 1, 2, 3, 4] rfl ?_
        exact w_X3_readWalk_94 C hf
      · replace hf := ifT c_3 hf
        refine ww_aload_n C dX3_readWalk_46 rfl 0 rfl ?_
        refine ww_get C clOK3 in_X3_readWalk_X3 (w := wHRead E a0 (rf1 (a1 0))) (fs := fsHRead a0 (rf1 (a1 0))) (v := .ref (a1 0)) 0 0 0 rfl q_HRead (by decide) (by decide +kernel) g_HRead_tokens dX3_readWalk_47 ?_
        obtain ⟨p50, hp50, hf⟩ := bdE hf
        refine ww_callV C (As := []) (st := []) (gr := [wHRead E a0 (rf1 (a1 0)), wHouse E a2 v2]) (c_X7_isNumber (E := E) (a0 := a1) hp50) gX3_readWalk_X7_isNumber rfl yk_X7_isNumber ⟨by decide, by decide⟩ ⟨by decide, by decide⟩ clOK7 0 0 rfl rfl [1] [0, 2] 3 rfl (by decide) rfl rfl (Nat.le_of_ble_eq_true rfl) dX3_readWalk_50 ?_
        rintro _ _ ⟨rfl, rfl⟩
        refine ww_perm (gs' := [wHRead E a0 (rf1 (a1 0)), wToks E a1 v1, wHouse E a2 v2]) [1, 0, 2] 3 rfl (by decide) rfl ?_
        refine ww_if_eqB (tgt := 94) C dX3_readWalk_53 (by decide) (fun c_4 => ?_) (fun c_4 => ?_)
        · replace hf := bfE c_4 hf
          refine ww_sub C (lv' := [(0, .ref (a0 0)), (1, .ref (a2 0)), (2, .int x2), (3, .int (b2i x3)), (4, .int x4)]) [0, 1, 2, 3, 4] rfl ?_
          exact w_X3_readWalk_94 C hf
        · replace hf := btE c_4 hf
          refine ww_aload_n C dX3_readWalk_56 rfl 0 rfl ?_
          refine ww_aload_n C dX3_readWalk_57 rfl 1 rfl ?_
          refine ww_iload_n C dX3_readWalk_58 rfl 2 rfl ?_
          obtain ⟨p59, hp59, hf⟩ := bdE hf
          refine ww_callV C (As := [.ref (a2 0), .int x2]) (st := []) (gr := []) (c_X3_stepCode (E := E) (a0 := a0) (a1 := a1) (a2 := a2) hp59) gX3_readWalk_X3_stepCode rfl yk_X3_stepCode ⟨by decide, by decide⟩ ⟨by decide, by decide⟩ clOK3 0 0 rfl rfl [0, 1, 2] [] 3 rfl (by decide) rfl rfl (Nat.le_of_ble_eq_true rfl) dX3_readWalk_59 ?_
          rintro _ _ ⟨rfl, rfl⟩
          refine ww_perm (gs' := [wHRead E a0 (rf1 (a1 0)), wToks E a1 v1, wHouse E a2 v2]) [0, 1, 2] 3 rfl (by decide) rfl ?_
          refine ww_istore (lv' := [(4, .int p59), (0, .ref (a0 0)), (1, .ref (a2 0)), (2, .int x2), (3, .int (b2i x3)), (5, .int x5)]) C dX3_readWalk_62 (by decide) rfl ?_
          refine ww_iload C dX3_readWalk_64 0 rfl ?_
          refine ww_if_ne (tgt := 88) C dX3_readWalk_66 (by decide) (fun c_5 => ?_) (fun c_5 => ?_)
          · replace hf := ifF c_5 hf
            obtain ⟨x5_88, e_x5_88⟩ : ∃ y : Int32, y = x5 + 1 := ⟨_, rfl⟩
            replace hf := ltE e_x5_88 hf
            refine ww_iinc (v := x5_88) (lv' := [(5, .int x5_88), (4, .int p59), (0, .ref (a0 0)), (1, .ref (a2 0)), (2, .int x2), (3, .int (b2i x3))]) C dX3_readWalk_88 5 rfl (by rw [e_x5_88]; rfl) (by decide) rfl ?_
            refine ww_goto (tgt := 34) C dX3_readWalk_91 (by decide) ?_
            refine ww_sub C (lv' := [(0, .ref (a0 0)), (1, .ref (a2 0)), (2, .int x2), (3, .int (b2i x3)), (4, .int p59), (5, .int x5_88)]) [2, 3, 4, 5, 1, 0] rfl ?_
            exact ih _ _ _ _ hf
          · replace hf := ifT c_5 hf
            refine ww_aload_n C dX3_readWalk_69 rfl 2 rfl ?_
            refine ww_iload_n C dX3_readWalk_70 rfl 3 rfl ?_
            refine ww_aload_n C dX3_readWalk_71 rfl 1 rfl ?_
            refine ww_get C clOK3 in_X3_readWalk_X3 (w := wHRead E a0 (rf1 (a1 0))) (fs := fsHRead a0 (rf1 (a1 0))) (v := .ref (a1 0)) 0 0 0 rfl q_HRead (by decide) (by decide +kernel) g_HRead_tokens dX3_readWalk_72 ?_
            refine ww_get C clOK7 in_X3_readWalk_X7 (w := wToks E a1 v1) (fs := fsToks a1 v1) (v := .int (Toks_number v1)) 1 0 3 rfl q_Toks (by decide) (by decide +kernel) g_Toks_number dX3_readWalk_75 ?_
            obtain ⟨p78, hp78, hf⟩ := bdE hf
            refine ww_callV C (As := [.int x2, .int (Toks_number v1)]) (st := []) (gr := [wHRead E a0 (rf1 (a1 0)), wToks E a1 v1]) (c_X2_addStep (E := E) (a0 := a2) hp78) gX3_readWalk_X2_addStep rfl yk_X2_addStep ⟨by decide, by decide⟩ ⟨by decide, by decide⟩ clOK2 0 0 rfl rfl [2] [0, 1] 3 rfl (by decide) rfl rfl (Nat.le_of_ble_eq_true rfl) dX3_readWalk_78 ?_
            rintro _ _ ⟨rfl, rfl⟩
            refine ww_perm (gs' := [wHRead E a0 (rf1 (a1 0)), wToks E a1 v1, wHouse E a2 p78]) [1, 2, 0] 3 rfl (by decide) rfl ?_
            refine ww_aload_n C dX3_readWalk_81 rfl 1 rfl ?_
            refine ww_get C clOK3 in_X3_readWalk_X3 (w := wHRead E a0 (rf1 (a1 0))) (fs := fsHRead a0 (rf1 (a1 0))) (v := .ref (a1 0)) 0 0 0 rfl q_HRead (by decide) (by decide +kernel) g_HRead_tokens dX3_readWalk_82 ?_
            obtain ⟨p85, hp85, hf⟩ := bdE hf
            refine ww_callV C (As := []) (st := []) (gr := [wHRead E a0 (rf1 (a1 0)), wHouse E a2 p78]) (c_X7_advance (E := E) (a0 := a1) hp85) gX3_readWalk_X7_advance rfl yk_X7_advance ⟨by decide, by decide⟩ ⟨by decide, by decide⟩ clOK7 0 0 rfl rfl [1] [0, 2] 3 rfl (by decide) rfl rfl (Nat.le_of_ble_eq_true rfl) dX3_readWalk_85 ?_
            rintro _ _ ⟨rfl, rfl⟩
            refine ww_perm (gs' := [wHRead E a0 (rf1 (a1 0)), wToks E a1 p85, wHouse E a2 p78]) [1, 0, 2] 3 rfl (by decide) rfl ?_
            obtain ⟨x5_88, e_x5_88⟩ : ∃ y : Int32, y = x5 + 1 := ⟨_, rfl⟩
            replace hf := ltE e_x5_88 hf
            refine ww_iinc (v := x5_88) (lv' := [(5, .int x5_88), (4, .int p59), (0, .ref (a0 0)), (1, .ref (a2 0)), (2, .int x2), (3, .int (b2i x3))]) C dX3_readWalk_88 5 rfl (by rw [e_x5_88]; rfl) (by decide) rfl ?_
            refine ww_goto (tgt := 34) C dX3_readWalk_91 (by decide) ?_
            refine ww_sub C (lv' := [(0, .ref (a0 0)), (1, .ref (a2 0)), (2, .int x2), (3, .int (b2i x3)), (4, .int p59), (5, .int x5_88)]) [2, 3, 4, 5, 1, 0] rfl ?_
            exact ih _ _ _ _ hf

set_option maxHeartbeats 4000000 in
set_option maxRecDepth 100000 in
theorem c_X3_readWalk {E : Ex} {a0 : Nat → Nat} {a1 : Nat → Nat} {a2 : Nat → Nat} {x2 : Int32} {x3 : Bool} {v1 : ToksV} {v2 : HouseV} {r : (Int32 × ToksV × HouseV)} (hf : HRead_readWalk x2 x3 v1 v2 = some r) : Ct E yX3_readWalk wsX3_readWalk rmX3_readWalk [.ref (a0 0), .ref (a2 0), .int x2, .int (b2i x3)] [wHRead E a0 (rf1 (a1 0)), wToks E a1 v1, wHouse E a2 v2] (fun rv g => rv = some (.int r.1) ∧ g = [wHRead E a0 (rf1 (a1 0)), wToks E a1 r.2.1, wHouse E a2 r.2.2]) := by
  refine ct_of (own := RX3) (by decide +kernel) rfl rfl (Nat.le_of_ble_eq_true rfl) (fun K C => ?_)
  refine ww_sub C (lv' := [(0, .ref (a0 0)), (1, .ref (a2 0)), (2, .int x2), (3, .int (b2i x3))]) [0, 1, 2, 3] rfl ?_
  rw [HRead_readWalk] at hf
  refine ww_aload_n C dX3_readWalk_0 rfl 1 rfl ?_
  refine ww_iload_n C dX3_readWalk_1 rfl 2 rfl ?_
  obtain ⟨p2, hp2, hf⟩ := bdE hf
  refine ww_callV C (As := [.int x2]) (st := []) (gr := [wHRead E a0 (rf1 (a1 0)), wToks E a1 v1]) (c_X2_hasGuard (E := E) (a0 := a2) hp2) gX3_readWalk_X2_hasGuard rfl yk_X2_hasGuard ⟨by decide, by decide⟩ ⟨by decide, by decide⟩ clOK2 0 0 rfl rfl [2] [0, 1] 3 rfl (by decide) rfl rfl (Nat.le_of_ble_eq_true rfl) dX3_readWalk_2 ?_
  rintro _ _ ⟨rfl, rfl⟩
  refine ww_perm (gs' := [wHRead E a0 (rf1 (a1 0)), wToks E a1 v1, wHouse E a2 v2]) [1, 2, 0] 3 rfl (by decide) rfl ?_
  refine ww_if_neB (tgt := 10) C dX3_readWalk_5 (by decide) (fun c_1 => ?_) (fun c_1 => ?_)
  · replace hf := btE c_1 hf
    refine ww_aload_n C dX3_readWalk_10 rfl 1 rfl ?_
    refine ww_iload_n C dX3_readWalk_11 rfl 2 rfl ?_
    obtain ⟨p12, hp12, hf⟩ := bdE hf
    refine ww_callV C (As := [.int x2]) (st := []) (gr := [wHRead E a0 (rf1 (a1 0)), wToks E a1 v1]) (c_X2_emptyWalk (E := E) (a0 := a2) hp12) gX3_readWalk_X2_emptyWalk rfl yk_X2_emptyWalk ⟨by decide, by decide⟩ ⟨by decide, by decide⟩ clOK2 0 0 rfl rfl [2] [0, 1] 3 rfl (by decide) rfl rfl (Nat.le_of_ble_eq_true rfl) dX3_readWalk_12 ?_
    rintro _ _ ⟨rfl, rfl⟩
    refine ww_perm (gs' := [wHRead E a0 (rf1 (a1 0)), wToks E a1 v1, wHouse E a2 p12]) [1, 2, 0] 3 rfl (by decide) rfl ?_
    refine ww_aload_n C dX3_readWalk_15 rfl 0 rfl ?_
    refine ww_get C clOK3 in_X3_readWalk_X3 (w := wHRead E a0 (rf1 (a1 0))) (fs := fsHRead a0 (rf1 (a1 0))) (v := .ref (a1 0)) 0 0 0 rfl q_HRead (by decide) (by decide +kernel) g_HRead_tokens dX3_readWalk_16 ?_
    refine ww_iconst (v := 0) C dX3_readWalk_19 (by decide) ?_
    refine ww_aload_n C dX3_readWalk_20 rfl 1 rfl ?_
    refine ww_get C clOK2 in_X3_readWalk_X2 (w := wHouse E a2 p12) (fs := fsHouse a2 p12) (v := .int (House_rooms p12)) 2 0 0 rfl q_House (by decide) (by decide +kernel) g_House_rooms dX3_readWalk_21 ?_
    refine ww_iconst (v := 1) C dX3_readWalk_24 (by decide) ?_
    refine ww_isub C dX3_readWalk_25 ?_
    obtain ⟨p26, hp26, hf⟩ := bdE hf
    refine ww_callV C (As := [.int 0, .int ((House_rooms p12) - 1)]) (st := []) (gr := [wHRead E a0 (rf1 (a1 0)), wHouse E a2 p12]) (c_X7_numberCode (E := E) (a0 := a1) hp26) gX3_readWalk_X7_numberCode rfl yk_X7_numberCode ⟨by decide, by decide⟩ ⟨by decide, by decide⟩ clOK7 0 0 rfl rfl [1] [0, 2] 3 rfl (by decide) rfl rfl (Nat.le_of_ble_eq_true rfl) dX3_readWalk_26 ?_
    rintro _ _ ⟨rfl, rfl⟩
    refine ww_perm (gs' := [wHRead E a0 (rf1 (a1 0)), wToks E a1 v1, wHouse E a2 p12]) [1, 0, 2] 3 rfl (by decide) rfl ?_
    refine ww_istore (lv' := [(4, .int p26), (0, .ref (a0 0)), (1, .ref (a2 0)), (2, .int x2), (3, .int (b2i x3))]) C dX3_readWalk_29 (by decide) rfl ?_
    refine ww_iconst (v := 0) C dX3_readWalk_31 (by decide) ?_
    refine ww_istore (lv' := [(5, .int 0), (4, .int p26), (0, .ref (a0 0)), (1, .ref (a2 0)), (2, .int x2), (3, .int (b2i x3))]) C dX3_readWalk_32 (by decide) rfl ?_
    refine ww_sub C (lv' := [(0, .ref (a0 0)), (1, .ref (a2 0)), (2, .int x2), (3, .int (b2i x3)), (4, .int p26), (5, .int 0)]) [2, 3, 4, 5, 1, 0] rfl ?_
    exact w_X3_readWalk_34 C FU _ _ _ _ hf
  · replace hf := bfE c_1 hf
    refine ww_iconst (v := 2) C dX3_readWalk_8 (by decide) ?_
    obtain rfl := Option.some.inj hf
    exact ww_iret C ⟨rfl, rfl⟩ dX3_readWalk_9

theorem yk_X3_readWalk : yX3_readWalk.cls = RX3 ∧ yX3_readWalk.cls ≠ "java/lang/invoke/MethodHandle" ∧ yX3_readWalk.cls ≠ "java/lang/invoke/VarHandle" ∧ (parseMethodDescriptor yX3_readWalk.desc).map (fun d => d.parameters.length) = some 3 := by decide +kernel
abbrev rmX3_readGuard : Room := { frames := 8, cells := 0, slots := 0, locals := 271 }
set_option maxRecDepth 20000 in
theorem in_X3_readGuard_X2 : ∀ w ∈ u_ws RX2 TX2 19, w ∈ wsX3_readGuard := by decide +kernel
set_option maxRecDepth 20000 in
theorem in_X3_readGuard_X3 : ∀ w ∈ u_ws RX3 TX3 1, w ∈ wsX3_readGuard := by decide +kernel
set_option maxHeartbeats 4000000 in
set_option maxRecDepth 100000 in
theorem c_X3_readGuard {E : Ex} {a0 : Nat → Nat} {a1 : Nat → Nat} {a2 : Nat → Nat} {v1 : ToksV} {v2 : HouseV} {r : (Int32 × ToksV × HouseV)} (hf : HRead_readGuard v1 v2 = some r) : Ct E yX3_readGuard wsX3_readGuard rmX3_readGuard [.ref (a0 0), .ref (a2 0)] [wHRead E a0 (rf1 (a1 0)), wToks E a1 v1, wHouse E a2 v2] (fun rv g => rv = some (.int r.1) ∧ g = [wHRead E a0 (rf1 (a1 0)), wToks E a1 r.2.1, wHouse E a2 r.2.2]) := by
  refine ct_of (own := RX3) (by decide +kernel) rfl rfl (Nat.le_of_ble_eq_true rfl) (fun K C => ?_)
  refine ww_sub C (lv' := [(0, .ref (a0 0)), (1, .ref (a2 0))]) [0, 1] rfl ?_
  rw [HRead_readGuard] at hf
  refine ww_aload_n C dX3_readGuard_0 rfl 0 rfl ?_
  refine ww_get C clOK3 in_X3_readGuard_X3 (w := wHRead E a0 (rf1 (a1 0))) (fs := fsHRead a0 (rf1 (a1 0))) (v := .ref (a1 0)) 0 0 0 rfl q_HRead (by decide) (by decide +kernel) g_HRead_tokens dX3_readGuard_1 ?_
  obtain ⟨p4, hp4, hf⟩ := bdE hf
  refine ww_callV C (As := []) (st := []) (gr := [wHRead E a0 (rf1 (a1 0)), wHouse E a2 v2]) (c_X7_advance (E := E) (a0 := a1) hp4) gX3_readGuard_X7_advance rfl yk_X7_advance ⟨by decide, by decide⟩ ⟨by decide, by decide⟩ clOK7 0 0 rfl rfl [1] [0, 2] 3 rfl (by decide) rfl rfl (Nat.le_of_ble_eq_true rfl) dX3_readGuard_4 ?_
  rintro _ _ ⟨rfl, rfl⟩
  refine ww_perm (gs' := [wHRead E a0 (rf1 (a1 0)), wToks E a1 p4, wHouse E a2 v2]) [1, 0, 2] 3 rfl (by decide) rfl ?_
  refine ww_aload_n C dX3_readGuard_7 rfl 1 rfl ?_
  refine ww_get C clOK2 in_X3_readGuard_X2 (w := wHouse E a2 v2) (fs := fsHouse a2 v2) (v := .int (House_guards v2)) 2 0 2 rfl q_House (by decide) (by decide +kernel) g_House_guards dX3_readGuard_8 ?_
  refine ww_topi (fun x2_11 e_x2_11 => ?_)
  replace hf := ltE e_x2_11 hf
  refine ww_istore_n (lv' := [(2, .int x2_11), (0, .ref (a0 0)), (1, .ref (a2 0))]) C dX3_readGuard_11 rfl (by decide) rfl ?_
  refine ww_aload_n C dX3_readGuard_12 rfl 2 rfl ?_
  refine ww_dup C dX3_readGuard_13 rfl ?_
  refine ww_get C clOK2 in_X3_readGuard_X2 (w := wHouse E a2 v2) (fs := fsHouse a2 v2) (v := .int (House_guards v2)) 2 0 2 rfl q_House (by decide) (by decide +kernel) g_House_guards dX3_readGuard_14 ?_
  refine ww_iconst (v := 1) C dX3_readGuard_17 (by decide) ?_
  refine ww_iadd C dX3_readGuard_18 ?_
  obtain ⟨v2_19, e_v2_19⟩ : ∃ y : HouseV, y = House_set_guards v2 ((House_guards v2) + 1) := ⟨_, rfl⟩
  replace hf := ltE e_v2_19 hf
  refine ww_put C clOK2 in_X3_readGuard_X2 (w := wHouse E a2 v2) (fs := fsHouse a2 v2) (w' := wHouse E a2 v2_19) (gs' := [wHRead E a0 (rf1 (a1 0)), wToks E a1 p4, wHouse E a2 v2_19]) 2 0 2 rfl q_House (by decide) (by decide +kernel) rfl rfl rfl rfl l_House (by rw [e_v2_19]; exact p_House_guards) rfl dX3_readGuard_19 ?_
  refine ww_aload_n C dX3_readGuard_22 rfl 1 rfl ?_
  refine ww_aload_n C dX3_readGuard_23 rfl 2 rfl ?_
  refine ww_iload_n C dX3_readGuard_24 rfl 0 rfl ?_
  refine ww_iconst (v := 0) C dX3_readGuard_25 (by decide) ?_
  obtain ⟨p26, hp26, hf⟩ := bdE hf
  refine ww_callV C (As := [.ref (a2 0), .int x2_11, .int (b2i false)]) (st := []) (gr := []) (c_X3_readWalk (E := E) (a0 := a0) (a1 := a1) (a2 := a2) hp26) gX3_readGuard_X3_readWalk rfl yk_X3_readWalk ⟨by decide, by decide⟩ ⟨by decide, by decide⟩ clOK3 0 0 rfl rfl [0, 1, 2] [] 3 rfl (by decide) rfl rfl (Nat.le_of_ble_eq_true rfl) dX3_readGuard_26 ?_
  rintro _ _ ⟨rfl, rfl⟩
  refine ww_perm (gs' := [wHRead E a0 (rf1 (a1 0)), wToks E a1 p26.2.1, wHouse E a2 p26.2.2]) [0, 1, 2] 3 rfl (by decide) rfl ?_
  refine ww_istore_n (lv' := [(3, .int p26.1), (2, .int x2_11), (0, .ref (a0 0)), (1, .ref (a2 0))]) C dX3_readGuard_29 rfl (by decide) rfl ?_
  refine ww_iload_n C dX3_readGuard_30 rfl 0 rfl ?_
  refine ww_if_ne (tgt := 41) C dX3_readGuard_31 (by decide) (fun c_2 => ?_) (fun c_2 => ?_)
  · replace hf := ifF c_2 hf
    refine ww_iload_n C dX3_readGuard_41 rfl 0 rfl ?_
    obtain rfl := Option.some.inj hf
    exact ww_iret C ⟨rfl, rfl⟩ dX3_readGuard_42
  · replace hf := ifT c_2 hf
    refine ww_aload_n C dX3_readGuard_34 rfl 2 rfl ?_
    obtain ⟨p35, hp35, hf⟩ := bdE hf
    refine ww_callV C (As := []) (st := []) (gr := [wHouse E a2 p26.2.2]) (c_X3_readSemicolon (E := E) (a0 := a0) (a1 := a1) hp35) gX3_readGuard_X3_readSemicolon rfl yk_X3_readSemicolon ⟨by decide, by decide⟩ ⟨by decide, by decide⟩ clOK3 0 0 rfl rfl [0, 1] [2] 3 rfl (by decide) rfl rfl (Nat.le_of_ble_eq_true rfl) dX3_readGuard_35 ?_
    rintro _ _ ⟨rfl, rfl⟩
    refine ww_perm (gs' := [wHRead E a0 (rf1 (a1 0)), wToks E a1 p35.2, wHouse E a2 p26.2.2]) [0, 1, 2] 3 rfl (by decide) rfl ?_
    refine ww_goto (tgt := 42) C dX3_readGuard_38 (by decide) ?_
    obtain rfl := Option.some.inj hf
    exact ww_iret C ⟨rfl, rfl⟩ dX3_readGuard_42

theorem yk_X3_readGuard : yX3_readGuard.cls = RX3 ∧ yX3_readGuard.cls ≠ "java/lang/invoke/MethodHandle" ∧ yX3_readGuard.cls ≠ "java/lang/invoke/VarHandle" ∧ (parseMethodDescriptor yX3_readGuard.desc).map (fun d => d.parameters.length) = some 1 := by decide +kernel
abbrev rmX3_readClause : Room := { frames := 9, cells := 0, slots := 0, locals := 294 }
set_option maxRecDepth 20000 in
theorem in_X3_readClause_X2 : ∀ w ∈ u_ws RX2 TX2 19, w ∈ wsX3_readClause := by decide +kernel
set_option maxRecDepth 20000 in
theorem in_X3_readClause_X3 : ∀ w ∈ u_ws RX3 TX3 1, w ∈ wsX3_readClause := by decide +kernel
set_option maxHeartbeats 4000000 in
set_option maxRecDepth 100000 in
theorem c_X3_readClause {E : Ex} {a0 : Nat → Nat} {a1 : Nat → Nat} {a2 : Nat → Nat} {v1 : ToksV} {v2 : HouseV} {r : (Int32 × ToksV × HouseV)} (hf : HRead_readClause v1 v2 = some r) : Ct E yX3_readClause wsX3_readClause rmX3_readClause [.ref (a0 0), .ref (a2 0)] [wHRead E a0 (rf1 (a1 0)), wToks E a1 v1, wHouse E a2 v2] (fun rv g => rv = some (.int r.1) ∧ g = [wHRead E a0 (rf1 (a1 0)), wToks E a1 r.2.1, wHouse E a2 r.2.2]) := by
  refine ct_of (own := RX3) (by decide +kernel) rfl rfl (Nat.le_of_ble_eq_true rfl) (fun K C => ?_)
  refine ww_sub C (lv' := [(0, .ref (a0 0)), (1, .ref (a2 0))]) [0, 1] rfl ?_
  rw [HRead_readClause] at hf
  refine ww_aload_n C dX3_readClause_0 rfl 0 rfl ?_
  refine ww_get C clOK3 in_X3_readClause_X3 (w := wHRead E a0 (rf1 (a1 0))) (fs := fsHRead a0 (rf1 (a1 0))) (v := .ref (a1 0)) 0 0 0 rfl q_HRead (by decide) (by decide +kernel) g_HRead_tokens dX3_readClause_1 ?_
  refine ww_ldcS C (i := 11) rfl dX3_readClause_4 ?_
  obtain ⟨p6, hp6, hf⟩ := bdE hf
  refine ww_callV C (As := [.ref (eK E 11)]) (st := []) (gr := [wHRead E a0 (rf1 (a1 0)), wHouse E a2 v2]) (c_X7_isWord (E := E) (a0 := a1) hp6) gX3_readClause_X7_isWord rfl yk_X7_isWord ⟨by decide, by decide⟩ ⟨by decide, by decide⟩ clOK7 0 0 rfl rfl [1] [0, 2] 3 rfl (by decide) rfl rfl (Nat.le_of_ble_eq_true rfl) dX3_readClause_6 ?_
  rintro _ _ ⟨rfl, rfl⟩
  refine ww_perm (gs' := [wHRead E a0 (rf1 (a1 0)), wToks E a1 v1, wHouse E a2 v2]) [1, 0, 2] 3 rfl (by decide) rfl ?_
  refine ww_if_eqB (tgt := 31) C dX3_readClause_9 (by decide) (fun c_1 => ?_) (fun c_1 => ?_)
  · replace hf := bfE c_1 hf
    refine ww_aload_n C dX3_readClause_31 rfl 0 rfl ?_
    refine ww_get C clOK3 in_X3_readClause_X3 (w := wHRead E a0 (rf1 (a1 0))) (fs := fsHRead a0 (rf1 (a1 0))) (v := .ref (a1 0)) 0 0 0 rfl q_HRead (by decide) (by decide +kernel) g_HRead_tokens dX3_readClause_32 ?_
    refine ww_ldcS C (i := 12) rfl dX3_readClause_35 ?_
    obtain ⟨p37, hp37, hf⟩ := bdE hf
    refine ww_callV C (As := [.ref (eK E 12)]) (st := []) (gr := [wHRead E a0 (rf1 (a1 0)), wHouse E a2 v2]) (c_X7_isWord (E := E) (a0 := a1) hp37) gX3_readClause_X7_isWord rfl yk_X7_isWord ⟨by decide, by decide⟩ ⟨by decide, by decide⟩ clOK7 0 0 rfl rfl [1] [0, 2] 3 rfl (by decide) rfl rfl (Nat.le_of_ble_eq_true rfl) dX3_readClause_37 ?_
    rintro _ _ ⟨rfl, rfl⟩
    refine ww_perm (gs' := [wHRead E a0 (rf1 (a1 0)), wToks E a1 v1, wHouse E a2 v2]) [1, 0, 2] 3 rfl (by decide) rfl ?_
    refine ww_if_eqB (tgt := 61) C dX3_readClause_40 (by decide) (fun c_2 => ?_) (fun c_2 => ?_)
    · replace hf := bfE c_2 hf
      refine ww_aload_n C dX3_readClause_61 rfl 0 rfl ?_
      refine ww_get C clOK3 in_X3_readClause_X3 (w := wHRead E a0 (rf1 (a1 0))) (fs := fsHRead a0 (rf1 (a1 0))) (v := .ref (a1 0)) 0 0 0 rfl q_HRead (by decide) (by decide +kernel) g_HRead_tokens dX3_readClause_62 ?_
      refine ww_ldcS C (i := 13) rfl dX3_readClause_65 ?_
      obtain ⟨p67, hp67, hf⟩ := bdE hf
      refine ww_callV C (As := [.ref (eK E 13)]) (st := []) (gr := [wHRead E a0 (rf1 (a1 0)), wHouse E a2 v2]) (c_X7_isWord (E := E) (a0 := a1) hp67) gX3_readClause_X7_isWord rfl yk_X7_isWord ⟨by decide, by decide⟩ ⟨by decide, by decide⟩ clOK7 0 0 rfl rfl [1] [0, 2] 3 rfl (by decide) rfl rfl (Nat.le_of_ble_eq_true rfl) dX3_readClause_67 ?_
      rintro _ _ ⟨rfl, rfl⟩
      refine ww_perm (gs' := [wHRead E a0 (rf1 (a1 0)), wToks E a1 v1, wHouse E a2 v2]) [1, 0, 2] 3 rfl (by decide) rfl ?_
      refine ww_if_eqB (tgt := 81) C dX3_readClause_70 (by decide) (fun c_3 => ?_) (fun c_3 => ?_)
      · replace hf := bfE c_3 hf
        refine ww_iconst (v := 1) C dX3_readClause_81 (by decide) ?_
        obtain rfl := Option.some.inj hf
        exact ww_iret C ⟨rfl, rfl⟩ dX3_readClause_82
      · replace hf := btE c_3 hf
        refine ww_aload_n C dX3_readClause_73 rfl 0 rfl ?_
        refine ww_aload_n C dX3_readClause_74 rfl 1 rfl ?_
        obtain ⟨p75, hp75, hf⟩ := bdE hf
        refine ww_callV C (As := [.ref (a2 0)]) (st := []) (gr := []) (c_X3_readLimit (E := E) (a0 := a0) (a1 := a1) (a2 := a2) hp75) gX3_readClause_X3_readLimit rfl yk_X3_readLimit ⟨by decide, by decide⟩ ⟨by decide, by decide⟩ clOK3 0 0 rfl rfl [0, 1, 2] [] 3 rfl (by decide) rfl rfl (Nat.le_of_ble_eq_true rfl) dX3_readClause_75 ?_
        rintro _ _ ⟨rfl, rfl⟩
        refine ww_perm (gs' := [wHRead E a0 (rf1 (a1 0)), wToks E a1 p75.2.1, wHouse E a2 p75.2.2]) [0, 1, 2] 3 rfl (by decide) rfl ?_
        refine ww_goto (tgt := 82) C dX3_readClause_78 (by decide) ?_
        obtain rfl := Option.some.inj hf
        exact ww_iret C ⟨rfl, rfl⟩ dX3_readClause_82
    · replace hf := btE c_2 hf
      refine ww_aload_n C dX3_readClause_43 rfl 1 rfl ?_
      refine ww_get C clOK2 in_X3_readClause_X2 (w := wHouse E a2 v2) (fs := fsHouse a2 v2) (v := .int (House_guards v2)) 2 0 2 rfl q_House (by decide) (by decide +kernel) g_House_guards dX3_readClause_44 ?_
      refine ww_iconst (v := 4) C dX3_readClause_47 (by decide) ?_
      refine ww_icmp_ge (tgt := 59) C dX3_readClause_48 (by decide) (fun c_4 => ?_) (fun c_4 => ?_)
      · replace hf := ifT c_4 hf
        refine ww_iconst (v := 3) C dX3_readClause_59 (by decide) ?_
        obtain rfl := Option.some.inj hf
        exact ww_iret C ⟨rfl, rfl⟩ dX3_readClause_60
      · replace hf := ifF c_4 hf
        refine ww_aload_n C dX3_readClause_51 rfl 0 rfl ?_
        refine ww_aload_n C dX3_readClause_52 rfl 1 rfl ?_
        obtain ⟨p53, hp53, hf⟩ := bdE hf
        refine ww_callV C (As := [.ref (a2 0)]) (st := []) (gr := []) (c_X3_readGuard (E := E) (a0 := a0) (a1 := a1) (a2 := a2) hp53) gX3_readClause_X3_readGuard rfl yk_X3_readGuard ⟨by decide, by decide⟩ ⟨by decide, by decide⟩ clOK3 0 0 rfl rfl [0, 1, 2] [] 3 rfl (by decide) rfl rfl (Nat.le_of_ble_eq_true rfl) dX3_readClause_53 ?_
        rintro _ _ ⟨rfl, rfl⟩
        refine ww_perm (gs' := [wHRead E a0 (rf1 (a1 0)), wToks E a1 p53.2.1, wHouse E a2 p53.2.2]) [0, 1, 2] 3 rfl (by decide) rfl ?_
        refine ww_goto (tgt := 60) C dX3_readClause_56 (by decide) ?_
        obtain rfl := Option.some.inj hf
        exact ww_iret C ⟨rfl, rfl⟩ dX3_readClause_60
  · replace hf := btE c_1 hf
    refine ww_aload_n C dX3_readClause_12 rfl 1 rfl ?_
    refine ww_get C clOK2 in_X3_readClause_X2 (w := wHouse E a2 v2) (fs := fsHouse a2 v2) (v := .int (House_doors v2)) 2 0 1 rfl q_House (by decide) (by decide +kernel) g_House_doors dX3_readClause_13 ?_
    refine ww_bipush (v := 20) C dX3_readClause_16 (by decide) ?_
    refine ww_icmp_ge (tgt := 29) C dX3_readClause_18 (by decide) (fun c_5 => ?_) (fun c_5 => ?_)
    · replace hf := ifT c_5 hf
      refine ww_iconst (v := 3) C dX3_readClause_29 (by decide) ?_
      obtain rfl := Option.some.inj hf
      exact ww_iret C ⟨rfl, rfl⟩ dX3_readClause_30
    · replace hf := ifF c_5 hf
      refine ww_aload_n C dX3_readClause_21 rfl 0 rfl ?_
      refine ww_aload_n C dX3_readClause_22 rfl 1 rfl ?_
      obtain ⟨p23, hp23, hf⟩ := bdE hf
      refine ww_callV C (As := [.ref (a2 0)]) (st := []) (gr := []) (c_X3_readDoor (E := E) (a0 := a0) (a1 := a1) (a2 := a2) hp23) gX3_readClause_X3_readDoor rfl yk_X3_readDoor ⟨by decide, by decide⟩ ⟨by decide, by decide⟩ clOK3 0 0 rfl rfl [0, 1, 2] [] 3 rfl (by decide) rfl rfl (Nat.le_of_ble_eq_true rfl) dX3_readClause_23 ?_
      rintro _ _ ⟨rfl, rfl⟩
      refine ww_perm (gs' := [wHRead E a0 (rf1 (a1 0)), wToks E a1 p23.2.1, wHouse E a2 p23.2.2]) [0, 1, 2] 3 rfl (by decide) rfl ?_
      refine ww_goto (tgt := 30) C dX3_readClause_26 (by decide) ?_
      obtain rfl := Option.some.inj hf
      exact ww_iret C ⟨rfl, rfl⟩ dX3_readClause_30

theorem yk_X3_readClause : yX3_readClause.cls = RX3 ∧ yX3_readClause.cls ≠ "java/lang/invoke/MethodHandle" ∧ yX3_readClause.cls ≠ "java/lang/invoke/VarHandle" ∧ (parseMethodDescriptor yX3_readClause.desc).map (fun d => d.parameters.length) = some 1 := by decide +kernel
abbrev rmX3_readHouse : Room := { frames := 10, cells := 0, slots := 0, locals := 315 }
set_option maxRecDepth 20000 in
theorem in_X3_readHouse_X3 : ∀ w ∈ u_ws RX3 TX3 1, w ∈ wsX3_readHouse := by decide +kernel
set_option maxRecDepth 20000 in
theorem in_X3_readHouse_X7 : ∀ w ∈ u_ws RX7 TX7 7, w ∈ wsX3_readHouse := by decide +kernel
set_option maxHeartbeats 4000000 in
set_option maxRecDepth 100000 in
theorem w_X3_readHouse_63 {E : Ex} {K : Kx} (C : Cx E K cX3_readHouse 4 (some .int) RX3 wsX3_readHouse rmX3_readHouse) {a0 : Nat → Nat} {a1 : Nat → Nat} {a2 : Nat → Nat}   {r : (Int32 × ToksV × HouseV)} : ∀ (n : Nat) (x2 : Int32) (x3 : Int32) (v1 : ToksV) (v2 : HouseV), HRead_readHouse_63 n x2 x3 v1 v2 = some r → WW E K 0 0 (QQ E K (fun rv g => rv = some (.int r.1) ∧ g = [wHRead E a0 (rf1 (a1 0)), wToks E a1 r.2.1, wHouse E a2 r.2.2]) 0 0) 63 [(0, .ref (a0 0)), (1, .ref (a2 0)), (2, .int x2), (3, .int x3)] [] [wHRead E a0 (rf1 (a1 0)), wToks E a1 v1, wHouse E a2 v2] := by
  intro n
  induction n with
  | zero =>
    intro x2 x3 v1 v2 hf
    simp [HRead_readHouse_63] at hf
  | succ n ih =>
    intro x2 x3 v1 v2 hf
    rw [HRead_readHouse_63] at hf
    refine ww_iload_n C dX3_readHouse_63 rfl 3 rfl ?_
    refine ww_sipush (v := 600) C dX3_readHouse_64 (by decide) ?_
    refine ww_icmp_ge (tgt := 96) C dX3_readHouse_67 (by decide) (fun c_3 => ?_) (fun c_3 => ?_)
    · replace hf := ifT c_3 hf
      refine ww_iload_n C dX3_readHouse_96 rfl 2 rfl ?_
      obtain rfl := Option.some.inj hf
      exact ww_iret C ⟨rfl, rfl⟩ dX3_readHouse_97
    · replace hf := ifF c_3 hf
      refine ww_iload_n C dX3_readHouse_70 rfl 2 rfl ?_
      refine ww_if_ne (tgt := 96) C dX3_readHouse_71 (by decide) (fun c_4 => ?_) (fun c_4 => ?_)
      · replace hf := ifF c_4 hf
        refine ww_iload_n C dX3_readHouse_96 rfl 2 rfl ?_
        obtain rfl := Option.some.inj hf
        exact ww_iret C ⟨rfl, rfl⟩ dX3_readHouse_97
      · replace hf := ifT c_4 hf
        refine ww_aload_n C dX3_readHouse_74 rfl 0 rfl ?_
        refine ww_get C clOK3 in_X3_readHouse_X3 (w := wHRead E a0 (rf1 (a1 0))) (fs := fsHRead a0 (rf1 (a1 0))) (v := .ref (a1 0)) 0 0 0 rfl q_HRead (by decide) (by decide +kernel) g_HRead_tokens dX3_readHouse_75 ?_
        obtain ⟨p78, hp78, hf⟩ := bdE hf
        refine ww_callV C (As := []) (st := []) (gr := [wHRead E a0 (rf1 (a1 0)), wHouse E a2 v2]) (c_X7_isEnd (E := E) (a0 := a1) hp78) gX3_readHouse_X7_isEnd rfl yk_X7_isEnd ⟨by decide, by decide⟩ ⟨by decide, by decide⟩ clOK7 0 0 rfl rfl [1] [0, 2] 3 rfl (by decide) rfl rfl (Nat.le_of_ble_eq_true rfl) dX3_readHouse_78 ?_
        rintro _ _ ⟨rfl, rfl⟩
        refine ww_perm (gs' := [wHRead E a0 (rf1 (a1 0)), wToks E a1 v1, wHouse E a2 v2]) [1, 0, 2] 3 rfl (by decide) rfl ?_
        refine ww_if_neB (tgt := 96) C dX3_readHouse_81 (by decide) (fun c_5 => ?_) (fun c_5 => ?_)
        · replace hf := btE c_5 hf
          refine ww_iload_n C dX3_readHouse_96 rfl 2 rfl ?_
          obtain rfl := Option.some.inj hf
          exact ww_iret C ⟨rfl, rfl⟩ dX3_readHouse_97
        · replace hf := bfE c_5 hf
          refine ww_aload_n C dX3_readHouse_84 rfl 0 rfl ?_
          refine ww_aload_n C dX3_readHouse_85 rfl 1 rfl ?_
          obtain ⟨p86, hp86, hf⟩ := bdE hf
          refine ww_callV C (As := [.ref (a2 0)]) (st := []) (gr := []) (c_X3_readClause (E := E) (a0 := a0) (a1 := a1) (a2 := a2) hp86) gX3_readHouse_X3_readClause rfl yk_X3_readClause ⟨by decide, by decide⟩ ⟨by decide, by decide⟩ clOK3 0 0 rfl rfl [0, 1, 2] [] 3 rfl (by decide) rfl rfl (Nat.le_of_ble_eq_true rfl) dX3_readHouse_86 ?_
          rintro _ _ ⟨rfl, rfl⟩
          refine ww_perm (gs' := [wHRead E a0 (rf1 (a1 0)), wToks E a1 p86.2.1, wHouse E a2 p86.2.2]) [0, 1, 2] 3 rfl (by decide) rfl ?_
          refine ww_istore_n (lv' := [(2, .int p86.1), (0, .ref (a0 0)), (1, .ref (a2 0)), (3, .int x3)]) C dX3_readHouse_89 rfl (by decide) rfl ?_
          obtain ⟨x3_90, e_x3_90⟩ : ∃ y : Int32, y = x3 + 1 := ⟨_, rfl⟩
          replace hf := ltE e_x3_90 hf
          refine ww_iinc (v := x3_90) (lv' := [(3, .int x3_90), (2, .int p86.1), (0, .ref (a0 0)), (1, .ref (a2 0))]) C dX3_readHouse_90 3 rfl (by rw [e_x3_90]; rfl) (by decide) rfl ?_
          refine ww_goto (tgt := 63) C dX3_readHouse_93 (by decide) ?_
          refine ww_sub C (lv' := [(0, .ref (a0 0)), (1, .ref (a2 0)), (2, .int p86.1), (3, .int x3_90)]) [2, 3, 1, 0] rfl ?_
          exact ih _ _ _ _ hf

set_option maxHeartbeats 4000000 in
set_option maxRecDepth 100000 in
theorem c_X3_readHouse {E : Ex} {a0 : Nat → Nat} {a1 : Nat → Nat} {a2 : Nat → Nat} {v1 : ToksV} {v2 : HouseV} {r : (Int32 × ToksV × HouseV)} (hf : HRead_readHouse v1 v2 = some r) : Ct E yX3_readHouse wsX3_readHouse rmX3_readHouse [.ref (a0 0), .ref (a2 0)] [wHRead E a0 (rf1 (a1 0)), wToks E a1 v1, wHouse E a2 v2] (fun rv g => rv = some (.int r.1) ∧ g = [wHRead E a0 (rf1 (a1 0)), wToks E a1 r.2.1, wHouse E a2 r.2.2]) := by
  refine ct_of (own := RX3) (by decide +kernel) rfl rfl (Nat.le_of_ble_eq_true rfl) (fun K C => ?_)
  refine ww_sub C (lv' := [(0, .ref (a0 0)), (1, .ref (a2 0))]) [0, 1] rfl ?_
  rw [HRead_readHouse] at hf
  refine ww_aload_n C dX3_readHouse_0 rfl 0 rfl ?_
  refine ww_get C clOK3 in_X3_readHouse_X3 (w := wHRead E a0 (rf1 (a1 0))) (fs := fsHRead a0 (rf1 (a1 0))) (v := .ref (a1 0)) 0 0 0 rfl q_HRead (by decide) (by decide +kernel) g_HRead_tokens dX3_readHouse_1 ?_
  refine ww_ldcS C (i := 9) rfl dX3_readHouse_4 ?_
  obtain ⟨p6, hp6, hf⟩ := bdE hf
  refine ww_callV C (As := [.ref (eK E 9)]) (st := []) (gr := [wHRead E a0 (rf1 (a1 0)), wHouse E a2 v2]) (c_X7_isWord (E := E) (a0 := a1) hp6) gX3_readHouse_X7_isWord rfl yk_X7_isWord ⟨by decide, by decide⟩ ⟨by decide, by decide⟩ clOK7 0 0 rfl rfl [1] [0, 2] 3 rfl (by decide) rfl rfl (Nat.le_of_ble_eq_true rfl) dX3_readHouse_6 ?_
  rintro _ _ ⟨rfl, rfl⟩
  refine ww_perm (gs' := [wHRead E a0 (rf1 (a1 0)), wToks E a1 v1, wHouse E a2 v2]) [1, 0, 2] 3 rfl (by decide) rfl ?_
  refine ww_if_neB (tgt := 14) C dX3_readHouse_9 (by decide) (fun c_1 => ?_) (fun c_1 => ?_)
  · replace hf := btE c_1 hf
    refine ww_aload_n C dX3_readHouse_14 rfl 0 rfl ?_
    refine ww_get C clOK3 in_X3_readHouse_X3 (w := wHRead E a0 (rf1 (a1 0))) (fs := fsHRead a0 (rf1 (a1 0))) (v := .ref (a1 0)) 0 0 0 rfl q_HRead (by decide) (by decide +kernel) g_HRead_tokens dX3_readHouse_15 ?_
    obtain ⟨p18, hp18, hf⟩ := bdE hf
    refine ww_callV C (As := []) (st := []) (gr := [wHRead E a0 (rf1 (a1 0)), wHouse E a2 v2]) (c_X7_advance (E := E) (a0 := a1) hp18) gX3_readHouse_X7_advance rfl yk_X7_advance ⟨by decide, by decide⟩ ⟨by decide, by decide⟩ clOK7 0 0 rfl rfl [1] [0, 2] 3 rfl (by decide) rfl rfl (Nat.le_of_ble_eq_true rfl) dX3_readHouse_18 ?_
    rintro _ _ ⟨rfl, rfl⟩
    refine ww_perm (gs' := [wHRead E a0 (rf1 (a1 0)), wToks E a1 p18, wHouse E a2 v2]) [1, 0, 2] 3 rfl (by decide) rfl ?_
    refine ww_aload_n C dX3_readHouse_21 rfl 0 rfl ?_
    refine ww_get C clOK3 in_X3_readHouse_X3 (w := wHRead E a0 (rf1 (a1 0))) (fs := fsHRead a0 (rf1 (a1 0))) (v := .ref (a1 0)) 0 0 0 rfl q_HRead (by decide) (by decide +kernel) g_HRead_tokens dX3_readHouse_22 ?_
    refine ww_iconst (v := 1) C dX3_readHouse_25 (by decide) ?_
    refine ww_bipush (v := 12) C dX3_readHouse_26 (by decide) ?_
    obtain ⟨p28, hp28, hf⟩ := bdE hf
    refine ww_callV C (As := [.int 1, .int 12]) (st := []) (gr := [wHRead E a0 (rf1 (a1 0)), wHouse E a2 v2]) (c_X7_numberCode (E := E) (a0 := a1) hp28) gX3_readHouse_X7_numberCode rfl yk_X7_numberCode ⟨by decide, by decide⟩ ⟨by decide, by decide⟩ clOK7 0 0 rfl rfl [1] [0, 2] 3 rfl (by decide) rfl rfl (Nat.le_of_ble_eq_true rfl) dX3_readHouse_28 ?_
    rintro _ _ ⟨rfl, rfl⟩
    refine ww_perm (gs' := [wHRead E a0 (rf1 (a1 0)), wToks E a1 p18, wHouse E a2 v2]) [1, 0, 2] 3 rfl (by decide) rfl ?_
    refine ww_istore_n (lv' := [(2, .int p28), (0, .ref (a0 0)), (1, .ref (a2 0))]) C dX3_readHouse_31 rfl (by decide) rfl ?_
    refine ww_iload_n C dX3_readHouse_32 rfl 0 rfl ?_
    refine ww_if_eq (tgt := 38) C dX3_readHouse_33 (by decide) (fun c_2 => ?_) (fun c_2 => ?_)
    · replace hf := ifT c_2 hf
      refine ww_aload_n C dX3_readHouse_38 rfl 2 rfl ?_
      refine ww_aload_n C dX3_readHouse_39 rfl 1 rfl ?_
      refine ww_get C clOK3 in_X3_readHouse_X3 (w := wHRead E a0 (rf1 (a1 0))) (fs := fsHRead a0 (rf1 (a1 0))) (v := .ref (a1 0)) 0 0 0 rfl q_HRead (by decide) (by decide +kernel) g_HRead_tokens dX3_readHouse_40 ?_
      refine ww_get C clOK7 in_X3_readHouse_X7 (w := wToks E a1 p18) (fs := fsToks a1 p18) (v := .int (Toks_number p18)) 1 0 3 rfl q_Toks (by decide) (by decide +kernel) g_Toks_number dX3_readHouse_43 ?_
      obtain ⟨p46, hp46, hf⟩ := bdE hf
      refine ww_callV C (As := [.int (Toks_number p18)]) (st := []) (gr := [wHRead E a0 (rf1 (a1 0)), wToks E a1 p18]) (c_X2_begin (E := E) (a0 := a2) hp46) gX3_readHouse_X2_begin rfl yk_X2_begin ⟨by decide, by decide⟩ ⟨by decide, by decide⟩ clOK2 0 0 rfl rfl [2] [0, 1] 3 rfl (by decide) rfl rfl (Nat.le_of_ble_eq_true rfl) dX3_readHouse_46 ?_
      rintro _ _ ⟨rfl, rfl⟩
      refine ww_perm (gs' := [wHRead E a0 (rf1 (a1 0)), wToks E a1 p18, wHouse E a2 p46]) [1, 2, 0] 3 rfl (by decide) rfl ?_
      refine ww_aload_n C dX3_readHouse_49 rfl 1 rfl ?_
      refine ww_get C clOK3 in_X3_readHouse_X3 (w := wHRead E a0 (rf1 (a1 0))) (fs := fsHRead a0 (rf1 (a1 0))) (v := .ref (a1 0)) 0 0 0 rfl q_HRead (by decide) (by decide +kernel) g_HRead_tokens dX3_readHouse_50 ?_
      obtain ⟨p53, hp53, hf⟩ := bdE hf
      refine ww_callV C (As := []) (st := []) (gr := [wHRead E a0 (rf1 (a1 0)), wHouse E a2 p46]) (c_X7_advance (E := E) (a0 := a1) hp53) gX3_readHouse_X7_advance rfl yk_X7_advance ⟨by decide, by decide⟩ ⟨by decide, by decide⟩ clOK7 0 0 rfl rfl [1] [0, 2] 3 rfl (by decide) rfl rfl (Nat.le_of_ble_eq_true rfl) dX3_readHouse_53 ?_
      rintro _ _ ⟨rfl, rfl⟩
      refine ww_perm (gs' := [wHRead E a0 (rf1 (a1 0)), wToks E a1 p53, wHouse E a2 p46]) [1, 0, 2] 3 rfl (by decide) rfl ?_
      refine ww_aload_n C dX3_readHouse_56 rfl 1 rfl ?_
      obtain ⟨p57, hp57, hf⟩ := bdE hf
      refine ww_callV C (As := []) (st := []) (gr := [wHouse E a2 p46]) (c_X3_readSemicolon (E := E) (a0 := a0) (a1 := a1) hp57) gX3_readHouse_X3_readSemicolon rfl yk_X3_readSemicolon ⟨by decide, by decide⟩ ⟨by decide, by decide⟩ clOK3 0 0 rfl rfl [0, 1] [2] 3 rfl (by decide) rfl rfl (Nat.le_of_ble_eq_true rfl) dX3_readHouse_57 ?_
      rintro _ _ ⟨rfl, rfl⟩
      refine ww_perm (gs' := [wHRead E a0 (rf1 (a1 0)), wToks E a1 p57.2, wHouse E a2 p46]) [0, 1, 2] 3 rfl (by decide) rfl ?_
      refine ww_istore_n (lv' := [(2, .int p57.1), (0, .ref (a0 0)), (1, .ref (a2 0))]) C dX3_readHouse_60 rfl (by decide) rfl ?_
      refine ww_iconst (v := 0) C dX3_readHouse_61 (by decide) ?_
      refine ww_istore_n (lv' := [(3, .int 0), (2, .int p57.1), (0, .ref (a0 0)), (1, .ref (a2 0))]) C dX3_readHouse_62 rfl (by decide) rfl ?_
      refine ww_sub C (lv' := [(0, .ref (a0 0)), (1, .ref (a2 0)), (2, .int p57.1), (3, .int 0)]) [2, 3, 1, 0] rfl ?_
      exact w_X3_readHouse_63 C FU _ _ _ _ hf
    · replace hf := ifF c_2 hf
      refine ww_iload_n C dX3_readHouse_36 rfl 0 rfl ?_
      obtain rfl := Option.some.inj hf
      exact ww_iret C ⟨rfl, rfl⟩ dX3_readHouse_37
  · replace hf := bfE c_1 hf
    refine ww_iconst (v := 1) C dX3_readHouse_12 (by decide) ?_
    obtain rfl := Option.some.inj hf
    exact ww_iret C ⟨rfl, rfl⟩ dX3_readHouse_13

theorem yk_X3_readHouse : yX3_readHouse.cls = RX3 ∧ yX3_readHouse.cls ≠ "java/lang/invoke/MethodHandle" ∧ yX3_readHouse.cls ≠ "java/lang/invoke/VarHandle" ∧ (parseMethodDescriptor yX3_readHouse.desc).map (fun d => d.parameters.length) = some 1 := by decide +kernel
abbrev rmX3_readChange : Room := { frames := 8, cells := 0, slots := 0, locals := 271 }
set_option maxRecDepth 20000 in
theorem in_X3_readChange_X2 : ∀ w ∈ u_ws RX2 TX2 19, w ∈ wsX3_readChange := by decide +kernel
set_option maxRecDepth 20000 in
theorem in_X3_readChange_X3 : ∀ w ∈ u_ws RX3 TX3 1, w ∈ wsX3_readChange := by decide +kernel
set_option maxRecDepth 20000 in
theorem in_X3_readChange_X7 : ∀ w ∈ u_ws RX7 TX7 7, w ∈ wsX3_readChange := by decide +kernel
set_option maxHeartbeats 4000000 in
set_option maxRecDepth 100000 in
theorem c_X3_readChange {E : Ex} {a0 : Nat → Nat} {a1 : Nat → Nat} {a2 : Nat → Nat} {v1 : ToksV} {v2 : HouseV} {r : (Int32 × ToksV × HouseV)} (hf : HRead_readChange v1 v2 = some r) : Ct E yX3_readChange wsX3_readChange rmX3_readChange [.ref (a0 0), .ref (a2 0)] [wHRead E a0 (rf1 (a1 0)), wToks E a1 v1, wHouse E a2 v2] (fun rv g => rv = some (.int r.1) ∧ g = [wHRead E a0 (rf1 (a1 0)), wToks E a1 r.2.1, wHouse E a2 r.2.2]) := by
  refine ct_of (own := RX3) (by decide +kernel) rfl rfl (Nat.le_of_ble_eq_true rfl) (fun K C => ?_)
  refine ww_sub C (lv' := [(0, .ref (a0 0)), (1, .ref (a2 0))]) [0, 1] rfl ?_
  rw [HRead_readChange] at hf
  refine ww_aload_n C dX3_readChange_0 rfl 0 rfl ?_
  refine ww_get C clOK3 in_X3_readChange_X3 (w := wHRead E a0 (rf1 (a1 0))) (fs := fsHRead a0 (rf1 (a1 0))) (v := .ref (a1 0)) 0 0 0 rfl q_HRead (by decide) (by decide +kernel) g_HRead_tokens dX3_readChange_1 ?_
  refine ww_ldcS C (i := 10) rfl dX3_readChange_4 ?_
  obtain ⟨p6, hp6, hf⟩ := bdE hf
  refine ww_callV C (As := [.ref (eK E 10)]) (st := []) (gr := [wHRead E a0 (rf1 (a1 0)), wHouse E a2 v2]) (c_X7_isWord (E := E) (a0 := a1) hp6) gX3_readChange_X7_isWord rfl yk_X7_isWord ⟨by decide, by decide⟩ ⟨by decide, by decide⟩ clOK7 0 0 rfl rfl [1] [0, 2] 3 rfl (by decide) rfl rfl (Nat.le_of_ble_eq_true rfl) dX3_readChange_6 ?_
  rintro _ _ ⟨rfl, rfl⟩
  refine ww_perm (gs' := [wHRead E a0 (rf1 (a1 0)), wToks E a1 v1, wHouse E a2 v2]) [1, 0, 2] 3 rfl (by decide) rfl ?_
  refine ww_if_neB (tgt := 14) C dX3_readChange_9 (by decide) (fun c_1 => ?_) (fun c_1 => ?_)
  · replace hf := btE c_1 hf
    refine ww_aload_n C dX3_readChange_14 rfl 0 rfl ?_
    refine ww_get C clOK3 in_X3_readChange_X3 (w := wHRead E a0 (rf1 (a1 0))) (fs := fsHRead a0 (rf1 (a1 0))) (v := .ref (a1 0)) 0 0 0 rfl q_HRead (by decide) (by decide +kernel) g_HRead_tokens dX3_readChange_15 ?_
    obtain ⟨p18, hp18, hf⟩ := bdE hf
    refine ww_callV C (As := []) (st := []) (gr := [wHRead E a0 (rf1 (a1 0)), wHouse E a2 v2]) (c_X7_advance (E := E) (a0 := a1) hp18) gX3_readChange_X7_advance rfl yk_X7_advance ⟨by decide, by decide⟩ ⟨by decide, by decide⟩ clOK7 0 0 rfl rfl [1] [0, 2] 3 rfl (by decide) rfl rfl (Nat.le_of_ble_eq_true rfl) dX3_readChange_18 ?_
    rintro _ _ ⟨rfl, rfl⟩
    refine ww_perm (gs' := [wHRead E a0 (rf1 (a1 0)), wToks E a1 p18, wHouse E a2 v2]) [1, 0, 2] 3 rfl (by decide) rfl ?_
    refine ww_aload_n C dX3_readChange_21 rfl 0 rfl ?_
    refine ww_get C clOK3 in_X3_readChange_X3 (w := wHRead E a0 (rf1 (a1 0))) (fs := fsHRead a0 (rf1 (a1 0))) (v := .ref (a1 0)) 0 0 0 rfl q_HRead (by decide) (by decide +kernel) g_HRead_tokens dX3_readChange_22 ?_
    refine ww_iconst (v := 0) C dX3_readChange_25 (by decide) ?_
    refine ww_aload_n C dX3_readChange_26 rfl 1 rfl ?_
    refine ww_get C clOK2 in_X3_readChange_X2 (w := wHouse E a2 v2) (fs := fsHouse a2 v2) (v := .int (House_guards v2)) 2 0 2 rfl q_House (by decide) (by decide +kernel) g_House_guards dX3_readChange_27 ?_
    refine ww_iconst (v := 1) C dX3_readChange_30 (by decide) ?_
    refine ww_isub C dX3_readChange_31 ?_
    obtain ⟨p32, hp32, hf⟩ := bdE hf
    refine ww_callV C (As := [.int 0, .int ((House_guards v2) - 1)]) (st := []) (gr := [wHRead E a0 (rf1 (a1 0)), wHouse E a2 v2]) (c_X7_numberCode (E := E) (a0 := a1) hp32) gX3_readChange_X7_numberCode rfl yk_X7_numberCode ⟨by decide, by decide⟩ ⟨by decide, by decide⟩ clOK7 0 0 rfl rfl [1] [0, 2] 3 rfl (by decide) rfl rfl (Nat.le_of_ble_eq_true rfl) dX3_readChange_32 ?_
    rintro _ _ ⟨rfl, rfl⟩
    refine ww_perm (gs' := [wHRead E a0 (rf1 (a1 0)), wToks E a1 p18, wHouse E a2 v2]) [1, 0, 2] 3 rfl (by decide) rfl ?_
    refine ww_istore_n (lv' := [(2, .int p32), (0, .ref (a0 0)), (1, .ref (a2 0))]) C dX3_readChange_35 rfl (by decide) rfl ?_
    refine ww_iload_n C dX3_readChange_36 rfl 0 rfl ?_
    refine ww_if_eq (tgt := 42) C dX3_readChange_37 (by decide) (fun c_2 => ?_) (fun c_2 => ?_)
    · replace hf := ifT c_2 hf
      refine ww_aload_n C dX3_readChange_42 rfl 1 rfl ?_
      refine ww_get C clOK3 in_X3_readChange_X3 (w := wHRead E a0 (rf1 (a1 0))) (fs := fsHRead a0 (rf1 (a1 0))) (v := .ref (a1 0)) 0 0 0 rfl q_HRead (by decide) (by decide +kernel) g_HRead_tokens dX3_readChange_43 ?_
      refine ww_get C clOK7 in_X3_readChange_X7 (w := wToks E a1 p18) (fs := fsToks a1 p18) (v := .int (Toks_number p18)) 1 0 3 rfl q_Toks (by decide) (by decide +kernel) g_Toks_number dX3_readChange_46 ?_
      refine ww_topi (fun x3_49 e_x3_49 => ?_)
      replace hf := ltE e_x3_49 hf
      refine ww_istore_n (lv' := [(3, .int x3_49), (2, .int p32), (0, .ref (a0 0)), (1, .ref (a2 0))]) C dX3_readChange_49 rfl (by decide) rfl ?_
      refine ww_aload_n C dX3_readChange_50 rfl 2 rfl ?_
      refine ww_get C clOK3 in_X3_readChange_X3 (w := wHRead E a0 (rf1 (a1 0))) (fs := fsHRead a0 (rf1 (a1 0))) (v := .ref (a1 0)) 0 0 0 rfl q_HRead (by decide) (by decide +kernel) g_HRead_tokens dX3_readChange_51 ?_
      obtain ⟨p54, hp54, hf⟩ := bdE hf
      refine ww_callV C (As := []) (st := []) (gr := [wHRead E a0 (rf1 (a1 0)), wHouse E a2 v2]) (c_X7_advance (E := E) (a0 := a1) hp54) gX3_readChange_X7_advance rfl yk_X7_advance ⟨by decide, by decide⟩ ⟨by decide, by decide⟩ clOK7 0 0 rfl rfl [1] [0, 2] 3 rfl (by decide) rfl rfl (Nat.le_of_ble_eq_true rfl) dX3_readChange_54 ?_
      rintro _ _ ⟨rfl, rfl⟩
      refine ww_perm (gs' := [wHRead E a0 (rf1 (a1 0)), wToks E a1 p54, wHouse E a2 v2]) [1, 0, 2] 3 rfl (by decide) rfl ?_
      refine ww_aload_n C dX3_readChange_57 rfl 2 rfl ?_
      refine ww_aload_n C dX3_readChange_58 rfl 3 rfl ?_
      refine ww_iload_n C dX3_readChange_59 rfl 0 rfl ?_
      refine ww_iconst (v := 1) C dX3_readChange_60 (by decide) ?_
      obtain ⟨p61, hp61, hf⟩ := bdE hf
      refine ww_callV C (As := [.ref (a2 0), .int x3_49, .int (b2i true)]) (st := []) (gr := []) (c_X3_readWalk (E := E) (a0 := a0) (a1 := a1) (a2 := a2) hp61) gX3_readChange_X3_readWalk rfl yk_X3_readWalk ⟨by decide, by decide⟩ ⟨by decide, by decide⟩ clOK3 0 0 rfl rfl [0, 1, 2] [] 3 rfl (by decide) rfl rfl (Nat.le_of_ble_eq_true rfl) dX3_readChange_61 ?_
      rintro _ _ ⟨rfl, rfl⟩
      refine ww_perm (gs' := [wHRead E a0 (rf1 (a1 0)), wToks E a1 p61.2.1, wHouse E a2 p61.2.2]) [0, 1, 2] 3 rfl (by decide) rfl ?_
      refine ww_istore_n (lv' := [(2, .int p61.1), (3, .int x3_49), (0, .ref (a0 0)), (1, .ref (a2 0))]) C dX3_readChange_64 rfl (by decide) rfl ?_
      refine ww_iload_n C dX3_readChange_65 rfl 0 rfl ?_
      refine ww_if_eq (tgt := 71) C dX3_readChange_66 (by decide) (fun c_4 => ?_) (fun c_4 => ?_)
      · replace hf := ifT c_4 hf
        refine ww_aload_n C dX3_readChange_71 rfl 2 rfl ?_
        refine ww_get C clOK3 in_X3_readChange_X3 (w := wHRead E a0 (rf1 (a1 0))) (fs := fsHRead a0 (rf1 (a1 0))) (v := .ref (a1 0)) 0 0 0 rfl q_HRead (by decide) (by decide +kernel) g_HRead_tokens dX3_readChange_72 ?_
        obtain ⟨p75, hp75, hf⟩ := bdE hf
        refine ww_callV C (As := []) (st := []) (gr := [wHRead E a0 (rf1 (a1 0)), wHouse E a2 p61.2.2]) (c_X7_isEnd (E := E) (a0 := a1) hp75) gX3_readChange_X7_isEnd rfl yk_X7_isEnd ⟨by decide, by decide⟩ ⟨by decide, by decide⟩ clOK7 0 0 rfl rfl [1] [0, 2] 3 rfl (by decide) rfl rfl (Nat.le_of_ble_eq_true rfl) dX3_readChange_75 ?_
        rintro _ _ ⟨rfl, rfl⟩
        refine ww_perm (gs' := [wHRead E a0 (rf1 (a1 0)), wToks E a1 p61.2.1, wHouse E a2 p61.2.2]) [1, 0, 2] 3 rfl (by decide) rfl ?_
        refine ww_if_eqB (tgt := 85) C dX3_readChange_78 (by decide) (fun c_5 => ?_) (fun c_5 => ?_)
        · replace hf := bfE c_5 hf
          refine ww_iconst (v := 1) C dX3_readChange_85 (by decide) ?_
          obtain rfl := Option.some.inj hf
          exact ww_iret C ⟨rfl, rfl⟩ dX3_readChange_86
        · replace hf := btE c_5 hf
          refine ww_iconst (v := 0) C dX3_readChange_81 (by decide) ?_
          refine ww_goto (tgt := 86) C dX3_readChange_82 (by decide) ?_
          obtain rfl := Option.some.inj hf
          exact ww_iret C ⟨rfl, rfl⟩ dX3_readChange_86
      · replace hf := ifF c_4 hf
        refine ww_iload_n C dX3_readChange_69 rfl 0 rfl ?_
        obtain rfl := Option.some.inj hf
        exact ww_iret C ⟨rfl, rfl⟩ dX3_readChange_70
    · replace hf := ifF c_2 hf
      refine ww_iload_n C dX3_readChange_40 rfl 0 rfl ?_
      obtain rfl := Option.some.inj hf
      exact ww_iret C ⟨rfl, rfl⟩ dX3_readChange_41
  · replace hf := bfE c_1 hf
    refine ww_iconst (v := 1) C dX3_readChange_12 (by decide) ?_
    obtain rfl := Option.some.inj hf
    exact ww_iret C ⟨rfl, rfl⟩ dX3_readChange_13

theorem yk_X3_readChange : yX3_readChange.cls = RX3 ∧ yX3_readChange.cls ≠ "java/lang/invoke/MethodHandle" ∧ yX3_readChange.cls ≠ "java/lang/invoke/VarHandle" ∧ (parseMethodDescriptor yX3_readChange.desc).map (fun d => d.parameters.length) = some 1 := by decide +kernel
