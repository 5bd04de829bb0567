abbrev rmX2_hasRoom : Room := { frames := 0, cells := 0, slots := 0, locals := 0 }
set_option maxRecDepth 20000 in
theorem in_X2_hasRoom_X2 : ∀ w ∈ u_ws RX2 TX2 19, w ∈ wsX2_hasRoom := by decide +kernel
set_option maxHeartbeats 4000000 in
set_option maxRecDepth 100000 in
theorem c_X2_hasRoom {E : Ex} {a0 : Nat → Nat} {x1 : Int32} {v0 : HouseV} {r : Bool} (hf : House_hasRoom x1 v0 = some r) : Ct E yX2_hasRoom wsX2_hasRoom rmX2_hasRoom [.ref (a0 0), .int x1] [wHouse E a0 v0] (fun rv g => rv = some (.int (b2i r)) ∧ g = [wHouse E a0 v0]) := by
  refine ct_of (own := RX2) (by decide +kernel) rfl rfl (Nat.le_of_ble_eq_true rfl) (fun K C => ?_)
  refine ww_sub C (lv' := [(0, .ref (a0 0)), (1, .int x1)]) [0, 1] rfl ?_
  rw [House_hasRoom] at hf
  refine ww_iload_n C dX2_hasRoom_0 rfl 1 rfl ?_
  refine ww_if_lt (tgt := 22) C dX2_hasRoom_1 (by decide) (fun c_1 => ?_) (fun c_1 => ?_)
  · replace hf := ifT c_1 hf
    refine ww_iconst (v := 0) C dX2_hasRoom_22 (by decide) ?_
    obtain rfl := Option.some.inj hf
    exact ww_zret C (nar_b false) ⟨rfl, rfl⟩ dX2_hasRoom_23
  · replace hf := ifF c_1 hf
    refine ww_iload_n C dX2_hasRoom_4 rfl 1 rfl ?_
    refine ww_aload_n C dX2_hasRoom_5 rfl 0 rfl ?_
    refine ww_get C clOK2 in_X2_hasRoom_X2 (w := wHouse E a0 v0) (fs := fsHouse a0 v0) (v := .int (House_rooms v0)) 0 0 0 rfl q_House (by decide) (by decide +kernel) g_House_rooms dX2_hasRoom_6 ?_
    refine ww_icmp_ge (tgt := 22) C dX2_hasRoom_9 (by decide) (fun c_2 => ?_) (fun c_2 => ?_)
    · replace hf := ifT c_2 hf
      refine ww_iconst (v := 0) C dX2_hasRoom_22 (by decide) ?_
      obtain rfl := Option.some.inj hf
      exact ww_zret C (nar_b false) ⟨rfl, rfl⟩ dX2_hasRoom_23
    · replace hf := ifF c_2 hf
      refine ww_iload_n C dX2_hasRoom_12 rfl 1 rfl ?_
      refine ww_bipush (v := 12) C dX2_hasRoom_13 (by decide) ?_
      refine ww_icmp_ge (tgt := 22) C dX2_hasRoom_15 (by decide) (fun c_3 => ?_) (fun c_3 => ?_)
      · replace hf := ifT c_3 hf
        refine ww_iconst (v := 0) C dX2_hasRoom_22 (by decide) ?_
        obtain rfl := Option.some.inj hf
        exact ww_zret C (nar_b false) ⟨rfl, rfl⟩ dX2_hasRoom_23
      · replace hf := ifF c_3 hf
        refine ww_iconst (v := 1) C dX2_hasRoom_18 (by decide) ?_
        refine ww_goto (tgt := 23) C dX2_hasRoom_19 (by decide) ?_
        obtain rfl := Option.some.inj hf
        exact ww_zret C (nar_b true) ⟨rfl, rfl⟩ dX2_hasRoom_23

theorem yk_X2_hasRoom : yX2_hasRoom.cls = RX2 ∧ yX2_hasRoom.cls ≠ "java/lang/invoke/MethodHandle" ∧ yX2_hasRoom.cls ≠ "java/lang/invoke/VarHandle" ∧ (parseMethodDescriptor yX2_hasRoom.desc).map (fun d => d.parameters.length) = some 1 := by decide +kernel
abbrev rmX2_hasDoor : Room := { frames := 0, cells := 0, slots := 0, locals := 0 }
set_option maxRecDepth 20000 in
theorem in_X2_hasDoor_X2 : ∀ w ∈ u_ws RX2 TX2 19, w ∈ wsX2_hasDoor := by decide +kernel
set_option maxHeartbeats 4000000 in
set_option maxRecDepth 100000 in
theorem c_X2_hasDoor {E : Ex} {a0 : Nat → Nat} {x1 : Int32} {v0 : HouseV} {r : Bool} (hf : House_hasDoor x1 v0 = some r) : Ct E yX2_hasDoor wsX2_hasDoor rmX2_hasDoor [.ref (a0 0), .int x1] [wHouse E a0 v0] (fun rv g => rv = some (.int (b2i r)) ∧ g = [wHouse E a0 v0]) := by
  refine ct_of (own := RX2) (by decide +kernel) rfl rfl (Nat.le_of_ble_eq_true rfl) (fun K C => ?_)
  refine ww_sub C (lv' := [(0, .ref (a0 0)), (1, .int x1)]) [0, 1] rfl ?_
  rw [House_hasDoor] at hf
  refine ww_iload_n C dX2_hasDoor_0 rfl 1 rfl ?_
  refine ww_if_lt (tgt := 22) C dX2_hasDoor_1 (by decide) (fun c_1 => ?_) (fun c_1 => ?_)
  · replace hf := ifT c_1 hf
    refine ww_iconst (v := 0) C dX2_hasDoor_22 (by decide) ?_
    obtain rfl := Option.some.inj hf
    exact ww_zret C (nar_b false) ⟨rfl, rfl⟩ dX2_hasDoor_23
  · replace hf := ifF c_1 hf
    refine ww_iload_n C dX2_hasDoor_4 rfl 1 rfl ?_
    refine ww_aload_n C dX2_hasDoor_5 rfl 0 rfl ?_
    refine ww_get C clOK2 in_X2_hasDoor_X2 (w := wHouse E a0 v0) (fs := fsHouse a0 v0) (v := .int (House_doors v0)) 0 0 1 rfl q_House (by decide) (by decide +kernel) g_House_doors dX2_hasDoor_6 ?_
    refine ww_icmp_ge (tgt := 22) C dX2_hasDoor_9 (by decide) (fun c_2 => ?_) (fun c_2 => ?_)
    · replace hf := ifT c_2 hf
      refine ww_iconst (v := 0) C dX2_hasDoor_22 (by decide) ?_
      obtain rfl := Option.some.inj hf
      exact ww_zret C (nar_b false) ⟨rfl, rfl⟩ dX2_hasDoor_23
    · replace hf := ifF c_2 hf
      refine ww_iload_n C dX2_hasDoor_12 rfl 1 rfl ?_
      refine ww_bipush (v := 20) C dX2_hasDoor_13 (by decide) ?_
      refine ww_icmp_ge (tgt := 22) C dX2_hasDoor_15 (by decide) (fun c_3 => ?_) (fun c_3 => ?_)
      · replace hf := ifT c_3 hf
        refine ww_iconst (v := 0) C dX2_hasDoor_22 (by decide) ?_
        obtain rfl := Option.some.inj hf
        exact ww_zret C (nar_b false) ⟨rfl, rfl⟩ dX2_hasDoor_23
      · replace hf := ifF c_3 hf
        refine ww_iconst (v := 1) C dX2_hasDoor_18 (by decide) ?_
        refine ww_goto (tgt := 23) C dX2_hasDoor_19 (by decide) ?_
        obtain rfl := Option.some.inj hf
        exact ww_zret C (nar_b true) ⟨rfl, rfl⟩ dX2_hasDoor_23

theorem yk_X2_hasDoor : yX2_hasDoor.cls = RX2 ∧ yX2_hasDoor.cls ≠ "java/lang/invoke/MethodHandle" ∧ yX2_hasDoor.cls ≠ "java/lang/invoke/VarHandle" ∧ (parseMethodDescriptor yX2_hasDoor.desc).map (fun d => d.parameters.length) = some 1 := by decide +kernel
abbrev rmX2_hasGuard : Room := { frames := 0, cells := 0, slots := 0, locals := 0 }
set_option maxRecDepth 20000 in
theorem in_X2_hasGuard_X2 : ∀ w ∈ u_ws RX2 TX2 19, w ∈ wsX2_hasGuard := by decide +kernel
set_option maxHeartbeats 4000000 in
set_option maxRecDepth 100000 in
theorem c_X2_hasGuard {E : Ex} {a0 : Nat → Nat} {x1 : Int32} {v0 : HouseV} {r : Bool} (hf : House_hasGuard x1 v0 = some r) : Ct E yX2_hasGuard wsX2_hasGuard rmX2_hasGuard [.ref (a0 0), .int x1] [wHouse E a0 v0] (fun rv g => rv = some (.int (b2i r)) ∧ g = [wHouse E a0 v0]) := by
  refine ct_of (own := RX2) (by decide +kernel) rfl rfl (Nat.le_of_ble_eq_true rfl) (fun K C => ?_)
  refine ww_sub C (lv' := [(0, .ref (a0 0)), (1, .int x1)]) [0, 1] rfl ?_
  rw [House_hasGuard] at hf
  refine ww_iload_n C dX2_hasGuard_0 rfl 1 rfl ?_
  refine ww_if_lt (tgt := 21) C dX2_hasGuard_1 (by decide) (fun c_1 => ?_) (fun c_1 => ?_)
  · replace hf := ifT c_1 hf
    refine ww_iconst (v := 0) C dX2_hasGuard_21 (by decide) ?_
    obtain rfl := Option.some.inj hf
    exact ww_zret C (nar_b false) ⟨rfl, rfl⟩ dX2_hasGuard_22
  · replace hf := ifF c_1 hf
    refine ww_iload_n C dX2_hasGuard_4 rfl 1 rfl ?_
    refine ww_aload_n C dX2_hasGuard_5 rfl 0 rfl ?_
    refine ww_get C clOK2 in_X2_hasGuard_X2 (w := wHouse E a0 v0) (fs := fsHouse a0 v0) (v := .int (House_guards v0)) 0 0 2 rfl q_House (by decide) (by decide +kernel) g_House_guards dX2_hasGuard_6 ?_
    refine ww_icmp_ge (tgt := 21) C dX2_hasGuard_9 (by decide) (fun c_2 => ?_) (fun c_2 => ?_)
    · replace hf := ifT c_2 hf
      refine ww_iconst (v := 0) C dX2_hasGuard_21 (by decide) ?_
      obtain rfl := Option.some.inj hf
      exact ww_zret C (nar_b false) ⟨rfl, rfl⟩ dX2_hasGuard_22
    · replace hf := ifF c_2 hf
      refine ww_iload_n C dX2_hasGuard_12 rfl 1 rfl ?_
      refine ww_iconst (v := 4) C dX2_hasGuard_13 (by decide) ?_
      refine ww_icmp_ge (tgt := 21) C dX2_hasGuard_14 (by decide) (fun c_3 => ?_) (fun c_3 => ?_)
      · replace hf := ifT c_3 hf
        refine ww_iconst (v := 0) C dX2_hasGuard_21 (by decide) ?_
        obtain rfl := Option.some.inj hf
        exact ww_zret C (nar_b false) ⟨rfl, rfl⟩ dX2_hasGuard_22
      · replace hf := ifF c_3 hf
        refine ww_iconst (v := 1) C dX2_hasGuard_17 (by decide) ?_
        refine ww_goto (tgt := 22) C dX2_hasGuard_18 (by decide) ?_
        obtain rfl := Option.some.inj hf
        exact ww_zret C (nar_b true) ⟨rfl, rfl⟩ dX2_hasGuard_22

theorem yk_X2_hasGuard : yX2_hasGuard.cls = RX2 ∧ yX2_hasGuard.cls ≠ "java/lang/invoke/MethodHandle" ∧ yX2_hasGuard.cls ≠ "java/lang/invoke/VarHandle" ∧ (parseMethodDescriptor yX2_hasGuard.desc).map (fun d => d.parameters.length) = some 1 := by decide +kernel
abbrev rmX2_isOpen : Room := { frames := 1, cells := 0, slots := 0, locals := 21 }
set_option maxRecDepth 20000 in
theorem in_X2_isOpen_X2 : ∀ w ∈ u_ws RX2 TX2 19, w ∈ wsX2_isOpen := by decide +kernel
set_option maxHeartbeats 4000000 in
set_option maxRecDepth 100000 in
theorem c_X2_isOpen {E : Ex} {a0 : Nat → Nat} {x1 : Int32} {v0 : HouseV} {r : Bool} (hf : House_isOpen x1 v0 = some r) : Ct E yX2_isOpen wsX2_isOpen rmX2_isOpen [.ref (a0 0), .int x1] [wHouse E a0 v0] (fun rv g => rv = some (.int (b2i r)) ∧ g = [wHouse E a0 v0]) := by
  refine ct_of (own := RX2) (by decide +kernel) rfl rfl (Nat.le_of_ble_eq_true rfl) (fun K C => ?_)
  refine ww_sub C (lv' := [(0, .ref (a0 0)), (1, .int x1)]) [0, 1] rfl ?_
  rw [House_isOpen] at hf
  refine ww_aload_n C dX2_isOpen_0 rfl 0 rfl ?_
  refine ww_get C clOK2 in_X2_isOpen_X2 (w := wHouse E a0 v0) (fs := fsHouse a0 v0) (v := .int (House_openDoors v0)) 0 0 4 rfl q_House (by decide) (by decide +kernel) g_House_openDoors dX2_isOpen_1 ?_
  refine ww_iload_n C dX2_isOpen_4 rfl 1 rfl ?_
  obtain ⟨p5, hp5, hf⟩ := bdE hf
  refine ww_callSN C (As := [.int (House_openDoors v0), .int x1]) (st := []) (gr := [wHouse E a0 v0]) (host := RX8) (c_X8_has (E := E)  hp5) gX2_isOpen_X8_has_n86 rfl (by decide +kernel) (by decide +kernel) (by decide +kernel) ysk_X8_has ⟨by decide, by decide⟩ ⟨by decide, by decide⟩ [] [0] 1 rfl (by decide) rfl rfl (Nat.le_of_ble_eq_true rfl) dX2_isOpen_5 ?_
  rintro _ _ ⟨rfl, rfl⟩
  refine ww_perm (gs' := [wHouse E a0 v0]) [0] 1 rfl (by decide) rfl ?_
  obtain rfl := Option.some.inj hf
  exact ww_zret C (nar_b p5) ⟨rfl, rfl⟩ dX2_isOpen_8

theorem yk_X2_isOpen : yX2_isOpen.cls = RX2 ∧ yX2_isOpen.cls ≠ "java/lang/invoke/MethodHandle" ∧ yX2_isOpen.cls ≠ "java/lang/invoke/VarHandle" ∧ (parseMethodDescriptor yX2_isOpen.desc).map (fun d => d.parameters.length) = some 1 := by decide +kernel
abbrev rmX2_join : Room := { frames := 1, cells := 0, slots := 0, locals := 21 }
set_option maxRecDepth 20000 in
theorem in_X2_join_X2 : ∀ w ∈ u_ws RX2 TX2 19, w ∈ wsX2_join := by decide +kernel
set_option maxHeartbeats 4000000 in
set_option maxRecDepth 100000 in
theorem c_X2_join {E : Ex} {a0 : Nat → Nat} {x1 : Int32} {x2 : Int32} {v0 : HouseV} {r : HouseV} (hf : House_join x1 x2 v0 = some r) : Ct E yX2_join wsX2_join rmX2_join [.ref (a0 0), .int x1, .int x2] [wHouse E a0 v0] (fun rv g => rv = none ∧ g = [wHouse E a0 r]) := by
  refine ct_of (own := RX2) (by decide +kernel) rfl rfl (Nat.le_of_ble_eq_true rfl) (fun K C => ?_)
  refine ww_sub C (lv' := [(0, .ref (a0 0)), (1, .int x1), (2, .int x2)]) [0, 1, 2] rfl ?_
  rw [House_join] at hf
  refine ww_aload_n C dX2_join_0 rfl 0 rfl ?_
  refine ww_iload_n C dX2_join_1 rfl 1 rfl ?_
  obtain ⟨p2, hp2, hf⟩ := bdE hf
  refine ww_callV C (As := [.int x1]) (st := []) (gr := []) (c_X2_hasRoom (E := E) (a0 := a0) hp2) gX2_join_X2_hasRoom rfl yk_X2_hasRoom ⟨by decide, by decide⟩ ⟨by decide, by decide⟩ clOK2 0 0 rfl rfl [0] [] 1 rfl (by decide) rfl rfl (Nat.le_of_ble_eq_true rfl) dX2_join_2 ?_
  rintro _ _ ⟨rfl, rfl⟩
  refine ww_perm (gs' := [wHouse E a0 v0]) [0] 1 rfl (by decide) rfl ?_
  refine ww_if_eqB (tgt := 20) C dX2_join_5 (by decide) (fun c_1 => ?_) (fun c_1 => ?_)
  · replace hf := bfE c_1 hf
    obtain rfl := Option.some.inj hf
    exact ww_vret C ⟨rfl, rfl⟩ dX2_join_20
  · replace hf := btE c_1 hf
    refine ww_aload_n C dX2_join_8 rfl 0 rfl ?_
    refine ww_get C clOK2 in_X2_join_X2 (w := wHouse E a0 v0) (fs := fsHouse a0 v0) (v := .ref (a0 3)) 0 0 9 rfl q_House (by decide) (by decide +kernel) g_House_joined dX2_join_9 ?_
    refine ww_iload_n C dX2_join_12 rfl 1 rfl ?_
    refine ww_dup2 C dX2_join_13 rfl rfl ?_
    obtain ⟨g_2, hf⟩ := gdE hf
    refine ww_iald C (f := House_joined v0) (w := wHouse E a0 v0) 0 3 rfl c_House_joined (inB_vp g_2) dX2_join_14 ?_
    refine ww_iconst (v := 1) C dX2_join_15 (by decide) ?_
    refine ww_iload_n C dX2_join_16 rfl 2 rfl ?_
    refine ww_ishl C dX2_join_17 ?_
    refine ww_ior C dX2_join_18 ?_
    obtain ⟨v0_19, e_v0_19⟩ : ∃ y : HouseV, y = House_set_joined v0 (upd (House_joined v0) (Int32.toNatClampNeg x1) (((House_joined v0) (Int32.toNatClampNeg x1)) ||| (1 <<< (x2 &&& 31)))) := ⟨_, rfl⟩
    replace hf := ltE e_v0_19 hf
    refine ww_iast C (f := House_joined v0) (w := wHouse E a0 v0) (w' := wHouse E a0 v0_19) (gs' := [wHouse E a0 v0_19]) 0 3 rfl c_House_joined (inB_vp g_2) (by rw [e_v0_19]; exact s_House_joined) rfl dX2_join_19 ?_
    obtain rfl := Option.some.inj hf
    exact ww_vret C ⟨rfl, rfl⟩ dX2_join_20

theorem yk_X2_join : yX2_join.cls = RX2 ∧ yX2_join.cls ≠ "java/lang/invoke/MethodHandle" ∧ yX2_join.cls ≠ "java/lang/invoke/VarHandle" ∧ (parseMethodDescriptor yX2_join.desc).map (fun d => d.parameters.length) = some 2 := by decide +kernel
abbrev rmX2_setOpen : Room := { frames := 2, cells := 0, slots := 0, locals := 43 }
set_option maxRecDepth 20000 in
theorem in_X2_setOpen_X2 : ∀ w ∈ u_ws RX2 TX2 19, w ∈ wsX2_setOpen := by decide +kernel
set_option maxHeartbeats 4000000 in
set_option maxRecDepth 100000 in
theorem w_X2_setOpen_39 {E : Ex} {K : Kx} (C : Cx E K cX2_setOpen 4 none RX2 wsX2_setOpen rmX2_setOpen) {a0 : Nat → Nat} {x1 : Int32} {x2 : Bool}  {r : HouseV} : ∀ (n : Nat) (x3 : Int32) (v0 : HouseV), House_setOpen_39 x1 x2 n x3 v0 = some r → WW E K 0 0 (QQ E K (fun rv g => rv = none ∧ g = [wHouse E a0 r]) 0 0) 39 [(0, .ref (a0 0)), (3, .int x3)] [] [wHouse E a0 v0] := by
  intro n
  induction n with
  | zero =>
    intro x3 v0 hf
    simp [House_setOpen_39] at hf
  | succ n ih =>
    intro x3 v0 hf
    rw [House_setOpen_39] at hf
    refine ww_iload_n C dX2_setOpen_39 rfl 1 rfl ?_
    refine ww_aload_n C dX2_setOpen_40 rfl 0 rfl ?_
    refine ww_get C clOK2 in_X2_setOpen_X2 (w := wHouse E a0 v0) (fs := fsHouse a0 v0) (v := .int (House_doors v0)) 0 0 1 rfl q_House (by decide) (by decide +kernel) g_House_doors dX2_setOpen_41 ?_
    refine ww_icmp_ge (tgt := 99) C dX2_setOpen_44 (by decide) (fun c_2 => ?_) (fun c_2 => ?_)
    · replace hf := ifT c_2 hf
      obtain rfl := Option.some.inj hf
      exact ww_vret C ⟨rfl, rfl⟩ dX2_setOpen_99
    · replace hf := ifF c_2 hf
      refine ww_iload_n C dX2_setOpen_47 rfl 1 rfl ?_
      refine ww_bipush (v := 20) C dX2_setOpen_48 (by decide) ?_
      refine ww_icmp_ge (tgt := 99) C dX2_setOpen_50 (by decide) (fun c_3 => ?_) (fun c_3 => ?_)
      · replace hf := ifT c_3 hf
        obtain rfl := Option.some.inj hf
        exact ww_vret C ⟨rfl, rfl⟩ dX2_setOpen_99
      · replace hf := ifF c_3 hf
        refine ww_aload_n C dX2_setOpen_53 rfl 0 rfl ?_
        refine ww_iload_n C dX2_setOpen_54 rfl 1 rfl ?_
        obtain ⟨p55, hp55, hf⟩ := bdE hf
        refine ww_callV C (As := [.int x3]) (st := []) (gr := []) (c_X2_isOpen (E := E) (a0 := a0) hp55) gX2_setOpen_X2_isOpen rfl yk_X2_isOpen ⟨by decide, by decide⟩ ⟨by decide, by decide⟩ clOK2 0 0 rfl rfl [0] [] 1 rfl (by decide) rfl rfl (Nat.le_of_ble_eq_true rfl) dX2_setOpen_55 ?_
        rintro _ _ ⟨rfl, rfl⟩
        refine ww_perm (gs' := [wHouse E a0 v0]) [0] 1 rfl (by decide) rfl ?_
        refine ww_if_eqB (tgt := 93) C dX2_setOpen_58 (by decide) (fun c_4 => ?_) (fun c_4 => ?_)
        · replace hf := bfE c_4 hf
          obtain ⟨x3_93, e_x3_93⟩ : ∃ y : Int32, y = x3 + 1 := ⟨_, rfl⟩
          replace hf := ltE e_x3_93 hf
          refine ww_iinc (v := x3_93) (lv' := [(3, .int x3_93), (0, .ref (a0 0))]) C dX2_setOpen_93 1 rfl (by rw [e_x3_93]; rfl) (by decide) rfl ?_
          refine ww_goto (tgt := 39) C dX2_setOpen_96 (by decide) ?_
          refine ww_sub C (lv' := [(0, .ref (a0 0)), (3, .int x3_93)]) [1, 0] rfl ?_
          exact ih _ _ hf
        · replace hf := btE c_4 hf
          refine ww_aload_n C dX2_setOpen_61 rfl 0 rfl ?_
          refine ww_aload_n C dX2_setOpen_62 rfl 0 rfl ?_
          refine ww_get C clOK2 in_X2_setOpen_X2 (w := wHouse E a0 v0) (fs := fsHouse a0 v0) (v := .ref (a0 1)) 0 0 7 rfl q_House (by decide) (by decide +kernel) g_House_doorFirst dX2_setOpen_63 ?_
          refine ww_iload_n C dX2_setOpen_66 rfl 1 rfl ?_
          obtain ⟨g_5, hf⟩ := gdE hf
          refine ww_iald C (f := House_doorFirst v0) (w := wHouse E a0 v0) 0 1 rfl c_House_doorFirst (inB_vp g_5) dX2_setOpen_67 ?_
          refine ww_aload_n C dX2_setOpen_68 rfl 0 rfl ?_
          refine ww_get C clOK2 in_X2_setOpen_X2 (w := wHouse E a0 v0) (fs := fsHouse a0 v0) (v := .ref (a0 2)) 0 0 8 rfl q_House (by decide) (by decide +kernel) g_House_doorSecond dX2_setOpen_69 ?_
          refine ww_iload_n C dX2_setOpen_72 rfl 1 rfl ?_
          refine ww_iald C (f := House_doorSecond v0) (w := wHouse E a0 v0) 0 2 rfl c_House_doorSecond (inB_vp g_5) dX2_setOpen_73 ?_
          obtain ⟨p74, hp74, hf⟩ := bdE hf
          refine ww_callV C (As := [.int ((House_doorFirst v0) (Int32.toNatClampNeg x3)), .int ((House_doorSecond v0) (Int32.toNatClampNeg x3))]) (st := []) (gr := []) (c_X2_join (E := E) (a0 := a0) hp74) gX2_setOpen_X2_join rfl yk_X2_join ⟨by decide, by decide⟩ ⟨by decide, by decide⟩ clOK2 0 0 rfl rfl [0] [] 1 rfl (by decide) rfl rfl (Nat.le_of_ble_eq_true rfl) dX2_setOpen_74 ?_
          rintro _ _ ⟨rfl, rfl⟩
          refine ww_perm (gs' := [wHouse E a0 p74]) [0] 1 rfl (by decide) rfl ?_
          refine ww_aload_n C dX2_setOpen_77 rfl 0 rfl ?_
          refine ww_aload_n C dX2_setOpen_78 rfl 0 rfl ?_
          refine ww_get C clOK2 in_X2_setOpen_X2 (w := wHouse E a0 p74) (fs := fsHouse a0 p74) (v := .ref (a0 2)) 0 0 8 rfl q_House (by decide) (by decide +kernel) g_House_doorSecond dX2_setOpen_79 ?_
          refine ww_iload_n C dX2_setOpen_82 rfl 1 rfl ?_
          refine ww_iald C (f := House_doorSecond p74) (w := wHouse E a0 p74) 0 2 rfl c_House_doorSecond (inB_vp g_5) dX2_setOpen_83 ?_
          refine ww_aload_n C dX2_setOpen_84 rfl 0 rfl ?_
          refine ww_get C clOK2 in_X2_setOpen_X2 (w := wHouse E a0 p74) (fs := fsHouse a0 p74) (v := .ref (a0 1)) 0 0 7 rfl q_House (by decide) (by decide +kernel) g_House_doorFirst dX2_setOpen_85 ?_
          refine ww_iload_n C dX2_setOpen_88 rfl 1 rfl ?_
          refine ww_iald C (f := House_doorFirst p74) (w := wHouse E a0 p74) 0 1 rfl c_House_doorFirst (inB_vp g_5) dX2_setOpen_89 ?_
          obtain ⟨p90, hp90, hf⟩ := bdE hf
          refine ww_callV C (As := [.int ((House_doorSecond p74) (Int32.toNatClampNeg x3)), .int ((House_doorFirst p74) (Int32.toNatClampNeg x3))]) (st := []) (gr := []) (c_X2_join (E := E) (a0 := a0) hp90) gX2_setOpen_X2_join rfl yk_X2_join ⟨by decide, by decide⟩ ⟨by decide, by decide⟩ clOK2 0 0 rfl rfl [0] [] 1 rfl (by decide) rfl rfl (Nat.le_of_ble_eq_true rfl) dX2_setOpen_90 ?_
          rintro _ _ ⟨rfl, rfl⟩
          refine ww_perm (gs' := [wHouse E a0 p90]) [0] 1 rfl (by decide) rfl ?_
          obtain ⟨x3_93, e_x3_93⟩ : ∃ y : Int32, y = x3 + 1 := ⟨_, rfl⟩
          replace hf := ltE e_x3_93 hf
          refine ww_iinc (v := x3_93) (lv' := [(3, .int x3_93), (0, .ref (a0 0))]) C dX2_setOpen_93 1 rfl (by rw [e_x3_93]; rfl) (by decide) rfl ?_
          refine ww_goto (tgt := 39) C dX2_setOpen_96 (by decide) ?_
          refine ww_sub C (lv' := [(0, .ref (a0 0)), (3, .int x3_93)]) [1, 0] rfl ?_
          exact ih _ _ hf

set_option maxHeartbeats 4000000 in
set_option maxRecDepth 100000 in
theorem w_X2_setOpen_26 {E : Ex} {K : Kx} (C : Cx E K cX2_setOpen 4 none RX2 wsX2_setOpen rmX2_setOpen) {a0 : Nat → Nat} {x1 : Int32} {x2 : Bool}  {s0 : Int32} {v0 : HouseV} {r : HouseV} (hf : House_setOpen_26 x1 x2 s0 v0 = some r) : WW E K 0 0 (QQ E K (fun rv g => rv = none ∧ g = [wHouse E a0 r]) 0 0) 26 [(0, .ref (a0 0))] [.int s0, .ref (a0 0)] [wHouse E a0 v0] := by
  rw [House_setOpen_26] at hf
  obtain ⟨v0_26, e_v0_26⟩ : ∃ y : HouseV, y = House_set_openDoors v0 s0 := ⟨_, rfl⟩
  replace hf := ltE e_v0_26 hf
  refine ww_put C clOK2 in_X2_setOpen_X2 (w := wHouse E a0 v0) (fs := fsHouse a0 v0) (w' := wHouse E a0 v0_26) (gs' := [wHouse E a0 v0_26]) 0 0 4 rfl q_House (by decide) (by decide +kernel) rfl rfl rfl rfl l_House (by rw [e_v0_26]; exact p_House_openDoors) rfl dX2_setOpen_26 ?_
  refine ww_aload_n C dX2_setOpen_29 rfl 0 rfl ?_
  refine ww_get C clOK2 in_X2_setOpen_X2 (w := wHouse E a0 v0_26) (fs := fsHouse a0 v0_26) (v := .ref (a0 3)) 0 0 9 rfl q_House (by decide) (by decide +kernel) g_House_joined dX2_setOpen_30 ?_
  refine ww_iconst (v := 0) C dX2_setOpen_33 (by decide) ?_
  obtain ⟨p34, hp34, hf⟩ := bdE hf
  obtain ⟨v0_34, e_v0_34⟩ : ∃ y : HouseV, y = House_set_joined v0_26 p34 := ⟨_, rfl⟩
  replace hf := ltE e_v0_34 hf
  refine ww_regr (gs' := [(wHouse E a0 v0_26).take 3, wArr E (a0 3) 12 (House_joined v0_26), (wHouse E a0 v0_26).drop 4]) rfl ?_
  refine ww_callS C (As := [.ref (a0 3), .int 0]) (st := []) (gr := [(wHouse E a0 v0_26).take 3, (wHouse E a0 v0_26).drop 4]) (c_J7_fill_53178 (E := E) (q0 := a0 3) (n0 := 12) hp34) gX2_setOpen_J7_fill_53178 rfl ysk_J7_fill_53178 ⟨by decide, by decide⟩ ⟨by decide, by decide⟩ [1] [0, 2] 3 rfl (by decide) rfl rfl (Nat.le_of_ble_eq_true rfl) dX2_setOpen_34 ?_
  rintro _ _ ⟨rfl, rfl⟩
  refine ww_perm (gs' := [(wHouse E a0 v0_26).take 3, wArr E (a0 3) 12 p34, (wHouse E a0 v0_26).drop 4]) [1, 0, 2] 3 rfl (by decide) rfl ?_
  refine ww_regr (gs' := [wHouse E a0 v0_34]) (by rw [e_v0_34]; rfl) ?_
  refine ww_iconst (v := 0) C dX2_setOpen_37 (by decide) ?_
  refine ww_istore_n (lv' := [(3, .int 0), (0, .ref (a0 0))]) C dX2_setOpen_38 rfl (by decide) rfl ?_
  refine ww_sub C (lv' := [(0, .ref (a0 0)), (3, .int 0)]) [1, 0] rfl ?_
  exact w_X2_setOpen_39 C FU _ _ hf

set_option maxHeartbeats 4000000 in
set_option maxRecDepth 100000 in
theorem c_X2_setOpen {E : Ex} {a0 : Nat → Nat} {x1 : Int32} {x2 : Bool} {v0 : HouseV} {r : HouseV} (hf : House_setOpen x1 x2 v0 = some r) : Ct E yX2_setOpen wsX2_setOpen rmX2_setOpen [.ref (a0 0), .int x1, .int (b2i x2)] [wHouse E a0 v0] (fun rv g => rv = none ∧ g = [wHouse E a0 r]) := by
  refine ct_of (own := RX2) (by decide +kernel) rfl rfl (Nat.le_of_ble_eq_true rfl) (fun K C => ?_)
  refine ww_sub C (lv' := [(0, .ref (a0 0)), (1, .int x1), (2, .int (b2i x2))]) [0, 1, 2] rfl ?_
  rw [House_setOpen] at hf
  refine ww_aload_n C dX2_setOpen_0 rfl 0 rfl ?_
  refine ww_iload_n C dX2_setOpen_1 rfl 2 rfl ?_
  refine ww_if_eqB (tgt := 16) C dX2_setOpen_2 (by decide) (fun c_1 => ?_) (fun c_1 => ?_)
  · replace hf := bfE c_1 hf
    refine ww_aload_n C dX2_setOpen_16 rfl 0 rfl ?_
    refine ww_get C clOK2 in_X2_setOpen_X2 (w := wHouse E a0 v0) (fs := fsHouse a0 v0) (v := .int (House_openDoors v0)) 0 0 4 rfl q_House (by decide) (by decide +kernel) g_House_openDoors dX2_setOpen_17 ?_
    refine ww_iconst (v := 1) C dX2_setOpen_20 (by decide) ?_
    refine ww_iload_n C dX2_setOpen_21 rfl 1 rfl ?_
    refine ww_ishl C dX2_setOpen_22 ?_
    refine ww_iconst (v := (-1)) C dX2_setOpen_23 (by decide) ?_
    refine ww_ixor C dX2_setOpen_24 ?_
    refine ww_iand C dX2_setOpen_25 ?_
    refine ww_sub C (lv' := [(0, .ref (a0 0))]) [0] rfl ?_
    exact w_X2_setOpen_26 C hf
  · replace hf := btE c_1 hf
    refine ww_aload_n C dX2_setOpen_5 rfl 0 rfl ?_
    refine ww_get C clOK2 in_X2_setOpen_X2 (w := wHouse E a0 v0) (fs := fsHouse a0 v0) (v := .int (House_openDoors v0)) 0 0 4 rfl q_House (by decide) (by decide +kernel) g_House_openDoors dX2_setOpen_6 ?_
    refine ww_iconst (v := 1) C dX2_setOpen_9 (by decide) ?_
    refine ww_iload_n C dX2_setOpen_10 rfl 1 rfl ?_
    refine ww_ishl C dX2_setOpen_11 ?_
    refine ww_ior C dX2_setOpen_12 ?_
    refine ww_goto (tgt := 26) C dX2_setOpen_13 (by decide) ?_
    refine ww_sub C (lv' := [(0, .ref (a0 0))]) [0] rfl ?_
    exact w_X2_setOpen_26 C hf

theorem yk_X2_setOpen : yX2_setOpen.cls = RX2 ∧ yX2_setOpen.cls ≠ "java/lang/invoke/MethodHandle" ∧ yX2_setOpen.cls ≠ "java/lang/invoke/VarHandle" ∧ (parseMethodDescriptor yX2_setOpen.desc).map (fun d => d.parameters.length) = some 2 := by decide +kernel
abbrev rmX2_addDoor : Room := { frames := 3, cells := 0, slots := 0, locals := 66 }
set_option maxRecDepth 20000 in
theorem in_X2_addDoor_X2 : ∀ w ∈ u_ws RX2 TX2 19, w ∈ wsX2_addDoor := by decide +kernel
set_option maxHeartbeats 4000000 in
set_option maxRecDepth 100000 in
theorem c_X2_addDoor {E : Ex} {a0 : Nat → Nat} {x1 : Int32} {x2 : Int32} {x3 : Bool} {v0 : HouseV} {r : HouseV} (hf : House_addDoor x1 x2 x3 v0 = some r) : Ct E yX2_addDoor wsX2_addDoor rmX2_addDoor [.ref (a0 0), .int x1, .int x2, .int (b2i x3)] [wHouse E a0 v0] (fun rv g => rv = none ∧ g = [wHouse E a0 r]) := by
  refine ct_of (own := RX2) (by decide +kernel) rfl rfl (Nat.le_of_ble_eq_true rfl) (fun K C => ?_)
  refine ww_sub C (lv' := [(0, .ref (a0 0)), (1, .int x1), (2, .int x2), (3, .int (b2i x3))]) [0, 1, 2, 3] rfl ?_
  rw [House_addDoor] at hf
  refine ww_aload_n C dX2_addDoor_0 rfl 0 rfl ?_
  refine ww_get C clOK2 in_X2_addDoor_X2 (w := wHouse E a0 v0) (fs := fsHouse a0 v0) (v := .int (House_doors v0)) 0 0 1 rfl q_House (by decide) (by decide +kernel) g_House_doors dX2_addDoor_1 ?_
  refine ww_if_lt (tgt := 16) C dX2_addDoor_4 (by decide) (fun c_1 => ?_) (fun c_1 => ?_)
  · replace hf := ifT c_1 hf
    obtain rfl := Option.some.inj hf
    exact ww_vret C ⟨rfl, rfl⟩ dX2_addDoor_16
  · replace hf := ifF c_1 hf
    refine ww_aload_n C dX2_addDoor_7 rfl 0 rfl ?_
    refine ww_get C clOK2 in_X2_addDoor_X2 (w := wHouse E a0 v0) (fs := fsHouse a0 v0) (v := .int (House_doors v0)) 0 0 1 rfl q_House (by decide) (by decide +kernel) g_House_doors dX2_addDoor_8 ?_
    refine ww_bipush (v := 20) C dX2_addDoor_11 (by decide) ?_
    refine ww_icmp_lt (tgt := 17) C dX2_addDoor_13 (by decide) (fun c_2 => ?_) (fun c_2 => ?_)
    · replace hf := ifT c_2 hf
      refine ww_aload_n C dX2_addDoor_17 rfl 0 rfl ?_
      refine ww_get C clOK2 in_X2_addDoor_X2 (w := wHouse E a0 v0) (fs := fsHouse a0 v0) (v := .ref (a0 1)) 0 0 7 rfl q_House (by decide) (by decide +kernel) g_House_doorFirst dX2_addDoor_18 ?_
      refine ww_aload_n C dX2_addDoor_21 rfl 0 rfl ?_
      refine ww_get C clOK2 in_X2_addDoor_X2 (w := wHouse E a0 v0) (fs := fsHouse a0 v0) (v := .int (House_doors v0)) 0 0 1 rfl q_House (by decide) (by decide +kernel) g_House_doors dX2_addDoor_22 ?_
      refine ww_iload_n C dX2_addDoor_25 rfl 1 rfl ?_
      obtain ⟨g_3, hf⟩ := gdE hf
      obtain ⟨v0_26, e_v0_26⟩ : ∃ y : HouseV, y = House_set_doorFirst v0 (upd (House_doorFirst v0) (Int32.toNatClampNeg (House_doors v0)) x1) := ⟨_, rfl⟩
      replace hf := ltE e_v0_26 hf
      refine ww_iast C (f := House_doorFirst v0) (w := wHouse E a0 v0) (w' := wHouse E a0 v0_26) (gs' := [wHouse E a0 v0_26]) 0 1 rfl c_House_doorFirst (inB_vp g_3) (by rw [e_v0_26]; exact s_House_doorFirst) rfl dX2_addDoor_26 ?_
      refine ww_aload_n C dX2_addDoor_27 rfl 0 rfl ?_
      refine ww_get C clOK2 in_X2_addDoor_X2 (w := wHouse E a0 v0_26) (fs := fsHouse a0 v0_26) (v := .ref (a0 2)) 0 0 8 rfl q_House (by decide) (by decide +kernel) g_House_doorSecond dX2_addDoor_28 ?_
      refine ww_aload_n C dX2_addDoor_31 rfl 0 rfl ?_
      refine ww_get C clOK2 in_X2_addDoor_X2 (w := wHouse E a0 v0_26) (fs := fsHouse a0 v0_26) (v := .int (House_doors v0_26)) 0 0 1 rfl q_House (by decide) (by decide +kernel) g_House_doors dX2_addDoor_32 ?_
      refine ww_iload_n C dX2_addDoor_35 rfl 2 rfl ?_
      obtain ⟨g_4, hf⟩ := gdE hf
      obtain ⟨v0_36, e_v0_36⟩ : ∃ y : HouseV, y = House_set_doorSecond v0_26 (upd (House_doorSecond v0_26) (Int32.toNatClampNeg (House_doors v0_26)) x2) := ⟨_, rfl⟩
      replace hf := ltE e_v0_36 hf
      refine ww_iast C (f := House_doorSecond v0_26) (w := wHouse E a0 v0_26) (w' := wHouse E a0 v0_36) (gs' := [wHouse E a0 v0_36]) 0 2 rfl c_House_doorSecond (inB_vp g_4) (by rw [e_v0_36]; exact s_House_doorSecond) rfl dX2_addDoor_36 ?_
      refine ww_aload_n C dX2_addDoor_37 rfl 0 rfl ?_
      refine ww_dup C dX2_addDoor_38 rfl ?_
      refine ww_get C clOK2 in_X2_addDoor_X2 (w := wHouse E a0 v0_36) (fs := fsHouse a0 v0_36) (v := .int (House_doors v0_36)) 0 0 1 rfl q_House (by decide) (by decide +kernel) g_House_doors dX2_addDoor_39 ?_
      refine ww_iconst (v := 1) C dX2_addDoor_42 (by decide) ?_
      refine ww_iadd C dX2_addDoor_43 ?_
      obtain ⟨v0_44, e_v0_44⟩ : ∃ y : HouseV, y = House_set_doors v0_36 ((House_doors v0_36) + 1) := ⟨_, rfl⟩
      replace hf := ltE e_v0_44 hf
      refine ww_put C clOK2 in_X2_addDoor_X2 (w := wHouse E a0 v0_36) (fs := fsHouse a0 v0_36) (w' := wHouse E a0 v0_44) (gs' := [wHouse E a0 v0_44]) 0 0 1 rfl q_House (by decide) (by decide +kernel) rfl rfl rfl rfl l_House (by rw [e_v0_44]; exact p_House_doors) rfl dX2_addDoor_44 ?_
      refine ww_aload_n C dX2_addDoor_47 rfl 0 rfl ?_
      refine ww_aload_n C dX2_addDoor_48 rfl 0 rfl ?_
      refine ww_get C clOK2 in_X2_addDoor_X2 (w := wHouse E a0 v0_44) (fs := fsHouse a0 v0_44) (v := .int (House_doors v0_44)) 0 0 1 rfl q_House (by decide) (by decide +kernel) g_House_doors dX2_addDoor_49 ?_
      refine ww_iconst (v := 1) C dX2_addDoor_52 (by decide) ?_
      refine ww_isub C dX2_addDoor_53 ?_
      refine ww_iload_n C dX2_addDoor_54 rfl 3 rfl ?_
      obtain ⟨p55, hp55, hf⟩ := bdE hf
      refine ww_callV C (As := [.int ((House_doors v0_44) - 1), .int (b2i x3)]) (st := []) (gr := []) (c_X2_setOpen (E := E) (a0 := a0) hp55) gX2_addDoor_X2_setOpen rfl yk_X2_setOpen ⟨by decide, by decide⟩ ⟨by decide, by decide⟩ clOK2 0 0 rfl rfl [0] [] 1 rfl (by decide) rfl rfl (Nat.le_of_ble_eq_true rfl) dX2_addDoor_55 ?_
      rintro _ _ ⟨rfl, rfl⟩
      refine ww_perm (gs' := [wHouse E a0 p55]) [0] 1 rfl (by decide) rfl ?_
      obtain rfl := Option.some.inj hf
      exact ww_vret C ⟨rfl, rfl⟩ dX2_addDoor_58
    · replace hf := ifF c_2 hf
      obtain rfl := Option.some.inj hf
      exact ww_vret C ⟨rfl, rfl⟩ dX2_addDoor_16

theorem yk_X2_addDoor : yX2_addDoor.cls = RX2 ∧ yX2_addDoor.cls ≠ "java/lang/invoke/MethodHandle" ∧ yX2_addDoor.cls ≠ "java/lang/invoke/VarHandle" ∧ (parseMethodDescriptor yX2_addDoor.desc).map (fun d => d.parameters.length) = some 3 := by decide +kernel
abbrev rmX2_begin : Room := { frames := 1, cells := 0, slots := 0, locals := 23 }
set_option maxRecDepth 20000 in
theorem in_X2_begin_X2 : ∀ w ∈ u_ws RX2 TX2 19, w ∈ wsX2_begin := by decide +kernel
set_option maxHeartbeats 4000000 in
set_option maxRecDepth 100000 in
theorem c_X2_begin {E : Ex} {a0 : Nat → Nat} {x1 : Int32} {v0 : HouseV} {r : HouseV} (hf : House_begin x1 v0 = some r) : Ct E yX2_begin wsX2_begin rmX2_begin [.ref (a0 0), .int x1] [wHouse E a0 v0] (fun rv g => rv = none ∧ g = [wHouse E a0 r]) := by
  refine ct_of (own := RX2) (by decide +kernel) rfl rfl (Nat.le_of_ble_eq_true rfl) (fun K C => ?_)
  refine ww_sub C (lv' := [(0, .ref (a0 0)), (1, .int x1)]) [0, 1] rfl ?_
  rw [House_begin] at hf
  refine ww_aload_n C dX2_begin_0 rfl 0 rfl ?_
  refine ww_iload_n C dX2_begin_1 rfl 1 rfl ?_
  obtain ⟨v0_2, e_v0_2⟩ : ∃ y : HouseV, y = House_set_rooms v0 x1 := ⟨_, rfl⟩
  replace hf := ltE e_v0_2 hf
  refine ww_put C clOK2 in_X2_begin_X2 (w := wHouse E a0 v0) (fs := fsHouse a0 v0) (w' := wHouse E a0 v0_2) (gs' := [wHouse E a0 v0_2]) 0 0 0 rfl q_House (by decide) (by decide +kernel) rfl rfl rfl rfl l_House (by rw [e_v0_2]; exact p_House_rooms) rfl dX2_begin_2 ?_
  refine ww_aload_n C dX2_begin_5 rfl 0 rfl ?_
  refine ww_iconst (v := 0) C dX2_begin_6 (by decide) ?_
  obtain ⟨v0_7, e_v0_7⟩ : ∃ y : HouseV, y = House_set_doors v0_2 0 := ⟨_, rfl⟩
  replace hf := ltE e_v0_7 hf
  refine ww_put C clOK2 in_X2_begin_X2 (w := wHouse E a0 v0_2) (fs := fsHouse a0 v0_2) (w' := wHouse E a0 v0_7) (gs' := [wHouse E a0 v0_7]) 0 0 1 rfl q_House (by decide) (by decide +kernel) rfl rfl rfl rfl l_House (by rw [e_v0_7]; exact p_House_doors) rfl dX2_begin_7 ?_
  refine ww_aload_n C dX2_begin_10 rfl 0 rfl ?_
  refine ww_iconst (v := 0) C dX2_begin_11 (by decide) ?_
  obtain ⟨v0_12, e_v0_12⟩ : ∃ y : HouseV, y = House_set_guards v0_7 0 := ⟨_, rfl⟩
  replace hf := ltE e_v0_12 hf
  refine ww_put C clOK2 in_X2_begin_X2 (w := wHouse E a0 v0_7) (fs := fsHouse a0 v0_7) (w' := wHouse E a0 v0_12) (gs' := [wHouse E a0 v0_12]) 0 0 2 rfl q_House (by decide) (by decide +kernel) rfl rfl rfl rfl l_House (by rw [e_v0_12]; exact p_House_guards) rfl dX2_begin_12 ?_
  refine ww_aload_n C dX2_begin_15 rfl 0 rfl ?_
  refine ww_iconst (v := 0) C dX2_begin_16 (by decide) ?_
  obtain ⟨v0_17, e_v0_17⟩ : ∃ y : HouseV, y = House_set_minute v0_12 0 := ⟨_, rfl⟩
  replace hf := ltE e_v0_17 hf
  refine ww_put C clOK2 in_X2_begin_X2 (w := wHouse E a0 v0_12) (fs := fsHouse a0 v0_12) (w' := wHouse E a0 v0_17) (gs' := [wHouse E a0 v0_17]) 0 0 3 rfl q_House (by decide) (by decide +kernel) rfl rfl rfl rfl l_House (by rw [e_v0_17]; exact p_House_minute) rfl dX2_begin_17 ?_
  refine ww_aload_n C dX2_begin_20 rfl 0 rfl ?_
  refine ww_iconst (v := 0) C dX2_begin_21 (by decide) ?_
  obtain ⟨v0_22, e_v0_22⟩ : ∃ y : HouseV, y = House_set_openDoors v0_17 0 := ⟨_, rfl⟩
  replace hf := ltE e_v0_22 hf
  refine ww_put C clOK2 in_X2_begin_X2 (w := wHouse E a0 v0_17) (fs := fsHouse a0 v0_17) (w' := wHouse E a0 v0_22) (gs' := [wHouse E a0 v0_22]) 0 0 4 rfl q_House (by decide) (by decide +kernel) rfl rfl rfl rfl l_House (by rw [e_v0_22]; exact p_House_openDoors) rfl dX2_begin_22 ?_
  refine ww_aload_n C dX2_begin_25 rfl 0 rfl ?_
  refine ww_get C clOK2 in_X2_begin_X2 (w := wHouse E a0 v0_22) (fs := fsHouse a0 v0_22) (v := .ref (a0 3)) 0 0 9 rfl q_House (by decide) (by decide +kernel) g_House_joined dX2_begin_26 ?_
  refine ww_iconst (v := 0) C dX2_begin_29 (by decide) ?_
  obtain ⟨p30, hp30, hf⟩ := bdE hf
  obtain ⟨v0_30, e_v0_30⟩ : ∃ y : HouseV, y = House_set_joined v0_22 p30 := ⟨_, rfl⟩
  replace hf := ltE e_v0_30 hf
  refine ww_regr (gs' := [(wHouse E a0 v0_22).take 3, wArr E (a0 3) 12 (House_joined v0_22), (wHouse E a0 v0_22).drop 4]) rfl ?_
  refine ww_callS C (As := [.ref (a0 3), .int 0]) (st := []) (gr := [(wHouse E a0 v0_22).take 3, (wHouse E a0 v0_22).drop 4]) (c_J7_fill_53178 (E := E) (q0 := a0 3) (n0 := 12) hp30) gX2_begin_J7_fill_53178 rfl ysk_J7_fill_53178 ⟨by decide, by decide⟩ ⟨by decide, by decide⟩ [1] [0, 2] 3 rfl (by decide) rfl rfl (Nat.le_of_ble_eq_true rfl) dX2_begin_30 ?_
  rintro _ _ ⟨rfl, rfl⟩
  refine ww_perm (gs' := [(wHouse E a0 v0_22).take 3, wArr E (a0 3) 12 p30, (wHouse E a0 v0_22).drop 4]) [1, 0, 2] 3 rfl (by decide) rfl ?_
  refine ww_regr (gs' := [wHouse E a0 v0_30]) (by rw [e_v0_30]; rfl) ?_
  refine ww_aload_n C dX2_begin_33 rfl 0 rfl ?_
  refine ww_get C clOK2 in_X2_begin_X2 (w := wHouse E a0 v0_30) (fs := fsHouse a0 v0_30) (v := .ref (a0 4)) 0 0 10 rfl q_House (by decide) (by decide +kernel) g_House_limits dX2_begin_34 ?_
  refine ww_bipush (v := 99) C dX2_begin_37 (by decide) ?_
  obtain ⟨p39, hp39, hf⟩ := bdE hf
  obtain ⟨v0_39, e_v0_39⟩ : ∃ y : HouseV, y = House_set_limits v0_30 p39 := ⟨_, rfl⟩
  replace hf := ltE e_v0_39 hf
  refine ww_regr (gs' := [(wHouse E a0 v0_30).take 4, wArr E (a0 4) 12 (House_limits v0_30), (wHouse E a0 v0_30).drop 5]) rfl ?_
  refine ww_callS C (As := [.ref (a0 4), .int 99]) (st := []) (gr := [(wHouse E a0 v0_30).take 4, (wHouse E a0 v0_30).drop 5]) (c_J7_fill_53178 (E := E) (q0 := a0 4) (n0 := 12) hp39) gX2_begin_J7_fill_53178 rfl ysk_J7_fill_53178 ⟨by decide, by decide⟩ ⟨by decide, by decide⟩ [1] [0, 2] 3 rfl (by decide) rfl rfl (Nat.le_of_ble_eq_true rfl) dX2_begin_39 ?_
  rintro _ _ ⟨rfl, rfl⟩
  refine ww_perm (gs' := [(wHouse E a0 v0_30).take 4, wArr E (a0 4) 12 p39, (wHouse E a0 v0_30).drop 5]) [1, 0, 2] 3 rfl (by decide) rfl ?_
  refine ww_regr (gs' := [wHouse E a0 v0_39]) (by rw [e_v0_39]; rfl) ?_
  refine ww_aload_n C dX2_begin_42 rfl 0 rfl ?_
  refine ww_get C clOK2 in_X2_begin_X2 (w := wHouse E a0 v0_39) (fs := fsHouse a0 v0_39) (v := .ref (a0 9)) 0 0 15 rfl q_House (by decide) (by decide +kernel) g_House_sightings dX2_begin_43 ?_
  refine ww_iconst (v := 0) C dX2_begin_46 (by decide) ?_
  obtain ⟨p47, hp47, hf⟩ := bdE hf
  obtain ⟨v0_47, e_v0_47⟩ : ∃ y : HouseV, y = House_set_sightings v0_39 p47 := ⟨_, rfl⟩
  replace hf := ltE e_v0_47 hf
  refine ww_regr (gs' := [(wHouse E a0 v0_39).take 9, wArr E (a0 9) 12 (House_sightings v0_39), (wHouse E a0 v0_39).drop 10]) rfl ?_
  refine ww_callS C (As := [.ref (a0 9), .int 0]) (st := []) (gr := [(wHouse E a0 v0_39).take 9, (wHouse E a0 v0_39).drop 10]) (c_J7_fill_53178 (E := E) (q0 := a0 9) (n0 := 12) hp47) gX2_begin_J7_fill_53178 rfl ysk_J7_fill_53178 ⟨by decide, by decide⟩ ⟨by decide, by decide⟩ [1] [0, 2] 3 rfl (by decide) rfl rfl (Nat.le_of_ble_eq_true rfl) dX2_begin_47 ?_
  rintro _ _ ⟨rfl, rfl⟩
  refine ww_perm (gs' := [(wHouse E a0 v0_39).take 9, wArr E (a0 9) 12 p47, (wHouse E a0 v0_39).drop 10]) [1, 0, 2] 3 rfl (by decide) rfl ?_
  refine ww_regr (gs' := [wHouse E a0 v0_47]) (by rw [e_v0_47]; rfl) ?_
  refine ww_aload_n C dX2_begin_50 rfl 0 rfl ?_
  refine ww_get C clOK2 in_X2_begin_X2 (w := wHouse E a0 v0_47) (fs := fsHouse a0 v0_47) (v := .ref (a0 10)) 0 0 16 rfl q_House (by decide) (by decide +kernel) g_House_lastSeen dX2_begin_51 ?_
  refine ww_iconst (v := (-1)) C dX2_begin_54 (by decide) ?_
  obtain ⟨p55, hp55, hf⟩ := bdE hf
  obtain ⟨v0_55, e_v0_55⟩ : ∃ y : HouseV, y = House_set_lastSeen v0_47 p55 := ⟨_, rfl⟩
  replace hf := ltE e_v0_55 hf
  refine ww_regr (gs' := [(wHouse E a0 v0_47).take 10, wArr E (a0 10) 12 (House_lastSeen v0_47), (wHouse E a0 v0_47).drop 11]) rfl ?_
  refine ww_callS C (As := [.ref (a0 10), .int (-1)]) (st := []) (gr := [(wHouse E a0 v0_47).take 10, (wHouse E a0 v0_47).drop 11]) (c_J7_fill_53178 (E := E) (q0 := a0 10) (n0 := 12) hp55) gX2_begin_J7_fill_53178 rfl ysk_J7_fill_53178 ⟨by decide, by decide⟩ ⟨by decide, by decide⟩ [1] [0, 2] 3 rfl (by decide) rfl rfl (Nat.le_of_ble_eq_true rfl) dX2_begin_55 ?_
  rintro _ _ ⟨rfl, rfl⟩
  refine ww_perm (gs' := [(wHouse E a0 v0_47).take 10, wArr E (a0 10) 12 p55, (wHouse E a0 v0_47).drop 11]) [1, 0, 2] 3 rfl (by decide) rfl ?_
  refine ww_regr (gs' := [wHouse E a0 v0_55]) (by rw [e_v0_55]; rfl) ?_
  refine ww_aload_n C dX2_begin_58 rfl 0 rfl ?_
  refine ww_get C clOK2 in_X2_begin_X2 (w := wHouse E a0 v0_55) (fs := fsHouse a0 v0_55) (v := .ref (a0 11)) 0 0 17 rfl q_House (by decide) (by decide +kernel) g_House_runs dX2_begin_59 ?_
  refine ww_iconst (v := 0) C dX2_begin_62 (by decide) ?_
  obtain ⟨p63, hp63, hf⟩ := bdE hf
  obtain ⟨v0_63, e_v0_63⟩ : ∃ y : HouseV, y = House_set_runs v0_55 p63 := ⟨_, rfl⟩
  replace hf := ltE e_v0_63 hf
  refine ww_regr (gs' := [(wHouse E a0 v0_55).take 11, wArr E (a0 11) 12 (House_runs v0_55), (wHouse E a0 v0_55).drop 12]) rfl ?_
  refine ww_callS C (As := [.ref (a0 11), .int 0]) (st := []) (gr := [(wHouse E a0 v0_55).take 11, (wHouse E a0 v0_55).drop 12]) (c_J7_fill_53178 (E := E) (q0 := a0 11) (n0 := 12) hp63) gX2_begin_J7_fill_53178 rfl ysk_J7_fill_53178 ⟨by decide, by decide⟩ ⟨by decide, by decide⟩ [1] [0, 2] 3 rfl (by decide) rfl rfl (Nat.le_of_ble_eq_true rfl) dX2_begin_63 ?_
  rintro _ _ ⟨rfl, rfl⟩
  refine ww_perm (gs' := [(wHouse E a0 v0_55).take 11, wArr E (a0 11) 12 p63, (wHouse E a0 v0_55).drop 12]) [1, 0, 2] 3 rfl (by decide) rfl ?_
  refine ww_regr (gs' := [wHouse E a0 v0_63]) (by rw [e_v0_63]; rfl) ?_
  refine ww_aload_n C dX2_begin_66 rfl 0 rfl ?_
  refine ww_get C clOK2 in_X2_begin_X2 (w := wHouse E a0 v0_63) (fs := fsHouse a0 v0_63) (v := .ref (a0 12)) 0 0 18 rfl q_House (by decide) (by decide +kernel) g_House_longestRuns dX2_begin_67 ?_
  refine ww_iconst (v := 0) C dX2_begin_70 (by decide) ?_
  obtain ⟨p71, hp71, hf⟩ := bdE hf
  obtain ⟨v0_71, e_v0_71⟩ : ∃ y : HouseV, y = House_set_longestRuns v0_63 p71 := ⟨_, rfl⟩
  replace hf := ltE e_v0_71 hf
  refine ww_regr (gs' := [(wHouse E a0 v0_63).take 12, wArr E (a0 12) 12 (House_longestRuns v0_63), (wHouse E a0 v0_63).drop 13]) rfl ?_
  refine ww_callS C (As := [.ref (a0 12), .int 0]) (st := []) (gr := [(wHouse E a0 v0_63).take 12, (wHouse E a0 v0_63).drop 13]) (c_J7_fill_53178 (E := E) (q0 := a0 12) (n0 := 12) hp71) gX2_begin_J7_fill_53178 rfl ysk_J7_fill_53178 ⟨by decide, by decide⟩ ⟨by decide, by decide⟩ [1] [0, 2] 3 rfl (by decide) rfl rfl (Nat.le_of_ble_eq_true rfl) dX2_begin_71 ?_
  rintro _ _ ⟨rfl, rfl⟩
  refine ww_perm (gs' := [(wHouse E a0 v0_63).take 12, wArr E (a0 12) 12 p71, (wHouse E a0 v0_63).drop 13]) [1, 0, 2] 3 rfl (by decide) rfl ?_
  refine ww_regr (gs' := [wHouse E a0 v0_71]) (by rw [e_v0_71]; rfl) ?_
  obtain rfl := Option.some.inj hf
  exact ww_vret C ⟨rfl, rfl⟩ dX2_begin_74

theorem yk_X2_begin : yX2_begin.cls = RX2 ∧ yX2_begin.cls ≠ "java/lang/invoke/MethodHandle" ∧ yX2_begin.cls ≠ "java/lang/invoke/VarHandle" ∧ (parseMethodDescriptor yX2_begin.desc).map (fun d => d.parameters.length) = some 1 := by decide +kernel
abbrev rmX2_countOpenDoors : Room := { frames := 1, cells := 0, slots := 0, locals := 20 }
set_option maxRecDepth 20000 in
theorem in_X2_countOpenDoors_X2 : ∀ w ∈ u_ws RX2 TX2 19, w ∈ wsX2_countOpenDoors := by decide +kernel
set_option maxHeartbeats 4000000 in
set_option maxRecDepth 100000 in
theorem c_X2_countOpenDoors {E : Ex} {a0 : Nat → Nat} {v0 : HouseV} {r : Int32} (hf : House_countOpenDoors v0 = some r) : Ct E yX2_countOpenDoors wsX2_countOpenDoors rmX2_countOpenDoors [.ref (a0 0)] [wHouse E a0 v0] (fun rv g => rv = some (.int r) ∧ g = [wHouse E a0 v0]) := by
  refine ct_of (own := RX2) (by decide +kernel) rfl rfl (Nat.le_of_ble_eq_true rfl) (fun K C => ?_)
  refine ww_sub C (lv' := [(0, .ref (a0 0))]) [0] rfl ?_
  rw [House_countOpenDoors] at hf
  refine ww_aload_n C dX2_countOpenDoors_0 rfl 0 rfl ?_
  refine ww_get C clOK2 in_X2_countOpenDoors_X2 (w := wHouse E a0 v0) (fs := fsHouse a0 v0) (v := .int (House_openDoors v0)) 0 0 4 rfl q_House (by decide) (by decide +kernel) g_House_openDoors dX2_countOpenDoors_1 ?_
  obtain ⟨p4, hp4, hf⟩ := bdE hf
  refine ww_callS C (As := [.int (House_openDoors v0)]) (st := []) (gr := [wHouse E a0 v0]) (c_J6_bitCount_0f7a4 (E := E)  hp4) gX2_countOpenDoors_J6_bitCount_0f7a4 rfl ysk_J6_bitCount_0f7a4 ⟨by decide, by decide⟩ ⟨by decide, by decide⟩ [] [0] 1 rfl (by decide) rfl rfl (Nat.le_of_ble_eq_true rfl) dX2_countOpenDoors_4 ?_
  rintro _ _ ⟨rfl, rfl⟩
  refine ww_perm (gs' := [wHouse E a0 v0]) [0] 1 rfl (by decide) rfl ?_
  obtain rfl := Option.some.inj hf
  exact ww_iret C ⟨rfl, rfl⟩ dX2_countOpenDoors_7

theorem yk_X2_countOpenDoors : yX2_countOpenDoors.cls = RX2 ∧ yX2_countOpenDoors.cls ≠ "java/lang/invoke/MethodHandle" ∧ yX2_countOpenDoors.cls ≠ "java/lang/invoke/VarHandle" ∧ (parseMethodDescriptor yX2_countOpenDoors.desc).map (fun d => d.parameters.length) = some 0 := by decide +kernel
abbrev rmX2_isBetweenSameRooms : Room := { frames := 1, cells := 0, slots := 0, locals := 21 }
set_option maxRecDepth 20000 in
theorem in_X2_isBetweenSameRooms_X2 : ∀ w ∈ u_ws RX2 TX2 19, w ∈ wsX2_isBetweenSameRooms := by decide +kernel
set_option maxHeartbeats 4000000 in
set_option maxRecDepth 100000 in
theorem w_X2_isBetweenSameRooms_46 {E : Ex} {K : Kx} (C : Cx E K cX2_isBetweenSameRooms 3 (some .boolean) RX2 wsX2_isBetweenSameRooms rmX2_isBetweenSameRooms) {a0 : Nat → Nat} {x1 : Int32} {x2 : Int32} {v0 : HouseV}   {r : Bool} (hf : House_isBetweenSameRooms_46 x1 x2 v0  = some r) : WW E K 0 0 (QQ E K (fun rv g => rv = some (.int (b2i r)) ∧ g = [wHouse E a0 v0]) 0 0) 46 [(0, .ref (a0 0)), (1, .int x1), (2, .int x2)] [] [wHouse E a0 v0] := by
  rw [House_isBetweenSameRooms_46] at hf
  refine ww_aload_n C dX2_isBetweenSameRooms_46 rfl 0 rfl ?_
  refine ww_get C clOK2 in_X2_isBetweenSameRooms_X2 (w := wHouse E a0 v0) (fs := fsHouse a0 v0) (v := .ref (a0 1)) 0 0 7 rfl q_House (by decide) (by decide +kernel) g_House_doorFirst dX2_isBetweenSameRooms_47 ?_
  refine ww_iload_n C dX2_isBetweenSameRooms_50 rfl 1 rfl ?_
  obtain ⟨g_7, hf⟩ := gdE hf
  refine ww_iald C (f := House_doorFirst v0) (w := wHouse E a0 v0) 0 1 rfl c_House_doorFirst (inB_vp g_7) dX2_isBetweenSameRooms_51 ?_
  refine ww_aload_n C dX2_isBetweenSameRooms_52 rfl 0 rfl ?_
  refine ww_get C clOK2 in_X2_isBetweenSameRooms_X2 (w := wHouse E a0 v0) (fs := fsHouse a0 v0) (v := .ref (a0 2)) 0 0 8 rfl q_House (by decide) (by decide +kernel) g_House_doorSecond dX2_isBetweenSameRooms_53 ?_
  refine ww_iload_n C dX2_isBetweenSameRooms_56 rfl 2 rfl ?_
  obtain ⟨g_8, hf⟩ := gdE hf
  refine ww_iald C (f := House_doorSecond v0) (w := wHouse E a0 v0) 0 2 rfl c_House_doorSecond (inB_vp g_8) dX2_isBetweenSameRooms_57 ?_
  refine ww_icmp_ne (tgt := 80) C dX2_isBetweenSameRooms_58 (by decide) (fun c_9 => ?_) (fun c_9 => ?_)
  · replace hf := ifF c_9 hf
    refine ww_iconst (v := 0) C dX2_isBetweenSameRooms_80 (by decide) ?_
    obtain rfl := Option.some.inj hf
    exact ww_zret C (nar_b false) ⟨rfl, rfl⟩ dX2_isBetweenSameRooms_81
  · replace hf := ifT c_9 hf
    refine ww_aload_n C dX2_isBetweenSameRooms_61 rfl 0 rfl ?_
    refine ww_get C clOK2 in_X2_isBetweenSameRooms_X2 (w := wHouse E a0 v0) (fs := fsHouse a0 v0) (v := .ref (a0 2)) 0 0 8 rfl q_House (by decide) (by decide +kernel) g_House_doorSecond dX2_isBetweenSameRooms_62 ?_
    refine ww_iload_n C dX2_isBetweenSameRooms_65 rfl 1 rfl ?_
    refine ww_iald C (f := House_doorSecond v0) (w := wHouse E a0 v0) 0 2 rfl c_House_doorSecond (inB_vp g_7) dX2_isBetweenSameRooms_66 ?_
    refine ww_aload_n C dX2_isBetweenSameRooms_67 rfl 0 rfl ?_
    refine ww_get C clOK2 in_X2_isBetweenSameRooms_X2 (w := wHouse E a0 v0) (fs := fsHouse a0 v0) (v := .ref (a0 1)) 0 0 7 rfl q_House (by decide) (by decide +kernel) g_House_doorFirst dX2_isBetweenSameRooms_68 ?_
    refine ww_iload_n C dX2_isBetweenSameRooms_71 rfl 2 rfl ?_
    refine ww_iald C (f := House_doorFirst v0) (w := wHouse E a0 v0) 0 1 rfl c_House_doorFirst (inB_vp g_8) dX2_isBetweenSameRooms_72 ?_
    refine ww_icmp_ne (tgt := 80) C dX2_isBetweenSameRooms_73 (by decide) (fun c_10 => ?_) (fun c_10 => ?_)
    · replace hf := ifF c_10 hf
      refine ww_iconst (v := 0) C dX2_isBetweenSameRooms_80 (by decide) ?_
      obtain rfl := Option.some.inj hf
      exact ww_zret C (nar_b false) ⟨rfl, rfl⟩ dX2_isBetweenSameRooms_81
    · replace hf := ifT c_10 hf
      refine ww_iconst (v := 1) C dX2_isBetweenSameRooms_76 (by decide) ?_
      refine ww_goto (tgt := 81) C dX2_isBetweenSameRooms_77 (by decide) ?_
      obtain rfl := Option.some.inj hf
      exact ww_zret C (nar_b true) ⟨rfl, rfl⟩ dX2_isBetweenSameRooms_81

set_option maxHeartbeats 4000000 in
set_option maxRecDepth 100000 in
theorem c_X2_isBetweenSameRooms {E : Ex} {a0 : Nat → Nat} {x1 : Int32} {x2 : Int32} {v0 : HouseV} {r : Bool} (hf : House_isBetweenSameRooms x1 x2 v0 = some r) : Ct E yX2_isBetweenSameRooms wsX2_isBetweenSameRooms rmX2_isBetweenSameRooms [.ref (a0 0), .int x1, .int x2] [wHouse E a0 v0] (fun rv g => rv = some (.int (b2i r)) ∧ g = [wHouse E a0 v0]) := by
  refine ct_of (own := RX2) (by decide +kernel) rfl rfl (Nat.le_of_ble_eq_true rfl) (fun K C => ?_)
  refine ww_sub C (lv' := [(0, .ref (a0 0)), (1, .int x1), (2, .int x2)]) [0, 1, 2] rfl ?_
  rw [House_isBetweenSameRooms] at hf
  refine ww_aload_n C dX2_isBetweenSameRooms_0 rfl 0 rfl ?_
  refine ww_iload_n C dX2_isBetweenSameRooms_1 rfl 1 rfl ?_
  obtain ⟨p2, hp2, hf⟩ := bdE hf
  refine ww_callV C (As := [.int x1]) (st := []) (gr := []) (c_X2_hasDoor (E := E) (a0 := a0) hp2) gX2_isBetweenSameRooms_X2_hasDoor rfl yk_X2_hasDoor ⟨by decide, by decide⟩ ⟨by decide, by decide⟩ clOK2 0 0 rfl rfl [0] [] 1 rfl (by decide) rfl rfl (Nat.le_of_ble_eq_true rfl) dX2_isBetweenSameRooms_2 ?_
  rintro _ _ ⟨rfl, rfl⟩
  refine ww_perm (gs' := [wHouse E a0 v0]) [0] 1 rfl (by decide) rfl ?_
  refine ww_if_eqB (tgt := 80) C dX2_isBetweenSameRooms_5 (by decide) (fun c_1 => ?_) (fun c_1 => ?_)
  · replace hf := bfE c_1 hf
    refine ww_iconst (v := 0) C dX2_isBetweenSameRooms_80 (by decide) ?_
    obtain rfl := Option.some.inj hf
    exact ww_zret C (nar_b false) ⟨rfl, rfl⟩ dX2_isBetweenSameRooms_81
  · replace hf := btE c_1 hf
    refine ww_aload_n C dX2_isBetweenSameRooms_8 rfl 0 rfl ?_
    refine ww_iload_n C dX2_isBetweenSameRooms_9 rfl 2 rfl ?_
    obtain ⟨p10, hp10, hf⟩ := bdE hf
    refine ww_callV C (As := [.int x2]) (st := []) (gr := []) (c_X2_hasDoor (E := E) (a0 := a0) hp10) gX2_isBetweenSameRooms_X2_hasDoor rfl yk_X2_hasDoor ⟨by decide, by decide⟩ ⟨by decide, by decide⟩ clOK2 0 0 rfl rfl [0] [] 1 rfl (by decide) rfl rfl (Nat.le_of_ble_eq_true rfl) dX2_isBetweenSameRooms_10 ?_
    rintro _ _ ⟨rfl, rfl⟩
    refine ww_perm (gs' := [wHouse E a0 v0]) [0] 1 rfl (by decide) rfl ?_
    refine ww_if_eqB (tgt := 80) C dX2_isBetweenSameRooms_13 (by decide) (fun c_2 => ?_) (fun c_2 => ?_)
    · replace hf := bfE c_2 hf
      refine ww_iconst (v := 0) C dX2_isBetweenSameRooms_80 (by decide) ?_
      obtain rfl := Option.some.inj hf
      exact ww_zret C (nar_b false) ⟨rfl, rfl⟩ dX2_isBetweenSameRooms_81
    · replace hf := btE c_2 hf
      refine ww_aload_n C dX2_isBetweenSameRooms_16 rfl 0 rfl ?_
      refine ww_get C clOK2 in_X2_isBetweenSameRooms_X2 (w := wHouse E a0 v0) (fs := fsHouse a0 v0) (v := .ref (a0 1)) 0 0 7 rfl q_House (by decide) (by decide +kernel) g_House_doorFirst dX2_isBetweenSameRooms_17 ?_
      refine ww_iload_n C dX2_isBetweenSameRooms_20 rfl 1 rfl ?_
      obtain ⟨g_3, hf⟩ := gdE hf
      refine ww_iald C (f := House_doorFirst v0) (w := wHouse E a0 v0) 0 1 rfl c_House_doorFirst (inB_vp g_3) dX2_isBetweenSameRooms_21 ?_
      refine ww_aload_n C dX2_isBetweenSameRooms_22 rfl 0 rfl ?_
      refine ww_get C clOK2 in_X2_isBetweenSameRooms_X2 (w := wHouse E a0 v0) (fs := fsHouse a0 v0) (v := .ref (a0 1)) 0 0 7 rfl q_House (by decide) (by decide +kernel) g_House_doorFirst dX2_isBetweenSameRooms_23 ?_
      refine ww_iload_n C dX2_isBetweenSameRooms_26 rfl 2 rfl ?_
      obtain ⟨g_4, hf⟩ := gdE hf
      refine ww_iald C (f := House_doorFirst v0) (w := wHouse E a0 v0) 0 1 rfl c_House_doorFirst (inB_vp g_4) dX2_isBetweenSameRooms_27 ?_
      refine ww_icmp_ne (tgt := 46) C dX2_isBetweenSameRooms_28 (by decide) (fun c_5 => ?_) (fun c_5 => ?_)
      · replace hf := ifF c_5 hf
        refine ww_sub C (lv' := [(0, .ref (a0 0)), (1, .int x1), (2, .int x2)]) [0, 1, 2] rfl ?_
        exact w_X2_isBetweenSameRooms_46 C hf
      · replace hf := ifT c_5 hf
        refine ww_aload_n C dX2_isBetweenSameRooms_31 rfl 0 rfl ?_
        refine ww_get C clOK2 in_X2_isBetweenSameRooms_X2 (w := wHouse E a0 v0) (fs := fsHouse a0 v0) (v := .ref (a0 2)) 0 0 8 rfl q_House (by decide) (by decide +kernel) g_House_doorSecond dX2_isBetweenSameRooms_32 ?_
        refine ww_iload_n C dX2_isBetweenSameRooms_35 rfl 1 rfl ?_
        refine ww_iald C (f := House_doorSecond v0) (w := wHouse E a0 v0) 0 2 rfl c_House_doorSecond (inB_vp g_3) dX2_isBetweenSameRooms_36 ?_
        refine ww_aload_n C dX2_isBetweenSameRooms_37 rfl 0 rfl ?_
        refine ww_get C clOK2 in_X2_isBetweenSameRooms_X2 (w := wHouse E a0 v0) (fs := fsHouse a0 v0) (v := .ref (a0 2)) 0 0 8 rfl q_House (by decide) (by decide +kernel) g_House_doorSecond dX2_isBetweenSameRooms_38 ?_
        refine ww_iload_n C dX2_isBetweenSameRooms_41 rfl 2 rfl ?_
        refine ww_iald C (f := House_doorSecond v0) (w := wHouse E a0 v0) 0 2 rfl c_House_doorSecond (inB_vp g_4) dX2_isBetweenSameRooms_42 ?_
        refine ww_icmp_eq (tgt := 76) C dX2_isBetweenSameRooms_43 (by decide) (fun c_6 => ?_) (fun c_6 => ?_)
        · replace hf := ifT c_6 hf
          refine ww_iconst (v := 1) C dX2_isBetweenSameRooms_76 (by decide) ?_
          refine ww_goto (tgt := 81) C dX2_isBetweenSameRooms_77 (by decide) ?_
          obtain rfl := Option.some.inj hf
          exact ww_zret C (nar_b true) ⟨rfl, rfl⟩ dX2_isBetweenSameRooms_81
        · replace hf := ifF c_6 hf
          refine ww_sub C (lv' := [(0, .ref (a0 0)), (1, .int x1), (2, .int x2)]) [0, 1, 2] rfl ?_
          exact w_X2_isBetweenSameRooms_46 C hf

theorem yk_X2_isBetweenSameRooms : yX2_isBetweenSameRooms.cls = RX2 ∧ yX2_isBetweenSameRooms.cls ≠ "java/lang/invoke/MethodHandle" ∧ yX2_isBetweenSameRooms.cls ≠ "java/lang/invoke/VarHandle" ∧ (parseMethodDescriptor yX2_isBetweenSameRooms.desc).map (fun d => d.parameters.length) = some 2 := by decide +kernel
abbrev rmX2_hasOtherOpenDoor : Room := { frames := 2, cells := 0, slots := 0, locals := 43 }
set_option maxRecDepth 20000 in
theorem in_X2_hasOtherOpenDoor_X2 : ∀ w ∈ u_ws RX2 TX2 19, w ∈ wsX2_hasOtherOpenDoor := by decide +kernel
set_option maxHeartbeats 4000000 in
set_option maxRecDepth 100000 in
theorem w_X2_hasOtherOpenDoor_2 {E : Ex} {K : Kx} (C : Cx E K cX2_hasOtherOpenDoor 3 (some .boolean) RX2 wsX2_hasOtherOpenDoor rmX2_hasOtherOpenDoor) {a0 : Nat → Nat} {x1 : Int32} {v0 : HouseV}  {r : Bool} : ∀ (n : Nat) (x2 : Int32), House_hasOtherOpenDoor_2 x1 v0 n x2 = some r → WW E K 0 0 (QQ E K (fun rv g => rv = some (.int (b2i r)) ∧ g = [wHouse E a0 v0]) 0 0) 2 [(0, .ref (a0 0)), (1, .int x1), (2, .int x2)] [] [wHouse E a0 v0] := by
  intro n
  induction n with
  | zero =>
    intro x2 hf
    simp [House_hasOtherOpenDoor_2] at hf
  | succ n ih =>
    intro x2 hf
    rw [House_hasOtherOpenDoor_2] at hf
    refine ww_iload_n C dX2_hasOtherOpenDoor_2 rfl 2 rfl ?_
    refine ww_aload_n C dX2_hasOtherOpenDoor_3 rfl 0 rfl ?_
    refine ww_get C clOK2 in_X2_hasOtherOpenDoor_X2 (w := wHouse E a0 v0) (fs := fsHouse a0 v0) (v := .int (House_doors v0)) 0 0 1 rfl q_House (by decide) (by decide +kernel) g_House_doors dX2_hasOtherOpenDoor_4 ?_
    refine ww_icmp_ge (tgt := 46) C dX2_hasOtherOpenDoor_7 (by decide) (fun c_1 => ?_) (fun c_1 => ?_)
    · replace hf := ifT c_1 hf
      refine ww_iconst (v := 0) C dX2_hasOtherOpenDoor_46 (by decide) ?_
      obtain rfl := Option.some.inj hf
      exact ww_zret C (nar_b false) ⟨rfl, rfl⟩ dX2_hasOtherOpenDoor_47
    · replace hf := ifF c_1 hf
      refine ww_iload_n C dX2_hasOtherOpenDoor_10 rfl 2 rfl ?_
      refine ww_bipush (v := 20) C dX2_hasOtherOpenDoor_11 (by decide) ?_
      refine ww_icmp_ge (tgt := 46) C dX2_hasOtherOpenDoor_13 (by decide) (fun c_2 => ?_) (fun c_2 => ?_)
      · replace hf := ifT c_2 hf
        refine ww_iconst (v := 0) C dX2_hasOtherOpenDoor_46 (by decide) ?_
        obtain rfl := Option.some.inj hf
        exact ww_zret C (nar_b false) ⟨rfl, rfl⟩ dX2_hasOtherOpenDoor_47
      · replace hf := ifF c_2 hf
        refine ww_iload_n C dX2_hasOtherOpenDoor_16 rfl 2 rfl ?_
        refine ww_iload_n C dX2_hasOtherOpenDoor_17 rfl 1 rfl ?_
        refine ww_icmp_eq (tgt := 40) C dX2_hasOtherOpenDoor_18 (by decide) (fun c_3 => ?_) (fun c_3 => ?_)
        · replace hf := ifT c_3 hf
          obtain ⟨x2_40, e_x2_40⟩ : ∃ y : Int32, y = x2 + 1 := ⟨_, rfl⟩
          replace hf := ltE e_x2_40 hf
          refine ww_iinc (v := x2_40) (lv' := [(2, .int x2_40), (0, .ref (a0 0)), (1, .int x1)]) C dX2_hasOtherOpenDoor_40 2 rfl (by rw [e_x2_40]; rfl) (by decide) rfl ?_
          refine ww_goto (tgt := 2) C dX2_hasOtherOpenDoor_43 (by decide) ?_
          refine ww_sub C (lv' := [(0, .ref (a0 0)), (1, .int x1), (2, .int x2_40)]) [1, 2, 0] rfl ?_
          exact ih _ hf
        · replace hf := ifF c_3 hf
          refine ww_aload_n C dX2_hasOtherOpenDoor_21 rfl 0 rfl ?_
          refine ww_iload_n C dX2_hasOtherOpenDoor_22 rfl 2 rfl ?_
          obtain ⟨p23, hp23, hf⟩ := bdE hf
          refine ww_callV C (As := [.int x2]) (st := []) (gr := []) (c_X2_isOpen (E := E) (a0 := a0) hp23) gX2_hasOtherOpenDoor_X2_isOpen rfl yk_X2_isOpen ⟨by decide, by decide⟩ ⟨by decide, by decide⟩ clOK2 0 0 rfl rfl [0] [] 1 rfl (by decide) rfl rfl (Nat.le_of_ble_eq_true rfl) dX2_hasOtherOpenDoor_23 ?_
          rintro _ _ ⟨rfl, rfl⟩
          refine ww_perm (gs' := [wHouse E a0 v0]) [0] 1 rfl (by decide) rfl ?_
          refine ww_if_eqB (tgt := 40) C dX2_hasOtherOpenDoor_26 (by decide) (fun c_4 => ?_) (fun c_4 => ?_)
          · replace hf := bfE c_4 hf
            obtain ⟨x2_40, e_x2_40⟩ : ∃ y : Int32, y = x2 + 1 := ⟨_, rfl⟩
            replace hf := ltE e_x2_40 hf
            refine ww_iinc (v := x2_40) (lv' := [(2, .int x2_40), (0, .ref (a0 0)), (1, .int x1)]) C dX2_hasOtherOpenDoor_40 2 rfl (by rw [e_x2_40]; rfl) (by decide) rfl ?_
            refine ww_goto (tgt := 2) C dX2_hasOtherOpenDoor_43 (by decide) ?_
            refine ww_sub C (lv' := [(0, .ref (a0 0)), (1, .int x1), (2, .int x2_40)]) [1, 2, 0] rfl ?_
            exact ih _ hf
          · replace hf := btE c_4 hf
            refine ww_aload_n C dX2_hasOtherOpenDoor_29 rfl 0 rfl ?_
            refine ww_iload_n C dX2_hasOtherOpenDoor_30 rfl 2 rfl ?_
            refine ww_iload_n C dX2_hasOtherOpenDoor_31 rfl 1 rfl ?_
            obtain ⟨p32, hp32, hf⟩ := bdE hf
            refine ww_callV C (As := [.int x2, .int x1]) (st := []) (gr := []) (c_X2_isBetweenSameRooms (E := E) (a0 := a0) hp32) gX2_hasOtherOpenDoor_X2_isBetweenSameRooms rfl yk_X2_isBetweenSameRooms ⟨by decide, by decide⟩ ⟨by decide, by decide⟩ clOK2 0 0 rfl rfl [0] [] 1 rfl (by decide) rfl rfl (Nat.le_of_ble_eq_true rfl) dX2_hasOtherOpenDoor_32 ?_
            rintro _ _ ⟨rfl, rfl⟩
            refine ww_perm (gs' := [wHouse E a0 v0]) [0] 1 rfl (by decide) rfl ?_
            refine ww_if_eqB (tgt := 40) C dX2_hasOtherOpenDoor_35 (by decide) (fun c_5 => ?_) (fun c_5 => ?_)
            · replace hf := bfE c_5 hf
              obtain ⟨x2_40, e_x2_40⟩ : ∃ y : Int32, y = x2 + 1 := ⟨_, rfl⟩
              replace hf := ltE e_x2_40 hf
              refine ww_iinc (v := x2_40) (lv' := [(2, .int x2_40), (0, .ref (a0 0)), (1, .int x1)]) C dX2_hasOtherOpenDoor_40 2 rfl (by rw [e_x2_40]; rfl) (by decide) rfl ?_
              refine ww_goto (tgt := 2) C dX2_hasOtherOpenDoor_43 (by decide) ?_
              refine ww_sub C (lv' := [(0, .ref (a0 0)), (1, .int x1), (2, .int x2_40)]) [1, 2, 0] rfl ?_
              exact ih _ hf
            · replace hf := btE c_5 hf
              refine ww_iconst (v := 1) C dX2_hasOtherOpenDoor_38 (by decide) ?_
              obtain rfl := Option.some.inj hf
              exact ww_zret C (nar_b true) ⟨rfl, rfl⟩ dX2_hasOtherOpenDoor_39

set_option maxHeartbeats 4000000 in
set_option maxRecDepth 100000 in
theorem c_X2_hasOtherOpenDoor {E : Ex} {a0 : Nat → Nat} {x1 : Int32} {v0 : HouseV} {r : Bool} (hf : House_hasOtherOpenDoor x1 v0 = some r) : Ct E yX2_hasOtherOpenDoor wsX2_hasOtherOpenDoor rmX2_hasOtherOpenDoor [.ref (a0 0), .int x1] [wHouse E a0 v0] (fun rv g => rv = some (.int (b2i r)) ∧ g = [wHouse E a0 v0]) := by
  refine ct_of (own := RX2) (by decide +kernel) rfl rfl (Nat.le_of_ble_eq_true rfl) (fun K C => ?_)
  refine ww_sub C (lv' := [(0, .ref (a0 0)), (1, .int x1)]) [0, 1] rfl ?_
  rw [House_hasOtherOpenDoor] at hf
  refine ww_iconst (v := 0) C dX2_hasOtherOpenDoor_0 (by decide) ?_
  refine ww_istore_n (lv' := [(2, .int 0), (0, .ref (a0 0)), (1, .int x1)]) C dX2_hasOtherOpenDoor_1 rfl (by decide) rfl ?_
  refine ww_sub C (lv' := [(0, .ref (a0 0)), (1, .int x1), (2, .int 0)]) [1, 2, 0] rfl ?_
  exact w_X2_hasOtherOpenDoor_2 C FU _ hf

theorem yk_X2_hasOtherOpenDoor : yX2_hasOtherOpenDoor.cls = RX2 ∧ yX2_hasOtherOpenDoor.cls ≠ "java/lang/invoke/MethodHandle" ∧ yX2_hasOtherOpenDoor.cls ≠ "java/lang/invoke/VarHandle" ∧ (parseMethodDescriptor yX2_hasOtherOpenDoor.desc).map (fun d => d.parameters.length) = some 1 := by decide +kernel
abbrev rmX2_areJoined : Room := { frames := 1, cells := 0, slots := 0, locals := 21 }
set_option maxRecDepth 20000 in
theorem in_X2_areJoined_X2 : ∀ w ∈ u_ws RX2 TX2 19, w ∈ wsX2_areJoined := by decide +kernel
set_option maxHeartbeats 4000000 in
set_option maxRecDepth 100000 in
theorem c_X2_areJoined {E : Ex} {a0 : Nat → Nat} {x1 : Int32} {x2 : Int32} {v0 : HouseV} {r : Bool} (hf : House_areJoined x1 x2 v0 = some r) : Ct E yX2_areJoined wsX2_areJoined rmX2_areJoined [.ref (a0 0), .int x1, .int x2] [wHouse E a0 v0] (fun rv g => rv = some (.int (b2i r)) ∧ g = [wHouse E a0 v0]) := by
  refine ct_of (own := RX2) (by decide +kernel) rfl rfl (Nat.le_of_ble_eq_true rfl) (fun K C => ?_)
  refine ww_sub C (lv' := [(0, .ref (a0 0)), (1, .int x1), (2, .int x2)]) [0, 1, 2] rfl ?_
  rw [House_areJoined] at hf
  refine ww_aload_n C dX2_areJoined_0 rfl 0 rfl ?_
  refine ww_iload_n C dX2_areJoined_1 rfl 1 rfl ?_
  obtain ⟨p2, hp2, hf⟩ := bdE hf
  refine ww_callV C (As := [.int x1]) (st := []) (gr := []) (c_X2_hasRoom (E := E) (a0 := a0) hp2) gX2_areJoined_X2_hasRoom rfl yk_X2_hasRoom ⟨by decide, by decide⟩ ⟨by decide, by decide⟩ clOK2 0 0 rfl rfl [0] [] 1 rfl (by decide) rfl rfl (Nat.le_of_ble_eq_true rfl) dX2_areJoined_2 ?_
  rintro _ _ ⟨rfl, rfl⟩
  refine ww_perm (gs' := [wHouse E a0 v0]) [0] 1 rfl (by decide) rfl ?_
  refine ww_if_eqB (tgt := 25) C dX2_areJoined_5 (by decide) (fun c_1 => ?_) (fun c_1 => ?_)
  · replace hf := bfE c_1 hf
    refine ww_iconst (v := 0) C dX2_areJoined_25 (by decide) ?_
    obtain rfl := Option.some.inj hf
    exact ww_zret C (nar_b false) ⟨rfl, rfl⟩ dX2_areJoined_26
  · replace hf := btE c_1 hf
    refine ww_aload_n C dX2_areJoined_8 rfl 0 rfl ?_
    refine ww_get C clOK2 in_X2_areJoined_X2 (w := wHouse E a0 v0) (fs := fsHouse a0 v0) (v := .ref (a0 3)) 0 0 9 rfl q_House (by decide) (by decide +kernel) g_House_joined dX2_areJoined_9 ?_
    refine ww_iload_n C dX2_areJoined_12 rfl 1 rfl ?_
    obtain ⟨g_2, hf⟩ := gdE hf
    refine ww_iald C (f := House_joined v0) (w := wHouse E a0 v0) 0 3 rfl c_House_joined (inB_vp g_2) dX2_areJoined_13 ?_
    refine ww_iload_n C dX2_areJoined_14 rfl 2 rfl ?_
    obtain ⟨p15, hp15, hf⟩ := bdE hf
    refine ww_callSN C (As := [.int ((House_joined v0) (Int32.toNatClampNeg x1)), .int x2]) (st := []) (gr := [wHouse E a0 v0]) (host := RX8) (c_X8_has (E := E)  hp15) gX2_areJoined_X8_has_n86 rfl (by decide +kernel) (by decide +kernel) (by decide +kernel) ysk_X8_has ⟨by decide, by decide⟩ ⟨by decide, by decide⟩ [] [0] 1 rfl (by decide) rfl rfl (Nat.le_of_ble_eq_true rfl) dX2_areJoined_15 ?_
    rintro _ _ ⟨rfl, rfl⟩
    refine ww_perm (gs' := [wHouse E a0 v0]) [0] 1 rfl (by decide) rfl ?_
    refine ww_if_eqB (tgt := 25) C dX2_areJoined_18 (by decide) (fun c_3 => ?_) (fun c_3 => ?_)
    · replace hf := bfE c_3 hf
      refine ww_iconst (v := 0) C dX2_areJoined_25 (by decide) ?_
      obtain rfl := Option.some.inj hf
      exact ww_zret C (nar_b false) ⟨rfl, rfl⟩ dX2_areJoined_26
    · replace hf := btE c_3 hf
      refine ww_iconst (v := 1) C dX2_areJoined_21 (by decide) ?_
      refine ww_goto (tgt := 26) C dX2_areJoined_22 (by decide) ?_
      obtain rfl := Option.some.inj hf
      exact ww_zret C (nar_b true) ⟨rfl, rfl⟩ dX2_areJoined_26

theorem yk_X2_areJoined : yX2_areJoined.cls = RX2 ∧ yX2_areJoined.cls ≠ "java/lang/invoke/MethodHandle" ∧ yX2_areJoined.cls ≠ "java/lang/invoke/VarHandle" ∧ (parseMethodDescriptor yX2_areJoined.desc).map (fun d => d.parameters.length) = some 2 := by decide +kernel
abbrev rmX2_doorsBetween : Room := { frames := 1, cells := 0, slots := 0, locals := 21 }
set_option maxRecDepth 20000 in
theorem in_X2_doorsBetween_X2 : ∀ w ∈ u_ws RX2 TX2 19, w ∈ wsX2_doorsBetween := by decide +kernel
set_option maxHeartbeats 4000000 in
set_option maxRecDepth 100000 in
theorem w_X2_doorsBetween_31 {E : Ex} {K : Kx} (C : Cx E K cX2_doorsBetween 7 (some .int) RX2 wsX2_doorsBetween rmX2_doorsBetween) {a0 : Nat → Nat} {x1 : Int32} {x2 : Int32} {v0 : HouseV} {x3 : Int32} {x4 : Int32} {k7 : Int32 → Int32 → Option Int32} {r : Int32} (hk7 : ∀ (x3 : Int32) (x4 : Int32), k7 x3 x4 = some r → WW E K 0 0 (QQ E K (fun rv g => rv = some (.int r) ∧ g = [wHouse E a0 v0]) 0 0) 7 [(0, .ref (a0 0)), (2, .int x2), (3, .int x3), (4, .int x4)] [] [wHouse E a0 v0]) : ∀ (n : Nat) (x5 : Int32) (x6 : Int32), House_doorsBetween_31 x1 x2 v0 x3 x4 k7 n x5 x6 = some r → WW E K 0 0 (QQ E K (fun rv g => rv = some (.int r) ∧ g = [wHouse E a0 v0]) 0 0) 31 [(0, .ref (a0 0)), (2, .int x2), (3, .int x3), (4, .int x4), (5, .int x5), (6, .int x6)] [] [wHouse E a0 v0] := by
  intro n
  induction n with
  | zero =>
    intro x5 x6 hf
    simp [House_doorsBetween_31] at hf
  | succ n ih =>
    intro x5 x6 hf
    rw [House_doorsBetween_31] at hf
    refine ww_iload C dX2_doorsBetween_31 5 rfl ?_
    refine ww_aload_n C dX2_doorsBetween_33 rfl 0 rfl ?_
    refine ww_get C clOK2 in_X2_doorsBetween_X2 (w := wHouse E a0 v0) (fs := fsHouse a0 v0) (v := .int (House_rooms v0)) 0 0 0 rfl q_House (by decide) (by decide +kernel) g_House_rooms dX2_doorsBetween_34 ?_
    refine ww_icmp_ge (tgt := 74) C dX2_doorsBetween_37 (by decide) (fun c_4 => ?_) (fun c_4 => ?_)
    · replace hf := ifT c_4 hf
      refine ww_iload C dX2_doorsBetween_74 4 rfl ?_
      refine ww_istore_n (lv' := [(3, .int x5), (0, .ref (a0 0)), (2, .int x2), (4, .int x4), (5, .int x5), (6, .int x6)]) C dX2_doorsBetween_76 rfl (by decide) rfl ?_
      obtain ⟨x4_77, e_x4_77⟩ : ∃ y : Int32, y = x4 + 1 := ⟨_, rfl⟩
      replace hf := ltE e_x4_77 hf
      refine ww_iinc (v := x4_77) (lv' := [(4, .int x4_77), (3, .int x5), (0, .ref (a0 0)), (2, .int x2), (5, .int x5), (6, .int x6)]) C dX2_doorsBetween_77 3 rfl (by rw [e_x4_77]; rfl) (by decide) rfl ?_
      refine ww_goto (tgt := 7) C dX2_doorsBetween_80 (by decide) ?_
      refine ww_sub C (lv' := [(0, .ref (a0 0)), (2, .int x2), (3, .int x5), (4, .int x4_77)]) [2, 3, 1, 0] rfl ?_
      exact hk7 _ _ hf
    · replace hf := ifF c_4 hf
      refine ww_iload C dX2_doorsBetween_40 5 rfl ?_
      refine ww_bipush (v := 12) C dX2_doorsBetween_42 (by decide) ?_
      refine ww_icmp_ge (tgt := 74) C dX2_doorsBetween_44 (by decide) (fun c_5 => ?_) (fun c_5 => ?_)
      · replace hf := ifT c_5 hf
        refine ww_iload C dX2_doorsBetween_74 4 rfl ?_
        refine ww_istore_n (lv' := [(3, .int x5), (0, .ref (a0 0)), (2, .int x2), (4, .int x4), (5, .int x5), (6, .int x6)]) C dX2_doorsBetween_76 rfl (by decide) rfl ?_
        obtain ⟨x4_77, e_x4_77⟩ : ∃ y : Int32, y = x4 + 1 := ⟨_, rfl⟩
        replace hf := ltE e_x4_77 hf
        refine ww_iinc (v := x4_77) (lv' := [(4, .int x4_77), (3, .int x5), (0, .ref (a0 0)), (2, .int x2), (5, .int x5), (6, .int x6)]) C dX2_doorsBetween_77 3 rfl (by rw [e_x4_77]; rfl) (by decide) rfl ?_
        refine ww_goto (tgt := 7) C dX2_doorsBetween_80 (by decide) ?_
        refine ww_sub C (lv' := [(0, .ref (a0 0)), (2, .int x2), (3, .int x5), (4, .int x4_77)]) [2, 3, 1, 0] rfl ?_
        exact hk7 _ _ hf
      · replace hf := ifF c_5 hf
        refine ww_iload_n C dX2_doorsBetween_47 rfl 2 rfl ?_
        refine ww_iload C dX2_doorsBetween_48 5 rfl ?_
        obtain ⟨p50, hp50, hf⟩ := bdE hf
        refine ww_callSN C (As := [.int x3, .int x6]) (st := []) (gr := [wHouse E a0 v0]) (host := RX8) (c_X8_has (E := E)  hp50) gX2_doorsBetween_X8_has_n86 rfl (by decide +kernel) (by decide +kernel) (by decide +kernel) ysk_X8_has ⟨by decide, by decide⟩ ⟨by decide, by decide⟩ [] [0] 1 rfl (by decide) rfl rfl (Nat.le_of_ble_eq_true rfl) dX2_doorsBetween_50 ?_
        rintro _ _ ⟨rfl, rfl⟩
        refine ww_perm (gs' := [wHouse E a0 v0]) [0] 1 rfl (by decide) rfl ?_
        refine ww_if_eqB (tgt := 68) C dX2_doorsBetween_53 (by decide) (fun c_6 => ?_) (fun c_6 => ?_)
        · replace hf := bfE c_6 hf
          obtain ⟨x6_68, e_x6_68⟩ : ∃ y : Int32, y = x6 + 1 := ⟨_, rfl⟩
          replace hf := ltE e_x6_68 hf
          refine ww_iinc (v := x6_68) (lv' := [(6, .int x6_68), (0, .ref (a0 0)), (2, .int x2), (3, .int x3), (4, .int x4), (5, .int x5)]) C dX2_doorsBetween_68 5 rfl (by rw [e_x6_68]; rfl) (by decide) rfl ?_
          refine ww_goto (tgt := 31) C dX2_doorsBetween_71 (by decide) ?_
          refine ww_sub C (lv' := [(0, .ref (a0 0)), (2, .int x2), (3, .int x3), (4, .int x4), (5, .int x5), (6, .int x6_68)]) [1, 2, 3, 4, 5, 0] rfl ?_
          exact ih _ _ hf
        · replace hf := btE c_6 hf
          refine ww_iload C dX2_doorsBetween_56 4 rfl ?_
          refine ww_aload_n C dX2_doorsBetween_58 rfl 0 rfl ?_
          refine ww_get C clOK2 in_X2_doorsBetween_X2 (w := wHouse E a0 v0) (fs := fsHouse a0 v0) (v := .ref (a0 3)) 0 0 9 rfl q_House (by decide) (by decide +kernel) g_House_joined dX2_doorsBetween_59 ?_
          refine ww_iload C dX2_doorsBetween_62 5 rfl ?_
          obtain ⟨g_7, hf⟩ := gdE hf
          refine ww_iald C (f := House_joined v0) (w := wHouse E a0 v0) 0 3 rfl c_House_joined (inB_vp g_7) dX2_doorsBetween_64 ?_
          refine ww_ior C dX2_doorsBetween_65 ?_
          refine ww_topi (fun x5_66 e_x5_66 => ?_)
          replace hf := ltE e_x5_66 hf
          refine ww_istore (lv' := [(5, .int x5_66), (0, .ref (a0 0)), (2, .int x2), (3, .int x3), (4, .int x4), (6, .int x6)]) C dX2_doorsBetween_66 (by decide) rfl ?_
          obtain ⟨x6_68, e_x6_68⟩ : ∃ y : Int32, y = x6 + 1 := ⟨_, rfl⟩
          replace hf := ltE e_x6_68 hf
          refine ww_iinc (v := x6_68) (lv' := [(6, .int x6_68), (5, .int x5_66), (0, .ref (a0 0)), (2, .int x2), (3, .int x3), (4, .int x4)]) C dX2_doorsBetween_68 5 rfl (by rw [e_x6_68]; rfl) (by decide) rfl ?_
          refine ww_goto (tgt := 31) C dX2_doorsBetween_71 (by decide) ?_
          refine ww_sub C (lv' := [(0, .ref (a0 0)), (2, .int x2), (3, .int x3), (4, .int x4), (5, .int x5_66), (6, .int x6_68)]) [2, 3, 4, 5, 1, 0] rfl ?_
          exact ih _ _ hf

set_option maxHeartbeats 4000000 in
set_option maxRecDepth 100000 in
theorem w_X2_doorsBetween_7 {E : Ex} {K : Kx} (C : Cx E K cX2_doorsBetween 7 (some .int) RX2 wsX2_doorsBetween rmX2_doorsBetween) {a0 : Nat → Nat} {x1 : Int32} {x2 : Int32} {v0 : HouseV}  {r : Int32} : ∀ (n : Nat) (x3 : Int32) (x4 : Int32), House_doorsBetween_7 x1 x2 v0 n x3 x4 = some r → WW E K 0 0 (QQ E K (fun rv g => rv = some (.int r) ∧ g = [wHouse E a0 v0]) 0 0) 7 [(0, .ref (a0 0)), (2, .int x2), (3, .int x3), (4, .int x4)] [] [wHouse E a0 v0] := by
  intro n
  induction n with
  | zero =>
    intro x3 x4 hf
    simp [House_doorsBetween_7] at hf
  | succ n ih =>
    intro x3 x4 hf
    rw [House_doorsBetween_7] at hf
    refine ww_iload C dX2_doorsBetween_7 3 rfl ?_
    refine ww_bipush (v := 12) C dX2_doorsBetween_9 (by decide) ?_
    refine ww_icmp_ge (tgt := 83) C dX2_doorsBetween_11 (by decide) (fun c_2 => ?_) (fun c_2 => ?_)
    · replace hf := ifT c_2 hf
      refine ww_iconst (v := (-1)) C dX2_doorsBetween_83 (by decide) ?_
      obtain rfl := Option.some.inj hf
      exact ww_iret C ⟨rfl, rfl⟩ dX2_doorsBetween_84
    · replace hf := ifF c_2 hf
      refine ww_iload_n C dX2_doorsBetween_14 rfl 2 rfl ?_
      refine ww_iload_n C dX2_doorsBetween_15 rfl 1 rfl ?_
      obtain ⟨p16, hp16, hf⟩ := bdE hf
      refine ww_callSN C (As := [.int x3, .int x2]) (st := []) (gr := [wHouse E a0 v0]) (host := RX8) (c_X8_has (E := E)  hp16) gX2_doorsBetween_X8_has_n86 rfl (by decide +kernel) (by decide +kernel) (by decide +kernel) ysk_X8_has ⟨by decide, by decide⟩ ⟨by decide, by decide⟩ [] [0] 1 rfl (by decide) rfl rfl (Nat.le_of_ble_eq_true rfl) dX2_doorsBetween_16 ?_
      rintro _ _ ⟨rfl, rfl⟩
      refine ww_perm (gs' := [wHouse E a0 v0]) [0] 1 rfl (by decide) rfl ?_
      refine ww_if_eqB (tgt := 25) C dX2_doorsBetween_19 (by decide) (fun c_3 => ?_) (fun c_3 => ?_)
      · replace hf := bfE c_3 hf
        refine ww_iload_n C dX2_doorsBetween_25 rfl 2 rfl ?_
        refine ww_istore (lv' := [(5, .int x3), (0, .ref (a0 0)), (2, .int x2), (3, .int x3), (4, .int x4)]) C dX2_doorsBetween_26 (by decide) rfl ?_
        refine ww_iconst (v := 0) C dX2_doorsBetween_28 (by decide) ?_
        refine ww_istore (lv' := [(6, .int 0), (5, .int x3), (0, .ref (a0 0)), (2, .int x2), (3, .int x3), (4, .int x4)]) C dX2_doorsBetween_29 (by decide) rfl ?_
        refine ww_sub C (lv' := [(0, .ref (a0 0)), (2, .int x2), (3, .int x3), (4, .int x4), (5, .int x3), (6, .int 0)]) [2, 3, 4, 5, 1, 0] rfl ?_
        exact w_X2_doorsBetween_31 C (k7 := (fun (x3 : Int32) (x4 : Int32) => House_doorsBetween_7 x1 x2 v0 n x3 x4)) ih FU _ _ hf
      · replace hf := btE c_3 hf
        refine ww_iload C dX2_doorsBetween_22 3 rfl ?_
        obtain rfl := Option.some.inj hf
        exact ww_iret C ⟨rfl, rfl⟩ dX2_doorsBetween_24

set_option maxHeartbeats 4000000 in
set_option maxRecDepth 100000 in
theorem c_X2_doorsBetween {E : Ex} {a0 : Nat → Nat} {x1 : Int32} {x2 : Int32} {v0 : HouseV} {r : Int32} (hf : House_doorsBetween x1 x2 v0 = some r) : Ct E yX2_doorsBetween wsX2_doorsBetween rmX2_doorsBetween [.ref (a0 0), .int x1, .int x2] [wHouse E a0 v0] (fun rv g => rv = some (.int r) ∧ g = [wHouse E a0 v0]) := by
  refine ct_of (own := RX2) (by decide +kernel) rfl rfl (Nat.le_of_ble_eq_true rfl) (fun K C => ?_)
  refine ww_sub C (lv' := [(0, .ref (a0 0)), (1, .int x1), (2, .int x2)]) [0, 1, 2] rfl ?_
  rw [House_doorsBetween] at hf
  refine ww_iconst (v := 1) C dX2_doorsBetween_0 (by decide) ?_
  refine ww_iload_n C dX2_doorsBetween_1 rfl 1 rfl ?_
  refine ww_ishl C dX2_doorsBetween_2 ?_
  refine ww_topi (fun x3_3 e_x3_3 => ?_)
  replace hf := ltE e_x3_3 hf
  refine ww_istore_n (lv' := [(3, .int x3_3), (0, .ref (a0 0)), (1, .int x1), (2, .int x2)]) C dX2_doorsBetween_3 rfl (by decide) rfl ?_
  refine ww_iconst (v := 0) C dX2_doorsBetween_4 (by decide) ?_
  refine ww_istore (lv' := [(4, .int 0), (3, .int x3_3), (0, .ref (a0 0)), (1, .int x1), (2, .int x2)]) C dX2_doorsBetween_5 (by decide) rfl ?_
  refine ww_sub C (lv' := [(0, .ref (a0 0)), (2, .int x2), (3, .int x3_3), (4, .int 0)]) [2, 4, 1, 0] rfl ?_
  exact w_X2_doorsBetween_7 C FU _ _ hf

theorem yk_X2_doorsBetween : yX2_doorsBetween.cls = RX2 ∧ yX2_doorsBetween.cls ≠ "java/lang/invoke/MethodHandle" ∧ yX2_doorsBetween.cls ≠ "java/lang/invoke/VarHandle" ∧ (parseMethodDescriptor yX2_doorsBetween.desc).map (fun d => d.parameters.length) = some 2 := by decide +kernel
abbrev rmX2_emptyWalk : Room := { frames := 1, cells := 0, slots := 0, locals := 21 }
set_option maxRecDepth 20000 in
theorem in_X2_emptyWalk_X2 : ∀ w ∈ u_ws RX2 TX2 19, w ∈ wsX2_emptyWalk := by decide +kernel
set_option maxHeartbeats 4000000 in
set_option maxRecDepth 100000 in
theorem c_X2_emptyWalk {E : Ex} {a0 : Nat → Nat} {x1 : Int32} {v0 : HouseV} {r : HouseV} (hf : House_emptyWalk x1 v0 = some r) : Ct E yX2_emptyWalk wsX2_emptyWalk rmX2_emptyWalk [.ref (a0 0), .int x1] [wHouse E a0 v0] (fun rv g => rv = none ∧ g = [wHouse E a0 r]) := by
  refine ct_of (own := RX2) (by decide +kernel) rfl rfl (Nat.le_of_ble_eq_true rfl) (fun K C => ?_)
  refine ww_sub C (lv' := [(0, .ref (a0 0)), (1, .int x1)]) [0, 1] rfl ?_
  rw [House_emptyWalk] at hf
  refine ww_aload_n C dX2_emptyWalk_0 rfl 0 rfl ?_
  refine ww_iload_n C dX2_emptyWalk_1 rfl 1 rfl ?_
  obtain ⟨p2, hp2, hf⟩ := bdE hf
  refine ww_callV C (As := [.int x1]) (st := []) (gr := []) (c_X2_hasGuard (E := E) (a0 := a0) hp2) gX2_emptyWalk_X2_hasGuard rfl yk_X2_hasGuard ⟨by decide, by decide⟩ ⟨by decide, by decide⟩ clOK2 0 0 rfl rfl [0] [] 1 rfl (by decide) rfl rfl (Nat.le_of_ble_eq_true rfl) dX2_emptyWalk_2 ?_
  rintro _ _ ⟨rfl, rfl⟩
  refine ww_perm (gs' := [wHouse E a0 v0]) [0] 1 rfl (by decide) rfl ?_
  refine ww_if_eqB (tgt := 29) C dX2_emptyWalk_5 (by decide) (fun c_1 => ?_) (fun c_1 => ?_)
  · replace hf := bfE c_1 hf
    obtain rfl := Option.some.inj hf
    exact ww_vret C ⟨rfl, rfl⟩ dX2_emptyWalk_29
  · replace hf := btE c_1 hf
    refine ww_aload_n C dX2_emptyWalk_8 rfl 0 rfl ?_
    refine ww_get C clOK2 in_X2_emptyWalk_X2 (w := wHouse E a0 v0) (fs := fsHouse a0 v0) (v := .ref (a0 5)) 0 0 11 rfl q_House (by decide) (by decide +kernel) g_House_periods dX2_emptyWalk_9 ?_
    refine ww_iload_n C dX2_emptyWalk_12 rfl 1 rfl ?_
    refine ww_iconst (v := 0) C dX2_emptyWalk_13 (by decide) ?_
    obtain ⟨g_2, hf⟩ := gdE hf
    obtain ⟨v0_14, e_v0_14⟩ : ∃ y : HouseV, y = House_set_periods v0 (upd (House_periods v0) (Int32.toNatClampNeg x1) 0) := ⟨_, rfl⟩
    replace hf := ltE e_v0_14 hf
    refine ww_iast C (f := House_periods v0) (w := wHouse E a0 v0) (w' := wHouse E a0 v0_14) (gs' := [wHouse E a0 v0_14]) 0 5 rfl c_House_periods (inB_vp g_2) (by rw [e_v0_14]; exact s_House_periods) rfl dX2_emptyWalk_14 ?_
    refine ww_aload_n C dX2_emptyWalk_15 rfl 0 rfl ?_
    refine ww_get C clOK2 in_X2_emptyWalk_X2 (w := wHouse E a0 v0_14) (fs := fsHouse a0 v0_14) (v := .ref (a0 6)) 0 0 12 rfl q_House (by decide) (by decide +kernel) g_House_phases dX2_emptyWalk_16 ?_
    refine ww_iload_n C dX2_emptyWalk_19 rfl 1 rfl ?_
    refine ww_iconst (v := 0) C dX2_emptyWalk_20 (by decide) ?_
    obtain ⟨v0_21, e_v0_21⟩ : ∃ y : HouseV, y = House_set_phases v0_14 (upd (House_phases v0_14) (Int32.toNatClampNeg x1) 0) := ⟨_, rfl⟩
    replace hf := ltE e_v0_21 hf
    refine ww_iast C (f := House_phases v0_14) (w := wHouse E a0 v0_14) (w' := wHouse E a0 v0_21) (gs' := [wHouse E a0 v0_21]) 0 6 rfl c_House_phases (inB_vp g_2) (by rw [e_v0_21]; exact s_House_phases) rfl dX2_emptyWalk_21 ?_
    refine ww_aload_n C dX2_emptyWalk_22 rfl 0 rfl ?_
    refine ww_get C clOK2 in_X2_emptyWalk_X2 (w := wHouse E a0 v0_21) (fs := fsHouse a0 v0_21) (v := .ref (a0 8)) 0 0 14 rfl q_House (by decide) (by decide +kernel) g_House_walked dX2_emptyWalk_23 ?_
    refine ww_iload_n C dX2_emptyWalk_26 rfl 1 rfl ?_
    refine ww_iconst (v := 0) C dX2_emptyWalk_27 (by decide) ?_
    obtain ⟨v0_28, e_v0_28⟩ : ∃ y : HouseV, y = House_set_walked v0_21 (upd (House_walked v0_21) (Int32.toNatClampNeg x1) 0) := ⟨_, rfl⟩
    replace hf := ltE e_v0_28 hf
    refine ww_iast C (f := House_walked v0_21) (w := wHouse E a0 v0_21) (w' := wHouse E a0 v0_28) (gs' := [wHouse E a0 v0_28]) 0 8 rfl c_House_walked (inB_vp g_2) (by rw [e_v0_28]; exact s_House_walked) rfl dX2_emptyWalk_28 ?_
    obtain rfl := Option.some.inj hf
    exact ww_vret C ⟨rfl, rfl⟩ dX2_emptyWalk_29

theorem yk_X2_emptyWalk : yX2_emptyWalk.cls = RX2 ∧ yX2_emptyWalk.cls ≠ "java/lang/invoke/MethodHandle" ∧ yX2_emptyWalk.cls ≠ "java/lang/invoke/VarHandle" ∧ (parseMethodDescriptor yX2_emptyWalk.desc).map (fun d => d.parameters.length) = some 1 := by decide +kernel
abbrev rmX2_addStep : Room := { frames := 1, cells := 0, slots := 0, locals := 21 }
set_option maxRecDepth 20000 in
theorem in_X2_addStep_X2 : ∀ w ∈ u_ws RX2 TX2 19, w ∈ wsX2_addStep := by decide +kernel
set_option maxHeartbeats 4000000 in
set_option maxRecDepth 100000 in
theorem c_X2_addStep {E : Ex} {a0 : Nat → Nat} {x1 : Int32} {x2 : Int32} {v0 : HouseV} {r : HouseV} (hf : House_addStep x1 x2 v0 = some r) : Ct E yX2_addStep wsX2_addStep rmX2_addStep [.ref (a0 0), .int x1, .int x2] [wHouse E a0 v0] (fun rv g => rv = none ∧ g = [wHouse E a0 r]) := by
  refine ct_of (own := RX2) (by decide +kernel) rfl rfl (Nat.le_of_ble_eq_true rfl) (fun K C => ?_)
  refine ww_sub C (lv' := [(0, .ref (a0 0)), (1, .int x1), (2, .int x2)]) [0, 1, 2] rfl ?_
  rw [House_addStep] at hf
  refine ww_aload_n C dX2_addStep_0 rfl 0 rfl ?_
  refine ww_iload_n C dX2_addStep_1 rfl 1 rfl ?_
  obtain ⟨p2, hp2, hf⟩ := bdE hf
  refine ww_callV C (As := [.int x1]) (st := []) (gr := []) (c_X2_hasGuard (E := E) (a0 := a0) hp2) gX2_addStep_X2_hasGuard rfl yk_X2_hasGuard ⟨by decide, by decide⟩ ⟨by decide, by decide⟩ clOK2 0 0 rfl rfl [0] [] 1 rfl (by decide) rfl rfl (Nat.le_of_ble_eq_true rfl) dX2_addStep_2 ?_
  rintro _ _ ⟨rfl, rfl⟩
  refine ww_perm (gs' := [wHouse E a0 v0]) [0] 1 rfl (by decide) rfl ?_
  refine ww_if_eqB (tgt := 67) C dX2_addStep_5 (by decide) (fun c_1 => ?_) (fun c_1 => ?_)
  · replace hf := bfE c_1 hf
    obtain rfl := Option.some.inj hf
    exact ww_vret C ⟨rfl, rfl⟩ dX2_addStep_67
  · replace hf := btE c_1 hf
    refine ww_aload_n C dX2_addStep_8 rfl 0 rfl ?_
    refine ww_get C clOK2 in_X2_addStep_X2 (w := wHouse E a0 v0) (fs := fsHouse a0 v0) (v := .ref (a0 5)) 0 0 11 rfl q_House (by decide) (by decide +kernel) g_House_periods dX2_addStep_9 ?_
    refine ww_iload_n C dX2_addStep_12 rfl 1 rfl ?_
    obtain ⟨g_2, hf⟩ := gdE hf
    refine ww_iald C (f := House_periods v0) (w := wHouse E a0 v0) 0 5 rfl c_House_periods (inB_vp g_2) dX2_addStep_13 ?_
    refine ww_if_lt (tgt := 67) C dX2_addStep_14 (by decide) (fun c_3 => ?_) (fun c_3 => ?_)
    · replace hf := ifT c_3 hf
      obtain rfl := Option.some.inj hf
      exact ww_vret C ⟨rfl, rfl⟩ dX2_addStep_67
    · replace hf := ifF c_3 hf
      refine ww_aload_n C dX2_addStep_17 rfl 0 rfl ?_
      refine ww_get C clOK2 in_X2_addStep_X2 (w := wHouse E a0 v0) (fs := fsHouse a0 v0) (v := .ref (a0 5)) 0 0 11 rfl q_House (by decide) (by decide +kernel) g_House_periods dX2_addStep_18 ?_
      refine ww_iload_n C dX2_addStep_21 rfl 1 rfl ?_
      refine ww_iald C (f := House_periods v0) (w := wHouse E a0 v0) 0 5 rfl c_House_periods (inB_vp g_2) dX2_addStep_22 ?_
      refine ww_bipush (v := 10) C dX2_addStep_23 (by decide) ?_
      refine ww_icmp_ge (tgt := 67) C dX2_addStep_25 (by decide) (fun c_4 => ?_) (fun c_4 => ?_)
      · replace hf := ifT c_4 hf
        obtain rfl := Option.some.inj hf
        exact ww_vret C ⟨rfl, rfl⟩ dX2_addStep_67
      · replace hf := ifF c_4 hf
        refine ww_aload_n C dX2_addStep_28 rfl 0 rfl ?_
        refine ww_get C clOK2 in_X2_addStep_X2 (w := wHouse E a0 v0) (fs := fsHouse a0 v0) (v := .ref (a0 7)) 0 0 13 rfl q_House (by decide) (by decide +kernel) g_House_walks dX2_addStep_29 ?_
        refine ww_iload_n C dX2_addStep_32 rfl 1 rfl ?_
        refine ww_bipush (v := 10) C dX2_addStep_33 (by decide) ?_
        refine ww_imul C dX2_addStep_35 ?_
        refine ww_aload_n C dX2_addStep_36 rfl 0 rfl ?_
        refine ww_get C clOK2 in_X2_addStep_X2 (w := wHouse E a0 v0) (fs := fsHouse a0 v0) (v := .ref (a0 5)) 0 0 11 rfl q_House (by decide) (by decide +kernel) g_House_periods dX2_addStep_37 ?_
        refine ww_iload_n C dX2_addStep_40 rfl 1 rfl ?_
        refine ww_iald C (f := House_periods v0) (w := wHouse E a0 v0) 0 5 rfl c_House_periods (inB_vp g_2) dX2_addStep_41 ?_
        refine ww_iadd C dX2_addStep_42 ?_
        refine ww_iload_n C dX2_addStep_43 rfl 2 rfl ?_
        obtain ⟨g_5, hf⟩ := gdE hf
        obtain ⟨v0_44, e_v0_44⟩ : ∃ y : HouseV, y = House_set_walks v0 (upd (House_walks v0) (Int32.toNatClampNeg ((x1 * 10) + ((House_periods v0) (Int32.toNatClampNeg x1)))) x2) := ⟨_, rfl⟩
        replace hf := ltE e_v0_44 hf
        refine ww_iast C (f := House_walks v0) (w := wHouse E a0 v0) (w' := wHouse E a0 v0_44) (gs' := [wHouse E a0 v0_44]) 0 7 rfl c_House_walks (inB_vp g_5) (by rw [e_v0_44]; exact s_House_walks) rfl dX2_addStep_44 ?_
        refine ww_aload_n C dX2_addStep_45 rfl 0 rfl ?_
        refine ww_get C clOK2 in_X2_addStep_X2 (w := wHouse E a0 v0_44) (fs := fsHouse a0 v0_44) (v := .ref (a0 8)) 0 0 14 rfl q_House (by decide) (by decide +kernel) g_House_walked dX2_addStep_46 ?_
        refine ww_iload_n C dX2_addStep_49 rfl 1 rfl ?_
        refine ww_dup2 C dX2_addStep_50 rfl rfl ?_
        refine ww_iald C (f := House_walked v0_44) (w := wHouse E a0 v0_44) 0 8 rfl c_House_walked (inB_vp g_2) dX2_addStep_51 ?_
        refine ww_iconst (v := 1) C dX2_addStep_52 (by decide) ?_
        refine ww_iload_n C dX2_addStep_53 rfl 2 rfl ?_
        refine ww_ishl C dX2_addStep_54 ?_
        refine ww_ior C dX2_addStep_55 ?_
        obtain ⟨v0_56, e_v0_56⟩ : ∃ y : HouseV, y = House_set_walked v0_44 (upd (House_walked v0_44) (Int32.toNatClampNeg x1) (((House_walked v0_44) (Int32.toNatClampNeg x1)) ||| (1 <<< (x2 &&& 31)))) := ⟨_, rfl⟩
        replace hf := ltE e_v0_56 hf
        refine ww_iast C (f := House_walked v0_44) (w := wHouse E a0 v0_44) (w' := wHouse E a0 v0_56) (gs' := [wHouse E a0 v0_56]) 0 8 rfl c_House_walked (inB_vp g_2) (by rw [e_v0_56]; exact s_House_walked) rfl dX2_addStep_56 ?_
        refine ww_aload_n C dX2_addStep_57 rfl 0 rfl ?_
        refine ww_get C clOK2 in_X2_addStep_X2 (w := wHouse E a0 v0_56) (fs := fsHouse a0 v0_56) (v := .ref (a0 5)) 0 0 11 rfl q_House (by decide) (by decide +kernel) g_House_periods dX2_addStep_58 ?_
        refine ww_iload_n C dX2_addStep_61 rfl 1 rfl ?_
        refine ww_dup2 C dX2_addStep_62 rfl rfl ?_
        refine ww_iald C (f := House_periods v0_56) (w := wHouse E a0 v0_56) 0 5 rfl c_House_periods (inB_vp g_2) dX2_addStep_63 ?_
        refine ww_iconst (v := 1) C dX2_addStep_64 (by decide) ?_
        refine ww_iadd C dX2_addStep_65 ?_
        obtain ⟨v0_66, e_v0_66⟩ : ∃ y : HouseV, y = House_set_periods v0_56 (upd (House_periods v0_56) (Int32.toNatClampNeg x1) (((House_periods v0_56) (Int32.toNatClampNeg x1)) + 1)) := ⟨_, rfl⟩
        replace hf := ltE e_v0_66 hf
        refine ww_iast C (f := House_periods v0_56) (w := wHouse E a0 v0_56) (w' := wHouse E a0 v0_66) (gs' := [wHouse E a0 v0_66]) 0 5 rfl c_House_periods (inB_vp g_2) (by rw [e_v0_66]; exact s_House_periods) rfl dX2_addStep_66 ?_
        obtain rfl := Option.some.inj hf
        exact ww_vret C ⟨rfl, rfl⟩ dX2_addStep_67

theorem yk_X2_addStep : yX2_addStep.cls = RX2 ∧ yX2_addStep.cls ≠ "java/lang/invoke/MethodHandle" ∧ yX2_addStep.cls ≠ "java/lang/invoke/VarHandle" ∧ (parseMethodDescriptor yX2_addStep.desc).map (fun d => d.parameters.length) = some 2 := by decide +kernel
abbrev rmX2_walkRoom : Room := { frames := 1, cells := 0, slots := 0, locals := 21 }
set_option maxRecDepth 20000 in
theorem in_X2_walkRoom_X2 : ∀ w ∈ u_ws RX2 TX2 19, w ∈ wsX2_walkRoom := by decide +kernel
set_option maxHeartbeats 4000000 in
set_option maxRecDepth 100000 in
theorem c_X2_walkRoom {E : Ex} {a0 : Nat → Nat} {x1 : Int32} {x2 : Int32} {v0 : HouseV} {r : Int32} (hf : House_walkRoom x1 x2 v0 = some r) : Ct E yX2_walkRoom wsX2_walkRoom rmX2_walkRoom [.ref (a0 0), .int x1, .int x2] [wHouse E a0 v0] (fun rv g => rv = some (.int r) ∧ g = [wHouse E a0 v0]) := by
  refine ct_of (own := RX2) (by decide +kernel) rfl rfl (Nat.le_of_ble_eq_true rfl) (fun K C => ?_)
  refine ww_sub C (lv' := [(0, .ref (a0 0)), (1, .int x1), (2, .int x2)]) [0, 1, 2] rfl ?_
  rw [House_walkRoom] at hf
  refine ww_aload_n C dX2_walkRoom_0 rfl 0 rfl ?_
  refine ww_iload_n C dX2_walkRoom_1 rfl 1 rfl ?_
  obtain ⟨p2, hp2, hf⟩ := bdE hf
  refine ww_callV C (As := [.int x1]) (st := []) (gr := []) (c_X2_hasGuard (E := E) (a0 := a0) hp2) gX2_walkRoom_X2_hasGuard rfl yk_X2_hasGuard ⟨by decide, by decide⟩ ⟨by decide, by decide⟩ clOK2 0 0 rfl rfl [0] [] 1 rfl (by decide) rfl rfl (Nat.le_of_ble_eq_true rfl) dX2_walkRoom_2 ?_
  rintro _ _ ⟨rfl, rfl⟩
  refine ww_perm (gs' := [wHouse E a0 v0]) [0] 1 rfl (by decide) rfl ?_
  refine ww_if_eqB (tgt := 28) C dX2_walkRoom_5 (by decide) (fun c_1 => ?_) (fun c_1 => ?_)
  · replace hf := bfE c_1 hf
    refine ww_iconst (v := (-1)) C dX2_walkRoom_28 (by decide) ?_
    obtain rfl := Option.some.inj hf
    exact ww_iret C ⟨rfl, rfl⟩ dX2_walkRoom_29
  · replace hf := btE c_1 hf
    refine ww_iload_n C dX2_walkRoom_8 rfl 2 rfl ?_
    refine ww_if_lt (tgt := 28) C dX2_walkRoom_9 (by decide) (fun c_2 => ?_) (fun c_2 => ?_)
    · replace hf := ifT c_2 hf
      refine ww_iconst (v := (-1)) C dX2_walkRoom_28 (by decide) ?_
      obtain rfl := Option.some.inj hf
      exact ww_iret C ⟨rfl, rfl⟩ dX2_walkRoom_29
    · replace hf := ifF c_2 hf
      refine ww_iload_n C dX2_walkRoom_12 rfl 2 rfl ?_
      refine ww_aload_n C dX2_walkRoom_13 rfl 0 rfl ?_
      refine ww_get C clOK2 in_X2_walkRoom_X2 (w := wHouse E a0 v0) (fs := fsHouse a0 v0) (v := .ref (a0 5)) 0 0 11 rfl q_House (by decide) (by decide +kernel) g_House_periods dX2_walkRoom_14 ?_
      refine ww_iload_n C dX2_walkRoom_17 rfl 1 rfl ?_
      obtain ⟨g_3, hf⟩ := gdE hf
      refine ww_iald C (f := House_periods v0) (w := wHouse E a0 v0) 0 5 rfl c_House_periods (inB_vp g_3) dX2_walkRoom_18 ?_
      refine ww_icmp_ge (tgt := 28) C dX2_walkRoom_19 (by decide) (fun c_4 => ?_) (fun c_4 => ?_)
      · replace hf := ifT c_4 hf
        refine ww_iconst (v := (-1)) C dX2_walkRoom_28 (by decide) ?_
        obtain rfl := Option.some.inj hf
        exact ww_iret C ⟨rfl, rfl⟩ dX2_walkRoom_29
      · replace hf := ifF c_4 hf
        refine ww_iload_n C dX2_walkRoom_22 rfl 2 rfl ?_
        refine ww_bipush (v := 10) C dX2_walkRoom_23 (by decide) ?_
        refine ww_icmp_lt (tgt := 30) C dX2_walkRoom_25 (by decide) (fun c_5 => ?_) (fun c_5 => ?_)
        · replace hf := ifT c_5 hf
          refine ww_aload_n C dX2_walkRoom_30 rfl 0 rfl ?_
          refine ww_get C clOK2 in_X2_walkRoom_X2 (w := wHouse E a0 v0) (fs := fsHouse a0 v0) (v := .ref (a0 7)) 0 0 13 rfl q_House (by decide) (by decide +kernel) g_House_walks dX2_walkRoom_31 ?_
          refine ww_iload_n C dX2_walkRoom_34 rfl 1 rfl ?_
          refine ww_bipush (v := 10) C dX2_walkRoom_35 (by decide) ?_
          refine ww_imul C dX2_walkRoom_37 ?_
          refine ww_iload_n C dX2_walkRoom_38 rfl 2 rfl ?_
          refine ww_iadd C dX2_walkRoom_39 ?_
          obtain ⟨g_6, hf⟩ := gdE hf
          refine ww_iald C (f := House_walks v0) (w := wHouse E a0 v0) 0 7 rfl c_House_walks (inB_vp g_6) dX2_walkRoom_40 ?_
          obtain rfl := Option.some.inj hf
          exact ww_iret C ⟨rfl, rfl⟩ dX2_walkRoom_41
        · replace hf := ifF c_5 hf
          refine ww_iconst (v := (-1)) C dX2_walkRoom_28 (by decide) ?_
          obtain rfl := Option.some.inj hf
          exact ww_iret C ⟨rfl, rfl⟩ dX2_walkRoom_29

theorem yk_X2_walkRoom : yX2_walkRoom.cls = RX2 ∧ yX2_walkRoom.cls ≠ "java/lang/invoke/MethodHandle" ∧ yX2_walkRoom.cls ≠ "java/lang/invoke/VarHandle" ∧ (parseMethodDescriptor yX2_walkRoom.desc).map (fun d => d.parameters.length) = some 2 := by decide +kernel
abbrev rmX2_lastRoom : Room := { frames := 1, cells := 0, slots := 0, locals := 21 }
set_option maxRecDepth 20000 in
theorem in_X2_lastRoom_X2 : ∀ w ∈ u_ws RX2 TX2 19, w ∈ wsX2_lastRoom := by decide +kernel
set_option maxHeartbeats 4000000 in
set_option maxRecDepth 100000 in
theorem c_X2_lastRoom {E : Ex} {a0 : Nat → Nat} {x1 : Int32} {v0 : HouseV} {r : Int32} (hf : House_lastRoom x1 v0 = some r) : Ct E yX2_lastRoom wsX2_lastRoom rmX2_lastRoom [.ref (a0 0), .int x1] [wHouse E a0 v0] (fun rv g => rv = some (.int r) ∧ g = [wHouse E a0 v0]) := by
  refine ct_of (own := RX2) (by decide +kernel) rfl rfl (Nat.le_of_ble_eq_true rfl) (fun K C => ?_)
  refine ww_sub C (lv' := [(0, .ref (a0 0)), (1, .int x1)]) [0, 1] rfl ?_
  rw [House_lastRoom] at hf
  refine ww_aload_n C dX2_lastRoom_0 rfl 0 rfl ?_
  refine ww_iload_n C dX2_lastRoom_1 rfl 1 rfl ?_
  obtain ⟨p2, hp2, hf⟩ := bdE hf
  refine ww_callV C (As := [.int x1]) (st := []) (gr := []) (c_X2_hasGuard (E := E) (a0 := a0) hp2) gX2_lastRoom_X2_hasGuard rfl yk_X2_hasGuard ⟨by decide, by decide⟩ ⟨by decide, by decide⟩ clOK2 0 0 rfl rfl [0] [] 1 rfl (by decide) rfl rfl (Nat.le_of_ble_eq_true rfl) dX2_lastRoom_2 ?_
  rintro _ _ ⟨rfl, rfl⟩
  refine ww_perm (gs' := [wHouse E a0 v0]) [0] 1 rfl (by decide) rfl ?_
  refine ww_if_eqB (tgt := 29) C dX2_lastRoom_5 (by decide) (fun c_1 => ?_) (fun c_1 => ?_)
  · replace hf := bfE c_1 hf
    refine ww_iconst (v := (-1)) C dX2_lastRoom_29 (by decide) ?_
    obtain rfl := Option.some.inj hf
    exact ww_iret C ⟨rfl, rfl⟩ dX2_lastRoom_30
  · replace hf := btE c_1 hf
    refine ww_aload_n C dX2_lastRoom_8 rfl 0 rfl ?_
    refine ww_get C clOK2 in_X2_lastRoom_X2 (w := wHouse E a0 v0) (fs := fsHouse a0 v0) (v := .ref (a0 5)) 0 0 11 rfl q_House (by decide) (by decide +kernel) g_House_periods dX2_lastRoom_9 ?_
    refine ww_iload_n C dX2_lastRoom_12 rfl 1 rfl ?_
    obtain ⟨g_2, hf⟩ := gdE hf
    refine ww_iald C (f := House_periods v0) (w := wHouse E a0 v0) 0 5 rfl c_House_periods (inB_vp g_2) dX2_lastRoom_13 ?_
    refine ww_iconst (v := 1) C dX2_lastRoom_14 (by decide) ?_
    refine ww_icmp_lt (tgt := 29) C dX2_lastRoom_15 (by decide) (fun c_3 => ?_) (fun c_3 => ?_)
    · replace hf := ifT c_3 hf
      refine ww_iconst (v := (-1)) C dX2_lastRoom_29 (by decide) ?_
      obtain rfl := Option.some.inj hf
      exact ww_iret C ⟨rfl, rfl⟩ dX2_lastRoom_30
    · replace hf := ifF c_3 hf
      refine ww_aload_n C dX2_lastRoom_18 rfl 0 rfl ?_
      refine ww_get C clOK2 in_X2_lastRoom_X2 (w := wHouse E a0 v0) (fs := fsHouse a0 v0) (v := .ref (a0 5)) 0 0 11 rfl q_House (by decide) (by decide +kernel) g_House_periods dX2_lastRoom_19 ?_
      refine ww_iload_n C dX2_lastRoom_22 rfl 1 rfl ?_
      refine ww_iald C (f := House_periods v0) (w := wHouse E a0 v0) 0 5 rfl c_House_periods (inB_vp g_2) dX2_lastRoom_23 ?_
      refine ww_bipush (v := 10) C dX2_lastRoom_24 (by decide) ?_
      refine ww_icmp_le (tgt := 31) C dX2_lastRoom_26 (by decide) (fun c_4 => ?_) (fun c_4 => ?_)
      · replace hf := ifT c_4 hf
        refine ww_aload_n C dX2_lastRoom_31 rfl 0 rfl ?_
        refine ww_get C clOK2 in_X2_lastRoom_X2 (w := wHouse E a0 v0) (fs := fsHouse a0 v0) (v := .ref (a0 7)) 0 0 13 rfl q_House (by decide) (by decide +kernel) g_House_walks dX2_lastRoom_32 ?_
        refine ww_iload_n C dX2_lastRoom_35 rfl 1 rfl ?_
        refine ww_bipush (v := 10) C dX2_lastRoom_36 (by decide) ?_
        refine ww_imul C dX2_lastRoom_38 ?_
        refine ww_aload_n C dX2_lastRoom_39 rfl 0 rfl ?_
        refine ww_get C clOK2 in_X2_lastRoom_X2 (w := wHouse E a0 v0) (fs := fsHouse a0 v0) (v := .ref (a0 5)) 0 0 11 rfl q_House (by decide) (by decide +kernel) g_House_periods dX2_lastRoom_40 ?_
        refine ww_iload_n C dX2_lastRoom_43 rfl 1 rfl ?_
        refine ww_iald C (f := House_periods v0) (w := wHouse E a0 v0) 0 5 rfl c_House_periods (inB_vp g_2) dX2_lastRoom_44 ?_
        refine ww_iadd C dX2_lastRoom_45 ?_
        refine ww_iconst (v := 1) C dX2_lastRoom_46 (by decide) ?_
        refine ww_isub C dX2_lastRoom_47 ?_
        obtain ⟨g_5, hf⟩ := gdE hf
        refine ww_iald C (f := House_walks v0) (w := wHouse E a0 v0) 0 7 rfl c_House_walks (inB_vp g_5) dX2_lastRoom_48 ?_
        obtain rfl := Option.some.inj hf
        exact ww_iret C ⟨rfl, rfl⟩ dX2_lastRoom_49
      · replace hf := ifF c_4 hf
        refine ww_iconst (v := (-1)) C dX2_lastRoom_29 (by decide) ?_
        obtain rfl := Option.some.inj hf
        exact ww_iret C ⟨rfl, rfl⟩ dX2_lastRoom_30

theorem yk_X2_lastRoom : yX2_lastRoom.cls = RX2 ∧ yX2_lastRoom.cls ≠ "java/lang/invoke/MethodHandle" ∧ yX2_lastRoom.cls ≠ "java/lang/invoke/VarHandle" ∧ (parseMethodDescriptor yX2_lastRoom.desc).map (fun d => d.parameters.length) = some 1 := by decide +kernel
abbrev rmX2_canGo : Room := { frames := 1, cells := 0, slots := 0, locals := 21 }
set_option maxRecDepth 20000 in
theorem in_X2_canGo_X2 : ∀ w ∈ u_ws RX2 TX2 19, w ∈ wsX2_canGo := by decide +kernel
set_option maxHeartbeats 4000000 in
set_option maxRecDepth 100000 in
theorem c_X2_canGo {E : Ex} {a0 : Nat → Nat} {x1 : Int32} {x2 : Int32} {v0 : HouseV} {r : Bool} (hf : House_canGo x1 x2 v0 = some r) : Ct E yX2_canGo wsX2_canGo rmX2_canGo [.ref (a0 0), .int x1, .int x2] [wHouse E a0 v0] (fun rv g => rv = some (.int (b2i r)) ∧ g = [wHouse E a0 v0]) := by
  refine ct_of (own := RX2) (by decide +kernel) rfl rfl (Nat.le_of_ble_eq_true rfl) (fun K C => ?_)
  refine ww_sub C (lv' := [(0, .ref (a0 0)), (1, .int x1), (2, .int x2)]) [0, 1, 2] rfl ?_
  rw [House_canGo] at hf
  refine ww_iload_n C dX2_canGo_0 rfl 1 rfl ?_
  refine ww_iconst (v := (-1)) C dX2_canGo_1 (by decide) ?_
  refine ww_icmp_eq (tgt := 31) C dX2_canGo_2 (by decide) (fun c_1 => ?_) (fun c_1 => ?_)
  · replace hf := ifT c_1 hf
    refine ww_iconst (v := 1) C dX2_canGo_31 (by decide) ?_
    refine ww_goto (tgt := 36) C dX2_canGo_32 (by decide) ?_
    obtain rfl := Option.some.inj hf
    exact ww_zret C (nar_b true) ⟨rfl, rfl⟩ dX2_canGo_36
  · replace hf := ifF c_1 hf
    refine ww_iload_n C dX2_canGo_5 rfl 1 rfl ?_
    refine ww_iload_n C dX2_canGo_6 rfl 2 rfl ?_
    refine ww_icmp_eq (tgt := 31) C dX2_canGo_7 (by decide) (fun c_2 => ?_) (fun c_2 => ?_)
    · replace hf := ifT c_2 hf
      refine ww_iconst (v := 1) C dX2_canGo_31 (by decide) ?_
      refine ww_goto (tgt := 36) C dX2_canGo_32 (by decide) ?_
      obtain rfl := Option.some.inj hf
      exact ww_zret C (nar_b true) ⟨rfl, rfl⟩ dX2_canGo_36
    · replace hf := ifF c_2 hf
      refine ww_aload_n C dX2_canGo_10 rfl 0 rfl ?_
      refine ww_iload_n C dX2_canGo_11 rfl 1 rfl ?_
      obtain ⟨p12, hp12, hf⟩ := bdE hf
      refine ww_callV C (As := [.int x1]) (st := []) (gr := []) (c_X2_hasRoom (E := E) (a0 := a0) hp12) gX2_canGo_X2_hasRoom rfl yk_X2_hasRoom ⟨by decide, by decide⟩ ⟨by decide, by decide⟩ clOK2 0 0 rfl rfl [0] [] 1 rfl (by decide) rfl rfl (Nat.le_of_ble_eq_true rfl) dX2_canGo_12 ?_
      rintro _ _ ⟨rfl, rfl⟩
      refine ww_perm (gs' := [wHouse E a0 v0]) [0] 1 rfl (by decide) rfl ?_
      refine ww_if_eqB (tgt := 35) C dX2_canGo_15 (by decide) (fun c_3 => ?_) (fun c_3 => ?_)
      · replace hf := bfE c_3 hf
        refine ww_iconst (v := 0) C dX2_canGo_35 (by decide) ?_
        obtain rfl := Option.some.inj hf
        exact ww_zret C (nar_b false) ⟨rfl, rfl⟩ dX2_canGo_36
      · replace hf := btE c_3 hf
        refine ww_aload_n C dX2_canGo_18 rfl 0 rfl ?_
        refine ww_get C clOK2 in_X2_canGo_X2 (w := wHouse E a0 v0) (fs := fsHouse a0 v0) (v := .ref (a0 3)) 0 0 9 rfl q_House (by decide) (by decide +kernel) g_House_joined dX2_canGo_19 ?_
        refine ww_iload_n C dX2_canGo_22 rfl 1 rfl ?_
        obtain ⟨g_4, hf⟩ := gdE hf
        refine ww_iald C (f := House_joined v0) (w := wHouse E a0 v0) 0 3 rfl c_House_joined (inB_vp g_4) dX2_canGo_23 ?_
        refine ww_iload_n C dX2_canGo_24 rfl 2 rfl ?_
        obtain ⟨p25, hp25, hf⟩ := bdE hf
        refine ww_callSN C (As := [.int ((House_joined v0) (Int32.toNatClampNeg x1)), .int x2]) (st := []) (gr := [wHouse E a0 v0]) (host := RX8) (c_X8_has (E := E)  hp25) gX2_canGo_X8_has_n86 rfl (by decide +kernel) (by decide +kernel) (by decide +kernel) ysk_X8_has ⟨by decide, by decide⟩ ⟨by decide, by decide⟩ [] [0] 1 rfl (by decide) rfl rfl (Nat.le_of_ble_eq_true rfl) dX2_canGo_25 ?_
        rintro _ _ ⟨rfl, rfl⟩
        refine ww_perm (gs' := [wHouse E a0 v0]) [0] 1 rfl (by decide) rfl ?_
        refine ww_if_eqB (tgt := 35) C dX2_canGo_28 (by decide) (fun c_5 => ?_) (fun c_5 => ?_)
        · replace hf := bfE c_5 hf
          refine ww_iconst (v := 0) C dX2_canGo_35 (by decide) ?_
          obtain rfl := Option.some.inj hf
          exact ww_zret C (nar_b false) ⟨rfl, rfl⟩ dX2_canGo_36
        · replace hf := btE c_5 hf
          refine ww_iconst (v := 1) C dX2_canGo_31 (by decide) ?_
          refine ww_goto (tgt := 36) C dX2_canGo_32 (by decide) ?_
          obtain rfl := Option.some.inj hf
          exact ww_zret C (nar_b true) ⟨rfl, rfl⟩ dX2_canGo_36

theorem yk_X2_canGo : yX2_canGo.cls = RX2 ∧ yX2_canGo.cls ≠ "java/lang/invoke/MethodHandle" ∧ yX2_canGo.cls ≠ "java/lang/invoke/VarHandle" ∧ (parseMethodDescriptor yX2_canGo.desc).map (fun d => d.parameters.length) = some 2 := by decide +kernel
abbrev rmX2_goesThrough : Room := { frames := 2, cells := 0, slots := 0, locals := 43 }
set_option maxHeartbeats 4000000 in
set_option maxRecDepth 100000 in
theorem w_X2_goesThrough_49 {E : Ex} {K : Kx} (C : Cx E K cX2_goesThrough 7 (some .boolean) RX2 wsX2_goesThrough rmX2_goesThrough) {a0 : Nat → Nat} {x1 : Int32} {x2 : Int32} {x3 : Int32} {v0 : HouseV}  {x4 : Int32} {x5 : Int32} {x6 : Int32} {k10 : Int32 → Int32 → Option Bool} {r : Bool} (hk10 : ∀ (x4 : Int32) (x5 : Int32), k10 x4 x5 = some r → WW E K 0 0 (QQ E K (fun rv g => rv = some (.int (b2i r)) ∧ g = [wHouse E a0 v0]) 0 0) 10 [(0, .ref (a0 0)), (1, .int x1), (2, .int x2), (3, .int x3), (4, .int x4), (5, .int x5)] [] [wHouse E a0 v0]) (hf : House_goesThrough_49 x1 x2 x3 v0 k10 x4 x5 x6 = some r) : WW E K 0 0 (QQ E K (fun rv g => rv = some (.int (b2i r)) ∧ g = [wHouse E a0 v0]) 0 0) 49 [(0, .ref (a0 0)), (1, .int x1), (2, .int x2), (3, .int x3), (4, .int x4), (5, .int x5), (6, .int x6)] [] [wHouse E a0 v0] := by
  rw [House_goesThrough_49] at hf
  refine ww_iload C dX2_goesThrough_49 4 rfl ?_
  refine ww_iload_n C dX2_goesThrough_51 rfl 3 rfl ?_
  refine ww_icmp_ne (tgt := 63) C dX2_goesThrough_52 (by decide) (fun c_5 => ?_) (fun c_5 => ?_)
  · replace hf := ifF c_5 hf
    refine ww_iload C dX2_goesThrough_63 6 rfl ?_
    refine ww_istore (lv' := [(4, .int x6), (0, .ref (a0 0)), (1, .int x1), (2, .int x2), (3, .int x3), (5, .int x5), (6, .int x6)]) C dX2_goesThrough_65 (by decide) rfl ?_
    obtain ⟨x5_67, e_x5_67⟩ : ∃ y : Int32, y = x5 + 1 := ⟨_, rfl⟩
    replace hf := ltE e_x5_67 hf
    refine ww_iinc (v := x5_67) (lv' := [(5, .int x5_67), (4, .int x6), (0, .ref (a0 0)), (1, .int x1), (2, .int x2), (3, .int x3), (6, .int x6)]) C dX2_goesThrough_67 5 rfl (by rw [e_x5_67]; rfl) (by decide) rfl ?_
    refine ww_goto (tgt := 10) C dX2_goesThrough_70 (by decide) ?_
    refine ww_sub C (lv' := [(0, .ref (a0 0)), (1, .int x1), (2, .int x2), (3, .int x3), (4, .int x6), (5, .int x5_67)]) [2, 3, 4, 5, 1, 0] rfl ?_
    exact hk10 _ _ hf
  · replace hf := ifT c_5 hf
    refine ww_iload C dX2_goesThrough_55 6 rfl ?_
    refine ww_iload_n C dX2_goesThrough_57 rfl 2 rfl ?_
    refine ww_icmp_ne (tgt := 63) C dX2_goesThrough_58 (by decide) (fun c_6 => ?_) (fun c_6 => ?_)
    · replace hf := ifF c_6 hf
      refine ww_iload C dX2_goesThrough_63 6 rfl ?_
      refine ww_istore (lv' := [(4, .int x6), (0, .ref (a0 0)), (1, .int x1), (2, .int x2), (3, .int x3), (5, .int x5), (6, .int x6)]) C dX2_goesThrough_65 (by decide) rfl ?_
      obtain ⟨x5_67, e_x5_67⟩ : ∃ y : Int32, y = x5 + 1 := ⟨_, rfl⟩
      replace hf := ltE e_x5_67 hf
      refine ww_iinc (v := x5_67) (lv' := [(5, .int x5_67), (4, .int x6), (0, .ref (a0 0)), (1, .int x1), (2, .int x2), (3, .int x3), (6, .int x6)]) C dX2_goesThrough_67 5 rfl (by rw [e_x5_67]; rfl) (by decide) rfl ?_
      refine ww_goto (tgt := 10) C dX2_goesThrough_70 (by decide) ?_
      refine ww_sub C (lv' := [(0, .ref (a0 0)), (1, .int x1), (2, .int x2), (3, .int x3), (4, .int x6), (5, .int x5_67)]) [2, 3, 4, 5, 1, 0] rfl ?_
      exact hk10 _ _ hf
    · replace hf := ifT c_6 hf
      refine ww_iconst (v := 1) C dX2_goesThrough_61 (by decide) ?_
      obtain rfl := Option.some.inj hf
      exact ww_zret C (nar_b true) ⟨rfl, rfl⟩ dX2_goesThrough_62

set_option maxHeartbeats 4000000 in
set_option maxRecDepth 100000 in
theorem w_X2_goesThrough_10 {E : Ex} {K : Kx} (C : Cx E K cX2_goesThrough 7 (some .boolean) RX2 wsX2_goesThrough rmX2_goesThrough) {a0 : Nat → Nat} {x1 : Int32} {x2 : Int32} {x3 : Int32} {v0 : HouseV}  {r : Bool} : ∀ (n : Nat) (x4 : Int32) (x5 : Int32), House_goesThrough_10 x1 x2 x3 v0 n x4 x5 = some r → WW E K 0 0 (QQ E K (fun rv g => rv = some (.int (b2i r)) ∧ g = [wHouse E a0 v0]) 0 0) 10 [(0, .ref (a0 0)), (1, .int x1), (2, .int x2), (3, .int x3), (4, .int x4), (5, .int x5)] [] [wHouse E a0 v0] := by
  intro n
  induction n with
  | zero =>
    intro x4 x5 hf
    simp [House_goesThrough_10] at hf
  | succ n ih =>
    intro x4 x5 hf
    rw [House_goesThrough_10] at hf
    refine ww_iload C dX2_goesThrough_10 5 rfl ?_
    refine ww_bipush (v := 10) C dX2_goesThrough_12 (by decide) ?_
    refine ww_icmp_ge (tgt := 73) C dX2_goesThrough_14 (by decide) (fun c_1 => ?_) (fun c_1 => ?_)
    · replace hf := ifT c_1 hf
      refine ww_iconst (v := 0) C dX2_goesThrough_73 (by decide) ?_
      obtain rfl := Option.some.inj hf
      exact ww_zret C (nar_b false) ⟨rfl, rfl⟩ dX2_goesThrough_74
    · replace hf := ifF c_1 hf
      refine ww_aload_n C dX2_goesThrough_17 rfl 0 rfl ?_
      refine ww_iload_n C dX2_goesThrough_18 rfl 1 rfl ?_
      refine ww_iload C dX2_goesThrough_19 5 rfl ?_
      obtain ⟨p21, hp21, hf⟩ := bdE hf
      refine ww_callV C (As := [.int x1, .int x5]) (st := []) (gr := []) (c_X2_walkRoom (E := E) (a0 := a0) hp21) gX2_goesThrough_X2_walkRoom rfl yk_X2_walkRoom ⟨by decide, by decide⟩ ⟨by decide, by decide⟩ clOK2 0 0 rfl rfl [0] [] 1 rfl (by decide) rfl rfl (Nat.le_of_ble_eq_true rfl) dX2_goesThrough_21 ?_
      rintro _ _ ⟨rfl, rfl⟩
      refine ww_perm (gs' := [wHouse E a0 v0]) [0] 1 rfl (by decide) rfl ?_
      refine ww_iconst (v := (-1)) C dX2_goesThrough_24 (by decide) ?_
      refine ww_icmp_eq (tgt := 73) C dX2_goesThrough_25 (by decide) (fun c_2 => ?_) (fun c_2 => ?_)
      · replace hf := ifT c_2 hf
        refine ww_iconst (v := 0) C dX2_goesThrough_73 (by decide) ?_
        obtain rfl := Option.some.inj hf
        exact ww_zret C (nar_b false) ⟨rfl, rfl⟩ dX2_goesThrough_74
      · replace hf := ifF c_2 hf
        refine ww_aload_n C dX2_goesThrough_28 rfl 0 rfl ?_
        refine ww_iload_n C dX2_goesThrough_29 rfl 1 rfl ?_
        refine ww_iload C dX2_goesThrough_30 5 rfl ?_
        obtain ⟨p32, hp32, hf⟩ := bdE hf
        refine ww_callV C (As := [.int x1, .int x5]) (st := []) (gr := []) (c_X2_walkRoom (E := E) (a0 := a0) hp32) gX2_goesThrough_X2_walkRoom rfl yk_X2_walkRoom ⟨by decide, by decide⟩ ⟨by decide, by decide⟩ clOK2 0 0 rfl rfl [0] [] 1 rfl (by decide) rfl rfl (Nat.le_of_ble_eq_true rfl) dX2_goesThrough_32 ?_
        rintro _ _ ⟨rfl, rfl⟩
        refine ww_perm (gs' := [wHouse E a0 v0]) [0] 1 rfl (by decide) rfl ?_
        refine ww_istore (lv' := [(6, .int p32), (0, .ref (a0 0)), (1, .int x1), (2, .int x2), (3, .int x3), (4, .int x4), (5, .int x5)]) C dX2_goesThrough_35 (by decide) rfl ?_
        refine ww_iload C dX2_goesThrough_37 5 rfl ?_
        refine ww_iload_n C dX2_goesThrough_39 rfl 3 rfl ?_
        refine ww_icmp_ne (tgt := 49) C dX2_goesThrough_40 (by decide) (fun c_3 => ?_) (fun c_3 => ?_)
        · replace hf := ifF c_3 hf
          refine ww_sub C (lv' := [(0, .ref (a0 0)), (1, .int x1), (2, .int x2), (3, .int x3), (4, .int x4), (5, .int x5), (6, .int p32)]) [1, 2, 3, 4, 5, 6, 0] rfl ?_
          exact w_X2_goesThrough_49 C (k10 := (fun (x4 : Int32) (x5 : Int32) => House_goesThrough_10 x1 x2 x3 v0 n x4 x5)) ih hf
        · replace hf := ifT c_3 hf
          refine ww_iload C dX2_goesThrough_43 0 rfl ?_
          refine ww_iload_n C dX2_goesThrough_45 rfl 4 rfl ?_
          refine ww_icmp_eq (tgt := 61) C dX2_goesThrough_46 (by decide) (fun c_4 => ?_) (fun c_4 => ?_)
          · replace hf := ifT c_4 hf
            refine ww_iconst (v := 1) C dX2_goesThrough_61 (by decide) ?_
            obtain rfl := Option.some.inj hf
            exact ww_zret C (nar_b true) ⟨rfl, rfl⟩ dX2_goesThrough_62
          · replace hf := ifF c_4 hf
            refine ww_sub C (lv' := [(0, .ref (a0 0)), (1, .int x1), (2, .int x2), (3, .int x3), (4, .int x4), (5, .int x5), (6, .int p32)]) [1, 2, 3, 4, 5, 6, 0] rfl ?_
            exact w_X2_goesThrough_49 C (k10 := (fun (x4 : Int32) (x5 : Int32) => House_goesThrough_10 x1 x2 x3 v0 n x4 x5)) ih hf

set_option maxHeartbeats 4000000 in
set_option maxRecDepth 100000 in
theorem c_X2_goesThrough {E : Ex} {a0 : Nat → Nat} {x1 : Int32} {x2 : Int32} {x3 : Int32} {v0 : HouseV} {r : Bool} (hf : House_goesThrough x1 x2 x3 v0 = some r) : Ct E yX2_goesThrough wsX2_goesThrough rmX2_goesThrough [.ref (a0 0), .int x1, .int x2, .int x3] [wHouse E a0 v0] (fun rv g => rv = some (.int (b2i r)) ∧ g = [wHouse E a0 v0]) := by
  refine ct_of (own := RX2) (by decide +kernel) rfl rfl (Nat.le_of_ble_eq_true rfl) (fun K C => ?_)
  refine ww_sub C (lv' := [(0, .ref (a0 0)), (1, .int x1), (2, .int x2), (3, .int x3)]) [0, 1, 2, 3] rfl ?_
  rw [House_goesThrough] at hf
  refine ww_aload_n C dX2_goesThrough_0 rfl 0 rfl ?_
  refine ww_iload_n C dX2_goesThrough_1 rfl 1 rfl ?_
  obtain ⟨p2, hp2, hf⟩ := bdE hf
  refine ww_callV C (As := [.int x1]) (st := []) (gr := []) (c_X2_lastRoom (E := E) (a0 := a0) hp2) gX2_goesThrough_X2_lastRoom rfl yk_X2_lastRoom ⟨by decide, by decide⟩ ⟨by decide, by decide⟩ clOK2 0 0 rfl rfl [0] [] 1 rfl (by decide) rfl rfl (Nat.le_of_ble_eq_true rfl) dX2_goesThrough_2 ?_
  rintro _ _ ⟨rfl, rfl⟩
  refine ww_perm (gs' := [wHouse E a0 v0]) [0] 1 rfl (by decide) rfl ?_
  refine ww_istore (lv' := [(4, .int p2), (0, .ref (a0 0)), (1, .int x1), (2, .int x2), (3, .int x3)]) C dX2_goesThrough_5 (by decide) rfl ?_
  refine ww_iconst (v := 0) C dX2_goesThrough_7 (by decide) ?_
  refine ww_istore (lv' := [(5, .int 0), (4, .int p2), (0, .ref (a0 0)), (1, .int x1), (2, .int x2), (3, .int x3)]) C dX2_goesThrough_8 (by decide) rfl ?_
  refine ww_sub C (lv' := [(0, .ref (a0 0)), (1, .int x1), (2, .int x2), (3, .int x3), (4, .int p2), (5, .int 0)]) [2, 3, 4, 5, 1, 0] rfl ?_
  exact w_X2_goesThrough_10 C FU _ _ hf

theorem yk_X2_goesThrough : yX2_goesThrough.cls = RX2 ∧ yX2_goesThrough.cls ≠ "java/lang/invoke/MethodHandle" ∧ yX2_goesThrough.cls ≠ "java/lang/invoke/VarHandle" ∧ (parseMethodDescriptor yX2_goesThrough.desc).map (fun d => d.parameters.length) = some 3 := by decide +kernel
abbrev rmX2_countGuardsThrough : Room := { frames := 3, cells := 0, slots := 0, locals := 69 }
set_option maxRecDepth 20000 in
theorem in_X2_countGuardsThrough_X2 : ∀ w ∈ u_ws RX2 TX2 19, w ∈ wsX2_countGuardsThrough := by decide +kernel
set_option maxHeartbeats 4000000 in
set_option maxRecDepth 100000 in
theorem w_X2_countGuardsThrough_14 {E : Ex} {K : Kx} (C : Cx E K cX2_countGuardsThrough 4 (some .int) RX2 wsX2_countGuardsThrough rmX2_countGuardsThrough) {a0 : Nat → Nat} {x1 : Int32} {v0 : HouseV}  {r : Int32} : ∀ (n : Nat) (x2 : Int32) (x3 : Int32), House_countGuardsThrough_14 x1 v0 n x2 x3 = some r → WW E K 0 0 (QQ E K (fun rv g => rv = some (.int r) ∧ g = [wHouse E a0 v0]) 0 0) 14 [(0, .ref (a0 0)), (1, .int x1), (2, .int x2), (3, .int x3)] [] [wHouse E a0 v0] := by
  intro n
  induction n with
  | zero =>
    intro x2 x3 hf
    simp [House_countGuardsThrough_14] at hf
  | succ n ih =>
    intro x2 x3 hf
    rw [House_countGuardsThrough_14] at hf
    refine ww_iload_n C dX2_countGuardsThrough_14 rfl 3 rfl ?_
    refine ww_aload_n C dX2_countGuardsThrough_15 rfl 0 rfl ?_
    refine ww_get C clOK2 in_X2_countGuardsThrough_X2 (w := wHouse E a0 v0) (fs := fsHouse a0 v0) (v := .int (House_guards v0)) 0 0 2 rfl q_House (by decide) (by decide +kernel) g_House_guards dX2_countGuardsThrough_16 ?_
    refine ww_icmp_ge (tgt := 51) C dX2_countGuardsThrough_19 (by decide) (fun c_2 => ?_) (fun c_2 => ?_)
    · replace hf := ifT c_2 hf
      refine ww_iload_n C dX2_countGuardsThrough_51 rfl 2 rfl ?_
      obtain rfl := Option.some.inj hf
      exact ww_iret C ⟨rfl, rfl⟩ dX2_countGuardsThrough_52
    · replace hf := ifF c_2 hf
      refine ww_aload_n C dX2_countGuardsThrough_22 rfl 0 rfl ?_
      refine ww_iload_n C dX2_countGuardsThrough_23 rfl 3 rfl ?_
      refine ww_aload_n C dX2_countGuardsThrough_24 rfl 0 rfl ?_
      refine ww_get C clOK2 in_X2_countGuardsThrough_X2 (w := wHouse E a0 v0) (fs := fsHouse a0 v0) (v := .ref (a0 1)) 0 0 7 rfl q_House (by decide) (by decide +kernel) g_House_doorFirst dX2_countGuardsThrough_25 ?_
      refine ww_iload_n C dX2_countGuardsThrough_28 rfl 1 rfl ?_
      obtain ⟨g_3, hf⟩ := gdE hf
      refine ww_iald C (f := House_doorFirst v0) (w := wHouse E a0 v0) 0 1 rfl c_House_doorFirst (inB_vp g_3) dX2_countGuardsThrough_29 ?_
      refine ww_aload_n C dX2_countGuardsThrough_30 rfl 0 rfl ?_
      refine ww_get C clOK2 in_X2_countGuardsThrough_X2 (w := wHouse E a0 v0) (fs := fsHouse a0 v0) (v := .ref (a0 2)) 0 0 8 rfl q_House (by decide) (by decide +kernel) g_House_doorSecond dX2_countGuardsThrough_31 ?_
      refine ww_iload_n C dX2_countGuardsThrough_34 rfl 1 rfl ?_
      refine ww_iald C (f := House_doorSecond v0) (w := wHouse E a0 v0) 0 2 rfl c_House_doorSecond (inB_vp g_3) dX2_countGuardsThrough_35 ?_
      obtain ⟨p36, hp36, hf⟩ := bdE hf
      refine ww_callV C (As := [.int x3, .int ((House_doorFirst v0) (Int32.toNatClampNeg x1)), .int ((House_doorSecond v0) (Int32.toNatClampNeg x1))]) (st := []) (gr := []) (c_X2_goesThrough (E := E) (a0 := a0) hp36) gX2_countGuardsThrough_X2_goesThrough rfl yk_X2_goesThrough ⟨by decide, by decide⟩ ⟨by decide, by decide⟩ clOK2 0 0 rfl rfl [0] [] 1 rfl (by decide) rfl rfl (Nat.le_of_ble_eq_true rfl) dX2_countGuardsThrough_36 ?_
      rintro _ _ ⟨rfl, rfl⟩
      refine ww_perm (gs' := [wHouse E a0 v0]) [0] 1 rfl (by decide) rfl ?_
      refine ww_if_eqB (tgt := 45) C dX2_countGuardsThrough_39 (by decide) (fun c_4 => ?_) (fun c_4 => ?_)
      · replace hf := bfE c_4 hf
        obtain ⟨x3_45, e_x3_45⟩ : ∃ y : Int32, y = x3 + 1 := ⟨_, rfl⟩
        replace hf := ltE e_x3_45 hf
        refine ww_iinc (v := x3_45) (lv' := [(3, .int x3_45), (0, .ref (a0 0)), (1, .int x1), (2, .int x2)]) C dX2_countGuardsThrough_45 3 rfl (by rw [e_x3_45]; rfl) (by decide) rfl ?_
        refine ww_goto (tgt := 14) C dX2_countGuardsThrough_48 (by decide) ?_
        refine ww_sub C (lv' := [(0, .ref (a0 0)), (1, .int x1), (2, .int x2), (3, .int x3_45)]) [1, 2, 3, 0] rfl ?_
        exact ih _ _ hf
      · replace hf := btE c_4 hf
        obtain ⟨x2_42, e_x2_42⟩ : ∃ y : Int32, y = x2 + 1 := ⟨_, rfl⟩
        replace hf := ltE e_x2_42 hf
        refine ww_iinc (v := x2_42) (lv' := [(2, .int x2_42), (0, .ref (a0 0)), (1, .int x1), (3, .int x3)]) C dX2_countGuardsThrough_42 2 rfl (by rw [e_x2_42]; rfl) (by decide) rfl ?_
        obtain ⟨x3_45, e_x3_45⟩ : ∃ y : Int32, y = x3 + 1 := ⟨_, rfl⟩
        replace hf := ltE e_x3_45 hf
        refine ww_iinc (v := x3_45) (lv' := [(3, .int x3_45), (2, .int x2_42), (0, .ref (a0 0)), (1, .int x1)]) C dX2_countGuardsThrough_45 3 rfl (by rw [e_x3_45]; rfl) (by decide) rfl ?_
        refine ww_goto (tgt := 14) C dX2_countGuardsThrough_48 (by decide) ?_
        refine ww_sub C (lv' := [(0, .ref (a0 0)), (1, .int x1), (2, .int x2_42), (3, .int x3_45)]) [2, 3, 1, 0] rfl ?_
        exact ih _ _ hf

set_option maxHeartbeats 4000000 in
set_option maxRecDepth 100000 in
theorem c_X2_countGuardsThrough {E : Ex} {a0 : Nat → Nat} {x1 : Int32} {v0 : HouseV} {r : Int32} (hf : House_countGuardsThrough x1 v0 = some r) : Ct E yX2_countGuardsThrough wsX2_countGuardsThrough rmX2_countGuardsThrough [.ref (a0 0), .int x1] [wHouse E a0 v0] (fun rv g => rv = some (.int r) ∧ g = [wHouse E a0 v0]) := by
  refine ct_of (own := RX2) (by decide +kernel) rfl rfl (Nat.le_of_ble_eq_true rfl) (fun K C => ?_)
  refine ww_sub C (lv' := [(0, .ref (a0 0)), (1, .int x1)]) [0, 1] rfl ?_
  rw [House_countGuardsThrough] at hf
  refine ww_aload_n C dX2_countGuardsThrough_0 rfl 0 rfl ?_
  refine ww_iload_n C dX2_countGuardsThrough_1 rfl 1 rfl ?_
  obtain ⟨p2, hp2, hf⟩ := bdE hf
  refine ww_callV C (As := [.int x1]) (st := []) (gr := []) (c_X2_hasDoor (E := E) (a0 := a0) hp2) gX2_countGuardsThrough_X2_hasDoor rfl yk_X2_hasDoor ⟨by decide, by decide⟩ ⟨by decide, by decide⟩ clOK2 0 0 rfl rfl [0] [] 1 rfl (by decide) rfl rfl (Nat.le_of_ble_eq_true rfl) dX2_countGuardsThrough_2 ?_
  rintro _ _ ⟨rfl, rfl⟩
  refine ww_perm (gs' := [wHouse E a0 v0]) [0] 1 rfl (by decide) rfl ?_
  refine ww_if_neB (tgt := 10) C dX2_countGuardsThrough_5 (by decide) (fun c_1 => ?_) (fun c_1 => ?_)
  · replace hf := btE c_1 hf
    refine ww_iconst (v := 0) C dX2_countGuardsThrough_10 (by decide) ?_
    refine ww_istore_n (lv' := [(2, .int 0), (0, .ref (a0 0)), (1, .int x1)]) C dX2_countGuardsThrough_11 rfl (by decide) rfl ?_
    refine ww_iconst (v := 0) C dX2_countGuardsThrough_12 (by decide) ?_
    refine ww_istore_n (lv' := [(3, .int 0), (2, .int 0), (0, .ref (a0 0)), (1, .int x1)]) C dX2_countGuardsThrough_13 rfl (by decide) rfl ?_
    refine ww_sub C (lv' := [(0, .ref (a0 0)), (1, .int x1), (2, .int 0), (3, .int 0)]) [2, 3, 1, 0] rfl ?_
    exact w_X2_countGuardsThrough_14 C FU _ _ hf
  · replace hf := bfE c_1 hf
    refine ww_iconst (v := 0) C dX2_countGuardsThrough_8 (by decide) ?_
    obtain rfl := Option.some.inj hf
    exact ww_iret C ⟨rfl, rfl⟩ dX2_countGuardsThrough_9

theorem yk_X2_countGuardsThrough : yX2_countGuardsThrough.cls = RX2 ∧ yX2_countGuardsThrough.cls ≠ "java/lang/invoke/MethodHandle" ∧ yX2_countGuardsThrough.cls ≠ "java/lang/invoke/VarHandle" ∧ (parseMethodDescriptor yX2_countGuardsThrough.desc).map (fun d => d.parameters.length) = some 1 := by decide +kernel
abbrev rmX2_cycleLength : Room := { frames := 1, cells := 0, slots := 0, locals := 22 }
set_option maxRecDepth 20000 in
theorem in_X2_cycleLength_X2 : ∀ w ∈ u_ws RX2 TX2 19, w ∈ wsX2_cycleLength := by decide +kernel
set_option maxHeartbeats 4000000 in
set_option maxRecDepth 100000 in
theorem w_X2_cycleLength_4 {E : Ex} {K : Kx} (C : Cx E K cX2_cycleLength 3 (some .int) RX2 wsX2_cycleLength rmX2_cycleLength) {a0 : Nat → Nat} {v0 : HouseV}  {r : Int32} : ∀ (n : Nat) (x1 : Int32) (x2 : Int32), House_cycleLength_4 v0 n x1 x2 = some r → WW E K 0 0 (QQ E K (fun rv g => rv = some (.int r) ∧ g = [wHouse E a0 v0]) 0 0) 4 [(0, .ref (a0 0)), (1, .int x1), (2, .int x2)] [] [wHouse E a0 v0] := by
  intro n
  induction n with
  | zero =>
    intro x1 x2 hf
    simp [House_cycleLength_4] at hf
  | succ n ih =>
    intro x1 x2 hf
    rw [House_cycleLength_4] at hf
    refine ww_iload_n C dX2_cycleLength_4 rfl 2 rfl ?_
    refine ww_aload_n C dX2_cycleLength_5 rfl 0 rfl ?_
    refine ww_get C clOK2 in_X2_cycleLength_X2 (w := wHouse E a0 v0) (fs := fsHouse a0 v0) (v := .int (House_guards v0)) 0 0 2 rfl q_House (by decide) (by decide +kernel) g_House_guards dX2_cycleLength_6 ?_
    refine ww_icmp_ge (tgt := 34) C dX2_cycleLength_9 (by decide) (fun c_1 => ?_) (fun c_1 => ?_)
    · replace hf := ifT c_1 hf
      refine ww_iload_n C dX2_cycleLength_34 rfl 1 rfl ?_
      obtain rfl := Option.some.inj hf
      exact ww_iret C ⟨rfl, rfl⟩ dX2_cycleLength_35
    · replace hf := ifF c_1 hf
      refine ww_iload_n C dX2_cycleLength_12 rfl 2 rfl ?_
      refine ww_iconst (v := 4) C dX2_cycleLength_13 (by decide) ?_
      refine ww_icmp_ge (tgt := 34) C dX2_cycleLength_14 (by decide) (fun c_2 => ?_) (fun c_2 => ?_)
      · replace hf := ifT c_2 hf
        refine ww_iload_n C dX2_cycleLength_34 rfl 1 rfl ?_
        obtain rfl := Option.some.inj hf
        exact ww_iret C ⟨rfl, rfl⟩ dX2_cycleLength_35
      · replace hf := ifF c_2 hf
        refine ww_iload_n C dX2_cycleLength_17 rfl 1 rfl ?_
        refine ww_aload_n C dX2_cycleLength_18 rfl 0 rfl ?_
        refine ww_get C clOK2 in_X2_cycleLength_X2 (w := wHouse E a0 v0) (fs := fsHouse a0 v0) (v := .ref (a0 5)) 0 0 11 rfl q_House (by decide) (by decide +kernel) g_House_periods dX2_cycleLength_19 ?_
        refine ww_iload_n C dX2_cycleLength_22 rfl 2 rfl ?_
        obtain ⟨g_3, hf⟩ := gdE hf
        refine ww_iald C (f := House_periods v0) (w := wHouse E a0 v0) 0 5 rfl c_House_periods (inB_vp g_3) dX2_cycleLength_23 ?_
        obtain ⟨p24, hp24, hf⟩ := bdE hf
        refine ww_callSN C (As := [.int x1, .int ((House_periods v0) (Int32.toNatClampNeg x2))]) (st := []) (gr := [wHouse E a0 v0]) (host := RX8) (c_X8_leastMultiple (E := E)  hp24) gX2_cycleLength_X8_leastMultiple_n127 rfl (by decide +kernel) (by decide +kernel) (by decide +kernel) ysk_X8_leastMultiple ⟨by decide, by decide⟩ ⟨by decide, by decide⟩ [] [0] 1 rfl (by decide) rfl rfl (Nat.le_of_ble_eq_true rfl) dX2_cycleLength_24 ?_
        rintro _ _ ⟨rfl, rfl⟩
        refine ww_perm (gs' := [wHouse E a0 v0]) [0] 1 rfl (by decide) rfl ?_
        refine ww_istore_n (lv' := [(1, .int p24), (0, .ref (a0 0)), (2, .int x2)]) C dX2_cycleLength_27 rfl (by decide) rfl ?_
        obtain ⟨x2_28, e_x2_28⟩ : ∃ y : Int32, y = x2 + 1 := ⟨_, rfl⟩
        replace hf := ltE e_x2_28 hf
        refine ww_iinc (v := x2_28) (lv' := [(2, .int x2_28), (1, .int p24), (0, .ref (a0 0))]) C dX2_cycleLength_28 2 rfl (by rw [e_x2_28]; rfl) (by decide) rfl ?_
        refine ww_goto (tgt := 4) C dX2_cycleLength_31 (by decide) ?_
        refine ww_sub C (lv' := [(0, .ref (a0 0)), (1, .int p24), (2, .int x2_28)]) [2, 1, 0] rfl ?_
        exact ih _ _ hf

set_option maxHeartbeats 4000000 in
set_option maxRecDepth 100000 in
theorem c_X2_cycleLength {E : Ex} {a0 : Nat → Nat} {v0 : HouseV} {r : Int32} (hf : House_cycleLength v0 = some r) : Ct E yX2_cycleLength wsX2_cycleLength rmX2_cycleLength [.ref (a0 0)] [wHouse E a0 v0] (fun rv g => rv = some (.int r) ∧ g = [wHouse E a0 v0]) := by
  refine ct_of (own := RX2) (by decide +kernel) rfl rfl (Nat.le_of_ble_eq_true rfl) (fun K C => ?_)
  refine ww_sub C (lv' := [(0, .ref (a0 0))]) [0] rfl ?_
  rw [House_cycleLength] at hf
  refine ww_iconst (v := 1) C dX2_cycleLength_0 (by decide) ?_
  refine ww_istore_n (lv' := [(1, .int 1), (0, .ref (a0 0))]) C dX2_cycleLength_1 rfl (by decide) rfl ?_
  refine ww_iconst (v := 0) C dX2_cycleLength_2 (by decide) ?_
  refine ww_istore_n (lv' := [(2, .int 0), (1, .int 1), (0, .ref (a0 0))]) C dX2_cycleLength_3 rfl (by decide) rfl ?_
  refine ww_sub C (lv' := [(0, .ref (a0 0)), (1, .int 1), (2, .int 0)]) [2, 1, 0] rfl ?_
  exact w_X2_cycleLength_4 C FU _ _ hf

theorem yk_X2_cycleLength : yX2_cycleLength.cls = RX2 ∧ yX2_cycleLength.cls ≠ "java/lang/invoke/MethodHandle" ∧ yX2_cycleLength.cls ≠ "java/lang/invoke/VarHandle" ∧ (parseMethodDescriptor yX2_cycleLength.desc).map (fun d => d.parameters.length) = some 0 := by decide +kernel
abbrev rmX2_roomAt : Room := { frames := 1, cells := 0, slots := 0, locals := 21 }
set_option maxRecDepth 20000 in
theorem in_X2_roomAt_X2 : ∀ w ∈ u_ws RX2 TX2 19, w ∈ wsX2_roomAt := by decide +kernel
set_option maxHeartbeats 4000000 in
set_option maxRecDepth 100000 in
theorem w_X2_roomAt_59 {E : Ex} {K : Kx} (C : Cx E K cX2_roomAt 4 (some .int) RX2 wsX2_roomAt rmX2_roomAt) {a0 : Nat → Nat} {x1 : Int32} {x2 : Int32} {v0 : HouseV}  {x3 : Int32} {r : Int32} (hf : House_roomAt_59 x1 x2 v0 x3 = some r) : WW E K 0 0 (QQ E K (fun rv g => rv = some (.int r) ∧ g = [wHouse E a0 v0]) 0 0) 59 [(0, .ref (a0 0)), (1, .int x1), (3, .int x3)] [] [wHouse E a0 v0] := by
  rw [House_roomAt_59] at hf
  refine ww_iload_n C dX2_roomAt_59 rfl 2 rfl ?_
  refine ww_if_lt (tgt := 69) C dX2_roomAt_60 (by decide) (fun c_9 => ?_) (fun c_9 => ?_)
  · replace hf := ifT c_9 hf
    refine ww_iconst (v := (-1)) C dX2_roomAt_69 (by decide) ?_
    refine ww_goto (tgt := 84) C dX2_roomAt_70 (by decide) ?_
    obtain rfl := Option.some.inj hf
    exact ww_iret C ⟨rfl, rfl⟩ dX2_roomAt_84
  · replace hf := ifF c_9 hf
    refine ww_iload_n C dX2_roomAt_63 rfl 2 rfl ?_
    refine ww_bipush (v := 10) C dX2_roomAt_64 (by decide) ?_
    refine ww_icmp_lt (tgt := 73) C dX2_roomAt_66 (by decide) (fun c_10 => ?_) (fun c_10 => ?_)
    · replace hf := ifT c_10 hf
      refine ww_aload_n C dX2_roomAt_73 rfl 0 rfl ?_
      refine ww_get C clOK2 in_X2_roomAt_X2 (w := wHouse E a0 v0) (fs := fsHouse a0 v0) (v := .ref (a0 7)) 0 0 13 rfl q_House (by decide) (by decide +kernel) g_House_walks dX2_roomAt_74 ?_
      refine ww_iload_n C dX2_roomAt_77 rfl 1 rfl ?_
      refine ww_bipush (v := 10) C dX2_roomAt_78 (by decide) ?_
      refine ww_imul C dX2_roomAt_80 ?_
      refine ww_iload_n C dX2_roomAt_81 rfl 2 rfl ?_
      refine ww_iadd C dX2_roomAt_82 ?_
      obtain ⟨g_11, hf⟩ := gdE hf
      refine ww_iald C (f := House_walks v0) (w := wHouse E a0 v0) 0 7 rfl c_House_walks (inB_vp g_11) dX2_roomAt_83 ?_
      obtain rfl := Option.some.inj hf
      exact ww_iret C ⟨rfl, rfl⟩ dX2_roomAt_84
    · replace hf := ifF c_10 hf
      refine ww_iconst (v := (-1)) C dX2_roomAt_69 (by decide) ?_
      refine ww_goto (tgt := 84) C dX2_roomAt_70 (by decide) ?_
      obtain rfl := Option.some.inj hf
      exact ww_iret C ⟨rfl, rfl⟩ dX2_roomAt_84

set_option maxHeartbeats 4000000 in
set_option maxRecDepth 100000 in
theorem c_X2_roomAt {E : Ex} {a0 : Nat → Nat} {x1 : Int32} {x2 : Int32} {v0 : HouseV} {r : Int32} (hf : House_roomAt x1 x2 v0 = some r) : Ct E yX2_roomAt wsX2_roomAt rmX2_roomAt [.ref (a0 0), .int x1, .int x2] [wHouse E a0 v0] (fun rv g => rv = some (.int r) ∧ g = [wHouse E a0 v0]) := by
  refine ct_of (own := RX2) (by decide +kernel) rfl rfl (Nat.le_of_ble_eq_true rfl) (fun K C => ?_)
  refine ww_sub C (lv' := [(0, .ref (a0 0)), (1, .int x1), (2, .int x2)]) [0, 1, 2] rfl ?_
  rw [House_roomAt] at hf
  refine ww_aload_n C dX2_roomAt_0 rfl 0 rfl ?_
  refine ww_iload_n C dX2_roomAt_1 rfl 1 rfl ?_
  obtain ⟨p2, hp2, hf⟩ := bdE hf
  refine ww_callV C (As := [.int x1]) (st := []) (gr := []) (c_X2_hasGuard (E := E) (a0 := a0) hp2) gX2_roomAt_X2_hasGuard rfl yk_X2_hasGuard ⟨by decide, by decide⟩ ⟨by decide, by decide⟩ clOK2 0 0 rfl rfl [0] [] 1 rfl (by decide) rfl rfl (Nat.le_of_ble_eq_true rfl) dX2_roomAt_2 ?_
  rintro _ _ ⟨rfl, rfl⟩
  refine ww_perm (gs' := [wHouse E a0 v0]) [0] 1 rfl (by decide) rfl ?_
  refine ww_if_eqB (tgt := 22) C dX2_roomAt_5 (by decide) (fun c_1 => ?_) (fun c_1 => ?_)
  · replace hf := bfE c_1 hf
    refine ww_iconst (v := (-1)) C dX2_roomAt_22 (by decide) ?_
    obtain rfl := Option.some.inj hf
    exact ww_iret C ⟨rfl, rfl⟩ dX2_roomAt_23
  · replace hf := btE c_1 hf
    refine ww_iload_n C dX2_roomAt_8 rfl 2 rfl ?_
    refine ww_if_lt (tgt := 22) C dX2_roomAt_9 (by decide) (fun c_2 => ?_) (fun c_2 => ?_)
    · replace hf := ifT c_2 hf
      refine ww_iconst (v := (-1)) C dX2_roomAt_22 (by decide) ?_
      obtain rfl := Option.some.inj hf
      exact ww_iret C ⟨rfl, rfl⟩ dX2_roomAt_23
    · replace hf := ifF c_2 hf
      refine ww_aload_n C dX2_roomAt_12 rfl 0 rfl ?_
      refine ww_get C clOK2 in_X2_roomAt_X2 (w := wHouse E a0 v0) (fs := fsHouse a0 v0) (v := .ref (a0 5)) 0 0 11 rfl q_House (by decide) (by decide +kernel) g_House_periods dX2_roomAt_13 ?_
      refine ww_iload_n C dX2_roomAt_16 rfl 1 rfl ?_
      obtain ⟨g_3, hf⟩ := gdE hf
      refine ww_iald C (f := House_periods v0) (w := wHouse E a0 v0) 0 5 rfl c_House_periods (inB_vp g_3) dX2_roomAt_17 ?_
      refine ww_iconst (v := 1) C dX2_roomAt_18 (by decide) ?_
      refine ww_icmp_ge (tgt := 24) C dX2_roomAt_19 (by decide) (fun c_4 => ?_) (fun c_4 => ?_)
      · replace hf := ifT c_4 hf
        refine ww_iload_n C dX2_roomAt_24 rfl 2 rfl ?_
        refine ww_aload_n C dX2_roomAt_25 rfl 0 rfl ?_
        refine ww_get C clOK2 in_X2_roomAt_X2 (w := wHouse E a0 v0) (fs := fsHouse a0 v0) (v := .ref (a0 5)) 0 0 11 rfl q_House (by decide) (by decide +kernel) g_House_periods dX2_roomAt_26 ?_
        refine ww_iload_n C dX2_roomAt_29 rfl 1 rfl ?_
        refine ww_iald C (f := House_periods v0) (w := wHouse E a0 v0) 0 5 rfl c_House_periods (inB_vp g_3) dX2_roomAt_30 ?_
        obtain ⟨g_5, hf⟩ := gdE hf
        refine ww_irem C dX2_roomAt_31 (nz_ne g_5) ?_
        refine ww_aload_n C dX2_roomAt_32 rfl 0 rfl ?_
        refine ww_get C clOK2 in_X2_roomAt_X2 (w := wHouse E a0 v0) (fs := fsHouse a0 v0) (v := .ref (a0 6)) 0 0 12 rfl q_House (by decide) (by decide +kernel) g_House_phases dX2_roomAt_33 ?_
        refine ww_iload_n C dX2_roomAt_36 rfl 1 rfl ?_
        refine ww_iald C (f := House_phases v0) (w := wHouse E a0 v0) 0 6 rfl c_House_phases (inB_vp g_3) dX2_roomAt_37 ?_
        refine ww_iadd C dX2_roomAt_38 ?_
        refine ww_topi (fun x3_39 e_x3_39 => ?_)
        replace hf := ltE e_x3_39 hf
        refine ww_istore_n (lv' := [(3, .int x3_39), (0, .ref (a0 0)), (1, .int x1), (2, .int x2)]) C dX2_roomAt_39 rfl (by decide) rfl ?_
        refine ww_iload_n C dX2_roomAt_40 rfl 0 rfl ?_
        refine ww_aload_n C dX2_roomAt_41 rfl 1 rfl ?_
        refine ww_get C clOK2 in_X2_roomAt_X2 (w := wHouse E a0 v0) (fs := fsHouse a0 v0) (v := .ref (a0 5)) 0 0 11 rfl q_House (by decide) (by decide +kernel) g_House_periods dX2_roomAt_42 ?_
        refine ww_iload_n C dX2_roomAt_45 rfl 2 rfl ?_
        refine ww_iald C (f := House_periods v0) (w := wHouse E a0 v0) 0 5 rfl c_House_periods (inB_vp g_3) dX2_roomAt_46 ?_
        refine ww_icmp_lt (tgt := 59) C dX2_roomAt_47 (by decide) (fun c_7 => ?_) (fun c_7 => ?_)
        · replace hf := ifT c_7 hf
          refine ww_sub C (lv' := [(0, .ref (a0 0)), (1, .int x1), (3, .int x3_39)]) [1, 2, 0] rfl ?_
          exact w_X2_roomAt_59 C hf
        · replace hf := ifF c_7 hf
          refine ww_iload_n C dX2_roomAt_50 rfl 0 rfl ?_
          refine ww_aload_n C dX2_roomAt_51 rfl 1 rfl ?_
          refine ww_get C clOK2 in_X2_roomAt_X2 (w := wHouse E a0 v0) (fs := fsHouse a0 v0) (v := .ref (a0 5)) 0 0 11 rfl q_House (by decide) (by decide +kernel) g_House_periods dX2_roomAt_52 ?_
          refine ww_iload_n C dX2_roomAt_55 rfl 2 rfl ?_
          refine ww_iald C (f := House_periods v0) (w := wHouse E a0 v0) 0 5 rfl c_House_periods (inB_vp g_3) dX2_roomAt_56 ?_
          refine ww_isub C dX2_roomAt_57 ?_
          refine ww_topi (fun x3_58 e_x3_58 => ?_)
          replace hf := ltE e_x3_58 hf
          refine ww_istore_n (lv' := [(3, .int x3_58), (0, .ref (a0 0)), (1, .int x1), (2, .int x2)]) C dX2_roomAt_58 rfl (by decide) rfl ?_
          refine ww_sub C (lv' := [(0, .ref (a0 0)), (1, .int x1), (3, .int x3_58)]) [1, 2, 0] rfl ?_
          exact w_X2_roomAt_59 C hf
      · replace hf := ifF c_4 hf
        refine ww_iconst (v := (-1)) C dX2_roomAt_22 (by decide) ?_
        obtain rfl := Option.some.inj hf
        exact ww_iret C ⟨rfl, rfl⟩ dX2_roomAt_23

theorem yk_X2_roomAt : yX2_roomAt.cls = RX2 ∧ yX2_roomAt.cls ≠ "java/lang/invoke/MethodHandle" ∧ yX2_roomAt.cls ≠ "java/lang/invoke/VarHandle" ∧ (parseMethodDescriptor yX2_roomAt.desc).map (fun d => d.parameters.length) = some 2 := by decide +kernel
abbrev rmX2_guardsAt : Room := { frames := 2, cells := 0, slots := 0, locals := 44 }
set_option maxRecDepth 20000 in
theorem in_X2_guardsAt_X2 : ∀ w ∈ u_ws RX2 TX2 19, w ∈ wsX2_guardsAt := by decide +kernel
set_option maxHeartbeats 4000000 in
set_option maxRecDepth 100000 in
theorem w_X2_guardsAt_5 {E : Ex} {K : Kx} (C : Cx E K cX2_guardsAt 5 (some .int) RX2 wsX2_guardsAt rmX2_guardsAt) {a0 : Nat → Nat} {x1 : Int32} {x2 : Int32} {v0 : HouseV}  {r : Int32} : ∀ (n : Nat) (x3 : Int32) (x4 : Int32), House_guardsAt_5 x1 x2 v0 n x3 x4 = some r → WW E K 0 0 (QQ E K (fun rv g => rv = some (.int r) ∧ g = [wHouse E a0 v0]) 0 0) 5 [(0, .ref (a0 0)), (1, .int x1), (2, .int x2), (3, .int x3), (4, .int x4)] [] [wHouse E a0 v0] := by
  intro n
  induction n with
  | zero =>
    intro x3 x4 hf
    simp [House_guardsAt_5] at hf
  | succ n ih =>
    intro x3 x4 hf
    rw [House_guardsAt_5] at hf
    refine ww_iload C dX2_guardsAt_5 4 rfl ?_
    refine ww_aload_n C dX2_guardsAt_7 rfl 0 rfl ?_
    refine ww_get C clOK2 in_X2_guardsAt_X2 (w := wHouse E a0 v0) (fs := fsHouse a0 v0) (v := .int (House_guards v0)) 0 0 2 rfl q_House (by decide) (by decide +kernel) g_House_guards dX2_guardsAt_8 ?_
    refine ww_icmp_ge (tgt := 38) C dX2_guardsAt_11 (by decide) (fun c_1 => ?_) (fun c_1 => ?_)
    · replace hf := ifT c_1 hf
      refine ww_iload_n C dX2_guardsAt_38 rfl 3 rfl ?_
      obtain rfl := Option.some.inj hf
      exact ww_iret C ⟨rfl, rfl⟩ dX2_guardsAt_39
    · replace hf := ifF c_1 hf
      refine ww_aload_n C dX2_guardsAt_14 rfl 0 rfl ?_
      refine ww_iload C dX2_guardsAt_15 4 rfl ?_
      refine ww_iload_n C dX2_guardsAt_17 rfl 2 rfl ?_
      obtain ⟨p18, hp18, hf⟩ := bdE hf
      refine ww_callV C (As := [.int x4, .int x2]) (st := []) (gr := []) (c_X2_roomAt (E := E) (a0 := a0) hp18) gX2_guardsAt_X2_roomAt rfl yk_X2_roomAt ⟨by decide, by decide⟩ ⟨by decide, by decide⟩ clOK2 0 0 rfl rfl [0] [] 1 rfl (by decide) rfl rfl (Nat.le_of_ble_eq_true rfl) dX2_guardsAt_18 ?_
      rintro _ _ ⟨rfl, rfl⟩
      refine ww_perm (gs' := [wHouse E a0 v0]) [0] 1 rfl (by decide) rfl ?_
      refine ww_iload_n C dX2_guardsAt_21 rfl 1 rfl ?_
      refine ww_icmp_ne (tgt := 32) C dX2_guardsAt_22 (by decide) (fun c_2 => ?_) (fun c_2 => ?_)
      · replace hf := ifF c_2 hf
        obtain ⟨x4_32, e_x4_32⟩ : ∃ y : Int32, y = x4 + 1 := ⟨_, rfl⟩
        replace hf := ltE e_x4_32 hf
        refine ww_iinc (v := x4_32) (lv' := [(4, .int x4_32), (0, .ref (a0 0)), (1, .int x1), (2, .int x2), (3, .int x3)]) C dX2_guardsAt_32 4 rfl (by rw [e_x4_32]; rfl) (by decide) rfl ?_
        refine ww_goto (tgt := 5) C dX2_guardsAt_35 (by decide) ?_
        refine ww_sub C (lv' := [(0, .ref (a0 0)), (1, .int x1), (2, .int x2), (3, .int x3), (4, .int x4_32)]) [1, 2, 3, 4, 0] rfl ?_
        exact ih _ _ hf
      · replace hf := ifT c_2 hf
        refine ww_iload_n C dX2_guardsAt_25 rfl 3 rfl ?_
        refine ww_iconst (v := 1) C dX2_guardsAt_26 (by decide) ?_
        refine ww_iload C dX2_guardsAt_27 4 rfl ?_
        refine ww_ishl C dX2_guardsAt_29 ?_
        refine ww_ior C dX2_guardsAt_30 ?_
        refine ww_topi (fun x3_31 e_x3_31 => ?_)
        replace hf := ltE e_x3_31 hf
        refine ww_istore_n (lv' := [(3, .int x3_31), (0, .ref (a0 0)), (1, .int x1), (2, .int x2), (4, .int x4)]) C dX2_guardsAt_31 rfl (by decide) rfl ?_
        obtain ⟨x4_32, e_x4_32⟩ : ∃ y : Int32, y = x4 + 1 := ⟨_, rfl⟩
        replace hf := ltE e_x4_32 hf
        refine ww_iinc (v := x4_32) (lv' := [(4, .int x4_32), (3, .int x3_31), (0, .ref (a0 0)), (1, .int x1), (2, .int x2)]) C dX2_guardsAt_32 4 rfl (by rw [e_x4_32]; rfl) (by decide) rfl ?_
        refine ww_goto (tgt := 5) C dX2_guardsAt_35 (by decide) ?_
        refine ww_sub C (lv' := [(0, .ref (a0 0)), (1, .int x1), (2, .int x2), (3, .int x3_31), (4, .int x4_32)]) [2, 3, 4, 1, 0] rfl ?_
        exact ih _ _ hf

set_option maxHeartbeats 4000000 in
set_option maxRecDepth 100000 in
theorem c_X2_guardsAt {E : Ex} {a0 : Nat → Nat} {x1 : Int32} {x2 : Int32} {v0 : HouseV} {r : Int32} (hf : House_guardsAt x1 x2 v0 = some r) : Ct E yX2_guardsAt wsX2_guardsAt rmX2_guardsAt [.ref (a0 0), .int x1, .int x2] [wHouse E a0 v0] (fun rv g => rv = some (.int r) ∧ g = [wHouse E a0 v0]) := by
  refine ct_of (own := RX2) (by decide +kernel) rfl rfl (Nat.le_of_ble_eq_true rfl) (fun K C => ?_)
  refine ww_sub C (lv' := [(0, .ref (a0 0)), (1, .int x1), (2, .int x2)]) [0, 1, 2] rfl ?_
  rw [House_guardsAt] at hf
  refine ww_iconst (v := 0) C dX2_guardsAt_0 (by decide) ?_
  refine ww_istore_n (lv' := [(3, .int 0), (0, .ref (a0 0)), (1, .int x1), (2, .int x2)]) C dX2_guardsAt_1 rfl (by decide) rfl ?_
  refine ww_iconst (v := 0) C dX2_guardsAt_2 (by decide) ?_
  refine ww_istore (lv' := [(4, .int 0), (3, .int 0), (0, .ref (a0 0)), (1, .int x1), (2, .int x2)]) C dX2_guardsAt_3 (by decide) rfl ?_
  refine ww_sub C (lv' := [(0, .ref (a0 0)), (1, .int x1), (2, .int x2), (3, .int 0), (4, .int 0)]) [2, 3, 4, 1, 0] rfl ?_
  exact w_X2_guardsAt_5 C FU _ _ hf

theorem yk_X2_guardsAt : yX2_guardsAt.cls = RX2 ∧ yX2_guardsAt.cls ≠ "java/lang/invoke/MethodHandle" ∧ yX2_guardsAt.cls ≠ "java/lang/invoke/VarHandle" ∧ (parseMethodDescriptor yX2_guardsAt.desc).map (fun d => d.parameters.length) = some 2 := by decide +kernel
abbrev rmX2_roomsSeenAt : Room := { frames := 2, cells := 0, slots := 0, locals := 44 }
set_option maxRecDepth 20000 in
theorem in_X2_roomsSeenAt_X2 : ∀ w ∈ u_ws RX2 TX2 19, w ∈ wsX2_roomsSeenAt := by decide +kernel
set_option maxHeartbeats 4000000 in
set_option maxRecDepth 100000 in
theorem w_X2_roomsSeenAt_4 {E : Ex} {K : Kx} (C : Cx E K cX2_roomsSeenAt 5 (some .int) RX2 wsX2_roomsSeenAt rmX2_roomsSeenAt) {a0 : Nat → Nat} {x1 : Int32} {v0 : HouseV}  {r : Int32} : ∀ (n : Nat) (x2 : Int32) (x3 : Int32), House_roomsSeenAt_4 x1 v0 n x2 x3 = some r → WW E K 0 0 (QQ E K (fun rv g => rv = some (.int r) ∧ g = [wHouse E a0 v0]) 0 0) 4 [(0, .ref (a0 0)), (1, .int x1), (2, .int x2), (3, .int x3)] [] [wHouse E a0 v0] := by
  intro n
  induction n with
  | zero =>
    intro x2 x3 hf
    simp [House_roomsSeenAt_4] at hf
  | succ n ih =>
    intro x2 x3 hf
    rw [House_roomsSeenAt_4] at hf
    refine ww_iload_n C dX2_roomsSeenAt_4 rfl 3 rfl ?_
    refine ww_aload_n C dX2_roomsSeenAt_5 rfl 0 rfl ?_
    refine ww_get C clOK2 in_X2_roomsSeenAt_X2 (w := wHouse E a0 v0) (fs := fsHouse a0 v0) (v := .int (House_guards v0)) 0 0 2 rfl q_House (by decide) (by decide +kernel) g_House_guards dX2_roomsSeenAt_6 ?_
    refine ww_icmp_ge (tgt := 39) C dX2_roomsSeenAt_9 (by decide) (fun c_1 => ?_) (fun c_1 => ?_)
    · replace hf := ifT c_1 hf
      refine ww_iload_n C dX2_roomsSeenAt_39 rfl 2 rfl ?_
      obtain rfl := Option.some.inj hf
      exact ww_iret C ⟨rfl, rfl⟩ dX2_roomsSeenAt_40
    · replace hf := ifF c_1 hf
      refine ww_aload_n C dX2_roomsSeenAt_12 rfl 0 rfl ?_
      refine ww_iload_n C dX2_roomsSeenAt_13 rfl 3 rfl ?_
      refine ww_iload_n C dX2_roomsSeenAt_14 rfl 1 rfl ?_
      obtain ⟨p15, hp15, hf⟩ := bdE hf
      refine ww_callV C (As := [.int x3, .int x1]) (st := []) (gr := []) (c_X2_roomAt (E := E) (a0 := a0) hp15) gX2_roomsSeenAt_X2_roomAt rfl yk_X2_roomAt ⟨by decide, by decide⟩ ⟨by decide, by decide⟩ clOK2 0 0 rfl rfl [0] [] 1 rfl (by decide) rfl rfl (Nat.le_of_ble_eq_true rfl) dX2_roomsSeenAt_15 ?_
      rintro _ _ ⟨rfl, rfl⟩
      refine ww_perm (gs' := [wHouse E a0 v0]) [0] 1 rfl (by decide) rfl ?_
      refine ww_istore (lv' := [(4, .int p15), (0, .ref (a0 0)), (1, .int x1), (2, .int x2), (3, .int x3)]) C dX2_roomsSeenAt_18 (by decide) rfl ?_
      refine ww_iload C dX2_roomsSeenAt_20 0 rfl ?_
      refine ww_iconst (v := (-1)) C dX2_roomsSeenAt_22 (by decide) ?_
      refine ww_icmp_eq (tgt := 33) C dX2_roomsSeenAt_23 (by decide) (fun c_2 => ?_) (fun c_2 => ?_)
      · replace hf := ifT c_2 hf
        obtain ⟨x3_33, e_x3_33⟩ : ∃ y : Int32, y = x3 + 1 := ⟨_, rfl⟩
        replace hf := ltE e_x3_33 hf
        refine ww_iinc (v := x3_33) (lv' := [(3, .int x3_33), (4, .int p15), (0, .ref (a0 0)), (1, .int x1), (2, .int x2)]) C dX2_roomsSeenAt_33 4 rfl (by rw [e_x3_33]; rfl) (by decide) rfl ?_
        refine ww_goto (tgt := 4) C dX2_roomsSeenAt_36 (by decide) ?_
        refine ww_sub C (lv' := [(0, .ref (a0 0)), (1, .int x1), (2, .int x2), (3, .int x3_33)]) [2, 3, 4, 0] rfl ?_
        exact ih _ _ hf
      · replace hf := ifF c_2 hf
        refine ww_iload_n C dX2_roomsSeenAt_26 rfl 3 rfl ?_
        refine ww_iconst (v := 1) C dX2_roomsSeenAt_27 (by decide) ?_
        refine ww_iload C dX2_roomsSeenAt_28 0 rfl ?_
        refine ww_ishl C dX2_roomsSeenAt_30 ?_
        refine ww_ior C dX2_roomsSeenAt_31 ?_
        refine ww_topi (fun x2_32 e_x2_32 => ?_)
        replace hf := ltE e_x2_32 hf
        refine ww_istore_n (lv' := [(2, .int x2_32), (4, .int p15), (0, .ref (a0 0)), (1, .int x1), (3, .int x3)]) C dX2_roomsSeenAt_32 rfl (by decide) rfl ?_
        obtain ⟨x3_33, e_x3_33⟩ : ∃ y : Int32, y = x3 + 1 := ⟨_, rfl⟩
        replace hf := ltE e_x3_33 hf
        refine ww_iinc (v := x3_33) (lv' := [(3, .int x3_33), (2, .int x2_32), (4, .int p15), (0, .ref (a0 0)), (1, .int x1)]) C dX2_roomsSeenAt_33 4 rfl (by rw [e_x3_33]; rfl) (by decide) rfl ?_
        refine ww_goto (tgt := 4) C dX2_roomsSeenAt_36 (by decide) ?_
        refine ww_sub C (lv' := [(0, .ref (a0 0)), (1, .int x1), (2, .int x2_32), (3, .int x3_33)]) [3, 4, 1, 0] rfl ?_
        exact ih _ _ hf

set_option maxHeartbeats 4000000 in
set_option maxRecDepth 100000 in
theorem c_X2_roomsSeenAt {E : Ex} {a0 : Nat → Nat} {x1 : Int32} {v0 : HouseV} {r : Int32} (hf : House_roomsSeenAt x1 v0 = some r) : Ct E yX2_roomsSeenAt wsX2_roomsSeenAt rmX2_roomsSeenAt [.ref (a0 0), .int x1] [wHouse E a0 v0] (fun rv g => rv = some (.int r) ∧ g = [wHouse E a0 v0]) := by
  refine ct_of (own := RX2) (by decide +kernel) rfl rfl (Nat.le_of_ble_eq_true rfl) (fun K C => ?_)
  refine ww_sub C (lv' := [(0, .ref (a0 0)), (1, .int x1)]) [0, 1] rfl ?_
  rw [House_roomsSeenAt] at hf
  refine ww_iconst (v := 0) C dX2_roomsSeenAt_0 (by decide) ?_
  refine ww_istore_n (lv' := [(2, .int 0), (0, .ref (a0 0)), (1, .int x1)]) C dX2_roomsSeenAt_1 rfl (by decide) rfl ?_
  refine ww_iconst (v := 0) C dX2_roomsSeenAt_2 (by decide) ?_
  refine ww_istore_n (lv' := [(3, .int 0), (2, .int 0), (0, .ref (a0 0)), (1, .int x1)]) C dX2_roomsSeenAt_3 rfl (by decide) rfl ?_
  refine ww_sub C (lv' := [(0, .ref (a0 0)), (1, .int x1), (2, .int 0), (3, .int 0)]) [2, 3, 1, 0] rfl ?_
  exact w_X2_roomsSeenAt_4 C FU _ _ hf

theorem yk_X2_roomsSeenAt : yX2_roomsSeenAt.cls = RX2 ∧ yX2_roomsSeenAt.cls ≠ "java/lang/invoke/MethodHandle" ∧ yX2_roomsSeenAt.cls ≠ "java/lang/invoke/VarHandle" ∧ (parseMethodDescriptor yX2_roomsSeenAt.desc).map (fun d => d.parameters.length) = some 1 := by decide +kernel
abbrev rmX2_countPair : Room := { frames := 2, cells := 0, slots := 0, locals := 44 }
set_option maxHeartbeats 4000000 in
set_option maxRecDepth 100000 in
theorem w_X2_countPair_35 {E : Ex} {K : Kx} (C : Cx E K cX2_countPair 12 (some .int) RX2 wsX2_countPair rmX2_countPair) {a0 : Nat → Nat} {x1 : Int32} {x2 : Int32} {x3 : Int32} {x4 : Int32} {v0 : HouseV} {x5 : Int32} {r : Int32} : ∀ (n : Nat) (x6 : Int32) (x7 : Int32) (x8 : Int32) (x9 : Int32), House_countPair_35 x1 x2 x3 x4 v0 x5 n x6 x7 x8 x9 = some r → WW E K 0 0 (QQ E K (fun rv g => rv = some (.int r) ∧ g = [wHouse E a0 v0]) 0 0) 35 [(0, .ref (a0 0)), (1, .int x1), (2, .int x2), (3, .int x3), (4, .int x4), (5, .int x5), (6, .int x6), (7, .int x7), (8, .int x8), (9, .int x9)] [] [wHouse E a0 v0] := by
  intro n
  induction n with
  | zero =>
    intro x6 x7 x8 x9 hf
    simp [House_countPair_35] at hf
  | succ n ih =>
    intro x6 x7 x8 x9 hf
    rw [House_countPair_35] at hf
    refine ww_iload C dX2_countPair_35 9 rfl ?_
    refine ww_iload C dX2_countPair_37 5 rfl ?_
    refine ww_icmp_gt (tgt := 111) C dX2_countPair_39 (by decide) (fun c_2 => ?_) (fun c_2 => ?_)
    · replace hf := ifT c_2 hf
      refine ww_iload C dX2_countPair_111 6 rfl ?_
      obtain rfl := Option.some.inj hf
      exact ww_iret C ⟨rfl, rfl⟩ dX2_countPair_113
    · replace hf := ifF c_2 hf
      refine ww_aload_n C dX2_countPair_42 rfl 0 rfl ?_
      refine ww_iload_n C dX2_countPair_43 rfl 1 rfl ?_
      refine ww_iload C dX2_countPair_44 9 rfl ?_
      obtain ⟨p46, hp46, hf⟩ := bdE hf
      refine ww_callV C (As := [.int x1, .int x9]) (st := []) (gr := []) (c_X2_roomAt (E := E) (a0 := a0) hp46) gX2_countPair_X2_roomAt rfl yk_X2_roomAt ⟨by decide, by decide⟩ ⟨by decide, by decide⟩ clOK2 0 0 rfl rfl [0] [] 1 rfl (by decide) rfl rfl (Nat.le_of_ble_eq_true rfl) dX2_countPair_46 ?_
      rintro _ _ ⟨rfl, rfl⟩
      refine ww_perm (gs' := [wHouse E a0 v0]) [0] 1 rfl (by decide) rfl ?_
      refine ww_istore (lv' := [(10, .int p46), (0, .ref (a0 0)), (1, .int x1), (2, .int x2), (3, .int x3), (4, .int x4), (5, .int x5), (6, .int x6), (7, .int x7), (8, .int x8), (9, .int x9)]) C dX2_countPair_49 (by decide) rfl ?_
      refine ww_aload_n C dX2_countPair_51 rfl 1 rfl ?_
      refine ww_iload_n C dX2_countPair_52 rfl 3 rfl ?_
      refine ww_iload C dX2_countPair_53 10 rfl ?_
      obtain ⟨p55, hp55, hf⟩ := bdE hf
      refine ww_callV C (As := [.int x2, .int x9]) (st := []) (gr := []) (c_X2_roomAt (E := E) (a0 := a0) hp55) gX2_countPair_X2_roomAt rfl yk_X2_roomAt ⟨by decide, by decide⟩ ⟨by decide, by decide⟩ clOK2 0 0 rfl rfl [0] [] 1 rfl (by decide) rfl rfl (Nat.le_of_ble_eq_true rfl) dX2_countPair_55 ?_
      rintro _ _ ⟨rfl, rfl⟩
      refine ww_perm (gs' := [wHouse E a0 v0]) [0] 1 rfl (by decide) rfl ?_
      refine ww_istore (lv' := [(11, .int p55), (10, .int p46), (0, .ref (a0 0)), (1, .int x1), (2, .int x2), (3, .int x3), (4, .int x4), (5, .int x5), (6, .int x6), (7, .int x7), (8, .int x8), (9, .int x9)]) C dX2_countPair_58 (by decide) rfl ?_
      refine ww_iload C dX2_countPair_60 9 rfl ?_
      refine ww_iload C dX2_countPair_62 10 rfl ?_
      refine ww_icmp_ne (tgt := 76) C dX2_countPair_64 (by decide) (fun c_3 => ?_) (fun c_3 => ?_)
      · replace hf := ifF c_3 hf
        refine ww_iload C dX2_countPair_76 9 rfl ?_
        refine ww_iload C dX2_countPair_78 0 rfl ?_
        refine ww_icmp_ne (tgt := 97) C dX2_countPair_80 (by decide) (fun c_4 => ?_) (fun c_4 => ?_)
        · replace hf := ifF c_4 hf
          refine ww_iload C dX2_countPair_97 1 rfl ?_
          refine ww_istore (lv' := [(7, .int p46), (11, .int p55), (10, .int p46), (0, .ref (a0 0)), (1, .int x1), (2, .int x2), (3, .int x3), (4, .int x4), (5, .int x5), (6, .int x6), (8, .int x8), (9, .int x9)]) C dX2_countPair_99 (by decide) rfl ?_
          refine ww_iload C dX2_countPair_101 1 rfl ?_
          refine ww_istore (lv' := [(8, .int p55), (7, .int p46), (11, .int p55), (10, .int p46), (0, .ref (a0 0)), (1, .int x1), (2, .int x2), (3, .int x3), (4, .int x4), (5, .int x5), (6, .int x6), (9, .int x9)]) C dX2_countPair_103 (by decide) rfl ?_
          obtain ⟨x9_105, e_x9_105⟩ : ∃ y : Int32, y = x9 + 1 := ⟨_, rfl⟩
          replace hf := ltE e_x9_105 hf
          refine ww_iinc (v := x9_105) (lv' := [(9, .int x9_105), (8, .int p55), (7, .int p46), (11, .int p55), (10, .int p46), (0, .ref (a0 0)), (1, .int x1), (2, .int x2), (3, .int x3), (4, .int x4), (5, .int x5), (6, .int x6)]) C dX2_countPair_105 11 rfl (by rw [e_x9_105]; rfl) (by decide) rfl ?_
          refine ww_goto (tgt := 35) C dX2_countPair_108 (by decide) ?_
          refine ww_sub C (lv' := [(0, .ref (a0 0)), (1, .int x1), (2, .int x2), (3, .int x3), (4, .int x4), (5, .int x5), (6, .int x6), (7, .int p46), (8, .int p55), (9, .int x9_105)]) [5, 6, 7, 8, 9, 10, 11, 2, 1, 0] rfl ?_
          exact ih _ _ _ _ hf
        · replace hf := ifT c_4 hf
          refine ww_iload C dX2_countPair_83 10 rfl ?_
          refine ww_iload C dX2_countPair_85 1 rfl ?_
          refine ww_icmp_ne (tgt := 97) C dX2_countPair_87 (by decide) (fun c_5 => ?_) (fun c_5 => ?_)
          · replace hf := ifF c_5 hf
            refine ww_iload C dX2_countPair_97 1 rfl ?_
            refine ww_istore (lv' := [(7, .int p46), (11, .int p55), (10, .int p46), (0, .ref (a0 0)), (1, .int x1), (2, .int x2), (3, .int x3), (4, .int x4), (5, .int x5), (6, .int x6), (8, .int x8), (9, .int x9)]) C dX2_countPair_99 (by decide) rfl ?_
            refine ww_iload C dX2_countPair_101 1 rfl ?_
            refine ww_istore (lv' := [(8, .int p55), (7, .int p46), (11, .int p55), (10, .int p46), (0, .ref (a0 0)), (1, .int x1), (2, .int x2), (3, .int x3), (4, .int x4), (5, .int x5), (6, .int x6), (9, .int x9)]) C dX2_countPair_103 (by decide) rfl ?_
            obtain ⟨x9_105, e_x9_105⟩ : ∃ y : Int32, y = x9 + 1 := ⟨_, rfl⟩
            replace hf := ltE e_x9_105 hf
            refine ww_iinc (v := x9_105) (lv' := [(9, .int x9_105), (8, .int p55), (7, .int p46), (11, .int p55), (10, .int p46), (0, .ref (a0 0)), (1, .int x1), (2, .int x2), (3, .int x3), (4, .int x4), (5, .int x5), (6, .int x6)]) C dX2_countPair_105 11 rfl (by rw [e_x9_105]; rfl) (by decide) rfl ?_
            refine ww_goto (tgt := 35) C dX2_countPair_108 (by decide) ?_
            refine ww_sub C (lv' := [(0, .ref (a0 0)), (1, .int x1), (2, .int x2), (3, .int x3), (4, .int x4), (5, .int x5), (6, .int x6), (7, .int p46), (8, .int p55), (9, .int x9_105)]) [5, 6, 7, 8, 9, 10, 11, 2, 1, 0] rfl ?_
            exact ih _ _ _ _ hf
          · replace hf := ifT c_5 hf
            refine ww_iload C dX2_countPair_90 8 rfl ?_
            refine ww_iload C dX2_countPair_92 6 rfl ?_
            refine ww_iadd C dX2_countPair_94 ?_
            refine ww_topi (fun x6_95 e_x6_95 => ?_)
            replace hf := ltE e_x6_95 hf
            refine ww_istore (lv' := [(6, .int x6_95), (11, .int p55), (10, .int p46), (0, .ref (a0 0)), (1, .int x1), (2, .int x2), (3, .int x3), (4, .int x4), (5, .int x5), (7, .int x7), (8, .int x8), (9, .int x9)]) C dX2_countPair_95 (by decide) rfl ?_
            refine ww_iload C dX2_countPair_97 2 rfl ?_
            refine ww_istore (lv' := [(7, .int p46), (6, .int x6_95), (11, .int p55), (10, .int p46), (0, .ref (a0 0)), (1, .int x1), (2, .int x2), (3, .int x3), (4, .int x4), (5, .int x5), (8, .int x8), (9, .int x9)]) C dX2_countPair_99 (by decide) rfl ?_
            refine ww_iload C dX2_countPair_101 2 rfl ?_
            refine ww_istore (lv' := [(8, .int p55), (7, .int p46), (6, .int x6_95), (11, .int p55), (10, .int p46), (0, .ref (a0 0)), (1, .int x1), (2, .int x2), (3, .int x3), (4, .int x4), (5, .int x5), (9, .int x9)]) C dX2_countPair_103 (by decide) rfl ?_
            obtain ⟨x9_105, e_x9_105⟩ : ∃ y : Int32, y = x9 + 1 := ⟨_, rfl⟩
            replace hf := ltE e_x9_105 hf
            refine ww_iinc (v := x9_105) (lv' := [(9, .int x9_105), (8, .int p55), (7, .int p46), (6, .int x6_95), (11, .int p55), (10, .int p46), (0, .ref (a0 0)), (1, .int x1), (2, .int x2), (3, .int x3), (4, .int x4), (5, .int x5)]) C dX2_countPair_105 11 rfl (by rw [e_x9_105]; rfl) (by decide) rfl ?_
            refine ww_goto (tgt := 35) C dX2_countPair_108 (by decide) ?_
            refine ww_sub C (lv' := [(0, .ref (a0 0)), (1, .int x1), (2, .int x2), (3, .int x3), (4, .int x4), (5, .int x5), (6, .int x6_95), (7, .int p46), (8, .int p55), (9, .int x9_105)]) [6, 7, 8, 9, 10, 11, 3, 2, 1, 0] rfl ?_
            exact ih _ _ _ _ hf
      · replace hf := ifT c_3 hf
        refine ww_iload C dX2_countPair_67 8 rfl ?_
        refine ww_iload_n C dX2_countPair_69 rfl 5 rfl ?_
        refine ww_iadd C dX2_countPair_70 ?_
        refine ww_topi (fun x6_71 e_x6_71 => ?_)
        replace hf := ltE e_x6_71 hf
        refine ww_istore (lv' := [(6, .int x6_71), (11, .int p55), (10, .int p46), (0, .ref (a0 0)), (1, .int x1), (2, .int x2), (3, .int x3), (4, .int x4), (5, .int x5), (7, .int x7), (8, .int x8), (9, .int x9)]) C dX2_countPair_71 (by decide) rfl ?_
        refine ww_goto (tgt := 97) C dX2_countPair_73 (by decide) ?_
        refine ww_iload C dX2_countPair_97 2 rfl ?_
        refine ww_istore (lv' := [(7, .int p46), (6, .int x6_71), (11, .int p55), (10, .int p46), (0, .ref (a0 0)), (1, .int x1), (2, .int x2), (3, .int x3), (4, .int x4), (5, .int x5), (8, .int x8), (9, .int x9)]) C dX2_countPair_99 (by decide) rfl ?_
        refine ww_iload C dX2_countPair_101 2 rfl ?_
        refine ww_istore (lv' := [(8, .int p55), (7, .int p46), (6, .int x6_71), (11, .int p55), (10, .int p46), (0, .ref (a0 0)), (1, .int x1), (2, .int x2), (3, .int x3), (4, .int x4), (5, .int x5), (9, .int x9)]) C dX2_countPair_103 (by decide) rfl ?_
        obtain ⟨x9_105, e_x9_105⟩ : ∃ y : Int32, y = x9 + 1 := ⟨_, rfl⟩
        replace hf := ltE e_x9_105 hf
        refine ww_iinc (v := x9_105) (lv' := [(9, .int x9_105), (8, .int p55), (7, .int p46), (6, .int x6_71), (11, .int p55), (10, .int p46), (0, .ref (a0 0)), (1, .int x1), (2, .int x2), (3, .int x3), (4, .int x4), (5, .int x5)]) C dX2_countPair_105 11 rfl (by rw [e_x9_105]; rfl) (by decide) rfl ?_
        refine ww_goto (tgt := 35) C dX2_countPair_108 (by decide) ?_
        refine ww_sub C (lv' := [(0, .ref (a0 0)), (1, .int x1), (2, .int x2), (3, .int x3), (4, .int x4), (5, .int x5), (6, .int x6_71), (7, .int p46), (8, .int p55), (9, .int x9_105)]) [6, 7, 8, 9, 10, 11, 3, 2, 1, 0] rfl ?_
        exact ih _ _ _ _ hf

set_option maxHeartbeats 4000000 in
set_option maxRecDepth 100000 in
theorem c_X2_countPair {E : Ex} {a0 : Nat → Nat} {x1 : Int32} {x2 : Int32} {x3 : Int32} {x4 : Int32} {v0 : HouseV} {r : Int32} (hf : House_countPair x1 x2 x3 x4 v0 = some r) : Ct E yX2_countPair wsX2_countPair rmX2_countPair [.ref (a0 0), .int x1, .int x2, .int x3, .int x4] [wHouse E a0 v0] (fun rv g => rv = some (.int r) ∧ g = [wHouse E a0 v0]) := by
  refine ct_of (own := RX2) (by decide +kernel) rfl rfl (Nat.le_of_ble_eq_true rfl) (fun K C => ?_)
  refine ww_sub C (lv' := [(0, .ref (a0 0)), (1, .int x1), (2, .int x2), (3, .int x3), (4, .int x4)]) [0, 1, 2, 3, 4] rfl ?_
  rw [House_countPair] at hf
  refine ww_iload_n C dX2_countPair_0 rfl 1 rfl ?_
  refine ww_iload_n C dX2_countPair_1 rfl 2 rfl ?_
  refine ww_icmp_ne (tgt := 7) C dX2_countPair_2 (by decide) (fun c_1 => ?_) (fun c_1 => ?_)
  · replace hf := ifF c_1 hf
    refine ww_aload_n C dX2_countPair_7 rfl 0 rfl ?_
    obtain ⟨p8, hp8, hf⟩ := bdE hf
    refine ww_callV C (As := []) (st := []) (gr := []) (c_X2_cycleLength (E := E) (a0 := a0) hp8) gX2_countPair_X2_cycleLength rfl yk_X2_cycleLength ⟨by decide, by decide⟩ ⟨by decide, by decide⟩ clOK2 0 0 rfl rfl [0] [] 1 rfl (by decide) rfl rfl (Nat.le_of_ble_eq_true rfl) dX2_countPair_8 ?_
    rintro _ _ ⟨rfl, rfl⟩
    refine ww_perm (gs' := [wHouse E a0 v0]) [0] 1 rfl (by decide) rfl ?_
    refine ww_istore (lv' := [(5, .int p8), (0, .ref (a0 0)), (1, .int x1), (2, .int x2), (3, .int x3), (4, .int x4)]) C dX2_countPair_11 (by decide) rfl ?_
    refine ww_iconst (v := 0) C dX2_countPair_13 (by decide) ?_
    refine ww_istore (lv' := [(6, .int 0), (5, .int p8), (0, .ref (a0 0)), (1, .int x1), (2, .int x2), (3, .int x3), (4, .int x4)]) C dX2_countPair_14 (by decide) rfl ?_
    refine ww_aload_n C dX2_countPair_16 rfl 2 rfl ?_
    refine ww_iload_n C dX2_countPair_17 rfl 3 rfl ?_
    refine ww_iconst (v := 0) C dX2_countPair_18 (by decide) ?_
    obtain ⟨p19, hp19, hf⟩ := bdE hf
    refine ww_callV C (As := [.int x1, .int 0]) (st := []) (gr := []) (c_X2_roomAt (E := E) (a0 := a0) hp19) gX2_countPair_X2_roomAt rfl yk_X2_roomAt ⟨by decide, by decide⟩ ⟨by decide, by decide⟩ clOK2 0 0 rfl rfl [0] [] 1 rfl (by decide) rfl rfl (Nat.le_of_ble_eq_true rfl) dX2_countPair_19 ?_
    rintro _ _ ⟨rfl, rfl⟩
    refine ww_perm (gs' := [wHouse E a0 v0]) [0] 1 rfl (by decide) rfl ?_
    refine ww_istore (lv' := [(7, .int p19), (6, .int 0), (5, .int p8), (0, .ref (a0 0)), (1, .int x1), (2, .int x2), (3, .int x3), (4, .int x4)]) C dX2_countPair_22 (by decide) rfl ?_
    refine ww_aload_n C dX2_countPair_24 rfl 3 rfl ?_
    refine ww_iload_n C dX2_countPair_25 rfl 5 rfl ?_
    refine ww_iconst (v := 0) C dX2_countPair_26 (by decide) ?_
    obtain ⟨p27, hp27, hf⟩ := bdE hf
    refine ww_callV C (As := [.int x2, .int 0]) (st := []) (gr := []) (c_X2_roomAt (E := E) (a0 := a0) hp27) gX2_countPair_X2_roomAt rfl yk_X2_roomAt ⟨by decide, by decide⟩ ⟨by decide, by decide⟩ clOK2 0 0 rfl rfl [0] [] 1 rfl (by decide) rfl rfl (Nat.le_of_ble_eq_true rfl) dX2_countPair_27 ?_
    rintro _ _ ⟨rfl, rfl⟩
    refine ww_perm (gs' := [wHouse E a0 v0]) [0] 1 rfl (by decide) rfl ?_
    refine ww_istore (lv' := [(8, .int p27), (7, .int p19), (6, .int 0), (5, .int p8), (0, .ref (a0 0)), (1, .int x1), (2, .int x2), (3, .int x3), (4, .int x4)]) C dX2_countPair_30 (by decide) rfl ?_
    refine ww_iconst (v := 1) C dX2_countPair_32 (by decide) ?_
    refine ww_istore (lv' := [(9, .int 1), (8, .int p27), (7, .int p19), (6, .int 0), (5, .int p8), (0, .ref (a0 0)), (1, .int x1), (2, .int x2), (3, .int x3), (4, .int x4)]) C dX2_countPair_33 (by decide) rfl ?_
    refine ww_sub C (lv' := [(0, .ref (a0 0)), (1, .int x1), (2, .int x2), (3, .int x3), (4, .int x4), (5, .int p8), (6, .int 0), (7, .int p19), (8, .int p27), (9, .int 1)]) [5, 6, 7, 8, 9, 4, 3, 2, 1, 0] rfl ?_
    exact w_X2_countPair_35 C FU _ _ _ _ hf
  · replace hf := ifT c_1 hf
    refine ww_iconst (v := 0) C dX2_countPair_5 (by decide) ?_
    obtain rfl := Option.some.inj hf
    exact ww_iret C ⟨rfl, rfl⟩ dX2_countPair_6

theorem yk_X2_countPair : yX2_countPair.cls = RX2 ∧ yX2_countPair.cls ≠ "java/lang/invoke/MethodHandle" ∧ yX2_countPair.cls ≠ "java/lang/invoke/VarHandle" ∧ (parseMethodDescriptor yX2_countPair.desc).map (fun d => d.parameters.length) = some 4 := by decide +kernel
abbrev rmX2_countCrossings : Room := { frames := 3, cells := 0, slots := 0, locals := 75 }
set_option maxRecDepth 20000 in
theorem in_X2_countCrossings_X2 : ∀ w ∈ u_ws RX2 TX2 19, w ∈ wsX2_countCrossings := by decide +kernel
set_option maxHeartbeats 4000000 in
set_option maxRecDepth 100000 in
theorem w_X2_countCrossings_16 {E : Ex} {K : Kx} (C : Cx E K cX2_countCrossings 4 (some .int) RX2 wsX2_countCrossings rmX2_countCrossings) {a0 : Nat → Nat} {v0 : HouseV} {x2 : Int32} {k4 : Int32 → Int32 → Option Int32} {r : Int32} (hk4 : ∀ (x1 : Int32) (x2 : Int32), k4 x1 x2 = some r → WW E K 0 0 (QQ E K (fun rv g => rv = some (.int r) ∧ g = [wHouse E a0 v0]) 0 0) 4 [(0, .ref (a0 0)), (1, .int x1), (2, .int x2)] [] [wHouse E a0 v0]) : ∀ (n : Nat) (x1 : Int32) (x3 : Int32), House_countCrossings_16 v0 x2 k4 n x1 x3 = some r → WW E K 0 0 (QQ E K (fun rv g => rv = some (.int r) ∧ g = [wHouse E a0 v0]) 0 0) 16 [(0, .ref (a0 0)), (1, .int x1), (2, .int x2), (3, .int x3)] [] [wHouse E a0 v0] := by
  intro n
  induction n with
  | zero =>
    intro x1 x3 hf
    simp [House_countCrossings_16] at hf
  | succ n ih =>
    intro x1 x3 hf
    rw [House_countCrossings_16] at hf
    refine ww_iload_n C dX2_countCrossings_16 rfl 3 rfl ?_
    refine ww_aload_n C dX2_countCrossings_17 rfl 0 rfl ?_
    refine ww_get C clOK2 in_X2_countCrossings_X2 (w := wHouse E a0 v0) (fs := fsHouse a0 v0) (v := .int (House_guards v0)) 0 0 2 rfl q_House (by decide) (by decide +kernel) g_House_guards dX2_countCrossings_18 ?_
    refine ww_icmp_ge (tgt := 41) C dX2_countCrossings_21 (by decide) (fun c_3 => ?_) (fun c_3 => ?_)
    · replace hf := ifT c_3 hf
      obtain ⟨x2_41, e_x2_41⟩ : ∃ y : Int32, y = x2 + 1 := ⟨_, rfl⟩
      replace hf := ltE e_x2_41 hf
      refine ww_iinc (v := x2_41) (lv' := [(2, .int x2_41), (0, .ref (a0 0)), (1, .int x1), (3, .int x3)]) C dX2_countCrossings_41 2 rfl (by rw [e_x2_41]; rfl) (by decide) rfl ?_
      refine ww_goto (tgt := 4) C dX2_countCrossings_44 (by decide) ?_
      refine ww_sub C (lv' := [(0, .ref (a0 0)), (1, .int x1), (2, .int x2_41)]) [1, 2, 0] rfl ?_
      exact hk4 _ _ hf
    · replace hf := ifF c_3 hf
      refine ww_iload_n C dX2_countCrossings_24 rfl 1 rfl ?_
      refine ww_aload_n C dX2_countCrossings_25 rfl 0 rfl ?_
      refine ww_iload_n C dX2_countCrossings_26 rfl 2 rfl ?_
      refine ww_iload_n C dX2_countCrossings_27 rfl 3 rfl ?_
      refine ww_iconst (v := 1) C dX2_countCrossings_28 (by decide) ?_
      refine ww_iconst (v := 1) C dX2_countCrossings_29 (by decide) ?_
      obtain ⟨p30, hp30, hf⟩ := bdE hf
      refine ww_callV C (As := [.int x2, .int x3, .int 1, .int 1]) (st := [.int x1]) (gr := []) (c_X2_countPair (E := E) (a0 := a0) hp30) gX2_countCrossings_X2_countPair rfl yk_X2_countPair ⟨by decide, by decide⟩ ⟨by decide, by decide⟩ clOK2 0 0 rfl rfl [0] [] 1 rfl (by decide) rfl rfl (Nat.le_of_ble_eq_true rfl) dX2_countCrossings_30 ?_
      rintro _ _ ⟨rfl, rfl⟩
      refine ww_perm (gs' := [wHouse E a0 v0]) [0] 1 rfl (by decide) rfl ?_
      refine ww_iadd C dX2_countCrossings_33 ?_
      refine ww_topi (fun x1_34 e_x1_34 => ?_)
      replace hf := ltE e_x1_34 hf
      refine ww_istore_n (lv' := [(1, .int x1_34), (0, .ref (a0 0)), (2, .int x2), (3, .int x3)]) C dX2_countCrossings_34 rfl (by decide) rfl ?_
      obtain ⟨x3_35, e_x3_35⟩ : ∃ y : Int32, y = x3 + 1 := ⟨_, rfl⟩
      replace hf := ltE e_x3_35 hf
      refine ww_iinc (v := x3_35) (lv' := [(3, .int x3_35), (1, .int x1_34), (0, .ref (a0 0)), (2, .int x2)]) C dX2_countCrossings_35 3 rfl (by rw [e_x3_35]; rfl) (by decide) rfl ?_
      refine ww_goto (tgt := 16) C dX2_countCrossings_38 (by decide) ?_
      refine ww_sub C (lv' := [(0, .ref (a0 0)), (1, .int x1_34), (2, .int x2), (3, .int x3_35)]) [2, 1, 3, 0] rfl ?_
      exact ih _ _ hf

set_option maxHeartbeats 4000000 in
set_option maxRecDepth 100000 in
theorem w_X2_countCrossings_4 {E : Ex} {K : Kx} (C : Cx E K cX2_countCrossings 4 (some .int) RX2 wsX2_countCrossings rmX2_countCrossings) {a0 : Nat → Nat} {v0 : HouseV}  {r : Int32} : ∀ (n : Nat) (x1 : Int32) (x2 : Int32), House_countCrossings_4 v0 n x1 x2 = some r → WW E K 0 0 (QQ E K (fun rv g => rv = some (.int r) ∧ g = [wHouse E a0 v0]) 0 0) 4 [(0, .ref (a0 0)), (1, .int x1), (2, .int x2)] [] [wHouse E a0 v0] := by
  intro n
  induction n with
  | zero =>
    intro x1 x2 hf
    simp [House_countCrossings_4] at hf
  | succ n ih =>
    intro x1 x2 hf
    rw [House_countCrossings_4] at hf
    refine ww_iload_n C dX2_countCrossings_4 rfl 2 rfl ?_
    refine ww_aload_n C dX2_countCrossings_5 rfl 0 rfl ?_
    refine ww_get C clOK2 in_X2_countCrossings_X2 (w := wHouse E a0 v0) (fs := fsHouse a0 v0) (v := .int (House_guards v0)) 0 0 2 rfl q_House (by decide) (by decide +kernel) g_House_guards dX2_countCrossings_6 ?_
    refine ww_icmp_ge (tgt := 47) C dX2_countCrossings_9 (by decide) (fun c_1 => ?_) (fun c_1 => ?_)
    · replace hf := ifT c_1 hf
      refine ww_iload_n C dX2_countCrossings_47 rfl 1 rfl ?_
      obtain rfl := Option.some.inj hf
      exact ww_iret C ⟨rfl, rfl⟩ dX2_countCrossings_48
    · replace hf := ifF c_1 hf
      refine ww_iload_n C dX2_countCrossings_12 rfl 2 rfl ?_
      refine ww_iconst (v := 1) C dX2_countCrossings_13 (by decide) ?_
      refine ww_iadd C dX2_countCrossings_14 ?_
      refine ww_topi (fun x3_15 e_x3_15 => ?_)
      replace hf := ltE e_x3_15 hf
      refine ww_istore_n (lv' := [(3, .int x3_15), (0, .ref (a0 0)), (1, .int x1), (2, .int x2)]) C dX2_countCrossings_15 rfl (by decide) rfl ?_
      refine ww_sub C (lv' := [(0, .ref (a0 0)), (1, .int x1), (2, .int x2), (3, .int x3_15)]) [1, 2, 3, 0] rfl ?_
      exact w_X2_countCrossings_16 C (k4 := (fun (x1 : Int32) (x2 : Int32) => House_countCrossings_4 v0 n x1 x2)) ih FU _ _ hf

set_option maxHeartbeats 4000000 in
set_option maxRecDepth 100000 in
theorem c_X2_countCrossings {E : Ex} {a0 : Nat → Nat} {v0 : HouseV} {r : Int32} (hf : House_countCrossings v0 = some r) : Ct E yX2_countCrossings wsX2_countCrossings rmX2_countCrossings [.ref (a0 0)] [wHouse E a0 v0] (fun rv g => rv = some (.int r) ∧ g = [wHouse E a0 v0]) := by
  refine ct_of (own := RX2) (by decide +kernel) rfl rfl (Nat.le_of_ble_eq_true rfl) (fun K C => ?_)
  refine ww_sub C (lv' := [(0, .ref (a0 0))]) [0] rfl ?_
  rw [House_countCrossings] at hf
  refine ww_iconst (v := 0) C dX2_countCrossings_0 (by decide) ?_
  refine ww_istore_n (lv' := [(1, .int 0), (0, .ref (a0 0))]) C dX2_countCrossings_1 rfl (by decide) rfl ?_
  refine ww_iconst (v := 0) C dX2_countCrossings_2 (by decide) ?_
  refine ww_istore_n (lv' := [(2, .int 0), (1, .int 0), (0, .ref (a0 0))]) C dX2_countCrossings_3 rfl (by decide) rfl ?_
  refine ww_sub C (lv' := [(0, .ref (a0 0)), (1, .int 0), (2, .int 0)]) [2, 1, 0] rfl ?_
  exact w_X2_countCrossings_4 C FU _ _ hf

theorem yk_X2_countCrossings : yX2_countCrossings.cls = RX2 ∧ yX2_countCrossings.cls ≠ "java/lang/invoke/MethodHandle" ∧ yX2_countCrossings.cls ≠ "java/lang/invoke/VarHandle" ∧ (parseMethodDescriptor yX2_countCrossings.desc).map (fun d => d.parameters.length) = some 0 := by decide +kernel
abbrev rmX2_passMinute : Room := { frames := 3, cells := 0, slots := 0, locals := 68 }
set_option maxRecDepth 20000 in
theorem in_X2_passMinute_X2 : ∀ w ∈ u_ws RX2 TX2 19, w ∈ wsX2_passMinute := by decide +kernel
set_option maxHeartbeats 4000000 in
set_option maxRecDepth 100000 in
theorem w_X2_passMinute_100 {E : Ex} {K : Kx} (C : Cx E K cX2_passMinute 3 (some .int) RX2 wsX2_passMinute rmX2_passMinute) {a0 : Nat → Nat}   {x1 : Int32} {v0 : HouseV} {r : (Int32 × HouseV)} (hf : House_passMinute_100 x1 v0 = some r) : WW E K 0 0 (QQ E K (fun rv g => rv = some (.int r.1) ∧ g = [wHouse E a0 r.2]) 0 0) 100 [(0, .ref (a0 0)), (1, .int x1)] [] [wHouse E a0 v0] := by
  rw [House_passMinute_100] at hf
  refine ww_aload_n C dX2_passMinute_100 rfl 0 rfl ?_
  refine ww_dup C dX2_passMinute_101 rfl ?_
  refine ww_get C clOK2 in_X2_passMinute_X2 (w := wHouse E a0 v0) (fs := fsHouse a0 v0) (v := .int (House_minute v0)) 0 0 3 rfl q_House (by decide) (by decide +kernel) g_House_minute dX2_passMinute_102 ?_
  refine ww_iconst (v := 1) C dX2_passMinute_105 (by decide) ?_
  refine ww_iadd C dX2_passMinute_106 ?_
  obtain ⟨v0_107, e_v0_107⟩ : ∃ y : HouseV, y = House_set_minute v0 ((House_minute v0) + 1) := ⟨_, rfl⟩
  replace hf := ltE e_v0_107 hf
  refine ww_put C clOK2 in_X2_passMinute_X2 (w := wHouse E a0 v0) (fs := fsHouse a0 v0) (w' := wHouse E a0 v0_107) (gs' := [wHouse E a0 v0_107]) 0 0 3 rfl q_House (by decide) (by decide +kernel) rfl rfl rfl rfl l_House (by rw [e_v0_107]; exact p_House_minute) rfl dX2_passMinute_107 ?_
  refine ww_iload_n C dX2_passMinute_110 rfl 1 rfl ?_
  obtain ⟨p111, hp111, hf⟩ := bdE hf
  refine ww_callS C (As := [.int x1]) (st := []) (gr := [wHouse E a0 v0_107]) (c_J6_bitCount_0f7a4 (E := E)  hp111) gX2_passMinute_J6_bitCount_0f7a4 rfl ysk_J6_bitCount_0f7a4 ⟨by decide, by decide⟩ ⟨by decide, by decide⟩ [] [0] 1 rfl (by decide) rfl rfl (Nat.le_of_ble_eq_true rfl) dX2_passMinute_111 ?_
  rintro _ _ ⟨rfl, rfl⟩
  refine ww_perm (gs' := [wHouse E a0 v0_107]) [0] 1 rfl (by decide) rfl ?_
  obtain rfl := Option.some.inj hf
  exact ww_iret C ⟨rfl, rfl⟩ dX2_passMinute_114

set_option maxHeartbeats 4000000 in
set_option maxRecDepth 100000 in
theorem w_X2_passMinute_11 {E : Ex} {K : Kx} (C : Cx E K cX2_passMinute 3 (some .int) RX2 wsX2_passMinute rmX2_passMinute) {a0 : Nat → Nat}  {x1 : Int32} {r : (Int32 × HouseV)} : ∀ (n : Nat) (x2 : Int32) (v0 : HouseV), House_passMinute_11 x1 n x2 v0 = some r → WW E K 0 0 (QQ E K (fun rv g => rv = some (.int r.1) ∧ g = [wHouse E a0 r.2]) 0 0) 11 [(0, .ref (a0 0)), (1, .int x1), (2, .int x2)] [] [wHouse E a0 v0] := by
  intro n
  induction n with
  | zero =>
    intro x2 v0 hf
    simp [House_passMinute_11] at hf
  | succ n ih =>
    intro x2 v0 hf
    rw [House_passMinute_11] at hf
    refine ww_iload_n C dX2_passMinute_11 rfl 2 rfl ?_
    refine ww_aload_n C dX2_passMinute_12 rfl 0 rfl ?_
    refine ww_get C clOK2 in_X2_passMinute_X2 (w := wHouse E a0 v0) (fs := fsHouse a0 v0) (v := .int (House_rooms v0)) 0 0 0 rfl q_House (by decide) (by decide +kernel) g_House_rooms dX2_passMinute_13 ?_
    refine ww_icmp_ge (tgt := 100) C dX2_passMinute_16 (by decide) (fun c_1 => ?_) (fun c_1 => ?_)
    · replace hf := ifT c_1 hf
      refine ww_sub C (lv' := [(0, .ref (a0 0)), (1, .int x1)]) [0, 1] rfl ?_
      exact w_X2_passMinute_100 C hf
    · replace hf := ifF c_1 hf
      refine ww_iload_n C dX2_passMinute_19 rfl 2 rfl ?_
      refine ww_bipush (v := 12) C dX2_passMinute_20 (by decide) ?_
      refine ww_icmp_ge (tgt := 100) C dX2_passMinute_22 (by decide) (fun c_2 => ?_) (fun c_2 => ?_)
      · replace hf := ifT c_2 hf
        refine ww_sub C (lv' := [(0, .ref (a0 0)), (1, .int x1)]) [0, 1] rfl ?_
        exact w_X2_passMinute_100 C hf
      · replace hf := ifF c_2 hf
        refine ww_iload_n C dX2_passMinute_25 rfl 1 rfl ?_
        refine ww_iload_n C dX2_passMinute_26 rfl 2 rfl ?_
        obtain ⟨p27, hp27, hf⟩ := bdE hf
        refine ww_callSN C (As := [.int x1, .int x2]) (st := []) (gr := [wHouse E a0 v0]) (host := RX8) (c_X8_has (E := E)  hp27) gX2_passMinute_X8_has_n86 rfl (by decide +kernel) (by decide +kernel) (by decide +kernel) ysk_X8_has ⟨by decide, by decide⟩ ⟨by decide, by decide⟩ [] [0] 1 rfl (by decide) rfl rfl (Nat.le_of_ble_eq_true rfl) dX2_passMinute_27 ?_
        rintro _ _ ⟨rfl, rfl⟩
        refine ww_perm (gs' := [wHouse E a0 v0]) [0] 1 rfl (by decide) rfl ?_
        refine ww_if_eqB (tgt := 63) C dX2_passMinute_30 (by decide) (fun c_3 => ?_) (fun c_3 => ?_)
        · replace hf := bfE c_3 hf
          refine ww_aload_n C dX2_passMinute_63 rfl 0 rfl ?_
          refine ww_get C clOK2 in_X2_passMinute_X2 (w := wHouse E a0 v0) (fs := fsHouse a0 v0) (v := .ref (a0 11)) 0 0 17 rfl q_House (by decide) (by decide +kernel) g_House_runs dX2_passMinute_64 ?_
          refine ww_iload_n C dX2_passMinute_67 rfl 2 rfl ?_
          refine ww_dup2 C dX2_passMinute_68 rfl rfl ?_
          obtain ⟨g_4, hf⟩ := gdE hf
          refine ww_iald C (f := House_runs v0) (w := wHouse E a0 v0) 0 11 rfl c_House_runs (inB_vp g_4) dX2_passMinute_69 ?_
          refine ww_iconst (v := 1) C dX2_passMinute_70 (by decide) ?_
          refine ww_iadd C dX2_passMinute_71 ?_
          obtain ⟨v0_72, e_v0_72⟩ : ∃ y : HouseV, y = House_set_runs v0 (upd (House_runs v0) (Int32.toNatClampNeg x2) (((House_runs v0) (Int32.toNatClampNeg x2)) + 1)) := ⟨_, rfl⟩
          replace hf := ltE e_v0_72 hf
          refine ww_iast C (f := House_runs v0) (w := wHouse E a0 v0) (w' := wHouse E a0 v0_72) (gs' := [wHouse E a0 v0_72]) 0 11 rfl c_House_runs (inB_vp g_4) (by rw [e_v0_72]; exact s_House_runs) rfl dX2_passMinute_72 ?_
          refine ww_aload_n C dX2_passMinute_73 rfl 0 rfl ?_
          refine ww_get C clOK2 in_X2_passMinute_X2 (w := wHouse E a0 v0_72) (fs := fsHouse a0 v0_72) (v := .ref (a0 12)) 0 0 18 rfl q_House (by decide) (by decide +kernel) g_House_longestRuns dX2_passMinute_74 ?_
          refine ww_iload_n C dX2_passMinute_77 rfl 2 rfl ?_
          refine ww_aload_n C dX2_passMinute_78 rfl 0 rfl ?_
          refine ww_get C clOK2 in_X2_passMinute_X2 (w := wHouse E a0 v0_72) (fs := fsHouse a0 v0_72) (v := .ref (a0 12)) 0 0 18 rfl q_House (by decide) (by decide +kernel) g_House_longestRuns dX2_passMinute_79 ?_
          refine ww_iload_n C dX2_passMinute_82 rfl 2 rfl ?_
          refine ww_iald C (f := House_longestRuns v0_72) (w := wHouse E a0 v0_72) 0 12 rfl c_House_longestRuns (inB_vp g_4) dX2_passMinute_83 ?_
          refine ww_aload_n C dX2_passMinute_84 rfl 0 rfl ?_
          refine ww_get C clOK2 in_X2_passMinute_X2 (w := wHouse E a0 v0_72) (fs := fsHouse a0 v0_72) (v := .ref (a0 11)) 0 0 17 rfl q_House (by decide) (by decide +kernel) g_House_runs dX2_passMinute_85 ?_
          refine ww_iload_n C dX2_passMinute_88 rfl 2 rfl ?_
          refine ww_iald C (f := House_runs v0_72) (w := wHouse E a0 v0_72) 0 11 rfl c_House_runs (inB_vp g_4) dX2_passMinute_89 ?_
          refine ww_max C (by decide +kernel) (by decide +kernel) (by decide +kernel) (by decide +kernel) (by decide) (Nat.le_of_ble_eq_true rfl) (by decide) (by decide) dX2_passMinute_90 ?_
          obtain ⟨v0_93, e_v0_93⟩ : ∃ y : HouseV, y = House_set_longestRuns v0_72 (upd (House_longestRuns v0_72) (Int32.toNatClampNeg x2) (imax ((House_longestRuns v0_72) (Int32.toNatClampNeg x2)) ((House_runs v0_72) (Int32.toNatClampNeg x2)))) := ⟨_, rfl⟩
          replace hf := ltE e_v0_93 hf
          refine ww_iast C (f := House_longestRuns v0_72) (w := wHouse E a0 v0_72) (w' := wHouse E a0 v0_93) (gs' := [wHouse E a0 v0_93]) 0 12 rfl c_House_longestRuns (inB_vp g_4) (by rw [e_v0_93]; exact s_House_longestRuns) rfl dX2_passMinute_93 ?_
          obtain ⟨x2_94, e_x2_94⟩ : ∃ y : Int32, y = x2 + 1 := ⟨_, rfl⟩
          replace hf := ltE e_x2_94 hf
          refine ww_iinc (v := x2_94) (lv' := [(2, .int x2_94), (0, .ref (a0 0)), (1, .int x1)]) C dX2_passMinute_94 2 rfl (by rw [e_x2_94]; rfl) (by decide) rfl ?_
          refine ww_goto (tgt := 11) C dX2_passMinute_97 (by decide) ?_
          refine ww_sub C (lv' := [(0, .ref (a0 0)), (1, .int x1), (2, .int x2_94)]) [1, 2, 0] rfl ?_
          exact ih _ _ hf
        · replace hf := btE c_3 hf
          refine ww_aload_n C dX2_passMinute_33 rfl 0 rfl ?_
          refine ww_get C clOK2 in_X2_passMinute_X2 (w := wHouse E a0 v0) (fs := fsHouse a0 v0) (v := .ref (a0 9)) 0 0 15 rfl q_House (by decide) (by decide +kernel) g_House_sightings dX2_passMinute_34 ?_
          refine ww_iload_n C dX2_passMinute_37 rfl 2 rfl ?_
          refine ww_dup2 C dX2_passMinute_38 rfl rfl ?_
          obtain ⟨g_5, hf⟩ := gdE hf
          refine ww_iald C (f := House_sightings v0) (w := wHouse E a0 v0) 0 9 rfl c_House_sightings (inB_vp g_5) dX2_passMinute_39 ?_
          refine ww_iconst (v := 1) C dX2_passMinute_40 (by decide) ?_
          refine ww_iadd C dX2_passMinute_41 ?_
          obtain ⟨v0_42, e_v0_42⟩ : ∃ y : HouseV, y = House_set_sightings v0 (upd (House_sightings v0) (Int32.toNatClampNeg x2) (((House_sightings v0) (Int32.toNatClampNeg x2)) + 1)) := ⟨_, rfl⟩
          replace hf := ltE e_v0_42 hf
          refine ww_iast C (f := House_sightings v0) (w := wHouse E a0 v0) (w' := wHouse E a0 v0_42) (gs' := [wHouse E a0 v0_42]) 0 9 rfl c_House_sightings (inB_vp g_5) (by rw [e_v0_42]; exact s_House_sightings) rfl dX2_passMinute_42 ?_
          refine ww_aload_n C dX2_passMinute_43 rfl 0 rfl ?_
          refine ww_get C clOK2 in_X2_passMinute_X2 (w := wHouse E a0 v0_42) (fs := fsHouse a0 v0_42) (v := .ref (a0 10)) 0 0 16 rfl q_House (by decide) (by decide +kernel) g_House_lastSeen dX2_passMinute_44 ?_
          refine ww_iload_n C dX2_passMinute_47 rfl 2 rfl ?_
          refine ww_aload_n C dX2_passMinute_48 rfl 0 rfl ?_
          refine ww_get C clOK2 in_X2_passMinute_X2 (w := wHouse E a0 v0_42) (fs := fsHouse a0 v0_42) (v := .int (House_minute v0_42)) 0 0 3 rfl q_House (by decide) (by decide +kernel) g_House_minute dX2_passMinute_49 ?_
          obtain ⟨v0_52, e_v0_52⟩ : ∃ y : HouseV, y = House_set_lastSeen v0_42 (upd (House_lastSeen v0_42) (Int32.toNatClampNeg x2) (House_minute v0_42)) := ⟨_, rfl⟩
          replace hf := ltE e_v0_52 hf
          refine ww_iast C (f := House_lastSeen v0_42) (w := wHouse E a0 v0_42) (w' := wHouse E a0 v0_52) (gs' := [wHouse E a0 v0_52]) 0 10 rfl c_House_lastSeen (inB_vp g_5) (by rw [e_v0_52]; exact s_House_lastSeen) rfl dX2_passMinute_52 ?_
          refine ww_aload_n C dX2_passMinute_53 rfl 0 rfl ?_
          refine ww_get C clOK2 in_X2_passMinute_X2 (w := wHouse E a0 v0_52) (fs := fsHouse a0 v0_52) (v := .ref (a0 11)) 0 0 17 rfl q_House (by decide) (by decide +kernel) g_House_runs dX2_passMinute_54 ?_
          refine ww_iload_n C dX2_passMinute_57 rfl 2 rfl ?_
          refine ww_iconst (v := 0) C dX2_passMinute_58 (by decide) ?_
          obtain ⟨v0_59, e_v0_59⟩ : ∃ y : HouseV, y = House_set_runs v0_52 (upd (House_runs v0_52) (Int32.toNatClampNeg x2) 0) := ⟨_, rfl⟩
          replace hf := ltE e_v0_59 hf
          refine ww_iast C (f := House_runs v0_52) (w := wHouse E a0 v0_52) (w' := wHouse E a0 v0_59) (gs' := [wHouse E a0 v0_59]) 0 11 rfl c_House_runs (inB_vp g_5) (by rw [e_v0_59]; exact s_House_runs) rfl dX2_passMinute_59 ?_
          refine ww_goto (tgt := 94) C dX2_passMinute_60 (by decide) ?_
          obtain ⟨x2_94, e_x2_94⟩ : ∃ y : Int32, y = x2 + 1 := ⟨_, rfl⟩
          replace hf := ltE e_x2_94 hf
          refine ww_iinc (v := x2_94) (lv' := [(2, .int x2_94), (0, .ref (a0 0)), (1, .int x1)]) C dX2_passMinute_94 2 rfl (by rw [e_x2_94]; rfl) (by decide) rfl ?_
          refine ww_goto (tgt := 11) C dX2_passMinute_97 (by decide) ?_
          refine ww_sub C (lv' := [(0, .ref (a0 0)), (1, .int x1), (2, .int x2_94)]) [1, 2, 0] rfl ?_
          exact ih _ _ hf

set_option maxHeartbeats 4000000 in
set_option maxRecDepth 100000 in
theorem c_X2_passMinute {E : Ex} {a0 : Nat → Nat} {v0 : HouseV} {r : (Int32 × HouseV)} (hf : House_passMinute v0 = some r) : Ct E yX2_passMinute wsX2_passMinute rmX2_passMinute [.ref (a0 0)] [wHouse E a0 v0] (fun rv g => rv = some (.int r.1) ∧ g = [wHouse E a0 r.2]) := by
  refine ct_of (own := RX2) (by decide +kernel) rfl rfl (Nat.le_of_ble_eq_true rfl) (fun K C => ?_)
  refine ww_sub C (lv' := [(0, .ref (a0 0))]) [0] rfl ?_
  rw [House_passMinute] at hf
  refine ww_aload_n C dX2_passMinute_0 rfl 0 rfl ?_
  refine ww_aload_n C dX2_passMinute_1 rfl 0 rfl ?_
  refine ww_get C clOK2 in_X2_passMinute_X2 (w := wHouse E a0 v0) (fs := fsHouse a0 v0) (v := .int (House_minute v0)) 0 0 3 rfl q_House (by decide) (by decide +kernel) g_House_minute dX2_passMinute_2 ?_
  obtain ⟨p5, hp5, hf⟩ := bdE hf
  refine ww_callV C (As := [.int (House_minute v0)]) (st := []) (gr := []) (c_X2_roomsSeenAt (E := E) (a0 := a0) hp5) gX2_passMinute_X2_roomsSeenAt rfl yk_X2_roomsSeenAt ⟨by decide, by decide⟩ ⟨by decide, by decide⟩ clOK2 0 0 rfl rfl [0] [] 1 rfl (by decide) rfl rfl (Nat.le_of_ble_eq_true rfl) dX2_passMinute_5 ?_
  rintro _ _ ⟨rfl, rfl⟩
  refine ww_perm (gs' := [wHouse E a0 v0]) [0] 1 rfl (by decide) rfl ?_
  refine ww_istore_n (lv' := [(1, .int p5), (0, .ref (a0 0))]) C dX2_passMinute_8 rfl (by decide) rfl ?_
  refine ww_iconst (v := 0) C dX2_passMinute_9 (by decide) ?_
  refine ww_istore_n (lv' := [(2, .int 0), (1, .int p5), (0, .ref (a0 0))]) C dX2_passMinute_10 rfl (by decide) rfl ?_
  refine ww_sub C (lv' := [(0, .ref (a0 0)), (1, .int p5), (2, .int 0)]) [2, 1, 0] rfl ?_
  exact w_X2_passMinute_11 C FU _ _ hf

theorem yk_X2_passMinute : yX2_passMinute.cls = RX2 ∧ yX2_passMinute.cls ≠ "java/lang/invoke/MethodHandle" ∧ yX2_passMinute.cls ≠ "java/lang/invoke/VarHandle" ∧ (parseMethodDescriptor yX2_passMinute.desc).map (fun d => d.parameters.length) = some 0 := by decide +kernel
abbrev rmX2_countSightings : Room := { frames := 0, cells := 0, slots := 0, locals := 0 }
set_option maxRecDepth 20000 in
theorem in_X2_countSightings_X2 : ∀ w ∈ u_ws RX2 TX2 19, w ∈ wsX2_countSightings := by decide +kernel
set_option maxHeartbeats 4000000 in
set_option maxRecDepth 100000 in
theorem w_X2_countSightings_4 {E : Ex} {K : Kx} (C : Cx E K cX2_countSightings 3 (some .int) RX2 wsX2_countSightings rmX2_countSightings) {a0 : Nat → Nat} {v0 : HouseV}  {r : Int32} : ∀ (n : Nat) (x1 : Int32) (x2 : Int32), House_countSightings_4 v0 n x1 x2 = some r → WW E K 0 0 (QQ E K (fun rv g => rv = some (.int r) ∧ g = [wHouse E a0 v0]) 0 0) 4 [(0, .ref (a0 0)), (1, .int x1), (2, .int x2)] [] [wHouse E a0 v0] := by
  intro n
  induction n with
  | zero =>
    intro x1 x2 hf
    simp [House_countSightings_4] at hf
  | succ n ih =>
    intro x1 x2 hf
    rw [House_countSightings_4] at hf
    refine ww_iload_n C dX2_countSightings_4 rfl 2 rfl ?_
    refine ww_aload_n C dX2_countSightings_5 rfl 0 rfl ?_
    refine ww_get C clOK2 in_X2_countSightings_X2 (w := wHouse E a0 v0) (fs := fsHouse a0 v0) (v := .int (House_rooms v0)) 0 0 0 rfl q_House (by decide) (by decide +kernel) g_House_rooms dX2_countSightings_6 ?_
    refine ww_icmp_ge (tgt := 33) C dX2_countSightings_9 (by decide) (fun c_1 => ?_) (fun c_1 => ?_)
    · replace hf := ifT c_1 hf
      refine ww_iload_n C dX2_countSightings_33 rfl 1 rfl ?_
      obtain rfl := Option.some.inj hf
      exact ww_iret C ⟨rfl, rfl⟩ dX2_countSightings_34
    · replace hf := ifF c_1 hf
      refine ww_iload_n C dX2_countSightings_12 rfl 2 rfl ?_
      refine ww_bipush (v := 12) C dX2_countSightings_13 (by decide) ?_
      refine ww_icmp_ge (tgt := 33) C dX2_countSightings_15 (by decide) (fun c_2 => ?_) (fun c_2 => ?_)
      · replace hf := ifT c_2 hf
        refine ww_iload_n C dX2_countSightings_33 rfl 1 rfl ?_
        obtain rfl := Option.some.inj hf
        exact ww_iret C ⟨rfl, rfl⟩ dX2_countSightings_34
      · replace hf := ifF c_2 hf
        refine ww_iload_n C dX2_countSightings_18 rfl 1 rfl ?_
        refine ww_aload_n C dX2_countSightings_19 rfl 0 rfl ?_
        refine ww_get C clOK2 in_X2_countSightings_X2 (w := wHouse E a0 v0) (fs := fsHouse a0 v0) (v := .ref (a0 9)) 0 0 15 rfl q_House (by decide) (by decide +kernel) g_House_sightings dX2_countSightings_20 ?_
        refine ww_iload_n C dX2_countSightings_23 rfl 2 rfl ?_
        obtain ⟨g_3, hf⟩ := gdE hf
        refine ww_iald C (f := House_sightings v0) (w := wHouse E a0 v0) 0 9 rfl c_House_sightings (inB_vp g_3) dX2_countSightings_24 ?_
        refine ww_iadd C dX2_countSightings_25 ?_
        refine ww_topi (fun x1_26 e_x1_26 => ?_)
        replace hf := ltE e_x1_26 hf
        refine ww_istore_n (lv' := [(1, .int x1_26), (0, .ref (a0 0)), (2, .int x2)]) C dX2_countSightings_26 rfl (by decide) rfl ?_
        obtain ⟨x2_27, e_x2_27⟩ : ∃ y : Int32, y = x2 + 1 := ⟨_, rfl⟩
        replace hf := ltE e_x2_27 hf
        refine ww_iinc (v := x2_27) (lv' := [(2, .int x2_27), (1, .int x1_26), (0, .ref (a0 0))]) C dX2_countSightings_27 2 rfl (by rw [e_x2_27]; rfl) (by decide) rfl ?_
        refine ww_goto (tgt := 4) C dX2_countSightings_30 (by decide) ?_
        refine ww_sub C (lv' := [(0, .ref (a0 0)), (1, .int x1_26), (2, .int x2_27)]) [2, 1, 0] rfl ?_
        exact ih _ _ hf

set_option maxHeartbeats 4000000 in
set_option maxRecDepth 100000 in
theorem c_X2_countSightings {E : Ex} {a0 : Nat → Nat} {v0 : HouseV} {r : Int32} (hf : House_countSightings v0 = some r) : Ct E yX2_countSightings wsX2_countSightings rmX2_countSightings [.ref (a0 0)] [wHouse E a0 v0] (fun rv g => rv = some (.int r) ∧ g = [wHouse E a0 v0]) := by
  refine ct_of (own := RX2) (by decide +kernel) rfl rfl (Nat.le_of_ble_eq_true rfl) (fun K C => ?_)
  refine ww_sub C (lv' := [(0, .ref (a0 0))]) [0] rfl ?_
  rw [House_countSightings] at hf
  refine ww_iconst (v := 0) C dX2_countSightings_0 (by decide) ?_
  refine ww_istore_n (lv' := [(1, .int 0), (0, .ref (a0 0))]) C dX2_countSightings_1 rfl (by decide) rfl ?_
  refine ww_iconst (v := 0) C dX2_countSightings_2 (by decide) ?_
  refine ww_istore_n (lv' := [(2, .int 0), (1, .int 0), (0, .ref (a0 0))]) C dX2_countSightings_3 rfl (by decide) rfl ?_
  refine ww_sub C (lv' := [(0, .ref (a0 0)), (1, .int 0), (2, .int 0)]) [2, 1, 0] rfl ?_
  exact w_X2_countSightings_4 C FU _ _ hf

theorem yk_X2_countSightings : yX2_countSightings.cls = RX2 ∧ yX2_countSightings.cls ≠ "java/lang/invoke/MethodHandle" ∧ yX2_countSightings.cls ≠ "java/lang/invoke/VarHandle" ∧ (parseMethodDescriptor yX2_countSightings.desc).map (fun d => d.parameters.length) = some 0 := by decide +kernel
abbrev rmX2_copyFrom : Room := { frames := 1, cells := 0, slots := 0, locals := 40 }
set_option maxRecDepth 20000 in
theorem in_X2_copyFrom_X2 : ∀ w ∈ u_ws RX2 TX2 19, w ∈ wsX2_copyFrom := by decide +kernel
set_option maxHeartbeats 4000000 in
set_option maxRecDepth 100000 in
theorem c_X2_copyFrom {E : Ex} {a0 : Nat → Nat} {a1 : Nat → Nat} {v0 : HouseV} {v1 : HouseV} {r : HouseV} (hf : House_copyFrom v0 v1 = some r) : Ct E yX2_copyFrom wsX2_copyFrom rmX2_copyFrom [.ref (a0 0), .ref (a1 0)] [wHouse E a0 v0, wHouse E a1 v1] (fun rv g => rv = none ∧ g = [wHouse E a0 r, wHouse E a1 v1]) := by
  refine ct_of (own := RX2) (by decide +kernel) rfl rfl (Nat.le_of_ble_eq_true rfl) (fun K C => ?_)
  refine ww_sub C (lv' := [(0, .ref (a0 0)), (1, .ref (a1 0))]) [0, 1] rfl ?_
  rw [House_copyFrom] at hf
  refine ww_aload_n C dX2_copyFrom_0 rfl 0 rfl ?_
  refine ww_aload_n C dX2_copyFrom_1 rfl 1 rfl ?_
  refine ww_get C clOK2 in_X2_copyFrom_X2 (w := wHouse E a1 v1) (fs := fsHouse a1 v1) (v := .int (House_rooms v1)) 1 0 0 rfl q_House (by decide) (by decide +kernel) g_House_rooms dX2_copyFrom_2 ?_
  obtain ⟨v0_5, e_v0_5⟩ : ∃ y : HouseV, y = House_set_rooms v0 (House_rooms v1) := ⟨_, rfl⟩
  replace hf := ltE e_v0_5 hf
  refine ww_put C clOK2 in_X2_copyFrom_X2 (w := wHouse E a0 v0) (fs := fsHouse a0 v0) (w' := wHouse E a0 v0_5) (gs' := [wHouse E a0 v0_5, wHouse E a1 v1]) 0 0 0 rfl q_House (by decide) (by decide +kernel) rfl rfl rfl rfl l_House (by rw [e_v0_5]; exact p_House_rooms) rfl dX2_copyFrom_5 ?_
  refine ww_aload_n C dX2_copyFrom_8 rfl 0 rfl ?_
  refine ww_aload_n C dX2_copyFrom_9 rfl 1 rfl ?_
  refine ww_get C clOK2 in_X2_copyFrom_X2 (w := wHouse E a1 v1) (fs := fsHouse a1 v1) (v := .int (House_doors v1)) 1 0 1 rfl q_House (by decide) (by decide +kernel) g_House_doors dX2_copyFrom_10 ?_
  obtain ⟨v0_13, e_v0_13⟩ : ∃ y : HouseV, y = House_set_doors v0_5 (House_doors v1) := ⟨_, rfl⟩
  replace hf := ltE e_v0_13 hf
  refine ww_put C clOK2 in_X2_copyFrom_X2 (w := wHouse E a0 v0_5) (fs := fsHouse a0 v0_5) (w' := wHouse E a0 v0_13) (gs' := [wHouse E a0 v0_13, wHouse E a1 v1]) 0 0 1 rfl q_House (by decide) (by decide +kernel) rfl rfl rfl rfl l_House (by rw [e_v0_13]; exact p_House_doors) rfl dX2_copyFrom_13 ?_
  refine ww_aload_n C dX2_copyFrom_16 rfl 0 rfl ?_
  refine ww_aload_n C dX2_copyFrom_17 rfl 1 rfl ?_
  refine ww_get C clOK2 in_X2_copyFrom_X2 (w := wHouse E a1 v1) (fs := fsHouse a1 v1) (v := .int (House_guards v1)) 1 0 2 rfl q_House (by decide) (by decide +kernel) g_House_guards dX2_copyFrom_18 ?_
  obtain ⟨v0_21, e_v0_21⟩ : ∃ y : HouseV, y = House_set_guards v0_13 (House_guards v1) := ⟨_, rfl⟩
  replace hf := ltE e_v0_21 hf
  refine ww_put C clOK2 in_X2_copyFrom_X2 (w := wHouse E a0 v0_13) (fs := fsHouse a0 v0_13) (w' := wHouse E a0 v0_21) (gs' := [wHouse E a0 v0_21, wHouse E a1 v1]) 0 0 2 rfl q_House (by decide) (by decide +kernel) rfl rfl rfl rfl l_House (by rw [e_v0_21]; exact p_House_guards) rfl dX2_copyFrom_21 ?_
  refine ww_aload_n C dX2_copyFrom_24 rfl 0 rfl ?_
  refine ww_aload_n C dX2_copyFrom_25 rfl 1 rfl ?_
  refine ww_get C clOK2 in_X2_copyFrom_X2 (w := wHouse E a1 v1) (fs := fsHouse a1 v1) (v := .int (House_minute v1)) 1 0 3 rfl q_House (by decide) (by decide +kernel) g_House_minute dX2_copyFrom_26 ?_
  obtain ⟨v0_29, e_v0_29⟩ : ∃ y : HouseV, y = House_set_minute v0_21 (House_minute v1) := ⟨_, rfl⟩
  replace hf := ltE e_v0_29 hf
  refine ww_put C clOK2 in_X2_copyFrom_X2 (w := wHouse E a0 v0_21) (fs := fsHouse a0 v0_21) (w' := wHouse E a0 v0_29) (gs' := [wHouse E a0 v0_29, wHouse E a1 v1]) 0 0 3 rfl q_House (by decide) (by decide +kernel) rfl rfl rfl rfl l_House (by rw [e_v0_29]; exact p_House_minute) rfl dX2_copyFrom_29 ?_
  refine ww_aload_n C dX2_copyFrom_32 rfl 0 rfl ?_
  refine ww_aload_n C dX2_copyFrom_33 rfl 1 rfl ?_
  refine ww_get C clOK2 in_X2_copyFrom_X2 (w := wHouse E a1 v1) (fs := fsHouse a1 v1) (v := .int (House_openDoors v1)) 1 0 4 rfl q_House (by decide) (by decide +kernel) g_House_openDoors dX2_copyFrom_34 ?_
  obtain ⟨v0_37, e_v0_37⟩ : ∃ y : HouseV, y = House_set_openDoors v0_29 (House_openDoors v1) := ⟨_, rfl⟩
  replace hf := ltE e_v0_37 hf
  refine ww_put C clOK2 in_X2_copyFrom_X2 (w := wHouse E a0 v0_29) (fs := fsHouse a0 v0_29) (w' := wHouse E a0 v0_37) (gs' := [wHouse E a0 v0_37, wHouse E a1 v1]) 0 0 4 rfl q_House (by decide) (by decide +kernel) rfl rfl rfl rfl l_House (by rw [e_v0_37]; exact p_House_openDoors) rfl dX2_copyFrom_37 ?_
  refine ww_aload_n C dX2_copyFrom_40 rfl 0 rfl ?_
  refine ww_aload_n C dX2_copyFrom_41 rfl 1 rfl ?_
  refine ww_get C clOK2 in_X2_copyFrom_X2 (w := wHouse E a1 v1) (fs := fsHouse a1 v1) (v := .int (House_walksStamp v1)) 1 0 5 rfl q_House (by decide) (by decide +kernel) g_House_walksStamp dX2_copyFrom_42 ?_
  obtain ⟨v0_45, e_v0_45⟩ : ∃ y : HouseV, y = House_set_walksStamp v0_37 (House_walksStamp v1) := ⟨_, rfl⟩
  replace hf := ltE e_v0_45 hf
  refine ww_put C clOK2 in_X2_copyFrom_X2 (w := wHouse E a0 v0_37) (fs := fsHouse a0 v0_37) (w' := wHouse E a0 v0_45) (gs' := [wHouse E a0 v0_45, wHouse E a1 v1]) 0 0 5 rfl q_House (by decide) (by decide +kernel) rfl rfl rfl rfl l_House (by rw [e_v0_45]; exact p_House_walksStamp) rfl dX2_copyFrom_45 ?_
  refine ww_aload_n C dX2_copyFrom_48 rfl 0 rfl ?_
  refine ww_aload_n C dX2_copyFrom_49 rfl 1 rfl ?_
  refine ww_get C clOK2 in_X2_copyFrom_X2 (w := wHouse E a1 v1) (fs := fsHouse a1 v1) (v := .int (House_phasesStamp v1)) 1 0 6 rfl q_House (by decide) (by decide +kernel) g_House_phasesStamp dX2_copyFrom_50 ?_
  obtain ⟨v0_53, e_v0_53⟩ : ∃ y : HouseV, y = House_set_phasesStamp v0_45 (House_phasesStamp v1) := ⟨_, rfl⟩
  replace hf := ltE e_v0_53 hf
  refine ww_put C clOK2 in_X2_copyFrom_X2 (w := wHouse E a0 v0_45) (fs := fsHouse a0 v0_45) (w' := wHouse E a0 v0_53) (gs' := [wHouse E a0 v0_53, wHouse E a1 v1]) 0 0 6 rfl q_House (by decide) (by decide +kernel) rfl rfl rfl rfl l_House (by rw [e_v0_53]; exact p_House_phasesStamp) rfl dX2_copyFrom_53 ?_
  refine ww_aload_n C dX2_copyFrom_56 rfl 1 rfl ?_
  refine ww_get C clOK2 in_X2_copyFrom_X2 (w := wHouse E a1 v1) (fs := fsHouse a1 v1) (v := .ref (a1 1)) 1 0 7 rfl q_House (by decide) (by decide +kernel) g_House_doorFirst dX2_copyFrom_57 ?_
  refine ww_iconst (v := 0) C dX2_copyFrom_60 (by decide) ?_
  refine ww_aload_n C dX2_copyFrom_61 rfl 0 rfl ?_
  refine ww_get C clOK2 in_X2_copyFrom_X2 (w := wHouse E a0 v0_53) (fs := fsHouse a0 v0_53) (v := .ref (a0 1)) 0 0 7 rfl q_House (by decide) (by decide +kernel) g_House_doorFirst dX2_copyFrom_62 ?_
  refine ww_iconst (v := 0) C dX2_copyFrom_65 (by decide) ?_
  refine ww_bipush (v := 20) C dX2_copyFrom_66 (by decide) ?_
  obtain ⟨v0_68, e_v0_68⟩ : ∃ y : HouseV, y = House_set_doorFirst v0_53 (va_cpy (House_doorFirst v1) (House_doorFirst v0_53) 0 0 20) := ⟨_, rfl⟩
  replace hf := ltE e_v0_68 hf
  refine ww_copy C (N := 20) (f := House_doorFirst v1) (g := House_doorFirst v0_53) (w0 := wHouse E a1 v1) (w1 := wHouse E a0 v0_53) (w' := wHouse E a0 v0_68) (gs' := [wHouse E a0 v0_68, wHouse E a1 v1]) (by decide +kernel) (by decide +kernel) (by decide +kernel) (by decide +kernel) 1 1 0 1 rfl c_House_doorFirst rfl c_House_doorFirst (by decide) (by decide) (by decide) (by decide) (by rw [e_v0_68]; exact s_House_doorFirst) rfl (by decide) (Nat.le_of_ble_eq_true rfl) dX2_copyFrom_68 ?_
  refine ww_aload_n C dX2_copyFrom_71 rfl 1 rfl ?_
  refine ww_get C clOK2 in_X2_copyFrom_X2 (w := wHouse E a1 v1) (fs := fsHouse a1 v1) (v := .ref (a1 2)) 1 0 8 rfl q_House (by decide) (by decide +kernel) g_House_doorSecond dX2_copyFrom_72 ?_
  refine ww_iconst (v := 0) C dX2_copyFrom_75 (by decide) ?_
  refine ww_aload_n C dX2_copyFrom_76 rfl 0 rfl ?_
  refine ww_get C clOK2 in_X2_copyFrom_X2 (w := wHouse E a0 v0_68) (fs := fsHouse a0 v0_68) (v := .ref (a0 2)) 0 0 8 rfl q_House (by decide) (by decide +kernel) g_House_doorSecond dX2_copyFrom_77 ?_
  refine ww_iconst (v := 0) C dX2_copyFrom_80 (by decide) ?_
  refine ww_bipush (v := 20) C dX2_copyFrom_81 (by decide) ?_
  obtain ⟨v0_83, e_v0_83⟩ : ∃ y : HouseV, y = House_set_doorSecond v0_68 (va_cpy (House_doorSecond v1) (House_doorSecond v0_68) 0 0 20) := ⟨_, rfl⟩
  replace hf := ltE e_v0_83 hf
  refine ww_copy C (N := 20) (f := House_doorSecond v1) (g := House_doorSecond v0_68) (w0 := wHouse E a1 v1) (w1 := wHouse E a0 v0_68) (w' := wHouse E a0 v0_83) (gs' := [wHouse E a0 v0_83, wHouse E a1 v1]) (by decide +kernel) (by decide +kernel) (by decide +kernel) (by decide +kernel) 1 2 0 2 rfl c_House_doorSecond rfl c_House_doorSecond (by decide) (by decide) (by decide) (by decide) (by rw [e_v0_83]; exact s_House_doorSecond) rfl (by decide) (Nat.le_of_ble_eq_true rfl) dX2_copyFrom_83 ?_
  refine ww_aload_n C dX2_copyFrom_86 rfl 1 rfl ?_
  refine ww_get C clOK2 in_X2_copyFrom_X2 (w := wHouse E a1 v1) (fs := fsHouse a1 v1) (v := .ref (a1 3)) 1 0 9 rfl q_House (by decide) (by decide +kernel) g_House_joined dX2_copyFrom_87 ?_
  refine ww_iconst (v := 0) C dX2_copyFrom_90 (by decide) ?_
  refine ww_aload_n C dX2_copyFrom_91 rfl 0 rfl ?_
  refine ww_get C clOK2 in_X2_copyFrom_X2 (w := wHouse E a0 v0_83) (fs := fsHouse a0 v0_83) (v := .ref (a0 3)) 0 0 9 rfl q_House (by decide) (by decide +kernel) g_House_joined dX2_copyFrom_92 ?_
  refine ww_iconst (v := 0) C dX2_copyFrom_95 (by decide) ?_
  refine ww_bipush (v := 12) C dX2_copyFrom_96 (by decide) ?_
  obtain ⟨v0_98, e_v0_98⟩ : ∃ y : HouseV, y = House_set_joined v0_83 (va_cpy (House_joined v1) (House_joined v0_83) 0 0 12) := ⟨_, rfl⟩
  replace hf := ltE e_v0_98 hf
  refine ww_copy C (N := 12) (f := House_joined v1) (g := House_joined v0_83) (w0 := wHouse E a1 v1) (w1 := wHouse E a0 v0_83) (w' := wHouse E a0 v0_98) (gs' := [wHouse E a0 v0_98, wHouse E a1 v1]) (by decide +kernel) (by decide +kernel) (by decide +kernel) (by decide +kernel) 1 3 0 3 rfl c_House_joined rfl c_House_joined (by decide) (by decide) (by decide) (by decide) (by rw [e_v0_98]; exact s_House_joined) rfl (by decide) (Nat.le_of_ble_eq_true rfl) dX2_copyFrom_98 ?_
  refine ww_aload_n C dX2_copyFrom_101 rfl 1 rfl ?_
  refine ww_get C clOK2 in_X2_copyFrom_X2 (w := wHouse E a1 v1) (fs := fsHouse a1 v1) (v := .ref (a1 4)) 1 0 10 rfl q_House (by decide) (by decide +kernel) g_House_limits dX2_copyFrom_102 ?_
  refine ww_iconst (v := 0) C dX2_copyFrom_105 (by decide) ?_
  refine ww_aload_n C dX2_copyFrom_106 rfl 0 rfl ?_
  refine ww_get C clOK2 in_X2_copyFrom_X2 (w := wHouse E a0 v0_98) (fs := fsHouse a0 v0_98) (v := .ref (a0 4)) 0 0 10 rfl q_House (by decide) (by decide +kernel) g_House_limits dX2_copyFrom_107 ?_
  refine ww_iconst (v := 0) C dX2_copyFrom_110 (by decide) ?_
  refine ww_bipush (v := 12) C dX2_copyFrom_111 (by decide) ?_
  obtain ⟨v0_113, e_v0_113⟩ : ∃ y : HouseV, y = House_set_limits v0_98 (va_cpy (House_limits v1) (House_limits v0_98) 0 0 12) := ⟨_, rfl⟩
  replace hf := ltE e_v0_113 hf
  refine ww_copy C (N := 12) (f := House_limits v1) (g := House_limits v0_98) (w0 := wHouse E a1 v1) (w1 := wHouse E a0 v0_98) (w' := wHouse E a0 v0_113) (gs' := [wHouse E a0 v0_113, wHouse E a1 v1]) (by decide +kernel) (by decide +kernel) (by decide +kernel) (by decide +kernel) 1 4 0 4 rfl c_House_limits rfl c_House_limits (by decide) (by decide) (by decide) (by decide) (by rw [e_v0_113]; exact s_House_limits) rfl (by decide) (Nat.le_of_ble_eq_true rfl) dX2_copyFrom_113 ?_
  refine ww_aload_n C dX2_copyFrom_116 rfl 1 rfl ?_
  refine ww_get C clOK2 in_X2_copyFrom_X2 (w := wHouse E a1 v1) (fs := fsHouse a1 v1) (v := .ref (a1 5)) 1 0 11 rfl q_House (by decide) (by decide +kernel) g_House_periods dX2_copyFrom_117 ?_
  refine ww_iconst (v := 0) C dX2_copyFrom_120 (by decide) ?_
  refine ww_aload_n C dX2_copyFrom_121 rfl 0 rfl ?_
  refine ww_get C clOK2 in_X2_copyFrom_X2 (w := wHouse E a0 v0_113) (fs := fsHouse a0 v0_113) (v := .ref (a0 5)) 0 0 11 rfl q_House (by decide) (by decide +kernel) g_House_periods dX2_copyFrom_122 ?_
  refine ww_iconst (v := 0) C dX2_copyFrom_125 (by decide) ?_
  refine ww_iconst (v := 4) C dX2_copyFrom_126 (by decide) ?_
  obtain ⟨v0_127, e_v0_127⟩ : ∃ y : HouseV, y = House_set_periods v0_113 (va_cpy (House_periods v1) (House_periods v0_113) 0 0 4) := ⟨_, rfl⟩
  replace hf := ltE e_v0_127 hf
  refine ww_copy C (N := 4) (f := House_periods v1) (g := House_periods v0_113) (w0 := wHouse E a1 v1) (w1 := wHouse E a0 v0_113) (w' := wHouse E a0 v0_127) (gs' := [wHouse E a0 v0_127, wHouse E a1 v1]) (by decide +kernel) (by decide +kernel) (by decide +kernel) (by decide +kernel) 1 5 0 5 rfl c_House_periods rfl c_House_periods (by decide) (by decide) (by decide) (by decide) (by rw [e_v0_127]; exact s_House_periods) rfl (by decide) (Nat.le_of_ble_eq_true rfl) dX2_copyFrom_127 ?_
  refine ww_aload_n C dX2_copyFrom_130 rfl 1 rfl ?_
  refine ww_get C clOK2 in_X2_copyFrom_X2 (w := wHouse E a1 v1) (fs := fsHouse a1 v1) (v := .ref (a1 6)) 1 0 12 rfl q_House (by decide) (by decide +kernel) g_House_phases dX2_copyFrom_131 ?_
  refine ww_iconst (v := 0) C dX2_copyFrom_134 (by decide) ?_
  refine ww_aload_n C dX2_copyFrom_135 rfl 0 rfl ?_
  refine ww_get C clOK2 in_X2_copyFrom_X2 (w := wHouse E a0 v0_127) (fs := fsHouse a0 v0_127) (v := .ref (a0 6)) 0 0 12 rfl q_House (by decide) (by decide +kernel) g_House_phases dX2_copyFrom_136 ?_
  refine ww_iconst (v := 0) C dX2_copyFrom_139 (by decide) ?_
  refine ww_iconst (v := 4) C dX2_copyFrom_140 (by decide) ?_
  obtain ⟨v0_141, e_v0_141⟩ : ∃ y : HouseV, y = House_set_phases v0_127 (va_cpy (House_phases v1) (House_phases v0_127) 0 0 4) := ⟨_, rfl⟩
  replace hf := ltE e_v0_141 hf
  refine ww_copy C (N := 4) (f := House_phases v1) (g := House_phases v0_127) (w0 := wHouse E a1 v1) (w1 := wHouse E a0 v0_127) (w' := wHouse E a0 v0_141) (gs' := [wHouse E a0 v0_141, wHouse E a1 v1]) (by decide +kernel) (by decide +kernel) (by decide +kernel) (by decide +kernel) 1 6 0 6 rfl c_House_phases rfl c_House_phases (by decide) (by decide) (by decide) (by decide) (by rw [e_v0_141]; exact s_House_phases) rfl (by decide) (Nat.le_of_ble_eq_true rfl) dX2_copyFrom_141 ?_
  refine ww_aload_n C dX2_copyFrom_144 rfl 1 rfl ?_
  refine ww_get C clOK2 in_X2_copyFrom_X2 (w := wHouse E a1 v1) (fs := fsHouse a1 v1) (v := .ref (a1 7)) 1 0 13 rfl q_House (by decide) (by decide +kernel) g_House_walks dX2_copyFrom_145 ?_
  refine ww_iconst (v := 0) C dX2_copyFrom_148 (by decide) ?_
  refine ww_aload_n C dX2_copyFrom_149 rfl 0 rfl ?_
  refine ww_get C clOK2 in_X2_copyFrom_X2 (w := wHouse E a0 v0_141) (fs := fsHouse a0 v0_141) (v := .ref (a0 7)) 0 0 13 rfl q_House (by decide) (by decide +kernel) g_House_walks dX2_copyFrom_150 ?_
  refine ww_iconst (v := 0) C dX2_copyFrom_153 (by decide) ?_
  refine ww_bipush (v := 40) C dX2_copyFrom_154 (by decide) ?_
  obtain ⟨v0_156, e_v0_156⟩ : ∃ y : HouseV, y = House_set_walks v0_141 (va_cpy (House_walks v1) (House_walks v0_141) 0 0 40) := ⟨_, rfl⟩
  replace hf := ltE e_v0_156 hf
  refine ww_copy C (N := 40) (f := House_walks v1) (g := House_walks v0_141) (w0 := wHouse E a1 v1) (w1 := wHouse E a0 v0_141) (w' := wHouse E a0 v0_156) (gs' := [wHouse E a0 v0_156, wHouse E a1 v1]) (by decide +kernel) (by decide +kernel) (by decide +kernel) (by decide +kernel) 1 7 0 7 rfl c_House_walks rfl c_House_walks (by decide) (by decide) (by decide) (by decide) (by rw [e_v0_156]; exact s_House_walks) rfl (by decide) (Nat.le_of_ble_eq_true rfl) dX2_copyFrom_156 ?_
  refine ww_aload_n C dX2_copyFrom_159 rfl 1 rfl ?_
  refine ww_get C clOK2 in_X2_copyFrom_X2 (w := wHouse E a1 v1) (fs := fsHouse a1 v1) (v := .ref (a1 8)) 1 0 14 rfl q_House (by decide) (by decide +kernel) g_House_walked dX2_copyFrom_160 ?_
  refine ww_iconst (v := 0) C dX2_copyFrom_163 (by decide) ?_
  refine ww_aload_n C dX2_copyFrom_164 rfl 0 rfl ?_
  refine ww_get C clOK2 in_X2_copyFrom_X2 (w := wHouse E a0 v0_156) (fs := fsHouse a0 v0_156) (v := .ref (a0 8)) 0 0 14 rfl q_House (by decide) (by decide +kernel) g_House_walked dX2_copyFrom_165 ?_
  refine ww_iconst (v := 0) C dX2_copyFrom_168 (by decide) ?_
  refine ww_iconst (v := 4) C dX2_copyFrom_169 (by decide) ?_
  obtain ⟨v0_170, e_v0_170⟩ : ∃ y : HouseV, y = House_set_walked v0_156 (va_cpy (House_walked v1) (House_walked v0_156) 0 0 4) := ⟨_, rfl⟩
  replace hf := ltE e_v0_170 hf
  refine ww_copy C (N := 4) (f := House_walked v1) (g := House_walked v0_156) (w0 := wHouse E a1 v1) (w1 := wHouse E a0 v0_156) (w' := wHouse E a0 v0_170) (gs' := [wHouse E a0 v0_170, wHouse E a1 v1]) (by decide +kernel) (by decide +kernel) (by decide +kernel) (by decide +kernel) 1 8 0 8 rfl c_House_walked rfl c_House_walked (by decide) (by decide) (by decide) (by decide) (by rw [e_v0_170]; exact s_House_walked) rfl (by decide) (Nat.le_of_ble_eq_true rfl) dX2_copyFrom_170 ?_
  refine ww_aload_n C dX2_copyFrom_173 rfl 1 rfl ?_
  refine ww_get C clOK2 in_X2_copyFrom_X2 (w := wHouse E a1 v1) (fs := fsHouse a1 v1) (v := .ref (a1 9)) 1 0 15 rfl q_House (by decide) (by decide +kernel) g_House_sightings dX2_copyFrom_174 ?_
  refine ww_iconst (v := 0) C dX2_copyFrom_177 (by decide) ?_
  refine ww_aload_n C dX2_copyFrom_178 rfl 0 rfl ?_
  refine ww_get C clOK2 in_X2_copyFrom_X2 (w := wHouse E a0 v0_170) (fs := fsHouse a0 v0_170) (v := .ref (a0 9)) 0 0 15 rfl q_House (by decide) (by decide +kernel) g_House_sightings dX2_copyFrom_179 ?_
  refine ww_iconst (v := 0) C dX2_copyFrom_182 (by decide) ?_
  refine ww_bipush (v := 12) C dX2_copyFrom_183 (by decide) ?_
  obtain ⟨v0_185, e_v0_185⟩ : ∃ y : HouseV, y = House_set_sightings v0_170 (va_cpy (House_sightings v1) (House_sightings v0_170) 0 0 12) := ⟨_, rfl⟩
  replace hf := ltE e_v0_185 hf
  refine ww_copy C (N := 12) (f := House_sightings v1) (g := House_sightings v0_170) (w0 := wHouse E a1 v1) (w1 := wHouse E a0 v0_170) (w' := wHouse E a0 v0_185) (gs' := [wHouse E a0 v0_185, wHouse E a1 v1]) (by decide +kernel) (by decide +kernel) (by decide +kernel) (by decide +kernel) 1 9 0 9 rfl c_House_sightings rfl c_House_sightings (by decide) (by decide) (by decide) (by decide) (by rw [e_v0_185]; exact s_House_sightings) rfl (by decide) (Nat.le_of_ble_eq_true rfl) dX2_copyFrom_185 ?_
  refine ww_aload_n C dX2_copyFrom_188 rfl 1 rfl ?_
  refine ww_get C clOK2 in_X2_copyFrom_X2 (w := wHouse E a1 v1) (fs := fsHouse a1 v1) (v := .ref (a1 10)) 1 0 16 rfl q_House (by decide) (by decide +kernel) g_House_lastSeen dX2_copyFrom_189 ?_
  refine ww_iconst (v := 0) C dX2_copyFrom_192 (by decide) ?_
  refine ww_aload_n C dX2_copyFrom_193 rfl 0 rfl ?_
  refine ww_get C clOK2 in_X2_copyFrom_X2 (w := wHouse E a0 v0_185) (fs := fsHouse a0 v0_185) (v := .ref (a0 10)) 0 0 16 rfl q_House (by decide) (by decide +kernel) g_House_lastSeen dX2_copyFrom_194 ?_
  refine ww_iconst (v := 0) C dX2_copyFrom_197 (by decide) ?_
  refine ww_bipush (v := 12) C dX2_copyFrom_198 (by decide) ?_
  obtain ⟨v0_200, e_v0_200⟩ : ∃ y : HouseV, y = House_set_lastSeen v0_185 (va_cpy (House_lastSeen v1) (House_lastSeen v0_185) 0 0 12) := ⟨_, rfl⟩
  replace hf := ltE e_v0_200 hf
  refine ww_copy C (N := 12) (f := House_lastSeen v1) (g := House_lastSeen v0_185) (w0 := wHouse E a1 v1) (w1 := wHouse E a0 v0_185) (w' := wHouse E a0 v0_200) (gs' := [wHouse E a0 v0_200, wHouse E a1 v1]) (by decide +kernel) (by decide +kernel) (by decide +kernel) (by decide +kernel) 1 10 0 10 rfl c_House_lastSeen rfl c_House_lastSeen (by decide) (by decide) (by decide) (by decide) (by rw [e_v0_200]; exact s_House_lastSeen) rfl (by decide) (Nat.le_of_ble_eq_true rfl) dX2_copyFrom_200 ?_
  refine ww_aload_n C dX2_copyFrom_203 rfl 1 rfl ?_
  refine ww_get C clOK2 in_X2_copyFrom_X2 (w := wHouse E a1 v1) (fs := fsHouse a1 v1) (v := .ref (a1 11)) 1 0 17 rfl q_House (by decide) (by decide +kernel) g_House_runs dX2_copyFrom_204 ?_
  refine ww_iconst (v := 0) C dX2_copyFrom_207 (by decide) ?_
  refine ww_aload_n C dX2_copyFrom_208 rfl 0 rfl ?_
  refine ww_get C clOK2 in_X2_copyFrom_X2 (w := wHouse E a0 v0_200) (fs := fsHouse a0 v0_200) (v := .ref (a0 11)) 0 0 17 rfl q_House (by decide) (by decide +kernel) g_House_runs dX2_copyFrom_209 ?_
  refine ww_iconst (v := 0) C dX2_copyFrom_212 (by decide) ?_
  refine ww_bipush (v := 12) C dX2_copyFrom_213 (by decide) ?_
  obtain ⟨v0_215, e_v0_215⟩ : ∃ y : HouseV, y = House_set_runs v0_200 (va_cpy (House_runs v1) (House_runs v0_200) 0 0 12) := ⟨_, rfl⟩
  replace hf := ltE e_v0_215 hf
  refine ww_copy C (N := 12) (f := House_runs v1) (g := House_runs v0_200) (w0 := wHouse E a1 v1) (w1 := wHouse E a0 v0_200) (w' := wHouse E a0 v0_215) (gs' := [wHouse E a0 v0_215, wHouse E a1 v1]) (by decide +kernel) (by decide +kernel) (by decide +kernel) (by decide +kernel) 1 11 0 11 rfl c_House_runs rfl c_House_runs (by decide) (by decide) (by decide) (by decide) (by rw [e_v0_215]; exact s_House_runs) rfl (by decide) (Nat.le_of_ble_eq_true rfl) dX2_copyFrom_215 ?_
  refine ww_aload_n C dX2_copyFrom_218 rfl 1 rfl ?_
  refine ww_get C clOK2 in_X2_copyFrom_X2 (w := wHouse E a1 v1) (fs := fsHouse a1 v1) (v := .ref (a1 12)) 1 0 18 rfl q_House (by decide) (by decide +kernel) g_House_longestRuns dX2_copyFrom_219 ?_
  refine ww_iconst (v := 0) C dX2_copyFrom_222 (by decide) ?_
  refine ww_aload_n C dX2_copyFrom_223 rfl 0 rfl ?_
  refine ww_get C clOK2 in_X2_copyFrom_X2 (w := wHouse E a0 v0_215) (fs := fsHouse a0 v0_215) (v := .ref (a0 12)) 0 0 18 rfl q_House (by decide) (by decide +kernel) g_House_longestRuns dX2_copyFrom_224 ?_
  refine ww_iconst (v := 0) C dX2_copyFrom_227 (by decide) ?_
  refine ww_bipush (v := 12) C dX2_copyFrom_228 (by decide) ?_
  obtain ⟨v0_230, e_v0_230⟩ : ∃ y : HouseV, y = House_set_longestRuns v0_215 (va_cpy (House_longestRuns v1) (House_longestRuns v0_215) 0 0 12) := ⟨_, rfl⟩
  replace hf := ltE e_v0_230 hf
  refine ww_copy C (N := 12) (f := House_longestRuns v1) (g := House_longestRuns v0_215) (w0 := wHouse E a1 v1) (w1 := wHouse E a0 v0_215) (w' := wHouse E a0 v0_230) (gs' := [wHouse E a0 v0_230, wHouse E a1 v1]) (by decide +kernel) (by decide +kernel) (by decide +kernel) (by decide +kernel) 1 12 0 12 rfl c_House_longestRuns rfl c_House_longestRuns (by decide) (by decide) (by decide) (by decide) (by rw [e_v0_230]; exact s_House_longestRuns) rfl (by decide) (Nat.le_of_ble_eq_true rfl) dX2_copyFrom_230 ?_
  obtain rfl := Option.some.inj hf
  exact ww_vret C ⟨rfl, rfl⟩ dX2_copyFrom_233

theorem yk_X2_copyFrom : yX2_copyFrom.cls = RX2 ∧ yX2_copyFrom.cls ≠ "java/lang/invoke/MethodHandle" ∧ yX2_copyFrom.cls ≠ "java/lang/invoke/VarHandle" ∧ (parseMethodDescriptor yX2_copyFrom.desc).map (fun d => d.parameters.length) = some 1 := by decide +kernel
