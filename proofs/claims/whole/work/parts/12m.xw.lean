abbrev rmX9_doorAt : Room := { frames := 0, cells := 0, slots := 0, locals := 0 }
set_option maxHeartbeats 4000000 in
set_option maxRecDepth 100000 in
theorem c_X9_doorAt {E : Ex}  {x0 : Int32} {x1 : Int32} {r : Int32} (hf : Mod_doorAt x0 x1 = some r) : Ct E yX9_doorAt wsX9_doorAt rmX9_doorAt [.int x0, .int x1] [] (fun rv g => rv = some (.int r) ∧ g = []) := by
  refine ct_of (own := RX9) (by decide +kernel) rfl rfl (Nat.le_of_ble_eq_true rfl) (fun K C => ?_)
  refine ww_sub C (lv' := [(0, .int x0), (1, .int x1)]) [0, 1] rfl ?_
  rw [Mod_doorAt] at hf
  refine ww_bipush (v := 64) C dX9_doorAt_0 (by decide) ?_
  refine ww_iconst (v := 3) C dX9_doorAt_2 (by decide) ?_
  refine ww_iload_n C dX9_doorAt_3 rfl 0 rfl ?_
  refine ww_imul C dX9_doorAt_4 ?_
  refine ww_iadd C dX9_doorAt_5 ?_
  refine ww_iload_n C dX9_doorAt_6 rfl 1 rfl ?_
  refine ww_iadd C dX9_doorAt_7 ?_
  obtain rfl := Option.some.inj hf
  exact ww_iret C ⟨rfl, rfl⟩ dX9_doorAt_8

theorem ysk_X9_doorAt : yX9_doorAt.cls ≠ "java/lang/invoke/MethodHandle" ∧ yX9_doorAt.cls ≠ "java/lang/invoke/VarHandle" ∧ (parseMethodDescriptor yX9_doorAt.desc).map (fun d => d.parameters.length) = some 2 := by decide +kernel
abbrev rmX9_guardAt : Room := { frames := 0, cells := 0, slots := 0, locals := 0 }
set_option maxHeartbeats 4000000 in
set_option maxRecDepth 100000 in
theorem c_X9_guardAt {E : Ex}  {x0 : Int32} {x1 : Int32} {r : Int32} (hf : Mod_guardAt x0 x1 = some r) : Ct E yX9_guardAt wsX9_guardAt rmX9_guardAt [.int x0, .int x1] [] (fun rv g => rv = some (.int r) ∧ g = []) := by
  refine ct_of (own := RX9) (by decide +kernel) rfl rfl (Nat.le_of_ble_eq_true rfl) (fun K C => ?_)
  refine ww_sub C (lv' := [(0, .int x0), (1, .int x1)]) [0, 1] rfl ?_
  rw [Mod_guardAt] at hf
  refine ww_bipush (v := 124) C dX9_guardAt_0 (by decide) ?_
  refine ww_bipush (v := 12) C dX9_guardAt_2 (by decide) ?_
  refine ww_iload_n C dX9_guardAt_4 rfl 0 rfl ?_
  refine ww_imul C dX9_guardAt_5 ?_
  refine ww_iadd C dX9_guardAt_6 ?_
  refine ww_iload_n C dX9_guardAt_7 rfl 1 rfl ?_
  refine ww_iadd C dX9_guardAt_8 ?_
  obtain rfl := Option.some.inj hf
  exact ww_iret C ⟨rfl, rfl⟩ dX9_guardAt_9

theorem ysk_X9_guardAt : yX9_guardAt.cls ≠ "java/lang/invoke/MethodHandle" ∧ yX9_guardAt.cls ≠ "java/lang/invoke/VarHandle" ∧ (parseMethodDescriptor yX9_guardAt.desc).map (fun d => d.parameters.length) = some 2 := by decide +kernel
abbrev rmX9_rooms : Room := { frames := 0, cells := 0, slots := 0, locals := 0 }
set_option maxRecDepth 20000 in
theorem in_X9_rooms_X9 : ∀ w ∈ u_ws RX9 TX9 35, w ∈ wsX9_rooms := by decide +kernel
set_option maxHeartbeats 4000000 in
set_option maxRecDepth 100000 in
theorem c_X9_rooms {E : Ex} {a0 : Nat → Nat} {h0_1 : Nat} {v0 : ModelV} {r : Int32} (hf : Mod_rooms v0 = some r) : Ct E yX9_rooms wsX9_rooms rmX9_rooms [.ref (a0 0)] [wModel E a0 (rf2 (a0 1) h0_1) v0] (fun rv g => rv = some (.int r) ∧ g = [wModel E a0 (rf2 (a0 1) h0_1) v0]) := by
  refine ct_of (own := RX9) (by decide +kernel) rfl rfl (Nat.le_of_ble_eq_true rfl) (fun K C => ?_)
  refine ww_sub C (lv' := [(0, .ref (a0 0))]) [0] rfl ?_
  rw [Mod_rooms] at hf
  refine ww_aload_n C dX9_rooms_0 rfl 0 rfl ?_
  refine ww_get C clOK9 in_X9_rooms_X9 (w := wModel E a0 (rf2 (a0 1) h0_1) v0) (fs := fsModel a0 (rf2 (a0 1) h0_1) v0) (v := .ref (a0 1)) 0 0 7 rfl q_Model (by decide) (by decide +kernel) g_Model_house dX9_rooms_1 ?_
  refine ww_iconst (v := 0) C dX9_rooms_4 (by decide) ?_
  obtain ⟨g_1, hf⟩ := gdE hf
  refine ww_iald C (f := Model_now v0) (w := wModel E a0 (rf2 (a0 1) h0_1) v0) 0 1 rfl c_Model_now (inB_vp g_1) dX9_rooms_5 ?_
  obtain rfl := Option.some.inj hf
  exact ww_iret C ⟨rfl, rfl⟩ dX9_rooms_6

theorem yk_X9_rooms : yX9_rooms.cls = RX9 ∧ yX9_rooms.cls ≠ "java/lang/invoke/MethodHandle" ∧ yX9_rooms.cls ≠ "java/lang/invoke/VarHandle" ∧ (parseMethodDescriptor yX9_rooms.desc).map (fun d => d.parameters.length) = some 0 := by decide +kernel
abbrev rmX9_guards : Room := { frames := 0, cells := 0, slots := 0, locals := 0 }
set_option maxRecDepth 20000 in
theorem in_X9_guards_X9 : ∀ w ∈ u_ws RX9 TX9 35, w ∈ wsX9_guards := by decide +kernel
set_option maxHeartbeats 4000000 in
set_option maxRecDepth 100000 in
theorem c_X9_guards {E : Ex} {a0 : Nat → Nat} {h0_1 : Nat} {v0 : ModelV} {r : Int32} (hf : Mod_guards v0 = some r) : Ct E yX9_guards wsX9_guards rmX9_guards [.ref (a0 0)] [wModel E a0 (rf2 (a0 1) h0_1) v0] (fun rv g => rv = some (.int r) ∧ g = [wModel E a0 (rf2 (a0 1) h0_1) v0]) := by
  refine ct_of (own := RX9) (by decide +kernel) rfl rfl (Nat.le_of_ble_eq_true rfl) (fun K C => ?_)
  refine ww_sub C (lv' := [(0, .ref (a0 0))]) [0] rfl ?_
  rw [Mod_guards] at hf
  refine ww_aload_n C dX9_guards_0 rfl 0 rfl ?_
  refine ww_get C clOK9 in_X9_guards_X9 (w := wModel E a0 (rf2 (a0 1) h0_1) v0) (fs := fsModel a0 (rf2 (a0 1) h0_1) v0) (v := .ref (a0 1)) 0 0 7 rfl q_Model (by decide) (by decide +kernel) g_Model_house dX9_guards_1 ?_
  refine ww_iconst (v := 2) C dX9_guards_4 (by decide) ?_
  obtain ⟨g_1, hf⟩ := gdE hf
  refine ww_iald C (f := Model_now v0) (w := wModel E a0 (rf2 (a0 1) h0_1) v0) 0 1 rfl c_Model_now (inB_vp g_1) dX9_guards_5 ?_
  obtain rfl := Option.some.inj hf
  exact ww_iret C ⟨rfl, rfl⟩ dX9_guards_6

theorem yk_X9_guards : yX9_guards.cls = RX9 ∧ yX9_guards.cls ≠ "java/lang/invoke/MethodHandle" ∧ yX9_guards.cls ≠ "java/lang/invoke/VarHandle" ∧ (parseMethodDescriptor yX9_guards.desc).map (fun d => d.parameters.length) = some 0 := by decide +kernel
abbrev rmX9_ofRoom : Room := { frames := 1, cells := 0, slots := 0, locals := 21 }
set_option maxRecDepth 20000 in
theorem in_X9_ofRoom_X9 : ∀ w ∈ u_ws RX9 TX9 35, w ∈ wsX9_ofRoom := by decide +kernel
set_option maxHeartbeats 4000000 in
set_option maxRecDepth 100000 in
theorem c_X9_ofRoom {E : Ex} {a0 : Nat → Nat} {h0_1 : Nat} {x1 : Int32} {x2 : Int32} {v0 : ModelV} {r : Int32} (hf : Mod_ofRoom x1 x2 v0 = some r) : Ct E yX9_ofRoom wsX9_ofRoom rmX9_ofRoom [.ref (a0 0), .int x1, .int x2] [wModel E a0 (rf2 (a0 1) h0_1) v0] (fun rv g => rv = some (.int r) ∧ g = [wModel E a0 (rf2 (a0 1) h0_1) v0]) := by
  refine ct_of (own := RX9) (by decide +kernel) rfl rfl (Nat.le_of_ble_eq_true rfl) (fun K C => ?_)
  refine ww_sub C (lv' := [(0, .ref (a0 0)), (1, .int x1), (2, .int x2)]) [0, 1, 2] rfl ?_
  rw [Mod_ofRoom] at hf
  refine ww_aload_n C dX9_ofRoom_0 rfl 0 rfl ?_
  refine ww_get C clOK9 in_X9_ofRoom_X9 (w := wModel E a0 (rf2 (a0 1) h0_1) v0) (fs := fsModel a0 (rf2 (a0 1) h0_1) v0) (v := .ref (a0 1)) 0 0 7 rfl q_Model (by decide) (by decide +kernel) g_Model_house dX9_ofRoom_1 ?_
  refine ww_iload_n C dX9_ofRoom_4 rfl 1 rfl ?_
  refine ww_iload_n C dX9_ofRoom_5 rfl 2 rfl ?_
  obtain ⟨p6, hp6, hf⟩ := bdE hf
  refine ww_callS C (As := [.int x1, .int x2]) (st := [.ref (a0 1)]) (gr := [wModel E a0 (rf2 (a0 1) h0_1) v0]) (c_X9_roomAt (E := E)  hp6) gX9_ofRoom_X9_roomAt rfl ysk_X9_roomAt ⟨by decide, by decide⟩ ⟨by decide, by decide⟩ [] [0] 1 rfl (by decide) rfl rfl (Nat.le_of_ble_eq_true rfl) dX9_ofRoom_6 ?_
  rintro _ _ ⟨rfl, rfl⟩
  refine ww_perm (gs' := [wModel E a0 (rf2 (a0 1) h0_1) v0]) [0] 1 rfl (by decide) rfl ?_
  obtain ⟨g_1, hf⟩ := gdE hf
  refine ww_iald C (f := Model_now v0) (w := wModel E a0 (rf2 (a0 1) h0_1) v0) 0 1 rfl c_Model_now (inB_vp g_1) dX9_ofRoom_9 ?_
  obtain rfl := Option.some.inj hf
  exact ww_iret C ⟨rfl, rfl⟩ dX9_ofRoom_10

theorem yk_X9_ofRoom : yX9_ofRoom.cls = RX9 ∧ yX9_ofRoom.cls ≠ "java/lang/invoke/MethodHandle" ∧ yX9_ofRoom.cls ≠ "java/lang/invoke/VarHandle" ∧ (parseMethodDescriptor yX9_ofRoom.desc).map (fun d => d.parameters.length) = some 2 := by decide +kernel
abbrev rmX9_ofDoor : Room := { frames := 1, cells := 0, slots := 0, locals := 21 }
set_option maxRecDepth 20000 in
theorem in_X9_ofDoor_X9 : ∀ w ∈ u_ws RX9 TX9 35, w ∈ wsX9_ofDoor := by decide +kernel
set_option maxHeartbeats 4000000 in
set_option maxRecDepth 100000 in
theorem c_X9_ofDoor {E : Ex} {a0 : Nat → Nat} {h0_1 : Nat} {x1 : Int32} {x2 : Int32} {v0 : ModelV} {r : Int32} (hf : Mod_ofDoor x1 x2 v0 = some r) : Ct E yX9_ofDoor wsX9_ofDoor rmX9_ofDoor [.ref (a0 0), .int x1, .int x2] [wModel E a0 (rf2 (a0 1) h0_1) v0] (fun rv g => rv = some (.int r) ∧ g = [wModel E a0 (rf2 (a0 1) h0_1) v0]) := by
  refine ct_of (own := RX9) (by decide +kernel) rfl rfl (Nat.le_of_ble_eq_true rfl) (fun K C => ?_)
  refine ww_sub C (lv' := [(0, .ref (a0 0)), (1, .int x1), (2, .int x2)]) [0, 1, 2] rfl ?_
  rw [Mod_ofDoor] at hf
  refine ww_aload_n C dX9_ofDoor_0 rfl 0 rfl ?_
  refine ww_get C clOK9 in_X9_ofDoor_X9 (w := wModel E a0 (rf2 (a0 1) h0_1) v0) (fs := fsModel a0 (rf2 (a0 1) h0_1) v0) (v := .ref (a0 1)) 0 0 7 rfl q_Model (by decide) (by decide +kernel) g_Model_house dX9_ofDoor_1 ?_
  refine ww_iload_n C dX9_ofDoor_4 rfl 1 rfl ?_
  refine ww_iload_n C dX9_ofDoor_5 rfl 2 rfl ?_
  obtain ⟨p6, hp6, hf⟩ := bdE hf
  refine ww_callS C (As := [.int x1, .int x2]) (st := [.ref (a0 1)]) (gr := [wModel E a0 (rf2 (a0 1) h0_1) v0]) (c_X9_doorAt (E := E)  hp6) gX9_ofDoor_X9_doorAt rfl ysk_X9_doorAt ⟨by decide, by decide⟩ ⟨by decide, by decide⟩ [] [0] 1 rfl (by decide) rfl rfl (Nat.le_of_ble_eq_true rfl) dX9_ofDoor_6 ?_
  rintro _ _ ⟨rfl, rfl⟩
  refine ww_perm (gs' := [wModel E a0 (rf2 (a0 1) h0_1) v0]) [0] 1 rfl (by decide) rfl ?_
  obtain ⟨g_1, hf⟩ := gdE hf
  refine ww_iald C (f := Model_now v0) (w := wModel E a0 (rf2 (a0 1) h0_1) v0) 0 1 rfl c_Model_now (inB_vp g_1) dX9_ofDoor_9 ?_
  obtain rfl := Option.some.inj hf
  exact ww_iret C ⟨rfl, rfl⟩ dX9_ofDoor_10

theorem yk_X9_ofDoor : yX9_ofDoor.cls = RX9 ∧ yX9_ofDoor.cls ≠ "java/lang/invoke/MethodHandle" ∧ yX9_ofDoor.cls ≠ "java/lang/invoke/VarHandle" ∧ (parseMethodDescriptor yX9_ofDoor.desc).map (fun d => d.parameters.length) = some 2 := by decide +kernel
abbrev rmX9_period : Room := { frames := 1, cells := 0, slots := 0, locals := 21 }
set_option maxRecDepth 20000 in
theorem in_X9_period_X9 : ∀ w ∈ u_ws RX9 TX9 35, w ∈ wsX9_period := by decide +kernel
set_option maxHeartbeats 4000000 in
set_option maxRecDepth 100000 in
theorem c_X9_period {E : Ex} {a0 : Nat → Nat} {h0_1 : Nat} {x1 : Int32} {v0 : ModelV} {r : Int32} (hf : Mod_period x1 v0 = some r) : Ct E yX9_period wsX9_period rmX9_period [.ref (a0 0), .int x1] [wModel E a0 (rf2 (a0 1) h0_1) v0] (fun rv g => rv = some (.int r) ∧ g = [wModel E a0 (rf2 (a0 1) h0_1) v0]) := by
  refine ct_of (own := RX9) (by decide +kernel) rfl rfl (Nat.le_of_ble_eq_true rfl) (fun K C => ?_)
  refine ww_sub C (lv' := [(0, .ref (a0 0)), (1, .int x1)]) [0, 1] rfl ?_
  rw [Mod_period] at hf
  refine ww_aload_n C dX9_period_0 rfl 0 rfl ?_
  refine ww_get C clOK9 in_X9_period_X9 (w := wModel E a0 (rf2 (a0 1) h0_1) v0) (fs := fsModel a0 (rf2 (a0 1) h0_1) v0) (v := .ref (a0 1)) 0 0 7 rfl q_Model (by decide) (by decide +kernel) g_Model_house dX9_period_1 ?_
  refine ww_iload_n C dX9_period_4 rfl 1 rfl ?_
  refine ww_iconst (v := 0) C dX9_period_5 (by decide) ?_
  obtain ⟨p6, hp6, hf⟩ := bdE hf
  refine ww_callS C (As := [.int x1, .int 0]) (st := [.ref (a0 1)]) (gr := [wModel E a0 (rf2 (a0 1) h0_1) v0]) (c_X9_guardAt (E := E)  hp6) gX9_period_X9_guardAt rfl ysk_X9_guardAt ⟨by decide, by decide⟩ ⟨by decide, by decide⟩ [] [0] 1 rfl (by decide) rfl rfl (Nat.le_of_ble_eq_true rfl) dX9_period_6 ?_
  rintro _ _ ⟨rfl, rfl⟩
  refine ww_perm (gs' := [wModel E a0 (rf2 (a0 1) h0_1) v0]) [0] 1 rfl (by decide) rfl ?_
  obtain ⟨g_1, hf⟩ := gdE hf
  refine ww_iald C (f := Model_now v0) (w := wModel E a0 (rf2 (a0 1) h0_1) v0) 0 1 rfl c_Model_now (inB_vp g_1) dX9_period_9 ?_
  obtain rfl := Option.some.inj hf
  exact ww_iret C ⟨rfl, rfl⟩ dX9_period_10

theorem yk_X9_period : yX9_period.cls = RX9 ∧ yX9_period.cls ≠ "java/lang/invoke/MethodHandle" ∧ yX9_period.cls ≠ "java/lang/invoke/VarHandle" ∧ (parseMethodDescriptor yX9_period.desc).map (fun d => d.parameters.length) = some 1 := by decide +kernel
abbrev rmX9_phaseOf : Room := { frames := 1, cells := 0, slots := 0, locals := 21 }
set_option maxRecDepth 20000 in
theorem in_X9_phaseOf_X9 : ∀ w ∈ u_ws RX9 TX9 35, w ∈ wsX9_phaseOf := by decide +kernel
set_option maxHeartbeats 4000000 in
set_option maxRecDepth 100000 in
theorem c_X9_phaseOf {E : Ex} {a0 : Nat → Nat} {h0_1 : Nat} {x1 : Int32} {v0 : ModelV} {r : Int32} (hf : Mod_phaseOf x1 v0 = some r) : Ct E yX9_phaseOf wsX9_phaseOf rmX9_phaseOf [.ref (a0 0), .int x1] [wModel E a0 (rf2 (a0 1) h0_1) v0] (fun rv g => rv = some (.int r) ∧ g = [wModel E a0 (rf2 (a0 1) h0_1) v0]) := by
  refine ct_of (own := RX9) (by decide +kernel) rfl rfl (Nat.le_of_ble_eq_true rfl) (fun K C => ?_)
  refine ww_sub C (lv' := [(0, .ref (a0 0)), (1, .int x1)]) [0, 1] rfl ?_
  rw [Mod_phaseOf] at hf
  refine ww_aload_n C dX9_phaseOf_0 rfl 0 rfl ?_
  refine ww_get C clOK9 in_X9_phaseOf_X9 (w := wModel E a0 (rf2 (a0 1) h0_1) v0) (fs := fsModel a0 (rf2 (a0 1) h0_1) v0) (v := .ref (a0 1)) 0 0 7 rfl q_Model (by decide) (by decide +kernel) g_Model_house dX9_phaseOf_1 ?_
  refine ww_iload_n C dX9_phaseOf_4 rfl 1 rfl ?_
  refine ww_iconst (v := 1) C dX9_phaseOf_5 (by decide) ?_
  obtain ⟨p6, hp6, hf⟩ := bdE hf
  refine ww_callS C (As := [.int x1, .int 1]) (st := [.ref (a0 1)]) (gr := [wModel E a0 (rf2 (a0 1) h0_1) v0]) (c_X9_guardAt (E := E)  hp6) gX9_phaseOf_X9_guardAt rfl ysk_X9_guardAt ⟨by decide, by decide⟩ ⟨by decide, by decide⟩ [] [0] 1 rfl (by decide) rfl rfl (Nat.le_of_ble_eq_true rfl) dX9_phaseOf_6 ?_
  rintro _ _ ⟨rfl, rfl⟩
  refine ww_perm (gs' := [wModel E a0 (rf2 (a0 1) h0_1) v0]) [0] 1 rfl (by decide) rfl ?_
  obtain ⟨g_1, hf⟩ := gdE hf
  refine ww_iald C (f := Model_now v0) (w := wModel E a0 (rf2 (a0 1) h0_1) v0) 0 1 rfl c_Model_now (inB_vp g_1) dX9_phaseOf_9 ?_
  obtain rfl := Option.some.inj hf
  exact ww_iret C ⟨rfl, rfl⟩ dX9_phaseOf_10

theorem yk_X9_phaseOf : yX9_phaseOf.cls = RX9 ∧ yX9_phaseOf.cls ≠ "java/lang/invoke/MethodHandle" ∧ yX9_phaseOf.cls ≠ "java/lang/invoke/VarHandle" ∧ (parseMethodDescriptor yX9_phaseOf.desc).map (fun d => d.parameters.length) = some 1 := by decide +kernel
abbrev rmX9_step : Room := { frames := 1, cells := 0, slots := 0, locals := 21 }
set_option maxRecDepth 20000 in
theorem in_X9_step_X9 : ∀ w ∈ u_ws RX9 TX9 35, w ∈ wsX9_step := by decide +kernel
set_option maxHeartbeats 4000000 in
set_option maxRecDepth 100000 in
theorem c_X9_step {E : Ex} {a0 : Nat → Nat} {h0_1 : Nat} {x1 : Int32} {x2 : Int32} {v0 : ModelV} {r : Int32} (hf : Mod_step x1 x2 v0 = some r) : Ct E yX9_step wsX9_step rmX9_step [.ref (a0 0), .int x1, .int x2] [wModel E a0 (rf2 (a0 1) h0_1) v0] (fun rv g => rv = some (.int r) ∧ g = [wModel E a0 (rf2 (a0 1) h0_1) v0]) := by
  refine ct_of (own := RX9) (by decide +kernel) rfl rfl (Nat.le_of_ble_eq_true rfl) (fun K C => ?_)
  refine ww_sub C (lv' := [(0, .ref (a0 0)), (1, .int x1), (2, .int x2)]) [0, 1, 2] rfl ?_
  rw [Mod_step] at hf
  refine ww_aload_n C dX9_step_0 rfl 0 rfl ?_
  refine ww_get C clOK9 in_X9_step_X9 (w := wModel E a0 (rf2 (a0 1) h0_1) v0) (fs := fsModel a0 (rf2 (a0 1) h0_1) v0) (v := .ref (a0 1)) 0 0 7 rfl q_Model (by decide) (by decide +kernel) g_Model_house dX9_step_1 ?_
  refine ww_iload_n C dX9_step_4 rfl 1 rfl ?_
  refine ww_iconst (v := 2) C dX9_step_5 (by decide) ?_
  refine ww_iload_n C dX9_step_6 rfl 2 rfl ?_
  refine ww_iadd C dX9_step_7 ?_
  obtain ⟨p8, hp8, hf⟩ := bdE hf
  refine ww_callS C (As := [.int x1, .int (2 + x2)]) (st := [.ref (a0 1)]) (gr := [wModel E a0 (rf2 (a0 1) h0_1) v0]) (c_X9_guardAt (E := E)  hp8) gX9_step_X9_guardAt rfl ysk_X9_guardAt ⟨by decide, by decide⟩ ⟨by decide, by decide⟩ [] [0] 1 rfl (by decide) rfl rfl (Nat.le_of_ble_eq_true rfl) dX9_step_8 ?_
  rintro _ _ ⟨rfl, rfl⟩
  refine ww_perm (gs' := [wModel E a0 (rf2 (a0 1) h0_1) v0]) [0] 1 rfl (by decide) rfl ?_
  obtain ⟨g_1, hf⟩ := gdE hf
  refine ww_iald C (f := Model_now v0) (w := wModel E a0 (rf2 (a0 1) h0_1) v0) 0 1 rfl c_Model_now (inB_vp g_1) dX9_step_11 ?_
  obtain rfl := Option.some.inj hf
  exact ww_iret C ⟨rfl, rfl⟩ dX9_step_12

theorem yk_X9_step : yX9_step.cls = RX9 ∧ yX9_step.cls ≠ "java/lang/invoke/MethodHandle" ∧ yX9_step.cls ≠ "java/lang/invoke/VarHandle" ∧ (parseMethodDescriptor yX9_step.desc).map (fun d => d.parameters.length) = some 2 := by decide +kernel
abbrev rmX9_isRoom : Room := { frames := 1, cells := 0, slots := 0, locals := 22 }
set_option maxHeartbeats 4000000 in
set_option maxRecDepth 100000 in
theorem c_X9_isRoom {E : Ex} {a0 : Nat → Nat} {h0_1 : Nat} {x1 : Int32} {v0 : ModelV} {r : Bool} (hf : Mod_isRoom x1 v0 = some r) : Ct E yX9_isRoom wsX9_isRoom rmX9_isRoom [.ref (a0 0), .int x1] [wModel E a0 (rf2 (a0 1) h0_1) v0] (fun rv g => rv = some (.int (b2i r)) ∧ g = [wModel E a0 (rf2 (a0 1) h0_1) v0]) := by
  refine ct_of (own := RX9) (by decide +kernel) rfl rfl (Nat.le_of_ble_eq_true rfl) (fun K C => ?_)
  refine ww_sub C (lv' := [(0, .ref (a0 0)), (1, .int x1)]) [0, 1] rfl ?_
  rw [Mod_isRoom] at hf
  refine ww_iload_n C dX9_isRoom_0 rfl 1 rfl ?_
  refine ww_iconst (v := 0) C dX9_isRoom_1 (by decide) ?_
  refine ww_aload_n C dX9_isRoom_2 rfl 0 rfl ?_
  obtain ⟨p3, hp3, hf⟩ := bdE hf
  refine ww_callV C (As := []) (st := [.int 0, .int x1]) (gr := []) (c_X9_rooms (E := E) (a0 := a0) (h0_1 := h0_1) hp3) gX9_isRoom_X9_rooms rfl yk_X9_rooms ⟨by decide, by decide⟩ ⟨by decide, by decide⟩ clOK9 0 0 rfl rfl [0] [] 1 rfl (by decide) rfl rfl (Nat.le_of_ble_eq_true rfl) dX9_isRoom_3 ?_
  rintro _ _ ⟨rfl, rfl⟩
  refine ww_perm (gs' := [wModel E a0 (rf2 (a0 1) h0_1) v0]) [0] 1 rfl (by decide) rfl ?_
  refine ww_iconst (v := 1) C dX9_isRoom_6 (by decide) ?_
  refine ww_isub C dX9_isRoom_7 ?_
  obtain ⟨p8, hp8, hf⟩ := bdE hf
  refine ww_callS C (As := [.int x1, .int 0, .int (p3 - 1)]) (st := []) (gr := [wModel E a0 (rf2 (a0 1) h0_1) v0]) (c_X9_inRange (E := E)  hp8) gX9_isRoom_X9_inRange rfl ysk_X9_inRange ⟨by decide, by decide⟩ ⟨by decide, by decide⟩ [] [0] 1 rfl (by decide) rfl rfl (Nat.le_of_ble_eq_true rfl) dX9_isRoom_8 ?_
  rintro _ _ ⟨rfl, rfl⟩
  refine ww_perm (gs' := [wModel E a0 (rf2 (a0 1) h0_1) v0]) [0] 1 rfl (by decide) rfl ?_
  obtain rfl := Option.some.inj hf
  exact ww_zret C (nar_b p8) ⟨rfl, rfl⟩ dX9_isRoom_11

theorem yk_X9_isRoom : yX9_isRoom.cls = RX9 ∧ yX9_isRoom.cls ≠ "java/lang/invoke/MethodHandle" ∧ yX9_isRoom.cls ≠ "java/lang/invoke/VarHandle" ∧ (parseMethodDescriptor yX9_isRoom.desc).map (fun d => d.parameters.length) = some 1 := by decide +kernel
abbrev rmX9_isDoor : Room := { frames := 1, cells := 0, slots := 0, locals := 22 }
set_option maxRecDepth 20000 in
theorem in_X9_isDoor_X9 : ∀ w ∈ u_ws RX9 TX9 35, w ∈ wsX9_isDoor := by decide +kernel
set_option maxHeartbeats 4000000 in
set_option maxRecDepth 100000 in
theorem c_X9_isDoor {E : Ex} {a0 : Nat → Nat} {h0_1 : Nat} {x1 : Int32} {v0 : ModelV} {r : Bool} (hf : Mod_isDoor x1 v0 = some r) : Ct E yX9_isDoor wsX9_isDoor rmX9_isDoor [.ref (a0 0), .int x1] [wModel E a0 (rf2 (a0 1) h0_1) v0] (fun rv g => rv = some (.int (b2i r)) ∧ g = [wModel E a0 (rf2 (a0 1) h0_1) v0]) := by
  refine ct_of (own := RX9) (by decide +kernel) rfl rfl (Nat.le_of_ble_eq_true rfl) (fun K C => ?_)
  refine ww_sub C (lv' := [(0, .ref (a0 0)), (1, .int x1)]) [0, 1] rfl ?_
  rw [Mod_isDoor] at hf
  refine ww_iload_n C dX9_isDoor_0 rfl 1 rfl ?_
  refine ww_iconst (v := 0) C dX9_isDoor_1 (by decide) ?_
  refine ww_aload_n C dX9_isDoor_2 rfl 0 rfl ?_
  refine ww_get C clOK9 in_X9_isDoor_X9 (w := wModel E a0 (rf2 (a0 1) h0_1) v0) (fs := fsModel a0 (rf2 (a0 1) h0_1) v0) (v := .ref (a0 1)) 0 0 7 rfl q_Model (by decide) (by decide +kernel) g_Model_house dX9_isDoor_3 ?_
  refine ww_iconst (v := 1) C dX9_isDoor_6 (by decide) ?_
  obtain ⟨g_1, hf⟩ := gdE hf
  refine ww_iald C (f := Model_now v0) (w := wModel E a0 (rf2 (a0 1) h0_1) v0) 0 1 rfl c_Model_now (inB_vp g_1) dX9_isDoor_7 ?_
  refine ww_iconst (v := 1) C dX9_isDoor_8 (by decide) ?_
  refine ww_isub C dX9_isDoor_9 ?_
  obtain ⟨p10, hp10, hf⟩ := bdE hf
  refine ww_callS C (As := [.int x1, .int 0, .int (((Model_now v0) (Int32.toNatClampNeg 1)) - 1)]) (st := []) (gr := [wModel E a0 (rf2 (a0 1) h0_1) v0]) (c_X9_inRange (E := E)  hp10) gX9_isDoor_X9_inRange rfl ysk_X9_inRange ⟨by decide, by decide⟩ ⟨by decide, by decide⟩ [] [0] 1 rfl (by decide) rfl rfl (Nat.le_of_ble_eq_true rfl) dX9_isDoor_10 ?_
  rintro _ _ ⟨rfl, rfl⟩
  refine ww_perm (gs' := [wModel E a0 (rf2 (a0 1) h0_1) v0]) [0] 1 rfl (by decide) rfl ?_
  obtain rfl := Option.some.inj hf
  exact ww_zret C (nar_b p10) ⟨rfl, rfl⟩ dX9_isDoor_13

theorem yk_X9_isDoor : yX9_isDoor.cls = RX9 ∧ yX9_isDoor.cls ≠ "java/lang/invoke/MethodHandle" ∧ yX9_isDoor.cls ≠ "java/lang/invoke/VarHandle" ∧ (parseMethodDescriptor yX9_isDoor.desc).map (fun d => d.parameters.length) = some 1 := by decide +kernel
abbrev rmX9_isGuard : Room := { frames := 1, cells := 0, slots := 0, locals := 22 }
set_option maxHeartbeats 4000000 in
set_option maxRecDepth 100000 in
theorem c_X9_isGuard {E : Ex} {a0 : Nat → Nat} {h0_1 : Nat} {x1 : Int32} {v0 : ModelV} {r : Bool} (hf : Mod_isGuard x1 v0 = some r) : Ct E yX9_isGuard wsX9_isGuard rmX9_isGuard [.ref (a0 0), .int x1] [wModel E a0 (rf2 (a0 1) h0_1) v0] (fun rv g => rv = some (.int (b2i r)) ∧ g = [wModel E a0 (rf2 (a0 1) h0_1) v0]) := by
  refine ct_of (own := RX9) (by decide +kernel) rfl rfl (Nat.le_of_ble_eq_true rfl) (fun K C => ?_)
  refine ww_sub C (lv' := [(0, .ref (a0 0)), (1, .int x1)]) [0, 1] rfl ?_
  rw [Mod_isGuard] at hf
  refine ww_iload_n C dX9_isGuard_0 rfl 1 rfl ?_
  refine ww_iconst (v := 0) C dX9_isGuard_1 (by decide) ?_
  refine ww_aload_n C dX9_isGuard_2 rfl 0 rfl ?_
  obtain ⟨p3, hp3, hf⟩ := bdE hf
  refine ww_callV C (As := []) (st := [.int 0, .int x1]) (gr := []) (c_X9_guards (E := E) (a0 := a0) (h0_1 := h0_1) hp3) gX9_isGuard_X9_guards rfl yk_X9_guards ⟨by decide, by decide⟩ ⟨by decide, by decide⟩ clOK9 0 0 rfl rfl [0] [] 1 rfl (by decide) rfl rfl (Nat.le_of_ble_eq_true rfl) dX9_isGuard_3 ?_
  rintro _ _ ⟨rfl, rfl⟩
  refine ww_perm (gs' := [wModel E a0 (rf2 (a0 1) h0_1) v0]) [0] 1 rfl (by decide) rfl ?_
  refine ww_iconst (v := 1) C dX9_isGuard_6 (by decide) ?_
  refine ww_isub C dX9_isGuard_7 ?_
  obtain ⟨p8, hp8, hf⟩ := bdE hf
  refine ww_callS C (As := [.int x1, .int 0, .int (p3 - 1)]) (st := []) (gr := [wModel E a0 (rf2 (a0 1) h0_1) v0]) (c_X9_inRange (E := E)  hp8) gX9_isGuard_X9_inRange rfl ysk_X9_inRange ⟨by decide, by decide⟩ ⟨by decide, by decide⟩ [] [0] 1 rfl (by decide) rfl rfl (Nat.le_of_ble_eq_true rfl) dX9_isGuard_8 ?_
  rintro _ _ ⟨rfl, rfl⟩
  refine ww_perm (gs' := [wModel E a0 (rf2 (a0 1) h0_1) v0]) [0] 1 rfl (by decide) rfl ?_
  obtain rfl := Option.some.inj hf
  exact ww_zret C (nar_b p8) ⟨rfl, rfl⟩ dX9_isGuard_11

theorem yk_X9_isGuard : yX9_isGuard.cls = RX9 ∧ yX9_isGuard.cls ≠ "java/lang/invoke/MethodHandle" ∧ yX9_isGuard.cls ≠ "java/lang/invoke/VarHandle" ∧ (parseMethodDescriptor yX9_isGuard.desc).map (fun d => d.parameters.length) = some 1 := by decide +kernel
abbrev rmX9_has : Room := { frames := 0, cells := 0, slots := 0, locals := 0 }
set_option maxHeartbeats 4000000 in
set_option maxRecDepth 100000 in
theorem c_X9_has {E : Ex}  {x0 : Int32} {x1 : Int32} {r : Bool} (hf : Mod_has x0 x1 = some r) : Ct E yX9_has wsX9_has rmX9_has [.int x0, .int x1] [] (fun rv g => rv = some (.int (b2i r)) ∧ g = []) := by
  refine ct_of (own := RX9) (by decide +kernel) rfl rfl (Nat.le_of_ble_eq_true rfl) (fun K C => ?_)
  refine ww_sub C (lv' := [(0, .int x0), (1, .int x1)]) [0, 1] rfl ?_
  rw [Mod_has] at hf
  refine ww_iload_n C dX9_has_0 rfl 0 rfl ?_
  refine ww_iload_n C dX9_has_1 rfl 1 rfl ?_
  refine ww_ishr C dX9_has_2 ?_
  refine ww_iconst (v := 1) C dX9_has_3 (by decide) ?_
  refine ww_iand C dX9_has_4 ?_
  refine ww_iconst (v := 1) C dX9_has_5 (by decide) ?_
  refine ww_icmp_ne (tgt := 13) C dX9_has_6 (by decide) (fun c_1 => ?_) (fun c_1 => ?_)
  · replace hf := ifF c_1 hf
    refine ww_iconst (v := 0) C dX9_has_13 (by decide) ?_
    obtain rfl := Option.some.inj hf
    exact ww_zret C (nar_b false) ⟨rfl, rfl⟩ dX9_has_14
  · replace hf := ifT c_1 hf
    refine ww_iconst (v := 1) C dX9_has_9 (by decide) ?_
    refine ww_goto (tgt := 14) C dX9_has_10 (by decide) ?_
    obtain rfl := Option.some.inj hf
    exact ww_zret C (nar_b true) ⟨rfl, rfl⟩ dX9_has_14

theorem ysk_X9_has : yX9_has.cls ≠ "java/lang/invoke/MethodHandle" ∧ yX9_has.cls ≠ "java/lang/invoke/VarHandle" ∧ (parseMethodDescriptor yX9_has.desc).map (fun d => d.parameters.length) = some 2 := by decide +kernel
abbrev rmX9_isBetween : Room := { frames := 2, cells := 0, slots := 0, locals := 43 }
set_option maxHeartbeats 4000000 in
set_option maxRecDepth 100000 in
theorem w_X9_isBetween_20 {E : Ex} {K : Kx} (C : Cx E K cX9_isBetween 4 (some .boolean) RX9 wsX9_isBetween rmX9_isBetween) {a0 : Nat → Nat} {h0_1 : Nat} {x1 : Int32} {x2 : Int32} {x3 : Int32} {v0 : ModelV}   {r : Bool} (hf : Mod_isBetween_20 x1 x2 x3 v0  = some r) : WW E K 0 0 (QQ E K (fun rv g => rv = some (.int (b2i r)) ∧ g = [wModel E a0 (rf2 (a0 1) h0_1) v0]) 0 0) 20 [(0, .ref (a0 0)), (1, .int x1), (2, .int x2), (3, .int x3)] [] [wModel E a0 (rf2 (a0 1) h0_1) v0] := by
  rw [Mod_isBetween_20] at hf
  refine ww_aload_n C dX9_isBetween_20 rfl 0 rfl ?_
  refine ww_iload_n C dX9_isBetween_21 rfl 1 rfl ?_
  refine ww_iconst (v := 0) C dX9_isBetween_22 (by decide) ?_
  obtain ⟨p23, hp23, hf⟩ := bdE hf
  refine ww_callV C (As := [.int x1, .int 0]) (st := []) (gr := []) (c_X9_ofDoor (E := E) (a0 := a0) (h0_1 := h0_1) hp23) gX9_isBetween_X9_ofDoor rfl yk_X9_ofDoor ⟨by decide, by decide⟩ ⟨by decide, by decide⟩ clOK9 0 0 rfl rfl [0] [] 1 rfl (by decide) rfl rfl (Nat.le_of_ble_eq_true rfl) dX9_isBetween_23 ?_
  rintro _ _ ⟨rfl, rfl⟩
  refine ww_perm (gs' := [wModel E a0 (rf2 (a0 1) h0_1) v0]) [0] 1 rfl (by decide) rfl ?_
  refine ww_iload_n C dX9_isBetween_26 rfl 3 rfl ?_
  refine ww_icmp_ne (tgt := 44) C dX9_isBetween_27 (by decide) (fun c_3 => ?_) (fun c_3 => ?_)
  · replace hf := ifF c_3 hf
    refine ww_iconst (v := 0) C dX9_isBetween_44 (by decide) ?_
    obtain rfl := Option.some.inj hf
    exact ww_zret C (nar_b false) ⟨rfl, rfl⟩ dX9_isBetween_45
  · replace hf := ifT c_3 hf
    refine ww_aload_n C dX9_isBetween_30 rfl 0 rfl ?_
    refine ww_iload_n C dX9_isBetween_31 rfl 1 rfl ?_
    refine ww_iconst (v := 1) C dX9_isBetween_32 (by decide) ?_
    obtain ⟨p33, hp33, hf⟩ := bdE hf
    refine ww_callV C (As := [.int x1, .int 1]) (st := []) (gr := []) (c_X9_ofDoor (E := E) (a0 := a0) (h0_1 := h0_1) hp33) gX9_isBetween_X9_ofDoor rfl yk_X9_ofDoor ⟨by decide, by decide⟩ ⟨by decide, by decide⟩ clOK9 0 0 rfl rfl [0] [] 1 rfl (by decide) rfl rfl (Nat.le_of_ble_eq_true rfl) dX9_isBetween_33 ?_
    rintro _ _ ⟨rfl, rfl⟩
    refine ww_perm (gs' := [wModel E a0 (rf2 (a0 1) h0_1) v0]) [0] 1 rfl (by decide) rfl ?_
    refine ww_iload_n C dX9_isBetween_36 rfl 2 rfl ?_
    refine ww_icmp_ne (tgt := 44) C dX9_isBetween_37 (by decide) (fun c_4 => ?_) (fun c_4 => ?_)
    · replace hf := ifF c_4 hf
      refine ww_iconst (v := 0) C dX9_isBetween_44 (by decide) ?_
      obtain rfl := Option.some.inj hf
      exact ww_zret C (nar_b false) ⟨rfl, rfl⟩ dX9_isBetween_45
    · replace hf := ifT c_4 hf
      refine ww_iconst (v := 1) C dX9_isBetween_40 (by decide) ?_
      refine ww_goto (tgt := 45) C dX9_isBetween_41 (by decide) ?_
      obtain rfl := Option.some.inj hf
      exact ww_zret C (nar_b true) ⟨rfl, rfl⟩ dX9_isBetween_45

set_option maxHeartbeats 4000000 in
set_option maxRecDepth 100000 in
theorem c_X9_isBetween {E : Ex} {a0 : Nat → Nat} {h0_1 : Nat} {x1 : Int32} {x2 : Int32} {x3 : Int32} {v0 : ModelV} {r : Bool} (hf : Mod_isBetween x1 x2 x3 v0 = some r) : Ct E yX9_isBetween wsX9_isBetween rmX9_isBetween [.ref (a0 0), .int x1, .int x2, .int x3] [wModel E a0 (rf2 (a0 1) h0_1) v0] (fun rv g => rv = some (.int (b2i r)) ∧ g = [wModel E a0 (rf2 (a0 1) h0_1) v0]) := by
  refine ct_of (own := RX9) (by decide +kernel) rfl rfl (Nat.le_of_ble_eq_true rfl) (fun K C => ?_)
  refine ww_sub C (lv' := [(0, .ref (a0 0)), (1, .int x1), (2, .int x2), (3, .int x3)]) [0, 1, 2, 3] rfl ?_
  rw [Mod_isBetween] at hf
  refine ww_aload_n C dX9_isBetween_0 rfl 0 rfl ?_
  refine ww_iload_n C dX9_isBetween_1 rfl 1 rfl ?_
  refine ww_iconst (v := 0) C dX9_isBetween_2 (by decide) ?_
  obtain ⟨p3, hp3, hf⟩ := bdE hf
  refine ww_callV C (As := [.int x1, .int 0]) (st := []) (gr := []) (c_X9_ofDoor (E := E) (a0 := a0) (h0_1 := h0_1) hp3) gX9_isBetween_X9_ofDoor rfl yk_X9_ofDoor ⟨by decide, by decide⟩ ⟨by decide, by decide⟩ clOK9 0 0 rfl rfl [0] [] 1 rfl (by decide) rfl rfl (Nat.le_of_ble_eq_true rfl) dX9_isBetween_3 ?_
  rintro _ _ ⟨rfl, rfl⟩
  refine ww_perm (gs' := [wModel E a0 (rf2 (a0 1) h0_1) v0]) [0] 1 rfl (by decide) rfl ?_
  refine ww_iload_n C dX9_isBetween_6 rfl 2 rfl ?_
  refine ww_icmp_ne (tgt := 20) C dX9_isBetween_7 (by decide) (fun c_1 => ?_) (fun c_1 => ?_)
  · replace hf := ifF c_1 hf
    refine ww_sub C (lv' := [(0, .ref (a0 0)), (1, .int x1), (2, .int x2), (3, .int x3)]) [0, 1, 2, 3] rfl ?_
    exact w_X9_isBetween_20 C hf
  · replace hf := ifT c_1 hf
    refine ww_aload_n C dX9_isBetween_10 rfl 0 rfl ?_
    refine ww_iload_n C dX9_isBetween_11 rfl 1 rfl ?_
    refine ww_iconst (v := 1) C dX9_isBetween_12 (by decide) ?_
    obtain ⟨p13, hp13, hf⟩ := bdE hf
    refine ww_callV C (As := [.int x1, .int 1]) (st := []) (gr := []) (c_X9_ofDoor (E := E) (a0 := a0) (h0_1 := h0_1) hp13) gX9_isBetween_X9_ofDoor rfl yk_X9_ofDoor ⟨by decide, by decide⟩ ⟨by decide, by decide⟩ clOK9 0 0 rfl rfl [0] [] 1 rfl (by decide) rfl rfl (Nat.le_of_ble_eq_true rfl) dX9_isBetween_13 ?_
    rintro _ _ ⟨rfl, rfl⟩
    refine ww_perm (gs' := [wModel E a0 (rf2 (a0 1) h0_1) v0]) [0] 1 rfl (by decide) rfl ?_
    refine ww_iload_n C dX9_isBetween_16 rfl 3 rfl ?_
    refine ww_icmp_eq (tgt := 40) C dX9_isBetween_17 (by decide) (fun c_2 => ?_) (fun c_2 => ?_)
    · replace hf := ifT c_2 hf
      refine ww_iconst (v := 1) C dX9_isBetween_40 (by decide) ?_
      refine ww_goto (tgt := 45) C dX9_isBetween_41 (by decide) ?_
      obtain rfl := Option.some.inj hf
      exact ww_zret C (nar_b true) ⟨rfl, rfl⟩ dX9_isBetween_45
    · replace hf := ifF c_2 hf
      refine ww_sub C (lv' := [(0, .ref (a0 0)), (1, .int x1), (2, .int x2), (3, .int x3)]) [0, 1, 2, 3] rfl ?_
      exact w_X9_isBetween_20 C hf

theorem yk_X9_isBetween : yX9_isBetween.cls = RX9 ∧ yX9_isBetween.cls ≠ "java/lang/invoke/MethodHandle" ∧ yX9_isBetween.cls ≠ "java/lang/invoke/VarHandle" ∧ (parseMethodDescriptor yX9_isBetween.desc).map (fun d => d.parameters.length) = some 3 := by decide +kernel
abbrev rmX9_openBetween : Room := { frames := 3, cells := 0, slots := 0, locals := 66 }
set_option maxRecDepth 20000 in
theorem in_X9_openBetween_X9 : ∀ w ∈ u_ws RX9 TX9 35, w ∈ wsX9_openBetween := by decide +kernel
set_option maxHeartbeats 4000000 in
set_option maxRecDepth 100000 in
theorem w_X9_openBetween_5 {E : Ex} {K : Kx} (C : Cx E K cX9_openBetween 5 (some .int) RX9 wsX9_openBetween rmX9_openBetween) {a0 : Nat → Nat} {h0_1 : Nat} {x1 : Int32} {x2 : Int32} {v0 : ModelV}  {r : Int32} : ∀ (n : Nat) (x3 : Int32) (x4 : Int32), Mod_openBetween_5 x1 x2 v0 n x3 x4 = some r → WW E K 0 0 (QQ E K (fun rv g => rv = some (.int r) ∧ g = [wModel E a0 (rf2 (a0 1) h0_1) v0]) 0 0) 5 [(0, .ref (a0 0)), (1, .int x1), (2, .int x2), (3, .int x3), (4, .int x4)] [] [wModel E a0 (rf2 (a0 1) h0_1) v0] := by
  intro n
  induction n with
  | zero =>
    intro x3 x4 hf
    simp [Mod_openBetween_5] at hf
  | succ n ih =>
    intro x3 x4 hf
    rw [Mod_openBetween_5] at hf
    refine ww_iload C dX9_openBetween_5 4 rfl ?_
    refine ww_aload_n C dX9_openBetween_7 rfl 0 rfl ?_
    refine ww_get C clOK9 in_X9_openBetween_X9 (w := wModel E a0 (rf2 (a0 1) h0_1) v0) (fs := fsModel a0 (rf2 (a0 1) h0_1) v0) (v := .ref (a0 1)) 0 0 7 rfl q_Model (by decide) (by decide +kernel) g_Model_house dX9_openBetween_8 ?_
    refine ww_iconst (v := 1) C dX9_openBetween_11 (by decide) ?_
    obtain ⟨g_1, hf⟩ := gdE hf
    refine ww_iald C (f := Model_now v0) (w := wModel E a0 (rf2 (a0 1) h0_1) v0) 0 1 rfl c_Model_now (inB_vp g_1) dX9_openBetween_12 ?_
    refine ww_icmp_ge (tgt := 47) C dX9_openBetween_13 (by decide) (fun c_2 => ?_) (fun c_2 => ?_)
    · replace hf := ifT c_2 hf
      refine ww_iload_n C dX9_openBetween_47 rfl 3 rfl ?_
      obtain rfl := Option.some.inj hf
      exact ww_iret C ⟨rfl, rfl⟩ dX9_openBetween_48
    · replace hf := ifF c_2 hf
      refine ww_iload_n C dX9_openBetween_16 rfl 3 rfl ?_
      refine ww_aload_n C dX9_openBetween_17 rfl 0 rfl ?_
      refine ww_iload C dX9_openBetween_18 4 rfl ?_
      refine ww_iload_n C dX9_openBetween_20 rfl 1 rfl ?_
      refine ww_iload_n C dX9_openBetween_21 rfl 2 rfl ?_
      obtain ⟨p22, hp22, hf⟩ := bdE hf
      refine ww_callV C (As := [.int x4, .int x1, .int x2]) (st := [.int x3]) (gr := []) (c_X9_isBetween (E := E) (a0 := a0) (h0_1 := h0_1) hp22) gX9_openBetween_X9_isBetween rfl yk_X9_isBetween ⟨by decide, by decide⟩ ⟨by decide, by decide⟩ clOK9 0 0 rfl rfl [0] [] 1 rfl (by decide) rfl rfl (Nat.le_of_ble_eq_true rfl) dX9_openBetween_22 ?_
      rintro _ _ ⟨rfl, rfl⟩
      refine ww_perm (gs' := [wModel E a0 (rf2 (a0 1) h0_1) v0]) [0] 1 rfl (by decide) rfl ?_
      refine ww_if_eqB (tgt := 38) C dX9_openBetween_25 (by decide) (fun c_3 => ?_) (fun c_3 => ?_)
      · replace hf := bfE c_3 hf
        refine ww_iconst (v := 0) C dX9_openBetween_38 (by decide) ?_
        refine ww_iadd C dX9_openBetween_39 ?_
        refine ww_topi (fun x3_40 e_x3_40 => ?_)
        replace hf := ltE e_x3_40 hf
        refine ww_istore_n (lv' := [(3, .int x3_40), (0, .ref (a0 0)), (1, .int x1), (2, .int x2), (4, .int x4)]) C dX9_openBetween_40 rfl (by decide) rfl ?_
        obtain ⟨x4_41, e_x4_41⟩ : ∃ y : Int32, y = x4 + 1 := ⟨_, rfl⟩
        replace hf := ltE e_x4_41 hf
        refine ww_iinc (v := x4_41) (lv' := [(4, .int x4_41), (3, .int x3_40), (0, .ref (a0 0)), (1, .int x1), (2, .int x2)]) C dX9_openBetween_41 4 rfl (by rw [e_x4_41]; rfl) (by decide) rfl ?_
        refine ww_goto (tgt := 5) C dX9_openBetween_44 (by decide) ?_
        refine ww_sub C (lv' := [(0, .ref (a0 0)), (1, .int x1), (2, .int x2), (3, .int x3_40), (4, .int x4_41)]) [2, 3, 4, 1, 0] rfl ?_
        exact ih _ _ hf
      · replace hf := btE c_3 hf
        refine ww_aload_n C dX9_openBetween_28 rfl 0 rfl ?_
        refine ww_iload C dX9_openBetween_29 4 rfl ?_
        refine ww_iconst (v := 2) C dX9_openBetween_31 (by decide) ?_
        obtain ⟨p32, hp32, hf⟩ := bdE hf
        refine ww_callV C (As := [.int x4, .int 2]) (st := [.int x3]) (gr := []) (c_X9_ofDoor (E := E) (a0 := a0) (h0_1 := h0_1) hp32) gX9_openBetween_X9_ofDoor rfl yk_X9_ofDoor ⟨by decide, by decide⟩ ⟨by decide, by decide⟩ clOK9 0 0 rfl rfl [0] [] 1 rfl (by decide) rfl rfl (Nat.le_of_ble_eq_true rfl) dX9_openBetween_32 ?_
        rintro _ _ ⟨rfl, rfl⟩
        refine ww_perm (gs' := [wModel E a0 (rf2 (a0 1) h0_1) v0]) [0] 1 rfl (by decide) rfl ?_
        refine ww_goto (tgt := 39) C dX9_openBetween_35 (by decide) ?_
        refine ww_iadd C dX9_openBetween_39 ?_
        refine ww_topi (fun x3_40 e_x3_40 => ?_)
        replace hf := ltE e_x3_40 hf
        refine ww_istore_n (lv' := [(3, .int x3_40), (0, .ref (a0 0)), (1, .int x1), (2, .int x2), (4, .int x4)]) C dX9_openBetween_40 rfl (by decide) rfl ?_
        obtain ⟨x4_41, e_x4_41⟩ : ∃ y : Int32, y = x4 + 1 := ⟨_, rfl⟩
        replace hf := ltE e_x4_41 hf
        refine ww_iinc (v := x4_41) (lv' := [(4, .int x4_41), (3, .int x3_40), (0, .ref (a0 0)), (1, .int x1), (2, .int x2)]) C dX9_openBetween_41 4 rfl (by rw [e_x4_41]; rfl) (by decide) rfl ?_
        refine ww_goto (tgt := 5) C dX9_openBetween_44 (by decide) ?_
        refine ww_sub C (lv' := [(0, .ref (a0 0)), (1, .int x1), (2, .int x2), (3, .int x3_40), (4, .int x4_41)]) [2, 3, 4, 1, 0] rfl ?_
        exact ih _ _ hf

set_option maxHeartbeats 4000000 in
set_option maxRecDepth 100000 in
theorem c_X9_openBetween {E : Ex} {a0 : Nat → Nat} {h0_1 : Nat} {x1 : Int32} {x2 : Int32} {v0 : ModelV} {r : Int32} (hf : Mod_openBetween x1 x2 v0 = some r) : Ct E yX9_openBetween wsX9_openBetween rmX9_openBetween [.ref (a0 0), .int x1, .int x2] [wModel E a0 (rf2 (a0 1) h0_1) v0] (fun rv g => rv = some (.int r) ∧ g = [wModel E a0 (rf2 (a0 1) h0_1) v0]) := by
  refine ct_of (own := RX9) (by decide +kernel) rfl rfl (Nat.le_of_ble_eq_true rfl) (fun K C => ?_)
  refine ww_sub C (lv' := [(0, .ref (a0 0)), (1, .int x1), (2, .int x2)]) [0, 1, 2] rfl ?_
  rw [Mod_openBetween] at hf
  refine ww_iconst (v := 0) C dX9_openBetween_0 (by decide) ?_
  refine ww_istore_n (lv' := [(3, .int 0), (0, .ref (a0 0)), (1, .int x1), (2, .int x2)]) C dX9_openBetween_1 rfl (by decide) rfl ?_
  refine ww_iconst (v := 0) C dX9_openBetween_2 (by decide) ?_
  refine ww_istore (lv' := [(4, .int 0), (3, .int 0), (0, .ref (a0 0)), (1, .int x1), (2, .int x2)]) C dX9_openBetween_3 (by decide) rfl ?_
  refine ww_sub C (lv' := [(0, .ref (a0 0)), (1, .int x1), (2, .int x2), (3, .int 0), (4, .int 0)]) [2, 3, 4, 1, 0] rfl ?_
  exact w_X9_openBetween_5 C FU _ _ hf

theorem yk_X9_openBetween : yX9_openBetween.cls = RX9 ∧ yX9_openBetween.cls ≠ "java/lang/invoke/MethodHandle" ∧ yX9_openBetween.cls ≠ "java/lang/invoke/VarHandle" ∧ (parseMethodDescriptor yX9_openBetween.desc).map (fun d => d.parameters.length) = some 2 := by decide +kernel
abbrev rmX9_openAt : Room := { frames := 2, cells := 0, slots := 0, locals := 43 }
set_option maxRecDepth 20000 in
theorem in_X9_openAt_X9 : ∀ w ∈ u_ws RX9 TX9 35, w ∈ wsX9_openAt := by decide +kernel
set_option maxHeartbeats 4000000 in
set_option maxRecDepth 100000 in
theorem w_X9_openAt_52 {E : Ex} {K : Kx} (C : Cx E K cX9_openAt 5 (some .int) RX9 wsX9_openAt rmX9_openAt) {a0 : Nat → Nat} {h0_1 : Nat} {x1 : Int32} {v0 : ModelV}  {x3 : Int32} {s0 : Int32} {k4 : Int32 → Int32 → Option Int32} {r : Int32} (hk4 : ∀ (x2 : Int32) (x3 : Int32), k4 x2 x3 = some r → WW E K 0 0 (QQ E K (fun rv g => rv = some (.int r) ∧ g = [wModel E a0 (rf2 (a0 1) h0_1) v0]) 0 0) 4 [(0, .ref (a0 0)), (1, .int x1), (2, .int x2), (3, .int x3)] [] [wModel E a0 (rf2 (a0 1) h0_1) v0]) (hf : Mod_openAt_52 x1 v0 k4 x3 s0 = some r) : WW E K 0 0 (QQ E K (fun rv g => rv = some (.int r) ∧ g = [wModel E a0 (rf2 (a0 1) h0_1) v0]) 0 0) 52 [(0, .ref (a0 0)), (1, .int x1), (3, .int x3)] [.int s0] [wModel E a0 (rf2 (a0 1) h0_1) v0] := by
  rw [Mod_openAt_52] at hf
  refine ww_aload_n C dX9_openAt_52 rfl 0 rfl ?_
  refine ww_iload_n C dX9_openAt_53 rfl 2 rfl ?_
  refine ww_iconst (v := 2) C dX9_openAt_54 (by decide) ?_
  obtain ⟨p55, hp55, hf⟩ := bdE hf
  refine ww_callV C (As := [.int x3, .int 2]) (st := [.int s0]) (gr := []) (c_X9_ofDoor (E := E) (a0 := a0) (h0_1 := h0_1) hp55) gX9_openAt_X9_ofDoor rfl yk_X9_ofDoor ⟨by decide, by decide⟩ ⟨by decide, by decide⟩ clOK9 0 0 rfl rfl [0] [] 1 rfl (by decide) rfl rfl (Nat.le_of_ble_eq_true rfl) dX9_openAt_55 ?_
  rintro _ _ ⟨rfl, rfl⟩
  refine ww_perm (gs' := [wModel E a0 (rf2 (a0 1) h0_1) v0]) [0] 1 rfl (by decide) rfl ?_
  refine ww_goto (tgt := 62) C dX9_openAt_58 (by decide) ?_
  refine ww_iadd C dX9_openAt_62 ?_
  refine ww_topi (fun x2_63 e_x2_63 => ?_)
  replace hf := ltE e_x2_63 hf
  refine ww_istore_n (lv' := [(2, .int x2_63), (0, .ref (a0 0)), (1, .int x1), (3, .int x3)]) C dX9_openAt_63 rfl (by decide) rfl ?_
  obtain ⟨x3_64, e_x3_64⟩ : ∃ y : Int32, y = x3 + 1 := ⟨_, rfl⟩
  replace hf := ltE e_x3_64 hf
  refine ww_iinc (v := x3_64) (lv' := [(3, .int x3_64), (2, .int x2_63), (0, .ref (a0 0)), (1, .int x1)]) C dX9_openAt_64 3 rfl (by rw [e_x3_64]; rfl) (by decide) rfl ?_
  refine ww_goto (tgt := 4) C dX9_openAt_67 (by decide) ?_
  refine ww_sub C (lv' := [(0, .ref (a0 0)), (1, .int x1), (2, .int x2_63), (3, .int x3_64)]) [2, 3, 1, 0] rfl ?_
  exact hk4 _ _ hf

set_option maxHeartbeats 4000000 in
set_option maxRecDepth 100000 in
theorem w_X9_openAt_39 {E : Ex} {K : Kx} (C : Cx E K cX9_openAt 5 (some .int) RX9 wsX9_openAt rmX9_openAt) {a0 : Nat → Nat} {h0_1 : Nat} {x1 : Int32} {v0 : ModelV}  {x2 : Int32} {x3 : Int32} {s0 : Int32} {k4 : Int32 → Int32 → Option Int32} {r : Int32} (hk4 : ∀ (x2 : Int32) (x3 : Int32), k4 x2 x3 = some r → WW E K 0 0 (QQ E K (fun rv g => rv = some (.int r) ∧ g = [wModel E a0 (rf2 (a0 1) h0_1) v0]) 0 0) 4 [(0, .ref (a0 0)), (1, .int x1), (2, .int x2), (3, .int x3)] [] [wModel E a0 (rf2 (a0 1) h0_1) v0]) (hf : Mod_openAt_39 x1 v0 k4 x2 x3 s0 = some r) : WW E K 0 0 (QQ E K (fun rv g => rv = some (.int r) ∧ g = [wModel E a0 (rf2 (a0 1) h0_1) v0]) 0 0) 39 [(0, .ref (a0 0)), (1, .int x1), (2, .int x2), (3, .int x3)] [.int s0] [wModel E a0 (rf2 (a0 1) h0_1) v0] := by
  rw [Mod_openAt_39] at hf
  refine ww_istore (lv' := [(4, .int s0), (0, .ref (a0 0)), (1, .int x1), (2, .int x2), (3, .int x3)]) C dX9_openAt_39 (by decide) rfl ?_
  refine ww_iload_n C dX9_openAt_41 rfl 3 rfl ?_
  refine ww_iload_n C dX9_openAt_42 rfl 2 rfl ?_
  refine ww_iconst (v := (-1)) C dX9_openAt_43 (by decide) ?_
  refine ww_icmp_eq (tgt := 52) C dX9_openAt_44 (by decide) (fun c_5 => ?_) (fun c_5 => ?_)
  · replace hf := ifT c_5 hf
    refine ww_sub C (lv' := [(0, .ref (a0 0)), (1, .int x1), (3, .int x3)]) [1, 2, 4] rfl ?_
    exact w_X9_openAt_52 C (k4 := k4) hk4 hf
  · replace hf := ifF c_5 hf
    refine ww_iload C dX9_openAt_47 0 rfl ?_
    refine ww_if_eq (tgt := 61) C dX9_openAt_49 (by decide) (fun c_6 => ?_) (fun c_6 => ?_)
    · replace hf := ifT c_6 hf
      refine ww_iconst (v := 0) C dX9_openAt_61 (by decide) ?_
      refine ww_iadd C dX9_openAt_62 ?_
      refine ww_topi (fun x2_63 e_x2_63 => ?_)
      replace hf := ltE e_x2_63 hf
      refine ww_istore_n (lv' := [(2, .int x2_63), (4, .int s0), (0, .ref (a0 0)), (1, .int x1), (3, .int x3)]) C dX9_openAt_63 rfl (by decide) rfl ?_
      obtain ⟨x3_64, e_x3_64⟩ : ∃ y : Int32, y = x3 + 1 := ⟨_, rfl⟩
      replace hf := ltE e_x3_64 hf
      refine ww_iinc (v := x3_64) (lv' := [(3, .int x3_64), (2, .int x2_63), (4, .int s0), (0, .ref (a0 0)), (1, .int x1)]) C dX9_openAt_64 4 rfl (by rw [e_x3_64]; rfl) (by decide) rfl ?_
      refine ww_goto (tgt := 4) C dX9_openAt_67 (by decide) ?_
      refine ww_sub C (lv' := [(0, .ref (a0 0)), (1, .int x1), (2, .int x2_63), (3, .int x3_64)]) [3, 4, 1, 0] rfl ?_
      exact hk4 _ _ hf
    · replace hf := ifF c_6 hf
      refine ww_sub C (lv' := [(0, .ref (a0 0)), (1, .int x1), (3, .int x3)]) [1, 2, 4] rfl ?_
      exact w_X9_openAt_52 C (k4 := k4) hk4 hf

set_option maxHeartbeats 4000000 in
set_option maxRecDepth 100000 in
theorem w_X9_openAt_34 {E : Ex} {K : Kx} (C : Cx E K cX9_openAt 5 (some .int) RX9 wsX9_openAt rmX9_openAt) {a0 : Nat → Nat} {h0_1 : Nat} {x1 : Int32} {v0 : ModelV}  {x2 : Int32} {x3 : Int32} {k4 : Int32 → Int32 → Option Int32} {r : Int32} (hk4 : ∀ (x2 : Int32) (x3 : Int32), k4 x2 x3 = some r → WW E K 0 0 (QQ E K (fun rv g => rv = some (.int r) ∧ g = [wModel E a0 (rf2 (a0 1) h0_1) v0]) 0 0) 4 [(0, .ref (a0 0)), (1, .int x1), (2, .int x2), (3, .int x3)] [] [wModel E a0 (rf2 (a0 1) h0_1) v0]) (hf : Mod_openAt_34 x1 v0 k4 x2 x3 = some r) : WW E K 0 0 (QQ E K (fun rv g => rv = some (.int r) ∧ g = [wModel E a0 (rf2 (a0 1) h0_1) v0]) 0 0) 34 [(0, .ref (a0 0)), (1, .int x1), (2, .int x2), (3, .int x3)] [] [wModel E a0 (rf2 (a0 1) h0_1) v0] := by
  rw [Mod_openAt_34] at hf
  refine ww_iconst (v := 1) C dX9_openAt_34 (by decide) ?_
  refine ww_goto (tgt := 39) C dX9_openAt_35 (by decide) ?_
  refine ww_sub C (lv' := [(0, .ref (a0 0)), (1, .int x1), (2, .int x2), (3, .int x3)]) [0, 1, 2, 3] rfl ?_
  exact w_X9_openAt_39 C (k4 := k4) hk4 hf

set_option maxHeartbeats 4000000 in
set_option maxRecDepth 100000 in
theorem w_X9_openAt_4 {E : Ex} {K : Kx} (C : Cx E K cX9_openAt 5 (some .int) RX9 wsX9_openAt rmX9_openAt) {a0 : Nat → Nat} {h0_1 : Nat} {x1 : Int32} {v0 : ModelV}  {r : Int32} : ∀ (n : Nat) (x2 : Int32) (x3 : Int32), Mod_openAt_4 x1 v0 n x2 x3 = some r → WW E K 0 0 (QQ E K (fun rv g => rv = some (.int r) ∧ g = [wModel E a0 (rf2 (a0 1) h0_1) v0]) 0 0) 4 [(0, .ref (a0 0)), (1, .int x1), (2, .int x2), (3, .int x3)] [] [wModel E a0 (rf2 (a0 1) h0_1) v0] := by
  intro n
  induction n with
  | zero =>
    intro x2 x3 hf
    simp [Mod_openAt_4] at hf
  | succ n ih =>
    intro x2 x3 hf
    rw [Mod_openAt_4] at hf
    refine ww_iload_n C dX9_openAt_4 rfl 3 rfl ?_
    refine ww_aload_n C dX9_openAt_5 rfl 0 rfl ?_
    refine ww_get C clOK9 in_X9_openAt_X9 (w := wModel E a0 (rf2 (a0 1) h0_1) v0) (fs := fsModel a0 (rf2 (a0 1) h0_1) v0) (v := .ref (a0 1)) 0 0 7 rfl q_Model (by decide) (by decide +kernel) g_Model_house dX9_openAt_6 ?_
    refine ww_iconst (v := 1) C dX9_openAt_9 (by decide) ?_
    obtain ⟨g_1, hf⟩ := gdE hf
    refine ww_iald C (f := Model_now v0) (w := wModel E a0 (rf2 (a0 1) h0_1) v0) 0 1 rfl c_Model_now (inB_vp g_1) dX9_openAt_10 ?_
    refine ww_icmp_ge (tgt := 70) C dX9_openAt_11 (by decide) (fun c_2 => ?_) (fun c_2 => ?_)
    · replace hf := ifT c_2 hf
      refine ww_iload_n C dX9_openAt_70 rfl 2 rfl ?_
      obtain rfl := Option.some.inj hf
      exact ww_iret C ⟨rfl, rfl⟩ dX9_openAt_71
    · replace hf := ifF c_2 hf
      refine ww_aload_n C dX9_openAt_14 rfl 0 rfl ?_
      refine ww_iload_n C dX9_openAt_15 rfl 3 rfl ?_
      refine ww_iconst (v := 0) C dX9_openAt_16 (by decide) ?_
      obtain ⟨p17, hp17, hf⟩ := bdE hf
      refine ww_callV C (As := [.int x3, .int 0]) (st := []) (gr := []) (c_X9_ofDoor (E := E) (a0 := a0) (h0_1 := h0_1) hp17) gX9_openAt_X9_ofDoor rfl yk_X9_ofDoor ⟨by decide, by decide⟩ ⟨by decide, by decide⟩ clOK9 0 0 rfl rfl [0] [] 1 rfl (by decide) rfl rfl (Nat.le_of_ble_eq_true rfl) dX9_openAt_17 ?_
      rintro _ _ ⟨rfl, rfl⟩
      refine ww_perm (gs' := [wModel E a0 (rf2 (a0 1) h0_1) v0]) [0] 1 rfl (by decide) rfl ?_
      refine ww_iload_n C dX9_openAt_20 rfl 1 rfl ?_
      refine ww_icmp_eq (tgt := 34) C dX9_openAt_21 (by decide) (fun c_3 => ?_) (fun c_3 => ?_)
      · replace hf := ifT c_3 hf
        refine ww_sub C (lv' := [(0, .ref (a0 0)), (1, .int x1), (2, .int x2), (3, .int x3)]) [0, 1, 2, 3] rfl ?_
        exact w_X9_openAt_34 C (k4 := (fun (x2 : Int32) (x3 : Int32) => Mod_openAt_4 x1 v0 n x2 x3)) ih hf
      · replace hf := ifF c_3 hf
        refine ww_aload_n C dX9_openAt_24 rfl 0 rfl ?_
        refine ww_iload_n C dX9_openAt_25 rfl 3 rfl ?_
        refine ww_iconst (v := 1) C dX9_openAt_26 (by decide) ?_
        obtain ⟨p27, hp27, hf⟩ := bdE hf
        refine ww_callV C (As := [.int x3, .int 1]) (st := []) (gr := []) (c_X9_ofDoor (E := E) (a0 := a0) (h0_1 := h0_1) hp27) gX9_openAt_X9_ofDoor rfl yk_X9_ofDoor ⟨by decide, by decide⟩ ⟨by decide, by decide⟩ clOK9 0 0 rfl rfl [0] [] 1 rfl (by decide) rfl rfl (Nat.le_of_ble_eq_true rfl) dX9_openAt_27 ?_
        rintro _ _ ⟨rfl, rfl⟩
        refine ww_perm (gs' := [wModel E a0 (rf2 (a0 1) h0_1) v0]) [0] 1 rfl (by decide) rfl ?_
        refine ww_iload_n C dX9_openAt_30 rfl 1 rfl ?_
        refine ww_icmp_ne (tgt := 38) C dX9_openAt_31 (by decide) (fun c_4 => ?_) (fun c_4 => ?_)
        · replace hf := ifF c_4 hf
          refine ww_iconst (v := 0) C dX9_openAt_38 (by decide) ?_
          refine ww_sub C (lv' := [(0, .ref (a0 0)), (1, .int x1), (2, .int x2), (3, .int x3)]) [0, 1, 2, 3] rfl ?_
          exact w_X9_openAt_39 C (k4 := (fun (x2 : Int32) (x3 : Int32) => Mod_openAt_4 x1 v0 n x2 x3)) ih hf
        · replace hf := ifT c_4 hf
          refine ww_sub C (lv' := [(0, .ref (a0 0)), (1, .int x1), (2, .int x2), (3, .int x3)]) [0, 1, 2, 3] rfl ?_
          exact w_X9_openAt_34 C (k4 := (fun (x2 : Int32) (x3 : Int32) => Mod_openAt_4 x1 v0 n x2 x3)) ih hf

set_option maxHeartbeats 4000000 in
set_option maxRecDepth 100000 in
theorem c_X9_openAt {E : Ex} {a0 : Nat → Nat} {h0_1 : Nat} {x1 : Int32} {v0 : ModelV} {r : Int32} (hf : Mod_openAt x1 v0 = some r) : Ct E yX9_openAt wsX9_openAt rmX9_openAt [.ref (a0 0), .int x1] [wModel E a0 (rf2 (a0 1) h0_1) v0] (fun rv g => rv = some (.int r) ∧ g = [wModel E a0 (rf2 (a0 1) h0_1) v0]) := by
  refine ct_of (own := RX9) (by decide +kernel) rfl rfl (Nat.le_of_ble_eq_true rfl) (fun K C => ?_)
  refine ww_sub C (lv' := [(0, .ref (a0 0)), (1, .int x1)]) [0, 1] rfl ?_
  rw [Mod_openAt] at hf
  refine ww_iconst (v := 0) C dX9_openAt_0 (by decide) ?_
  refine ww_istore_n (lv' := [(2, .int 0), (0, .ref (a0 0)), (1, .int x1)]) C dX9_openAt_1 rfl (by decide) rfl ?_
  refine ww_iconst (v := 0) C dX9_openAt_2 (by decide) ?_
  refine ww_istore_n (lv' := [(3, .int 0), (2, .int 0), (0, .ref (a0 0)), (1, .int x1)]) C dX9_openAt_3 rfl (by decide) rfl ?_
  refine ww_sub C (lv' := [(0, .ref (a0 0)), (1, .int x1), (2, .int 0), (3, .int 0)]) [2, 3, 1, 0] rfl ?_
  exact w_X9_openAt_4 C FU _ _ hf

theorem yk_X9_openAt : yX9_openAt.cls = RX9 ∧ yX9_openAt.cls ≠ "java/lang/invoke/MethodHandle" ∧ yX9_openAt.cls ≠ "java/lang/invoke/VarHandle" ∧ (parseMethodDescriptor yX9_openAt.desc).map (fun d => d.parameters.length) = some 1 := by decide +kernel
abbrev rmX9_layJoined : Room := { frames := 2, cells := 0, slots := 0, locals := 43 }
set_option maxRecDepth 20000 in
theorem in_X9_layJoined_X9 : ∀ w ∈ u_ws RX9 TX9 35, w ∈ wsX9_layJoined := by decide +kernel
set_option maxHeartbeats 4000000 in
set_option maxRecDepth 100000 in
theorem w_X9_layJoined_25 {E : Ex} {K : Kx} (C : Cx E K cX9_layJoined 2 none RX9 wsX9_layJoined rmX9_layJoined) {a0 : Nat → Nat} {h0_1 : Nat}   {r : ModelV} : ∀ (n : Nat) (x1 : Int32) (v0 : ModelV), Mod_layJoined_25 n x1 v0 = some r → WW E K 0 0 (QQ E K (fun rv g => rv = none ∧ g = [wModel E a0 (rf2 (a0 1) h0_1) r]) 0 0) 25 [(0, .ref (a0 0)), (1, .int x1)] [] [wModel E a0 (rf2 (a0 1) h0_1) v0] := by
  intro n
  induction n with
  | zero =>
    intro x1 v0 hf
    simp [Mod_layJoined_25] at hf
  | succ n ih =>
    intro x1 v0 hf
    rw [Mod_layJoined_25] at hf
    refine ww_iload_n C dX9_layJoined_25 rfl 1 rfl ?_
    refine ww_aload_n C dX9_layJoined_26 rfl 0 rfl ?_
    refine ww_get C clOK9 in_X9_layJoined_X9 (w := wModel E a0 (rf2 (a0 1) h0_1) v0) (fs := fsModel a0 (rf2 (a0 1) h0_1) v0) (v := .ref (a0 1)) 0 0 7 rfl q_Model (by decide) (by decide +kernel) g_Model_house dX9_layJoined_27 ?_
    refine ww_iconst (v := 1) C dX9_layJoined_30 (by decide) ?_
    obtain ⟨g_3, hf⟩ := gdE hf
    refine ww_iald C (f := Model_now v0) (w := wModel E a0 (rf2 (a0 1) h0_1) v0) 0 1 rfl c_Model_now (inB_vp g_3) dX9_layJoined_31 ?_
    refine ww_icmp_ge (tgt := 95) C dX9_layJoined_32 (by decide) (fun c_4 => ?_) (fun c_4 => ?_)
    · replace hf := ifT c_4 hf
      obtain rfl := Option.some.inj hf
      exact ww_vret C ⟨rfl, rfl⟩ dX9_layJoined_95
    · replace hf := ifF c_4 hf
      refine ww_aload_n C dX9_layJoined_35 rfl 0 rfl ?_
      refine ww_iload_n C dX9_layJoined_36 rfl 1 rfl ?_
      refine ww_iconst (v := 2) C dX9_layJoined_37 (by decide) ?_
      obtain ⟨p38, hp38, hf⟩ := bdE hf
      refine ww_callV C (As := [.int x1, .int 2]) (st := []) (gr := []) (c_X9_ofDoor (E := E) (a0 := a0) (h0_1 := h0_1) hp38) gX9_layJoined_X9_ofDoor rfl yk_X9_ofDoor ⟨by decide, by decide⟩ ⟨by decide, by decide⟩ clOK9 0 0 rfl rfl [0] [] 1 rfl (by decide) rfl rfl (Nat.le_of_ble_eq_true rfl) dX9_layJoined_38 ?_
      rintro _ _ ⟨rfl, rfl⟩
      refine ww_perm (gs' := [wModel E a0 (rf2 (a0 1) h0_1) v0]) [0] 1 rfl (by decide) rfl ?_
      refine ww_iconst (v := 1) C dX9_layJoined_41 (by decide) ?_
      refine ww_icmp_ne (tgt := 89) C dX9_layJoined_42 (by decide) (fun c_5 => ?_) (fun c_5 => ?_)
      · replace hf := ifF c_5 hf
        obtain ⟨x1_89, e_x1_89⟩ : ∃ y : Int32, y = x1 + 1 := ⟨_, rfl⟩
        replace hf := ltE e_x1_89 hf
        refine ww_iinc (v := x1_89) (lv' := [(1, .int x1_89), (0, .ref (a0 0))]) C dX9_layJoined_89 1 rfl (by rw [e_x1_89]; rfl) (by decide) rfl ?_
        refine ww_goto (tgt := 25) C dX9_layJoined_92 (by decide) ?_
        refine ww_sub C (lv' := [(0, .ref (a0 0)), (1, .int x1_89)]) [1, 0] rfl ?_
        exact ih _ _ hf
      · replace hf := ifT c_5 hf
        refine ww_aload_n C dX9_layJoined_45 rfl 0 rfl ?_
        refine ww_get C clOK9 in_X9_layJoined_X9 (w := wModel E a0 (rf2 (a0 1) h0_1) v0) (fs := fsModel a0 (rf2 (a0 1) h0_1) v0) (v := .ref (a0 5)) 0 0 8 rfl q_Model (by decide) (by decide +kernel) g_Model_joined dX9_layJoined_46 ?_
        refine ww_aload_n C dX9_layJoined_49 rfl 0 rfl ?_
        refine ww_iload_n C dX9_layJoined_50 rfl 1 rfl ?_
        refine ww_iconst (v := 0) C dX9_layJoined_51 (by decide) ?_
        obtain ⟨p52, hp52, hf⟩ := bdE hf
        refine ww_callV C (As := [.int x1, .int 0]) (st := [.ref (a0 5)]) (gr := []) (c_X9_ofDoor (E := E) (a0 := a0) (h0_1 := h0_1) hp52) gX9_layJoined_X9_ofDoor rfl yk_X9_ofDoor ⟨by decide, by decide⟩ ⟨by decide, by decide⟩ clOK9 0 0 rfl rfl [0] [] 1 rfl (by decide) rfl rfl (Nat.le_of_ble_eq_true rfl) dX9_layJoined_52 ?_
        rintro _ _ ⟨rfl, rfl⟩
        refine ww_perm (gs' := [wModel E a0 (rf2 (a0 1) h0_1) v0]) [0] 1 rfl (by decide) rfl ?_
        refine ww_dup2 C dX9_layJoined_55 rfl rfl ?_
        obtain ⟨g_6, hf⟩ := gdE hf
        refine ww_iald C (f := Model_joined v0) (w := wModel E a0 (rf2 (a0 1) h0_1) v0) 0 5 rfl c_Model_joined (inB_vp g_6) dX9_layJoined_56 ?_
        refine ww_iconst (v := 1) C dX9_layJoined_57 (by decide) ?_
        refine ww_aload_n C dX9_layJoined_58 rfl 0 rfl ?_
        refine ww_iload_n C dX9_layJoined_59 rfl 1 rfl ?_
        refine ww_iconst (v := 1) C dX9_layJoined_60 (by decide) ?_
        obtain ⟨p61, hp61, hf⟩ := bdE hf
        refine ww_callV C (As := [.int x1, .int 1]) (st := [.int 1, .int ((Model_joined v0) (Int32.toNatClampNeg p52)), .int p52, .ref (a0 5)]) (gr := []) (c_X9_ofDoor (E := E) (a0 := a0) (h0_1 := h0_1) hp61) gX9_layJoined_X9_ofDoor rfl yk_X9_ofDoor ⟨by decide, by decide⟩ ⟨by decide, by decide⟩ clOK9 0 0 rfl rfl [0] [] 1 rfl (by decide) rfl rfl (Nat.le_of_ble_eq_true rfl) dX9_layJoined_61 ?_
        rintro _ _ ⟨rfl, rfl⟩
        refine ww_perm (gs' := [wModel E a0 (rf2 (a0 1) h0_1) v0]) [0] 1 rfl (by decide) rfl ?_
        refine ww_ishl C dX9_layJoined_64 ?_
        refine ww_ior C dX9_layJoined_65 ?_
        obtain ⟨v0_66, e_v0_66⟩ : ∃ y : ModelV, y = Model_set_joined v0 (upd (Model_joined v0) (Int32.toNatClampNeg p52) (((Model_joined v0) (Int32.toNatClampNeg p52)) ||| (1 <<< (p61 &&& 31)))) := ⟨_, rfl⟩
        replace hf := ltE e_v0_66 hf
        refine ww_iast C (f := Model_joined v0) (w := wModel E a0 (rf2 (a0 1) h0_1) v0) (w' := wModel E a0 (rf2 (a0 1) h0_1) v0_66) (gs' := [wModel E a0 (rf2 (a0 1) h0_1) v0_66]) 0 5 rfl c_Model_joined (inB_vp g_6) (by rw [e_v0_66]; exact s_Model_joined) rfl dX9_layJoined_66 ?_
        refine ww_aload_n C dX9_layJoined_67 rfl 0 rfl ?_
        refine ww_get C clOK9 in_X9_layJoined_X9 (w := wModel E a0 (rf2 (a0 1) h0_1) v0_66) (fs := fsModel a0 (rf2 (a0 1) h0_1) v0_66) (v := .ref (a0 5)) 0 0 8 rfl q_Model (by decide) (by decide +kernel) g_Model_joined dX9_layJoined_68 ?_
        refine ww_aload_n C dX9_layJoined_71 rfl 0 rfl ?_
        refine ww_iload_n C dX9_layJoined_72 rfl 1 rfl ?_
        refine ww_iconst (v := 1) C dX9_layJoined_73 (by decide) ?_
        obtain ⟨p74, hp74, hf⟩ := bdE hf
        refine ww_callV C (As := [.int x1, .int 1]) (st := [.ref (a0 5)]) (gr := []) (c_X9_ofDoor (E := E) (a0 := a0) (h0_1 := h0_1) hp74) gX9_layJoined_X9_ofDoor rfl yk_X9_ofDoor ⟨by decide, by decide⟩ ⟨by decide, by decide⟩ clOK9 0 0 rfl rfl [0] [] 1 rfl (by decide) rfl rfl (Nat.le_of_ble_eq_true rfl) dX9_layJoined_74 ?_
        rintro _ _ ⟨rfl, rfl⟩
        refine ww_perm (gs' := [wModel E a0 (rf2 (a0 1) h0_1) v0_66]) [0] 1 rfl (by decide) rfl ?_
        refine ww_dup2 C dX9_layJoined_77 rfl rfl ?_
        obtain ⟨g_7, hf⟩ := gdE hf
        refine ww_iald C (f := Model_joined v0_66) (w := wModel E a0 (rf2 (a0 1) h0_1) v0_66) 0 5 rfl c_Model_joined (inB_vp g_7) dX9_layJoined_78 ?_
        refine ww_iconst (v := 1) C dX9_layJoined_79 (by decide) ?_
        refine ww_aload_n C dX9_layJoined_80 rfl 0 rfl ?_
        refine ww_iload_n C dX9_layJoined_81 rfl 1 rfl ?_
        refine ww_iconst (v := 0) C dX9_layJoined_82 (by decide) ?_
        obtain ⟨p83, hp83, hf⟩ := bdE hf
        refine ww_callV C (As := [.int x1, .int 0]) (st := [.int 1, .int ((Model_joined v0_66) (Int32.toNatClampNeg p74)), .int p74, .ref (a0 5)]) (gr := []) (c_X9_ofDoor (E := E) (a0 := a0) (h0_1 := h0_1) hp83) gX9_layJoined_X9_ofDoor rfl yk_X9_ofDoor ⟨by decide, by decide⟩ ⟨by decide, by decide⟩ clOK9 0 0 rfl rfl [0] [] 1 rfl (by decide) rfl rfl (Nat.le_of_ble_eq_true rfl) dX9_layJoined_83 ?_
        rintro _ _ ⟨rfl, rfl⟩
        refine ww_perm (gs' := [wModel E a0 (rf2 (a0 1) h0_1) v0_66]) [0] 1 rfl (by decide) rfl ?_
        refine ww_ishl C dX9_layJoined_86 ?_
        refine ww_ior C dX9_layJoined_87 ?_
        obtain ⟨v0_88, e_v0_88⟩ : ∃ y : ModelV, y = Model_set_joined v0_66 (upd (Model_joined v0_66) (Int32.toNatClampNeg p74) (((Model_joined v0_66) (Int32.toNatClampNeg p74)) ||| (1 <<< (p83 &&& 31)))) := ⟨_, rfl⟩
        replace hf := ltE e_v0_88 hf
        refine ww_iast C (f := Model_joined v0_66) (w := wModel E a0 (rf2 (a0 1) h0_1) v0_66) (w' := wModel E a0 (rf2 (a0 1) h0_1) v0_88) (gs' := [wModel E a0 (rf2 (a0 1) h0_1) v0_88]) 0 5 rfl c_Model_joined (inB_vp g_7) (by rw [e_v0_88]; exact s_Model_joined) rfl dX9_layJoined_88 ?_
        obtain ⟨x1_89, e_x1_89⟩ : ∃ y : Int32, y = x1 + 1 := ⟨_, rfl⟩
        replace hf := ltE e_x1_89 hf
        refine ww_iinc (v := x1_89) (lv' := [(1, .int x1_89), (0, .ref (a0 0))]) C dX9_layJoined_89 1 rfl (by rw [e_x1_89]; rfl) (by decide) rfl ?_
        refine ww_goto (tgt := 25) C dX9_layJoined_92 (by decide) ?_
        refine ww_sub C (lv' := [(0, .ref (a0 0)), (1, .int x1_89)]) [1, 0] rfl ?_
        exact ih _ _ hf

set_option maxHeartbeats 4000000 in
set_option maxRecDepth 100000 in
theorem w_X9_layJoined_2 {E : Ex} {K : Kx} (C : Cx E K cX9_layJoined 2 none RX9 wsX9_layJoined rmX9_layJoined) {a0 : Nat → Nat} {h0_1 : Nat}   {r : ModelV} : ∀ (n : Nat) (x1 : Int32) (v0 : ModelV), Mod_layJoined_2 n x1 v0 = some r → WW E K 0 0 (QQ E K (fun rv g => rv = none ∧ g = [wModel E a0 (rf2 (a0 1) h0_1) r]) 0 0) 2 [(0, .ref (a0 0)), (1, .int x1)] [] [wModel E a0 (rf2 (a0 1) h0_1) v0] := by
  intro n
  induction n with
  | zero =>
    intro x1 v0 hf
    simp [Mod_layJoined_2] at hf
  | succ n ih =>
    intro x1 v0 hf
    rw [Mod_layJoined_2] at hf
    refine ww_iload_n C dX9_layJoined_2 rfl 1 rfl ?_
    refine ww_aload_n C dX9_layJoined_3 rfl 0 rfl ?_
    obtain ⟨p4, hp4, hf⟩ := bdE hf
    refine ww_callV C (As := []) (st := [.int x1]) (gr := []) (c_X9_rooms (E := E) (a0 := a0) (h0_1 := h0_1) hp4) gX9_layJoined_X9_rooms rfl yk_X9_rooms ⟨by decide, by decide⟩ ⟨by decide, by decide⟩ clOK9 0 0 rfl rfl [0] [] 1 rfl (by decide) rfl rfl (Nat.le_of_ble_eq_true rfl) dX9_layJoined_4 ?_
    rintro _ _ ⟨rfl, rfl⟩
    refine ww_perm (gs' := [wModel E a0 (rf2 (a0 1) h0_1) v0]) [0] 1 rfl (by decide) rfl ?_
    refine ww_icmp_ge (tgt := 23) C dX9_layJoined_7 (by decide) (fun c_1 => ?_) (fun c_1 => ?_)
    · replace hf := ifT c_1 hf
      refine ww_iconst (v := 0) C dX9_layJoined_23 (by decide) ?_
      refine ww_istore_n (lv' := [(1, .int 0), (0, .ref (a0 0))]) C dX9_layJoined_24 rfl (by decide) rfl ?_
      refine ww_sub C (lv' := [(0, .ref (a0 0)), (1, .int 0)]) [1, 0] rfl ?_
      exact w_X9_layJoined_25 C FU _ _ hf
    · replace hf := ifF c_1 hf
      refine ww_aload_n C dX9_layJoined_10 rfl 0 rfl ?_
      refine ww_get C clOK9 in_X9_layJoined_X9 (w := wModel E a0 (rf2 (a0 1) h0_1) v0) (fs := fsModel a0 (rf2 (a0 1) h0_1) v0) (v := .ref (a0 5)) 0 0 8 rfl q_Model (by decide) (by decide +kernel) g_Model_joined dX9_layJoined_11 ?_
      refine ww_iload_n C dX9_layJoined_14 rfl 1 rfl ?_
      refine ww_iconst (v := 0) C dX9_layJoined_15 (by decide) ?_
      obtain ⟨g_2, hf⟩ := gdE hf
      obtain ⟨v0_16, e_v0_16⟩ : ∃ y : ModelV, y = Model_set_joined v0 (upd (Model_joined v0) (Int32.toNatClampNeg x1) 0) := ⟨_, rfl⟩
      replace hf := ltE e_v0_16 hf
      refine ww_iast C (f := Model_joined v0) (w := wModel E a0 (rf2 (a0 1) h0_1) v0) (w' := wModel E a0 (rf2 (a0 1) h0_1) v0_16) (gs' := [wModel E a0 (rf2 (a0 1) h0_1) v0_16]) 0 5 rfl c_Model_joined (inB_vp g_2) (by rw [e_v0_16]; exact s_Model_joined) rfl dX9_layJoined_16 ?_
      obtain ⟨x1_17, e_x1_17⟩ : ∃ y : Int32, y = x1 + 1 := ⟨_, rfl⟩
      replace hf := ltE e_x1_17 hf
      refine ww_iinc (v := x1_17) (lv' := [(1, .int x1_17), (0, .ref (a0 0))]) C dX9_layJoined_17 1 rfl (by rw [e_x1_17]; rfl) (by decide) rfl ?_
      refine ww_goto (tgt := 2) C dX9_layJoined_20 (by decide) ?_
      refine ww_sub C (lv' := [(0, .ref (a0 0)), (1, .int x1_17)]) [1, 0] rfl ?_
      exact ih _ _ hf

set_option maxHeartbeats 4000000 in
set_option maxRecDepth 100000 in
theorem c_X9_layJoined {E : Ex} {a0 : Nat → Nat} {h0_1 : Nat} {v0 : ModelV} {r : ModelV} (hf : Mod_layJoined v0 = some r) : Ct E yX9_layJoined wsX9_layJoined rmX9_layJoined [.ref (a0 0)] [wModel E a0 (rf2 (a0 1) h0_1) v0] (fun rv g => rv = none ∧ g = [wModel E a0 (rf2 (a0 1) h0_1) r]) := by
  refine ct_of (own := RX9) (by decide +kernel) rfl rfl (Nat.le_of_ble_eq_true rfl) (fun K C => ?_)
  refine ww_sub C (lv' := [(0, .ref (a0 0))]) [0] rfl ?_
  rw [Mod_layJoined] at hf
  refine ww_iconst (v := 0) C dX9_layJoined_0 (by decide) ?_
  refine ww_istore_n (lv' := [(1, .int 0), (0, .ref (a0 0))]) C dX9_layJoined_1 rfl (by decide) rfl ?_
  refine ww_sub C (lv' := [(0, .ref (a0 0)), (1, .int 0)]) [1, 0] rfl ?_
  exact w_X9_layJoined_2 C FU _ _ hf

theorem yk_X9_layJoined : yX9_layJoined.cls = RX9 ∧ yX9_layJoined.cls ≠ "java/lang/invoke/MethodHandle" ∧ yX9_layJoined.cls ≠ "java/lang/invoke/VarHandle" ∧ (parseMethodDescriptor yX9_layJoined.desc).map (fun d => d.parameters.length) = some 0 := by decide +kernel
abbrev rmX9_goesThrough : Room := { frames := 2, cells := 0, slots := 0, locals := 43 }
set_option maxHeartbeats 4000000 in
set_option maxRecDepth 100000 in
theorem w_X9_goesThrough_56 {E : Ex} {K : Kx} (C : Cx E K cX9_goesThrough 8 (some .boolean) RX9 wsX9_goesThrough rmX9_goesThrough) {a0 : Nat → Nat} {h0_1 : Nat} {x1 : Int32} {x2 : Int32} {x3 : Int32} {v0 : ModelV}  {x5 : Int32} {x6 : Int32} {x7 : Int32} {s0 : Int32} {k6 : Int32 → Int32 → Option Bool} {r : Bool} (hk6 : ∀ (x4 : Int32) (x5 : Int32), k6 x4 x5 = some r → WW E K 0 0 (QQ E K (fun rv g => rv = some (.int (b2i r)) ∧ g = [wModel E a0 (rf2 (a0 1) h0_1) v0]) 0 0) 6 [(0, .ref (a0 0)), (1, .int x1), (2, .int x2), (3, .int x3), (4, .int x4), (5, .int x5)] [] [wModel E a0 (rf2 (a0 1) h0_1) v0]) (hf : Mod_goesThrough_56 x1 x2 x3 v0 k6 x5 x6 x7 s0 = some r) : WW E K 0 0 (QQ E K (fun rv g => rv = some (.int (b2i r)) ∧ g = [wModel E a0 (rf2 (a0 1) h0_1) v0]) 0 0) 56 [(0, .ref (a0 0)), (1, .int x1), (2, .int x2), (3, .int x3), (5, .int x5), (6, .int x6), (7, .int x7)] [.int s0] [wModel E a0 (rf2 (a0 1) h0_1) v0] := by
  rw [Mod_goesThrough_56] at hf
  refine ww_iload C dX9_goesThrough_56 5 rfl ?_
  refine ww_iload_n C dX9_goesThrough_58 rfl 3 rfl ?_
  refine ww_icmp_ne (tgt := 72) C dX9_goesThrough_59 (by decide) (fun c_7 => ?_) (fun c_7 => ?_)
  · replace hf := ifF c_7 hf
    refine ww_iconst (v := 0) C dX9_goesThrough_72 (by decide) ?_
    refine ww_ior C dX9_goesThrough_73 ?_
    refine ww_topi (fun x4_74 e_x4_74 => ?_)
    replace hf := ltE e_x4_74 hf
    refine ww_istore (lv' := [(4, .int x4_74), (0, .ref (a0 0)), (1, .int x1), (2, .int x2), (3, .int x3), (5, .int x5), (6, .int x6), (7, .int x7)]) C dX9_goesThrough_74 (by decide) rfl ?_
    obtain ⟨x5_76, e_x5_76⟩ : ∃ y : Int32, y = x5 + 1 := ⟨_, rfl⟩
    replace hf := ltE e_x5_76 hf
    refine ww_iinc (v := x5_76) (lv' := [(5, .int x5_76), (4, .int x4_74), (0, .ref (a0 0)), (1, .int x1), (2, .int x2), (3, .int x3), (6, .int x6), (7, .int x7)]) C dX9_goesThrough_76 5 rfl (by rw [e_x5_76]; rfl) (by decide) rfl ?_
    refine ww_goto (tgt := 6) C dX9_goesThrough_79 (by decide) ?_
    refine ww_sub C (lv' := [(0, .ref (a0 0)), (1, .int x1), (2, .int x2), (3, .int x3), (4, .int x4_74), (5, .int x5_76)]) [2, 3, 4, 5, 1, 0] rfl ?_
    exact hk6 _ _ hf
  · replace hf := ifT c_7 hf
    refine ww_iload C dX9_goesThrough_62 6 rfl ?_
    refine ww_iload_n C dX9_goesThrough_64 rfl 2 rfl ?_
    refine ww_icmp_ne (tgt := 72) C dX9_goesThrough_65 (by decide) (fun c_9 => ?_) (fun c_9 => ?_)
    · replace hf := ifF c_9 hf
      refine ww_iconst (v := 0) C dX9_goesThrough_72 (by decide) ?_
      refine ww_ior C dX9_goesThrough_73 ?_
      refine ww_topi (fun x4_74 e_x4_74 => ?_)
      replace hf := ltE e_x4_74 hf
      refine ww_istore (lv' := [(4, .int x4_74), (0, .ref (a0 0)), (1, .int x1), (2, .int x2), (3, .int x3), (5, .int x5), (6, .int x6), (7, .int x7)]) C dX9_goesThrough_74 (by decide) rfl ?_
      obtain ⟨x5_76, e_x5_76⟩ : ∃ y : Int32, y = x5 + 1 := ⟨_, rfl⟩
      replace hf := ltE e_x5_76 hf
      refine ww_iinc (v := x5_76) (lv' := [(5, .int x5_76), (4, .int x4_74), (0, .ref (a0 0)), (1, .int x1), (2, .int x2), (3, .int x3), (6, .int x6), (7, .int x7)]) C dX9_goesThrough_76 5 rfl (by rw [e_x5_76]; rfl) (by decide) rfl ?_
      refine ww_goto (tgt := 6) C dX9_goesThrough_79 (by decide) ?_
      refine ww_sub C (lv' := [(0, .ref (a0 0)), (1, .int x1), (2, .int x2), (3, .int x3), (4, .int x4_74), (5, .int x5_76)]) [2, 3, 4, 5, 1, 0] rfl ?_
      exact hk6 _ _ hf
    · replace hf := ifT c_9 hf
      refine ww_iconst (v := 1) C dX9_goesThrough_68 (by decide) ?_
      refine ww_goto (tgt := 73) C dX9_goesThrough_69 (by decide) ?_
      refine ww_ior C dX9_goesThrough_73 ?_
      refine ww_topi (fun x4_74 e_x4_74 => ?_)
      replace hf := ltE e_x4_74 hf
      refine ww_istore (lv' := [(4, .int x4_74), (0, .ref (a0 0)), (1, .int x1), (2, .int x2), (3, .int x3), (5, .int x5), (6, .int x6), (7, .int x7)]) C dX9_goesThrough_74 (by decide) rfl ?_
      obtain ⟨x5_76, e_x5_76⟩ : ∃ y : Int32, y = x5 + 1 := ⟨_, rfl⟩
      replace hf := ltE e_x5_76 hf
      refine ww_iinc (v := x5_76) (lv' := [(5, .int x5_76), (4, .int x4_74), (0, .ref (a0 0)), (1, .int x1), (2, .int x2), (3, .int x3), (6, .int x6), (7, .int x7)]) C dX9_goesThrough_76 5 rfl (by rw [e_x5_76]; rfl) (by decide) rfl ?_
      refine ww_goto (tgt := 6) C dX9_goesThrough_79 (by decide) ?_
      refine ww_sub C (lv' := [(0, .ref (a0 0)), (1, .int x1), (2, .int x2), (3, .int x3), (4, .int x4_74), (5, .int x5_76)]) [2, 3, 4, 5, 1, 0] rfl ?_
      exact hk6 _ _ hf

set_option maxHeartbeats 4000000 in
set_option maxRecDepth 100000 in
theorem w_X9_goesThrough_6 {E : Ex} {K : Kx} (C : Cx E K cX9_goesThrough 8 (some .boolean) RX9 wsX9_goesThrough rmX9_goesThrough) {a0 : Nat → Nat} {h0_1 : Nat} {x1 : Int32} {x2 : Int32} {x3 : Int32} {v0 : ModelV}  {r : Bool} : ∀ (n : Nat) (x4 : Int32) (x5 : Int32), Mod_goesThrough_6 x1 x2 x3 v0 n x4 x5 = some r → WW E K 0 0 (QQ E K (fun rv g => rv = some (.int (b2i r)) ∧ g = [wModel E a0 (rf2 (a0 1) h0_1) v0]) 0 0) 6 [(0, .ref (a0 0)), (1, .int x1), (2, .int x2), (3, .int x3), (4, .int x4), (5, .int x5)] [] [wModel E a0 (rf2 (a0 1) h0_1) v0] := by
  intro n
  induction n with
  | zero =>
    intro x4 x5 hf
    simp [Mod_goesThrough_6] at hf
  | succ n ih =>
    intro x4 x5 hf
    rw [Mod_goesThrough_6] at hf
    refine ww_iload C dX9_goesThrough_6 5 rfl ?_
    refine ww_aload_n C dX9_goesThrough_8 rfl 0 rfl ?_
    refine ww_iload_n C dX9_goesThrough_9 rfl 1 rfl ?_
    obtain ⟨p10, hp10, hf⟩ := bdE hf
    refine ww_callV C (As := [.int x1]) (st := [.int x5]) (gr := []) (c_X9_period (E := E) (a0 := a0) (h0_1 := h0_1) hp10) gX9_goesThrough_X9_period rfl yk_X9_period ⟨by decide, by decide⟩ ⟨by decide, by decide⟩ clOK9 0 0 rfl rfl [0] [] 1 rfl (by decide) rfl rfl (Nat.le_of_ble_eq_true rfl) dX9_goesThrough_10 ?_
    rintro _ _ ⟨rfl, rfl⟩
    refine ww_perm (gs' := [wModel E a0 (rf2 (a0 1) h0_1) v0]) [0] 1 rfl (by decide) rfl ?_
    refine ww_icmp_ge (tgt := 82) C dX9_goesThrough_13 (by decide) (fun c_1 => ?_) (fun c_1 => ?_)
    · replace hf := ifT c_1 hf
      refine ww_iload C dX9_goesThrough_82 4 rfl ?_
      obtain ⟨z_2, e_z_2, hf⟩ := asBE hf
      rw [e_z_2]
      obtain rfl := Option.some.inj hf
      exact ww_zret C (nar_b z_2) ⟨rfl, rfl⟩ dX9_goesThrough_84
    · replace hf := ifF c_1 hf
      refine ww_aload_n C dX9_goesThrough_16 rfl 0 rfl ?_
      refine ww_iload_n C dX9_goesThrough_17 rfl 1 rfl ?_
      refine ww_iload C dX9_goesThrough_18 5 rfl ?_
      obtain ⟨p20, hp20, hf⟩ := bdE hf
      refine ww_callV C (As := [.int x1, .int x5]) (st := []) (gr := []) (c_X9_step (E := E) (a0 := a0) (h0_1 := h0_1) hp20) gX9_goesThrough_X9_step rfl yk_X9_step ⟨by decide, by decide⟩ ⟨by decide, by decide⟩ clOK9 0 0 rfl rfl [0] [] 1 rfl (by decide) rfl rfl (Nat.le_of_ble_eq_true rfl) dX9_goesThrough_20 ?_
      rintro _ _ ⟨rfl, rfl⟩
      refine ww_perm (gs' := [wModel E a0 (rf2 (a0 1) h0_1) v0]) [0] 1 rfl (by decide) rfl ?_
      refine ww_istore (lv' := [(6, .int p20), (0, .ref (a0 0)), (1, .int x1), (2, .int x2), (3, .int x3), (4, .int x4), (5, .int x5)]) C dX9_goesThrough_23 (by decide) rfl ?_
      refine ww_aload_n C dX9_goesThrough_25 rfl 1 rfl ?_
      refine ww_iload_n C dX9_goesThrough_26 rfl 2 rfl ?_
      refine ww_iload C dX9_goesThrough_27 6 rfl ?_
      refine ww_iconst (v := 1) C dX9_goesThrough_29 (by decide) ?_
      refine ww_iadd C dX9_goesThrough_30 ?_
      refine ww_aload_n C dX9_goesThrough_31 rfl 1 rfl ?_
      refine ww_iload_n C dX9_goesThrough_32 rfl 2 rfl ?_
      obtain ⟨p33, hp33, hf⟩ := bdE hf
      refine ww_callV C (As := [.int x1]) (st := [.int (x5 + 1), .int x1, .ref (a0 0)]) (gr := []) (c_X9_period (E := E) (a0 := a0) (h0_1 := h0_1) hp33) gX9_goesThrough_X9_period rfl yk_X9_period ⟨by decide, by decide⟩ ⟨by decide, by decide⟩ clOK9 0 0 rfl rfl [0] [] 1 rfl (by decide) rfl rfl (Nat.le_of_ble_eq_true rfl) dX9_goesThrough_33 ?_
      rintro _ _ ⟨rfl, rfl⟩
      refine ww_perm (gs' := [wModel E a0 (rf2 (a0 1) h0_1) v0]) [0] 1 rfl (by decide) rfl ?_
      obtain ⟨g_3, hf⟩ := gdE hf
      refine ww_irem C dX9_goesThrough_36 (nz_ne g_3) ?_
      obtain ⟨p37, hp37, hf⟩ := bdE hf
      refine ww_callV C (As := [.int x1, .int ((x5 + 1) - (x5 + 1) / p33 * p33)]) (st := []) (gr := []) (c_X9_step (E := E) (a0 := a0) (h0_1 := h0_1) hp37) gX9_goesThrough_X9_step rfl yk_X9_step ⟨by decide, by decide⟩ ⟨by decide, by decide⟩ clOK9 0 0 rfl rfl [0] [] 1 rfl (by decide) rfl rfl (Nat.le_of_ble_eq_true rfl) dX9_goesThrough_37 ?_
      rintro _ _ ⟨rfl, rfl⟩
      refine ww_perm (gs' := [wModel E a0 (rf2 (a0 1) h0_1) v0]) [0] 1 rfl (by decide) rfl ?_
      refine ww_istore (lv' := [(7, .int p37), (6, .int p20), (0, .ref (a0 0)), (1, .int x1), (2, .int x2), (3, .int x3), (4, .int x4), (5, .int x5)]) C dX9_goesThrough_40 (by decide) rfl ?_
      refine ww_iload C dX9_goesThrough_42 6 rfl ?_
      refine ww_iload C dX9_goesThrough_44 1 rfl ?_
      refine ww_iload_n C dX9_goesThrough_46 rfl 4 rfl ?_
      refine ww_icmp_ne (tgt := 56) C dX9_goesThrough_47 (by decide) (fun c_4 => ?_) (fun c_4 => ?_)
      · replace hf := ifF c_4 hf
        refine ww_sub C (lv' := [(0, .ref (a0 0)), (1, .int x1), (2, .int x2), (3, .int x3), (5, .int x5), (6, .int p20), (7, .int p37)]) [2, 3, 4, 5, 7, 1, 0] rfl ?_
        exact w_X9_goesThrough_56 C (k6 := (fun (x4 : Int32) (x5 : Int32) => Mod_goesThrough_6 x1 x2 x3 v0 n x4 x5)) ih hf
      · replace hf := ifT c_4 hf
        refine ww_iload C dX9_goesThrough_50 0 rfl ?_
        refine ww_iload_n C dX9_goesThrough_52 rfl 5 rfl ?_
        refine ww_icmp_eq (tgt := 68) C dX9_goesThrough_53 (by decide) (fun c_5 => ?_) (fun c_5 => ?_)
        · replace hf := ifT c_5 hf
          refine ww_iconst (v := 1) C dX9_goesThrough_68 (by decide) ?_
          refine ww_goto (tgt := 73) C dX9_goesThrough_69 (by decide) ?_
          refine ww_ior C dX9_goesThrough_73 ?_
          refine ww_topi (fun x4_74 e_x4_74 => ?_)
          replace hf := ltE e_x4_74 hf
          refine ww_istore (lv' := [(4, .int x4_74), (7, .int p37), (6, .int p20), (0, .ref (a0 0)), (1, .int x1), (2, .int x2), (3, .int x3), (5, .int x5)]) C dX9_goesThrough_74 (by decide) rfl ?_
          obtain ⟨x5_76, e_x5_76⟩ : ∃ y : Int32, y = x5 + 1 := ⟨_, rfl⟩
          replace hf := ltE e_x5_76 hf
          refine ww_iinc (v := x5_76) (lv' := [(5, .int x5_76), (4, .int x4_74), (7, .int p37), (6, .int p20), (0, .ref (a0 0)), (1, .int x1), (2, .int x2), (3, .int x3)]) C dX9_goesThrough_76 7 rfl (by rw [e_x5_76]; rfl) (by decide) rfl ?_
          refine ww_goto (tgt := 6) C dX9_goesThrough_79 (by decide) ?_
          refine ww_sub C (lv' := [(0, .ref (a0 0)), (1, .int x1), (2, .int x2), (3, .int x3), (4, .int x4_74), (5, .int x5_76)]) [4, 5, 6, 7, 1, 0] rfl ?_
          exact ih _ _ hf
        · replace hf := ifF c_5 hf
          refine ww_sub C (lv' := [(0, .ref (a0 0)), (1, .int x1), (2, .int x2), (3, .int x3), (5, .int x5), (6, .int p20), (7, .int p37)]) [2, 3, 4, 5, 7, 1, 0] rfl ?_
          exact w_X9_goesThrough_56 C (k6 := (fun (x4 : Int32) (x5 : Int32) => Mod_goesThrough_6 x1 x2 x3 v0 n x4 x5)) ih hf

set_option maxHeartbeats 4000000 in
set_option maxRecDepth 100000 in
theorem c_X9_goesThrough {E : Ex} {a0 : Nat → Nat} {h0_1 : Nat} {x1 : Int32} {x2 : Int32} {x3 : Int32} {v0 : ModelV} {r : Bool} (hf : Mod_goesThrough x1 x2 x3 v0 = some r) : Ct E yX9_goesThrough wsX9_goesThrough rmX9_goesThrough [.ref (a0 0), .int x1, .int x2, .int x3] [wModel E a0 (rf2 (a0 1) h0_1) v0] (fun rv g => rv = some (.int (b2i r)) ∧ g = [wModel E a0 (rf2 (a0 1) h0_1) v0]) := by
  refine ct_of (own := RX9) (by decide +kernel) rfl rfl (Nat.le_of_ble_eq_true rfl) (fun K C => ?_)
  refine ww_sub C (lv' := [(0, .ref (a0 0)), (1, .int x1), (2, .int x2), (3, .int x3)]) [0, 1, 2, 3] rfl ?_
  rw [Mod_goesThrough] at hf
  refine ww_iconst (v := 0) C dX9_goesThrough_0 (by decide) ?_
  refine ww_istore (lv' := [(4, .int 0), (0, .ref (a0 0)), (1, .int x1), (2, .int x2), (3, .int x3)]) C dX9_goesThrough_1 (by decide) rfl ?_
  refine ww_iconst (v := 0) C dX9_goesThrough_3 (by decide) ?_
  refine ww_istore (lv' := [(5, .int 0), (4, .int 0), (0, .ref (a0 0)), (1, .int x1), (2, .int x2), (3, .int x3)]) C dX9_goesThrough_4 (by decide) rfl ?_
  refine ww_sub C (lv' := [(0, .ref (a0 0)), (1, .int x1), (2, .int x2), (3, .int x3), (4, .int 0), (5, .int 0)]) [2, 3, 4, 5, 1, 0] rfl ?_
  exact w_X9_goesThrough_6 C FU _ _ hf

theorem yk_X9_goesThrough : yX9_goesThrough.cls = RX9 ∧ yX9_goesThrough.cls ≠ "java/lang/invoke/MethodHandle" ∧ yX9_goesThrough.cls ≠ "java/lang/invoke/VarHandle" ∧ (parseMethodDescriptor yX9_goesThrough.desc).map (fun d => d.parameters.length) = some 3 := by decide +kernel
abbrev rmX9_walksThrough : Room := { frames := 3, cells := 0, slots := 0, locals := 70 }
set_option maxHeartbeats 4000000 in
set_option maxRecDepth 100000 in
theorem w_X9_walksThrough_4 {E : Ex} {K : Kx} (C : Cx E K cX9_walksThrough 4 (some .int) RX9 wsX9_walksThrough rmX9_walksThrough) {a0 : Nat → Nat} {h0_1 : Nat} {x1 : Int32} {v0 : ModelV}  {r : Int32} : ∀ (n : Nat) (x2 : Int32) (x3 : Int32), Mod_walksThrough_4 x1 v0 n x2 x3 = some r → WW E K 0 0 (QQ E K (fun rv g => rv = some (.int r) ∧ g = [wModel E a0 (rf2 (a0 1) h0_1) v0]) 0 0) 4 [(0, .ref (a0 0)), (1, .int x1), (2, .int x2), (3, .int x3)] [] [wModel E a0 (rf2 (a0 1) h0_1) v0] := by
  intro n
  induction n with
  | zero =>
    intro x2 x3 hf
    simp [Mod_walksThrough_4] at hf
  | succ n ih =>
    intro x2 x3 hf
    rw [Mod_walksThrough_4] at hf
    refine ww_iload_n C dX9_walksThrough_4 rfl 3 rfl ?_
    refine ww_aload_n C dX9_walksThrough_5 rfl 0 rfl ?_
    obtain ⟨p6, hp6, hf⟩ := bdE hf
    refine ww_callV C (As := []) (st := [.int x3]) (gr := []) (c_X9_guards (E := E) (a0 := a0) (h0_1 := h0_1) hp6) gX9_walksThrough_X9_guards rfl yk_X9_guards ⟨by decide, by decide⟩ ⟨by decide, by decide⟩ clOK9 0 0 rfl rfl [0] [] 1 rfl (by decide) rfl rfl (Nat.le_of_ble_eq_true rfl) dX9_walksThrough_6 ?_
    rintro _ _ ⟨rfl, rfl⟩
    refine ww_perm (gs' := [wModel E a0 (rf2 (a0 1) h0_1) v0]) [0] 1 rfl (by decide) rfl ?_
    refine ww_icmp_ge (tgt := 46) C dX9_walksThrough_9 (by decide) (fun c_1 => ?_) (fun c_1 => ?_)
    · replace hf := ifT c_1 hf
      refine ww_iload_n C dX9_walksThrough_46 rfl 2 rfl ?_
      obtain rfl := Option.some.inj hf
      exact ww_iret C ⟨rfl, rfl⟩ dX9_walksThrough_47
    · replace hf := ifF c_1 hf
      refine ww_iload_n C dX9_walksThrough_12 rfl 2 rfl ?_
      refine ww_aload_n C dX9_walksThrough_13 rfl 0 rfl ?_
      refine ww_iload_n C dX9_walksThrough_14 rfl 3 rfl ?_
      refine ww_aload_n C dX9_walksThrough_15 rfl 0 rfl ?_
      refine ww_iload_n C dX9_walksThrough_16 rfl 1 rfl ?_
      refine ww_iconst (v := 0) C dX9_walksThrough_17 (by decide) ?_
      obtain ⟨p18, hp18, hf⟩ := bdE hf
      refine ww_callV C (As := [.int x1, .int 0]) (st := [.int x3, .ref (a0 0), .int x2]) (gr := []) (c_X9_ofDoor (E := E) (a0 := a0) (h0_1 := h0_1) hp18) gX9_walksThrough_X9_ofDoor rfl yk_X9_ofDoor ⟨by decide, by decide⟩ ⟨by decide, by decide⟩ clOK9 0 0 rfl rfl [0] [] 1 rfl (by decide) rfl rfl (Nat.le_of_ble_eq_true rfl) dX9_walksThrough_18 ?_
      rintro _ _ ⟨rfl, rfl⟩
      refine ww_perm (gs' := [wModel E a0 (rf2 (a0 1) h0_1) v0]) [0] 1 rfl (by decide) rfl ?_
      refine ww_aload_n C dX9_walksThrough_21 rfl 0 rfl ?_
      refine ww_iload_n C dX9_walksThrough_22 rfl 1 rfl ?_
      refine ww_iconst (v := 1) C dX9_walksThrough_23 (by decide) ?_
      obtain ⟨p24, hp24, hf⟩ := bdE hf
      refine ww_callV C (As := [.int x1, .int 1]) (st := [.int p18, .int x3, .ref (a0 0), .int x2]) (gr := []) (c_X9_ofDoor (E := E) (a0 := a0) (h0_1 := h0_1) hp24) gX9_walksThrough_X9_ofDoor rfl yk_X9_ofDoor ⟨by decide, by decide⟩ ⟨by decide, by decide⟩ clOK9 0 0 rfl rfl [0] [] 1 rfl (by decide) rfl rfl (Nat.le_of_ble_eq_true rfl) dX9_walksThrough_24 ?_
      rintro _ _ ⟨rfl, rfl⟩
      refine ww_perm (gs' := [wModel E a0 (rf2 (a0 1) h0_1) v0]) [0] 1 rfl (by decide) rfl ?_
      obtain ⟨p27, hp27, hf⟩ := bdE hf
      refine ww_callV C (As := [.int x3, .int p18, .int p24]) (st := [.int x2]) (gr := []) (c_X9_goesThrough (E := E) (a0 := a0) (h0_1 := h0_1) hp27) gX9_walksThrough_X9_goesThrough rfl yk_X9_goesThrough ⟨by decide, by decide⟩ ⟨by decide, by decide⟩ clOK9 0 0 rfl rfl [0] [] 1 rfl (by decide) rfl rfl (Nat.le_of_ble_eq_true rfl) dX9_walksThrough_27 ?_
      rintro _ _ ⟨rfl, rfl⟩
      refine ww_perm (gs' := [wModel E a0 (rf2 (a0 1) h0_1) v0]) [0] 1 rfl (by decide) rfl ?_
      refine ww_if_eqB (tgt := 37) C dX9_walksThrough_30 (by decide) (fun c_2 => ?_) (fun c_2 => ?_)
      · replace hf := bfE c_2 hf
        refine ww_iconst (v := 0) C dX9_walksThrough_37 (by decide) ?_
        refine ww_iadd C dX9_walksThrough_38 ?_
        refine ww_topi (fun x2_39 e_x2_39 => ?_)
        replace hf := ltE e_x2_39 hf
        refine ww_istore_n (lv' := [(2, .int x2_39), (0, .ref (a0 0)), (1, .int x1), (3, .int x3)]) C dX9_walksThrough_39 rfl (by decide) rfl ?_
        obtain ⟨x3_40, e_x3_40⟩ : ∃ y : Int32, y = x3 + 1 := ⟨_, rfl⟩
        replace hf := ltE e_x3_40 hf
        refine ww_iinc (v := x3_40) (lv' := [(3, .int x3_40), (2, .int x2_39), (0, .ref (a0 0)), (1, .int x1)]) C dX9_walksThrough_40 3 rfl (by rw [e_x3_40]; rfl) (by decide) rfl ?_
        refine ww_goto (tgt := 4) C dX9_walksThrough_43 (by decide) ?_
        refine ww_sub C (lv' := [(0, .ref (a0 0)), (1, .int x1), (2, .int x2_39), (3, .int x3_40)]) [2, 3, 1, 0] rfl ?_
        exact ih _ _ hf
      · replace hf := btE c_2 hf
        refine ww_iconst (v := 1) C dX9_walksThrough_33 (by decide) ?_
        refine ww_goto (tgt := 38) C dX9_walksThrough_34 (by decide) ?_
        refine ww_iadd C dX9_walksThrough_38 ?_
        refine ww_topi (fun x2_39 e_x2_39 => ?_)
        replace hf := ltE e_x2_39 hf
        refine ww_istore_n (lv' := [(2, .int x2_39), (0, .ref (a0 0)), (1, .int x1), (3, .int x3)]) C dX9_walksThrough_39 rfl (by decide) rfl ?_
        obtain ⟨x3_40, e_x3_40⟩ : ∃ y : Int32, y = x3 + 1 := ⟨_, rfl⟩
        replace hf := ltE e_x3_40 hf
        refine ww_iinc (v := x3_40) (lv' := [(3, .int x3_40), (2, .int x2_39), (0, .ref (a0 0)), (1, .int x1)]) C dX9_walksThrough_40 3 rfl (by rw [e_x3_40]; rfl) (by decide) rfl ?_
        refine ww_goto (tgt := 4) C dX9_walksThrough_43 (by decide) ?_
        refine ww_sub C (lv' := [(0, .ref (a0 0)), (1, .int x1), (2, .int x2_39), (3, .int x3_40)]) [2, 3, 1, 0] rfl ?_
        exact ih _ _ hf

set_option maxHeartbeats 4000000 in
set_option maxRecDepth 100000 in
theorem c_X9_walksThrough {E : Ex} {a0 : Nat → Nat} {h0_1 : Nat} {x1 : Int32} {v0 : ModelV} {r : Int32} (hf : Mod_walksThrough x1 v0 = some r) : Ct E yX9_walksThrough wsX9_walksThrough rmX9_walksThrough [.ref (a0 0), .int x1] [wModel E a0 (rf2 (a0 1) h0_1) v0] (fun rv g => rv = some (.int r) ∧ g = [wModel E a0 (rf2 (a0 1) h0_1) v0]) := by
  refine ct_of (own := RX9) (by decide +kernel) rfl rfl (Nat.le_of_ble_eq_true rfl) (fun K C => ?_)
  refine ww_sub C (lv' := [(0, .ref (a0 0)), (1, .int x1)]) [0, 1] rfl ?_
  rw [Mod_walksThrough] at hf
  refine ww_iconst (v := 0) C dX9_walksThrough_0 (by decide) ?_
  refine ww_istore_n (lv' := [(2, .int 0), (0, .ref (a0 0)), (1, .int x1)]) C dX9_walksThrough_1 rfl (by decide) rfl ?_
  refine ww_iconst (v := 0) C dX9_walksThrough_2 (by decide) ?_
  refine ww_istore_n (lv' := [(3, .int 0), (2, .int 0), (0, .ref (a0 0)), (1, .int x1)]) C dX9_walksThrough_3 rfl (by decide) rfl ?_
  refine ww_sub C (lv' := [(0, .ref (a0 0)), (1, .int x1), (2, .int 0), (3, .int 0)]) [2, 3, 1, 0] rfl ?_
  exact w_X9_walksThrough_4 C FU _ _ hf

theorem yk_X9_walksThrough : yX9_walksThrough.cls = RX9 ∧ yX9_walksThrough.cls ≠ "java/lang/invoke/MethodHandle" ∧ yX9_walksThrough.cls ≠ "java/lang/invoke/VarHandle" ∧ (parseMethodDescriptor yX9_walksThrough.desc).map (fun d => d.parameters.length) = some 1 := by decide +kernel
abbrev rmX9_takePhases : Room := { frames := 2, cells := 0, slots := 0, locals := 42 }
set_option maxRecDepth 20000 in
theorem in_X9_takePhases_X9 : ∀ w ∈ u_ws RX9 TX9 35, w ∈ wsX9_takePhases := by decide +kernel
set_option maxHeartbeats 4000000 in
set_option maxRecDepth 100000 in
theorem w_X9_takePhases_2 {E : Ex} {K : Kx} (C : Cx E K cX9_takePhases 2 none RX9 wsX9_takePhases rmX9_takePhases) {a0 : Nat → Nat} {h0_1 : Nat}   {r : ModelV} : ∀ (n : Nat) (x1 : Int32) (v0 : ModelV), Mod_takePhases_2 n x1 v0 = some r → WW E K 0 0 (QQ E K (fun rv g => rv = none ∧ g = [wModel E a0 (rf2 (a0 1) h0_1) r]) 0 0) 2 [(0, .ref (a0 0)), (1, .int x1)] [] [wModel E a0 (rf2 (a0 1) h0_1) v0] := by
  intro n
  induction n with
  | zero =>
    intro x1 v0 hf
    simp [Mod_takePhases_2] at hf
  | succ n ih =>
    intro x1 v0 hf
    rw [Mod_takePhases_2] at hf
    refine ww_iload_n C dX9_takePhases_2 rfl 1 rfl ?_
    refine ww_aload_n C dX9_takePhases_3 rfl 0 rfl ?_
    obtain ⟨p4, hp4, hf⟩ := bdE hf
    refine ww_callV C (As := []) (st := [.int x1]) (gr := []) (c_X9_guards (E := E) (a0 := a0) (h0_1 := h0_1) hp4) gX9_takePhases_X9_guards rfl yk_X9_guards ⟨by decide, by decide⟩ ⟨by decide, by decide⟩ clOK9 0 0 rfl rfl [0] [] 1 rfl (by decide) rfl rfl (Nat.le_of_ble_eq_true rfl) dX9_takePhases_4 ?_
    rintro _ _ ⟨rfl, rfl⟩
    refine ww_perm (gs' := [wModel E a0 (rf2 (a0 1) h0_1) v0]) [0] 1 rfl (by decide) rfl ?_
    refine ww_icmp_ge (tgt := 27) C dX9_takePhases_7 (by decide) (fun c_1 => ?_) (fun c_1 => ?_)
    · replace hf := ifT c_1 hf
      obtain rfl := Option.some.inj hf
      exact ww_vret C ⟨rfl, rfl⟩ dX9_takePhases_27
    · replace hf := ifF c_1 hf
      refine ww_aload_n C dX9_takePhases_10 rfl 0 rfl ?_
      refine ww_get C clOK9 in_X9_takePhases_X9 (w := wModel E a0 (rf2 (a0 1) h0_1) v0) (fs := fsModel a0 (rf2 (a0 1) h0_1) v0) (v := .ref (a0 6)) 0 0 9 rfl q_Model (by decide) (by decide +kernel) g_Model_phases dX9_takePhases_11 ?_
      refine ww_iload_n C dX9_takePhases_14 rfl 1 rfl ?_
      refine ww_aload_n C dX9_takePhases_15 rfl 0 rfl ?_
      refine ww_iload_n C dX9_takePhases_16 rfl 1 rfl ?_
      obtain ⟨p17, hp17, hf⟩ := bdE hf
      refine ww_callV C (As := [.int x1]) (st := [.int x1, .ref (a0 6)]) (gr := []) (c_X9_phaseOf (E := E) (a0 := a0) (h0_1 := h0_1) hp17) gX9_takePhases_X9_phaseOf rfl yk_X9_phaseOf ⟨by decide, by decide⟩ ⟨by decide, by decide⟩ clOK9 0 0 rfl rfl [0] [] 1 rfl (by decide) rfl rfl (Nat.le_of_ble_eq_true rfl) dX9_takePhases_17 ?_
      rintro _ _ ⟨rfl, rfl⟩
      refine ww_perm (gs' := [wModel E a0 (rf2 (a0 1) h0_1) v0]) [0] 1 rfl (by decide) rfl ?_
      obtain ⟨g_2, hf⟩ := gdE hf
      obtain ⟨v0_20, e_v0_20⟩ : ∃ y : ModelV, y = Model_set_phases v0 (upd (Model_phases v0) (Int32.toNatClampNeg x1) p17) := ⟨_, rfl⟩
      replace hf := ltE e_v0_20 hf
      refine ww_iast C (f := Model_phases v0) (w := wModel E a0 (rf2 (a0 1) h0_1) v0) (w' := wModel E a0 (rf2 (a0 1) h0_1) v0_20) (gs' := [wModel E a0 (rf2 (a0 1) h0_1) v0_20]) 0 6 rfl c_Model_phases (inB_vp g_2) (by rw [e_v0_20]; exact s_Model_phases) rfl dX9_takePhases_20 ?_
      obtain ⟨x1_21, e_x1_21⟩ : ∃ y : Int32, y = x1 + 1 := ⟨_, rfl⟩
      replace hf := ltE e_x1_21 hf
      refine ww_iinc (v := x1_21) (lv' := [(1, .int x1_21), (0, .ref (a0 0))]) C dX9_takePhases_21 1 rfl (by rw [e_x1_21]; rfl) (by decide) rfl ?_
      refine ww_goto (tgt := 2) C dX9_takePhases_24 (by decide) ?_
      refine ww_sub C (lv' := [(0, .ref (a0 0)), (1, .int x1_21)]) [1, 0] rfl ?_
      exact ih _ _ hf

set_option maxHeartbeats 4000000 in
set_option maxRecDepth 100000 in
theorem c_X9_takePhases {E : Ex} {a0 : Nat → Nat} {h0_1 : Nat} {v0 : ModelV} {r : ModelV} (hf : Mod_takePhases v0 = some r) : Ct E yX9_takePhases wsX9_takePhases rmX9_takePhases [.ref (a0 0)] [wModel E a0 (rf2 (a0 1) h0_1) v0] (fun rv g => rv = none ∧ g = [wModel E a0 (rf2 (a0 1) h0_1) r]) := by
  refine ct_of (own := RX9) (by decide +kernel) rfl rfl (Nat.le_of_ble_eq_true rfl) (fun K C => ?_)
  refine ww_sub C (lv' := [(0, .ref (a0 0))]) [0] rfl ?_
  rw [Mod_takePhases] at hf
  refine ww_iconst (v := 0) C dX9_takePhases_0 (by decide) ?_
  refine ww_istore_n (lv' := [(1, .int 0), (0, .ref (a0 0))]) C dX9_takePhases_1 rfl (by decide) rfl ?_
  refine ww_sub C (lv' := [(0, .ref (a0 0)), (1, .int 0)]) [1, 0] rfl ?_
  exact w_X9_takePhases_2 C FU _ _ hf

theorem yk_X9_takePhases : yX9_takePhases.cls = RX9 ∧ yX9_takePhases.cls ≠ "java/lang/invoke/MethodHandle" ∧ yX9_takePhases.cls ≠ "java/lang/invoke/VarHandle" ∧ (parseMethodDescriptor yX9_takePhases.desc).map (fun d => d.parameters.length) = some 0 := by decide +kernel
abbrev rmX9_place : Room := { frames := 2, cells := 0, slots := 0, locals := 43 }
set_option maxRecDepth 20000 in
theorem in_X9_place_X9 : ∀ w ∈ u_ws RX9 TX9 35, w ∈ wsX9_place := by decide +kernel
set_option maxHeartbeats 4000000 in
set_option maxRecDepth 100000 in
theorem c_X9_place {E : Ex} {a0 : Nat → Nat} {h0_1 : Nat} {x1 : Int32} {x2 : Int32} {v0 : ModelV} {r : Int32} (hf : Mod_place x1 x2 v0 = some r) : Ct E yX9_place wsX9_place rmX9_place [.ref (a0 0), .int x1, .int x2] [wModel E a0 (rf2 (a0 1) h0_1) v0] (fun rv g => rv = some (.int r) ∧ g = [wModel E a0 (rf2 (a0 1) h0_1) v0]) := by
  refine ct_of (own := RX9) (by decide +kernel) rfl rfl (Nat.le_of_ble_eq_true rfl) (fun K C => ?_)
  refine ww_sub C (lv' := [(0, .ref (a0 0)), (1, .int x1), (2, .int x2)]) [0, 1, 2] rfl ?_
  rw [Mod_place] at hf
  refine ww_aload_n C dX9_place_0 rfl 0 rfl ?_
  refine ww_iload_n C dX9_place_1 rfl 1 rfl ?_
  refine ww_iload_n C dX9_place_2 rfl 2 rfl ?_
  refine ww_aload_n C dX9_place_3 rfl 0 rfl ?_
  refine ww_iload_n C dX9_place_4 rfl 1 rfl ?_
  obtain ⟨p5, hp5, hf⟩ := bdE hf
  refine ww_callV C (As := [.int x1]) (st := [.int x2, .int x1, .ref (a0 0)]) (gr := []) (c_X9_period (E := E) (a0 := a0) (h0_1 := h0_1) hp5) gX9_place_X9_period rfl yk_X9_period ⟨by decide, by decide⟩ ⟨by decide, by decide⟩ clOK9 0 0 rfl rfl [0] [] 1 rfl (by decide) rfl rfl (Nat.le_of_ble_eq_true rfl) dX9_place_5 ?_
  rintro _ _ ⟨rfl, rfl⟩
  refine ww_perm (gs' := [wModel E a0 (rf2 (a0 1) h0_1) v0]) [0] 1 rfl (by decide) rfl ?_
  obtain ⟨g_1, hf⟩ := gdE hf
  refine ww_irem C dX9_place_8 (nz_ne g_1) ?_
  refine ww_aload_n C dX9_place_9 rfl 0 rfl ?_
  refine ww_get C clOK9 in_X9_place_X9 (w := wModel E a0 (rf2 (a0 1) h0_1) v0) (fs := fsModel a0 (rf2 (a0 1) h0_1) v0) (v := .ref (a0 6)) 0 0 9 rfl q_Model (by decide) (by decide +kernel) g_Model_phases dX9_place_10 ?_
  refine ww_iload_n C dX9_place_13 rfl 1 rfl ?_
  obtain ⟨g_2, hf⟩ := gdE hf
  refine ww_iald C (f := Model_phases v0) (w := wModel E a0 (rf2 (a0 1) h0_1) v0) 0 6 rfl c_Model_phases (inB_vp g_2) dX9_place_14 ?_
  refine ww_iadd C dX9_place_15 ?_
  refine ww_aload_n C dX9_place_16 rfl 0 rfl ?_
  refine ww_iload_n C dX9_place_17 rfl 1 rfl ?_
  obtain ⟨p18, hp18, hf⟩ := bdE hf
  refine ww_callV C (As := [.int x1]) (st := [.int ((x2 - x2 / p5 * p5) + ((Model_phases v0) (Int32.toNatClampNeg x1))), .int x1, .ref (a0 0)]) (gr := []) (c_X9_period (E := E) (a0 := a0) (h0_1 := h0_1) hp18) gX9_place_X9_period rfl yk_X9_period ⟨by decide, by decide⟩ ⟨by decide, by decide⟩ clOK9 0 0 rfl rfl [0] [] 1 rfl (by decide) rfl rfl (Nat.le_of_ble_eq_true rfl) dX9_place_18 ?_
  rintro _ _ ⟨rfl, rfl⟩
  refine ww_perm (gs' := [wModel E a0 (rf2 (a0 1) h0_1) v0]) [0] 1 rfl (by decide) rfl ?_
  obtain ⟨g_3, hf⟩ := gdE hf
  refine ww_irem C dX9_place_21 (nz_ne g_3) ?_
  obtain ⟨p22, hp22, hf⟩ := bdE hf
  refine ww_callV C (As := [.int x1, .int (((x2 - x2 / p5 * p5) + ((Model_phases v0) (Int32.toNatClampNeg x1))) - ((x2 - x2 / p5 * p5) + ((Model_phases v0) (Int32.toNatClampNeg x1))) / p18 * p18)]) (st := []) (gr := []) (c_X9_step (E := E) (a0 := a0) (h0_1 := h0_1) hp22) gX9_place_X9_step rfl yk_X9_step ⟨by decide, by decide⟩ ⟨by decide, by decide⟩ clOK9 0 0 rfl rfl [0] [] 1 rfl (by decide) rfl rfl (Nat.le_of_ble_eq_true rfl) dX9_place_22 ?_
  rintro _ _ ⟨rfl, rfl⟩
  refine ww_perm (gs' := [wModel E a0 (rf2 (a0 1) h0_1) v0]) [0] 1 rfl (by decide) rfl ?_
  obtain rfl := Option.some.inj hf
  exact ww_iret C ⟨rfl, rfl⟩ dX9_place_25

theorem yk_X9_place : yX9_place.cls = RX9 ∧ yX9_place.cls ≠ "java/lang/invoke/MethodHandle" ∧ yX9_place.cls ≠ "java/lang/invoke/VarHandle" ∧ (parseMethodDescriptor yX9_place.desc).map (fun d => d.parameters.length) = some 2 := by decide +kernel
abbrev rmX9_guardsAt : Room := { frames := 3, cells := 0, slots := 0, locals := 65 }
set_option maxHeartbeats 4000000 in
set_option maxRecDepth 100000 in
theorem w_X9_guardsAt_5 {E : Ex} {K : Kx} (C : Cx E K cX9_guardsAt 5 (some .int) RX9 wsX9_guardsAt rmX9_guardsAt) {a0 : Nat → Nat} {h0_1 : Nat} {x1 : Int32} {x2 : Int32} {v0 : ModelV}  {r : Int32} : ∀ (n : Nat) (x3 : Int32) (x4 : Int32), Mod_guardsAt_5 x1 x2 v0 n x3 x4 = some r → WW E K 0 0 (QQ E K (fun rv g => rv = some (.int r) ∧ g = [wModel E a0 (rf2 (a0 1) h0_1) v0]) 0 0) 5 [(0, .ref (a0 0)), (1, .int x1), (2, .int x2), (3, .int x3), (4, .int x4)] [] [wModel E a0 (rf2 (a0 1) h0_1) v0] := by
  intro n
  induction n with
  | zero =>
    intro x3 x4 hf
    simp [Mod_guardsAt_5] at hf
  | succ n ih =>
    intro x3 x4 hf
    rw [Mod_guardsAt_5] at hf
    refine ww_iload C dX9_guardsAt_5 4 rfl ?_
    refine ww_aload_n C dX9_guardsAt_7 rfl 0 rfl ?_
    obtain ⟨p8, hp8, hf⟩ := bdE hf
    refine ww_callV C (As := []) (st := [.int x4]) (gr := []) (c_X9_guards (E := E) (a0 := a0) (h0_1 := h0_1) hp8) gX9_guardsAt_X9_guards rfl yk_X9_guards ⟨by decide, by decide⟩ ⟨by decide, by decide⟩ clOK9 0 0 rfl rfl [0] [] 1 rfl (by decide) rfl rfl (Nat.le_of_ble_eq_true rfl) dX9_guardsAt_8 ?_
    rintro _ _ ⟨rfl, rfl⟩
    refine ww_perm (gs' := [wModel E a0 (rf2 (a0 1) h0_1) v0]) [0] 1 rfl (by decide) rfl ?_
    refine ww_icmp_ge (tgt := 42) C dX9_guardsAt_11 (by decide) (fun c_1 => ?_) (fun c_1 => ?_)
    · replace hf := ifT c_1 hf
      refine ww_iload_n C dX9_guardsAt_42 rfl 3 rfl ?_
      obtain rfl := Option.some.inj hf
      exact ww_iret C ⟨rfl, rfl⟩ dX9_guardsAt_43
    · replace hf := ifF c_1 hf
      refine ww_iload_n C dX9_guardsAt_14 rfl 3 rfl ?_
      refine ww_aload_n C dX9_guardsAt_15 rfl 0 rfl ?_
      refine ww_iload C dX9_guardsAt_16 4 rfl ?_
      refine ww_iload_n C dX9_guardsAt_18 rfl 2 rfl ?_
      obtain ⟨p19, hp19, hf⟩ := bdE hf
      refine ww_callV C (As := [.int x4, .int x2]) (st := [.int x3]) (gr := []) (c_X9_place (E := E) (a0 := a0) (h0_1 := h0_1) hp19) gX9_guardsAt_X9_place rfl yk_X9_place ⟨by decide, by decide⟩ ⟨by decide, by decide⟩ clOK9 0 0 rfl rfl [0] [] 1 rfl (by decide) rfl rfl (Nat.le_of_ble_eq_true rfl) dX9_guardsAt_19 ?_
      rintro _ _ ⟨rfl, rfl⟩
      refine ww_perm (gs' := [wModel E a0 (rf2 (a0 1) h0_1) v0]) [0] 1 rfl (by decide) rfl ?_
      refine ww_iload_n C dX9_guardsAt_22 rfl 1 rfl ?_
      refine ww_icmp_ne (tgt := 33) C dX9_guardsAt_23 (by decide) (fun c_2 => ?_) (fun c_2 => ?_)
      · replace hf := ifF c_2 hf
        refine ww_iconst (v := 0) C dX9_guardsAt_33 (by decide) ?_
        refine ww_ior C dX9_guardsAt_34 ?_
        refine ww_topi (fun x3_35 e_x3_35 => ?_)
        replace hf := ltE e_x3_35 hf
        refine ww_istore_n (lv' := [(3, .int x3_35), (0, .ref (a0 0)), (1, .int x1), (2, .int x2), (4, .int x4)]) C dX9_guardsAt_35 rfl (by decide) rfl ?_
        obtain ⟨x4_36, e_x4_36⟩ : ∃ y : Int32, y = x4 + 1 := ⟨_, rfl⟩
        replace hf := ltE e_x4_36 hf
        refine ww_iinc (v := x4_36) (lv' := [(4, .int x4_36), (3, .int x3_35), (0, .ref (a0 0)), (1, .int x1), (2, .int x2)]) C dX9_guardsAt_36 4 rfl (by rw [e_x4_36]; rfl) (by decide) rfl ?_
        refine ww_goto (tgt := 5) C dX9_guardsAt_39 (by decide) ?_
        refine ww_sub C (lv' := [(0, .ref (a0 0)), (1, .int x1), (2, .int x2), (3, .int x3_35), (4, .int x4_36)]) [2, 3, 4, 1, 0] rfl ?_
        exact ih _ _ hf
      · replace hf := ifT c_2 hf
        refine ww_iconst (v := 1) C dX9_guardsAt_26 (by decide) ?_
        refine ww_iload C dX9_guardsAt_27 4 rfl ?_
        refine ww_ishl C dX9_guardsAt_29 ?_
        refine ww_goto (tgt := 34) C dX9_guardsAt_30 (by decide) ?_
        refine ww_ior C dX9_guardsAt_34 ?_
        refine ww_topi (fun x3_35 e_x3_35 => ?_)
        replace hf := ltE e_x3_35 hf
        refine ww_istore_n (lv' := [(3, .int x3_35), (0, .ref (a0 0)), (1, .int x1), (2, .int x2), (4, .int x4)]) C dX9_guardsAt_35 rfl (by decide) rfl ?_
        obtain ⟨x4_36, e_x4_36⟩ : ∃ y : Int32, y = x4 + 1 := ⟨_, rfl⟩
        replace hf := ltE e_x4_36 hf
        refine ww_iinc (v := x4_36) (lv' := [(4, .int x4_36), (3, .int x3_35), (0, .ref (a0 0)), (1, .int x1), (2, .int x2)]) C dX9_guardsAt_36 4 rfl (by rw [e_x4_36]; rfl) (by decide) rfl ?_
        refine ww_goto (tgt := 5) C dX9_guardsAt_39 (by decide) ?_
        refine ww_sub C (lv' := [(0, .ref (a0 0)), (1, .int x1), (2, .int x2), (3, .int x3_35), (4, .int x4_36)]) [2, 3, 4, 1, 0] rfl ?_
        exact ih _ _ hf

set_option maxHeartbeats 4000000 in
set_option maxRecDepth 100000 in
theorem c_X9_guardsAt {E : Ex} {a0 : Nat → Nat} {h0_1 : Nat} {x1 : Int32} {x2 : Int32} {v0 : ModelV} {r : Int32} (hf : Mod_guardsAt x1 x2 v0 = some r) : Ct E yX9_guardsAt wsX9_guardsAt rmX9_guardsAt [.ref (a0 0), .int x1, .int x2] [wModel E a0 (rf2 (a0 1) h0_1) v0] (fun rv g => rv = some (.int r) ∧ g = [wModel E a0 (rf2 (a0 1) h0_1) v0]) := by
  refine ct_of (own := RX9) (by decide +kernel) rfl rfl (Nat.le_of_ble_eq_true rfl) (fun K C => ?_)
  refine ww_sub C (lv' := [(0, .ref (a0 0)), (1, .int x1), (2, .int x2)]) [0, 1, 2] rfl ?_
  rw [Mod_guardsAt] at hf
  refine ww_iconst (v := 0) C dX9_guardsAt_0 (by decide) ?_
  refine ww_istore_n (lv' := [(3, .int 0), (0, .ref (a0 0)), (1, .int x1), (2, .int x2)]) C dX9_guardsAt_1 rfl (by decide) rfl ?_
  refine ww_iconst (v := 0) C dX9_guardsAt_2 (by decide) ?_
  refine ww_istore (lv' := [(4, .int 0), (3, .int 0), (0, .ref (a0 0)), (1, .int x1), (2, .int x2)]) C dX9_guardsAt_3 (by decide) rfl ?_
  refine ww_sub C (lv' := [(0, .ref (a0 0)), (1, .int x1), (2, .int x2), (3, .int 0), (4, .int 0)]) [2, 3, 4, 1, 0] rfl ?_
  exact w_X9_guardsAt_5 C FU _ _ hf

theorem yk_X9_guardsAt : yX9_guardsAt.cls = RX9 ∧ yX9_guardsAt.cls ≠ "java/lang/invoke/MethodHandle" ∧ yX9_guardsAt.cls ≠ "java/lang/invoke/VarHandle" ∧ (parseMethodDescriptor yX9_guardsAt.desc).map (fun d => d.parameters.length) = some 2 := by decide +kernel
abbrev rmX9_seenAt : Room := { frames := 3, cells := 0, slots := 0, locals := 65 }
set_option maxHeartbeats 4000000 in
set_option maxRecDepth 100000 in
theorem w_X9_seenAt_4 {E : Ex} {K : Kx} (C : Cx E K cX9_seenAt 4 (some .int) RX9 wsX9_seenAt rmX9_seenAt) {a0 : Nat → Nat} {h0_1 : Nat} {x1 : Int32} {v0 : ModelV}  {r : Int32} : ∀ (n : Nat) (x2 : Int32) (x3 : Int32), Mod_seenAt_4 x1 v0 n x2 x3 = some r → WW E K 0 0 (QQ E K (fun rv g => rv = some (.int r) ∧ g = [wModel E a0 (rf2 (a0 1) h0_1) v0]) 0 0) 4 [(0, .ref (a0 0)), (1, .int x1), (2, .int x2), (3, .int x3)] [] [wModel E a0 (rf2 (a0 1) h0_1) v0] := by
  intro n
  induction n with
  | zero =>
    intro x2 x3 hf
    simp [Mod_seenAt_4] at hf
  | succ n ih =>
    intro x2 x3 hf
    rw [Mod_seenAt_4] at hf
    refine ww_iload_n C dX9_seenAt_4 rfl 3 rfl ?_
    refine ww_aload_n C dX9_seenAt_5 rfl 0 rfl ?_
    obtain ⟨p6, hp6, hf⟩ := bdE hf
    refine ww_callV C (As := []) (st := [.int x3]) (gr := []) (c_X9_guards (E := E) (a0 := a0) (h0_1 := h0_1) hp6) gX9_seenAt_X9_guards rfl yk_X9_guards ⟨by decide, by decide⟩ ⟨by decide, by decide⟩ clOK9 0 0 rfl rfl [0] [] 1 rfl (by decide) rfl rfl (Nat.le_of_ble_eq_true rfl) dX9_seenAt_6 ?_
    rintro _ _ ⟨rfl, rfl⟩
    refine ww_perm (gs' := [wModel E a0 (rf2 (a0 1) h0_1) v0]) [0] 1 rfl (by decide) rfl ?_
    refine ww_icmp_ge (tgt := 29) C dX9_seenAt_9 (by decide) (fun c_1 => ?_) (fun c_1 => ?_)
    · replace hf := ifT c_1 hf
      refine ww_iload_n C dX9_seenAt_29 rfl 2 rfl ?_
      obtain rfl := Option.some.inj hf
      exact ww_iret C ⟨rfl, rfl⟩ dX9_seenAt_30
    · replace hf := ifF c_1 hf
      refine ww_iload_n C dX9_seenAt_12 rfl 2 rfl ?_
      refine ww_iconst (v := 1) C dX9_seenAt_13 (by decide) ?_
      refine ww_aload_n C dX9_seenAt_14 rfl 0 rfl ?_
      refine ww_iload_n C dX9_seenAt_15 rfl 3 rfl ?_
      refine ww_iload_n C dX9_seenAt_16 rfl 1 rfl ?_
      obtain ⟨p17, hp17, hf⟩ := bdE hf
      refine ww_callV C (As := [.int x3, .int x1]) (st := [.int 1, .int x2]) (gr := []) (c_X9_place (E := E) (a0 := a0) (h0_1 := h0_1) hp17) gX9_seenAt_X9_place rfl yk_X9_place ⟨by decide, by decide⟩ ⟨by decide, by decide⟩ clOK9 0 0 rfl rfl [0] [] 1 rfl (by decide) rfl rfl (Nat.le_of_ble_eq_true rfl) dX9_seenAt_17 ?_
      rintro _ _ ⟨rfl, rfl⟩
      refine ww_perm (gs' := [wModel E a0 (rf2 (a0 1) h0_1) v0]) [0] 1 rfl (by decide) rfl ?_
      refine ww_ishl C dX9_seenAt_20 ?_
      refine ww_ior C dX9_seenAt_21 ?_
      refine ww_topi (fun x2_22 e_x2_22 => ?_)
      replace hf := ltE e_x2_22 hf
      refine ww_istore_n (lv' := [(2, .int x2_22), (0, .ref (a0 0)), (1, .int x1), (3, .int x3)]) C dX9_seenAt_22 rfl (by decide) rfl ?_
      obtain ⟨x3_23, e_x3_23⟩ : ∃ y : Int32, y = x3 + 1 := ⟨_, rfl⟩
      replace hf := ltE e_x3_23 hf
      refine ww_iinc (v := x3_23) (lv' := [(3, .int x3_23), (2, .int x2_22), (0, .ref (a0 0)), (1, .int x1)]) C dX9_seenAt_23 3 rfl (by rw [e_x3_23]; rfl) (by decide) rfl ?_
      refine ww_goto (tgt := 4) C dX9_seenAt_26 (by decide) ?_
      refine ww_sub C (lv' := [(0, .ref (a0 0)), (1, .int x1), (2, .int x2_22), (3, .int x3_23)]) [2, 3, 1, 0] rfl ?_
      exact ih _ _ hf

set_option maxHeartbeats 4000000 in
set_option maxRecDepth 100000 in
theorem c_X9_seenAt {E : Ex} {a0 : Nat → Nat} {h0_1 : Nat} {x1 : Int32} {v0 : ModelV} {r : Int32} (hf : Mod_seenAt x1 v0 = some r) : Ct E yX9_seenAt wsX9_seenAt rmX9_seenAt [.ref (a0 0), .int x1] [wModel E a0 (rf2 (a0 1) h0_1) v0] (fun rv g => rv = some (.int r) ∧ g = [wModel E a0 (rf2 (a0 1) h0_1) v0]) := by
  refine ct_of (own := RX9) (by decide +kernel) rfl rfl (Nat.le_of_ble_eq_true rfl) (fun K C => ?_)
  refine ww_sub C (lv' := [(0, .ref (a0 0)), (1, .int x1)]) [0, 1] rfl ?_
  rw [Mod_seenAt] at hf
  refine ww_iconst (v := 0) C dX9_seenAt_0 (by decide) ?_
  refine ww_istore_n (lv' := [(2, .int 0), (0, .ref (a0 0)), (1, .int x1)]) C dX9_seenAt_1 rfl (by decide) rfl ?_
  refine ww_iconst (v := 0) C dX9_seenAt_2 (by decide) ?_
  refine ww_istore_n (lv' := [(3, .int 0), (2, .int 0), (0, .ref (a0 0)), (1, .int x1)]) C dX9_seenAt_3 rfl (by decide) rfl ?_
  refine ww_sub C (lv' := [(0, .ref (a0 0)), (1, .int x1), (2, .int 0), (3, .int 0)]) [2, 3, 1, 0] rfl ?_
  exact w_X9_seenAt_4 C FU _ _ hf

theorem yk_X9_seenAt : yX9_seenAt.cls = RX9 ∧ yX9_seenAt.cls ≠ "java/lang/invoke/MethodHandle" ∧ yX9_seenAt.cls ≠ "java/lang/invoke/VarHandle" ∧ (parseMethodDescriptor yX9_seenAt.desc).map (fun d => d.parameters.length) = some 1 := by decide +kernel
abbrev rmX9_common : Room := { frames := 0, cells := 0, slots := 0, locals := 0 }
set_option maxHeartbeats 4000000 in
set_option maxRecDepth 100000 in
theorem w_X9_common_4 {E : Ex} {K : Kx} (C : Cx E K cX9_common 5 (some .int) RX9 wsX9_common rmX9_common)  {x0 : Int32} {x1 : Int32}  {r : Int32} : ∀ (n : Nat) (x2 : Int32) (x3 : Int32), Mod_common_4 x0 x1 n x2 x3 = some r → WW E K 0 0 (QQ E K (fun rv g => rv = some (.int r) ∧ g = []) 0 0) 4 [(0, .int x0), (1, .int x1), (2, .int x2), (3, .int x3)] [] [] := by
  intro n
  induction n with
  | zero =>
    intro x2 x3 hf
    simp [Mod_common_4] at hf
  | succ n ih =>
    intro x2 x3 hf
    rw [Mod_common_4] at hf
    refine ww_iload_n C dX9_common_4 rfl 3 rfl ?_
    refine ww_if_le (tgt := 21) C dX9_common_5 (by decide) (fun c_1 => ?_) (fun c_1 => ?_)
    · replace hf := ifT c_1 hf
      refine ww_iload_n C dX9_common_21 rfl 0 rfl ?_
      refine ww_iload_n C dX9_common_22 rfl 2 rfl ?_
      obtain ⟨g_2, hf⟩ := gdE hf
      refine ww_idiv C dX9_common_23 (nz_ne g_2) ?_
      refine ww_iload_n C dX9_common_24 rfl 1 rfl ?_
      refine ww_imul C dX9_common_25 ?_
      obtain rfl := Option.some.inj hf
      exact ww_iret C ⟨rfl, rfl⟩ dX9_common_26
    · replace hf := ifF c_1 hf
      refine ww_iload_n C dX9_common_8 rfl 2 rfl ?_
      refine ww_iload_n C dX9_common_9 rfl 3 rfl ?_
      obtain ⟨g_3, hf⟩ := gdE hf
      refine ww_irem C dX9_common_10 (nz_ne g_3) ?_
      refine ww_topi (fun x4_11 e_x4_11 => ?_)
      replace hf := ltE e_x4_11 hf
      refine ww_istore (lv' := [(4, .int x4_11), (0, .int x0), (1, .int x1), (2, .int x2), (3, .int x3)]) C dX9_common_11 (by decide) rfl ?_
      refine ww_iload_n C dX9_common_13 rfl 4 rfl ?_
      refine ww_istore_n (lv' := [(2, .int x3), (4, .int x4_11), (0, .int x0), (1, .int x1), (3, .int x3)]) C dX9_common_14 rfl (by decide) rfl ?_
      refine ww_iload C dX9_common_15 1 rfl ?_
      refine ww_istore_n (lv' := [(3, .int x4_11), (2, .int x3), (4, .int x4_11), (0, .int x0), (1, .int x1)]) C dX9_common_17 rfl (by decide) rfl ?_
      refine ww_goto (tgt := 4) C dX9_common_18 (by decide) ?_
      refine ww_sub C (lv' := [(0, .int x0), (1, .int x1), (2, .int x3), (3, .int x4_11)]) [3, 4, 1, 0] rfl ?_
      exact ih _ _ hf

set_option maxHeartbeats 4000000 in
set_option maxRecDepth 100000 in
theorem c_X9_common {E : Ex}  {x0 : Int32} {x1 : Int32} {r : Int32} (hf : Mod_common x0 x1 = some r) : Ct E yX9_common wsX9_common rmX9_common [.int x0, .int x1] [] (fun rv g => rv = some (.int r) ∧ g = []) := by
  refine ct_of (own := RX9) (by decide +kernel) rfl rfl (Nat.le_of_ble_eq_true rfl) (fun K C => ?_)
  refine ww_sub C (lv' := [(0, .int x0), (1, .int x1)]) [0, 1] rfl ?_
  rw [Mod_common] at hf
  refine ww_iload_n C dX9_common_0 rfl 0 rfl ?_
  refine ww_istore_n (lv' := [(2, .int x0), (0, .int x0), (1, .int x1)]) C dX9_common_1 rfl (by decide) rfl ?_
  refine ww_iload_n C dX9_common_2 rfl 2 rfl ?_
  refine ww_istore_n (lv' := [(3, .int x1), (2, .int x0), (0, .int x0), (1, .int x1)]) C dX9_common_3 rfl (by decide) rfl ?_
  refine ww_sub C (lv' := [(0, .int x0), (1, .int x1), (2, .int x0), (3, .int x1)]) [2, 3, 1, 0] rfl ?_
  exact w_X9_common_4 C FU _ _ hf

theorem ysk_X9_common : yX9_common.cls ≠ "java/lang/invoke/MethodHandle" ∧ yX9_common.cls ≠ "java/lang/invoke/VarHandle" ∧ (parseMethodDescriptor yX9_common.desc).map (fun d => d.parameters.length) = some 2 := by decide +kernel
abbrev rmX9_cycle : Room := { frames := 2, cells := 0, slots := 0, locals := 42 }
set_option maxHeartbeats 4000000 in
set_option maxRecDepth 100000 in
theorem w_X9_cycle_4 {E : Ex} {K : Kx} (C : Cx E K cX9_cycle 3 (some .int) RX9 wsX9_cycle rmX9_cycle) {a0 : Nat → Nat} {h0_1 : Nat} {v0 : ModelV}  {r : Int32} : ∀ (n : Nat) (x1 : Int32) (x2 : Int32), Mod_cycle_4 v0 n x1 x2 = some r → WW E K 0 0 (QQ E K (fun rv g => rv = some (.int r) ∧ g = [wModel E a0 (rf2 (a0 1) h0_1) v0]) 0 0) 4 [(0, .ref (a0 0)), (1, .int x1), (2, .int x2)] [] [wModel E a0 (rf2 (a0 1) h0_1) v0] := by
  intro n
  induction n with
  | zero =>
    intro x1 x2 hf
    simp [Mod_cycle_4] at hf
  | succ n ih =>
    intro x1 x2 hf
    rw [Mod_cycle_4] at hf
    refine ww_iload_n C dX9_cycle_4 rfl 2 rfl ?_
    refine ww_aload_n C dX9_cycle_5 rfl 0 rfl ?_
    obtain ⟨p6, hp6, hf⟩ := bdE hf
    refine ww_callV C (As := []) (st := [.int x2]) (gr := []) (c_X9_guards (E := E) (a0 := a0) (h0_1 := h0_1) hp6) gX9_cycle_X9_guards rfl yk_X9_guards ⟨by decide, by decide⟩ ⟨by decide, by decide⟩ clOK9 0 0 rfl rfl [0] [] 1 rfl (by decide) rfl rfl (Nat.le_of_ble_eq_true rfl) dX9_cycle_6 ?_
    rintro _ _ ⟨rfl, rfl⟩
    refine ww_perm (gs' := [wModel E a0 (rf2 (a0 1) h0_1) v0]) [0] 1 rfl (by decide) rfl ?_
    refine ww_icmp_ge (tgt := 28) C dX9_cycle_9 (by decide) (fun c_1 => ?_) (fun c_1 => ?_)
    · replace hf := ifT c_1 hf
      refine ww_iload_n C dX9_cycle_28 rfl 1 rfl ?_
      obtain rfl := Option.some.inj hf
      exact ww_iret C ⟨rfl, rfl⟩ dX9_cycle_29
    · replace hf := ifF c_1 hf
      refine ww_iload_n C dX9_cycle_12 rfl 1 rfl ?_
      refine ww_aload_n C dX9_cycle_13 rfl 0 rfl ?_
      refine ww_iload_n C dX9_cycle_14 rfl 2 rfl ?_
      obtain ⟨p15, hp15, hf⟩ := bdE hf
      refine ww_callV C (As := [.int x2]) (st := [.int x1]) (gr := []) (c_X9_period (E := E) (a0 := a0) (h0_1 := h0_1) hp15) gX9_cycle_X9_period rfl yk_X9_period ⟨by decide, by decide⟩ ⟨by decide, by decide⟩ clOK9 0 0 rfl rfl [0] [] 1 rfl (by decide) rfl rfl (Nat.le_of_ble_eq_true rfl) dX9_cycle_15 ?_
      rintro _ _ ⟨rfl, rfl⟩
      refine ww_perm (gs' := [wModel E a0 (rf2 (a0 1) h0_1) v0]) [0] 1 rfl (by decide) rfl ?_
      obtain ⟨p18, hp18, hf⟩ := bdE hf
      refine ww_callS C (As := [.int x1, .int p15]) (st := []) (gr := [wModel E a0 (rf2 (a0 1) h0_1) v0]) (c_X9_common (E := E)  hp18) gX9_cycle_X9_common rfl ysk_X9_common ⟨by decide, by decide⟩ ⟨by decide, by decide⟩ [] [0] 1 rfl (by decide) rfl rfl (Nat.le_of_ble_eq_true rfl) dX9_cycle_18 ?_
      rintro _ _ ⟨rfl, rfl⟩
      refine ww_perm (gs' := [wModel E a0 (rf2 (a0 1) h0_1) v0]) [0] 1 rfl (by decide) rfl ?_
      refine ww_istore_n (lv' := [(1, .int p18), (0, .ref (a0 0)), (2, .int x2)]) C dX9_cycle_21 rfl (by decide) rfl ?_
      obtain ⟨x2_22, e_x2_22⟩ : ∃ y : Int32, y = x2 + 1 := ⟨_, rfl⟩
      replace hf := ltE e_x2_22 hf
      refine ww_iinc (v := x2_22) (lv' := [(2, .int x2_22), (1, .int p18), (0, .ref (a0 0))]) C dX9_cycle_22 2 rfl (by rw [e_x2_22]; rfl) (by decide) rfl ?_
      refine ww_goto (tgt := 4) C dX9_cycle_25 (by decide) ?_
      refine ww_sub C (lv' := [(0, .ref (a0 0)), (1, .int p18), (2, .int x2_22)]) [2, 1, 0] rfl ?_
      exact ih _ _ hf

set_option maxHeartbeats 4000000 in
set_option maxRecDepth 100000 in
theorem c_X9_cycle {E : Ex} {a0 : Nat → Nat} {h0_1 : Nat} {v0 : ModelV} {r : Int32} (hf : Mod_cycle v0 = some r) : Ct E yX9_cycle wsX9_cycle rmX9_cycle [.ref (a0 0)] [wModel E a0 (rf2 (a0 1) h0_1) v0] (fun rv g => rv = some (.int r) ∧ g = [wModel E a0 (rf2 (a0 1) h0_1) v0]) := by
  refine ct_of (own := RX9) (by decide +kernel) rfl rfl (Nat.le_of_ble_eq_true rfl) (fun K C => ?_)
  refine ww_sub C (lv' := [(0, .ref (a0 0))]) [0] rfl ?_
  rw [Mod_cycle] at hf
  refine ww_iconst (v := 1) C dX9_cycle_0 (by decide) ?_
  refine ww_istore_n (lv' := [(1, .int 1), (0, .ref (a0 0))]) C dX9_cycle_1 rfl (by decide) rfl ?_
  refine ww_iconst (v := 0) C dX9_cycle_2 (by decide) ?_
  refine ww_istore_n (lv' := [(2, .int 0), (1, .int 1), (0, .ref (a0 0))]) C dX9_cycle_3 rfl (by decide) rfl ?_
  refine ww_sub C (lv' := [(0, .ref (a0 0)), (1, .int 1), (2, .int 0)]) [2, 1, 0] rfl ?_
  exact w_X9_cycle_4 C FU _ _ hf

theorem yk_X9_cycle : yX9_cycle.cls = RX9 ∧ yX9_cycle.cls ≠ "java/lang/invoke/MethodHandle" ∧ yX9_cycle.cls ≠ "java/lang/invoke/VarHandle" ∧ (parseMethodDescriptor yX9_cycle.desc).map (fun d => d.parameters.length) = some 0 := by decide +kernel
abbrev rmX9_endGap : Room := { frames := 1, cells := 0, slots := 0, locals := 21 }
set_option maxRecDepth 20000 in
theorem in_X9_endGap_X9 : ∀ w ∈ u_ws RX9 TX9 35, w ∈ wsX9_endGap := by decide +kernel
set_option maxHeartbeats 4000000 in
set_option maxRecDepth 100000 in
theorem w_X9_endGap_59 {E : Ex} {K : Kx} (C : Cx E K cX9_endGap 6 none RX9 wsX9_endGap rmX9_endGap) {a0 : Nat → Nat} {h0_0 h0_1 : Nat} {x1 : Int32} {x2 : Int32} {x3 : Int32} {x4 : Int32}  {s0 : Int32} {s1 : Int32} {v0 : ModelV} {r : ModelV} (hf : Mod_endGap_59 x1 x2 x3 x4 s0 s1 v0 = some r) : WW E K 0 0 (QQ E K (fun rv g => rv = none ∧ g = [wModel E a0 (rf2 h0_0 h0_1) r]) 0 0) 59 [(0, .ref (a0 0)), (1, .int x1), (2, .int x2), (3, .int x3)] [.int s0, .int s1, .ref (a0 11)] [wModel E a0 (rf2 h0_0 h0_1) v0] := by
  rw [Mod_endGap_59] at hf
  obtain ⟨g_7, hf⟩ := gdE hf
  obtain ⟨v0_59, e_v0_59⟩ : ∃ y : ModelV, y = Model_set_gapBegin v0 (upd (Model_gapBegin v0) (Int32.toNatClampNeg s1) s0) := ⟨_, rfl⟩
  replace hf := ltE e_v0_59 hf
  refine ww_iast C (f := Model_gapBegin v0) (w := wModel E a0 (rf2 h0_0 h0_1) v0) (w' := wModel E a0 (rf2 h0_0 h0_1) v0_59) (gs' := [wModel E a0 (rf2 h0_0 h0_1) v0_59]) 0 11 rfl c_Model_gapBegin (inB_vp g_7) (by rw [e_v0_59]; exact s_Model_gapBegin) rfl dX9_endGap_59 ?_
  refine ww_aload_n C dX9_endGap_60 rfl 0 rfl ?_
  refine ww_get C clOK9 in_X9_endGap_X9 (w := wModel E a0 (rf2 h0_0 h0_1) v0_59) (fs := fsModel a0 (rf2 h0_0 h0_1) v0_59) (v := .ref (a0 10)) 0 0 13 rfl q_Model (by decide) (by decide +kernel) g_Model_gap dX9_endGap_61 ?_
  refine ww_iload_n C dX9_endGap_64 rfl 1 rfl ?_
  refine ww_aload_n C dX9_endGap_65 rfl 0 rfl ?_
  refine ww_get C clOK9 in_X9_endGap_X9 (w := wModel E a0 (rf2 h0_0 h0_1) v0_59) (fs := fsModel a0 (rf2 h0_0 h0_1) v0_59) (v := .ref (a0 10)) 0 0 13 rfl q_Model (by decide) (by decide +kernel) g_Model_gap dX9_endGap_66 ?_
  refine ww_iload_n C dX9_endGap_69 rfl 1 rfl ?_
  obtain ⟨g_8, hf⟩ := gdE hf
  refine ww_iald C (f := Model_gap v0_59) (w := wModel E a0 (rf2 h0_0 h0_1) v0_59) 0 10 rfl c_Model_gap (inB_vp g_8) dX9_endGap_70 ?_
  refine ww_iload_n C dX9_endGap_71 rfl 3 rfl ?_
  refine ww_max C (by decide +kernel) (by decide +kernel) (by decide +kernel) (by decide +kernel) (by decide) (Nat.le_of_ble_eq_true rfl) (by decide) (by decide) dX9_endGap_72 ?_
  obtain ⟨v0_75, e_v0_75⟩ : ∃ y : ModelV, y = Model_set_gap v0_59 (upd (Model_gap v0_59) (Int32.toNatClampNeg x1) (imax ((Model_gap v0_59) (Int32.toNatClampNeg x1)) x3)) := ⟨_, rfl⟩
  replace hf := ltE e_v0_75 hf
  refine ww_iast C (f := Model_gap v0_59) (w := wModel E a0 (rf2 h0_0 h0_1) v0_59) (w' := wModel E a0 (rf2 h0_0 h0_1) v0_75) (gs' := [wModel E a0 (rf2 h0_0 h0_1) v0_75]) 0 10 rfl c_Model_gap (inB_vp g_8) (by rw [e_v0_75]; exact s_Model_gap) rfl dX9_endGap_75 ?_
  refine ww_aload_n C dX9_endGap_76 rfl 0 rfl ?_
  refine ww_get C clOK9 in_X9_endGap_X9 (w := wModel E a0 (rf2 h0_0 h0_1) v0_75) (fs := fsModel a0 (rf2 h0_0 h0_1) v0_75) (v := .ref (a0 8)) 0 0 11 rfl q_Model (by decide) (by decide +kernel) g_Model_latestSeen dX9_endGap_77 ?_
  refine ww_iload_n C dX9_endGap_80 rfl 1 rfl ?_
  refine ww_iload_n C dX9_endGap_81 rfl 2 rfl ?_
  obtain ⟨v0_82, e_v0_82⟩ : ∃ y : ModelV, y = Model_set_latestSeen v0_75 (upd (Model_latestSeen v0_75) (Int32.toNatClampNeg x1) x2) := ⟨_, rfl⟩
  replace hf := ltE e_v0_82 hf
  refine ww_iast C (f := Model_latestSeen v0_75) (w := wModel E a0 (rf2 h0_0 h0_1) v0_75) (w' := wModel E a0 (rf2 h0_0 h0_1) v0_82) (gs' := [wModel E a0 (rf2 h0_0 h0_1) v0_82]) 0 8 rfl c_Model_latestSeen (inB_vp g_8) (by rw [e_v0_82]; exact s_Model_latestSeen) rfl dX9_endGap_82 ?_
  obtain rfl := Option.some.inj hf
  exact ww_vret C ⟨rfl, rfl⟩ dX9_endGap_83

set_option maxHeartbeats 4000000 in
set_option maxRecDepth 100000 in
theorem w_X9_endGap_36 {E : Ex} {K : Kx} (C : Cx E K cX9_endGap 6 none RX9 wsX9_endGap rmX9_endGap) {a0 : Nat → Nat} {h0_0 h0_1 : Nat} {x1 : Int32} {x2 : Int32} {x3 : Int32} {x4 : Int32}  {s0 : Int32} {v0 : ModelV} {r : ModelV} (hf : Mod_endGap_36 x1 x2 x3 x4 s0 v0 = some r) : WW E K 0 0 (QQ E K (fun rv g => rv = none ∧ g = [wModel E a0 (rf2 h0_0 h0_1) r]) 0 0) 36 [(0, .ref (a0 0)), (1, .int x1), (2, .int x2), (3, .int x3), (4, .int x4)] [.int s0] [wModel E a0 (rf2 h0_0 h0_1) v0] := by
  rw [Mod_endGap_36] at hf
  refine ww_istore (lv' := [(5, .int s0), (0, .ref (a0 0)), (1, .int x1), (2, .int x2), (3, .int x3), (4, .int x4)]) C dX9_endGap_36 (by decide) rfl ?_
  refine ww_aload_n C dX9_endGap_38 rfl 1 rfl ?_
  refine ww_get C clOK9 in_X9_endGap_X9 (w := wModel E a0 (rf2 h0_0 h0_1) v0) (fs := fsModel a0 (rf2 h0_0 h0_1) v0) (v := .ref (a0 11)) 0 0 14 rfl q_Model (by decide) (by decide +kernel) g_Model_gapBegin dX9_endGap_39 ?_
  refine ww_iload_n C dX9_endGap_42 rfl 2 rfl ?_
  refine ww_iload C dX9_endGap_43 0 rfl ?_
  refine ww_if_eq (tgt := 53) C dX9_endGap_45 (by decide) (fun c_5 => ?_) (fun c_5 => ?_)
  · replace hf := ifT c_5 hf
    refine ww_aload_n C dX9_endGap_53 rfl 1 rfl ?_
    refine ww_get C clOK9 in_X9_endGap_X9 (w := wModel E a0 (rf2 h0_0 h0_1) v0) (fs := fsModel a0 (rf2 h0_0 h0_1) v0) (v := .ref (a0 11)) 0 0 14 rfl q_Model (by decide) (by decide +kernel) g_Model_gapBegin dX9_endGap_54 ?_
    refine ww_iload_n C dX9_endGap_57 rfl 2 rfl ?_
    obtain ⟨g_6, hf⟩ := gdE hf
    refine ww_iald C (f := Model_gapBegin v0) (w := wModel E a0 (rf2 h0_0 h0_1) v0) 0 11 rfl c_Model_gapBegin (inB_vp g_6) dX9_endGap_58 ?_
    refine ww_sub C (lv' := [(0, .ref (a0 0)), (1, .int x1), (2, .int x2), (3, .int x3)]) [1, 2, 3, 4] rfl ?_
    exact w_X9_endGap_59 C hf
  · replace hf := ifF c_5 hf
    refine ww_iload C dX9_endGap_48 5 rfl ?_
    refine ww_goto (tgt := 59) C dX9_endGap_50 (by decide) ?_
    refine ww_sub C (lv' := [(0, .ref (a0 0)), (1, .int x1), (2, .int x2), (3, .int x3)]) [1, 2, 3, 4] rfl ?_
    exact w_X9_endGap_59 C hf

set_option maxHeartbeats 4000000 in
set_option maxRecDepth 100000 in
theorem w_X9_endGap_31 {E : Ex} {K : Kx} (C : Cx E K cX9_endGap 6 none RX9 wsX9_endGap rmX9_endGap) {a0 : Nat → Nat} {h0_0 h0_1 : Nat} {x1 : Int32} {x2 : Int32} {x3 : Int32} {x4 : Int32}  {v0 : ModelV} {r : ModelV} (hf : Mod_endGap_31 x1 x2 x3 x4 v0 = some r) : WW E K 0 0 (QQ E K (fun rv g => rv = none ∧ g = [wModel E a0 (rf2 h0_0 h0_1) r]) 0 0) 31 [(0, .ref (a0 0)), (1, .int x1), (2, .int x2), (3, .int x3), (4, .int x4)] [] [wModel E a0 (rf2 h0_0 h0_1) v0] := by
  rw [Mod_endGap_31] at hf
  refine ww_iconst (v := 1) C dX9_endGap_31 (by decide) ?_
  refine ww_goto (tgt := 36) C dX9_endGap_32 (by decide) ?_
  refine ww_sub C (lv' := [(0, .ref (a0 0)), (1, .int x1), (2, .int x2), (3, .int x3), (4, .int x4)]) [0, 1, 2, 3, 4] rfl ?_
  exact w_X9_endGap_36 C hf

set_option maxHeartbeats 4000000 in
set_option maxRecDepth 100000 in
theorem w_X9_endGap_35 {E : Ex} {K : Kx} (C : Cx E K cX9_endGap 6 none RX9 wsX9_endGap rmX9_endGap) {a0 : Nat → Nat} {h0_0 h0_1 : Nat} {x1 : Int32} {x2 : Int32} {x3 : Int32} {x4 : Int32}  {v0 : ModelV} {r : ModelV} (hf : Mod_endGap_35 x1 x2 x3 x4 v0 = some r) : WW E K 0 0 (QQ E K (fun rv g => rv = none ∧ g = [wModel E a0 (rf2 h0_0 h0_1) r]) 0 0) 35 [(0, .ref (a0 0)), (1, .int x1), (2, .int x2), (3, .int x3), (4, .int x4)] [] [wModel E a0 (rf2 h0_0 h0_1) v0] := by
  rw [Mod_endGap_35] at hf
  refine ww_iconst (v := 0) C dX9_endGap_35 (by decide) ?_
  refine ww_sub C (lv' := [(0, .ref (a0 0)), (1, .int x1), (2, .int x2), (3, .int x3), (4, .int x4)]) [0, 1, 2, 3, 4] rfl ?_
  exact w_X9_endGap_36 C hf

set_option maxHeartbeats 4000000 in
set_option maxRecDepth 100000 in
theorem c_X9_endGap {E : Ex} {a0 : Nat → Nat} {h0_0 h0_1 : Nat} {x1 : Int32} {x2 : Int32} {x3 : Int32} {x4 : Int32} {v0 : ModelV} {r : ModelV} (hf : Mod_endGap x1 x2 x3 x4 v0 = some r) : Ct E yX9_endGap wsX9_endGap rmX9_endGap [.ref (a0 0), .int x1, .int x2, .int x3, .int x4] [wModel E a0 (rf2 h0_0 h0_1) v0] (fun rv g => rv = none ∧ g = [wModel E a0 (rf2 h0_0 h0_1) r]) := by
  refine ct_of (own := RX9) (by decide +kernel) rfl rfl (Nat.le_of_ble_eq_true rfl) (fun K C => ?_)
  refine ww_sub C (lv' := [(0, .ref (a0 0)), (1, .int x1), (2, .int x2), (3, .int x3), (4, .int x4)]) [0, 1, 2, 3, 4] rfl ?_
  rw [Mod_endGap] at hf
  refine ww_iload_n C dX9_endGap_0 rfl 3 rfl ?_
  refine ww_aload_n C dX9_endGap_1 rfl 0 rfl ?_
  refine ww_get C clOK9 in_X9_endGap_X9 (w := wModel E a0 (rf2 h0_0 h0_1) v0) (fs := fsModel a0 (rf2 h0_0 h0_1) v0) (v := .ref (a0 10)) 0 0 13 rfl q_Model (by decide) (by decide +kernel) g_Model_gap dX9_endGap_2 ?_
  refine ww_iload_n C dX9_endGap_5 rfl 1 rfl ?_
  obtain ⟨g_1, hf⟩ := gdE hf
  refine ww_iald C (f := Model_gap v0) (w := wModel E a0 (rf2 h0_0 h0_1) v0) 0 10 rfl c_Model_gap (inB_vp g_1) dX9_endGap_6 ?_
  refine ww_icmp_gt (tgt := 31) C dX9_endGap_7 (by decide) (fun c_2 => ?_) (fun c_2 => ?_)
  · replace hf := ifT c_2 hf
    refine ww_sub C (lv' := [(0, .ref (a0 0)), (1, .int x1), (2, .int x2), (3, .int x3), (4, .int x4)]) [0, 1, 2, 3, 4] rfl ?_
    exact w_X9_endGap_31 C hf
  · replace hf := ifF c_2 hf
    refine ww_iload_n C dX9_endGap_10 rfl 3 rfl ?_
    refine ww_aload_n C dX9_endGap_11 rfl 0 rfl ?_
    refine ww_get C clOK9 in_X9_endGap_X9 (w := wModel E a0 (rf2 h0_0 h0_1) v0) (fs := fsModel a0 (rf2 h0_0 h0_1) v0) (v := .ref (a0 10)) 0 0 13 rfl q_Model (by decide) (by decide +kernel) g_Model_gap dX9_endGap_12 ?_
    refine ww_iload_n C dX9_endGap_15 rfl 1 rfl ?_
    refine ww_iald C (f := Model_gap v0) (w := wModel E a0 (rf2 h0_0 h0_1) v0) 0 10 rfl c_Model_gap (inB_vp g_1) dX9_endGap_16 ?_
    refine ww_icmp_ne (tgt := 35) C dX9_endGap_17 (by decide) (fun c_3 => ?_) (fun c_3 => ?_)
    · replace hf := ifF c_3 hf
      refine ww_sub C (lv' := [(0, .ref (a0 0)), (1, .int x1), (2, .int x2), (3, .int x3), (4, .int x4)]) [0, 1, 2, 3, 4] rfl ?_
      exact w_X9_endGap_35 C hf
    · replace hf := ifT c_3 hf
      refine ww_iload C dX9_endGap_20 4 rfl ?_
      refine ww_aload_n C dX9_endGap_22 rfl 0 rfl ?_
      refine ww_get C clOK9 in_X9_endGap_X9 (w := wModel E a0 (rf2 h0_0 h0_1) v0) (fs := fsModel a0 (rf2 h0_0 h0_1) v0) (v := .ref (a0 11)) 0 0 14 rfl q_Model (by decide) (by decide +kernel) g_Model_gapBegin dX9_endGap_23 ?_
      refine ww_iload_n C dX9_endGap_26 rfl 1 rfl ?_
      refine ww_iald C (f := Model_gapBegin v0) (w := wModel E a0 (rf2 h0_0 h0_1) v0) 0 11 rfl c_Model_gapBegin (inB_vp g_1) dX9_endGap_27 ?_
      refine ww_icmp_ge (tgt := 35) C dX9_endGap_28 (by decide) (fun c_4 => ?_) (fun c_4 => ?_)
      · replace hf := ifT c_4 hf
        refine ww_sub C (lv' := [(0, .ref (a0 0)), (1, .int x1), (2, .int x2), (3, .int x3), (4, .int x4)]) [0, 1, 2, 3, 4] rfl ?_
        exact w_X9_endGap_35 C hf
      · replace hf := ifF c_4 hf
        refine ww_sub C (lv' := [(0, .ref (a0 0)), (1, .int x1), (2, .int x2), (3, .int x3), (4, .int x4)]) [0, 1, 2, 3, 4] rfl ?_
        exact w_X9_endGap_31 C hf

theorem yk_X9_endGap : yX9_endGap.cls = RX9 ∧ yX9_endGap.cls ≠ "java/lang/invoke/MethodHandle" ∧ yX9_endGap.cls ≠ "java/lang/invoke/VarHandle" ∧ (parseMethodDescriptor yX9_endGap.desc).map (fun d => d.parameters.length) = some 4 := by decide +kernel
abbrev rmX9_see : Room := { frames := 2, cells := 0, slots := 0, locals := 46 }
set_option maxRecDepth 20000 in
theorem in_X9_see_X9 : ∀ w ∈ u_ws RX9 TX9 35, w ∈ wsX9_see := by decide +kernel
set_option maxHeartbeats 4000000 in
set_option maxRecDepth 100000 in
theorem c_X9_see {E : Ex} {a0 : Nat → Nat} {h0_0 h0_1 : Nat} {x1 : Int32} {x2 : Int32} {v0 : ModelV} {r : ModelV} (hf : Mod_see x1 x2 v0 = some r) : Ct E yX9_see wsX9_see rmX9_see [.ref (a0 0), .int x1, .int x2] [wModel E a0 (rf2 h0_0 h0_1) v0] (fun rv g => rv = none ∧ g = [wModel E a0 (rf2 h0_0 h0_1) r]) := by
  refine ct_of (own := RX9) (by decide +kernel) rfl rfl (Nat.le_of_ble_eq_true rfl) (fun K C => ?_)
  refine ww_sub C (lv' := [(0, .ref (a0 0)), (1, .int x1), (2, .int x2)]) [0, 1, 2] rfl ?_
  rw [Mod_see] at hf
  refine ww_aload_n C dX9_see_0 rfl 0 rfl ?_
  refine ww_get C clOK9 in_X9_see_X9 (w := wModel E a0 (rf2 h0_0 h0_1) v0) (fs := fsModel a0 (rf2 h0_0 h0_1) v0) (v := .ref (a0 9)) 0 0 12 rfl q_Model (by decide) (by decide +kernel) g_Model_seenCount dX9_see_1 ?_
  refine ww_iload_n C dX9_see_4 rfl 1 rfl ?_
  refine ww_dup2 C dX9_see_5 rfl rfl ?_
  obtain ⟨g_1, hf⟩ := gdE hf
  refine ww_iald C (f := Model_seenCount v0) (w := wModel E a0 (rf2 h0_0 h0_1) v0) 0 9 rfl c_Model_seenCount (inB_vp g_1) dX9_see_6 ?_
  refine ww_iconst (v := 1) C dX9_see_7 (by decide) ?_
  refine ww_iadd C dX9_see_8 ?_
  obtain ⟨v0_9, e_v0_9⟩ : ∃ y : ModelV, y = Model_set_seenCount v0 (upd (Model_seenCount v0) (Int32.toNatClampNeg x1) (((Model_seenCount v0) (Int32.toNatClampNeg x1)) + 1)) := ⟨_, rfl⟩
  replace hf := ltE e_v0_9 hf
  refine ww_iast C (f := Model_seenCount v0) (w := wModel E a0 (rf2 h0_0 h0_1) v0) (w' := wModel E a0 (rf2 h0_0 h0_1) v0_9) (gs' := [wModel E a0 (rf2 h0_0 h0_1) v0_9]) 0 9 rfl c_Model_seenCount (inB_vp g_1) (by rw [e_v0_9]; exact s_Model_seenCount) rfl dX9_see_9 ?_
  refine ww_aload_n C dX9_see_10 rfl 0 rfl ?_
  refine ww_get C clOK9 in_X9_see_X9 (w := wModel E a0 (rf2 h0_0 h0_1) v0_9) (fs := fsModel a0 (rf2 h0_0 h0_1) v0_9) (v := .ref (a0 7)) 0 0 10 rfl q_Model (by decide) (by decide +kernel) g_Model_firstSeen dX9_see_11 ?_
  refine ww_iload_n C dX9_see_14 rfl 1 rfl ?_
  refine ww_iald C (f := Model_firstSeen v0_9) (w := wModel E a0 (rf2 h0_0 h0_1) v0_9) 0 7 rfl c_Model_firstSeen (inB_vp g_1) dX9_see_15 ?_
  refine ww_iconst (v := (-1)) C dX9_see_16 (by decide) ?_
  refine ww_icmp_ne (tgt := 35) C dX9_see_17 (by decide) (fun c_2 => ?_) (fun c_2 => ?_)
  · replace hf := ifF c_2 hf
    refine ww_aload_n C dX9_see_35 rfl 0 rfl ?_
    refine ww_iload_n C dX9_see_36 rfl 1 rfl ?_
    refine ww_iload_n C dX9_see_37 rfl 2 rfl ?_
    refine ww_iload_n C dX9_see_38 rfl 2 rfl ?_
    refine ww_aload_n C dX9_see_39 rfl 0 rfl ?_
    refine ww_get C clOK9 in_X9_see_X9 (w := wModel E a0 (rf2 h0_0 h0_1) v0_9) (fs := fsModel a0 (rf2 h0_0 h0_1) v0_9) (v := .ref (a0 8)) 0 0 11 rfl q_Model (by decide) (by decide +kernel) g_Model_latestSeen dX9_see_40 ?_
    refine ww_iload_n C dX9_see_43 rfl 1 rfl ?_
    refine ww_iald C (f := Model_latestSeen v0_9) (w := wModel E a0 (rf2 h0_0 h0_1) v0_9) 0 8 rfl c_Model_latestSeen (inB_vp g_1) dX9_see_44 ?_
    refine ww_isub C dX9_see_45 ?_
    refine ww_iconst (v := 1) C dX9_see_46 (by decide) ?_
    refine ww_isub C dX9_see_47 ?_
    refine ww_aload_n C dX9_see_48 rfl 0 rfl ?_
    refine ww_get C clOK9 in_X9_see_X9 (w := wModel E a0 (rf2 h0_0 h0_1) v0_9) (fs := fsModel a0 (rf2 h0_0 h0_1) v0_9) (v := .ref (a0 8)) 0 0 11 rfl q_Model (by decide) (by decide +kernel) g_Model_latestSeen dX9_see_49 ?_
    refine ww_iload_n C dX9_see_52 rfl 1 rfl ?_
    refine ww_iald C (f := Model_latestSeen v0_9) (w := wModel E a0 (rf2 h0_0 h0_1) v0_9) 0 8 rfl c_Model_latestSeen (inB_vp g_1) dX9_see_53 ?_
    refine ww_iconst (v := 1) C dX9_see_54 (by decide) ?_
    refine ww_iadd C dX9_see_55 ?_
    obtain ⟨p56, hp56, hf⟩ := bdE hf
    refine ww_callV C (As := [.int x1, .int x2, .int ((x2 - ((Model_latestSeen v0_9) (Int32.toNatClampNeg x1))) - 1), .int (((Model_latestSeen v0_9) (Int32.toNatClampNeg x1)) + 1)]) (st := []) (gr := []) (c_X9_endGap (E := E) (a0 := a0) (h0_0 := h0_0) (h0_1 := h0_1) hp56) gX9_see_X9_endGap rfl yk_X9_endGap ⟨by decide, by decide⟩ ⟨by decide, by decide⟩ clOK9 0 0 rfl rfl [0] [] 1 rfl (by decide) rfl rfl (Nat.le_of_ble_eq_true rfl) dX9_see_56 ?_
    rintro _ _ ⟨rfl, rfl⟩
    refine ww_perm (gs' := [wModel E a0 (rf2 h0_0 h0_1) p56]) [0] 1 rfl (by decide) rfl ?_
    obtain rfl := Option.some.inj hf
    exact ww_vret C ⟨rfl, rfl⟩ dX9_see_59
  · replace hf := ifT c_2 hf
    refine ww_aload_n C dX9_see_20 rfl 0 rfl ?_
    refine ww_get C clOK9 in_X9_see_X9 (w := wModel E a0 (rf2 h0_0 h0_1) v0_9) (fs := fsModel a0 (rf2 h0_0 h0_1) v0_9) (v := .ref (a0 7)) 0 0 10 rfl q_Model (by decide) (by decide +kernel) g_Model_firstSeen dX9_see_21 ?_
    refine ww_iload_n C dX9_see_24 rfl 1 rfl ?_
    refine ww_iload_n C dX9_see_25 rfl 2 rfl ?_
    obtain ⟨v0_26, e_v0_26⟩ : ∃ y : ModelV, y = Model_set_firstSeen v0_9 (upd (Model_firstSeen v0_9) (Int32.toNatClampNeg x1) x2) := ⟨_, rfl⟩
    replace hf := ltE e_v0_26 hf
    refine ww_iast C (f := Model_firstSeen v0_9) (w := wModel E a0 (rf2 h0_0 h0_1) v0_9) (w' := wModel E a0 (rf2 h0_0 h0_1) v0_26) (gs' := [wModel E a0 (rf2 h0_0 h0_1) v0_26]) 0 7 rfl c_Model_firstSeen (inB_vp g_1) (by rw [e_v0_26]; exact s_Model_firstSeen) rfl dX9_see_26 ?_
    refine ww_aload_n C dX9_see_27 rfl 0 rfl ?_
    refine ww_get C clOK9 in_X9_see_X9 (w := wModel E a0 (rf2 h0_0 h0_1) v0_26) (fs := fsModel a0 (rf2 h0_0 h0_1) v0_26) (v := .ref (a0 8)) 0 0 11 rfl q_Model (by decide) (by decide +kernel) g_Model_latestSeen dX9_see_28 ?_
    refine ww_iload_n C dX9_see_31 rfl 1 rfl ?_
    refine ww_iload_n C dX9_see_32 rfl 2 rfl ?_
    obtain ⟨v0_33, e_v0_33⟩ : ∃ y : ModelV, y = Model_set_latestSeen v0_26 (upd (Model_latestSeen v0_26) (Int32.toNatClampNeg x1) x2) := ⟨_, rfl⟩
    replace hf := ltE e_v0_33 hf
    refine ww_iast C (f := Model_latestSeen v0_26) (w := wModel E a0 (rf2 h0_0 h0_1) v0_26) (w' := wModel E a0 (rf2 h0_0 h0_1) v0_33) (gs' := [wModel E a0 (rf2 h0_0 h0_1) v0_33]) 0 8 rfl c_Model_latestSeen (inB_vp g_1) (by rw [e_v0_33]; exact s_Model_latestSeen) rfl dX9_see_33 ?_
    obtain rfl := Option.some.inj hf
    exact ww_vret C ⟨rfl, rfl⟩ dX9_see_34

theorem yk_X9_see : yX9_see.cls = RX9 ∧ yX9_see.cls ≠ "java/lang/invoke/MethodHandle" ∧ yX9_see.cls ≠ "java/lang/invoke/VarHandle" ∧ (parseMethodDescriptor yX9_see.desc).map (fun d => d.parameters.length) = some 2 := by decide +kernel
abbrev rmX9_layCycle : Room := { frames := 4, cells := 0, slots := 0, locals := 88 }
set_option maxRecDepth 20000 in
theorem in_X9_layCycle_X9 : ∀ w ∈ u_ws RX9 TX9 35, w ∈ wsX9_layCycle := by decide +kernel
set_option maxHeartbeats 4000000 in
set_option maxRecDepth 100000 in
theorem w_X9_layCycle_68 {E : Ex} {K : Kx} (C : Cx E K cX9_layCycle 3 none RX9 wsX9_layCycle rmX9_layCycle) {a0 : Nat → Nat} {h0_1 : Nat}  {x1 : Int32} {k54 : Int32 → ModelV → Option ModelV} {r : ModelV} (hk54 : ∀ (x1 : Int32) (v0 : ModelV), k54 x1 v0 = some r → WW E K 0 0 (QQ E K (fun rv g => rv = none ∧ g = [wModel E a0 (rf2 (a0 1) h0_1) r]) 0 0) 54 [(0, .ref (a0 0)), (1, .int x1)] [] [wModel E a0 (rf2 (a0 1) h0_1) v0]) : ∀ (n : Nat) (x2 : Int32) (v0 : ModelV), Mod_layCycle_68 x1 k54 n x2 v0 = some r → WW E K 0 0 (QQ E K (fun rv g => rv = none ∧ g = [wModel E a0 (rf2 (a0 1) h0_1) r]) 0 0) 68 [(0, .ref (a0 0)), (1, .int x1), (2, .int x2)] [] [wModel E a0 (rf2 (a0 1) h0_1) v0] := by
  intro n
  induction n with
  | zero =>
    intro x2 v0 hf
    simp [Mod_layCycle_68] at hf
  | succ n ih =>
    intro x2 v0 hf
    rw [Mod_layCycle_68] at hf
    refine ww_iload_n C dX9_layCycle_68 rfl 2 rfl ?_
    refine ww_if_eq (tgt := 90) C dX9_layCycle_69 (by decide) (fun c_4 => ?_) (fun c_4 => ?_)
    · replace hf := ifT c_4 hf
      obtain ⟨x1_90, e_x1_90⟩ : ∃ y : Int32, y = x1 + 1 := ⟨_, rfl⟩
      replace hf := ltE e_x1_90 hf
      refine ww_iinc (v := x1_90) (lv' := [(1, .int x1_90), (0, .ref (a0 0)), (2, .int x2)]) C dX9_layCycle_90 1 rfl (by rw [e_x1_90]; rfl) (by decide) rfl ?_
      refine ww_goto (tgt := 54) C dX9_layCycle_93 (by decide) ?_
      refine ww_sub C (lv' := [(0, .ref (a0 0)), (1, .int x1_90)]) [1, 0] rfl ?_
      exact hk54 _ _ hf
    · replace hf := ifF c_4 hf
      refine ww_aload_n C dX9_layCycle_72 rfl 0 rfl ?_
      refine ww_iload_n C dX9_layCycle_73 rfl 2 rfl ?_
      obtain ⟨p74, hp74, hf⟩ := bdE hf
      refine ww_callS C (As := [.int x2]) (st := [.ref (a0 0)]) (gr := [wModel E a0 (rf2 (a0 1) h0_1) v0]) (c_J6_numberOfTrailingZeros_0f7a4 (E := E)  hp74) gX9_layCycle_J6_numberOfTrailingZeros_0f7a4 rfl ysk_J6_numberOfTrailingZeros_0f7a4 ⟨by decide, by decide⟩ ⟨by decide, by decide⟩ [] [0] 1 rfl (by decide) rfl rfl (Nat.le_of_ble_eq_true rfl) dX9_layCycle_74 ?_
      rintro _ _ ⟨rfl, rfl⟩
      refine ww_perm (gs' := [wModel E a0 (rf2 (a0 1) h0_1) v0]) [0] 1 rfl (by decide) rfl ?_
      refine ww_iload_n C dX9_layCycle_77 rfl 1 rfl ?_
      obtain ⟨p78, hp78, hf⟩ := bdE hf
      refine ww_callV C (As := [.int p74, .int x1]) (st := []) (gr := []) (c_X9_see (E := E) (a0 := a0) (h0_0 := a0 1) (h0_1 := h0_1) hp78) gX9_layCycle_X9_see rfl yk_X9_see ⟨by decide, by decide⟩ ⟨by decide, by decide⟩ clOK9 0 0 rfl rfl [0] [] 1 rfl (by decide) rfl rfl (Nat.le_of_ble_eq_true rfl) dX9_layCycle_78 ?_
      rintro _ _ ⟨rfl, rfl⟩
      refine ww_perm (gs' := [wModel E a0 (rf2 (a0 1) h0_1) p78]) [0] 1 rfl (by decide) rfl ?_
      refine ww_iload_n C dX9_layCycle_81 rfl 2 rfl ?_
      refine ww_iload_n C dX9_layCycle_82 rfl 2 rfl ?_
      refine ww_iconst (v := 1) C dX9_layCycle_83 (by decide) ?_
      refine ww_isub C dX9_layCycle_84 ?_
      refine ww_iand C dX9_layCycle_85 ?_
      refine ww_topi (fun x2_86 e_x2_86 => ?_)
      replace hf := ltE e_x2_86 hf
      refine ww_istore_n (lv' := [(2, .int x2_86), (0, .ref (a0 0)), (1, .int x1)]) C dX9_layCycle_86 rfl (by decide) rfl ?_
      refine ww_goto (tgt := 68) C dX9_layCycle_87 (by decide) ?_
      refine ww_sub C (lv' := [(0, .ref (a0 0)), (1, .int x1), (2, .int x2_86)]) [1, 2, 0] rfl ?_
      exact ih _ _ hf

set_option maxHeartbeats 4000000 in
set_option maxRecDepth 100000 in
theorem w_X9_layCycle_98 {E : Ex} {K : Kx} (C : Cx E K cX9_layCycle 3 none RX9 wsX9_layCycle rmX9_layCycle) {a0 : Nat → Nat} {h0_1 : Nat}   {r : ModelV} : ∀ (n : Nat) (x1 : Int32) (v0 : ModelV), Mod_layCycle_98 n x1 v0 = some r → WW E K 0 0 (QQ E K (fun rv g => rv = none ∧ g = [wModel E a0 (rf2 (a0 1) h0_1) r]) 0 0) 98 [(0, .ref (a0 0)), (1, .int x1)] [] [wModel E a0 (rf2 (a0 1) h0_1) v0] := by
  intro n
  induction n with
  | zero =>
    intro x1 v0 hf
    simp [Mod_layCycle_98] at hf
  | succ n ih =>
    intro x1 v0 hf
    rw [Mod_layCycle_98] at hf
    refine ww_iload_n C dX9_layCycle_98 rfl 1 rfl ?_
    refine ww_aload_n C dX9_layCycle_99 rfl 0 rfl ?_
    obtain ⟨p100, hp100, hf⟩ := bdE hf
    refine ww_callV C (As := []) (st := [.int x1]) (gr := []) (c_X9_rooms (E := E) (a0 := a0) (h0_1 := h0_1) hp100) gX9_layCycle_X9_rooms rfl yk_X9_rooms ⟨by decide, by decide⟩ ⟨by decide, by decide⟩ clOK9 0 0 rfl rfl [0] [] 1 rfl (by decide) rfl rfl (Nat.le_of_ble_eq_true rfl) dX9_layCycle_100 ?_
    rintro _ _ ⟨rfl, rfl⟩
    refine ww_perm (gs' := [wModel E a0 (rf2 (a0 1) h0_1) v0]) [0] 1 rfl (by decide) rfl ?_
    refine ww_icmp_ge (tgt := 168) C dX9_layCycle_103 (by decide) (fun c_6 => ?_) (fun c_6 => ?_)
    · replace hf := ifT c_6 hf
      obtain rfl := Option.some.inj hf
      exact ww_vret C ⟨rfl, rfl⟩ dX9_layCycle_168
    · replace hf := ifF c_6 hf
      refine ww_aload_n C dX9_layCycle_106 rfl 0 rfl ?_
      refine ww_get C clOK9 in_X9_layCycle_X9 (w := wModel E a0 (rf2 (a0 1) h0_1) v0) (fs := fsModel a0 (rf2 (a0 1) h0_1) v0) (v := .ref (a0 7)) 0 0 10 rfl q_Model (by decide) (by decide +kernel) g_Model_firstSeen dX9_layCycle_107 ?_
      refine ww_iload_n C dX9_layCycle_110 rfl 1 rfl ?_
      obtain ⟨g_7, hf⟩ := gdE hf
      refine ww_iald C (f := Model_firstSeen v0) (w := wModel E a0 (rf2 (a0 1) h0_1) v0) 0 7 rfl c_Model_firstSeen (inB_vp g_7) dX9_layCycle_111 ?_
      refine ww_iconst (v := (-1)) C dX9_layCycle_112 (by decide) ?_
      refine ww_icmp_eq (tgt := 162) C dX9_layCycle_113 (by decide) (fun c_8 => ?_) (fun c_8 => ?_)
      · replace hf := ifT c_8 hf
        obtain ⟨x1_162, e_x1_162⟩ : ∃ y : Int32, y = x1 + 1 := ⟨_, rfl⟩
        replace hf := ltE e_x1_162 hf
        refine ww_iinc (v := x1_162) (lv' := [(1, .int x1_162), (0, .ref (a0 0))]) C dX9_layCycle_162 1 rfl (by rw [e_x1_162]; rfl) (by decide) rfl ?_
        refine ww_goto (tgt := 98) C dX9_layCycle_165 (by decide) ?_
        refine ww_sub C (lv' := [(0, .ref (a0 0)), (1, .int x1_162)]) [1, 0] rfl ?_
        exact ih _ _ hf
      · replace hf := ifF c_8 hf
        refine ww_aload_n C dX9_layCycle_116 rfl 0 rfl ?_
        refine ww_get C clOK9 in_X9_layCycle_X9 (w := wModel E a0 (rf2 (a0 1) h0_1) v0) (fs := fsModel a0 (rf2 (a0 1) h0_1) v0) (v := .int (Model_cycleNow v0)) 0 0 15 rfl q_Model (by decide) (by decide +kernel) g_Model_cycleNow dX9_layCycle_117 ?_
        refine ww_aload_n C dX9_layCycle_120 rfl 0 rfl ?_
        refine ww_get C clOK9 in_X9_layCycle_X9 (w := wModel E a0 (rf2 (a0 1) h0_1) v0) (fs := fsModel a0 (rf2 (a0 1) h0_1) v0) (v := .ref (a0 8)) 0 0 11 rfl q_Model (by decide) (by decide +kernel) g_Model_latestSeen dX9_layCycle_121 ?_
        refine ww_iload_n C dX9_layCycle_124 rfl 1 rfl ?_
        refine ww_iald C (f := Model_latestSeen v0) (w := wModel E a0 (rf2 (a0 1) h0_1) v0) 0 8 rfl c_Model_latestSeen (inB_vp g_7) dX9_layCycle_125 ?_
        refine ww_isub C dX9_layCycle_126 ?_
        refine ww_iconst (v := 1) C dX9_layCycle_127 (by decide) ?_
        refine ww_isub C dX9_layCycle_128 ?_
        refine ww_aload_n C dX9_layCycle_129 rfl 0 rfl ?_
        refine ww_get C clOK9 in_X9_layCycle_X9 (w := wModel E a0 (rf2 (a0 1) h0_1) v0) (fs := fsModel a0 (rf2 (a0 1) h0_1) v0) (v := .ref (a0 7)) 0 0 10 rfl q_Model (by decide) (by decide +kernel) g_Model_firstSeen dX9_layCycle_130 ?_
        refine ww_iload_n C dX9_layCycle_133 rfl 1 rfl ?_
        refine ww_iald C (f := Model_firstSeen v0) (w := wModel E a0 (rf2 (a0 1) h0_1) v0) 0 7 rfl c_Model_firstSeen (inB_vp g_7) dX9_layCycle_134 ?_
        refine ww_iadd C dX9_layCycle_135 ?_
        refine ww_topi (fun x2_136 e_x2_136 => ?_)
        replace hf := ltE e_x2_136 hf
        refine ww_istore_n (lv' := [(2, .int x2_136), (0, .ref (a0 0)), (1, .int x1)]) C dX9_layCycle_136 rfl (by decide) rfl ?_
        refine ww_aload_n C dX9_layCycle_137 rfl 1 rfl ?_
        refine ww_iload_n C dX9_layCycle_138 rfl 2 rfl ?_
        refine ww_aload_n C dX9_layCycle_139 rfl 1 rfl ?_
        refine ww_get C clOK9 in_X9_layCycle_X9 (w := wModel E a0 (rf2 (a0 1) h0_1) v0) (fs := fsModel a0 (rf2 (a0 1) h0_1) v0) (v := .ref (a0 8)) 0 0 11 rfl q_Model (by decide) (by decide +kernel) g_Model_latestSeen dX9_layCycle_140 ?_
        refine ww_iload_n C dX9_layCycle_143 rfl 2 rfl ?_
        refine ww_iald C (f := Model_latestSeen v0) (w := wModel E a0 (rf2 (a0 1) h0_1) v0) 0 8 rfl c_Model_latestSeen (inB_vp g_7) dX9_layCycle_144 ?_
        refine ww_iload_n C dX9_layCycle_145 rfl 0 rfl ?_
        refine ww_aload_n C dX9_layCycle_146 rfl 1 rfl ?_
        refine ww_get C clOK9 in_X9_layCycle_X9 (w := wModel E a0 (rf2 (a0 1) h0_1) v0) (fs := fsModel a0 (rf2 (a0 1) h0_1) v0) (v := .ref (a0 8)) 0 0 11 rfl q_Model (by decide) (by decide +kernel) g_Model_latestSeen dX9_layCycle_147 ?_
        refine ww_iload_n C dX9_layCycle_150 rfl 2 rfl ?_
        refine ww_iald C (f := Model_latestSeen v0) (w := wModel E a0 (rf2 (a0 1) h0_1) v0) 0 8 rfl c_Model_latestSeen (inB_vp g_7) dX9_layCycle_151 ?_
        refine ww_iconst (v := 1) C dX9_layCycle_152 (by decide) ?_
        refine ww_iadd C dX9_layCycle_153 ?_
        refine ww_aload_n C dX9_layCycle_154 rfl 1 rfl ?_
        refine ww_get C clOK9 in_X9_layCycle_X9 (w := wModel E a0 (rf2 (a0 1) h0_1) v0) (fs := fsModel a0 (rf2 (a0 1) h0_1) v0) (v := .int (Model_cycleNow v0)) 0 0 15 rfl q_Model (by decide) (by decide +kernel) g_Model_cycleNow dX9_layCycle_155 ?_
        obtain ⟨g_10, hf⟩ := gdE hf
        refine ww_irem C dX9_layCycle_158 (nz_ne g_10) ?_
        obtain ⟨p159, hp159, hf⟩ := bdE hf
        refine ww_callV C (As := [.int x1, .int ((Model_latestSeen v0) (Int32.toNatClampNeg x1)), .int x2_136, .int ((((Model_latestSeen v0) (Int32.toNatClampNeg x1)) + 1) - (((Model_latestSeen v0) (Int32.toNatClampNeg x1)) + 1) / (Model_cycleNow v0) * (Model_cycleNow v0))]) (st := []) (gr := []) (c_X9_endGap (E := E) (a0 := a0) (h0_0 := a0 1) (h0_1 := h0_1) hp159) gX9_layCycle_X9_endGap rfl yk_X9_endGap ⟨by decide, by decide⟩ ⟨by decide, by decide⟩ clOK9 0 0 rfl rfl [0] [] 1 rfl (by decide) rfl rfl (Nat.le_of_ble_eq_true rfl) dX9_layCycle_159 ?_
        rintro _ _ ⟨rfl, rfl⟩
        refine ww_perm (gs' := [wModel E a0 (rf2 (a0 1) h0_1) p159]) [0] 1 rfl (by decide) rfl ?_
        obtain ⟨x1_162, e_x1_162⟩ : ∃ y : Int32, y = x1 + 1 := ⟨_, rfl⟩
        replace hf := ltE e_x1_162 hf
        refine ww_iinc (v := x1_162) (lv' := [(1, .int x1_162), (2, .int x2_136), (0, .ref (a0 0))]) C dX9_layCycle_162 2 rfl (by rw [e_x1_162]; rfl) (by decide) rfl ?_
        refine ww_goto (tgt := 98) C dX9_layCycle_165 (by decide) ?_
        refine ww_sub C (lv' := [(0, .ref (a0 0)), (1, .int x1_162)]) [2, 0] rfl ?_
        exact ih _ _ hf

set_option maxHeartbeats 4000000 in
set_option maxRecDepth 100000 in
theorem w_X9_layCycle_54 {E : Ex} {K : Kx} (C : Cx E K cX9_layCycle 3 none RX9 wsX9_layCycle rmX9_layCycle) {a0 : Nat → Nat} {h0_1 : Nat}   {r : ModelV} : ∀ (n : Nat) (x1 : Int32) (v0 : ModelV), Mod_layCycle_54 n x1 v0 = some r → WW E K 0 0 (QQ E K (fun rv g => rv = none ∧ g = [wModel E a0 (rf2 (a0 1) h0_1) r]) 0 0) 54 [(0, .ref (a0 0)), (1, .int x1)] [] [wModel E a0 (rf2 (a0 1) h0_1) v0] := by
  intro n
  induction n with
  | zero =>
    intro x1 v0 hf
    simp [Mod_layCycle_54] at hf
  | succ n ih =>
    intro x1 v0 hf
    rw [Mod_layCycle_54] at hf
    refine ww_iload_n C dX9_layCycle_54 rfl 1 rfl ?_
    refine ww_aload_n C dX9_layCycle_55 rfl 0 rfl ?_
    refine ww_get C clOK9 in_X9_layCycle_X9 (w := wModel E a0 (rf2 (a0 1) h0_1) v0) (fs := fsModel a0 (rf2 (a0 1) h0_1) v0) (v := .int (Model_cycleNow v0)) 0 0 15 rfl q_Model (by decide) (by decide +kernel) g_Model_cycleNow dX9_layCycle_56 ?_
    refine ww_icmp_ge (tgt := 96) C dX9_layCycle_59 (by decide) (fun c_3 => ?_) (fun c_3 => ?_)
    · replace hf := ifT c_3 hf
      refine ww_iconst (v := 0) C dX9_layCycle_96 (by decide) ?_
      refine ww_istore_n (lv' := [(1, .int 0), (0, .ref (a0 0))]) C dX9_layCycle_97 rfl (by decide) rfl ?_
      refine ww_sub C (lv' := [(0, .ref (a0 0)), (1, .int 0)]) [1, 0] rfl ?_
      exact w_X9_layCycle_98 C FU _ _ hf
    · replace hf := ifF c_3 hf
      refine ww_aload_n C dX9_layCycle_62 rfl 0 rfl ?_
      refine ww_iload_n C dX9_layCycle_63 rfl 1 rfl ?_
      obtain ⟨p64, hp64, hf⟩ := bdE hf
      refine ww_callV C (As := [.int x1]) (st := []) (gr := []) (c_X9_seenAt (E := E) (a0 := a0) (h0_1 := h0_1) hp64) gX9_layCycle_X9_seenAt rfl yk_X9_seenAt ⟨by decide, by decide⟩ ⟨by decide, by decide⟩ clOK9 0 0 rfl rfl [0] [] 1 rfl (by decide) rfl rfl (Nat.le_of_ble_eq_true rfl) dX9_layCycle_64 ?_
      rintro _ _ ⟨rfl, rfl⟩
      refine ww_perm (gs' := [wModel E a0 (rf2 (a0 1) h0_1) v0]) [0] 1 rfl (by decide) rfl ?_
      refine ww_istore_n (lv' := [(2, .int p64), (0, .ref (a0 0)), (1, .int x1)]) C dX9_layCycle_67 rfl (by decide) rfl ?_
      refine ww_sub C (lv' := [(0, .ref (a0 0)), (1, .int x1), (2, .int p64)]) [1, 2, 0] rfl ?_
      exact w_X9_layCycle_68 C (k54 := (fun (x1 : Int32) (v0 : ModelV) => Mod_layCycle_54 n x1 v0)) ih FU _ _ hf

set_option maxHeartbeats 4000000 in
set_option maxRecDepth 100000 in
theorem w_X9_layCycle_10 {E : Ex} {K : Kx} (C : Cx E K cX9_layCycle 3 none RX9 wsX9_layCycle rmX9_layCycle) {a0 : Nat → Nat} {h0_1 : Nat}   {r : ModelV} : ∀ (n : Nat) (x1 : Int32) (v0 : ModelV), Mod_layCycle_10 n x1 v0 = some r → WW E K 0 0 (QQ E K (fun rv g => rv = none ∧ g = [wModel E a0 (rf2 (a0 1) h0_1) r]) 0 0) 10 [(0, .ref (a0 0)), (1, .int x1)] [] [wModel E a0 (rf2 (a0 1) h0_1) v0] := by
  intro n
  induction n with
  | zero =>
    intro x1 v0 hf
    simp [Mod_layCycle_10] at hf
  | succ n ih =>
    intro x1 v0 hf
    rw [Mod_layCycle_10] at hf
    refine ww_iload_n C dX9_layCycle_10 rfl 1 rfl ?_
    refine ww_aload_n C dX9_layCycle_11 rfl 0 rfl ?_
    obtain ⟨p12, hp12, hf⟩ := bdE hf
    refine ww_callV C (As := []) (st := [.int x1]) (gr := []) (c_X9_rooms (E := E) (a0 := a0) (h0_1 := h0_1) hp12) gX9_layCycle_X9_rooms rfl yk_X9_rooms ⟨by decide, by decide⟩ ⟨by decide, by decide⟩ clOK9 0 0 rfl rfl [0] [] 1 rfl (by decide) rfl rfl (Nat.le_of_ble_eq_true rfl) dX9_layCycle_12 ?_
    rintro _ _ ⟨rfl, rfl⟩
    refine ww_perm (gs' := [wModel E a0 (rf2 (a0 1) h0_1) v0]) [0] 1 rfl (by decide) rfl ?_
    refine ww_icmp_ge (tgt := 52) C dX9_layCycle_15 (by decide) (fun c_1 => ?_) (fun c_1 => ?_)
    · replace hf := ifT c_1 hf
      refine ww_iconst (v := 0) C dX9_layCycle_52 (by decide) ?_
      refine ww_istore_n (lv' := [(1, .int 0), (0, .ref (a0 0))]) C dX9_layCycle_53 rfl (by decide) rfl ?_
      refine ww_sub C (lv' := [(0, .ref (a0 0)), (1, .int 0)]) [1, 0] rfl ?_
      exact w_X9_layCycle_54 C FU _ _ hf
    · replace hf := ifF c_1 hf
      refine ww_aload_n C dX9_layCycle_18 rfl 0 rfl ?_
      refine ww_get C clOK9 in_X9_layCycle_X9 (w := wModel E a0 (rf2 (a0 1) h0_1) v0) (fs := fsModel a0 (rf2 (a0 1) h0_1) v0) (v := .ref (a0 7)) 0 0 10 rfl q_Model (by decide) (by decide +kernel) g_Model_firstSeen dX9_layCycle_19 ?_
      refine ww_iload_n C dX9_layCycle_22 rfl 1 rfl ?_
      refine ww_iconst (v := (-1)) C dX9_layCycle_23 (by decide) ?_
      obtain ⟨g_2, hf⟩ := gdE hf
      obtain ⟨v0_24, e_v0_24⟩ : ∃ y : ModelV, y = Model_set_firstSeen v0 (upd (Model_firstSeen v0) (Int32.toNatClampNeg x1) (-1)) := ⟨_, rfl⟩
      replace hf := ltE e_v0_24 hf
      refine ww_iast C (f := Model_firstSeen v0) (w := wModel E a0 (rf2 (a0 1) h0_1) v0) (w' := wModel E a0 (rf2 (a0 1) h0_1) v0_24) (gs' := [wModel E a0 (rf2 (a0 1) h0_1) v0_24]) 0 7 rfl c_Model_firstSeen (inB_vp g_2) (by rw [e_v0_24]; exact s_Model_firstSeen) rfl dX9_layCycle_24 ?_
      refine ww_aload_n C dX9_layCycle_25 rfl 0 rfl ?_
      refine ww_get C clOK9 in_X9_layCycle_X9 (w := wModel E a0 (rf2 (a0 1) h0_1) v0_24) (fs := fsModel a0 (rf2 (a0 1) h0_1) v0_24) (v := .ref (a0 9)) 0 0 12 rfl q_Model (by decide) (by decide +kernel) g_Model_seenCount dX9_layCycle_26 ?_
      refine ww_iload_n C dX9_layCycle_29 rfl 1 rfl ?_
      refine ww_iconst (v := 0) C dX9_layCycle_30 (by decide) ?_
      obtain ⟨v0_31, e_v0_31⟩ : ∃ y : ModelV, y = Model_set_seenCount v0_24 (upd (Model_seenCount v0_24) (Int32.toNatClampNeg x1) 0) := ⟨_, rfl⟩
      replace hf := ltE e_v0_31 hf
      refine ww_iast C (f := Model_seenCount v0_24) (w := wModel E a0 (rf2 (a0 1) h0_1) v0_24) (w' := wModel E a0 (rf2 (a0 1) h0_1) v0_31) (gs' := [wModel E a0 (rf2 (a0 1) h0_1) v0_31]) 0 9 rfl c_Model_seenCount (inB_vp g_2) (by rw [e_v0_31]; exact s_Model_seenCount) rfl dX9_layCycle_31 ?_
      refine ww_aload_n C dX9_layCycle_32 rfl 0 rfl ?_
      refine ww_get C clOK9 in_X9_layCycle_X9 (w := wModel E a0 (rf2 (a0 1) h0_1) v0_31) (fs := fsModel a0 (rf2 (a0 1) h0_1) v0_31) (v := .ref (a0 10)) 0 0 13 rfl q_Model (by decide) (by decide +kernel) g_Model_gap dX9_layCycle_33 ?_
      refine ww_iload_n C dX9_layCycle_36 rfl 1 rfl ?_
      refine ww_iconst (v := (-1)) C dX9_layCycle_37 (by decide) ?_
      obtain ⟨v0_38, e_v0_38⟩ : ∃ y : ModelV, y = Model_set_gap v0_31 (upd (Model_gap v0_31) (Int32.toNatClampNeg x1) (-1)) := ⟨_, rfl⟩
      replace hf := ltE e_v0_38 hf
      refine ww_iast C (f := Model_gap v0_31) (w := wModel E a0 (rf2 (a0 1) h0_1) v0_31) (w' := wModel E a0 (rf2 (a0 1) h0_1) v0_38) (gs' := [wModel E a0 (rf2 (a0 1) h0_1) v0_38]) 0 10 rfl c_Model_gap (inB_vp g_2) (by rw [e_v0_38]; exact s_Model_gap) rfl dX9_layCycle_38 ?_
      refine ww_aload_n C dX9_layCycle_39 rfl 0 rfl ?_
      refine ww_get C clOK9 in_X9_layCycle_X9 (w := wModel E a0 (rf2 (a0 1) h0_1) v0_38) (fs := fsModel a0 (rf2 (a0 1) h0_1) v0_38) (v := .ref (a0 11)) 0 0 14 rfl q_Model (by decide) (by decide +kernel) g_Model_gapBegin dX9_layCycle_40 ?_
      refine ww_iload_n C dX9_layCycle_43 rfl 1 rfl ?_
      refine ww_iconst (v := (-1)) C dX9_layCycle_44 (by decide) ?_
      obtain ⟨v0_45, e_v0_45⟩ : ∃ y : ModelV, y = Model_set_gapBegin v0_38 (upd (Model_gapBegin v0_38) (Int32.toNatClampNeg x1) (-1)) := ⟨_, rfl⟩
      replace hf := ltE e_v0_45 hf
      refine ww_iast C (f := Model_gapBegin v0_38) (w := wModel E a0 (rf2 (a0 1) h0_1) v0_38) (w' := wModel E a0 (rf2 (a0 1) h0_1) v0_45) (gs' := [wModel E a0 (rf2 (a0 1) h0_1) v0_45]) 0 11 rfl c_Model_gapBegin (inB_vp g_2) (by rw [e_v0_45]; exact s_Model_gapBegin) rfl dX9_layCycle_45 ?_
      obtain ⟨x1_46, e_x1_46⟩ : ∃ y : Int32, y = x1 + 1 := ⟨_, rfl⟩
      replace hf := ltE e_x1_46 hf
      refine ww_iinc (v := x1_46) (lv' := [(1, .int x1_46), (0, .ref (a0 0))]) C dX9_layCycle_46 1 rfl (by rw [e_x1_46]; rfl) (by decide) rfl ?_
      refine ww_goto (tgt := 10) C dX9_layCycle_49 (by decide) ?_
      refine ww_sub C (lv' := [(0, .ref (a0 0)), (1, .int x1_46)]) [1, 0] rfl ?_
      exact ih _ _ hf

set_option maxHeartbeats 4000000 in
set_option maxRecDepth 100000 in
theorem c_X9_layCycle {E : Ex} {a0 : Nat → Nat} {h0_1 : Nat} {v0 : ModelV} {r : ModelV} (hf : Mod_layCycle v0 = some r) : Ct E yX9_layCycle wsX9_layCycle rmX9_layCycle [.ref (a0 0)] [wModel E a0 (rf2 (a0 1) h0_1) v0] (fun rv g => rv = none ∧ g = [wModel E a0 (rf2 (a0 1) h0_1) r]) := by
  refine ct_of (own := RX9) (by decide +kernel) rfl rfl (Nat.le_of_ble_eq_true rfl) (fun K C => ?_)
  refine ww_sub C (lv' := [(0, .ref (a0 0))]) [0] rfl ?_
  rw [Mod_layCycle] at hf
  refine ww_aload_n C dX9_layCycle_0 rfl 0 rfl ?_
  refine ww_aload_n C dX9_layCycle_1 rfl 0 rfl ?_
  obtain ⟨p2, hp2, hf⟩ := bdE hf
  refine ww_callV C (As := []) (st := [.ref (a0 0)]) (gr := []) (c_X9_cycle (E := E) (a0 := a0) (h0_1 := h0_1) hp2) gX9_layCycle_X9_cycle rfl yk_X9_cycle ⟨by decide, by decide⟩ ⟨by decide, by decide⟩ clOK9 0 0 rfl rfl [0] [] 1 rfl (by decide) rfl rfl (Nat.le_of_ble_eq_true rfl) dX9_layCycle_2 ?_
  rintro _ _ ⟨rfl, rfl⟩
  refine ww_perm (gs' := [wModel E a0 (rf2 (a0 1) h0_1) v0]) [0] 1 rfl (by decide) rfl ?_
  obtain ⟨v0_5, e_v0_5⟩ : ∃ y : ModelV, y = Model_set_cycleNow v0 p2 := ⟨_, rfl⟩
  replace hf := ltE e_v0_5 hf
  refine ww_put C clOK9 in_X9_layCycle_X9 (w := wModel E a0 (rf2 (a0 1) h0_1) v0) (fs := fsModel a0 (rf2 (a0 1) h0_1) v0) (w' := wModel E a0 (rf2 (a0 1) h0_1) v0_5) (gs' := [wModel E a0 (rf2 (a0 1) h0_1) v0_5]) 0 0 15 rfl q_Model (by decide) (by decide +kernel) rfl rfl rfl rfl l_Model (by rw [e_v0_5]; exact p_Model_cycleNow) rfl dX9_layCycle_5 ?_
  refine ww_iconst (v := 0) C dX9_layCycle_8 (by decide) ?_
  refine ww_istore_n (lv' := [(1, .int 0), (0, .ref (a0 0))]) C dX9_layCycle_9 rfl (by decide) rfl ?_
  refine ww_sub C (lv' := [(0, .ref (a0 0)), (1, .int 0)]) [1, 0] rfl ?_
  exact w_X9_layCycle_10 C FU _ _ hf

theorem yk_X9_layCycle : yX9_layCycle.cls = RX9 ∧ yX9_layCycle.cls ≠ "java/lang/invoke/MethodHandle" ∧ yX9_layCycle.cls ≠ "java/lang/invoke/VarHandle" ∧ (parseMethodDescriptor yX9_layCycle.desc).map (fun d => d.parameters.length) = some 0 := by decide +kernel
abbrev rmX9_layNow : Room := { frames := 5, cells := 0, slots := 0, locals := 110 }
set_option maxHeartbeats 4000000 in
set_option maxRecDepth 100000 in
theorem c_X9_layNow {E : Ex} {a0 : Nat → Nat} {h0_1 : Nat} {v0 : ModelV} {r : ModelV} (hf : Mod_layNow v0 = some r) : Ct E yX9_layNow wsX9_layNow rmX9_layNow [.ref (a0 0)] [wModel E a0 (rf2 (a0 1) h0_1) v0] (fun rv g => rv = none ∧ g = [wModel E a0 (rf2 (a0 1) h0_1) r]) := by
  refine ct_of (own := RX9) (by decide +kernel) rfl rfl (Nat.le_of_ble_eq_true rfl) (fun K C => ?_)
  refine ww_sub C (lv' := [(0, .ref (a0 0))]) [0] rfl ?_
  rw [Mod_layNow] at hf
  refine ww_aload_n C dX9_layNow_0 rfl 0 rfl ?_
  obtain ⟨p1, hp1, hf⟩ := bdE hf
  refine ww_callV C (As := []) (st := []) (gr := []) (c_X9_takePhases (E := E) (a0 := a0) (h0_1 := h0_1) hp1) gX9_layNow_X9_takePhases rfl yk_X9_takePhases ⟨by decide, by decide⟩ ⟨by decide, by decide⟩ clOK9 0 0 rfl rfl [0] [] 1 rfl (by decide) rfl rfl (Nat.le_of_ble_eq_true rfl) dX9_layNow_1 ?_
  rintro _ _ ⟨rfl, rfl⟩
  refine ww_perm (gs' := [wModel E a0 (rf2 (a0 1) h0_1) p1]) [0] 1 rfl (by decide) rfl ?_
  refine ww_aload_n C dX9_layNow_4 rfl 0 rfl ?_
  obtain ⟨p5, hp5, hf⟩ := bdE hf
  refine ww_callV C (As := []) (st := []) (gr := []) (c_X9_layCycle (E := E) (a0 := a0) (h0_1 := h0_1) hp5) gX9_layNow_X9_layCycle rfl yk_X9_layCycle ⟨by decide, by decide⟩ ⟨by decide, by decide⟩ clOK9 0 0 rfl rfl [0] [] 1 rfl (by decide) rfl rfl (Nat.le_of_ble_eq_true rfl) dX9_layNow_5 ?_
  rintro _ _ ⟨rfl, rfl⟩
  refine ww_perm (gs' := [wModel E a0 (rf2 (a0 1) h0_1) p5]) [0] 1 rfl (by decide) rfl ?_
  obtain rfl := Option.some.inj hf
  exact ww_vret C ⟨rfl, rfl⟩ dX9_layNow_8

theorem yk_X9_layNow : yX9_layNow.cls = RX9 ∧ yX9_layNow.cls ≠ "java/lang/invoke/MethodHandle" ∧ yX9_layNow.cls ≠ "java/lang/invoke/VarHandle" ∧ (parseMethodDescriptor yX9_layNow.desc).map (fun d => d.parameters.length) = some 0 := by decide +kernel
abbrev rmX9_worstLaid : Room := { frames := 1, cells := 0, slots := 0, locals := 21 }
set_option maxRecDepth 20000 in
theorem in_X9_worstLaid_X9 : ∀ w ∈ u_ws RX9 TX9 35, w ∈ wsX9_worstLaid := by decide +kernel
set_option maxHeartbeats 4000000 in
set_option maxRecDepth 100000 in
theorem w_X9_worstLaid_4 {E : Ex} {K : Kx} (C : Cx E K cX9_worstLaid 3 (some .int) RX9 wsX9_worstLaid rmX9_worstLaid) {a0 : Nat → Nat} {h0_1 : Nat} {v0 : ModelV}  {r : Int32} : ∀ (n : Nat) (x1 : Int32) (x2 : Int32), Mod_worstLaid_4 v0 n x1 x2 = some r → WW E K 0 0 (QQ E K (fun rv g => rv = some (.int r) ∧ g = [wModel E a0 (rf2 (a0 1) h0_1) v0]) 0 0) 4 [(0, .ref (a0 0)), (1, .int x1), (2, .int x2)] [] [wModel E a0 (rf2 (a0 1) h0_1) v0] := by
  intro n
  induction n with
  | zero =>
    intro x1 x2 hf
    simp [Mod_worstLaid_4] at hf
  | succ n ih =>
    intro x1 x2 hf
    rw [Mod_worstLaid_4] at hf
    refine ww_iload_n C dX9_worstLaid_4 rfl 2 rfl ?_
    refine ww_aload_n C dX9_worstLaid_5 rfl 0 rfl ?_
    obtain ⟨p6, hp6, hf⟩ := bdE hf
    refine ww_callV C (As := []) (st := [.int x2]) (gr := []) (c_X9_rooms (E := E) (a0 := a0) (h0_1 := h0_1) hp6) gX9_worstLaid_X9_rooms rfl yk_X9_rooms ⟨by decide, by decide⟩ ⟨by decide, by decide⟩ clOK9 0 0 rfl rfl [0] [] 1 rfl (by decide) rfl rfl (Nat.le_of_ble_eq_true rfl) dX9_worstLaid_6 ?_
    rintro _ _ ⟨rfl, rfl⟩
    refine ww_perm (gs' := [wModel E a0 (rf2 (a0 1) h0_1) v0]) [0] 1 rfl (by decide) rfl ?_
    refine ww_icmp_ge (tgt := 29) C dX9_worstLaid_9 (by decide) (fun c_1 => ?_) (fun c_1 => ?_)
    · replace hf := ifT c_1 hf
      refine ww_iload_n C dX9_worstLaid_29 rfl 1 rfl ?_
      obtain rfl := Option.some.inj hf
      exact ww_iret C ⟨rfl, rfl⟩ dX9_worstLaid_30
    · replace hf := ifF c_1 hf
      refine ww_iload_n C dX9_worstLaid_12 rfl 1 rfl ?_
      refine ww_aload_n C dX9_worstLaid_13 rfl 0 rfl ?_
      refine ww_get C clOK9 in_X9_worstLaid_X9 (w := wModel E a0 (rf2 (a0 1) h0_1) v0) (fs := fsModel a0 (rf2 (a0 1) h0_1) v0) (v := .ref (a0 10)) 0 0 13 rfl q_Model (by decide) (by decide +kernel) g_Model_gap dX9_worstLaid_14 ?_
      refine ww_iload_n C dX9_worstLaid_17 rfl 2 rfl ?_
      obtain ⟨g_2, hf⟩ := gdE hf
      refine ww_iald C (f := Model_gap v0) (w := wModel E a0 (rf2 (a0 1) h0_1) v0) 0 10 rfl c_Model_gap (inB_vp g_2) dX9_worstLaid_18 ?_
      refine ww_max C (by decide +kernel) (by decide +kernel) (by decide +kernel) (by decide +kernel) (by decide) (Nat.le_of_ble_eq_true rfl) (by decide) (by decide) dX9_worstLaid_19 ?_
      refine ww_topi (fun x1_22 e_x1_22 => ?_)
      replace hf := ltE e_x1_22 hf
      refine ww_istore_n (lv' := [(1, .int x1_22), (0, .ref (a0 0)), (2, .int x2)]) C dX9_worstLaid_22 rfl (by decide) rfl ?_
      obtain ⟨x2_23, e_x2_23⟩ : ∃ y : Int32, y = x2 + 1 := ⟨_, rfl⟩
      replace hf := ltE e_x2_23 hf
      refine ww_iinc (v := x2_23) (lv' := [(2, .int x2_23), (1, .int x1_22), (0, .ref (a0 0))]) C dX9_worstLaid_23 2 rfl (by rw [e_x2_23]; rfl) (by decide) rfl ?_
      refine ww_goto (tgt := 4) C dX9_worstLaid_26 (by decide) ?_
      refine ww_sub C (lv' := [(0, .ref (a0 0)), (1, .int x1_22), (2, .int x2_23)]) [2, 1, 0] rfl ?_
      exact ih _ _ hf

set_option maxHeartbeats 4000000 in
set_option maxRecDepth 100000 in
theorem c_X9_worstLaid {E : Ex} {a0 : Nat → Nat} {h0_1 : Nat} {v0 : ModelV} {r : Int32} (hf : Mod_worstLaid v0 = some r) : Ct E yX9_worstLaid wsX9_worstLaid rmX9_worstLaid [.ref (a0 0)] [wModel E a0 (rf2 (a0 1) h0_1) v0] (fun rv g => rv = some (.int r) ∧ g = [wModel E a0 (rf2 (a0 1) h0_1) v0]) := by
  refine ct_of (own := RX9) (by decide +kernel) rfl rfl (Nat.le_of_ble_eq_true rfl) (fun K C => ?_)
  refine ww_sub C (lv' := [(0, .ref (a0 0))]) [0] rfl ?_
  rw [Mod_worstLaid] at hf
  refine ww_iconst (v := 0) C dX9_worstLaid_0 (by decide) ?_
  refine ww_istore_n (lv' := [(1, .int 0), (0, .ref (a0 0))]) C dX9_worstLaid_1 rfl (by decide) rfl ?_
  refine ww_iconst (v := 0) C dX9_worstLaid_2 (by decide) ?_
  refine ww_istore_n (lv' := [(2, .int 0), (1, .int 0), (0, .ref (a0 0))]) C dX9_worstLaid_3 rfl (by decide) rfl ?_
  refine ww_sub C (lv' := [(0, .ref (a0 0)), (1, .int 0), (2, .int 0)]) [2, 1, 0] rfl ?_
  exact w_X9_worstLaid_4 C FU _ _ hf

theorem yk_X9_worstLaid : yX9_worstLaid.cls = RX9 ∧ yX9_worstLaid.cls ≠ "java/lang/invoke/MethodHandle" ∧ yX9_worstLaid.cls ≠ "java/lang/invoke/VarHandle" ∧ (parseMethodDescriptor yX9_worstLaid.desc).map (fun d => d.parameters.length) = some 0 := by decide +kernel
abbrev rmX9_isLate : Room := { frames := 2, cells := 0, slots := 0, locals := 43 }
set_option maxRecDepth 20000 in
theorem in_X9_isLate_X9 : ∀ w ∈ u_ws RX9 TX9 35, w ∈ wsX9_isLate := by decide +kernel
set_option maxHeartbeats 4000000 in
set_option maxRecDepth 100000 in
theorem c_X9_isLate {E : Ex} {a0 : Nat → Nat} {h0_1 : Nat} {x1 : Int32} {v0 : ModelV} {r : Bool} (hf : Mod_isLate x1 v0 = some r) : Ct E yX9_isLate wsX9_isLate rmX9_isLate [.ref (a0 0), .int x1] [wModel E a0 (rf2 (a0 1) h0_1) v0] (fun rv g => rv = some (.int (b2i r)) ∧ g = [wModel E a0 (rf2 (a0 1) h0_1) v0]) := by
  refine ct_of (own := RX9) (by decide +kernel) rfl rfl (Nat.le_of_ble_eq_true rfl) (fun K C => ?_)
  refine ww_sub C (lv' := [(0, .ref (a0 0)), (1, .int x1)]) [0, 1] rfl ?_
  rw [Mod_isLate] at hf
  refine ww_aload_n C dX9_isLate_0 rfl 0 rfl ?_
  refine ww_get C clOK9 in_X9_isLate_X9 (w := wModel E a0 (rf2 (a0 1) h0_1) v0) (fs := fsModel a0 (rf2 (a0 1) h0_1) v0) (v := .ref (a0 10)) 0 0 13 rfl q_Model (by decide) (by decide +kernel) g_Model_gap dX9_isLate_1 ?_
  refine ww_iload_n C dX9_isLate_4 rfl 1 rfl ?_
  obtain ⟨g_1, hf⟩ := gdE hf
  refine ww_iald C (f := Model_gap v0) (w := wModel E a0 (rf2 (a0 1) h0_1) v0) 0 10 rfl c_Model_gap (inB_vp g_1) dX9_isLate_5 ?_
  refine ww_iconst (v := (-1)) C dX9_isLate_6 (by decide) ?_
  refine ww_icmp_eq (tgt := 25) C dX9_isLate_7 (by decide) (fun c_2 => ?_) (fun c_2 => ?_)
  · replace hf := ifT c_2 hf
    refine ww_iconst (v := 1) C dX9_isLate_25 (by decide) ?_
    refine ww_goto (tgt := 30) C dX9_isLate_26 (by decide) ?_
    obtain rfl := Option.some.inj hf
    exact ww_zret C (nar_b true) ⟨rfl, rfl⟩ dX9_isLate_30
  · replace hf := ifF c_2 hf
    refine ww_aload_n C dX9_isLate_10 rfl 0 rfl ?_
    refine ww_get C clOK9 in_X9_isLate_X9 (w := wModel E a0 (rf2 (a0 1) h0_1) v0) (fs := fsModel a0 (rf2 (a0 1) h0_1) v0) (v := .ref (a0 10)) 0 0 13 rfl q_Model (by decide) (by decide +kernel) g_Model_gap dX9_isLate_11 ?_
    refine ww_iload_n C dX9_isLate_14 rfl 1 rfl ?_
    refine ww_iald C (f := Model_gap v0) (w := wModel E a0 (rf2 (a0 1) h0_1) v0) 0 10 rfl c_Model_gap (inB_vp g_1) dX9_isLate_15 ?_
    refine ww_aload_n C dX9_isLate_16 rfl 0 rfl ?_
    refine ww_iload_n C dX9_isLate_17 rfl 1 rfl ?_
    refine ww_iconst (v := 0) C dX9_isLate_18 (by decide) ?_
    obtain ⟨p19, hp19, hf⟩ := bdE hf
    refine ww_callV C (As := [.int x1, .int 0]) (st := [.int ((Model_gap v0) (Int32.toNatClampNeg x1))]) (gr := []) (c_X9_ofRoom (E := E) (a0 := a0) (h0_1 := h0_1) hp19) gX9_isLate_X9_ofRoom rfl yk_X9_ofRoom ⟨by decide, by decide⟩ ⟨by decide, by decide⟩ clOK9 0 0 rfl rfl [0] [] 1 rfl (by decide) rfl rfl (Nat.le_of_ble_eq_true rfl) dX9_isLate_19 ?_
    rintro _ _ ⟨rfl, rfl⟩
    refine ww_perm (gs' := [wModel E a0 (rf2 (a0 1) h0_1) v0]) [0] 1 rfl (by decide) rfl ?_
    refine ww_icmp_le (tgt := 29) C dX9_isLate_22 (by decide) (fun c_3 => ?_) (fun c_3 => ?_)
    · replace hf := ifT c_3 hf
      refine ww_iconst (v := 0) C dX9_isLate_29 (by decide) ?_
      obtain rfl := Option.some.inj hf
      exact ww_zret C (nar_b false) ⟨rfl, rfl⟩ dX9_isLate_30
    · replace hf := ifF c_3 hf
      refine ww_iconst (v := 1) C dX9_isLate_25 (by decide) ?_
      refine ww_goto (tgt := 30) C dX9_isLate_26 (by decide) ?_
      obtain rfl := Option.some.inj hf
      exact ww_zret C (nar_b true) ⟨rfl, rfl⟩ dX9_isLate_30

theorem yk_X9_isLate : yX9_isLate.cls = RX9 ∧ yX9_isLate.cls ≠ "java/lang/invoke/MethodHandle" ∧ yX9_isLate.cls ≠ "java/lang/invoke/VarHandle" ∧ (parseMethodDescriptor yX9_isLate.desc).map (fun d => d.parameters.length) = some 1 := by decide +kernel
abbrev rmX9_lateLaid : Room := { frames := 3, cells := 0, slots := 0, locals := 64 }
set_option maxHeartbeats 4000000 in
set_option maxRecDepth 100000 in
theorem w_X9_lateLaid_4 {E : Ex} {K : Kx} (C : Cx E K cX9_lateLaid 3 (some .int) RX9 wsX9_lateLaid rmX9_lateLaid) {a0 : Nat → Nat} {h0_1 : Nat} {v0 : ModelV}  {r : Int32} : ∀ (n : Nat) (x1 : Int32) (x2 : Int32), Mod_lateLaid_4 v0 n x1 x2 = some r → WW E K 0 0 (QQ E K (fun rv g => rv = some (.int r) ∧ g = [wModel E a0 (rf2 (a0 1) h0_1) v0]) 0 0) 4 [(0, .ref (a0 0)), (1, .int x1), (2, .int x2)] [] [wModel E a0 (rf2 (a0 1) h0_1) v0] := by
  intro n
  induction n with
  | zero =>
    intro x1 x2 hf
    simp [Mod_lateLaid_4] at hf
  | succ n ih =>
    intro x1 x2 hf
    rw [Mod_lateLaid_4] at hf
    refine ww_iload_n C dX9_lateLaid_4 rfl 2 rfl ?_
    refine ww_aload_n C dX9_lateLaid_5 rfl 0 rfl ?_
    obtain ⟨p6, hp6, hf⟩ := bdE hf
    refine ww_callV C (As := []) (st := [.int x2]) (gr := []) (c_X9_rooms (E := E) (a0 := a0) (h0_1 := h0_1) hp6) gX9_lateLaid_X9_rooms rfl yk_X9_rooms ⟨by decide, by decide⟩ ⟨by decide, by decide⟩ clOK9 0 0 rfl rfl [0] [] 1 rfl (by decide) rfl rfl (Nat.le_of_ble_eq_true rfl) dX9_lateLaid_6 ?_
    rintro _ _ ⟨rfl, rfl⟩
    refine ww_perm (gs' := [wModel E a0 (rf2 (a0 1) h0_1) v0]) [0] 1 rfl (by decide) rfl ?_
    refine ww_icmp_ge (tgt := 34) C dX9_lateLaid_9 (by decide) (fun c_1 => ?_) (fun c_1 => ?_)
    · replace hf := ifT c_1 hf
      refine ww_iload_n C dX9_lateLaid_34 rfl 1 rfl ?_
      obtain rfl := Option.some.inj hf
      exact ww_iret C ⟨rfl, rfl⟩ dX9_lateLaid_35
    · replace hf := ifF c_1 hf
      refine ww_iload_n C dX9_lateLaid_12 rfl 1 rfl ?_
      refine ww_aload_n C dX9_lateLaid_13 rfl 0 rfl ?_
      refine ww_iload_n C dX9_lateLaid_14 rfl 2 rfl ?_
      obtain ⟨p15, hp15, hf⟩ := bdE hf
      refine ww_callV C (As := [.int x2]) (st := [.int x1]) (gr := []) (c_X9_isLate (E := E) (a0 := a0) (h0_1 := h0_1) hp15) gX9_lateLaid_X9_isLate rfl yk_X9_isLate ⟨by decide, by decide⟩ ⟨by decide, by decide⟩ clOK9 0 0 rfl rfl [0] [] 1 rfl (by decide) rfl rfl (Nat.le_of_ble_eq_true rfl) dX9_lateLaid_15 ?_
      rintro _ _ ⟨rfl, rfl⟩
      refine ww_perm (gs' := [wModel E a0 (rf2 (a0 1) h0_1) v0]) [0] 1 rfl (by decide) rfl ?_
      refine ww_if_eqB (tgt := 25) C dX9_lateLaid_18 (by decide) (fun c_2 => ?_) (fun c_2 => ?_)
      · replace hf := bfE c_2 hf
        refine ww_iconst (v := 0) C dX9_lateLaid_25 (by decide) ?_
        refine ww_iadd C dX9_lateLaid_26 ?_
        refine ww_topi (fun x1_27 e_x1_27 => ?_)
        replace hf := ltE e_x1_27 hf
        refine ww_istore_n (lv' := [(1, .int x1_27), (0, .ref (a0 0)), (2, .int x2)]) C dX9_lateLaid_27 rfl (by decide) rfl ?_
        obtain ⟨x2_28, e_x2_28⟩ : ∃ y : Int32, y = x2 + 1 := ⟨_, rfl⟩
        replace hf := ltE e_x2_28 hf
        refine ww_iinc (v := x2_28) (lv' := [(2, .int x2_28), (1, .int x1_27), (0, .ref (a0 0))]) C dX9_lateLaid_28 2 rfl (by rw [e_x2_28]; rfl) (by decide) rfl ?_
        refine ww_goto (tgt := 4) C dX9_lateLaid_31 (by decide) ?_
        refine ww_sub C (lv' := [(0, .ref (a0 0)), (1, .int x1_27), (2, .int x2_28)]) [2, 1, 0] rfl ?_
        exact ih _ _ hf
      · replace hf := btE c_2 hf
        refine ww_iconst (v := 1) C dX9_lateLaid_21 (by decide) ?_
        refine ww_goto (tgt := 26) C dX9_lateLaid_22 (by decide) ?_
        refine ww_iadd C dX9_lateLaid_26 ?_
        refine ww_topi (fun x1_27 e_x1_27 => ?_)
        replace hf := ltE e_x1_27 hf
        refine ww_istore_n (lv' := [(1, .int x1_27), (0, .ref (a0 0)), (2, .int x2)]) C dX9_lateLaid_27 rfl (by decide) rfl ?_
        obtain ⟨x2_28, e_x2_28⟩ : ∃ y : Int32, y = x2 + 1 := ⟨_, rfl⟩
        replace hf := ltE e_x2_28 hf
        refine ww_iinc (v := x2_28) (lv' := [(2, .int x2_28), (1, .int x1_27), (0, .ref (a0 0))]) C dX9_lateLaid_28 2 rfl (by rw [e_x2_28]; rfl) (by decide) rfl ?_
        refine ww_goto (tgt := 4) C dX9_lateLaid_31 (by decide) ?_
        refine ww_sub C (lv' := [(0, .ref (a0 0)), (1, .int x1_27), (2, .int x2_28)]) [2, 1, 0] rfl ?_
        exact ih _ _ hf

set_option maxHeartbeats 4000000 in
set_option maxRecDepth 100000 in
theorem c_X9_lateLaid {E : Ex} {a0 : Nat → Nat} {h0_1 : Nat} {v0 : ModelV} {r : Int32} (hf : Mod_lateLaid v0 = some r) : Ct E yX9_lateLaid wsX9_lateLaid rmX9_lateLaid [.ref (a0 0)] [wModel E a0 (rf2 (a0 1) h0_1) v0] (fun rv g => rv = some (.int r) ∧ g = [wModel E a0 (rf2 (a0 1) h0_1) v0]) := by
  refine ct_of (own := RX9) (by decide +kernel) rfl rfl (Nat.le_of_ble_eq_true rfl) (fun K C => ?_)
  refine ww_sub C (lv' := [(0, .ref (a0 0))]) [0] rfl ?_
  rw [Mod_lateLaid] at hf
  refine ww_iconst (v := 0) C dX9_lateLaid_0 (by decide) ?_
  refine ww_istore_n (lv' := [(1, .int 0), (0, .ref (a0 0))]) C dX9_lateLaid_1 rfl (by decide) rfl ?_
  refine ww_iconst (v := 0) C dX9_lateLaid_2 (by decide) ?_
  refine ww_istore_n (lv' := [(2, .int 0), (1, .int 0), (0, .ref (a0 0))]) C dX9_lateLaid_3 rfl (by decide) rfl ?_
  refine ww_sub C (lv' := [(0, .ref (a0 0)), (1, .int 0), (2, .int 0)]) [2, 1, 0] rfl ?_
  exact w_X9_lateLaid_4 C FU _ _ hf

theorem yk_X9_lateLaid : yX9_lateLaid.cls = RX9 ∧ yX9_lateLaid.cls ≠ "java/lang/invoke/MethodHandle" ∧ yX9_lateLaid.cls ≠ "java/lang/invoke/VarHandle" ∧ (parseMethodDescriptor yX9_lateLaid.desc).map (fun d => d.parameters.length) = some 0 := by decide +kernel
abbrev rmX9_seenInCycle : Room := { frames := 1, cells := 0, slots := 0, locals := 20 }
set_option maxRecDepth 20000 in
theorem in_X9_seenInCycle_X9 : ∀ w ∈ u_ws RX9 TX9 35, w ∈ wsX9_seenInCycle := by decide +kernel
set_option maxHeartbeats 4000000 in
set_option maxRecDepth 100000 in
theorem w_X9_seenInCycle_4 {E : Ex} {K : Kx} (C : Cx E K cX9_seenInCycle 3 (some .int) RX9 wsX9_seenInCycle rmX9_seenInCycle) {a0 : Nat → Nat} {h0_1 : Nat} {v0 : ModelV}  {r : Int32} : ∀ (n : Nat) (x1 : Int32) (x2 : Int32), Mod_seenInCycle_4 v0 n x1 x2 = some r → WW E K 0 0 (QQ E K (fun rv g => rv = some (.int r) ∧ g = [wModel E a0 (rf2 (a0 1) h0_1) v0]) 0 0) 4 [(0, .ref (a0 0)), (1, .int x1), (2, .int x2)] [] [wModel E a0 (rf2 (a0 1) h0_1) v0] := by
  intro n
  induction n with
  | zero =>
    intro x1 x2 hf
    simp [Mod_seenInCycle_4] at hf
  | succ n ih =>
    intro x1 x2 hf
    rw [Mod_seenInCycle_4] at hf
    refine ww_iload_n C dX9_seenInCycle_4 rfl 2 rfl ?_
    refine ww_aload_n C dX9_seenInCycle_5 rfl 0 rfl ?_
    obtain ⟨p6, hp6, hf⟩ := bdE hf
    refine ww_callV C (As := []) (st := [.int x2]) (gr := []) (c_X9_rooms (E := E) (a0 := a0) (h0_1 := h0_1) hp6) gX9_seenInCycle_X9_rooms rfl yk_X9_rooms ⟨by decide, by decide⟩ ⟨by decide, by decide⟩ clOK9 0 0 rfl rfl [0] [] 1 rfl (by decide) rfl rfl (Nat.le_of_ble_eq_true rfl) dX9_seenInCycle_6 ?_
    rintro _ _ ⟨rfl, rfl⟩
    refine ww_perm (gs' := [wModel E a0 (rf2 (a0 1) h0_1) v0]) [0] 1 rfl (by decide) rfl ?_
    refine ww_icmp_ge (tgt := 27) C dX9_seenInCycle_9 (by decide) (fun c_1 => ?_) (fun c_1 => ?_)
    · replace hf := ifT c_1 hf
      refine ww_iload_n C dX9_seenInCycle_27 rfl 1 rfl ?_
      obtain rfl := Option.some.inj hf
      exact ww_iret C ⟨rfl, rfl⟩ dX9_seenInCycle_28
    · replace hf := ifF c_1 hf
      refine ww_iload_n C dX9_seenInCycle_12 rfl 1 rfl ?_
      refine ww_aload_n C dX9_seenInCycle_13 rfl 0 rfl ?_
      refine ww_get C clOK9 in_X9_seenInCycle_X9 (w := wModel E a0 (rf2 (a0 1) h0_1) v0) (fs := fsModel a0 (rf2 (a0 1) h0_1) v0) (v := .ref (a0 9)) 0 0 12 rfl q_Model (by decide) (by decide +kernel) g_Model_seenCount dX9_seenInCycle_14 ?_
      refine ww_iload_n C dX9_seenInCycle_17 rfl 2 rfl ?_
      obtain ⟨g_2, hf⟩ := gdE hf
      refine ww_iald C (f := Model_seenCount v0) (w := wModel E a0 (rf2 (a0 1) h0_1) v0) 0 9 rfl c_Model_seenCount (inB_vp g_2) dX9_seenInCycle_18 ?_
      refine ww_iadd C dX9_seenInCycle_19 ?_
      refine ww_topi (fun x1_20 e_x1_20 => ?_)
      replace hf := ltE e_x1_20 hf
      refine ww_istore_n (lv' := [(1, .int x1_20), (0, .ref (a0 0)), (2, .int x2)]) C dX9_seenInCycle_20 rfl (by decide) rfl ?_
      obtain ⟨x2_21, e_x2_21⟩ : ∃ y : Int32, y = x2 + 1 := ⟨_, rfl⟩
      replace hf := ltE e_x2_21 hf
      refine ww_iinc (v := x2_21) (lv' := [(2, .int x2_21), (1, .int x1_20), (0, .ref (a0 0))]) C dX9_seenInCycle_21 2 rfl (by rw [e_x2_21]; rfl) (by decide) rfl ?_
      refine ww_goto (tgt := 4) C dX9_seenInCycle_24 (by decide) ?_
      refine ww_sub C (lv' := [(0, .ref (a0 0)), (1, .int x1_20), (2, .int x2_21)]) [2, 1, 0] rfl ?_
      exact ih _ _ hf

set_option maxHeartbeats 4000000 in
set_option maxRecDepth 100000 in
theorem c_X9_seenInCycle {E : Ex} {a0 : Nat → Nat} {h0_1 : Nat} {v0 : ModelV} {r : Int32} (hf : Mod_seenInCycle v0 = some r) : Ct E yX9_seenInCycle wsX9_seenInCycle rmX9_seenInCycle [.ref (a0 0)] [wModel E a0 (rf2 (a0 1) h0_1) v0] (fun rv g => rv = some (.int r) ∧ g = [wModel E a0 (rf2 (a0 1) h0_1) v0]) := by
  refine ct_of (own := RX9) (by decide +kernel) rfl rfl (Nat.le_of_ble_eq_true rfl) (fun K C => ?_)
  refine ww_sub C (lv' := [(0, .ref (a0 0))]) [0] rfl ?_
  rw [Mod_seenInCycle] at hf
  refine ww_iconst (v := 0) C dX9_seenInCycle_0 (by decide) ?_
  refine ww_istore_n (lv' := [(1, .int 0), (0, .ref (a0 0))]) C dX9_seenInCycle_1 rfl (by decide) rfl ?_
  refine ww_iconst (v := 0) C dX9_seenInCycle_2 (by decide) ?_
  refine ww_istore_n (lv' := [(2, .int 0), (1, .int 0), (0, .ref (a0 0))]) C dX9_seenInCycle_3 rfl (by decide) rfl ?_
  refine ww_sub C (lv' := [(0, .ref (a0 0)), (1, .int 0), (2, .int 0)]) [2, 1, 0] rfl ?_
  exact w_X9_seenInCycle_4 C FU _ _ hf

theorem yk_X9_seenInCycle : yX9_seenInCycle.cls = RX9 ∧ yX9_seenInCycle.cls ≠ "java/lang/invoke/MethodHandle" ∧ yX9_seenInCycle.cls ≠ "java/lang/invoke/VarHandle" ∧ (parseMethodDescriptor yX9_seenInCycle.desc).map (fun d => d.parameters.length) = some 0 := by decide +kernel
abbrev rmX9_meet : Room := { frames := 3, cells := 0, slots := 0, locals := 65 }
set_option maxHeartbeats 4000000 in
set_option maxRecDepth 100000 in
theorem c_X9_meet {E : Ex} {a0 : Nat → Nat} {h0_1 : Nat} {x1 : Int32} {x2 : Int32} {x3 : Int32} {v0 : ModelV} {r : Bool} (hf : Mod_meet x1 x2 x3 v0 = some r) : Ct E yX9_meet wsX9_meet rmX9_meet [.ref (a0 0), .int x1, .int x2, .int x3] [wModel E a0 (rf2 (a0 1) h0_1) v0] (fun rv g => rv = some (.int (b2i r)) ∧ g = [wModel E a0 (rf2 (a0 1) h0_1) v0]) := by
  refine ct_of (own := RX9) (by decide +kernel) rfl rfl (Nat.le_of_ble_eq_true rfl) (fun K C => ?_)
  refine ww_sub C (lv' := [(0, .ref (a0 0)), (1, .int x1), (2, .int x2), (3, .int x3)]) [0, 1, 2, 3] rfl ?_
  rw [Mod_meet] at hf
  refine ww_aload_n C dX9_meet_0 rfl 0 rfl ?_
  refine ww_iload_n C dX9_meet_1 rfl 1 rfl ?_
  refine ww_iload_n C dX9_meet_2 rfl 3 rfl ?_
  obtain ⟨p3, hp3, hf⟩ := bdE hf
  refine ww_callV C (As := [.int x1, .int x3]) (st := []) (gr := []) (c_X9_place (E := E) (a0 := a0) (h0_1 := h0_1) hp3) gX9_meet_X9_place rfl yk_X9_place ⟨by decide, by decide⟩ ⟨by decide, by decide⟩ clOK9 0 0 rfl rfl [0] [] 1 rfl (by decide) rfl rfl (Nat.le_of_ble_eq_true rfl) dX9_meet_3 ?_
  rintro _ _ ⟨rfl, rfl⟩
  refine ww_perm (gs' := [wModel E a0 (rf2 (a0 1) h0_1) v0]) [0] 1 rfl (by decide) rfl ?_
  refine ww_aload_n C dX9_meet_6 rfl 0 rfl ?_
  refine ww_iload_n C dX9_meet_7 rfl 2 rfl ?_
  refine ww_iload_n C dX9_meet_8 rfl 3 rfl ?_
  obtain ⟨p9, hp9, hf⟩ := bdE hf
  refine ww_callV C (As := [.int x2, .int x3]) (st := [.int p3]) (gr := []) (c_X9_place (E := E) (a0 := a0) (h0_1 := h0_1) hp9) gX9_meet_X9_place rfl yk_X9_place ⟨by decide, by decide⟩ ⟨by decide, by decide⟩ clOK9 0 0 rfl rfl [0] [] 1 rfl (by decide) rfl rfl (Nat.le_of_ble_eq_true rfl) dX9_meet_9 ?_
  rintro _ _ ⟨rfl, rfl⟩
  refine ww_perm (gs' := [wModel E a0 (rf2 (a0 1) h0_1) v0]) [0] 1 rfl (by decide) rfl ?_
  refine ww_icmp_ne (tgt := 19) C dX9_meet_12 (by decide) (fun c_1 => ?_) (fun c_1 => ?_)
  · replace hf := ifF c_1 hf
    refine ww_iconst (v := 0) C dX9_meet_19 (by decide) ?_
    obtain rfl := Option.some.inj hf
    exact ww_zret C (nar_b false) ⟨rfl, rfl⟩ dX9_meet_20
  · replace hf := ifT c_1 hf
    refine ww_iconst (v := 1) C dX9_meet_15 (by decide) ?_
    refine ww_goto (tgt := 20) C dX9_meet_16 (by decide) ?_
    obtain rfl := Option.some.inj hf
    exact ww_zret C (nar_b true) ⟨rfl, rfl⟩ dX9_meet_20

theorem yk_X9_meet : yX9_meet.cls = RX9 ∧ yX9_meet.cls ≠ "java/lang/invoke/MethodHandle" ∧ yX9_meet.cls ≠ "java/lang/invoke/VarHandle" ∧ (parseMethodDescriptor yX9_meet.desc).map (fun d => d.parameters.length) = some 3 := by decide +kernel
abbrev rmX9_passBy : Room := { frames := 4, cells := 0, slots := 0, locals := 88 }
set_option maxHeartbeats 4000000 in
set_option maxRecDepth 100000 in
theorem w_X9_passBy_22 {E : Ex} {K : Kx} (C : Cx E K cX9_passBy 5 (some .boolean) RX9 wsX9_passBy rmX9_passBy) {a0 : Nat → Nat} {h0_1 : Nat} {x1 : Int32} {x2 : Int32} {x3 : Int32} {v0 : ModelV}  {s0 : Int32} {r : Bool} (hf : Mod_passBy_22 x1 x2 x3 v0 s0 = some r) : WW E K 0 0 (QQ E K (fun rv g => rv = some (.int (b2i r)) ∧ g = [wModel E a0 (rf2 (a0 1) h0_1) v0]) 0 0) 22 [(0, .ref (a0 0)), (1, .int x1), (2, .int x2), (3, .int x3)] [.int s0] [wModel E a0 (rf2 (a0 1) h0_1) v0] := by
  rw [Mod_passBy_22] at hf
  refine ww_istore (lv' := [(4, .int s0), (0, .ref (a0 0)), (1, .int x1), (2, .int x2), (3, .int x3)]) C dX9_passBy_22 (by decide) rfl ?_
  refine ww_aload_n C dX9_passBy_24 rfl 1 rfl ?_
  refine ww_iload_n C dX9_passBy_25 rfl 2 rfl ?_
  refine ww_iload_n C dX9_passBy_26 rfl 3 rfl ?_
  refine ww_iload_n C dX9_passBy_27 rfl 4 rfl ?_
  obtain ⟨p28, hp28, hf⟩ := bdE hf
  refine ww_callV C (As := [.int x1, .int x2, .int x3]) (st := []) (gr := []) (c_X9_meet (E := E) (a0 := a0) (h0_1 := h0_1) hp28) gX9_passBy_X9_meet rfl yk_X9_meet ⟨by decide, by decide⟩ ⟨by decide, by decide⟩ clOK9 0 0 rfl rfl [0] [] 1 rfl (by decide) rfl rfl (Nat.le_of_ble_eq_true rfl) dX9_passBy_28 ?_
  rintro _ _ ⟨rfl, rfl⟩
  refine ww_perm (gs' := [wModel E a0 (rf2 (a0 1) h0_1) v0]) [0] 1 rfl (by decide) rfl ?_
  refine ww_if_neB (tgt := 60) C dX9_passBy_31 (by decide) (fun c_2 => ?_) (fun c_2 => ?_)
  · replace hf := btE c_2 hf
    refine ww_iconst (v := 0) C dX9_passBy_60 (by decide) ?_
    obtain rfl := Option.some.inj hf
    exact ww_zret C (nar_b false) ⟨rfl, rfl⟩ dX9_passBy_61
  · replace hf := bfE c_2 hf
    refine ww_iload C dX9_passBy_34 0 rfl ?_
    refine ww_if_eq (tgt := 60) C dX9_passBy_36 (by decide) (fun c_3 => ?_) (fun c_3 => ?_)
    · replace hf := ifT c_3 hf
      refine ww_iconst (v := 0) C dX9_passBy_60 (by decide) ?_
      obtain rfl := Option.some.inj hf
      exact ww_zret C (nar_b false) ⟨rfl, rfl⟩ dX9_passBy_61
    · replace hf := ifF c_3 hf
      refine ww_aload_n C dX9_passBy_39 rfl 1 rfl ?_
      refine ww_iload_n C dX9_passBy_40 rfl 3 rfl ?_
      refine ww_iload_n C dX9_passBy_41 rfl 4 rfl ?_
      refine ww_iconst (v := 1) C dX9_passBy_42 (by decide) ?_
      refine ww_iadd C dX9_passBy_43 ?_
      obtain ⟨p44, hp44, hf⟩ := bdE hf
      refine ww_callV C (As := [.int x2, .int (x3 + 1)]) (st := []) (gr := []) (c_X9_place (E := E) (a0 := a0) (h0_1 := h0_1) hp44) gX9_passBy_X9_place rfl yk_X9_place ⟨by decide, by decide⟩ ⟨by decide, by decide⟩ clOK9 0 0 rfl rfl [0] [] 1 rfl (by decide) rfl rfl (Nat.le_of_ble_eq_true rfl) dX9_passBy_44 ?_
      rintro _ _ ⟨rfl, rfl⟩
      refine ww_perm (gs' := [wModel E a0 (rf2 (a0 1) h0_1) v0]) [0] 1 rfl (by decide) rfl ?_
      refine ww_aload_n C dX9_passBy_47 rfl 1 rfl ?_
      refine ww_iload_n C dX9_passBy_48 rfl 2 rfl ?_
      refine ww_iload_n C dX9_passBy_49 rfl 4 rfl ?_
      obtain ⟨p50, hp50, hf⟩ := bdE hf
      refine ww_callV C (As := [.int x1, .int x3]) (st := [.int p44]) (gr := []) (c_X9_place (E := E) (a0 := a0) (h0_1 := h0_1) hp50) gX9_passBy_X9_place rfl yk_X9_place ⟨by decide, by decide⟩ ⟨by decide, by decide⟩ clOK9 0 0 rfl rfl [0] [] 1 rfl (by decide) rfl rfl (Nat.le_of_ble_eq_true rfl) dX9_passBy_50 ?_
      rintro _ _ ⟨rfl, rfl⟩
      refine ww_perm (gs' := [wModel E a0 (rf2 (a0 1) h0_1) v0]) [0] 1 rfl (by decide) rfl ?_
      refine ww_icmp_ne (tgt := 60) C dX9_passBy_53 (by decide) (fun c_4 => ?_) (fun c_4 => ?_)
      · replace hf := ifF c_4 hf
        refine ww_iconst (v := 0) C dX9_passBy_60 (by decide) ?_
        obtain rfl := Option.some.inj hf
        exact ww_zret C (nar_b false) ⟨rfl, rfl⟩ dX9_passBy_61
      · replace hf := ifT c_4 hf
        refine ww_iconst (v := 1) C dX9_passBy_56 (by decide) ?_
        refine ww_goto (tgt := 61) C dX9_passBy_57 (by decide) ?_
        obtain rfl := Option.some.inj hf
        exact ww_zret C (nar_b true) ⟨rfl, rfl⟩ dX9_passBy_61

set_option maxHeartbeats 4000000 in
set_option maxRecDepth 100000 in
theorem c_X9_passBy {E : Ex} {a0 : Nat → Nat} {h0_1 : Nat} {x1 : Int32} {x2 : Int32} {x3 : Int32} {v0 : ModelV} {r : Bool} (hf : Mod_passBy x1 x2 x3 v0 = some r) : Ct E yX9_passBy wsX9_passBy rmX9_passBy [.ref (a0 0), .int x1, .int x2, .int x3] [wModel E a0 (rf2 (a0 1) h0_1) v0] (fun rv g => rv = some (.int (b2i r)) ∧ g = [wModel E a0 (rf2 (a0 1) h0_1) v0]) := by
  refine ct_of (own := RX9) (by decide +kernel) rfl rfl (Nat.le_of_ble_eq_true rfl) (fun K C => ?_)
  refine ww_sub C (lv' := [(0, .ref (a0 0)), (1, .int x1), (2, .int x2), (3, .int x3)]) [0, 1, 2, 3] rfl ?_
  rw [Mod_passBy] at hf
  refine ww_aload_n C dX9_passBy_0 rfl 0 rfl ?_
  refine ww_iload_n C dX9_passBy_1 rfl 1 rfl ?_
  refine ww_iload_n C dX9_passBy_2 rfl 3 rfl ?_
  refine ww_iconst (v := 1) C dX9_passBy_3 (by decide) ?_
  refine ww_iadd C dX9_passBy_4 ?_
  obtain ⟨p5, hp5, hf⟩ := bdE hf
  refine ww_callV C (As := [.int x1, .int (x3 + 1)]) (st := []) (gr := []) (c_X9_place (E := E) (a0 := a0) (h0_1 := h0_1) hp5) gX9_passBy_X9_place rfl yk_X9_place ⟨by decide, by decide⟩ ⟨by decide, by decide⟩ clOK9 0 0 rfl rfl [0] [] 1 rfl (by decide) rfl rfl (Nat.le_of_ble_eq_true rfl) dX9_passBy_5 ?_
  rintro _ _ ⟨rfl, rfl⟩
  refine ww_perm (gs' := [wModel E a0 (rf2 (a0 1) h0_1) v0]) [0] 1 rfl (by decide) rfl ?_
  refine ww_aload_n C dX9_passBy_8 rfl 0 rfl ?_
  refine ww_iload_n C dX9_passBy_9 rfl 2 rfl ?_
  refine ww_iload_n C dX9_passBy_10 rfl 3 rfl ?_
  obtain ⟨p11, hp11, hf⟩ := bdE hf
  refine ww_callV C (As := [.int x2, .int x3]) (st := [.int p5]) (gr := []) (c_X9_place (E := E) (a0 := a0) (h0_1 := h0_1) hp11) gX9_passBy_X9_place rfl yk_X9_place ⟨by decide, by decide⟩ ⟨by decide, by decide⟩ clOK9 0 0 rfl rfl [0] [] 1 rfl (by decide) rfl rfl (Nat.le_of_ble_eq_true rfl) dX9_passBy_11 ?_
  rintro _ _ ⟨rfl, rfl⟩
  refine ww_perm (gs' := [wModel E a0 (rf2 (a0 1) h0_1) v0]) [0] 1 rfl (by decide) rfl ?_
  refine ww_icmp_ne (tgt := 21) C dX9_passBy_14 (by decide) (fun c_1 => ?_) (fun c_1 => ?_)
  · replace hf := ifF c_1 hf
    refine ww_iconst (v := 0) C dX9_passBy_21 (by decide) ?_
    refine ww_sub C (lv' := [(0, .ref (a0 0)), (1, .int x1), (2, .int x2), (3, .int x3)]) [0, 1, 2, 3] rfl ?_
    exact w_X9_passBy_22 C hf
  · replace hf := ifT c_1 hf
    refine ww_iconst (v := 1) C dX9_passBy_17 (by decide) ?_
    refine ww_goto (tgt := 22) C dX9_passBy_18 (by decide) ?_
    refine ww_sub C (lv' := [(0, .ref (a0 0)), (1, .int x1), (2, .int x2), (3, .int x3)]) [0, 1, 2, 3] rfl ?_
    exact w_X9_passBy_22 C hf

theorem yk_X9_passBy : yX9_passBy.cls = RX9 ∧ yX9_passBy.cls ≠ "java/lang/invoke/MethodHandle" ∧ yX9_passBy.cls ≠ "java/lang/invoke/VarHandle" ∧ (parseMethodDescriptor yX9_passBy.desc).map (fun d => d.parameters.length) = some 3 := by decide +kernel
abbrev rmX9_meetingsOf : Room := { frames := 4, cells := 0, slots := 0, locals := 88 }
set_option maxRecDepth 20000 in
theorem in_X9_meetingsOf_X9 : ∀ w ∈ u_ws RX9 TX9 35, w ∈ wsX9_meetingsOf := by decide +kernel
set_option maxHeartbeats 4000000 in
set_option maxRecDepth 100000 in
theorem w_X9_meetingsOf_5 {E : Ex} {K : Kx} (C : Cx E K cX9_meetingsOf 5 (some .int) RX9 wsX9_meetingsOf rmX9_meetingsOf) {a0 : Nat → Nat} {h0_1 : Nat} {x1 : Int32} {x2 : Int32} {v0 : ModelV}  {r : Int32} : ∀ (n : Nat) (x3 : Int32) (x4 : Int32), Mod_meetingsOf_5 x1 x2 v0 n x3 x4 = some r → WW E K 0 0 (QQ E K (fun rv g => rv = some (.int r) ∧ g = [wModel E a0 (rf2 (a0 1) h0_1) v0]) 0 0) 5 [(0, .ref (a0 0)), (1, .int x1), (2, .int x2), (3, .int x3), (4, .int x4)] [] [wModel E a0 (rf2 (a0 1) h0_1) v0] := by
  intro n
  induction n with
  | zero =>
    intro x3 x4 hf
    simp [Mod_meetingsOf_5] at hf
  | succ n ih =>
    intro x3 x4 hf
    rw [Mod_meetingsOf_5] at hf
    refine ww_iload C dX9_meetingsOf_5 4 rfl ?_
    refine ww_aload_n C dX9_meetingsOf_7 rfl 0 rfl ?_
    refine ww_get C clOK9 in_X9_meetingsOf_X9 (w := wModel E a0 (rf2 (a0 1) h0_1) v0) (fs := fsModel a0 (rf2 (a0 1) h0_1) v0) (v := .int (Model_cycleNow v0)) 0 0 15 rfl q_Model (by decide) (by decide +kernel) g_Model_cycleNow dX9_meetingsOf_8 ?_
    refine ww_icmp_ge (tgt := 39) C dX9_meetingsOf_11 (by decide) (fun c_1 => ?_) (fun c_1 => ?_)
    · replace hf := ifT c_1 hf
      refine ww_iload_n C dX9_meetingsOf_39 rfl 3 rfl ?_
      obtain rfl := Option.some.inj hf
      exact ww_iret C ⟨rfl, rfl⟩ dX9_meetingsOf_40
    · replace hf := ifF c_1 hf
      refine ww_iload_n C dX9_meetingsOf_14 rfl 3 rfl ?_
      refine ww_aload_n C dX9_meetingsOf_15 rfl 0 rfl ?_
      refine ww_iload_n C dX9_meetingsOf_16 rfl 1 rfl ?_
      refine ww_iload_n C dX9_meetingsOf_17 rfl 2 rfl ?_
      refine ww_iload C dX9_meetingsOf_18 4 rfl ?_
      obtain ⟨p20, hp20, hf⟩ := bdE hf
      refine ww_callV C (As := [.int x1, .int x2, .int x4]) (st := [.int x3]) (gr := []) (c_X9_meet (E := E) (a0 := a0) (h0_1 := h0_1) hp20) gX9_meetingsOf_X9_meet rfl yk_X9_meet ⟨by decide, by decide⟩ ⟨by decide, by decide⟩ clOK9 0 0 rfl rfl [0] [] 1 rfl (by decide) rfl rfl (Nat.le_of_ble_eq_true rfl) dX9_meetingsOf_20 ?_
      rintro _ _ ⟨rfl, rfl⟩
      refine ww_perm (gs' := [wModel E a0 (rf2 (a0 1) h0_1) v0]) [0] 1 rfl (by decide) rfl ?_
      refine ww_if_eqB (tgt := 30) C dX9_meetingsOf_23 (by decide) (fun c_2 => ?_) (fun c_2 => ?_)
      · replace hf := bfE c_2 hf
        refine ww_iconst (v := 0) C dX9_meetingsOf_30 (by decide) ?_
        refine ww_iadd C dX9_meetingsOf_31 ?_
        refine ww_topi (fun x3_32 e_x3_32 => ?_)
        replace hf := ltE e_x3_32 hf
        refine ww_istore_n (lv' := [(3, .int x3_32), (0, .ref (a0 0)), (1, .int x1), (2, .int x2), (4, .int x4)]) C dX9_meetingsOf_32 rfl (by decide) rfl ?_
        obtain ⟨x4_33, e_x4_33⟩ : ∃ y : Int32, y = x4 + 1 := ⟨_, rfl⟩
        replace hf := ltE e_x4_33 hf
        refine ww_iinc (v := x4_33) (lv' := [(4, .int x4_33), (3, .int x3_32), (0, .ref (a0 0)), (1, .int x1), (2, .int x2)]) C dX9_meetingsOf_33 4 rfl (by rw [e_x4_33]; rfl) (by decide) rfl ?_
        refine ww_goto (tgt := 5) C dX9_meetingsOf_36 (by decide) ?_
        refine ww_sub C (lv' := [(0, .ref (a0 0)), (1, .int x1), (2, .int x2), (3, .int x3_32), (4, .int x4_33)]) [2, 3, 4, 1, 0] rfl ?_
        exact ih _ _ hf
      · replace hf := btE c_2 hf
        refine ww_iconst (v := 1) C dX9_meetingsOf_26 (by decide) ?_
        refine ww_goto (tgt := 31) C dX9_meetingsOf_27 (by decide) ?_
        refine ww_iadd C dX9_meetingsOf_31 ?_
        refine ww_topi (fun x3_32 e_x3_32 => ?_)
        replace hf := ltE e_x3_32 hf
        refine ww_istore_n (lv' := [(3, .int x3_32), (0, .ref (a0 0)), (1, .int x1), (2, .int x2), (4, .int x4)]) C dX9_meetingsOf_32 rfl (by decide) rfl ?_
        obtain ⟨x4_33, e_x4_33⟩ : ∃ y : Int32, y = x4 + 1 := ⟨_, rfl⟩
        replace hf := ltE e_x4_33 hf
        refine ww_iinc (v := x4_33) (lv' := [(4, .int x4_33), (3, .int x3_32), (0, .ref (a0 0)), (1, .int x1), (2, .int x2)]) C dX9_meetingsOf_33 4 rfl (by rw [e_x4_33]; rfl) (by decide) rfl ?_
        refine ww_goto (tgt := 5) C dX9_meetingsOf_36 (by decide) ?_
        refine ww_sub C (lv' := [(0, .ref (a0 0)), (1, .int x1), (2, .int x2), (3, .int x3_32), (4, .int x4_33)]) [2, 3, 4, 1, 0] rfl ?_
        exact ih _ _ hf

set_option maxHeartbeats 4000000 in
set_option maxRecDepth 100000 in
theorem c_X9_meetingsOf {E : Ex} {a0 : Nat → Nat} {h0_1 : Nat} {x1 : Int32} {x2 : Int32} {v0 : ModelV} {r : Int32} (hf : Mod_meetingsOf x1 x2 v0 = some r) : Ct E yX9_meetingsOf wsX9_meetingsOf rmX9_meetingsOf [.ref (a0 0), .int x1, .int x2] [wModel E a0 (rf2 (a0 1) h0_1) v0] (fun rv g => rv = some (.int r) ∧ g = [wModel E a0 (rf2 (a0 1) h0_1) v0]) := by
  refine ct_of (own := RX9) (by decide +kernel) rfl rfl (Nat.le_of_ble_eq_true rfl) (fun K C => ?_)
  refine ww_sub C (lv' := [(0, .ref (a0 0)), (1, .int x1), (2, .int x2)]) [0, 1, 2] rfl ?_
  rw [Mod_meetingsOf] at hf
  refine ww_iconst (v := 0) C dX9_meetingsOf_0 (by decide) ?_
  refine ww_istore_n (lv' := [(3, .int 0), (0, .ref (a0 0)), (1, .int x1), (2, .int x2)]) C dX9_meetingsOf_1 rfl (by decide) rfl ?_
  refine ww_iconst (v := 0) C dX9_meetingsOf_2 (by decide) ?_
  refine ww_istore (lv' := [(4, .int 0), (3, .int 0), (0, .ref (a0 0)), (1, .int x1), (2, .int x2)]) C dX9_meetingsOf_3 (by decide) rfl ?_
  refine ww_sub C (lv' := [(0, .ref (a0 0)), (1, .int x1), (2, .int x2), (3, .int 0), (4, .int 0)]) [2, 3, 4, 1, 0] rfl ?_
  exact w_X9_meetingsOf_5 C FU _ _ hf

theorem yk_X9_meetingsOf : yX9_meetingsOf.cls = RX9 ∧ yX9_meetingsOf.cls ≠ "java/lang/invoke/MethodHandle" ∧ yX9_meetingsOf.cls ≠ "java/lang/invoke/VarHandle" ∧ (parseMethodDescriptor yX9_meetingsOf.desc).map (fun d => d.parameters.length) = some 2 := by decide +kernel
abbrev rmX9_passingsOf : Room := { frames := 5, cells := 0, slots := 0, locals := 112 }
set_option maxRecDepth 20000 in
theorem in_X9_passingsOf_X9 : ∀ w ∈ u_ws RX9 TX9 35, w ∈ wsX9_passingsOf := by decide +kernel
set_option maxHeartbeats 4000000 in
set_option maxRecDepth 100000 in
theorem w_X9_passingsOf_5 {E : Ex} {K : Kx} (C : Cx E K cX9_passingsOf 5 (some .int) RX9 wsX9_passingsOf rmX9_passingsOf) {a0 : Nat → Nat} {h0_1 : Nat} {x1 : Int32} {x2 : Int32} {v0 : ModelV}  {r : Int32} : ∀ (n : Nat) (x3 : Int32) (x4 : Int32), Mod_passingsOf_5 x1 x2 v0 n x3 x4 = some r → WW E K 0 0 (QQ E K (fun rv g => rv = some (.int r) ∧ g = [wModel E a0 (rf2 (a0 1) h0_1) v0]) 0 0) 5 [(0, .ref (a0 0)), (1, .int x1), (2, .int x2), (3, .int x3), (4, .int x4)] [] [wModel E a0 (rf2 (a0 1) h0_1) v0] := by
  intro n
  induction n with
  | zero =>
    intro x3 x4 hf
    simp [Mod_passingsOf_5] at hf
  | succ n ih =>
    intro x3 x4 hf
    rw [Mod_passingsOf_5] at hf
    refine ww_iload C dX9_passingsOf_5 4 rfl ?_
    refine ww_aload_n C dX9_passingsOf_7 rfl 0 rfl ?_
    refine ww_get C clOK9 in_X9_passingsOf_X9 (w := wModel E a0 (rf2 (a0 1) h0_1) v0) (fs := fsModel a0 (rf2 (a0 1) h0_1) v0) (v := .int (Model_cycleNow v0)) 0 0 15 rfl q_Model (by decide) (by decide +kernel) g_Model_cycleNow dX9_passingsOf_8 ?_
    refine ww_icmp_ge (tgt := 39) C dX9_passingsOf_11 (by decide) (fun c_1 => ?_) (fun c_1 => ?_)
    · replace hf := ifT c_1 hf
      refine ww_iload_n C dX9_passingsOf_39 rfl 3 rfl ?_
      obtain rfl := Option.some.inj hf
      exact ww_iret C ⟨rfl, rfl⟩ dX9_passingsOf_40
    · replace hf := ifF c_1 hf
      refine ww_iload_n C dX9_passingsOf_14 rfl 3 rfl ?_
      refine ww_aload_n C dX9_passingsOf_15 rfl 0 rfl ?_
      refine ww_iload_n C dX9_passingsOf_16 rfl 1 rfl ?_
      refine ww_iload_n C dX9_passingsOf_17 rfl 2 rfl ?_
      refine ww_iload C dX9_passingsOf_18 4 rfl ?_
      obtain ⟨p20, hp20, hf⟩ := bdE hf
      refine ww_callV C (As := [.int x1, .int x2, .int x4]) (st := [.int x3]) (gr := []) (c_X9_passBy (E := E) (a0 := a0) (h0_1 := h0_1) hp20) gX9_passingsOf_X9_passBy rfl yk_X9_passBy ⟨by decide, by decide⟩ ⟨by decide, by decide⟩ clOK9 0 0 rfl rfl [0] [] 1 rfl (by decide) rfl rfl (Nat.le_of_ble_eq_true rfl) dX9_passingsOf_20 ?_
      rintro _ _ ⟨rfl, rfl⟩
      refine ww_perm (gs' := [wModel E a0 (rf2 (a0 1) h0_1) v0]) [0] 1 rfl (by decide) rfl ?_
      refine ww_if_eqB (tgt := 30) C dX9_passingsOf_23 (by decide) (fun c_2 => ?_) (fun c_2 => ?_)
      · replace hf := bfE c_2 hf
        refine ww_iconst (v := 0) C dX9_passingsOf_30 (by decide) ?_
        refine ww_iadd C dX9_passingsOf_31 ?_
        refine ww_topi (fun x3_32 e_x3_32 => ?_)
        replace hf := ltE e_x3_32 hf
        refine ww_istore_n (lv' := [(3, .int x3_32), (0, .ref (a0 0)), (1, .int x1), (2, .int x2), (4, .int x4)]) C dX9_passingsOf_32 rfl (by decide) rfl ?_
        obtain ⟨x4_33, e_x4_33⟩ : ∃ y : Int32, y = x4 + 1 := ⟨_, rfl⟩
        replace hf := ltE e_x4_33 hf
        refine ww_iinc (v := x4_33) (lv' := [(4, .int x4_33), (3, .int x3_32), (0, .ref (a0 0)), (1, .int x1), (2, .int x2)]) C dX9_passingsOf_33 4 rfl (by rw [e_x4_33]; rfl) (by decide) rfl ?_
        refine ww_goto (tgt := 5) C dX9_passingsOf_36 (by decide) ?_
        refine ww_sub C (lv' := [(0, .ref (a0 0)), (1, .int x1), (2, .int x2), (3, .int x3_32), (4, .int x4_33)]) [2, 3, 4, 1, 0] rfl ?_
        exact ih _ _ hf
      · replace hf := btE c_2 hf
        refine ww_iconst (v := 1) C dX9_passingsOf_26 (by decide) ?_
        refine ww_goto (tgt := 31) C dX9_passingsOf_27 (by decide) ?_
        refine ww_iadd C dX9_passingsOf_31 ?_
        refine ww_topi (fun x3_32 e_x3_32 => ?_)
        replace hf := ltE e_x3_32 hf
        refine ww_istore_n (lv' := [(3, .int x3_32), (0, .ref (a0 0)), (1, .int x1), (2, .int x2), (4, .int x4)]) C dX9_passingsOf_32 rfl (by decide) rfl ?_
        obtain ⟨x4_33, e_x4_33⟩ : ∃ y : Int32, y = x4 + 1 := ⟨_, rfl⟩
        replace hf := ltE e_x4_33 hf
        refine ww_iinc (v := x4_33) (lv' := [(4, .int x4_33), (3, .int x3_32), (0, .ref (a0 0)), (1, .int x1), (2, .int x2)]) C dX9_passingsOf_33 4 rfl (by rw [e_x4_33]; rfl) (by decide) rfl ?_
        refine ww_goto (tgt := 5) C dX9_passingsOf_36 (by decide) ?_
        refine ww_sub C (lv' := [(0, .ref (a0 0)), (1, .int x1), (2, .int x2), (3, .int x3_32), (4, .int x4_33)]) [2, 3, 4, 1, 0] rfl ?_
        exact ih _ _ hf

set_option maxHeartbeats 4000000 in
set_option maxRecDepth 100000 in
theorem c_X9_passingsOf {E : Ex} {a0 : Nat → Nat} {h0_1 : Nat} {x1 : Int32} {x2 : Int32} {v0 : ModelV} {r : Int32} (hf : Mod_passingsOf x1 x2 v0 = some r) : Ct E yX9_passingsOf wsX9_passingsOf rmX9_passingsOf [.ref (a0 0), .int x1, .int x2] [wModel E a0 (rf2 (a0 1) h0_1) v0] (fun rv g => rv = some (.int r) ∧ g = [wModel E a0 (rf2 (a0 1) h0_1) v0]) := by
  refine ct_of (own := RX9) (by decide +kernel) rfl rfl (Nat.le_of_ble_eq_true rfl) (fun K C => ?_)
  refine ww_sub C (lv' := [(0, .ref (a0 0)), (1, .int x1), (2, .int x2)]) [0, 1, 2] rfl ?_
  rw [Mod_passingsOf] at hf
  refine ww_iconst (v := 0) C dX9_passingsOf_0 (by decide) ?_
  refine ww_istore_n (lv' := [(3, .int 0), (0, .ref (a0 0)), (1, .int x1), (2, .int x2)]) C dX9_passingsOf_1 rfl (by decide) rfl ?_
  refine ww_iconst (v := 0) C dX9_passingsOf_2 (by decide) ?_
  refine ww_istore (lv' := [(4, .int 0), (3, .int 0), (0, .ref (a0 0)), (1, .int x1), (2, .int x2)]) C dX9_passingsOf_3 (by decide) rfl ?_
  refine ww_sub C (lv' := [(0, .ref (a0 0)), (1, .int x1), (2, .int x2), (3, .int 0), (4, .int 0)]) [2, 3, 4, 1, 0] rfl ?_
  exact w_X9_passingsOf_5 C FU _ _ hf

theorem yk_X9_passingsOf : yX9_passingsOf.cls = RX9 ∧ yX9_passingsOf.cls ≠ "java/lang/invoke/MethodHandle" ∧ yX9_passingsOf.cls ≠ "java/lang/invoke/VarHandle" ∧ (parseMethodDescriptor yX9_passingsOf.desc).map (fun d => d.parameters.length) = some 2 := by decide +kernel
abbrev rmX9_crossingsLaid : Room := { frames := 6, cells := 0, slots := 0, locals := 136 }
set_option maxHeartbeats 4000000 in
set_option maxRecDepth 100000 in
theorem w_X9_crossingsLaid_14 {E : Ex} {K : Kx} (C : Cx E K cX9_crossingsLaid 4 (some .int) RX9 wsX9_crossingsLaid rmX9_crossingsLaid) {a0 : Nat → Nat} {h0_1 : Nat} {v0 : ModelV} {x2 : Int32} {k4 : Int32 → Int32 → Option Int32} {r : Int32} (hk4 : ∀ (x1 : Int32) (x2 : Int32), k4 x1 x2 = some r → WW E K 0 0 (QQ E K (fun rv g => rv = some (.int r) ∧ g = [wModel E a0 (rf2 (a0 1) h0_1) v0]) 0 0) 4 [(0, .ref (a0 0)), (1, .int x1), (2, .int x2)] [] [wModel E a0 (rf2 (a0 1) h0_1) v0]) : ∀ (n : Nat) (x1 : Int32) (x3 : Int32), Mod_crossingsLaid_14 v0 x2 k4 n x1 x3 = some r → WW E K 0 0 (QQ E K (fun rv g => rv = some (.int r) ∧ g = [wModel E a0 (rf2 (a0 1) h0_1) v0]) 0 0) 14 [(0, .ref (a0 0)), (1, .int x1), (2, .int x2), (3, .int x3)] [] [wModel E a0 (rf2 (a0 1) h0_1) v0] := by
  intro n
  induction n with
  | zero =>
    intro x1 x3 hf
    simp [Mod_crossingsLaid_14] at hf
  | succ n ih =>
    intro x1 x3 hf
    rw [Mod_crossingsLaid_14] at hf
    refine ww_iload_n C dX9_crossingsLaid_14 rfl 3 rfl ?_
    refine ww_iload_n C dX9_crossingsLaid_15 rfl 2 rfl ?_
    refine ww_icmp_ge (tgt := 41) C dX9_crossingsLaid_16 (by decide) (fun c_2 => ?_) (fun c_2 => ?_)
    · replace hf := ifT c_2 hf
      obtain ⟨x2_41, e_x2_41⟩ : ∃ y : Int32, y = x2 + 1 := ⟨_, rfl⟩
      replace hf := ltE e_x2_41 hf
      refine ww_iinc (v := x2_41) (lv' := [(2, .int x2_41), (0, .ref (a0 0)), (1, .int x1), (3, .int x3)]) C dX9_crossingsLaid_41 2 rfl (by rw [e_x2_41]; rfl) (by decide) rfl ?_
      refine ww_goto (tgt := 4) C dX9_crossingsLaid_44 (by decide) ?_
      refine ww_sub C (lv' := [(0, .ref (a0 0)), (1, .int x1), (2, .int x2_41)]) [1, 2, 0] rfl ?_
      exact hk4 _ _ hf
    · replace hf := ifF c_2 hf
      refine ww_iload_n C dX9_crossingsLaid_19 rfl 1 rfl ?_
      refine ww_aload_n C dX9_crossingsLaid_20 rfl 0 rfl ?_
      refine ww_iload_n C dX9_crossingsLaid_21 rfl 2 rfl ?_
      refine ww_iload_n C dX9_crossingsLaid_22 rfl 3 rfl ?_
      obtain ⟨p23, hp23, hf⟩ := bdE hf
      refine ww_callV C (As := [.int x2, .int x3]) (st := [.int x1]) (gr := []) (c_X9_meetingsOf (E := E) (a0 := a0) (h0_1 := h0_1) hp23) gX9_crossingsLaid_X9_meetingsOf rfl yk_X9_meetingsOf ⟨by decide, by decide⟩ ⟨by decide, by decide⟩ clOK9 0 0 rfl rfl [0] [] 1 rfl (by decide) rfl rfl (Nat.le_of_ble_eq_true rfl) dX9_crossingsLaid_23 ?_
      rintro _ _ ⟨rfl, rfl⟩
      refine ww_perm (gs' := [wModel E a0 (rf2 (a0 1) h0_1) v0]) [0] 1 rfl (by decide) rfl ?_
      refine ww_aload_n C dX9_crossingsLaid_26 rfl 0 rfl ?_
      refine ww_iload_n C dX9_crossingsLaid_27 rfl 2 rfl ?_
      refine ww_iload_n C dX9_crossingsLaid_28 rfl 3 rfl ?_
      obtain ⟨p29, hp29, hf⟩ := bdE hf
      refine ww_callV C (As := [.int x2, .int x3]) (st := [.int p23, .int x1]) (gr := []) (c_X9_passingsOf (E := E) (a0 := a0) (h0_1 := h0_1) hp29) gX9_crossingsLaid_X9_passingsOf rfl yk_X9_passingsOf ⟨by decide, by decide⟩ ⟨by decide, by decide⟩ clOK9 0 0 rfl rfl [0] [] 1 rfl (by decide) rfl rfl (Nat.le_of_ble_eq_true rfl) dX9_crossingsLaid_29 ?_
      rintro _ _ ⟨rfl, rfl⟩
      refine ww_perm (gs' := [wModel E a0 (rf2 (a0 1) h0_1) v0]) [0] 1 rfl (by decide) rfl ?_
      refine ww_iadd C dX9_crossingsLaid_32 ?_
      refine ww_iadd C dX9_crossingsLaid_33 ?_
      refine ww_topi (fun x1_34 e_x1_34 => ?_)
      replace hf := ltE e_x1_34 hf
      refine ww_istore_n (lv' := [(1, .int x1_34), (0, .ref (a0 0)), (2, .int x2), (3, .int x3)]) C dX9_crossingsLaid_34 rfl (by decide) rfl ?_
      obtain ⟨x3_35, e_x3_35⟩ : ∃ y : Int32, y = x3 + 1 := ⟨_, rfl⟩
      replace hf := ltE e_x3_35 hf
      refine ww_iinc (v := x3_35) (lv' := [(3, .int x3_35), (1, .int x1_34), (0, .ref (a0 0)), (2, .int x2)]) C dX9_crossingsLaid_35 3 rfl (by rw [e_x3_35]; rfl) (by decide) rfl ?_
      refine ww_goto (tgt := 14) C dX9_crossingsLaid_38 (by decide) ?_
      refine ww_sub C (lv' := [(0, .ref (a0 0)), (1, .int x1_34), (2, .int x2), (3, .int x3_35)]) [2, 1, 3, 0] rfl ?_
      exact ih _ _ hf

set_option maxHeartbeats 4000000 in
set_option maxRecDepth 100000 in
theorem w_X9_crossingsLaid_4 {E : Ex} {K : Kx} (C : Cx E K cX9_crossingsLaid 4 (some .int) RX9 wsX9_crossingsLaid rmX9_crossingsLaid) {a0 : Nat → Nat} {h0_1 : Nat} {v0 : ModelV}  {r : Int32} : ∀ (n : Nat) (x1 : Int32) (x2 : Int32), Mod_crossingsLaid_4 v0 n x1 x2 = some r → WW E K 0 0 (QQ E K (fun rv g => rv = some (.int r) ∧ g = [wModel E a0 (rf2 (a0 1) h0_1) v0]) 0 0) 4 [(0, .ref (a0 0)), (1, .int x1), (2, .int x2)] [] [wModel E a0 (rf2 (a0 1) h0_1) v0] := by
  intro n
  induction n with
  | zero =>
    intro x1 x2 hf
    simp [Mod_crossingsLaid_4] at hf
  | succ n ih =>
    intro x1 x2 hf
    rw [Mod_crossingsLaid_4] at hf
    refine ww_iload_n C dX9_crossingsLaid_4 rfl 2 rfl ?_
    refine ww_aload_n C dX9_crossingsLaid_5 rfl 0 rfl ?_
    obtain ⟨p6, hp6, hf⟩ := bdE hf
    refine ww_callV C (As := []) (st := [.int x2]) (gr := []) (c_X9_guards (E := E) (a0 := a0) (h0_1 := h0_1) hp6) gX9_crossingsLaid_X9_guards rfl yk_X9_guards ⟨by decide, by decide⟩ ⟨by decide, by decide⟩ clOK9 0 0 rfl rfl [0] [] 1 rfl (by decide) rfl rfl (Nat.le_of_ble_eq_true rfl) dX9_crossingsLaid_6 ?_
    rintro _ _ ⟨rfl, rfl⟩
    refine ww_perm (gs' := [wModel E a0 (rf2 (a0 1) h0_1) v0]) [0] 1 rfl (by decide) rfl ?_
    refine ww_icmp_ge (tgt := 47) C dX9_crossingsLaid_9 (by decide) (fun c_1 => ?_) (fun c_1 => ?_)
    · replace hf := ifT c_1 hf
      refine ww_iload_n C dX9_crossingsLaid_47 rfl 1 rfl ?_
      obtain rfl := Option.some.inj hf
      exact ww_iret C ⟨rfl, rfl⟩ dX9_crossingsLaid_48
    · replace hf := ifF c_1 hf
      refine ww_iconst (v := 0) C dX9_crossingsLaid_12 (by decide) ?_
      refine ww_istore_n (lv' := [(3, .int 0), (0, .ref (a0 0)), (1, .int x1), (2, .int x2)]) C dX9_crossingsLaid_13 rfl (by decide) rfl ?_
      refine ww_sub C (lv' := [(0, .ref (a0 0)), (1, .int x1), (2, .int x2), (3, .int 0)]) [1, 2, 3, 0] rfl ?_
      exact w_X9_crossingsLaid_14 C (k4 := (fun (x1 : Int32) (x2 : Int32) => Mod_crossingsLaid_4 v0 n x1 x2)) ih FU _ _ hf

set_option maxHeartbeats 4000000 in
set_option maxRecDepth 100000 in
theorem c_X9_crossingsLaid {E : Ex} {a0 : Nat → Nat} {h0_1 : Nat} {v0 : ModelV} {r : Int32} (hf : Mod_crossingsLaid v0 = some r) : Ct E yX9_crossingsLaid wsX9_crossingsLaid rmX9_crossingsLaid [.ref (a0 0)] [wModel E a0 (rf2 (a0 1) h0_1) v0] (fun rv g => rv = some (.int r) ∧ g = [wModel E a0 (rf2 (a0 1) h0_1) v0]) := by
  refine ct_of (own := RX9) (by decide +kernel) rfl rfl (Nat.le_of_ble_eq_true rfl) (fun K C => ?_)
  refine ww_sub C (lv' := [(0, .ref (a0 0))]) [0] rfl ?_
  rw [Mod_crossingsLaid] at hf
  refine ww_iconst (v := 0) C dX9_crossingsLaid_0 (by decide) ?_
  refine ww_istore_n (lv' := [(1, .int 0), (0, .ref (a0 0))]) C dX9_crossingsLaid_1 rfl (by decide) rfl ?_
  refine ww_iconst (v := 0) C dX9_crossingsLaid_2 (by decide) ?_
  refine ww_istore_n (lv' := [(2, .int 0), (1, .int 0), (0, .ref (a0 0))]) C dX9_crossingsLaid_3 rfl (by decide) rfl ?_
  refine ww_sub C (lv' := [(0, .ref (a0 0)), (1, .int 0), (2, .int 0)]) [2, 1, 0] rfl ?_
  exact w_X9_crossingsLaid_4 C FU _ _ hf

theorem yk_X9_crossingsLaid : yX9_crossingsLaid.cls = RX9 ∧ yX9_crossingsLaid.cls ≠ "java/lang/invoke/MethodHandle" ∧ yX9_crossingsLaid.cls ≠ "java/lang/invoke/VarHandle" ∧ (parseMethodDescriptor yX9_crossingsLaid.desc).map (fun d => d.parameters.length) = some 0 := by decide +kernel
abbrev rmX9_nextPhases : Room := { frames := 2, cells := 0, slots := 0, locals := 42 }
set_option maxRecDepth 20000 in
theorem in_X9_nextPhases_X9 : ∀ w ∈ u_ws RX9 TX9 35, w ∈ wsX9_nextPhases := by decide +kernel
set_option maxHeartbeats 4000000 in
set_option maxRecDepth 100000 in
theorem w_X9_nextPhases_7 {E : Ex} {K : Kx} (C : Cx E K cX9_nextPhases 2 (some .boolean) RX9 wsX9_nextPhases rmX9_nextPhases) {a0 : Nat → Nat} {h0_1 : Nat}   {r : (Bool × ModelV)} : ∀ (n : Nat) (x1 : Int32) (v0 : ModelV), Mod_nextPhases_7 n x1 v0 = some r → WW E K 0 0 (QQ E K (fun rv g => rv = some (.int (b2i r.1)) ∧ g = [wModel E a0 (rf2 (a0 1) h0_1) r.2]) 0 0) 7 [(0, .ref (a0 0)), (1, .int x1)] [] [wModel E a0 (rf2 (a0 1) h0_1) v0] := by
  intro n
  induction n with
  | zero =>
    intro x1 v0 hf
    simp [Mod_nextPhases_7] at hf
  | succ n ih =>
    intro x1 v0 hf
    rw [Mod_nextPhases_7] at hf
    refine ww_iload_n C dX9_nextPhases_7 rfl 1 rfl ?_
    refine ww_if_le (tgt := 50) C dX9_nextPhases_8 (by decide) (fun c_2 => ?_) (fun c_2 => ?_)
    · replace hf := ifT c_2 hf
      refine ww_iconst (v := 0) C dX9_nextPhases_50 (by decide) ?_
      obtain rfl := Option.some.inj hf
      exact ww_zret C (nar_b false) ⟨rfl, rfl⟩ dX9_nextPhases_51
    · replace hf := ifF c_2 hf
      refine ww_aload_n C dX9_nextPhases_11 rfl 0 rfl ?_
      refine ww_get C clOK9 in_X9_nextPhases_X9 (w := wModel E a0 (rf2 (a0 1) h0_1) v0) (fs := fsModel a0 (rf2 (a0 1) h0_1) v0) (v := .ref (a0 6)) 0 0 9 rfl q_Model (by decide) (by decide +kernel) g_Model_phases dX9_nextPhases_12 ?_
      refine ww_iload_n C dX9_nextPhases_15 rfl 1 rfl ?_
      refine ww_dup2 C dX9_nextPhases_16 rfl rfl ?_
      obtain ⟨g_3, hf⟩ := gdE hf
      refine ww_iald C (f := Model_phases v0) (w := wModel E a0 (rf2 (a0 1) h0_1) v0) 0 6 rfl c_Model_phases (inB_vp g_3) dX9_nextPhases_17 ?_
      refine ww_iconst (v := 1) C dX9_nextPhases_18 (by decide) ?_
      refine ww_iadd C dX9_nextPhases_19 ?_
      obtain ⟨v0_20, e_v0_20⟩ : ∃ y : ModelV, y = Model_set_phases v0 (upd (Model_phases v0) (Int32.toNatClampNeg x1) (((Model_phases v0) (Int32.toNatClampNeg x1)) + 1)) := ⟨_, rfl⟩
      replace hf := ltE e_v0_20 hf
      refine ww_iast C (f := Model_phases v0) (w := wModel E a0 (rf2 (a0 1) h0_1) v0) (w' := wModel E a0 (rf2 (a0 1) h0_1) v0_20) (gs' := [wModel E a0 (rf2 (a0 1) h0_1) v0_20]) 0 6 rfl c_Model_phases (inB_vp g_3) (by rw [e_v0_20]; exact s_Model_phases) rfl dX9_nextPhases_20 ?_
      refine ww_aload_n C dX9_nextPhases_21 rfl 0 rfl ?_
      refine ww_get C clOK9 in_X9_nextPhases_X9 (w := wModel E a0 (rf2 (a0 1) h0_1) v0_20) (fs := fsModel a0 (rf2 (a0 1) h0_1) v0_20) (v := .ref (a0 6)) 0 0 9 rfl q_Model (by decide) (by decide +kernel) g_Model_phases dX9_nextPhases_22 ?_
      refine ww_iload_n C dX9_nextPhases_25 rfl 1 rfl ?_
      refine ww_iald C (f := Model_phases v0_20) (w := wModel E a0 (rf2 (a0 1) h0_1) v0_20) 0 6 rfl c_Model_phases (inB_vp g_3) dX9_nextPhases_26 ?_
      refine ww_aload_n C dX9_nextPhases_27 rfl 0 rfl ?_
      refine ww_iload_n C dX9_nextPhases_28 rfl 1 rfl ?_
      obtain ⟨p29, hp29, hf⟩ := bdE hf
      refine ww_callV C (As := [.int x1]) (st := [.int ((Model_phases v0_20) (Int32.toNatClampNeg x1))]) (gr := []) (c_X9_period (E := E) (a0 := a0) (h0_1 := h0_1) hp29) gX9_nextPhases_X9_period rfl yk_X9_period ⟨by decide, by decide⟩ ⟨by decide, by decide⟩ clOK9 0 0 rfl rfl [0] [] 1 rfl (by decide) rfl rfl (Nat.le_of_ble_eq_true rfl) dX9_nextPhases_29 ?_
      rintro _ _ ⟨rfl, rfl⟩
      refine ww_perm (gs' := [wModel E a0 (rf2 (a0 1) h0_1) v0_20]) [0] 1 rfl (by decide) rfl ?_
      refine ww_icmp_ge (tgt := 37) C dX9_nextPhases_32 (by decide) (fun c_4 => ?_) (fun c_4 => ?_)
      · replace hf := ifT c_4 hf
        refine ww_aload_n C dX9_nextPhases_37 rfl 0 rfl ?_
        refine ww_get C clOK9 in_X9_nextPhases_X9 (w := wModel E a0 (rf2 (a0 1) h0_1) v0_20) (fs := fsModel a0 (rf2 (a0 1) h0_1) v0_20) (v := .ref (a0 6)) 0 0 9 rfl q_Model (by decide) (by decide +kernel) g_Model_phases dX9_nextPhases_38 ?_
        refine ww_iload_n C dX9_nextPhases_41 rfl 1 rfl ?_
        refine ww_iconst (v := 0) C dX9_nextPhases_42 (by decide) ?_
        obtain ⟨v0_43, e_v0_43⟩ : ∃ y : ModelV, y = Model_set_phases v0_20 (upd (Model_phases v0_20) (Int32.toNatClampNeg x1) 0) := ⟨_, rfl⟩
        replace hf := ltE e_v0_43 hf
        refine ww_iast C (f := Model_phases v0_20) (w := wModel E a0 (rf2 (a0 1) h0_1) v0_20) (w' := wModel E a0 (rf2 (a0 1) h0_1) v0_43) (gs' := [wModel E a0 (rf2 (a0 1) h0_1) v0_43]) 0 6 rfl c_Model_phases (inB_vp g_3) (by rw [e_v0_43]; exact s_Model_phases) rfl dX9_nextPhases_43 ?_
        obtain ⟨x1_44, e_x1_44⟩ : ∃ y : Int32, y = x1 + (-1) := ⟨_, rfl⟩
        replace hf := ltE e_x1_44 hf
        refine ww_iinc (v := x1_44) (lv' := [(1, .int x1_44), (0, .ref (a0 0))]) C dX9_nextPhases_44 1 rfl (by rw [e_x1_44]; rfl) (by decide) rfl ?_
        refine ww_goto (tgt := 7) C dX9_nextPhases_47 (by decide) ?_
        refine ww_sub C (lv' := [(0, .ref (a0 0)), (1, .int x1_44)]) [1, 0] rfl ?_
        exact ih _ _ hf
      · replace hf := ifF c_4 hf
        refine ww_iconst (v := 1) C dX9_nextPhases_35 (by decide) ?_
        obtain rfl := Option.some.inj hf
        exact ww_zret C (nar_b true) ⟨rfl, rfl⟩ dX9_nextPhases_36

set_option maxHeartbeats 4000000 in
set_option maxRecDepth 100000 in
theorem c_X9_nextPhases {E : Ex} {a0 : Nat → Nat} {h0_1 : Nat} {v0 : ModelV} {r : (Bool × ModelV)} (hf : Mod_nextPhases v0 = some r) : Ct E yX9_nextPhases wsX9_nextPhases rmX9_nextPhases [.ref (a0 0)] [wModel E a0 (rf2 (a0 1) h0_1) v0] (fun rv g => rv = some (.int (b2i r.1)) ∧ g = [wModel E a0 (rf2 (a0 1) h0_1) r.2]) := by
  refine ct_of (own := RX9) (by decide +kernel) rfl rfl (Nat.le_of_ble_eq_true rfl) (fun K C => ?_)
  refine ww_sub C (lv' := [(0, .ref (a0 0))]) [0] rfl ?_
  rw [Mod_nextPhases] at hf
  refine ww_aload_n C dX9_nextPhases_0 rfl 0 rfl ?_
  obtain ⟨p1, hp1, hf⟩ := bdE hf
  refine ww_callV C (As := []) (st := []) (gr := []) (c_X9_guards (E := E) (a0 := a0) (h0_1 := h0_1) hp1) gX9_nextPhases_X9_guards rfl yk_X9_guards ⟨by decide, by decide⟩ ⟨by decide, by decide⟩ clOK9 0 0 rfl rfl [0] [] 1 rfl (by decide) rfl rfl (Nat.le_of_ble_eq_true rfl) dX9_nextPhases_1 ?_
  rintro _ _ ⟨rfl, rfl⟩
  refine ww_perm (gs' := [wModel E a0 (rf2 (a0 1) h0_1) v0]) [0] 1 rfl (by decide) rfl ?_
  refine ww_iconst (v := 1) C dX9_nextPhases_4 (by decide) ?_
  refine ww_isub C dX9_nextPhases_5 ?_
  refine ww_topi (fun x1_6 e_x1_6 => ?_)
  replace hf := ltE e_x1_6 hf
  refine ww_istore_n (lv' := [(1, .int x1_6), (0, .ref (a0 0))]) C dX9_nextPhases_6 rfl (by decide) rfl ?_
  refine ww_sub C (lv' := [(0, .ref (a0 0)), (1, .int x1_6)]) [1, 0] rfl ?_
  exact w_X9_nextPhases_7 C FU _ _ hf

theorem yk_X9_nextPhases : yX9_nextPhases.cls = RX9 ∧ yX9_nextPhases.cls ≠ "java/lang/invoke/MethodHandle" ∧ yX9_nextPhases.cls ≠ "java/lang/invoke/VarHandle" ∧ (parseMethodDescriptor yX9_nextPhases.desc).map (fun d => d.parameters.length) = some 0 := by decide +kernel
abbrev rmX9_judgePhases : Room := { frames := 7, cells := 0, slots := 0, locals := 159 }
set_option maxRecDepth 20000 in
theorem in_X9_judgePhases_X9 : ∀ w ∈ u_ws RX9 TX9 35, w ∈ wsX9_judgePhases := by decide +kernel
set_option maxHeartbeats 4000000 in
set_option maxRecDepth 100000 in
theorem w_X9_judgePhases_67 {E : Ex} {K : Kx} (C : Cx E K cX9_judgePhases 4 none RX9 wsX9_judgePhases rmX9_judgePhases) {a0 : Nat → Nat} {h0_1 : Nat}   {r : ModelV} : ∀ (n : Nat) (x3 : Int32) (v0 : ModelV), Mod_judgePhases_67 n x3 v0 = some r → WW E K 0 0 (QQ E K (fun rv g => rv = none ∧ g = [wModel E a0 (rf2 (a0 1) h0_1) r]) 0 0) 67 [(0, .ref (a0 0)), (3, .int x3)] [] [wModel E a0 (rf2 (a0 1) h0_1) v0] := by
  intro n
  induction n with
  | zero =>
    intro x3 v0 hf
    simp [Mod_judgePhases_67] at hf
  | succ n ih =>
    intro x3 v0 hf
    rw [Mod_judgePhases_67] at hf
    refine ww_iload_n C dX9_judgePhases_67 rfl 1 rfl ?_
    refine ww_aload_n C dX9_judgePhases_68 rfl 0 rfl ?_
    obtain ⟨p69, hp69, hf⟩ := bdE hf
    refine ww_callV C (As := []) (st := [.int x3]) (gr := []) (c_X9_guards (E := E) (a0 := a0) (h0_1 := h0_1) hp69) gX9_judgePhases_X9_guards rfl yk_X9_guards ⟨by decide, by decide⟩ ⟨by decide, by decide⟩ clOK9 0 0 rfl rfl [0] [] 1 rfl (by decide) rfl rfl (Nat.le_of_ble_eq_true rfl) dX9_judgePhases_69 ?_
    rintro _ _ ⟨rfl, rfl⟩
    refine ww_perm (gs' := [wModel E a0 (rf2 (a0 1) h0_1) v0]) [0] 1 rfl (by decide) rfl ?_
    refine ww_icmp_ge (tgt := 93) C dX9_judgePhases_72 (by decide) (fun c_6 => ?_) (fun c_6 => ?_)
    · replace hf := ifT c_6 hf
      obtain rfl := Option.some.inj hf
      exact ww_vret C ⟨rfl, rfl⟩ dX9_judgePhases_93
    · replace hf := ifF c_6 hf
      refine ww_aload_n C dX9_judgePhases_75 rfl 0 rfl ?_
      refine ww_get C clOK9 in_X9_judgePhases_X9 (w := wModel E a0 (rf2 (a0 1) h0_1) v0) (fs := fsModel a0 (rf2 (a0 1) h0_1) v0) (v := .ref (a0 12)) 0 0 16 rfl q_Model (by decide) (by decide +kernel) g_Model_bestPhases dX9_judgePhases_76 ?_
      refine ww_iload_n C dX9_judgePhases_79 rfl 1 rfl ?_
      refine ww_aload_n C dX9_judgePhases_80 rfl 0 rfl ?_
      refine ww_get C clOK9 in_X9_judgePhases_X9 (w := wModel E a0 (rf2 (a0 1) h0_1) v0) (fs := fsModel a0 (rf2 (a0 1) h0_1) v0) (v := .ref (a0 6)) 0 0 9 rfl q_Model (by decide) (by decide +kernel) g_Model_phases dX9_judgePhases_81 ?_
      refine ww_iload_n C dX9_judgePhases_84 rfl 1 rfl ?_
      obtain ⟨g_7, hf⟩ := gdE hf
      refine ww_iald C (f := Model_phases v0) (w := wModel E a0 (rf2 (a0 1) h0_1) v0) 0 6 rfl c_Model_phases (inB_vp g_7) dX9_judgePhases_85 ?_
      obtain ⟨v0_86, e_v0_86⟩ : ∃ y : ModelV, y = Model_set_bestPhases v0 (upd (Model_bestPhases v0) (Int32.toNatClampNeg x3) ((Model_phases v0) (Int32.toNatClampNeg x3))) := ⟨_, rfl⟩
      replace hf := ltE e_v0_86 hf
      refine ww_iast C (f := Model_bestPhases v0) (w := wModel E a0 (rf2 (a0 1) h0_1) v0) (w' := wModel E a0 (rf2 (a0 1) h0_1) v0_86) (gs' := [wModel E a0 (rf2 (a0 1) h0_1) v0_86]) 0 12 rfl c_Model_bestPhases (inB_vp g_7) (by rw [e_v0_86]; exact s_Model_bestPhases) rfl dX9_judgePhases_86 ?_
      obtain ⟨x3_87, e_x3_87⟩ : ∃ y : Int32, y = x3 + 1 := ⟨_, rfl⟩
      replace hf := ltE e_x3_87 hf
      refine ww_iinc (v := x3_87) (lv' := [(3, .int x3_87), (0, .ref (a0 0))]) C dX9_judgePhases_87 1 rfl (by rw [e_x3_87]; rfl) (by decide) rfl ?_
      refine ww_goto (tgt := 67) C dX9_judgePhases_90 (by decide) ?_
      refine ww_sub C (lv' := [(0, .ref (a0 0)), (3, .int x3_87)]) [1, 0] rfl ?_
      exact ih _ _ hf

set_option maxHeartbeats 4000000 in
set_option maxRecDepth 100000 in
theorem w_X9_judgePhases_26 {E : Ex} {K : Kx} (C : Cx E K cX9_judgePhases 4 none RX9 wsX9_judgePhases rmX9_judgePhases) {a0 : Nat → Nat} {h0_1 : Nat}   {x1 : Int32} {v0 : ModelV} {r : ModelV} (hf : Mod_judgePhases_26 x1 v0 = some r) : WW E K 0 0 (QQ E K (fun rv g => rv = none ∧ g = [wModel E a0 (rf2 (a0 1) h0_1) r]) 0 0) 26 [(0, .ref (a0 0)), (1, .int x1)] [] [wModel E a0 (rf2 (a0 1) h0_1) v0] := by
  rw [Mod_judgePhases_26] at hf
  refine ww_aload_n C dX9_judgePhases_26 rfl 0 rfl ?_
  obtain ⟨p27, hp27, hf⟩ := bdE hf
  refine ww_callV C (As := []) (st := []) (gr := []) (c_X9_crossingsLaid (E := E) (a0 := a0) (h0_1 := h0_1) hp27) gX9_judgePhases_X9_crossingsLaid rfl yk_X9_crossingsLaid ⟨by decide, by decide⟩ ⟨by decide, by decide⟩ clOK9 0 0 rfl rfl [0] [] 1 rfl (by decide) rfl rfl (Nat.le_of_ble_eq_true rfl) dX9_judgePhases_27 ?_
  rintro _ _ ⟨rfl, rfl⟩
  refine ww_perm (gs' := [wModel E a0 (rf2 (a0 1) h0_1) v0]) [0] 1 rfl (by decide) rfl ?_
  refine ww_istore_n (lv' := [(2, .int p27), (0, .ref (a0 0)), (1, .int x1)]) C dX9_judgePhases_30 rfl (by decide) rfl ?_
  refine ww_aload_n C dX9_judgePhases_31 rfl 1 rfl ?_
  refine ww_get C clOK9 in_X9_judgePhases_X9 (w := wModel E a0 (rf2 (a0 1) h0_1) v0) (fs := fsModel a0 (rf2 (a0 1) h0_1) v0) (v := .int (Model_leastWorst v0)) 0 0 17 rfl q_Model (by decide) (by decide +kernel) g_Model_leastWorst dX9_judgePhases_32 ?_
  refine ww_iconst (v := (-1)) C dX9_judgePhases_35 (by decide) ?_
  refine ww_icmp_eq (tgt := 55) C dX9_judgePhases_36 (by decide) (fun c_3 => ?_) (fun c_3 => ?_)
  · replace hf := ifT c_3 hf
    refine ww_aload_n C dX9_judgePhases_55 rfl 1 rfl ?_
    refine ww_iload_n C dX9_judgePhases_56 rfl 2 rfl ?_
    obtain ⟨v0_57, e_v0_57⟩ : ∃ y : ModelV, y = Model_set_leastWorst v0 x1 := ⟨_, rfl⟩
    replace hf := ltE e_v0_57 hf
    refine ww_put C clOK9 in_X9_judgePhases_X9 (w := wModel E a0 (rf2 (a0 1) h0_1) v0) (fs := fsModel a0 (rf2 (a0 1) h0_1) v0) (w' := wModel E a0 (rf2 (a0 1) h0_1) v0_57) (gs' := [wModel E a0 (rf2 (a0 1) h0_1) v0_57]) 0 0 17 rfl q_Model (by decide) (by decide +kernel) rfl rfl rfl rfl l_Model (by rw [e_v0_57]; exact p_Model_leastWorst) rfl dX9_judgePhases_57 ?_
    refine ww_aload_n C dX9_judgePhases_60 rfl 1 rfl ?_
    refine ww_iload_n C dX9_judgePhases_61 rfl 0 rfl ?_
    obtain ⟨v0_62, e_v0_62⟩ : ∃ y : ModelV, y = Model_set_leastCrossings v0_57 p27 := ⟨_, rfl⟩
    replace hf := ltE e_v0_62 hf
    refine ww_put C clOK9 in_X9_judgePhases_X9 (w := wModel E a0 (rf2 (a0 1) h0_1) v0_57) (fs := fsModel a0 (rf2 (a0 1) h0_1) v0_57) (w' := wModel E a0 (rf2 (a0 1) h0_1) v0_62) (gs' := [wModel E a0 (rf2 (a0 1) h0_1) v0_62]) 0 0 18 rfl q_Model (by decide) (by decide +kernel) rfl rfl rfl rfl l_Model (by rw [e_v0_62]; exact p_Model_leastCrossings) rfl dX9_judgePhases_62 ?_
    refine ww_iconst (v := 0) C dX9_judgePhases_65 (by decide) ?_
    refine ww_istore_n (lv' := [(3, .int 0), (2, .int p27), (0, .ref (a0 0)), (1, .int x1)]) C dX9_judgePhases_66 rfl (by decide) rfl ?_
    refine ww_sub C (lv' := [(0, .ref (a0 0)), (3, .int 0)]) [2, 0] rfl ?_
    exact w_X9_judgePhases_67 C FU _ _ hf
  · replace hf := ifF c_3 hf
    refine ww_iload_n C dX9_judgePhases_39 rfl 2 rfl ?_
    refine ww_aload_n C dX9_judgePhases_40 rfl 1 rfl ?_
    refine ww_get C clOK9 in_X9_judgePhases_X9 (w := wModel E a0 (rf2 (a0 1) h0_1) v0) (fs := fsModel a0 (rf2 (a0 1) h0_1) v0) (v := .int (Model_leastWorst v0)) 0 0 17 rfl q_Model (by decide) (by decide +kernel) g_Model_leastWorst dX9_judgePhases_41 ?_
    refine ww_icmp_lt (tgt := 55) C dX9_judgePhases_44 (by decide) (fun c_4 => ?_) (fun c_4 => ?_)
    · replace hf := ifT c_4 hf
      refine ww_aload_n C dX9_judgePhases_55 rfl 1 rfl ?_
      refine ww_iload_n C dX9_judgePhases_56 rfl 2 rfl ?_
      obtain ⟨v0_57, e_v0_57⟩ : ∃ y : ModelV, y = Model_set_leastWorst v0 x1 := ⟨_, rfl⟩
      replace hf := ltE e_v0_57 hf
      refine ww_put C clOK9 in_X9_judgePhases_X9 (w := wModel E a0 (rf2 (a0 1) h0_1) v0) (fs := fsModel a0 (rf2 (a0 1) h0_1) v0) (w' := wModel E a0 (rf2 (a0 1) h0_1) v0_57) (gs' := [wModel E a0 (rf2 (a0 1) h0_1) v0_57]) 0 0 17 rfl q_Model (by decide) (by decide +kernel) rfl rfl rfl rfl l_Model (by rw [e_v0_57]; exact p_Model_leastWorst) rfl dX9_judgePhases_57 ?_
      refine ww_aload_n C dX9_judgePhases_60 rfl 1 rfl ?_
      refine ww_iload_n C dX9_judgePhases_61 rfl 0 rfl ?_
      obtain ⟨v0_62, e_v0_62⟩ : ∃ y : ModelV, y = Model_set_leastCrossings v0_57 p27 := ⟨_, rfl⟩
      replace hf := ltE e_v0_62 hf
      refine ww_put C clOK9 in_X9_judgePhases_X9 (w := wModel E a0 (rf2 (a0 1) h0_1) v0_57) (fs := fsModel a0 (rf2 (a0 1) h0_1) v0_57) (w' := wModel E a0 (rf2 (a0 1) h0_1) v0_62) (gs' := [wModel E a0 (rf2 (a0 1) h0_1) v0_62]) 0 0 18 rfl q_Model (by decide) (by decide +kernel) rfl rfl rfl rfl l_Model (by rw [e_v0_62]; exact p_Model_leastCrossings) rfl dX9_judgePhases_62 ?_
      refine ww_iconst (v := 0) C dX9_judgePhases_65 (by decide) ?_
      refine ww_istore_n (lv' := [(3, .int 0), (2, .int p27), (0, .ref (a0 0)), (1, .int x1)]) C dX9_judgePhases_66 rfl (by decide) rfl ?_
      refine ww_sub C (lv' := [(0, .ref (a0 0)), (3, .int 0)]) [2, 0] rfl ?_
      exact w_X9_judgePhases_67 C FU _ _ hf
    · replace hf := ifF c_4 hf
      refine ww_iload_n C dX9_judgePhases_47 rfl 0 rfl ?_
      refine ww_aload_n C dX9_judgePhases_48 rfl 1 rfl ?_
      refine ww_get C clOK9 in_X9_judgePhases_X9 (w := wModel E a0 (rf2 (a0 1) h0_1) v0) (fs := fsModel a0 (rf2 (a0 1) h0_1) v0) (v := .int (Model_leastCrossings v0)) 0 0 18 rfl q_Model (by decide) (by decide +kernel) g_Model_leastCrossings dX9_judgePhases_49 ?_
      refine ww_icmp_ge (tgt := 93) C dX9_judgePhases_52 (by decide) (fun c_5 => ?_) (fun c_5 => ?_)
      · replace hf := ifT c_5 hf
        obtain rfl := Option.some.inj hf
        exact ww_vret C ⟨rfl, rfl⟩ dX9_judgePhases_93
      · replace hf := ifF c_5 hf
        refine ww_aload_n C dX9_judgePhases_55 rfl 1 rfl ?_
        refine ww_iload_n C dX9_judgePhases_56 rfl 2 rfl ?_
        obtain ⟨v0_57, e_v0_57⟩ : ∃ y : ModelV, y = Model_set_leastWorst v0 x1 := ⟨_, rfl⟩
        replace hf := ltE e_v0_57 hf
        refine ww_put C clOK9 in_X9_judgePhases_X9 (w := wModel E a0 (rf2 (a0 1) h0_1) v0) (fs := fsModel a0 (rf2 (a0 1) h0_1) v0) (w' := wModel E a0 (rf2 (a0 1) h0_1) v0_57) (gs' := [wModel E a0 (rf2 (a0 1) h0_1) v0_57]) 0 0 17 rfl q_Model (by decide) (by decide +kernel) rfl rfl rfl rfl l_Model (by rw [e_v0_57]; exact p_Model_leastWorst) rfl dX9_judgePhases_57 ?_
        refine ww_aload_n C dX9_judgePhases_60 rfl 1 rfl ?_
        refine ww_iload_n C dX9_judgePhases_61 rfl 0 rfl ?_
        obtain ⟨v0_62, e_v0_62⟩ : ∃ y : ModelV, y = Model_set_leastCrossings v0_57 p27 := ⟨_, rfl⟩
        replace hf := ltE e_v0_62 hf
        refine ww_put C clOK9 in_X9_judgePhases_X9 (w := wModel E a0 (rf2 (a0 1) h0_1) v0_57) (fs := fsModel a0 (rf2 (a0 1) h0_1) v0_57) (w' := wModel E a0 (rf2 (a0 1) h0_1) v0_62) (gs' := [wModel E a0 (rf2 (a0 1) h0_1) v0_62]) 0 0 18 rfl q_Model (by decide) (by decide +kernel) rfl rfl rfl rfl l_Model (by rw [e_v0_62]; exact p_Model_leastCrossings) rfl dX9_judgePhases_62 ?_
        refine ww_iconst (v := 0) C dX9_judgePhases_65 (by decide) ?_
        refine ww_istore_n (lv' := [(3, .int 0), (2, .int p27), (0, .ref (a0 0)), (1, .int x1)]) C dX9_judgePhases_66 rfl (by decide) rfl ?_
        refine ww_sub C (lv' := [(0, .ref (a0 0)), (3, .int 0)]) [2, 0] rfl ?_
        exact w_X9_judgePhases_67 C FU _ _ hf

set_option maxHeartbeats 4000000 in
set_option maxRecDepth 100000 in
theorem c_X9_judgePhases {E : Ex} {a0 : Nat → Nat} {h0_1 : Nat} {v0 : ModelV} {r : ModelV} (hf : Mod_judgePhases v0 = some r) : Ct E yX9_judgePhases wsX9_judgePhases rmX9_judgePhases [.ref (a0 0)] [wModel E a0 (rf2 (a0 1) h0_1) v0] (fun rv g => rv = none ∧ g = [wModel E a0 (rf2 (a0 1) h0_1) r]) := by
  refine ct_of (own := RX9) (by decide +kernel) rfl rfl (Nat.le_of_ble_eq_true rfl) (fun K C => ?_)
  refine ww_sub C (lv' := [(0, .ref (a0 0))]) [0] rfl ?_
  rw [Mod_judgePhases] at hf
  refine ww_aload_n C dX9_judgePhases_0 rfl 0 rfl ?_
  obtain ⟨p1, hp1, hf⟩ := bdE hf
  refine ww_callV C (As := []) (st := []) (gr := []) (c_X9_layCycle (E := E) (a0 := a0) (h0_1 := h0_1) hp1) gX9_judgePhases_X9_layCycle rfl yk_X9_layCycle ⟨by decide, by decide⟩ ⟨by decide, by decide⟩ clOK9 0 0 rfl rfl [0] [] 1 rfl (by decide) rfl rfl (Nat.le_of_ble_eq_true rfl) dX9_judgePhases_1 ?_
  rintro _ _ ⟨rfl, rfl⟩
  refine ww_perm (gs' := [wModel E a0 (rf2 (a0 1) h0_1) p1]) [0] 1 rfl (by decide) rfl ?_
  refine ww_aload_n C dX9_judgePhases_4 rfl 0 rfl ?_
  obtain ⟨p5, hp5, hf⟩ := bdE hf
  refine ww_callV C (As := []) (st := []) (gr := []) (c_X9_worstLaid (E := E) (a0 := a0) (h0_1 := h0_1) hp5) gX9_judgePhases_X9_worstLaid rfl yk_X9_worstLaid ⟨by decide, by decide⟩ ⟨by decide, by decide⟩ clOK9 0 0 rfl rfl [0] [] 1 rfl (by decide) rfl rfl (Nat.le_of_ble_eq_true rfl) dX9_judgePhases_5 ?_
  rintro _ _ ⟨rfl, rfl⟩
  refine ww_perm (gs' := [wModel E a0 (rf2 (a0 1) h0_1) p1]) [0] 1 rfl (by decide) rfl ?_
  refine ww_istore_n (lv' := [(1, .int p5), (0, .ref (a0 0))]) C dX9_judgePhases_8 rfl (by decide) rfl ?_
  refine ww_aload_n C dX9_judgePhases_9 rfl 1 rfl ?_
  refine ww_get C clOK9 in_X9_judgePhases_X9 (w := wModel E a0 (rf2 (a0 1) h0_1) p1) (fs := fsModel a0 (rf2 (a0 1) h0_1) p1) (v := .int (Model_leastWorst p1)) 0 0 17 rfl q_Model (by decide) (by decide +kernel) g_Model_leastWorst dX9_judgePhases_10 ?_
  refine ww_iconst (v := (-1)) C dX9_judgePhases_13 (by decide) ?_
  refine ww_icmp_eq (tgt := 26) C dX9_judgePhases_14 (by decide) (fun c_1 => ?_) (fun c_1 => ?_)
  · replace hf := ifT c_1 hf
    refine ww_sub C (lv' := [(0, .ref (a0 0)), (1, .int p5)]) [1, 0] rfl ?_
    exact w_X9_judgePhases_26 C hf
  · replace hf := ifF c_1 hf
    refine ww_iload_n C dX9_judgePhases_17 rfl 0 rfl ?_
    refine ww_aload_n C dX9_judgePhases_18 rfl 1 rfl ?_
    refine ww_get C clOK9 in_X9_judgePhases_X9 (w := wModel E a0 (rf2 (a0 1) h0_1) p1) (fs := fsModel a0 (rf2 (a0 1) h0_1) p1) (v := .int (Model_leastWorst p1)) 0 0 17 rfl q_Model (by decide) (by decide +kernel) g_Model_leastWorst dX9_judgePhases_19 ?_
    refine ww_icmp_le (tgt := 26) C dX9_judgePhases_22 (by decide) (fun c_2 => ?_) (fun c_2 => ?_)
    · replace hf := ifT c_2 hf
      refine ww_sub C (lv' := [(0, .ref (a0 0)), (1, .int p5)]) [1, 0] rfl ?_
      exact w_X9_judgePhases_26 C hf
    · replace hf := ifF c_2 hf
      obtain rfl := Option.some.inj hf
      exact ww_vret C ⟨rfl, rfl⟩ dX9_judgePhases_25

theorem yk_X9_judgePhases : yX9_judgePhases.cls = RX9 ∧ yX9_judgePhases.cls ≠ "java/lang/invoke/MethodHandle" ∧ yX9_judgePhases.cls ≠ "java/lang/invoke/VarHandle" ∧ (parseMethodDescriptor yX9_judgePhases.desc).map (fun d => d.parameters.length) = some 0 := by decide +kernel
abbrev rmX9_layBest : Room := { frames := 8, cells := 0, slots := 0, locals := 182 }
set_option maxRecDepth 20000 in
theorem in_X9_layBest_X9 : ∀ w ∈ u_ws RX9 TX9 35, w ∈ wsX9_layBest := by decide +kernel
set_option maxHeartbeats 4000000 in
set_option maxRecDepth 100000 in
theorem w_X9_layBest_32 {E : Ex} {K : Kx} (C : Cx E K cX9_layBest 2 none RX9 wsX9_layBest rmX9_layBest) {a0 : Nat → Nat} {h0_1 : Nat}   {r : ModelV} : ∀ (n : Nat) (v0 : ModelV), Mod_layBest_32 n v0 = some r → WW E K 0 0 (QQ E K (fun rv g => rv = none ∧ g = [wModel E a0 (rf2 (a0 1) h0_1) r]) 0 0) 32 [(0, .ref (a0 0))] [] [wModel E a0 (rf2 (a0 1) h0_1) v0] := by
  intro n
  induction n with
  | zero =>
    intro v0 hf
    simp [Mod_layBest_32] at hf
  | succ n ih =>
    intro v0 hf
    rw [Mod_layBest_32] at hf
    refine ww_aload_n C dX9_layBest_32 rfl 0 rfl ?_
    obtain ⟨p33, hp33, hf⟩ := bdE hf
    refine ww_callV C (As := []) (st := []) (gr := []) (c_X9_nextPhases (E := E) (a0 := a0) (h0_1 := h0_1) hp33) gX9_layBest_X9_nextPhases rfl yk_X9_nextPhases ⟨by decide, by decide⟩ ⟨by decide, by decide⟩ clOK9 0 0 rfl rfl [0] [] 1 rfl (by decide) rfl rfl (Nat.le_of_ble_eq_true rfl) dX9_layBest_33 ?_
    rintro _ _ ⟨rfl, rfl⟩
    refine ww_perm (gs' := [wModel E a0 (rf2 (a0 1) h0_1) p33.2]) [0] 1 rfl (by decide) rfl ?_
    refine ww_if_eqB (tgt := 46) C dX9_layBest_36 (by decide) (fun c_3 => ?_) (fun c_3 => ?_)
    · replace hf := bfE c_3 hf
      obtain rfl := Option.some.inj hf
      exact ww_vret C ⟨rfl, rfl⟩ dX9_layBest_46
    · replace hf := btE c_3 hf
      refine ww_aload_n C dX9_layBest_39 rfl 0 rfl ?_
      obtain ⟨p40, hp40, hf⟩ := bdE hf
      refine ww_callV C (As := []) (st := []) (gr := []) (c_X9_judgePhases (E := E) (a0 := a0) (h0_1 := h0_1) hp40) gX9_layBest_X9_judgePhases rfl yk_X9_judgePhases ⟨by decide, by decide⟩ ⟨by decide, by decide⟩ clOK9 0 0 rfl rfl [0] [] 1 rfl (by decide) rfl rfl (Nat.le_of_ble_eq_true rfl) dX9_layBest_40 ?_
      rintro _ _ ⟨rfl, rfl⟩
      refine ww_perm (gs' := [wModel E a0 (rf2 (a0 1) h0_1) p40]) [0] 1 rfl (by decide) rfl ?_
      refine ww_goto (tgt := 32) C dX9_layBest_43 (by decide) ?_
      refine ww_sub C (lv' := [(0, .ref (a0 0))]) [0] rfl ?_
      exact ih _ hf

set_option maxHeartbeats 4000000 in
set_option maxRecDepth 100000 in
theorem w_X9_layBest_7 {E : Ex} {K : Kx} (C : Cx E K cX9_layBest 2 none RX9 wsX9_layBest rmX9_layBest) {a0 : Nat → Nat} {h0_1 : Nat}   {r : ModelV} : ∀ (n : Nat) (x1 : Int32) (v0 : ModelV), Mod_layBest_7 n x1 v0 = some r → WW E K 0 0 (QQ E K (fun rv g => rv = none ∧ g = [wModel E a0 (rf2 (a0 1) h0_1) r]) 0 0) 7 [(0, .ref (a0 0)), (1, .int x1)] [] [wModel E a0 (rf2 (a0 1) h0_1) v0] := by
  intro n
  induction n with
  | zero =>
    intro x1 v0 hf
    simp [Mod_layBest_7] at hf
  | succ n ih =>
    intro x1 v0 hf
    rw [Mod_layBest_7] at hf
    refine ww_iload_n C dX9_layBest_7 rfl 1 rfl ?_
    refine ww_aload_n C dX9_layBest_8 rfl 0 rfl ?_
    obtain ⟨p9, hp9, hf⟩ := bdE hf
    refine ww_callV C (As := []) (st := [.int x1]) (gr := []) (c_X9_guards (E := E) (a0 := a0) (h0_1 := h0_1) hp9) gX9_layBest_X9_guards rfl yk_X9_guards ⟨by decide, by decide⟩ ⟨by decide, by decide⟩ clOK9 0 0 rfl rfl [0] [] 1 rfl (by decide) rfl rfl (Nat.le_of_ble_eq_true rfl) dX9_layBest_9 ?_
    rintro _ _ ⟨rfl, rfl⟩
    refine ww_perm (gs' := [wModel E a0 (rf2 (a0 1) h0_1) v0]) [0] 1 rfl (by decide) rfl ?_
    refine ww_icmp_ge (tgt := 28) C dX9_layBest_12 (by decide) (fun c_1 => ?_) (fun c_1 => ?_)
    · replace hf := ifT c_1 hf
      refine ww_aload_n C dX9_layBest_28 rfl 0 rfl ?_
      obtain ⟨p29, hp29, hf⟩ := bdE hf
      refine ww_callV C (As := []) (st := []) (gr := []) (c_X9_judgePhases (E := E) (a0 := a0) (h0_1 := h0_1) hp29) gX9_layBest_X9_judgePhases rfl yk_X9_judgePhases ⟨by decide, by decide⟩ ⟨by decide, by decide⟩ clOK9 0 0 rfl rfl [0] [] 1 rfl (by decide) rfl rfl (Nat.le_of_ble_eq_true rfl) dX9_layBest_29 ?_
      rintro _ _ ⟨rfl, rfl⟩
      refine ww_perm (gs' := [wModel E a0 (rf2 (a0 1) h0_1) p29]) [0] 1 rfl (by decide) rfl ?_
      refine ww_sub C (lv' := [(0, .ref (a0 0))]) [0] rfl ?_
      exact w_X9_layBest_32 C FU _ hf
    · replace hf := ifF c_1 hf
      refine ww_aload_n C dX9_layBest_15 rfl 0 rfl ?_
      refine ww_get C clOK9 in_X9_layBest_X9 (w := wModel E a0 (rf2 (a0 1) h0_1) v0) (fs := fsModel a0 (rf2 (a0 1) h0_1) v0) (v := .ref (a0 6)) 0 0 9 rfl q_Model (by decide) (by decide +kernel) g_Model_phases dX9_layBest_16 ?_
      refine ww_iload_n C dX9_layBest_19 rfl 1 rfl ?_
      refine ww_iconst (v := 0) C dX9_layBest_20 (by decide) ?_
      obtain ⟨g_2, hf⟩ := gdE hf
      obtain ⟨v0_21, e_v0_21⟩ : ∃ y : ModelV, y = Model_set_phases v0 (upd (Model_phases v0) (Int32.toNatClampNeg x1) 0) := ⟨_, rfl⟩
      replace hf := ltE e_v0_21 hf
      refine ww_iast C (f := Model_phases v0) (w := wModel E a0 (rf2 (a0 1) h0_1) v0) (w' := wModel E a0 (rf2 (a0 1) h0_1) v0_21) (gs' := [wModel E a0 (rf2 (a0 1) h0_1) v0_21]) 0 6 rfl c_Model_phases (inB_vp g_2) (by rw [e_v0_21]; exact s_Model_phases) rfl dX9_layBest_21 ?_
      obtain ⟨x1_22, e_x1_22⟩ : ∃ y : Int32, y = x1 + 1 := ⟨_, rfl⟩
      replace hf := ltE e_x1_22 hf
      refine ww_iinc (v := x1_22) (lv' := [(1, .int x1_22), (0, .ref (a0 0))]) C dX9_layBest_22 1 rfl (by rw [e_x1_22]; rfl) (by decide) rfl ?_
      refine ww_goto (tgt := 7) C dX9_layBest_25 (by decide) ?_
      refine ww_sub C (lv' := [(0, .ref (a0 0)), (1, .int x1_22)]) [1, 0] rfl ?_
      exact ih _ _ hf

set_option maxHeartbeats 4000000 in
set_option maxRecDepth 100000 in
theorem c_X9_layBest {E : Ex} {a0 : Nat → Nat} {h0_1 : Nat} {v0 : ModelV} {r : ModelV} (hf : Mod_layBest v0 = some r) : Ct E yX9_layBest wsX9_layBest rmX9_layBest [.ref (a0 0)] [wModel E a0 (rf2 (a0 1) h0_1) v0] (fun rv g => rv = none ∧ g = [wModel E a0 (rf2 (a0 1) h0_1) r]) := by
  refine ct_of (own := RX9) (by decide +kernel) rfl rfl (Nat.le_of_ble_eq_true rfl) (fun K C => ?_)
  refine ww_sub C (lv' := [(0, .ref (a0 0))]) [0] rfl ?_
  rw [Mod_layBest] at hf
  refine ww_aload_n C dX9_layBest_0 rfl 0 rfl ?_
  refine ww_iconst (v := (-1)) C dX9_layBest_1 (by decide) ?_
  obtain ⟨v0_2, e_v0_2⟩ : ∃ y : ModelV, y = Model_set_leastWorst v0 (-1) := ⟨_, rfl⟩
  replace hf := ltE e_v0_2 hf
  refine ww_put C clOK9 in_X9_layBest_X9 (w := wModel E a0 (rf2 (a0 1) h0_1) v0) (fs := fsModel a0 (rf2 (a0 1) h0_1) v0) (w' := wModel E a0 (rf2 (a0 1) h0_1) v0_2) (gs' := [wModel E a0 (rf2 (a0 1) h0_1) v0_2]) 0 0 17 rfl q_Model (by decide) (by decide +kernel) rfl rfl rfl rfl l_Model (by rw [e_v0_2]; exact p_Model_leastWorst) rfl dX9_layBest_2 ?_
  refine ww_iconst (v := 0) C dX9_layBest_5 (by decide) ?_
  refine ww_istore_n (lv' := [(1, .int 0), (0, .ref (a0 0))]) C dX9_layBest_6 rfl (by decide) rfl ?_
  refine ww_sub C (lv' := [(0, .ref (a0 0)), (1, .int 0)]) [1, 0] rfl ?_
  exact w_X9_layBest_7 C FU _ _ hf

theorem yk_X9_layBest : yX9_layBest.cls = RX9 ∧ yX9_layBest.cls ≠ "java/lang/invoke/MethodHandle" ∧ yX9_layBest.cls ≠ "java/lang/invoke/VarHandle" ∧ (parseMethodDescriptor yX9_layBest.desc).map (fun d => d.parameters.length) = some 0 := by decide +kernel
abbrev rmX9_reachFrom : Room := { frames := 4, cells := 0, slots := 0, locals := 88 }
set_option maxRecDepth 20000 in
theorem in_X9_reachFrom_X9 : ∀ w ∈ u_ws RX9 TX9 35, w ∈ wsX9_reachFrom := by decide +kernel
set_option maxHeartbeats 4000000 in
set_option maxRecDepth 100000 in
theorem w_X9_reachFrom_56 {E : Ex} {K : Kx} (C : Cx E K cX9_reachFrom 7 (some .int) RX9 wsX9_reachFrom rmX9_reachFrom) {a0 : Nat → Nat} {h0_1 : Nat} {x1 : Int32} {x2 : Int32} {v0 : ModelV}  {x3 : Int32} {x4 : Int32} {x5 : Int32} {s0 : Int32} {k14 : Int32 → Int32 → Option Int32} {r : Int32} (hk14 : ∀ (x3 : Int32) (x4 : Int32), k14 x3 x4 = some r → WW E K 0 0 (QQ E K (fun rv g => rv = some (.int r) ∧ g = [wModel E a0 (rf2 (a0 1) h0_1) v0]) 0 0) 14 [(0, .ref (a0 0)), (1, .int x1), (2, .int x2), (3, .int x3), (4, .int x4)] [] [wModel E a0 (rf2 (a0 1) h0_1) v0]) (hf : Mod_reachFrom_56 x1 x2 v0 k14 x3 x4 x5 s0 = some r) : WW E K 0 0 (QQ E K (fun rv g => rv = some (.int r) ∧ g = [wModel E a0 (rf2 (a0 1) h0_1) v0]) 0 0) 56 [(0, .ref (a0 0)), (1, .int x1), (2, .int x2), (3, .int x3), (4, .int x4), (5, .int x5)] [.int s0] [wModel E a0 (rf2 (a0 1) h0_1) v0] := by
  rw [Mod_reachFrom_56] at hf
  refine ww_istore (lv' := [(6, .int s0), (0, .ref (a0 0)), (1, .int x1), (2, .int x2), (3, .int x3), (4, .int x4), (5, .int x5)]) C dX9_reachFrom_56 (by decide) rfl ?_
  refine ww_iload_n C dX9_reachFrom_58 rfl 4 rfl ?_
  refine ww_iload C dX9_reachFrom_59 0 rfl ?_
  refine ww_if_eq (tgt := 73) C dX9_reachFrom_61 (by decide) (fun c_6 => ?_) (fun c_6 => ?_)
  · replace hf := ifT c_6 hf
    refine ww_iconst (v := (-1)) C dX9_reachFrom_73 (by decide) ?_
    refine ww_iand C dX9_reachFrom_74 ?_
    refine ww_topi (fun x3_75 e_x3_75 => ?_)
    replace hf := ltE e_x3_75 hf
    refine ww_istore_n (lv' := [(3, .int x3_75), (6, .int s0), (0, .ref (a0 0)), (1, .int x1), (2, .int x2), (4, .int x4), (5, .int x5)]) C dX9_reachFrom_75 rfl (by decide) rfl ?_
    obtain ⟨x4_76, e_x4_76⟩ : ∃ y : Int32, y = x4 + 1 := ⟨_, rfl⟩
    replace hf := ltE e_x4_76 hf
    refine ww_iinc (v := x4_76) (lv' := [(4, .int x4_76), (3, .int x3_75), (6, .int s0), (0, .ref (a0 0)), (1, .int x1), (2, .int x2), (5, .int x5)]) C dX9_reachFrom_76 5 rfl (by rw [e_x4_76]; rfl) (by decide) rfl ?_
    refine ww_goto (tgt := 14) C dX9_reachFrom_79 (by decide) ?_
    refine ww_sub C (lv' := [(0, .ref (a0 0)), (1, .int x1), (2, .int x2), (3, .int x3_75), (4, .int x4_76)]) [3, 4, 5, 1, 0] rfl ?_
    exact hk14 _ _ hf
  · replace hf := ifF c_6 hf
    refine ww_iconst (v := 1) C dX9_reachFrom_64 (by decide) ?_
    refine ww_iload C dX9_reachFrom_65 6 rfl ?_
    refine ww_ishl C dX9_reachFrom_67 ?_
    refine ww_iconst (v := (-1)) C dX9_reachFrom_68 (by decide) ?_
    refine ww_ixor C dX9_reachFrom_69 ?_
    refine ww_goto (tgt := 74) C dX9_reachFrom_70 (by decide) ?_
    refine ww_iand C dX9_reachFrom_74 ?_
    refine ww_topi (fun x3_75 e_x3_75 => ?_)
    replace hf := ltE e_x3_75 hf
    refine ww_istore_n (lv' := [(3, .int x3_75), (6, .int s0), (0, .ref (a0 0)), (1, .int x1), (2, .int x2), (4, .int x4), (5, .int x5)]) C dX9_reachFrom_75 rfl (by decide) rfl ?_
    obtain ⟨x4_76, e_x4_76⟩ : ∃ y : Int32, y = x4 + 1 := ⟨_, rfl⟩
    replace hf := ltE e_x4_76 hf
    refine ww_iinc (v := x4_76) (lv' := [(4, .int x4_76), (3, .int x3_75), (6, .int s0), (0, .ref (a0 0)), (1, .int x1), (2, .int x2), (5, .int x5)]) C dX9_reachFrom_76 5 rfl (by rw [e_x4_76]; rfl) (by decide) rfl ?_
    refine ww_goto (tgt := 14) C dX9_reachFrom_79 (by decide) ?_
    refine ww_sub C (lv' := [(0, .ref (a0 0)), (1, .int x1), (2, .int x2), (3, .int x3_75), (4, .int x4_76)]) [3, 4, 5, 1, 0] rfl ?_
    exact hk14 _ _ hf

set_option maxHeartbeats 4000000 in
set_option maxRecDepth 100000 in
theorem w_X9_reachFrom_55 {E : Ex} {K : Kx} (C : Cx E K cX9_reachFrom 7 (some .int) RX9 wsX9_reachFrom rmX9_reachFrom) {a0 : Nat → Nat} {h0_1 : Nat} {x1 : Int32} {x2 : Int32} {v0 : ModelV}  {x3 : Int32} {x4 : Int32} {x5 : Int32} {k14 : Int32 → Int32 → Option Int32} {r : Int32} (hk14 : ∀ (x3 : Int32) (x4 : Int32), k14 x3 x4 = some r → WW E K 0 0 (QQ E K (fun rv g => rv = some (.int r) ∧ g = [wModel E a0 (rf2 (a0 1) h0_1) v0]) 0 0) 14 [(0, .ref (a0 0)), (1, .int x1), (2, .int x2), (3, .int x3), (4, .int x4)] [] [wModel E a0 (rf2 (a0 1) h0_1) v0]) (hf : Mod_reachFrom_55 x1 x2 v0 k14 x3 x4 x5 = some r) : WW E K 0 0 (QQ E K (fun rv g => rv = some (.int r) ∧ g = [wModel E a0 (rf2 (a0 1) h0_1) v0]) 0 0) 55 [(0, .ref (a0 0)), (1, .int x1), (2, .int x2), (3, .int x3), (4, .int x4), (5, .int x5)] [] [wModel E a0 (rf2 (a0 1) h0_1) v0] := by
  rw [Mod_reachFrom_55] at hf
  refine ww_iconst (v := 0) C dX9_reachFrom_55 (by decide) ?_
  refine ww_sub C (lv' := [(0, .ref (a0 0)), (1, .int x1), (2, .int x2), (3, .int x3), (4, .int x4), (5, .int x5)]) [0, 1, 2, 3, 4, 5] rfl ?_
  exact w_X9_reachFrom_56 C (k14 := k14) hk14 hf

set_option maxHeartbeats 4000000 in
set_option maxRecDepth 100000 in
theorem w_X9_reachFrom_14 {E : Ex} {K : Kx} (C : Cx E K cX9_reachFrom 7 (some .int) RX9 wsX9_reachFrom rmX9_reachFrom) {a0 : Nat → Nat} {h0_1 : Nat} {x1 : Int32} {x2 : Int32} {v0 : ModelV}  {r : Int32} : ∀ (n : Nat) (x3 : Int32) (x4 : Int32), Mod_reachFrom_14 x1 x2 v0 n x3 x4 = some r → WW E K 0 0 (QQ E K (fun rv g => rv = some (.int r) ∧ g = [wModel E a0 (rf2 (a0 1) h0_1) v0]) 0 0) 14 [(0, .ref (a0 0)), (1, .int x1), (2, .int x2), (3, .int x3), (4, .int x4)] [] [wModel E a0 (rf2 (a0 1) h0_1) v0] := by
  intro n
  induction n with
  | zero =>
    intro x3 x4 hf
    simp [Mod_reachFrom_14] at hf
  | succ n ih =>
    intro x3 x4 hf
    rw [Mod_reachFrom_14] at hf
    refine ww_iload C dX9_reachFrom_14 4 rfl ?_
    refine ww_aload_n C dX9_reachFrom_16 rfl 0 rfl ?_
    obtain ⟨p17, hp17, hf⟩ := bdE hf
    refine ww_callV C (As := []) (st := [.int x4]) (gr := []) (c_X9_guards (E := E) (a0 := a0) (h0_1 := h0_1) hp17) gX9_reachFrom_X9_guards rfl yk_X9_guards ⟨by decide, by decide⟩ ⟨by decide, by decide⟩ clOK9 0 0 rfl rfl [0] [] 1 rfl (by decide) rfl rfl (Nat.le_of_ble_eq_true rfl) dX9_reachFrom_17 ?_
    rintro _ _ ⟨rfl, rfl⟩
    refine ww_perm (gs' := [wModel E a0 (rf2 (a0 1) h0_1) v0]) [0] 1 rfl (by decide) rfl ?_
    refine ww_icmp_ge (tgt := 82) C dX9_reachFrom_20 (by decide) (fun c_3 => ?_) (fun c_3 => ?_)
    · replace hf := ifT c_3 hf
      refine ww_iload_n C dX9_reachFrom_82 rfl 3 rfl ?_
      refine ww_aload_n C dX9_reachFrom_83 rfl 0 rfl ?_
      refine ww_iload_n C dX9_reachFrom_84 rfl 2 rfl ?_
      refine ww_iconst (v := 1) C dX9_reachFrom_85 (by decide) ?_
      refine ww_iadd C dX9_reachFrom_86 ?_
      obtain ⟨p87, hp87, hf⟩ := bdE hf
      refine ww_callV C (As := [.int (x2 + 1)]) (st := [.int x3]) (gr := []) (c_X9_seenAt (E := E) (a0 := a0) (h0_1 := h0_1) hp87) gX9_reachFrom_X9_seenAt rfl yk_X9_seenAt ⟨by decide, by decide⟩ ⟨by decide, by decide⟩ clOK9 0 0 rfl rfl [0] [] 1 rfl (by decide) rfl rfl (Nat.le_of_ble_eq_true rfl) dX9_reachFrom_87 ?_
      rintro _ _ ⟨rfl, rfl⟩
      refine ww_perm (gs' := [wModel E a0 (rf2 (a0 1) h0_1) v0]) [0] 1 rfl (by decide) rfl ?_
      refine ww_iconst (v := (-1)) C dX9_reachFrom_90 (by decide) ?_
      refine ww_ixor C dX9_reachFrom_91 ?_
      refine ww_iand C dX9_reachFrom_92 ?_
      obtain rfl := Option.some.inj hf
      exact ww_iret C ⟨rfl, rfl⟩ dX9_reachFrom_93
    · replace hf := ifF c_3 hf
      refine ww_aload_n C dX9_reachFrom_23 rfl 0 rfl ?_
      refine ww_iload C dX9_reachFrom_24 4 rfl ?_
      refine ww_iload_n C dX9_reachFrom_26 rfl 2 rfl ?_
      obtain ⟨p27, hp27, hf⟩ := bdE hf
      refine ww_callV C (As := [.int x4, .int x2]) (st := []) (gr := []) (c_X9_place (E := E) (a0 := a0) (h0_1 := h0_1) hp27) gX9_reachFrom_X9_place rfl yk_X9_place ⟨by decide, by decide⟩ ⟨by decide, by decide⟩ clOK9 0 0 rfl rfl [0] [] 1 rfl (by decide) rfl rfl (Nat.le_of_ble_eq_true rfl) dX9_reachFrom_27 ?_
      rintro _ _ ⟨rfl, rfl⟩
      refine ww_perm (gs' := [wModel E a0 (rf2 (a0 1) h0_1) v0]) [0] 1 rfl (by decide) rfl ?_
      refine ww_istore (lv' := [(5, .int p27), (0, .ref (a0 0)), (1, .int x1), (2, .int x2), (3, .int x3), (4, .int x4)]) C dX9_reachFrom_30 (by decide) rfl ?_
      refine ww_iload C dX9_reachFrom_32 0 rfl ?_
      refine ww_iload_n C dX9_reachFrom_34 rfl 2 rfl ?_
      refine ww_icmp_eq (tgt := 55) C dX9_reachFrom_35 (by decide) (fun c_4 => ?_) (fun c_4 => ?_)
      · replace hf := ifT c_4 hf
        refine ww_sub C (lv' := [(0, .ref (a0 0)), (1, .int x1), (2, .int x2), (3, .int x3), (4, .int x4), (5, .int p27)]) [1, 2, 3, 4, 5, 0] rfl ?_
        exact w_X9_reachFrom_55 C (k14 := (fun (x3 : Int32) (x4 : Int32) => Mod_reachFrom_14 x1 x2 v0 n x3 x4)) ih hf
      · replace hf := ifF c_4 hf
        refine ww_aload_n C dX9_reachFrom_38 rfl 1 rfl ?_
        refine ww_iload C dX9_reachFrom_39 5 rfl ?_
        refine ww_iload_n C dX9_reachFrom_41 rfl 3 rfl ?_
        refine ww_iconst (v := 1) C dX9_reachFrom_42 (by decide) ?_
        refine ww_iadd C dX9_reachFrom_43 ?_
        obtain ⟨p44, hp44, hf⟩ := bdE hf
        refine ww_callV C (As := [.int x4, .int (x2 + 1)]) (st := []) (gr := []) (c_X9_place (E := E) (a0 := a0) (h0_1 := h0_1) hp44) gX9_reachFrom_X9_place rfl yk_X9_place ⟨by decide, by decide⟩ ⟨by decide, by decide⟩ clOK9 0 0 rfl rfl [0] [] 1 rfl (by decide) rfl rfl (Nat.le_of_ble_eq_true rfl) dX9_reachFrom_44 ?_
        rintro _ _ ⟨rfl, rfl⟩
        refine ww_perm (gs' := [wModel E a0 (rf2 (a0 1) h0_1) v0]) [0] 1 rfl (by decide) rfl ?_
        refine ww_iload_n C dX9_reachFrom_47 rfl 2 rfl ?_
        refine ww_icmp_ne (tgt := 55) C dX9_reachFrom_48 (by decide) (fun c_5 => ?_) (fun c_5 => ?_)
        · replace hf := ifF c_5 hf
          refine ww_sub C (lv' := [(0, .ref (a0 0)), (1, .int x1), (2, .int x2), (3, .int x3), (4, .int x4), (5, .int p27)]) [1, 2, 3, 4, 5, 0] rfl ?_
          exact w_X9_reachFrom_55 C (k14 := (fun (x3 : Int32) (x4 : Int32) => Mod_reachFrom_14 x1 x2 v0 n x3 x4)) ih hf
        · replace hf := ifT c_5 hf
          refine ww_iconst (v := 1) C dX9_reachFrom_51 (by decide) ?_
          refine ww_goto (tgt := 56) C dX9_reachFrom_52 (by decide) ?_
          refine ww_sub C (lv' := [(0, .ref (a0 0)), (1, .int x1), (2, .int x2), (3, .int x3), (4, .int x4), (5, .int p27)]) [1, 2, 3, 4, 5, 0] rfl ?_
          exact w_X9_reachFrom_56 C (k14 := (fun (x3 : Int32) (x4 : Int32) => Mod_reachFrom_14 x1 x2 v0 n x3 x4)) ih hf

set_option maxHeartbeats 4000000 in
set_option maxRecDepth 100000 in
theorem c_X9_reachFrom {E : Ex} {a0 : Nat → Nat} {h0_1 : Nat} {x1 : Int32} {x2 : Int32} {v0 : ModelV} {r : Int32} (hf : Mod_reachFrom x1 x2 v0 = some r) : Ct E yX9_reachFrom wsX9_reachFrom rmX9_reachFrom [.ref (a0 0), .int x1, .int x2] [wModel E a0 (rf2 (a0 1) h0_1) v0] (fun rv g => rv = some (.int r) ∧ g = [wModel E a0 (rf2 (a0 1) h0_1) v0]) := by
  refine ct_of (own := RX9) (by decide +kernel) rfl rfl (Nat.le_of_ble_eq_true rfl) (fun K C => ?_)
  refine ww_sub C (lv' := [(0, .ref (a0 0)), (1, .int x1), (2, .int x2)]) [0, 1, 2] rfl ?_
  rw [Mod_reachFrom] at hf
  refine ww_aload_n C dX9_reachFrom_0 rfl 0 rfl ?_
  refine ww_get C clOK9 in_X9_reachFrom_X9 (w := wModel E a0 (rf2 (a0 1) h0_1) v0) (fs := fsModel a0 (rf2 (a0 1) h0_1) v0) (v := .ref (a0 5)) 0 0 8 rfl q_Model (by decide) (by decide +kernel) g_Model_joined dX9_reachFrom_1 ?_
  refine ww_iload_n C dX9_reachFrom_4 rfl 1 rfl ?_
  obtain ⟨g_1, hf⟩ := gdE hf
  refine ww_iald C (f := Model_joined v0) (w := wModel E a0 (rf2 (a0 1) h0_1) v0) 0 5 rfl c_Model_joined (inB_vp g_1) dX9_reachFrom_5 ?_
  refine ww_iconst (v := 1) C dX9_reachFrom_6 (by decide) ?_
  refine ww_iload_n C dX9_reachFrom_7 rfl 1 rfl ?_
  refine ww_ishl C dX9_reachFrom_8 ?_
  refine ww_ior C dX9_reachFrom_9 ?_
  refine ww_topi (fun x3_10 e_x3_10 => ?_)
  replace hf := ltE e_x3_10 hf
  refine ww_istore_n (lv' := [(3, .int x3_10), (0, .ref (a0 0)), (1, .int x1), (2, .int x2)]) C dX9_reachFrom_10 rfl (by decide) rfl ?_
  refine ww_iconst (v := 0) C dX9_reachFrom_11 (by decide) ?_
  refine ww_istore (lv' := [(4, .int 0), (3, .int x3_10), (0, .ref (a0 0)), (1, .int x1), (2, .int x2)]) C dX9_reachFrom_12 (by decide) rfl ?_
  refine ww_sub C (lv' := [(0, .ref (a0 0)), (1, .int x1), (2, .int x2), (3, .int x3_10), (4, .int 0)]) [2, 3, 4, 1, 0] rfl ?_
  exact w_X9_reachFrom_14 C FU _ _ hf

theorem yk_X9_reachFrom : yX9_reachFrom.cls = RX9 ∧ yX9_reachFrom.cls ≠ "java/lang/invoke/MethodHandle" ∧ yX9_reachFrom.cls ≠ "java/lang/invoke/VarHandle" ∧ (parseMethodDescriptor yX9_reachFrom.desc).map (fun d => d.parameters.length) = some 2 := by decide +kernel
abbrev rmX9_nextRooms : Room := { frames := 5, cells := 0, slots := 0, locals := 114 }
set_option maxHeartbeats 4000000 in
set_option maxRecDepth 100000 in
theorem w_X9_nextRooms_5 {E : Ex} {K : Kx} (C : Cx E K cX9_nextRooms 5 (some .int) RX9 wsX9_nextRooms rmX9_nextRooms) {a0 : Nat → Nat} {h0_1 : Nat} {x1 : Int32} {x2 : Int32} {v0 : ModelV}  {r : Int32} : ∀ (n : Nat) (x3 : Int32) (x4 : Int32), Mod_nextRooms_5 x1 x2 v0 n x3 x4 = some r → WW E K 0 0 (QQ E K (fun rv g => rv = some (.int r) ∧ g = [wModel E a0 (rf2 (a0 1) h0_1) v0]) 0 0) 5 [(0, .ref (a0 0)), (1, .int x1), (2, .int x2), (3, .int x3), (4, .int x4)] [] [wModel E a0 (rf2 (a0 1) h0_1) v0] := by
  intro n
  induction n with
  | zero =>
    intro x3 x4 hf
    simp [Mod_nextRooms_5] at hf
  | succ n ih =>
    intro x3 x4 hf
    rw [Mod_nextRooms_5] at hf
    refine ww_iload C dX9_nextRooms_5 4 rfl ?_
    refine ww_aload_n C dX9_nextRooms_7 rfl 0 rfl ?_
    obtain ⟨p8, hp8, hf⟩ := bdE hf
    refine ww_callV C (As := []) (st := [.int x4]) (gr := []) (c_X9_rooms (E := E) (a0 := a0) (h0_1 := h0_1) hp8) gX9_nextRooms_X9_rooms rfl yk_X9_rooms ⟨by decide, by decide⟩ ⟨by decide, by decide⟩ clOK9 0 0 rfl rfl [0] [] 1 rfl (by decide) rfl rfl (Nat.le_of_ble_eq_true rfl) dX9_nextRooms_8 ?_
    rintro _ _ ⟨rfl, rfl⟩
    refine ww_perm (gs' := [wModel E a0 (rf2 (a0 1) h0_1) v0]) [0] 1 rfl (by decide) rfl ?_
    refine ww_icmp_ge (tgt := 43) C dX9_nextRooms_11 (by decide) (fun c_1 => ?_) (fun c_1 => ?_)
    · replace hf := ifT c_1 hf
      refine ww_iload_n C dX9_nextRooms_43 rfl 3 rfl ?_
      obtain rfl := Option.some.inj hf
      exact ww_iret C ⟨rfl, rfl⟩ dX9_nextRooms_44
    · replace hf := ifF c_1 hf
      refine ww_iload_n C dX9_nextRooms_14 rfl 3 rfl ?_
      refine ww_iload_n C dX9_nextRooms_15 rfl 1 rfl ?_
      refine ww_iload C dX9_nextRooms_16 4 rfl ?_
      obtain ⟨p18, hp18, hf⟩ := bdE hf
      refine ww_callS C (As := [.int x1, .int x4]) (st := [.int x3]) (gr := [wModel E a0 (rf2 (a0 1) h0_1) v0]) (c_X9_has (E := E)  hp18) gX9_nextRooms_X9_has rfl ysk_X9_has ⟨by decide, by decide⟩ ⟨by decide, by decide⟩ [] [0] 1 rfl (by decide) rfl rfl (Nat.le_of_ble_eq_true rfl) dX9_nextRooms_18 ?_
      rintro _ _ ⟨rfl, rfl⟩
      refine ww_perm (gs' := [wModel E a0 (rf2 (a0 1) h0_1) v0]) [0] 1 rfl (by decide) rfl ?_
      refine ww_if_eqB (tgt := 34) C dX9_nextRooms_21 (by decide) (fun c_2 => ?_) (fun c_2 => ?_)
      · replace hf := bfE c_2 hf
        refine ww_iconst (v := 0) C dX9_nextRooms_34 (by decide) ?_
        refine ww_ior C dX9_nextRooms_35 ?_
        refine ww_topi (fun x3_36 e_x3_36 => ?_)
        replace hf := ltE e_x3_36 hf
        refine ww_istore_n (lv' := [(3, .int x3_36), (0, .ref (a0 0)), (1, .int x1), (2, .int x2), (4, .int x4)]) C dX9_nextRooms_36 rfl (by decide) rfl ?_
        obtain ⟨x4_37, e_x4_37⟩ : ∃ y : Int32, y = x4 + 1 := ⟨_, rfl⟩
        replace hf := ltE e_x4_37 hf
        refine ww_iinc (v := x4_37) (lv' := [(4, .int x4_37), (3, .int x3_36), (0, .ref (a0 0)), (1, .int x1), (2, .int x2)]) C dX9_nextRooms_37 4 rfl (by rw [e_x4_37]; rfl) (by decide) rfl ?_
        refine ww_goto (tgt := 5) C dX9_nextRooms_40 (by decide) ?_
        refine ww_sub C (lv' := [(0, .ref (a0 0)), (1, .int x1), (2, .int x2), (3, .int x3_36), (4, .int x4_37)]) [2, 3, 4, 1, 0] rfl ?_
        exact ih _ _ hf
      · replace hf := btE c_2 hf
        refine ww_aload_n C dX9_nextRooms_24 rfl 0 rfl ?_
        refine ww_iload C dX9_nextRooms_25 4 rfl ?_
        refine ww_iload_n C dX9_nextRooms_27 rfl 2 rfl ?_
        obtain ⟨p28, hp28, hf⟩ := bdE hf
        refine ww_callV C (As := [.int x4, .int x2]) (st := [.int x3]) (gr := []) (c_X9_reachFrom (E := E) (a0 := a0) (h0_1 := h0_1) hp28) gX9_nextRooms_X9_reachFrom rfl yk_X9_reachFrom ⟨by decide, by decide⟩ ⟨by decide, by decide⟩ clOK9 0 0 rfl rfl [0] [] 1 rfl (by decide) rfl rfl (Nat.le_of_ble_eq_true rfl) dX9_nextRooms_28 ?_
        rintro _ _ ⟨rfl, rfl⟩
        refine ww_perm (gs' := [wModel E a0 (rf2 (a0 1) h0_1) v0]) [0] 1 rfl (by decide) rfl ?_
        refine ww_goto (tgt := 35) C dX9_nextRooms_31 (by decide) ?_
        refine ww_ior C dX9_nextRooms_35 ?_
        refine ww_topi (fun x3_36 e_x3_36 => ?_)
        replace hf := ltE e_x3_36 hf
        refine ww_istore_n (lv' := [(3, .int x3_36), (0, .ref (a0 0)), (1, .int x1), (2, .int x2), (4, .int x4)]) C dX9_nextRooms_36 rfl (by decide) rfl ?_
        obtain ⟨x4_37, e_x4_37⟩ : ∃ y : Int32, y = x4 + 1 := ⟨_, rfl⟩
        replace hf := ltE e_x4_37 hf
        refine ww_iinc (v := x4_37) (lv' := [(4, .int x4_37), (3, .int x3_36), (0, .ref (a0 0)), (1, .int x1), (2, .int x2)]) C dX9_nextRooms_37 4 rfl (by rw [e_x4_37]; rfl) (by decide) rfl ?_
        refine ww_goto (tgt := 5) C dX9_nextRooms_40 (by decide) ?_
        refine ww_sub C (lv' := [(0, .ref (a0 0)), (1, .int x1), (2, .int x2), (3, .int x3_36), (4, .int x4_37)]) [2, 3, 4, 1, 0] rfl ?_
        exact ih _ _ hf

set_option maxHeartbeats 4000000 in
set_option maxRecDepth 100000 in
theorem c_X9_nextRooms {E : Ex} {a0 : Nat → Nat} {h0_1 : Nat} {x1 : Int32} {x2 : Int32} {v0 : ModelV} {r : Int32} (hf : Mod_nextRooms x1 x2 v0 = some r) : Ct E yX9_nextRooms wsX9_nextRooms rmX9_nextRooms [.ref (a0 0), .int x1, .int x2] [wModel E a0 (rf2 (a0 1) h0_1) v0] (fun rv g => rv = some (.int r) ∧ g = [wModel E a0 (rf2 (a0 1) h0_1) v0]) := by
  refine ct_of (own := RX9) (by decide +kernel) rfl rfl (Nat.le_of_ble_eq_true rfl) (fun K C => ?_)
  refine ww_sub C (lv' := [(0, .ref (a0 0)), (1, .int x1), (2, .int x2)]) [0, 1, 2] rfl ?_
  rw [Mod_nextRooms] at hf
  refine ww_iconst (v := 0) C dX9_nextRooms_0 (by decide) ?_
  refine ww_istore_n (lv' := [(3, .int 0), (0, .ref (a0 0)), (1, .int x1), (2, .int x2)]) C dX9_nextRooms_1 rfl (by decide) rfl ?_
  refine ww_iconst (v := 0) C dX9_nextRooms_2 (by decide) ?_
  refine ww_istore (lv' := [(4, .int 0), (3, .int 0), (0, .ref (a0 0)), (1, .int x1), (2, .int x2)]) C dX9_nextRooms_3 (by decide) rfl ?_
  refine ww_sub C (lv' := [(0, .ref (a0 0)), (1, .int x1), (2, .int x2), (3, .int 0), (4, .int 0)]) [2, 3, 4, 1, 0] rfl ?_
  exact w_X9_nextRooms_5 C FU _ _ hf

theorem yk_X9_nextRooms : yX9_nextRooms.cls = RX9 ∧ yX9_nextRooms.cls ≠ "java/lang/invoke/MethodHandle" ∧ yX9_nextRooms.cls ≠ "java/lang/invoke/VarHandle" ∧ (parseMethodDescriptor yX9_nextRooms.desc).map (fun d => d.parameters.length) = some 2 := by decide +kernel
abbrev rmX9_firstRooms : Room := { frames := 4, cells := 0, slots := 0, locals := 88 }
set_option maxHeartbeats 4000000 in
set_option maxRecDepth 100000 in
theorem c_X9_firstRooms {E : Ex} {a0 : Nat → Nat} {h0_1 : Nat} {x1 : Int32} {x2 : Int32} {v0 : ModelV} {r : (Int32 × ModelV)} (hf : Mod_firstRooms x1 x2 v0 = some r) : Ct E yX9_firstRooms wsX9_firstRooms rmX9_firstRooms [.ref (a0 0), .int x1, .int x2] [wModel E a0 (rf2 (a0 1) h0_1) v0] (fun rv g => rv = some (.int r.1) ∧ g = [wModel E a0 (rf2 (a0 1) h0_1) r.2]) := by
  refine ct_of (own := RX9) (by decide +kernel) rfl rfl (Nat.le_of_ble_eq_true rfl) (fun K C => ?_)
  refine ww_sub C (lv' := [(0, .ref (a0 0)), (1, .int x1), (2, .int x2)]) [0, 1, 2] rfl ?_
  rw [Mod_firstRooms] at hf
  refine ww_aload_n C dX9_firstRooms_0 rfl 0 rfl ?_
  obtain ⟨p1, hp1, hf⟩ := bdE hf
  refine ww_callV C (As := []) (st := []) (gr := []) (c_X9_takePhases (E := E) (a0 := a0) (h0_1 := h0_1) hp1) gX9_firstRooms_X9_takePhases rfl yk_X9_takePhases ⟨by decide, by decide⟩ ⟨by decide, by decide⟩ clOK9 0 0 rfl rfl [0] [] 1 rfl (by decide) rfl rfl (Nat.le_of_ble_eq_true rfl) dX9_firstRooms_1 ?_
  rintro _ _ ⟨rfl, rfl⟩
  refine ww_perm (gs' := [wModel E a0 (rf2 (a0 1) h0_1) p1]) [0] 1 rfl (by decide) rfl ?_
  refine ww_aload_n C dX9_firstRooms_4 rfl 0 rfl ?_
  obtain ⟨p5, hp5, hf⟩ := bdE hf
  refine ww_callV C (As := []) (st := []) (gr := []) (c_X9_layJoined (E := E) (a0 := a0) (h0_1 := h0_1) hp5) gX9_firstRooms_X9_layJoined rfl yk_X9_layJoined ⟨by decide, by decide⟩ ⟨by decide, by decide⟩ clOK9 0 0 rfl rfl [0] [] 1 rfl (by decide) rfl rfl (Nat.le_of_ble_eq_true rfl) dX9_firstRooms_5 ?_
  rintro _ _ ⟨rfl, rfl⟩
  refine ww_perm (gs' := [wModel E a0 (rf2 (a0 1) h0_1) p5]) [0] 1 rfl (by decide) rfl ?_
  refine ww_iconst (v := 1) C dX9_firstRooms_8 (by decide) ?_
  refine ww_iload_n C dX9_firstRooms_9 rfl 1 rfl ?_
  refine ww_ishl C dX9_firstRooms_10 ?_
  refine ww_aload_n C dX9_firstRooms_11 rfl 0 rfl ?_
  refine ww_iload_n C dX9_firstRooms_12 rfl 2 rfl ?_
  obtain ⟨p13, hp13, hf⟩ := bdE hf
  refine ww_callV C (As := [.int x2]) (st := [.int (1 <<< (x1 &&& 31))]) (gr := []) (c_X9_seenAt (E := E) (a0 := a0) (h0_1 := h0_1) hp13) gX9_firstRooms_X9_seenAt rfl yk_X9_seenAt ⟨by decide, by decide⟩ ⟨by decide, by decide⟩ clOK9 0 0 rfl rfl [0] [] 1 rfl (by decide) rfl rfl (Nat.le_of_ble_eq_true rfl) dX9_firstRooms_13 ?_
  rintro _ _ ⟨rfl, rfl⟩
  refine ww_perm (gs' := [wModel E a0 (rf2 (a0 1) h0_1) p5]) [0] 1 rfl (by decide) rfl ?_
  refine ww_iconst (v := (-1)) C dX9_firstRooms_16 (by decide) ?_
  refine ww_ixor C dX9_firstRooms_17 ?_
  refine ww_iand C dX9_firstRooms_18 ?_
  obtain rfl := Option.some.inj hf
  exact ww_iret C ⟨rfl, rfl⟩ dX9_firstRooms_19

theorem yk_X9_firstRooms : yX9_firstRooms.cls = RX9 ∧ yX9_firstRooms.cls ≠ "java/lang/invoke/MethodHandle" ∧ yX9_firstRooms.cls ≠ "java/lang/invoke/VarHandle" ∧ (parseMethodDescriptor yX9_firstRooms.desc).map (fun d => d.parameters.length) = some 2 := by decide +kernel
abbrev rmX9_sightings : Room := { frames := 2, cells := 0, slots := 0, locals := 43 }
set_option maxHeartbeats 4000000 in
set_option maxRecDepth 100000 in
theorem w_X9_sightings_4 {E : Ex} {K : Kx} (C : Cx E K cX9_sightings 3 (some .int) RX9 wsX9_sightings rmX9_sightings) {a0 : Nat → Nat} {h0_1 : Nat} {v0 : ModelV}  {r : Int32} : ∀ (n : Nat) (x1 : Int32) (x2 : Int32), Mod_sightings_4 v0 n x1 x2 = some r → WW E K 0 0 (QQ E K (fun rv g => rv = some (.int r) ∧ g = [wModel E a0 (rf2 (a0 1) h0_1) v0]) 0 0) 4 [(0, .ref (a0 0)), (1, .int x1), (2, .int x2)] [] [wModel E a0 (rf2 (a0 1) h0_1) v0] := by
  intro n
  induction n with
  | zero =>
    intro x1 x2 hf
    simp [Mod_sightings_4] at hf
  | succ n ih =>
    intro x1 x2 hf
    rw [Mod_sightings_4] at hf
    refine ww_iload_n C dX9_sightings_4 rfl 2 rfl ?_
    refine ww_aload_n C dX9_sightings_5 rfl 0 rfl ?_
    obtain ⟨p6, hp6, hf⟩ := bdE hf
    refine ww_callV C (As := []) (st := [.int x2]) (gr := []) (c_X9_rooms (E := E) (a0 := a0) (h0_1 := h0_1) hp6) gX9_sightings_X9_rooms rfl yk_X9_rooms ⟨by decide, by decide⟩ ⟨by decide, by decide⟩ clOK9 0 0 rfl rfl [0] [] 1 rfl (by decide) rfl rfl (Nat.le_of_ble_eq_true rfl) dX9_sightings_6 ?_
    rintro _ _ ⟨rfl, rfl⟩
    refine ww_perm (gs' := [wModel E a0 (rf2 (a0 1) h0_1) v0]) [0] 1 rfl (by decide) rfl ?_
    refine ww_icmp_ge (tgt := 27) C dX9_sightings_9 (by decide) (fun c_1 => ?_) (fun c_1 => ?_)
    · replace hf := ifT c_1 hf
      refine ww_iload_n C dX9_sightings_27 rfl 1 rfl ?_
      obtain rfl := Option.some.inj hf
      exact ww_iret C ⟨rfl, rfl⟩ dX9_sightings_28
    · replace hf := ifF c_1 hf
      refine ww_iload_n C dX9_sightings_12 rfl 1 rfl ?_
      refine ww_aload_n C dX9_sightings_13 rfl 0 rfl ?_
      refine ww_iload_n C dX9_sightings_14 rfl 2 rfl ?_
      refine ww_iconst (v := 1) C dX9_sightings_15 (by decide) ?_
      obtain ⟨p16, hp16, hf⟩ := bdE hf
      refine ww_callV C (As := [.int x2, .int 1]) (st := [.int x1]) (gr := []) (c_X9_ofRoom (E := E) (a0 := a0) (h0_1 := h0_1) hp16) gX9_sightings_X9_ofRoom rfl yk_X9_ofRoom ⟨by decide, by decide⟩ ⟨by decide, by decide⟩ clOK9 0 0 rfl rfl [0] [] 1 rfl (by decide) rfl rfl (Nat.le_of_ble_eq_true rfl) dX9_sightings_16 ?_
      rintro _ _ ⟨rfl, rfl⟩
      refine ww_perm (gs' := [wModel E a0 (rf2 (a0 1) h0_1) v0]) [0] 1 rfl (by decide) rfl ?_
      refine ww_iadd C dX9_sightings_19 ?_
      refine ww_topi (fun x1_20 e_x1_20 => ?_)
      replace hf := ltE e_x1_20 hf
      refine ww_istore_n (lv' := [(1, .int x1_20), (0, .ref (a0 0)), (2, .int x2)]) C dX9_sightings_20 rfl (by decide) rfl ?_
      obtain ⟨x2_21, e_x2_21⟩ : ∃ y : Int32, y = x2 + 1 := ⟨_, rfl⟩
      replace hf := ltE e_x2_21 hf
      refine ww_iinc (v := x2_21) (lv' := [(2, .int x2_21), (1, .int x1_20), (0, .ref (a0 0))]) C dX9_sightings_21 2 rfl (by rw [e_x2_21]; rfl) (by decide) rfl ?_
      refine ww_goto (tgt := 4) C dX9_sightings_24 (by decide) ?_
      refine ww_sub C (lv' := [(0, .ref (a0 0)), (1, .int x1_20), (2, .int x2_21)]) [2, 1, 0] rfl ?_
      exact ih _ _ hf

set_option maxHeartbeats 4000000 in
set_option maxRecDepth 100000 in
theorem c_X9_sightings {E : Ex} {a0 : Nat → Nat} {h0_1 : Nat} {v0 : ModelV} {r : Int32} (hf : Mod_sightings v0 = some r) : Ct E yX9_sightings wsX9_sightings rmX9_sightings [.ref (a0 0)] [wModel E a0 (rf2 (a0 1) h0_1) v0] (fun rv g => rv = some (.int r) ∧ g = [wModel E a0 (rf2 (a0 1) h0_1) v0]) := by
  refine ct_of (own := RX9) (by decide +kernel) rfl rfl (Nat.le_of_ble_eq_true rfl) (fun K C => ?_)
  refine ww_sub C (lv' := [(0, .ref (a0 0))]) [0] rfl ?_
  rw [Mod_sightings] at hf
  refine ww_iconst (v := 0) C dX9_sightings_0 (by decide) ?_
  refine ww_istore_n (lv' := [(1, .int 0), (0, .ref (a0 0))]) C dX9_sightings_1 rfl (by decide) rfl ?_
  refine ww_iconst (v := 0) C dX9_sightings_2 (by decide) ?_
  refine ww_istore_n (lv' := [(2, .int 0), (1, .int 0), (0, .ref (a0 0))]) C dX9_sightings_3 rfl (by decide) rfl ?_
  refine ww_sub C (lv' := [(0, .ref (a0 0)), (1, .int 0), (2, .int 0)]) [2, 1, 0] rfl ?_
  exact w_X9_sightings_4 C FU _ _ hf

theorem yk_X9_sightings : yX9_sightings.cls = RX9 ∧ yX9_sightings.cls ≠ "java/lang/invoke/MethodHandle" ∧ yX9_sightings.cls ≠ "java/lang/invoke/VarHandle" ∧ (parseMethodDescriptor yX9_sightings.desc).map (fun d => d.parameters.length) = some 0 := by decide +kernel
abbrev rmX9_different : Room := { frames := 2, cells := 0, slots := 0, locals := 43 }
set_option maxHeartbeats 4000000 in
set_option maxRecDepth 100000 in
theorem w_X9_different_4 {E : Ex} {K : Kx} (C : Cx E K cX9_different 4 (some .int) RX9 wsX9_different rmX9_different) {a0 : Nat → Nat} {h0_1 : Nat} {x1 : Int32} {v0 : ModelV}  {r : Int32} : ∀ (n : Nat) (x2 : Int32) (x3 : Int32), Mod_different_4 x1 v0 n x2 x3 = some r → WW E K 0 0 (QQ E K (fun rv g => rv = some (.int r) ∧ g = [wModel E a0 (rf2 (a0 1) h0_1) v0]) 0 0) 4 [(0, .ref (a0 0)), (1, .int x1), (2, .int x2), (3, .int x3)] [] [wModel E a0 (rf2 (a0 1) h0_1) v0] := by
  intro n
  induction n with
  | zero =>
    intro x2 x3 hf
    simp [Mod_different_4] at hf
  | succ n ih =>
    intro x2 x3 hf
    rw [Mod_different_4] at hf
    refine ww_iload_n C dX9_different_4 rfl 3 rfl ?_
    refine ww_aload_n C dX9_different_5 rfl 0 rfl ?_
    refine ww_iload_n C dX9_different_6 rfl 1 rfl ?_
    obtain ⟨p7, hp7, hf⟩ := bdE hf
    refine ww_callV C (As := [.int x1]) (st := [.int x3]) (gr := []) (c_X9_period (E := E) (a0 := a0) (h0_1 := h0_1) hp7) gX9_different_X9_period rfl yk_X9_period ⟨by decide, by decide⟩ ⟨by decide, by decide⟩ clOK9 0 0 rfl rfl [0] [] 1 rfl (by decide) rfl rfl (Nat.le_of_ble_eq_true rfl) dX9_different_7 ?_
    rintro _ _ ⟨rfl, rfl⟩
    refine ww_perm (gs' := [wModel E a0 (rf2 (a0 1) h0_1) v0]) [0] 1 rfl (by decide) rfl ?_
    refine ww_icmp_ge (tgt := 30) C dX9_different_10 (by decide) (fun c_1 => ?_) (fun c_1 => ?_)
    · replace hf := ifT c_1 hf
      refine ww_iload_n C dX9_different_30 rfl 2 rfl ?_
      obtain ⟨p31, hp31, hf⟩ := bdE hf
      refine ww_callS C (As := [.int x2]) (st := []) (gr := [wModel E a0 (rf2 (a0 1) h0_1) v0]) (c_J6_bitCount_0f7a4 (E := E)  hp31) gX9_different_J6_bitCount_0f7a4 rfl ysk_J6_bitCount_0f7a4 ⟨by decide, by decide⟩ ⟨by decide, by decide⟩ [] [0] 1 rfl (by decide) rfl rfl (Nat.le_of_ble_eq_true rfl) dX9_different_31 ?_
      rintro _ _ ⟨rfl, rfl⟩
      refine ww_perm (gs' := [wModel E a0 (rf2 (a0 1) h0_1) v0]) [0] 1 rfl (by decide) rfl ?_
      obtain rfl := Option.some.inj hf
      exact ww_iret C ⟨rfl, rfl⟩ dX9_different_34
    · replace hf := ifF c_1 hf
      refine ww_iload_n C dX9_different_13 rfl 2 rfl ?_
      refine ww_iconst (v := 1) C dX9_different_14 (by decide) ?_
      refine ww_aload_n C dX9_different_15 rfl 0 rfl ?_
      refine ww_iload_n C dX9_different_16 rfl 1 rfl ?_
      refine ww_iload_n C dX9_different_17 rfl 3 rfl ?_
      obtain ⟨p18, hp18, hf⟩ := bdE hf
      refine ww_callV C (As := [.int x1, .int x3]) (st := [.int 1, .int x2]) (gr := []) (c_X9_step (E := E) (a0 := a0) (h0_1 := h0_1) hp18) gX9_different_X9_step rfl yk_X9_step ⟨by decide, by decide⟩ ⟨by decide, by decide⟩ clOK9 0 0 rfl rfl [0] [] 1 rfl (by decide) rfl rfl (Nat.le_of_ble_eq_true rfl) dX9_different_18 ?_
      rintro _ _ ⟨rfl, rfl⟩
      refine ww_perm (gs' := [wModel E a0 (rf2 (a0 1) h0_1) v0]) [0] 1 rfl (by decide) rfl ?_
      refine ww_ishl C dX9_different_21 ?_
      refine ww_ior C dX9_different_22 ?_
      refine ww_topi (fun x2_23 e_x2_23 => ?_)
      replace hf := ltE e_x2_23 hf
      refine ww_istore_n (lv' := [(2, .int x2_23), (0, .ref (a0 0)), (1, .int x1), (3, .int x3)]) C dX9_different_23 rfl (by decide) rfl ?_
      obtain ⟨x3_24, e_x3_24⟩ : ∃ y : Int32, y = x3 + 1 := ⟨_, rfl⟩
      replace hf := ltE e_x3_24 hf
      refine ww_iinc (v := x3_24) (lv' := [(3, .int x3_24), (2, .int x2_23), (0, .ref (a0 0)), (1, .int x1)]) C dX9_different_24 3 rfl (by rw [e_x3_24]; rfl) (by decide) rfl ?_
      refine ww_goto (tgt := 4) C dX9_different_27 (by decide) ?_
      refine ww_sub C (lv' := [(0, .ref (a0 0)), (1, .int x1), (2, .int x2_23), (3, .int x3_24)]) [2, 3, 1, 0] rfl ?_
      exact ih _ _ hf

set_option maxHeartbeats 4000000 in
set_option maxRecDepth 100000 in
theorem c_X9_different {E : Ex} {a0 : Nat → Nat} {h0_1 : Nat} {x1 : Int32} {v0 : ModelV} {r : Int32} (hf : Mod_different x1 v0 = some r) : Ct E yX9_different wsX9_different rmX9_different [.ref (a0 0), .int x1] [wModel E a0 (rf2 (a0 1) h0_1) v0] (fun rv g => rv = some (.int r) ∧ g = [wModel E a0 (rf2 (a0 1) h0_1) v0]) := by
  refine ct_of (own := RX9) (by decide +kernel) rfl rfl (Nat.le_of_ble_eq_true rfl) (fun K C => ?_)
  refine ww_sub C (lv' := [(0, .ref (a0 0)), (1, .int x1)]) [0, 1] rfl ?_
  rw [Mod_different] at hf
  refine ww_iconst (v := 0) C dX9_different_0 (by decide) ?_
  refine ww_istore_n (lv' := [(2, .int 0), (0, .ref (a0 0)), (1, .int x1)]) C dX9_different_1 rfl (by decide) rfl ?_
  refine ww_iconst (v := 0) C dX9_different_2 (by decide) ?_
  refine ww_istore_n (lv' := [(3, .int 0), (2, .int 0), (0, .ref (a0 0)), (1, .int x1)]) C dX9_different_3 rfl (by decide) rfl ?_
  refine ww_sub C (lv' := [(0, .ref (a0 0)), (1, .int x1), (2, .int 0), (3, .int 0)]) [2, 3, 1, 0] rfl ?_
  exact w_X9_different_4 C FU _ _ hf

theorem yk_X9_different : yX9_different.cls = RX9 ∧ yX9_different.cls ≠ "java/lang/invoke/MethodHandle" ∧ yX9_different.cls ≠ "java/lang/invoke/VarHandle" ∧ (parseMethodDescriptor yX9_different.desc).map (fun d => d.parameters.length) = some 1 := by decide +kernel
abbrev rmX9_isMinute : Room := { frames := 1, cells := 0, slots := 0, locals := 22 }
set_option maxHeartbeats 4000000 in
set_option maxRecDepth 100000 in
theorem c_X9_isMinute {E : Ex}  {x0 : Int32} {r : Bool} (hf : Mod_isMinute x0 = some r) : Ct E yX9_isMinute wsX9_isMinute rmX9_isMinute [.int x0] [] (fun rv g => rv = some (.int (b2i r)) ∧ g = []) := by
  refine ct_of (own := RX9) (by decide +kernel) rfl rfl (Nat.le_of_ble_eq_true rfl) (fun K C => ?_)
  refine ww_sub C (lv' := [(0, .int x0)]) [0] rfl ?_
  rw [Mod_isMinute] at hf
  refine ww_iload_n C dX9_isMinute_0 rfl 0 rfl ?_
  refine ww_iconst (v := 0) C dX9_isMinute_1 (by decide) ?_
  refine ww_ldcw (v := 1000000) C (by decide +kernel) dX9_isMinute_2 ?_
  obtain ⟨p5, hp5, hf⟩ := bdE hf
  refine ww_callS C (As := [.int x0, .int 0, .int 1000000]) (st := []) (gr := []) (c_X9_inRange (E := E)  hp5) gX9_isMinute_X9_inRange rfl ysk_X9_inRange ⟨by decide, by decide⟩ ⟨by decide, by decide⟩ [] [] 0 rfl (by decide) rfl rfl (Nat.le_of_ble_eq_true rfl) dX9_isMinute_5 ?_
  rintro _ _ ⟨rfl, rfl⟩
  refine ww_perm (gs' := []) [] 0 rfl (by decide) rfl ?_
  obtain rfl := Option.some.inj hf
  exact ww_zret C (nar_b p5) ⟨rfl, rfl⟩ dX9_isMinute_8

theorem ysk_X9_isMinute : yX9_isMinute.cls ≠ "java/lang/invoke/MethodHandle" ∧ yX9_isMinute.cls ≠ "java/lang/invoke/VarHandle" ∧ (parseMethodDescriptor yX9_isMinute.desc).map (fun d => d.parameters.length) = some 1 := by decide +kernel
abbrev rmX9_arePair : Room := { frames := 3, cells := 0, slots := 0, locals := 64 }
set_option maxRecDepth 20000 in
theorem in_X9_arePair_X9 : ∀ w ∈ u_ws RX9 TX9 35, w ∈ wsX9_arePair := by decide +kernel
set_option maxHeartbeats 4000000 in
set_option maxRecDepth 100000 in
theorem w_X9_arePair_22 {E : Ex} {K : Kx} (C : Cx E K cX9_arePair 3 (some .boolean) RX9 wsX9_arePair rmX9_arePair) {a0 : Nat → Nat} {h0_1 : Nat} {x1 : Int32} {x2 : Int32}  {s0 : Int32} {v0 : ModelV} {r : (Bool × ModelV)} (hf : Mod_arePair_22 x1 x2 s0 v0 = some r) : WW E K 0 0 (QQ E K (fun rv g => rv = some (.int (b2i r.1)) ∧ g = [wModel E a0 (rf2 (a0 1) h0_1) r.2]) 0 0) 22 [(0, .ref (a0 0)), (1, .int x1), (2, .int x2)] [.int s0, .ref (a0 0)] [wModel E a0 (rf2 (a0 1) h0_1) v0] := by
  rw [Mod_arePair_22] at hf
  obtain ⟨v0_22, e_v0_22⟩ : ∃ y : ModelV, y = Model_set_thrown v0 s0 := ⟨_, rfl⟩
  replace hf := ltE e_v0_22 hf
  refine ww_put C clOK9 in_X9_arePair_X9 (w := wModel E a0 (rf2 (a0 1) h0_1) v0) (fs := fsModel a0 (rf2 (a0 1) h0_1) v0) (w' := wModel E a0 (rf2 (a0 1) h0_1) v0_22) (gs' := [wModel E a0 (rf2 (a0 1) h0_1) v0_22]) 0 0 5 rfl q_Model (by decide) (by decide +kernel) rfl rfl rfl rfl l_Model (by rw [e_v0_22]; exact p_Model_thrown) rfl dX9_arePair_22 ?_
  refine ww_aload_n C dX9_arePair_25 rfl 0 rfl ?_
  obtain ⟨p26, hp26, hf⟩ := bdE hf
  refine ww_callV C (As := []) (st := []) (gr := []) (c_X9_takePhases (E := E) (a0 := a0) (h0_1 := h0_1) hp26) gX9_arePair_X9_takePhases rfl yk_X9_takePhases ⟨by decide, by decide⟩ ⟨by decide, by decide⟩ clOK9 0 0 rfl rfl [0] [] 1 rfl (by decide) rfl rfl (Nat.le_of_ble_eq_true rfl) dX9_arePair_26 ?_
  rintro _ _ ⟨rfl, rfl⟩
  refine ww_perm (gs' := [wModel E a0 (rf2 (a0 1) h0_1) p26]) [0] 1 rfl (by decide) rfl ?_
  refine ww_aload_n C dX9_arePair_29 rfl 0 rfl ?_
  refine ww_aload_n C dX9_arePair_30 rfl 0 rfl ?_
  obtain ⟨p31, hp31, hf⟩ := bdE hf
  refine ww_callV C (As := []) (st := [.ref (a0 0)]) (gr := []) (c_X9_cycle (E := E) (a0 := a0) (h0_1 := h0_1) hp31) gX9_arePair_X9_cycle rfl yk_X9_cycle ⟨by decide, by decide⟩ ⟨by decide, by decide⟩ clOK9 0 0 rfl rfl [0] [] 1 rfl (by decide) rfl rfl (Nat.le_of_ble_eq_true rfl) dX9_arePair_31 ?_
  rintro _ _ ⟨rfl, rfl⟩
  refine ww_perm (gs' := [wModel E a0 (rf2 (a0 1) h0_1) p26]) [0] 1 rfl (by decide) rfl ?_
  obtain ⟨v0_34, e_v0_34⟩ : ∃ y : ModelV, y = Model_set_cycleNow p26 p31 := ⟨_, rfl⟩
  replace hf := ltE e_v0_34 hf
  refine ww_put C clOK9 in_X9_arePair_X9 (w := wModel E a0 (rf2 (a0 1) h0_1) p26) (fs := fsModel a0 (rf2 (a0 1) h0_1) p26) (w' := wModel E a0 (rf2 (a0 1) h0_1) v0_34) (gs' := [wModel E a0 (rf2 (a0 1) h0_1) v0_34]) 0 0 15 rfl q_Model (by decide) (by decide +kernel) rfl rfl rfl rfl l_Model (by rw [e_v0_34]; exact p_Model_cycleNow) rfl dX9_arePair_34 ?_
  refine ww_aload_n C dX9_arePair_37 rfl 0 rfl ?_
  refine ww_get C clOK9 in_X9_arePair_X9 (w := wModel E a0 (rf2 (a0 1) h0_1) v0_34) (fs := fsModel a0 (rf2 (a0 1) h0_1) v0_34) (v := .int (Model_thrown v0_34)) 0 0 5 rfl q_Model (by decide) (by decide +kernel) g_Model_thrown dX9_arePair_38 ?_
  refine ww_if_ne (tgt := 53) C dX9_arePair_41 (by decide) (fun c_3 => ?_) (fun c_3 => ?_)
  · replace hf := ifF c_3 hf
    refine ww_iconst (v := 0) C dX9_arePair_53 (by decide) ?_
    obtain rfl := Option.some.inj hf
    exact ww_zret C (nar_b false) ⟨rfl, rfl⟩ dX9_arePair_54
  · replace hf := ifT c_3 hf
    refine ww_iload_n C dX9_arePair_44 rfl 1 rfl ?_
    refine ww_iload_n C dX9_arePair_45 rfl 2 rfl ?_
    refine ww_icmp_eq (tgt := 53) C dX9_arePair_46 (by decide) (fun c_4 => ?_) (fun c_4 => ?_)
    · replace hf := ifT c_4 hf
      refine ww_iconst (v := 0) C dX9_arePair_53 (by decide) ?_
      obtain rfl := Option.some.inj hf
      exact ww_zret C (nar_b false) ⟨rfl, rfl⟩ dX9_arePair_54
    · replace hf := ifF c_4 hf
      refine ww_iconst (v := 1) C dX9_arePair_49 (by decide) ?_
      refine ww_goto (tgt := 54) C dX9_arePair_50 (by decide) ?_
      obtain rfl := Option.some.inj hf
      exact ww_zret C (nar_b true) ⟨rfl, rfl⟩ dX9_arePair_54

set_option maxHeartbeats 4000000 in
set_option maxRecDepth 100000 in
theorem w_X9_arePair_21 {E : Ex} {K : Kx} (C : Cx E K cX9_arePair 3 (some .boolean) RX9 wsX9_arePair rmX9_arePair) {a0 : Nat → Nat} {h0_1 : Nat} {x1 : Int32} {x2 : Int32}  {v0 : ModelV} {r : (Bool × ModelV)} (hf : Mod_arePair_21 x1 x2 v0 = some r) : WW E K 0 0 (QQ E K (fun rv g => rv = some (.int (b2i r.1)) ∧ g = [wModel E a0 (rf2 (a0 1) h0_1) r.2]) 0 0) 21 [(0, .ref (a0 0)), (1, .int x1), (2, .int x2)] [.ref (a0 0)] [wModel E a0 (rf2 (a0 1) h0_1) v0] := by
  rw [Mod_arePair_21] at hf
  refine ww_iconst (v := 1) C dX9_arePair_21 (by decide) ?_
  refine ww_sub C (lv' := [(0, .ref (a0 0)), (1, .int x1), (2, .int x2)]) [0, 1, 2] rfl ?_
  exact w_X9_arePair_22 C hf

set_option maxHeartbeats 4000000 in
set_option maxRecDepth 100000 in
theorem c_X9_arePair {E : Ex} {a0 : Nat → Nat} {h0_1 : Nat} {x1 : Int32} {x2 : Int32} {v0 : ModelV} {r : (Bool × ModelV)} (hf : Mod_arePair x1 x2 v0 = some r) : Ct E yX9_arePair wsX9_arePair rmX9_arePair [.ref (a0 0), .int x1, .int x2] [wModel E a0 (rf2 (a0 1) h0_1) v0] (fun rv g => rv = some (.int (b2i r.1)) ∧ g = [wModel E a0 (rf2 (a0 1) h0_1) r.2]) := by
  refine ct_of (own := RX9) (by decide +kernel) rfl rfl (Nat.le_of_ble_eq_true rfl) (fun K C => ?_)
  refine ww_sub C (lv' := [(0, .ref (a0 0)), (1, .int x1), (2, .int x2)]) [0, 1, 2] rfl ?_
  rw [Mod_arePair] at hf
  refine ww_aload_n C dX9_arePair_0 rfl 0 rfl ?_
  refine ww_aload_n C dX9_arePair_1 rfl 0 rfl ?_
  refine ww_iload_n C dX9_arePair_2 rfl 1 rfl ?_
  obtain ⟨p3, hp3, hf⟩ := bdE hf
  refine ww_callV C (As := [.int x1]) (st := [.ref (a0 0)]) (gr := []) (c_X9_isGuard (E := E) (a0 := a0) (h0_1 := h0_1) hp3) gX9_arePair_X9_isGuard rfl yk_X9_isGuard ⟨by decide, by decide⟩ ⟨by decide, by decide⟩ clOK9 0 0 rfl rfl [0] [] 1 rfl (by decide) rfl rfl (Nat.le_of_ble_eq_true rfl) dX9_arePair_3 ?_
  rintro _ _ ⟨rfl, rfl⟩
  refine ww_perm (gs' := [wModel E a0 (rf2 (a0 1) h0_1) v0]) [0] 1 rfl (by decide) rfl ?_
  refine ww_if_eqB (tgt := 21) C dX9_arePair_6 (by decide) (fun c_1 => ?_) (fun c_1 => ?_)
  · replace hf := bfE c_1 hf
    refine ww_sub C (lv' := [(0, .ref (a0 0)), (1, .int x1), (2, .int x2)]) [0, 1, 2] rfl ?_
    exact w_X9_arePair_21 C hf
  · replace hf := btE c_1 hf
    refine ww_aload_n C dX9_arePair_9 rfl 0 rfl ?_
    refine ww_iload_n C dX9_arePair_10 rfl 2 rfl ?_
    obtain ⟨p11, hp11, hf⟩ := bdE hf
    refine ww_callV C (As := [.int x2]) (st := [.ref (a0 0)]) (gr := []) (c_X9_isGuard (E := E) (a0 := a0) (h0_1 := h0_1) hp11) gX9_arePair_X9_isGuard rfl yk_X9_isGuard ⟨by decide, by decide⟩ ⟨by decide, by decide⟩ clOK9 0 0 rfl rfl [0] [] 1 rfl (by decide) rfl rfl (Nat.le_of_ble_eq_true rfl) dX9_arePair_11 ?_
    rintro _ _ ⟨rfl, rfl⟩
    refine ww_perm (gs' := [wModel E a0 (rf2 (a0 1) h0_1) v0]) [0] 1 rfl (by decide) rfl ?_
    refine ww_if_eqB (tgt := 21) C dX9_arePair_14 (by decide) (fun c_2 => ?_) (fun c_2 => ?_)
    · replace hf := bfE c_2 hf
      refine ww_sub C (lv' := [(0, .ref (a0 0)), (1, .int x1), (2, .int x2)]) [0, 1, 2] rfl ?_
      exact w_X9_arePair_21 C hf
    · replace hf := btE c_2 hf
      refine ww_iconst (v := 0) C dX9_arePair_17 (by decide) ?_
      refine ww_goto (tgt := 22) C dX9_arePair_18 (by decide) ?_
      refine ww_sub C (lv' := [(0, .ref (a0 0)), (1, .int x1), (2, .int x2)]) [0, 1, 2] rfl ?_
      exact w_X9_arePair_22 C hf

theorem yk_X9_arePair : yX9_arePair.cls = RX9 ∧ yX9_arePair.cls ≠ "java/lang/invoke/MethodHandle" ∧ yX9_arePair.cls ≠ "java/lang/invoke/VarHandle" ∧ (parseMethodDescriptor yX9_arePair.desc).map (fun d => d.parameters.length) = some 2 := by decide +kernel
abbrev rmX9_isPhase : Room := { frames := 2, cells := 0, slots := 0, locals := 42 }
set_option maxHeartbeats 4000000 in
set_option maxRecDepth 100000 in
theorem c_X9_isPhase {E : Ex} {a0 : Nat → Nat} {h0_1 : Nat} {x1 : Int32} {x2 : Int32} {v0 : ModelV} {r : Bool} (hf : Mod_isPhase x1 x2 v0 = some r) : Ct E yX9_isPhase wsX9_isPhase rmX9_isPhase [.ref (a0 0), .int x1, .int x2] [wModel E a0 (rf2 (a0 1) h0_1) v0] (fun rv g => rv = some (.int (b2i r)) ∧ g = [wModel E a0 (rf2 (a0 1) h0_1) v0]) := by
  refine ct_of (own := RX9) (by decide +kernel) rfl rfl (Nat.le_of_ble_eq_true rfl) (fun K C => ?_)
  refine ww_sub C (lv' := [(0, .ref (a0 0)), (1, .int x1), (2, .int x2)]) [0, 1, 2] rfl ?_
  rw [Mod_isPhase] at hf
  refine ww_iload_n C dX9_isPhase_0 rfl 2 rfl ?_
  refine ww_iconst (v := 0) C dX9_isPhase_1 (by decide) ?_
  refine ww_aload_n C dX9_isPhase_2 rfl 0 rfl ?_
  refine ww_iload_n C dX9_isPhase_3 rfl 1 rfl ?_
  obtain ⟨p4, hp4, hf⟩ := bdE hf
  refine ww_callV C (As := [.int x1]) (st := [.int 0, .int x2]) (gr := []) (c_X9_period (E := E) (a0 := a0) (h0_1 := h0_1) hp4) gX9_isPhase_X9_period rfl yk_X9_period ⟨by decide, by decide⟩ ⟨by decide, by decide⟩ clOK9 0 0 rfl rfl [0] [] 1 rfl (by decide) rfl rfl (Nat.le_of_ble_eq_true rfl) dX9_isPhase_4 ?_
  rintro _ _ ⟨rfl, rfl⟩
  refine ww_perm (gs' := [wModel E a0 (rf2 (a0 1) h0_1) v0]) [0] 1 rfl (by decide) rfl ?_
  refine ww_iconst (v := 1) C dX9_isPhase_7 (by decide) ?_
  refine ww_isub C dX9_isPhase_8 ?_
  obtain ⟨p9, hp9, hf⟩ := bdE hf
  refine ww_callS C (As := [.int x2, .int 0, .int (p4 - 1)]) (st := []) (gr := [wModel E a0 (rf2 (a0 1) h0_1) v0]) (c_X9_inRange (E := E)  hp9) gX9_isPhase_X9_inRange rfl ysk_X9_inRange ⟨by decide, by decide⟩ ⟨by decide, by decide⟩ [] [0] 1 rfl (by decide) rfl rfl (Nat.le_of_ble_eq_true rfl) dX9_isPhase_9 ?_
  rintro _ _ ⟨rfl, rfl⟩
  refine ww_perm (gs' := [wModel E a0 (rf2 (a0 1) h0_1) v0]) [0] 1 rfl (by decide) rfl ?_
  obtain rfl := Option.some.inj hf
  exact ww_zret C (nar_b p9) ⟨rfl, rfl⟩ dX9_isPhase_12

theorem yk_X9_isPhase : yX9_isPhase.cls = RX9 ∧ yX9_isPhase.cls ≠ "java/lang/invoke/MethodHandle" ∧ yX9_isPhase.cls ≠ "java/lang/invoke/VarHandle" ∧ (parseMethodDescriptor yX9_isPhase.desc).map (fun d => d.parameters.length) = some 2 := by decide +kernel
abbrev rmX9_rooms_D : Room := { frames := 0, cells := 0, slots := 0, locals := 0 }
set_option maxRecDepth 20000 in
theorem in_X9_rooms_D_X9 : ∀ w ∈ u_ws RX9 TX9 35, w ∈ wsX9_rooms := by decide +kernel
set_option maxHeartbeats 4000000 in
set_option maxRecDepth 100000 in
theorem c_X9_rooms_D {E : Ex} {a0 : Nat → Nat} {h0_1 : Nat} {v0 : ModelV} {r : Int32} (hf : Mod_roomsD v0 = some r) : Ct E yX9_rooms wsX9_rooms rmX9_rooms_D [.ref (a0 0)] [wModel E a0 (rf2 (a0 2) h0_1) v0] (fun rv g => rv = some (.int r) ∧ g = [wModel E a0 (rf2 (a0 2) h0_1) v0]) := by
  refine ct_of (own := RX9) (by decide +kernel) rfl rfl (Nat.le_of_ble_eq_true rfl) (fun K C => ?_)
  refine ww_sub C (lv' := [(0, .ref (a0 0))]) [0] rfl ?_
  rw [Mod_roomsD] at hf
  refine ww_aload_n C dX9_rooms_0 rfl 0 rfl ?_
  refine ww_get C clOK9 in_X9_rooms_D_X9 (w := wModel E a0 (rf2 (a0 2) h0_1) v0) (fs := fsModel a0 (rf2 (a0 2) h0_1) v0) (v := .ref (a0 2)) 0 0 7 rfl q_Model (by decide) (by decide +kernel) g_Model_house dX9_rooms_1 ?_
  refine ww_iconst (v := 0) C dX9_rooms_4 (by decide) ?_
  obtain ⟨g_1, hf⟩ := gdE hf
  refine ww_iald C (f := Model_draft v0) (w := wModel E a0 (rf2 (a0 2) h0_1) v0) 0 2 rfl c_Model_draft (inB_vp g_1) dX9_rooms_5 ?_
  obtain rfl := Option.some.inj hf
  exact ww_iret C ⟨rfl, rfl⟩ dX9_rooms_6

abbrev rmX9_guards_D : Room := { frames := 0, cells := 0, slots := 0, locals := 0 }
set_option maxRecDepth 20000 in
theorem in_X9_guards_D_X9 : ∀ w ∈ u_ws RX9 TX9 35, w ∈ wsX9_guards := by decide +kernel
set_option maxHeartbeats 4000000 in
set_option maxRecDepth 100000 in
theorem c_X9_guards_D {E : Ex} {a0 : Nat → Nat} {h0_1 : Nat} {v0 : ModelV} {r : Int32} (hf : Mod_guardsD v0 = some r) : Ct E yX9_guards wsX9_guards rmX9_guards_D [.ref (a0 0)] [wModel E a0 (rf2 (a0 2) h0_1) v0] (fun rv g => rv = some (.int r) ∧ g = [wModel E a0 (rf2 (a0 2) h0_1) v0]) := by
  refine ct_of (own := RX9) (by decide +kernel) rfl rfl (Nat.le_of_ble_eq_true rfl) (fun K C => ?_)
  refine ww_sub C (lv' := [(0, .ref (a0 0))]) [0] rfl ?_
  rw [Mod_guardsD] at hf
  refine ww_aload_n C dX9_guards_0 rfl 0 rfl ?_
  refine ww_get C clOK9 in_X9_guards_D_X9 (w := wModel E a0 (rf2 (a0 2) h0_1) v0) (fs := fsModel a0 (rf2 (a0 2) h0_1) v0) (v := .ref (a0 2)) 0 0 7 rfl q_Model (by decide) (by decide +kernel) g_Model_house dX9_guards_1 ?_
  refine ww_iconst (v := 2) C dX9_guards_4 (by decide) ?_
  obtain ⟨g_1, hf⟩ := gdE hf
  refine ww_iald C (f := Model_draft v0) (w := wModel E a0 (rf2 (a0 2) h0_1) v0) 0 2 rfl c_Model_draft (inB_vp g_1) dX9_guards_5 ?_
  obtain rfl := Option.some.inj hf
  exact ww_iret C ⟨rfl, rfl⟩ dX9_guards_6

abbrev rmX9_ofDoor_D : Room := { frames := 1, cells := 0, slots := 0, locals := 21 }
set_option maxRecDepth 20000 in
theorem in_X9_ofDoor_D_X9 : ∀ w ∈ u_ws RX9 TX9 35, w ∈ wsX9_ofDoor := by decide +kernel
set_option maxHeartbeats 4000000 in
set_option maxRecDepth 100000 in
theorem c_X9_ofDoor_D {E : Ex} {a0 : Nat → Nat} {h0_1 : Nat} {x1 : Int32} {x2 : Int32} {v0 : ModelV} {r : Int32} (hf : Mod_ofDoorD x1 x2 v0 = some r) : Ct E yX9_ofDoor wsX9_ofDoor rmX9_ofDoor_D [.ref (a0 0), .int x1, .int x2] [wModel E a0 (rf2 (a0 2) h0_1) v0] (fun rv g => rv = some (.int r) ∧ g = [wModel E a0 (rf2 (a0 2) h0_1) v0]) := by
  refine ct_of (own := RX9) (by decide +kernel) rfl rfl (Nat.le_of_ble_eq_true rfl) (fun K C => ?_)
  refine ww_sub C (lv' := [(0, .ref (a0 0)), (1, .int x1), (2, .int x2)]) [0, 1, 2] rfl ?_
  rw [Mod_ofDoorD] at hf
  refine ww_aload_n C dX9_ofDoor_0 rfl 0 rfl ?_
  refine ww_get C clOK9 in_X9_ofDoor_D_X9 (w := wModel E a0 (rf2 (a0 2) h0_1) v0) (fs := fsModel a0 (rf2 (a0 2) h0_1) v0) (v := .ref (a0 2)) 0 0 7 rfl q_Model (by decide) (by decide +kernel) g_Model_house dX9_ofDoor_1 ?_
  refine ww_iload_n C dX9_ofDoor_4 rfl 1 rfl ?_
  refine ww_iload_n C dX9_ofDoor_5 rfl 2 rfl ?_
  obtain ⟨p6, hp6, hf⟩ := bdE hf
  refine ww_callS C (As := [.int x1, .int x2]) (st := [.ref (a0 2)]) (gr := [wModel E a0 (rf2 (a0 2) h0_1) v0]) (c_X9_doorAt (E := E)  hp6) gX9_ofDoor_X9_doorAt rfl ysk_X9_doorAt ⟨by decide, by decide⟩ ⟨by decide, by decide⟩ [] [0] 1 rfl (by decide) rfl rfl (Nat.le_of_ble_eq_true rfl) dX9_ofDoor_6 ?_
  rintro _ _ ⟨rfl, rfl⟩
  refine ww_perm (gs' := [wModel E a0 (rf2 (a0 2) h0_1) v0]) [0] 1 rfl (by decide) rfl ?_
  obtain ⟨g_1, hf⟩ := gdE hf
  refine ww_iald C (f := Model_draft v0) (w := wModel E a0 (rf2 (a0 2) h0_1) v0) 0 2 rfl c_Model_draft (inB_vp g_1) dX9_ofDoor_9 ?_
  obtain rfl := Option.some.inj hf
  exact ww_iret C ⟨rfl, rfl⟩ dX9_ofDoor_10

abbrev rmX9_step_D : Room := { frames := 1, cells := 0, slots := 0, locals := 21 }
set_option maxRecDepth 20000 in
theorem in_X9_step_D_X9 : ∀ w ∈ u_ws RX9 TX9 35, w ∈ wsX9_step := by decide +kernel
set_option maxHeartbeats 4000000 in
set_option maxRecDepth 100000 in
theorem c_X9_step_D {E : Ex} {a0 : Nat → Nat} {h0_1 : Nat} {x1 : Int32} {x2 : Int32} {v0 : ModelV} {r : Int32} (hf : Mod_stepD x1 x2 v0 = some r) : Ct E yX9_step wsX9_step rmX9_step_D [.ref (a0 0), .int x1, .int x2] [wModel E a0 (rf2 (a0 2) h0_1) v0] (fun rv g => rv = some (.int r) ∧ g = [wModel E a0 (rf2 (a0 2) h0_1) v0]) := by
  refine ct_of (own := RX9) (by decide +kernel) rfl rfl (Nat.le_of_ble_eq_true rfl) (fun K C => ?_)
  refine ww_sub C (lv' := [(0, .ref (a0 0)), (1, .int x1), (2, .int x2)]) [0, 1, 2] rfl ?_
  rw [Mod_stepD] at hf
  refine ww_aload_n C dX9_step_0 rfl 0 rfl ?_
  refine ww_get C clOK9 in_X9_step_D_X9 (w := wModel E a0 (rf2 (a0 2) h0_1) v0) (fs := fsModel a0 (rf2 (a0 2) h0_1) v0) (v := .ref (a0 2)) 0 0 7 rfl q_Model (by decide) (by decide +kernel) g_Model_house dX9_step_1 ?_
  refine ww_iload_n C dX9_step_4 rfl 1 rfl ?_
  refine ww_iconst (v := 2) C dX9_step_5 (by decide) ?_
  refine ww_iload_n C dX9_step_6 rfl 2 rfl ?_
  refine ww_iadd C dX9_step_7 ?_
  obtain ⟨p8, hp8, hf⟩ := bdE hf
  refine ww_callS C (As := [.int x1, .int (2 + x2)]) (st := [.ref (a0 2)]) (gr := [wModel E a0 (rf2 (a0 2) h0_1) v0]) (c_X9_guardAt (E := E)  hp8) gX9_step_X9_guardAt rfl ysk_X9_guardAt ⟨by decide, by decide⟩ ⟨by decide, by decide⟩ [] [0] 1 rfl (by decide) rfl rfl (Nat.le_of_ble_eq_true rfl) dX9_step_8 ?_
  rintro _ _ ⟨rfl, rfl⟩
  refine ww_perm (gs' := [wModel E a0 (rf2 (a0 2) h0_1) v0]) [0] 1 rfl (by decide) rfl ?_
  obtain ⟨g_1, hf⟩ := gdE hf
  refine ww_iald C (f := Model_draft v0) (w := wModel E a0 (rf2 (a0 2) h0_1) v0) 0 2 rfl c_Model_draft (inB_vp g_1) dX9_step_11 ?_
  obtain rfl := Option.some.inj hf
  exact ww_iret C ⟨rfl, rfl⟩ dX9_step_12

abbrev rmX9_isRoom_D : Room := { frames := 1, cells := 0, slots := 0, locals := 22 }
set_option maxHeartbeats 4000000 in
set_option maxRecDepth 100000 in
theorem c_X9_isRoom_D {E : Ex} {a0 : Nat → Nat} {h0_1 : Nat} {x1 : Int32} {v0 : ModelV} {r : Bool} (hf : Mod_isRoomD x1 v0 = some r) : Ct E yX9_isRoom wsX9_isRoom rmX9_isRoom_D [.ref (a0 0), .int x1] [wModel E a0 (rf2 (a0 2) h0_1) v0] (fun rv g => rv = some (.int (b2i r)) ∧ g = [wModel E a0 (rf2 (a0 2) h0_1) v0]) := by
  refine ct_of (own := RX9) (by decide +kernel) rfl rfl (Nat.le_of_ble_eq_true rfl) (fun K C => ?_)
  refine ww_sub C (lv' := [(0, .ref (a0 0)), (1, .int x1)]) [0, 1] rfl ?_
  rw [Mod_isRoomD] at hf
  refine ww_iload_n C dX9_isRoom_0 rfl 1 rfl ?_
  refine ww_iconst (v := 0) C dX9_isRoom_1 (by decide) ?_
  refine ww_aload_n C dX9_isRoom_2 rfl 0 rfl ?_
  obtain ⟨p3, hp3, hf⟩ := bdE hf
  refine ww_callV C (As := []) (st := [.int 0, .int x1]) (gr := []) (c_X9_rooms_D (E := E) (a0 := a0) (h0_1 := h0_1) hp3) gX9_isRoom_X9_rooms rfl yk_X9_rooms ⟨by decide, by decide⟩ ⟨by decide, by decide⟩ clOK9 0 0 rfl rfl [0] [] 1 rfl (by decide) rfl rfl (Nat.le_of_ble_eq_true rfl) dX9_isRoom_3 ?_
  rintro _ _ ⟨rfl, rfl⟩
  refine ww_perm (gs' := [wModel E a0 (rf2 (a0 2) h0_1) v0]) [0] 1 rfl (by decide) rfl ?_
  refine ww_iconst (v := 1) C dX9_isRoom_6 (by decide) ?_
  refine ww_isub C dX9_isRoom_7 ?_
  obtain ⟨p8, hp8, hf⟩ := bdE hf
  refine ww_callS C (As := [.int x1, .int 0, .int (p3 - 1)]) (st := []) (gr := [wModel E a0 (rf2 (a0 2) h0_1) v0]) (c_X9_inRange (E := E)  hp8) gX9_isRoom_X9_inRange rfl ysk_X9_inRange ⟨by decide, by decide⟩ ⟨by decide, by decide⟩ [] [0] 1 rfl (by decide) rfl rfl (Nat.le_of_ble_eq_true rfl) dX9_isRoom_8 ?_
  rintro _ _ ⟨rfl, rfl⟩
  refine ww_perm (gs' := [wModel E a0 (rf2 (a0 2) h0_1) v0]) [0] 1 rfl (by decide) rfl ?_
  obtain rfl := Option.some.inj hf
  exact ww_zret C (nar_b p8) ⟨rfl, rfl⟩ dX9_isRoom_11

abbrev rmX9_isBetween_D : Room := { frames := 2, cells := 0, slots := 0, locals := 43 }
set_option maxHeartbeats 4000000 in
set_option maxRecDepth 100000 in
theorem w_X9_isBetween_D_20 {E : Ex} {K : Kx} (C : Cx E K cX9_isBetween 4 (some .boolean) RX9 wsX9_isBetween rmX9_isBetween_D) {a0 : Nat → Nat} {h0_1 : Nat} {x1 : Int32} {x2 : Int32} {x3 : Int32} {v0 : ModelV}   {r : Bool} (hf : Mod_isBetweenD_20 x1 x2 x3 v0  = some r) : WW E K 0 0 (QQ E K (fun rv g => rv = some (.int (b2i r)) ∧ g = [wModel E a0 (rf2 (a0 2) h0_1) v0]) 0 0) 20 [(0, .ref (a0 0)), (1, .int x1), (2, .int x2), (3, .int x3)] [] [wModel E a0 (rf2 (a0 2) h0_1) v0] := by
  rw [Mod_isBetweenD_20] at hf
  refine ww_aload_n C dX9_isBetween_20 rfl 0 rfl ?_
  refine ww_iload_n C dX9_isBetween_21 rfl 1 rfl ?_
  refine ww_iconst (v := 0) C dX9_isBetween_22 (by decide) ?_
  obtain ⟨p23, hp23, hf⟩ := bdE hf
  refine ww_callV C (As := [.int x1, .int 0]) (st := []) (gr := []) (c_X9_ofDoor_D (E := E) (a0 := a0) (h0_1 := h0_1) hp23) gX9_isBetween_X9_ofDoor rfl yk_X9_ofDoor ⟨by decide, by decide⟩ ⟨by decide, by decide⟩ clOK9 0 0 rfl rfl [0] [] 1 rfl (by decide) rfl rfl (Nat.le_of_ble_eq_true rfl) dX9_isBetween_23 ?_
  rintro _ _ ⟨rfl, rfl⟩
  refine ww_perm (gs' := [wModel E a0 (rf2 (a0 2) h0_1) v0]) [0] 1 rfl (by decide) rfl ?_
  refine ww_iload_n C dX9_isBetween_26 rfl 3 rfl ?_
  refine ww_icmp_ne (tgt := 44) C dX9_isBetween_27 (by decide) (fun c_3 => ?_) (fun c_3 => ?_)
  · replace hf := ifF c_3 hf
    refine ww_iconst (v := 0) C dX9_isBetween_44 (by decide) ?_
    obtain rfl := Option.some.inj hf
    exact ww_zret C (nar_b false) ⟨rfl, rfl⟩ dX9_isBetween_45
  · replace hf := ifT c_3 hf
    refine ww_aload_n C dX9_isBetween_30 rfl 0 rfl ?_
    refine ww_iload_n C dX9_isBetween_31 rfl 1 rfl ?_
    refine ww_iconst (v := 1) C dX9_isBetween_32 (by decide) ?_
    obtain ⟨p33, hp33, hf⟩ := bdE hf
    refine ww_callV C (As := [.int x1, .int 1]) (st := []) (gr := []) (c_X9_ofDoor_D (E := E) (a0 := a0) (h0_1 := h0_1) hp33) gX9_isBetween_X9_ofDoor rfl yk_X9_ofDoor ⟨by decide, by decide⟩ ⟨by decide, by decide⟩ clOK9 0 0 rfl rfl [0] [] 1 rfl (by decide) rfl rfl (Nat.le_of_ble_eq_true rfl) dX9_isBetween_33 ?_
    rintro _ _ ⟨rfl, rfl⟩
    refine ww_perm (gs' := [wModel E a0 (rf2 (a0 2) h0_1) v0]) [0] 1 rfl (by decide) rfl ?_
    refine ww_iload_n C dX9_isBetween_36 rfl 2 rfl ?_
    refine ww_icmp_ne (tgt := 44) C dX9_isBetween_37 (by decide) (fun c_4 => ?_) (fun c_4 => ?_)
    · replace hf := ifF c_4 hf
      refine ww_iconst (v := 0) C dX9_isBetween_44 (by decide) ?_
      obtain rfl := Option.some.inj hf
      exact ww_zret C (nar_b false) ⟨rfl, rfl⟩ dX9_isBetween_45
    · replace hf := ifT c_4 hf
      refine ww_iconst (v := 1) C dX9_isBetween_40 (by decide) ?_
      refine ww_goto (tgt := 45) C dX9_isBetween_41 (by decide) ?_
      obtain rfl := Option.some.inj hf
      exact ww_zret C (nar_b true) ⟨rfl, rfl⟩ dX9_isBetween_45

set_option maxHeartbeats 4000000 in
set_option maxRecDepth 100000 in
theorem c_X9_isBetween_D {E : Ex} {a0 : Nat → Nat} {h0_1 : Nat} {x1 : Int32} {x2 : Int32} {x3 : Int32} {v0 : ModelV} {r : Bool} (hf : Mod_isBetweenD x1 x2 x3 v0 = some r) : Ct E yX9_isBetween wsX9_isBetween rmX9_isBetween_D [.ref (a0 0), .int x1, .int x2, .int x3] [wModel E a0 (rf2 (a0 2) h0_1) v0] (fun rv g => rv = some (.int (b2i r)) ∧ g = [wModel E a0 (rf2 (a0 2) h0_1) v0]) := by
  refine ct_of (own := RX9) (by decide +kernel) rfl rfl (Nat.le_of_ble_eq_true rfl) (fun K C => ?_)
  refine ww_sub C (lv' := [(0, .ref (a0 0)), (1, .int x1), (2, .int x2), (3, .int x3)]) [0, 1, 2, 3] rfl ?_
  rw [Mod_isBetweenD] at hf
  refine ww_aload_n C dX9_isBetween_0 rfl 0 rfl ?_
  refine ww_iload_n C dX9_isBetween_1 rfl 1 rfl ?_
  refine ww_iconst (v := 0) C dX9_isBetween_2 (by decide) ?_
  obtain ⟨p3, hp3, hf⟩ := bdE hf
  refine ww_callV C (As := [.int x1, .int 0]) (st := []) (gr := []) (c_X9_ofDoor_D (E := E) (a0 := a0) (h0_1 := h0_1) hp3) gX9_isBetween_X9_ofDoor rfl yk_X9_ofDoor ⟨by decide, by decide⟩ ⟨by decide, by decide⟩ clOK9 0 0 rfl rfl [0] [] 1 rfl (by decide) rfl rfl (Nat.le_of_ble_eq_true rfl) dX9_isBetween_3 ?_
  rintro _ _ ⟨rfl, rfl⟩
  refine ww_perm (gs' := [wModel E a0 (rf2 (a0 2) h0_1) v0]) [0] 1 rfl (by decide) rfl ?_
  refine ww_iload_n C dX9_isBetween_6 rfl 2 rfl ?_
  refine ww_icmp_ne (tgt := 20) C dX9_isBetween_7 (by decide) (fun c_1 => ?_) (fun c_1 => ?_)
  · replace hf := ifF c_1 hf
    refine ww_sub C (lv' := [(0, .ref (a0 0)), (1, .int x1), (2, .int x2), (3, .int x3)]) [0, 1, 2, 3] rfl ?_
    exact w_X9_isBetween_D_20 C hf
  · replace hf := ifT c_1 hf
    refine ww_aload_n C dX9_isBetween_10 rfl 0 rfl ?_
    refine ww_iload_n C dX9_isBetween_11 rfl 1 rfl ?_
    refine ww_iconst (v := 1) C dX9_isBetween_12 (by decide) ?_
    obtain ⟨p13, hp13, hf⟩ := bdE hf
    refine ww_callV C (As := [.int x1, .int 1]) (st := []) (gr := []) (c_X9_ofDoor_D (E := E) (a0 := a0) (h0_1 := h0_1) hp13) gX9_isBetween_X9_ofDoor rfl yk_X9_ofDoor ⟨by decide, by decide⟩ ⟨by decide, by decide⟩ clOK9 0 0 rfl rfl [0] [] 1 rfl (by decide) rfl rfl (Nat.le_of_ble_eq_true rfl) dX9_isBetween_13 ?_
    rintro _ _ ⟨rfl, rfl⟩
    refine ww_perm (gs' := [wModel E a0 (rf2 (a0 2) h0_1) v0]) [0] 1 rfl (by decide) rfl ?_
    refine ww_iload_n C dX9_isBetween_16 rfl 3 rfl ?_
    refine ww_icmp_eq (tgt := 40) C dX9_isBetween_17 (by decide) (fun c_2 => ?_) (fun c_2 => ?_)
    · replace hf := ifT c_2 hf
      refine ww_iconst (v := 1) C dX9_isBetween_40 (by decide) ?_
      refine ww_goto (tgt := 45) C dX9_isBetween_41 (by decide) ?_
      obtain rfl := Option.some.inj hf
      exact ww_zret C (nar_b true) ⟨rfl, rfl⟩ dX9_isBetween_45
    · replace hf := ifF c_2 hf
      refine ww_sub C (lv' := [(0, .ref (a0 0)), (1, .int x1), (2, .int x2), (3, .int x3)]) [0, 1, 2, 3] rfl ?_
      exact w_X9_isBetween_D_20 C hf

abbrev rmX9_openBetween_D : Room := { frames := 3, cells := 0, slots := 0, locals := 66 }
set_option maxRecDepth 20000 in
theorem in_X9_openBetween_D_X9 : ∀ w ∈ u_ws RX9 TX9 35, w ∈ wsX9_openBetween := by decide +kernel
set_option maxHeartbeats 4000000 in
set_option maxRecDepth 100000 in
theorem w_X9_openBetween_D_5 {E : Ex} {K : Kx} (C : Cx E K cX9_openBetween 5 (some .int) RX9 wsX9_openBetween rmX9_openBetween_D) {a0 : Nat → Nat} {h0_1 : Nat} {x1 : Int32} {x2 : Int32} {v0 : ModelV}  {r : Int32} : ∀ (n : Nat) (x3 : Int32) (x4 : Int32), Mod_openBetweenD_5 x1 x2 v0 n x3 x4 = some r → WW E K 0 0 (QQ E K (fun rv g => rv = some (.int r) ∧ g = [wModel E a0 (rf2 (a0 2) h0_1) v0]) 0 0) 5 [(0, .ref (a0 0)), (1, .int x1), (2, .int x2), (3, .int x3), (4, .int x4)] [] [wModel E a0 (rf2 (a0 2) h0_1) v0] := by
  intro n
  induction n with
  | zero =>
    intro x3 x4 hf
    simp [Mod_openBetweenD_5] at hf
  | succ n ih =>
    intro x3 x4 hf
    rw [Mod_openBetweenD_5] at hf
    refine ww_iload C dX9_openBetween_5 4 rfl ?_
    refine ww_aload_n C dX9_openBetween_7 rfl 0 rfl ?_
    refine ww_get C clOK9 in_X9_openBetween_D_X9 (w := wModel E a0 (rf2 (a0 2) h0_1) v0) (fs := fsModel a0 (rf2 (a0 2) h0_1) v0) (v := .ref (a0 2)) 0 0 7 rfl q_Model (by decide) (by decide +kernel) g_Model_house dX9_openBetween_8 ?_
    refine ww_iconst (v := 1) C dX9_openBetween_11 (by decide) ?_
    obtain ⟨g_1, hf⟩ := gdE hf
    refine ww_iald C (f := Model_draft v0) (w := wModel E a0 (rf2 (a0 2) h0_1) v0) 0 2 rfl c_Model_draft (inB_vp g_1) dX9_openBetween_12 ?_
    refine ww_icmp_ge (tgt := 47) C dX9_openBetween_13 (by decide) (fun c_2 => ?_) (fun c_2 => ?_)
    · replace hf := ifT c_2 hf
      refine ww_iload_n C dX9_openBetween_47 rfl 3 rfl ?_
      obtain rfl := Option.some.inj hf
      exact ww_iret C ⟨rfl, rfl⟩ dX9_openBetween_48
    · replace hf := ifF c_2 hf
      refine ww_iload_n C dX9_openBetween_16 rfl 3 rfl ?_
      refine ww_aload_n C dX9_openBetween_17 rfl 0 rfl ?_
      refine ww_iload C dX9_openBetween_18 4 rfl ?_
      refine ww_iload_n C dX9_openBetween_20 rfl 1 rfl ?_
      refine ww_iload_n C dX9_openBetween_21 rfl 2 rfl ?_
      obtain ⟨p22, hp22, hf⟩ := bdE hf
      refine ww_callV C (As := [.int x4, .int x1, .int x2]) (st := [.int x3]) (gr := []) (c_X9_isBetween_D (E := E) (a0 := a0) (h0_1 := h0_1) hp22) gX9_openBetween_X9_isBetween rfl yk_X9_isBetween ⟨by decide, by decide⟩ ⟨by decide, by decide⟩ clOK9 0 0 rfl rfl [0] [] 1 rfl (by decide) rfl rfl (Nat.le_of_ble_eq_true rfl) dX9_openBetween_22 ?_
      rintro _ _ ⟨rfl, rfl⟩
      refine ww_perm (gs' := [wModel E a0 (rf2 (a0 2) h0_1) v0]) [0] 1 rfl (by decide) rfl ?_
      refine ww_if_eqB (tgt := 38) C dX9_openBetween_25 (by decide) (fun c_3 => ?_) (fun c_3 => ?_)
      · replace hf := bfE c_3 hf
        refine ww_iconst (v := 0) C dX9_openBetween_38 (by decide) ?_
        refine ww_iadd C dX9_openBetween_39 ?_
        refine ww_topi (fun x3_40 e_x3_40 => ?_)
        replace hf := ltE e_x3_40 hf
        refine ww_istore_n (lv' := [(3, .int x3_40), (0, .ref (a0 0)), (1, .int x1), (2, .int x2), (4, .int x4)]) C dX9_openBetween_40 rfl (by decide) rfl ?_
        obtain ⟨x4_41, e_x4_41⟩ : ∃ y : Int32, y = x4 + 1 := ⟨_, rfl⟩
        replace hf := ltE e_x4_41 hf
        refine ww_iinc (v := x4_41) (lv' := [(4, .int x4_41), (3, .int x3_40), (0, .ref (a0 0)), (1, .int x1), (2, .int x2)]) C dX9_openBetween_41 4 rfl (by rw [e_x4_41]; rfl) (by decide) rfl ?_
        refine ww_goto (tgt := 5) C dX9_openBetween_44 (by decide) ?_
        refine ww_sub C (lv' := [(0, .ref (a0 0)), (1, .int x1), (2, .int x2), (3, .int x3_40), (4, .int x4_41)]) [2, 3, 4, 1, 0] rfl ?_
        exact ih _ _ hf
      · replace hf := btE c_3 hf
        refine ww_aload_n C dX9_openBetween_28 rfl 0 rfl ?_
        refine ww_iload C dX9_openBetween_29 4 rfl ?_
        refine ww_iconst (v := 2) C dX9_openBetween_31 (by decide) ?_
        obtain ⟨p32, hp32, hf⟩ := bdE hf
        refine ww_callV C (As := [.int x4, .int 2]) (st := [.int x3]) (gr := []) (c_X9_ofDoor_D (E := E) (a0 := a0) (h0_1 := h0_1) hp32) gX9_openBetween_X9_ofDoor rfl yk_X9_ofDoor ⟨by decide, by decide⟩ ⟨by decide, by decide⟩ clOK9 0 0 rfl rfl [0] [] 1 rfl (by decide) rfl rfl (Nat.le_of_ble_eq_true rfl) dX9_openBetween_32 ?_
        rintro _ _ ⟨rfl, rfl⟩
        refine ww_perm (gs' := [wModel E a0 (rf2 (a0 2) h0_1) v0]) [0] 1 rfl (by decide) rfl ?_
        refine ww_goto (tgt := 39) C dX9_openBetween_35 (by decide) ?_
        refine ww_iadd C dX9_openBetween_39 ?_
        refine ww_topi (fun x3_40 e_x3_40 => ?_)
        replace hf := ltE e_x3_40 hf
        refine ww_istore_n (lv' := [(3, .int x3_40), (0, .ref (a0 0)), (1, .int x1), (2, .int x2), (4, .int x4)]) C dX9_openBetween_40 rfl (by decide) rfl ?_
        obtain ⟨x4_41, e_x4_41⟩ : ∃ y : Int32, y = x4 + 1 := ⟨_, rfl⟩
        replace hf := ltE e_x4_41 hf
        refine ww_iinc (v := x4_41) (lv' := [(4, .int x4_41), (3, .int x3_40), (0, .ref (a0 0)), (1, .int x1), (2, .int x2)]) C dX9_openBetween_41 4 rfl (by rw [e_x4_41]; rfl) (by decide) rfl ?_
        refine ww_goto (tgt := 5) C dX9_openBetween_44 (by decide) ?_
        refine ww_sub C (lv' := [(0, .ref (a0 0)), (1, .int x1), (2, .int x2), (3, .int x3_40), (4, .int x4_41)]) [2, 3, 4, 1, 0] rfl ?_
        exact ih _ _ hf

set_option maxHeartbeats 4000000 in
set_option maxRecDepth 100000 in
theorem c_X9_openBetween_D {E : Ex} {a0 : Nat → Nat} {h0_1 : Nat} {x1 : Int32} {x2 : Int32} {v0 : ModelV} {r : Int32} (hf : Mod_openBetweenD x1 x2 v0 = some r) : Ct E yX9_openBetween wsX9_openBetween rmX9_openBetween_D [.ref (a0 0), .int x1, .int x2] [wModel E a0 (rf2 (a0 2) h0_1) v0] (fun rv g => rv = some (.int r) ∧ g = [wModel E a0 (rf2 (a0 2) h0_1) v0]) := by
  refine ct_of (own := RX9) (by decide +kernel) rfl rfl (Nat.le_of_ble_eq_true rfl) (fun K C => ?_)
  refine ww_sub C (lv' := [(0, .ref (a0 0)), (1, .int x1), (2, .int x2)]) [0, 1, 2] rfl ?_
  rw [Mod_openBetweenD] at hf
  refine ww_iconst (v := 0) C dX9_openBetween_0 (by decide) ?_
  refine ww_istore_n (lv' := [(3, .int 0), (0, .ref (a0 0)), (1, .int x1), (2, .int x2)]) C dX9_openBetween_1 rfl (by decide) rfl ?_
  refine ww_iconst (v := 0) C dX9_openBetween_2 (by decide) ?_
  refine ww_istore (lv' := [(4, .int 0), (3, .int 0), (0, .ref (a0 0)), (1, .int x1), (2, .int x2)]) C dX9_openBetween_3 (by decide) rfl ?_
  refine ww_sub C (lv' := [(0, .ref (a0 0)), (1, .int x1), (2, .int x2), (3, .int 0), (4, .int 0)]) [2, 3, 4, 1, 0] rfl ?_
  exact w_X9_openBetween_D_5 C FU _ _ hf

