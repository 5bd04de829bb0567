abbrev rmL_load : Room := { frames := 12, cells := 1, slots := 6, locals := 360 }
set_option maxHeartbeats 4000000 in
set_option maxRecDepth 100000 in
theorem c_L_load {E : Ex} {a0 : Nat → Nat} {a1 : Nat → Nat} {a2 : Nat → Nat} {a3 : Nat → Nat} {a4 : Nat → Nat} {a5 : Nat → Nat} {q6 : Nat} {h0_3 h0_4 h0_5 h0_6 h0_9 h3_0 h3_1 : Nat} {x1 : Int32} {v0 : GWV} {v1 : HouseV} {v2 : HouseV} {v3 : HistV} {v4 : ToksV} {v6 : Nat → Int64} {r : (Int32 × GWV × HouseV × HouseV × HistV × ToksV × (Nat → Int64))} (hf : L_load x1 v0 v1 v2 v3 v4 v6 = some r) : CtL E yL_load wsL_load rmL_load [.ref (a0 0), .int x1, .ref q6] [wGW E a0 (rf10 (a1 0) (a2 0) (a3 0) h0_3 h0_4 h0_5 h0_6 (a4 0) (a5 0) h0_9) v0, wHouse E a1 v1, wHouse E a2 v2, wHist E a3 (rf2 h3_0 h3_1) v3, wToks E a4 v4, wHRead E a5 (rf1 (a4 0)), wLon E q6 v6] (fun rv g => rv = some (.int r.1) ∧ g = [wGW E a0 (rf10 (a1 0) (a2 0) (a3 0) h0_3 h0_4 h0_5 h0_6 (a4 0) (a5 0) h0_9) r.2.1, wHouse E a1 r.2.2.1, wHouse E a2 r.2.2.2.1, wHist E a3 (rf2 h3_0 h3_1) r.2.2.2.2.1, wToks E a4 r.2.2.2.2.2.1, wHRead E a5 (rf1 (a4 0)), wLon E q6 r.2.2.2.2.2.2]) := by
  refine ctl_of (own := RL) (by decide +kernel) rfl rfl (Nat.le_of_ble_eq_true rfl) (fun K C L0 => ?_)
  refine ww_sub C (lv' := [(0, .ref (a0 0)), (1, .int x1), (2, .ref q6)]) [0, 1, 2] rfl ?_
  rw [L_load] at hf
  refine ww_aload_n C dL_load_0 rfl 2 rfl ?_
  refine ww_iconst (v := 0) C dL_load_1 (by decide) ?_
  refine ww_aload_n C dL_load_2 rfl 0 rfl ?_
  refine ww_iload_n C dL_load_3 rfl 1 rfl ?_
  obtain ⟨p4, hp4, hf⟩ := bdE hf
  refine ww_callVC C L0 (As := [.int x1]) (st := [.int 0, .ref q6]) (gr := [wLon E q6 v6]) (c_X8_load (E := E) (a0 := a0) (h0_3 := h0_3) (h0_4 := h0_4) (h0_5 := h0_5) (h0_6 := h0_6) (h0_9 := h0_9) (a1 := a1) (a2 := a2) (a3 := a3) (h3_0 := h3_0) (h3_1 := h3_1) (a4 := a4) (a5 := a5) hp4) gL_load_X8_load rfl yk_X8_load ⟨by decide, by decide⟩ ⟨by decide, by decide⟩ clOK8 0 0 rfl rfl [0, 1, 2, 3, 4, 5] [6] 7 rfl (by decide) rfl rfl (Nat.le_of_ble_eq_true rfl) dL_load_4 (fun b4 e_u4 q4 => ?_) ?_
  · replace hf := exCe e_u4 hf
    cases b4 with
    | false =>
      replace hf := bfE rfl hf
      cases hf
    | true =>
      replace hf := btE rfl hf
      refine ww_catch0 C L0 (by decide) (by decide) (by decide +kernel) ?_
      refine ww_astore_n (lv' := [(3, .ref q4), (0, .ref (a0 0)), (1, .int x1), (2, .ref q6)]) C dL_load_12 rfl (by decide) rfl ?_
      refine ww_iconst (v := 1) C dL_load_13 (by decide) ?_
      obtain rfl := Option.some.inj hf
      refine ww_widen (k := 1) (n := 6) (by decide) (by decide) ?_
      exact ww_iret C ⟨rfl, rfl⟩ dL_load_14
  · skip
    intro u4 e_u4
    replace hf := exCo e_u4 hf
    rintro _ _ ⟨rfl, rfl⟩
    refine ww_perm (gs' := [wGW E a0 (rf10 (a1 0) (a2 0) (a3 0) h0_3 h0_4 h0_5 h0_6 (a4 0) (a5 0) h0_9) u4.2.1, wHouse E a1 u4.2.2.1, wHouse E a2 u4.2.2.2.1, wHist E a3 (rf2 h3_0 h3_1) u4.2.2.2.2.1, wToks E a4 u4.2.2.2.2.2, wHRead E a5 (rf1 (a4 0)), wLon E q6 v6]) [0, 1, 2, 3, 4, 5, 6] 7 rfl (by decide) rfl ?_
    refine ww_i2l C dL_load_7 ?_
    obtain ⟨g_1, hf⟩ := gdE hf
    obtain ⟨v6_8, e_v6_8⟩ : ∃ y : Nat → Int64, y = vp_updL v6 (Int32.toNatClampNeg 0) (Int32.toInt64 u4.1) := ⟨_, rfl⟩
    replace hf := ltE e_v6_8 hf
    refine ww_last C (f := v6) (w := wLon E q6 v6) (w' := wLon E q6 v6_8) (gs' := [wGW E a0 (rf10 (a1 0) (a2 0) (a3 0) h0_3 h0_4 h0_5 h0_6 (a4 0) (a5 0) h0_9) u4.2.1, wHouse E a1 u4.2.2.1, wHouse E a2 u4.2.2.2.1, wHist E a3 (rf2 h3_0 h3_1) u4.2.2.2.2.1, wToks E a4 u4.2.2.2.2.2, wHRead E a5 (rf1 (a4 0)), wLon E q6 v6_8]) 6 0 rfl q_Lon (inB_vp g_1) (by rw [e_v6_8]; exact s_Lon) rfl dL_load_8 ?_
    refine ww_goto (tgt := 15) C dL_load_9 (by decide) ?_
    refine ww_iconst (v := 0) C dL_load_15 (by decide) ?_
    obtain rfl := Option.some.inj hf
    refine ww_widen (k := 1) (n := 6) (by decide) (by decide) ?_
    exact ww_iret C ⟨rfl, rfl⟩ dL_load_16

theorem ysk_L_load : yL_load.cls ≠ "java/lang/invoke/MethodHandle" ∧ yL_load.cls ≠ "java/lang/invoke/VarHandle" ∧ (parseMethodDescriptor yL_load.desc).map (fun d => d.parameters.length) = some 3 := by decide +kernel
abbrev rmL_size : Room := { frames := 7, cells := 1, slots := 6, locals := 130 }
set_option maxHeartbeats 4000000 in
set_option maxRecDepth 100000 in
theorem c_L_size {E : Ex} {a0 : Nat → Nat} {a1 : Nat → Nat} {a2 : Nat → Nat} {q3 : Nat} {h0_1 h0_2 h0_4 h0_5 h0_6 h0_7 h0_8 h0_9 : Nat} {x1 : Int32} {v0 : GWV} {v1 : HouseV} {v2 : SightV} {v3 : Nat → Int64} {r : (Int32 × SightV × (Nat → Int64))} (hf : L_size x1 v0 v1 v2 v3 = some r) : CtL E yL_size wsL_size rmL_size [.ref (a0 0), .int x1, .ref q3] [wGW E a0 (rf10 (a1 0) h0_1 h0_2 (a2 0) h0_4 h0_5 h0_6 h0_7 h0_8 h0_9) v0, wHouse E a1 v1, wSight E a2 v2, wLon E q3 v3] (fun rv g => rv = some (.int r.1) ∧ g = [wGW E a0 (rf10 (a1 0) h0_1 h0_2 (a2 0) h0_4 h0_5 h0_6 h0_7 h0_8 h0_9) v0, wHouse E a1 v1, wSight E a2 r.2.1, wLon E q3 r.2.2]) := by
  refine ctl_of (own := RL) (by decide +kernel) rfl rfl (Nat.le_of_ble_eq_true rfl) (fun K C L0 => ?_)
  refine ww_sub C (lv' := [(0, .ref (a0 0)), (1, .int x1), (2, .ref q3)]) [0, 1, 2] rfl ?_
  rw [L_size] at hf
  refine ww_aload_n C dL_size_0 rfl 2 rfl ?_
  refine ww_iconst (v := 0) C dL_size_1 (by decide) ?_
  refine ww_aload_n C dL_size_2 rfl 0 rfl ?_
  refine ww_iload_n C dL_size_3 rfl 1 rfl ?_
  obtain ⟨p4, hp4, hf⟩ := bdE hf
  refine ww_callVC C L0 (As := [.int x1]) (st := [.int 0, .ref q3]) (gr := [wLon E q3 v3]) (c_X8_size (E := E) (a0 := a0) (h0_1 := h0_1) (h0_2 := h0_2) (h0_4 := h0_4) (h0_5 := h0_5) (h0_6 := h0_6) (h0_7 := h0_7) (h0_8 := h0_8) (h0_9 := h0_9) (a1 := a1) (a2 := a2) hp4) gL_size_X8_size rfl yk_X8_size ⟨by decide, by decide⟩ ⟨by decide, by decide⟩ clOK8 0 0 rfl rfl [0, 1, 2] [3] 4 rfl (by decide) rfl rfl (Nat.le_of_ble_eq_true rfl) dL_size_4 (fun b4 e_u4 q4 => ?_) ?_
  · replace hf := exCe e_u4 hf
    cases b4 with
    | false =>
      replace hf := bfE rfl hf
      refine ww_catch0 C L0 (by decide) (by decide) (by decide +kernel) ?_
      refine ww_astore_n (lv' := [(3, .ref q4), (0, .ref (a0 0)), (1, .int x1), (2, .ref q3)]) C dL_size_12 rfl (by decide) rfl ?_
      refine ww_iconst (v := 1) C dL_size_13 (by decide) ?_
      obtain rfl := Option.some.inj hf
      refine ww_widen (k := 1) (n := 6) (by decide) (by decide) ?_
      exact ww_iret C ⟨rfl, rfl⟩ dL_size_14
    | true =>
      replace hf := btE rfl hf
      cases hf
  · skip
    intro u4 e_u4
    replace hf := exCo e_u4 hf
    rintro _ _ ⟨rfl, rfl⟩
    refine ww_perm (gs' := [wGW E a0 (rf10 (a1 0) h0_1 h0_2 (a2 0) h0_4 h0_5 h0_6 h0_7 h0_8 h0_9) v0, wHouse E a1 v1, wSight E a2 u4.2, wLon E q3 v3]) [0, 1, 2, 3] 4 rfl (by decide) rfl ?_
    refine ww_i2l C dL_size_7 ?_
    obtain ⟨g_1, hf⟩ := gdE hf
    obtain ⟨v3_8, e_v3_8⟩ : ∃ y : Nat → Int64, y = vp_updL v3 (Int32.toNatClampNeg 0) (Int32.toInt64 u4.1) := ⟨_, rfl⟩
    replace hf := ltE e_v3_8 hf
    refine ww_last C (f := v3) (w := wLon E q3 v3) (w' := wLon E q3 v3_8) (gs' := [wGW E a0 (rf10 (a1 0) h0_1 h0_2 (a2 0) h0_4 h0_5 h0_6 h0_7 h0_8 h0_9) v0, wHouse E a1 v1, wSight E a2 u4.2, wLon E q3 v3_8]) 3 0 rfl q_Lon (inB_vp g_1) (by rw [e_v3_8]; exact s_Lon) rfl dL_size_8 ?_
    refine ww_goto (tgt := 15) C dL_size_9 (by decide) ?_
    refine ww_iconst (v := 0) C dL_size_15 (by decide) ?_
    obtain rfl := Option.some.inj hf
    refine ww_widen (k := 1) (n := 6) (by decide) (by decide) ?_
    exact ww_iret C ⟨rfl, rfl⟩ dL_size_16

theorem ysk_L_size : yL_size.cls ≠ "java/lang/invoke/MethodHandle" ∧ yL_size.cls ≠ "java/lang/invoke/VarHandle" ∧ (parseMethodDescriptor yL_size.desc).map (fun d => d.parameters.length) = some 3 := by decide +kernel
abbrev rmL_door : Room := { frames := 8, cells := 2, slots := 12, locals := 133 }
set_option maxHeartbeats 4000000 in
set_option maxRecDepth 100000 in
theorem c_L_door {E : Ex} {a0 : Nat → Nat} {a1 : Nat → Nat} {q2 : Nat} {h0_1 h0_2 h0_3 h0_4 h0_5 h0_6 h0_7 h0_8 h0_9 : Nat} {x1 : Int32} {x2 : Int32} {v0 : GWV} {v1 : HouseV} {v2 : Nat → Int64} {r : (Int32 × (Nat → Int64))} (hf : L_door x1 x2 v0 v1 v2 = some r) : CtL E yL_door wsL_door rmL_door [.ref (a0 0), .int x1, .int x2, .ref q2] [wGW E a0 (rf10 (a1 0) h0_1 h0_2 h0_3 h0_4 h0_5 h0_6 h0_7 h0_8 h0_9) v0, wHouse E a1 v1, wLon E q2 v2] (fun rv g => rv = some (.int r.1) ∧ g = [wGW E a0 (rf10 (a1 0) h0_1 h0_2 h0_3 h0_4 h0_5 h0_6 h0_7 h0_8 h0_9) v0, wHouse E a1 v1, wLon E q2 r.2]) := by
  refine ctl_of (own := RL) (by decide +kernel) rfl rfl (Nat.le_of_ble_eq_true rfl) (fun K C L0 => ?_)
  refine ww_sub C (lv' := [(0, .ref (a0 0)), (1, .int x1), (2, .int x2), (3, .ref q2)]) [0, 1, 2, 3] rfl ?_
  rw [L_door] at hf
  refine ww_aload_n C dL_door_0 rfl 3 rfl ?_
  refine ww_iconst (v := 0) C dL_door_1 (by decide) ?_
  refine ww_aload_n C dL_door_2 rfl 0 rfl ?_
  refine ww_iload_n C dL_door_3 rfl 1 rfl ?_
  refine ww_iload_n C dL_door_4 rfl 2 rfl ?_
  obtain ⟨p5, hp5, hf⟩ := bdE hf
  refine ww_callVC C L0 (As := [.int x1, .int x2]) (st := [.int 0, .ref q2]) (gr := [wLon E q2 v2]) (c_X8_door (E := E) (a0 := a0) (h0_1 := h0_1) (h0_2 := h0_2) (h0_3 := h0_3) (h0_4 := h0_4) (h0_5 := h0_5) (h0_6 := h0_6) (h0_7 := h0_7) (h0_8 := h0_8) (h0_9 := h0_9) (a1 := a1) hp5) gL_door_X8_door rfl yk_X8_door ⟨by decide, by decide⟩ ⟨by decide, by decide⟩ clOK8 0 0 rfl rfl [0, 1] [2] 3 rfl (by decide) rfl rfl (Nat.le_of_ble_eq_true rfl) dL_door_5 (fun b5 e_u5 q5 => ?_) ?_
  · replace hf := exCe e_u5 hf
    cases b5 with
    | false =>
      replace hf := bfE rfl hf
      refine ww_catch0 C L0 (by decide) (by decide) (by decide +kernel) ?_
      refine ww_astore (lv' := [(4, .ref q5), (0, .ref (a0 0)), (1, .int x1), (2, .int x2), (3, .ref q2)]) C dL_door_13 (by decide) rfl ?_
      refine ww_iconst (v := 1) C dL_door_15 (by decide) ?_
      obtain rfl := Option.some.inj hf
      refine ww_widen (k := 2) (n := 12) (by decide) (by decide) ?_
      exact ww_iret C ⟨rfl, rfl⟩ dL_door_16
    | true =>
      replace hf := btE rfl hf
      cases hf
  · skip
    intro u5 e_u5
    replace hf := exCo e_u5 hf
    rintro _ _ ⟨rfl, rfl⟩
    refine ww_perm (gs' := [wGW E a0 (rf10 (a1 0) h0_1 h0_2 h0_3 h0_4 h0_5 h0_6 h0_7 h0_8 h0_9) v0, wHouse E a1 v1, wLon E q2 v2]) [0, 1, 2] 3 rfl (by decide) rfl ?_
    refine ww_i2l C dL_door_8 ?_
    obtain ⟨g_1, hf⟩ := gdE hf
    obtain ⟨v2_9, e_v2_9⟩ : ∃ y : Nat → Int64, y = vp_updL v2 (Int32.toNatClampNeg 0) (Int32.toInt64 u5) := ⟨_, rfl⟩
    replace hf := ltE e_v2_9 hf
    refine ww_last C (f := v2) (w := wLon E q2 v2) (w' := wLon E q2 v2_9) (gs' := [wGW E a0 (rf10 (a1 0) h0_1 h0_2 h0_3 h0_4 h0_5 h0_6 h0_7 h0_8 h0_9) v0, wHouse E a1 v1, wLon E q2 v2_9]) 2 0 rfl q_Lon (inB_vp g_1) (by rw [e_v2_9]; exact s_Lon) rfl dL_door_9 ?_
    refine ww_goto (tgt := 17) C dL_door_10 (by decide) ?_
    refine ww_iconst (v := 0) C dL_door_17 (by decide) ?_
    obtain rfl := Option.some.inj hf
    refine ww_widen (k := 2) (n := 12) (by decide) (by decide) ?_
    exact ww_iret C ⟨rfl, rfl⟩ dL_door_18

theorem ysk_L_door : yL_door.cls ≠ "java/lang/invoke/MethodHandle" ∧ yL_door.cls ≠ "java/lang/invoke/VarHandle" ∧ (parseMethodDescriptor yL_door.desc).map (fun d => d.parameters.length) = some 4 := by decide +kernel
abbrev rmL_room : Room := { frames := 8, cells := 2, slots := 12, locals := 133 }
set_option maxHeartbeats 4000000 in
set_option maxRecDepth 100000 in
theorem c_L_room {E : Ex} {a0 : Nat → Nat} {a1 : Nat → Nat} {a2 : Nat → Nat} {q3 : Nat} {h0_1 h0_2 h0_4 h0_5 h0_6 h0_7 h0_8 h0_9 : Nat} {x1 : Int32} {x2 : Int32} {v0 : GWV} {v1 : HouseV} {v2 : SightV} {v3 : Nat → Int64} {r : (Int32 × SightV × (Nat → Int64))} (hf : L_room x1 x2 v0 v1 v2 v3 = some r) : CtL E yL_room wsL_room rmL_room [.ref (a0 0), .int x1, .int x2, .ref q3] [wGW E a0 (rf10 (a1 0) h0_1 h0_2 (a2 0) h0_4 h0_5 h0_6 h0_7 h0_8 h0_9) v0, wHouse E a1 v1, wSight E a2 v2, wLon E q3 v3] (fun rv g => rv = some (.int r.1) ∧ g = [wGW E a0 (rf10 (a1 0) h0_1 h0_2 (a2 0) h0_4 h0_5 h0_6 h0_7 h0_8 h0_9) v0, wHouse E a1 v1, wSight E a2 r.2.1, wLon E q3 r.2.2]) := by
  refine ctl_of (own := RL) (by decide +kernel) rfl rfl (Nat.le_of_ble_eq_true rfl) (fun K C L0 => ?_)
  refine ww_sub C (lv' := [(0, .ref (a0 0)), (1, .int x1), (2, .int x2), (3, .ref q3)]) [0, 1, 2, 3] rfl ?_
  rw [L_room] at hf
  refine ww_aload_n C dL_room_0 rfl 3 rfl ?_
  refine ww_iconst (v := 0) C dL_room_1 (by decide) ?_
  refine ww_aload_n C dL_room_2 rfl 0 rfl ?_
  refine ww_iload_n C dL_room_3 rfl 1 rfl ?_
  refine ww_iload_n C dL_room_4 rfl 2 rfl ?_
  obtain ⟨p5, hp5, hf⟩ := bdE hf
  refine ww_callVC C L0 (As := [.int x1, .int x2]) (st := [.int 0, .ref q3]) (gr := [wLon E q3 v3]) (c_X8_room (E := E) (a0 := a0) (h0_1 := h0_1) (h0_2 := h0_2) (h0_4 := h0_4) (h0_5 := h0_5) (h0_6 := h0_6) (h0_7 := h0_7) (h0_8 := h0_8) (h0_9 := h0_9) (a1 := a1) (a2 := a2) hp5) gL_room_X8_room rfl yk_X8_room ⟨by decide, by decide⟩ ⟨by decide, by decide⟩ clOK8 0 0 rfl rfl [0, 1, 2] [3] 4 rfl (by decide) rfl rfl (Nat.le_of_ble_eq_true rfl) dL_room_5 (fun b5 e_u5 q5 => ?_) ?_
  · replace hf := exCe e_u5 hf
    cases b5 with
    | false =>
      replace hf := bfE rfl hf
      refine ww_catch0 C L0 (by decide) (by decide) (by decide +kernel) ?_
      refine ww_astore (lv' := [(4, .ref q5), (0, .ref (a0 0)), (1, .int x1), (2, .int x2), (3, .ref q3)]) C dL_room_13 (by decide) rfl ?_
      refine ww_iconst (v := 1) C dL_room_15 (by decide) ?_
      obtain rfl := Option.some.inj hf
      refine ww_widen (k := 2) (n := 12) (by decide) (by decide) ?_
      exact ww_iret C ⟨rfl, rfl⟩ dL_room_16
    | true =>
      replace hf := btE rfl hf
      cases hf
  · skip
    intro u5 e_u5
    replace hf := exCo e_u5 hf
    rintro _ _ ⟨rfl, rfl⟩
    refine ww_perm (gs' := [wGW E a0 (rf10 (a1 0) h0_1 h0_2 (a2 0) h0_4 h0_5 h0_6 h0_7 h0_8 h0_9) v0, wHouse E a1 v1, wSight E a2 u5.2, wLon E q3 v3]) [0, 1, 2, 3] 4 rfl (by decide) rfl ?_
    refine ww_i2l C dL_room_8 ?_
    obtain ⟨g_1, hf⟩ := gdE hf
    obtain ⟨v3_9, e_v3_9⟩ : ∃ y : Nat → Int64, y = vp_updL v3 (Int32.toNatClampNeg 0) (Int32.toInt64 u5.1) := ⟨_, rfl⟩
    replace hf := ltE e_v3_9 hf
    refine ww_last C (f := v3) (w := wLon E q3 v3) (w' := wLon E q3 v3_9) (gs' := [wGW E a0 (rf10 (a1 0) h0_1 h0_2 (a2 0) h0_4 h0_5 h0_6 h0_7 h0_8 h0_9) v0, wHouse E a1 v1, wSight E a2 u5.2, wLon E q3 v3_9]) 3 0 rfl q_Lon (inB_vp g_1) (by rw [e_v3_9]; exact s_Lon) rfl dL_room_9 ?_
    refine ww_goto (tgt := 17) C dL_room_10 (by decide) ?_
    refine ww_iconst (v := 0) C dL_room_17 (by decide) ?_
    obtain rfl := Option.some.inj hf
    refine ww_widen (k := 2) (n := 12) (by decide) (by decide) ?_
    exact ww_iret C ⟨rfl, rfl⟩ dL_room_18

theorem ysk_L_room : yL_room.cls ≠ "java/lang/invoke/MethodHandle" ∧ yL_room.cls ≠ "java/lang/invoke/VarHandle" ∧ (parseMethodDescriptor yL_room.desc).map (fun d => d.parameters.length) = some 4 := by decide +kernel
abbrev rmL_guard : Room := { frames := 8, cells := 2, slots := 12, locals := 133 }
set_option maxHeartbeats 4000000 in
set_option maxRecDepth 100000 in
theorem c_L_guard {E : Ex} {a0 : Nat → Nat} {a1 : Nat → Nat} {q2 : Nat} {h0_1 h0_2 h0_3 h0_4 h0_5 h0_6 h0_7 h0_8 h0_9 : Nat} {x1 : Int32} {x2 : Int32} {v0 : GWV} {v1 : HouseV} {v2 : Nat → Int64} {r : (Int32 × (Nat → Int64))} (hf : L_guard x1 x2 v0 v1 v2 = some r) : CtL E yL_guard wsL_guard rmL_guard [.ref (a0 0), .int x1, .int x2, .ref q2] [wGW E a0 (rf10 (a1 0) h0_1 h0_2 h0_3 h0_4 h0_5 h0_6 h0_7 h0_8 h0_9) v0, wHouse E a1 v1, wLon E q2 v2] (fun rv g => rv = some (.int r.1) ∧ g = [wGW E a0 (rf10 (a1 0) h0_1 h0_2 h0_3 h0_4 h0_5 h0_6 h0_7 h0_8 h0_9) v0, wHouse E a1 v1, wLon E q2 r.2]) := by
  refine ctl_of (own := RL) (by decide +kernel) rfl rfl (Nat.le_of_ble_eq_true rfl) (fun K C L0 => ?_)
  refine ww_sub C (lv' := [(0, .ref (a0 0)), (1, .int x1), (2, .int x2), (3, .ref q2)]) [0, 1, 2, 3] rfl ?_
  rw [L_guard] at hf
  refine ww_aload_n C dL_guard_0 rfl 3 rfl ?_
  refine ww_iconst (v := 0) C dL_guard_1 (by decide) ?_
  refine ww_aload_n C dL_guard_2 rfl 0 rfl ?_
  refine ww_iload_n C dL_guard_3 rfl 1 rfl ?_
  refine ww_iload_n C dL_guard_4 rfl 2 rfl ?_
  obtain ⟨p5, hp5, hf⟩ := bdE hf
  refine ww_callVC C L0 (As := [.int x1, .int x2]) (st := [.int 0, .ref q2]) (gr := [wLon E q2 v2]) (c_X8_guard (E := E) (a0 := a0) (h0_1 := h0_1) (h0_2 := h0_2) (h0_3 := h0_3) (h0_4 := h0_4) (h0_5 := h0_5) (h0_6 := h0_6) (h0_7 := h0_7) (h0_8 := h0_8) (h0_9 := h0_9) (a1 := a1) hp5) gL_guard_X8_guard rfl yk_X8_guard ⟨by decide, by decide⟩ ⟨by decide, by decide⟩ clOK8 0 0 rfl rfl [0, 1] [2] 3 rfl (by decide) rfl rfl (Nat.le_of_ble_eq_true rfl) dL_guard_5 (fun b5 e_u5 q5 => ?_) ?_
  · replace hf := exCe e_u5 hf
    cases b5 with
    | false =>
      replace hf := bfE rfl hf
      refine ww_catch0 C L0 (by decide) (by decide) (by decide +kernel) ?_
      refine ww_astore (lv' := [(4, .ref q5), (0, .ref (a0 0)), (1, .int x1), (2, .int x2), (3, .ref q2)]) C dL_guard_13 (by decide) rfl ?_
      refine ww_iconst (v := 1) C dL_guard_15 (by decide) ?_
      obtain rfl := Option.some.inj hf
      refine ww_widen (k := 2) (n := 12) (by decide) (by decide) ?_
      exact ww_iret C ⟨rfl, rfl⟩ dL_guard_16
    | true =>
      replace hf := btE rfl hf
      cases hf
  · skip
    intro u5 e_u5
    replace hf := exCo e_u5 hf
    rintro _ _ ⟨rfl, rfl⟩
    refine ww_perm (gs' := [wGW E a0 (rf10 (a1 0) h0_1 h0_2 h0_3 h0_4 h0_5 h0_6 h0_7 h0_8 h0_9) v0, wHouse E a1 v1, wLon E q2 v2]) [0, 1, 2] 3 rfl (by decide) rfl ?_
    refine ww_i2l C dL_guard_8 ?_
    obtain ⟨g_1, hf⟩ := gdE hf
    obtain ⟨v2_9, e_v2_9⟩ : ∃ y : Nat → Int64, y = vp_updL v2 (Int32.toNatClampNeg 0) (Int32.toInt64 u5) := ⟨_, rfl⟩
    replace hf := ltE e_v2_9 hf
    refine ww_last C (f := v2) (w := wLon E q2 v2) (w' := wLon E q2 v2_9) (gs' := [wGW E a0 (rf10 (a1 0) h0_1 h0_2 h0_3 h0_4 h0_5 h0_6 h0_7 h0_8 h0_9) v0, wHouse E a1 v1, wLon E q2 v2_9]) 2 0 rfl q_Lon (inB_vp g_1) (by rw [e_v2_9]; exact s_Lon) rfl dL_guard_9 ?_
    refine ww_goto (tgt := 17) C dL_guard_10 (by decide) ?_
    refine ww_iconst (v := 0) C dL_guard_17 (by decide) ?_
    obtain rfl := Option.some.inj hf
    refine ww_widen (k := 2) (n := 12) (by decide) (by decide) ?_
    exact ww_iret C ⟨rfl, rfl⟩ dL_guard_18

theorem ysk_L_guard : yL_guard.cls ≠ "java/lang/invoke/MethodHandle" ∧ yL_guard.cls ≠ "java/lang/invoke/VarHandle" ∧ (parseMethodDescriptor yL_guard.desc).map (fun d => d.parameters.length) = some 4 := by decide +kernel
abbrev rmL_walk : Room := { frames := 8, cells := 1, slots := 6, locals := 133 }
set_option maxHeartbeats 4000000 in
set_option maxRecDepth 100000 in
theorem c_L_walk {E : Ex} {a0 : Nat → Nat} {a1 : Nat → Nat} {q2 : Nat} {h0_1 h0_2 h0_3 h0_4 h0_5 h0_6 h0_7 h0_8 h0_9 : Nat} {x1 : Int32} {x2 : Int32} {v0 : GWV} {v1 : HouseV} {v2 : Nat → Int64} {r : (Int32 × (Nat → Int64))} (hf : L_walk x1 x2 v0 v1 v2 = some r) : CtL E yL_walk wsL_walk rmL_walk [.ref (a0 0), .int x1, .int x2, .ref q2] [wGW E a0 (rf10 (a1 0) h0_1 h0_2 h0_3 h0_4 h0_5 h0_6 h0_7 h0_8 h0_9) v0, wHouse E a1 v1, wLon E q2 v2] (fun rv g => rv = some (.int r.1) ∧ g = [wGW E a0 (rf10 (a1 0) h0_1 h0_2 h0_3 h0_4 h0_5 h0_6 h0_7 h0_8 h0_9) v0, wHouse E a1 v1, wLon E q2 r.2]) := by
  refine ctl_of (own := RL) (by decide +kernel) rfl rfl (Nat.le_of_ble_eq_true rfl) (fun K C L0 => ?_)
  refine ww_sub C (lv' := [(0, .ref (a0 0)), (1, .int x1), (2, .int x2), (3, .ref q2)]) [0, 1, 2, 3] rfl ?_
  rw [L_walk] at hf
  refine ww_aload_n C dL_walk_0 rfl 3 rfl ?_
  refine ww_iconst (v := 0) C dL_walk_1 (by decide) ?_
  refine ww_aload_n C dL_walk_2 rfl 0 rfl ?_
  refine ww_iload_n C dL_walk_3 rfl 1 rfl ?_
  refine ww_iload_n C dL_walk_4 rfl 2 rfl ?_
  obtain ⟨p5, hp5, hf⟩ := bdE hf
  refine ww_callVC C L0 (As := [.int x1, .int x2]) (st := [.int 0, .ref q2]) (gr := [wLon E q2 v2]) (c_X8_walk (E := E) (a0 := a0) (h0_1 := h0_1) (h0_2 := h0_2) (h0_3 := h0_3) (h0_4 := h0_4) (h0_5 := h0_5) (h0_6 := h0_6) (h0_7 := h0_7) (h0_8 := h0_8) (h0_9 := h0_9) (a1 := a1) hp5) gL_walk_X8_walk rfl yk_X8_walk ⟨by decide, by decide⟩ ⟨by decide, by decide⟩ clOK8 0 0 rfl rfl [0, 1] [2] 3 rfl (by decide) rfl rfl (Nat.le_of_ble_eq_true rfl) dL_walk_5 (fun b5 e_u5 q5 => ?_) ?_
  · replace hf := exCe e_u5 hf
    cases b5 with
    | false =>
      replace hf := bfE rfl hf
      refine ww_catch0 C L0 (by decide) (by decide) (by decide +kernel) ?_
      refine ww_astore (lv' := [(4, .ref q5), (0, .ref (a0 0)), (1, .int x1), (2, .int x2), (3, .ref q2)]) C dL_walk_13 (by decide) rfl ?_
      refine ww_iconst (v := 1) C dL_walk_15 (by decide) ?_
      obtain rfl := Option.some.inj hf
      refine ww_widen (k := 1) (n := 6) (by decide) (by decide) ?_
      exact ww_iret C ⟨rfl, rfl⟩ dL_walk_16
    | true =>
      replace hf := btE rfl hf
      cases hf
  · skip
    intro u5 e_u5
    replace hf := exCo e_u5 hf
    rintro _ _ ⟨rfl, rfl⟩
    refine ww_perm (gs' := [wGW E a0 (rf10 (a1 0) h0_1 h0_2 h0_3 h0_4 h0_5 h0_6 h0_7 h0_8 h0_9) v0, wHouse E a1 v1, wLon E q2 v2]) [0, 1, 2] 3 rfl (by decide) rfl ?_
    refine ww_i2l C dL_walk_8 ?_
    obtain ⟨g_1, hf⟩ := gdE hf
    obtain ⟨v2_9, e_v2_9⟩ : ∃ y : Nat → Int64, y = vp_updL v2 (Int32.toNatClampNeg 0) (Int32.toInt64 u5) := ⟨_, rfl⟩
    replace hf := ltE e_v2_9 hf
    refine ww_last C (f := v2) (w := wLon E q2 v2) (w' := wLon E q2 v2_9) (gs' := [wGW E a0 (rf10 (a1 0) h0_1 h0_2 h0_3 h0_4 h0_5 h0_6 h0_7 h0_8 h0_9) v0, wHouse E a1 v1, wLon E q2 v2_9]) 2 0 rfl q_Lon (inB_vp g_1) (by rw [e_v2_9]; exact s_Lon) rfl dL_walk_9 ?_
    refine ww_goto (tgt := 17) C dL_walk_10 (by decide) ?_
    refine ww_iconst (v := 0) C dL_walk_17 (by decide) ?_
    obtain rfl := Option.some.inj hf
    refine ww_widen (k := 1) (n := 6) (by decide) (by decide) ?_
    exact ww_iret C ⟨rfl, rfl⟩ dL_walk_18

theorem ysk_L_walk : yL_walk.cls ≠ "java/lang/invoke/MethodHandle" ∧ yL_walk.cls ≠ "java/lang/invoke/VarHandle" ∧ (parseMethodDescriptor yL_walk.desc).map (fun d => d.parameters.length) = some 4 := by decide +kernel
abbrev rmL_roomOf : Room := { frames := 8, cells := 2, slots := 12, locals := 133 }
set_option maxHeartbeats 4000000 in
set_option maxRecDepth 100000 in
theorem c_L_roomOf {E : Ex} {a0 : Nat → Nat} {a1 : Nat → Nat} {q2 : Nat} {h0_1 h0_2 h0_3 h0_4 h0_5 h0_6 h0_7 h0_8 h0_9 : Nat} {x1 : Int32} {x2 : Int32} {v0 : GWV} {v1 : HouseV} {v2 : Nat → Int64} {r : (Int32 × (Nat → Int64))} (hf : L_roomOf x1 x2 v0 v1 v2 = some r) : CtL E yL_roomOf wsL_roomOf rmL_roomOf [.ref (a0 0), .int x1, .int x2, .ref q2] [wGW E a0 (rf10 (a1 0) h0_1 h0_2 h0_3 h0_4 h0_5 h0_6 h0_7 h0_8 h0_9) v0, wHouse E a1 v1, wLon E q2 v2] (fun rv g => rv = some (.int r.1) ∧ g = [wGW E a0 (rf10 (a1 0) h0_1 h0_2 h0_3 h0_4 h0_5 h0_6 h0_7 h0_8 h0_9) v0, wHouse E a1 v1, wLon E q2 r.2]) := by
  refine ctl_of (own := RL) (by decide +kernel) rfl rfl (Nat.le_of_ble_eq_true rfl) (fun K C L0 => ?_)
  refine ww_sub C (lv' := [(0, .ref (a0 0)), (1, .int x1), (2, .int x2), (3, .ref q2)]) [0, 1, 2, 3] rfl ?_
  rw [L_roomOf] at hf
  refine ww_aload_n C dL_roomOf_0 rfl 3 rfl ?_
  refine ww_iconst (v := 0) C dL_roomOf_1 (by decide) ?_
  refine ww_aload_n C dL_roomOf_2 rfl 0 rfl ?_
  refine ww_iload_n C dL_roomOf_3 rfl 1 rfl ?_
  refine ww_iload_n C dL_roomOf_4 rfl 2 rfl ?_
  obtain ⟨p5, hp5, hf⟩ := bdE hf
  refine ww_callVC C L0 (As := [.int x1, .int x2]) (st := [.int 0, .ref q2]) (gr := [wLon E q2 v2]) (c_X8_roomOf (E := E) (a0 := a0) (h0_1 := h0_1) (h0_2 := h0_2) (h0_3 := h0_3) (h0_4 := h0_4) (h0_5 := h0_5) (h0_6 := h0_6) (h0_7 := h0_7) (h0_8 := h0_8) (h0_9 := h0_9) (a1 := a1) hp5) gL_roomOf_X8_roomOf rfl yk_X8_roomOf ⟨by decide, by decide⟩ ⟨by decide, by decide⟩ clOK8 0 0 rfl rfl [0, 1] [2] 3 rfl (by decide) rfl rfl (Nat.le_of_ble_eq_true rfl) dL_roomOf_5 (fun b5 e_u5 q5 => ?_) ?_
  · replace hf := exCe e_u5 hf
    cases b5 with
    | false =>
      replace hf := bfE rfl hf
      refine ww_catch0 C L0 (by decide) (by decide) (by decide +kernel) ?_
      refine ww_astore (lv' := [(4, .ref q5), (0, .ref (a0 0)), (1, .int x1), (2, .int x2), (3, .ref q2)]) C dL_roomOf_13 (by decide) rfl ?_
      refine ww_iconst (v := 1) C dL_roomOf_15 (by decide) ?_
      obtain rfl := Option.some.inj hf
      refine ww_widen (k := 2) (n := 12) (by decide) (by decide) ?_
      exact ww_iret C ⟨rfl, rfl⟩ dL_roomOf_16
    | true =>
      replace hf := btE rfl hf
      refine ww_catch1 C L0 (by decide) (by decide +kernel) (by decide) (by decide) (by decide +kernel) ?_
      refine ww_astore (lv' := [(4, .ref q5), (0, .ref (a0 0)), (1, .int x1), (2, .int x2), (3, .ref q2)]) C dL_roomOf_17 (by decide) rfl ?_
      refine ww_iconst (v := 2) C dL_roomOf_19 (by decide) ?_
      obtain rfl := Option.some.inj hf
      refine ww_widen (k := 2) (n := 12) (by decide) (by decide) ?_
      exact ww_iret C ⟨rfl, rfl⟩ dL_roomOf_20
  · skip
    intro u5 e_u5
    replace hf := exCo e_u5 hf
    rintro _ _ ⟨rfl, rfl⟩
    refine ww_perm (gs' := [wGW E a0 (rf10 (a1 0) h0_1 h0_2 h0_3 h0_4 h0_5 h0_6 h0_7 h0_8 h0_9) v0, wHouse E a1 v1, wLon E q2 v2]) [0, 1, 2] 3 rfl (by decide) rfl ?_
    refine ww_i2l C dL_roomOf_8 ?_
    obtain ⟨g_1, hf⟩ := gdE hf
    obtain ⟨v2_9, e_v2_9⟩ : ∃ y : Nat → Int64, y = vp_updL v2 (Int32.toNatClampNeg 0) (Int32.toInt64 u5) := ⟨_, rfl⟩
    replace hf := ltE e_v2_9 hf
    refine ww_last C (f := v2) (w := wLon E q2 v2) (w' := wLon E q2 v2_9) (gs' := [wGW E a0 (rf10 (a1 0) h0_1 h0_2 h0_3 h0_4 h0_5 h0_6 h0_7 h0_8 h0_9) v0, wHouse E a1 v1, wLon E q2 v2_9]) 2 0 rfl q_Lon (inB_vp g_1) (by rw [e_v2_9]; exact s_Lon) rfl dL_roomOf_9 ?_
    refine ww_goto (tgt := 21) C dL_roomOf_10 (by decide) ?_
    refine ww_iconst (v := 0) C dL_roomOf_21 (by decide) ?_
    obtain rfl := Option.some.inj hf
    refine ww_widen (k := 2) (n := 12) (by decide) (by decide) ?_
    exact ww_iret C ⟨rfl, rfl⟩ dL_roomOf_22

theorem ysk_L_roomOf : yL_roomOf.cls ≠ "java/lang/invoke/MethodHandle" ∧ yL_roomOf.cls ≠ "java/lang/invoke/VarHandle" ∧ (parseMethodDescriptor yL_roomOf.desc).map (fun d => d.parameters.length) = some 4 := by decide +kernel
abbrev rmL_guardsIn : Room := { frames := 8, cells := 2, slots := 12, locals := 133 }
set_option maxHeartbeats 4000000 in
set_option maxRecDepth 100000 in
theorem c_L_guardsIn {E : Ex} {a0 : Nat → Nat} {a1 : Nat → Nat} {q2 : Nat} {h0_1 h0_2 h0_3 h0_4 h0_5 h0_6 h0_7 h0_8 h0_9 : Nat} {x1 : Int32} {x2 : Int32} {v0 : GWV} {v1 : HouseV} {v2 : Nat → Int64} {r : (Int32 × (Nat → Int64))} (hf : L_guardsIn x1 x2 v0 v1 v2 = some r) : CtL E yL_guardsIn wsL_guardsIn rmL_guardsIn [.ref (a0 0), .int x1, .int x2, .ref q2] [wGW E a0 (rf10 (a1 0) h0_1 h0_2 h0_3 h0_4 h0_5 h0_6 h0_7 h0_8 h0_9) v0, wHouse E a1 v1, wLon E q2 v2] (fun rv g => rv = some (.int r.1) ∧ g = [wGW E a0 (rf10 (a1 0) h0_1 h0_2 h0_3 h0_4 h0_5 h0_6 h0_7 h0_8 h0_9) v0, wHouse E a1 v1, wLon E q2 r.2]) := by
  refine ctl_of (own := RL) (by decide +kernel) rfl rfl (Nat.le_of_ble_eq_true rfl) (fun K C L0 => ?_)
  refine ww_sub C (lv' := [(0, .ref (a0 0)), (1, .int x1), (2, .int x2), (3, .ref q2)]) [0, 1, 2, 3] rfl ?_
  rw [L_guardsIn] at hf
  refine ww_aload_n C dL_guardsIn_0 rfl 3 rfl ?_
  refine ww_iconst (v := 0) C dL_guardsIn_1 (by decide) ?_
  refine ww_aload_n C dL_guardsIn_2 rfl 0 rfl ?_
  refine ww_iload_n C dL_guardsIn_3 rfl 1 rfl ?_
  refine ww_iload_n C dL_guardsIn_4 rfl 2 rfl ?_
  obtain ⟨p5, hp5, hf⟩ := bdE hf
  refine ww_callVC C L0 (As := [.int x1, .int x2]) (st := [.int 0, .ref q2]) (gr := [wLon E q2 v2]) (c_X8_guardsIn (E := E) (a0 := a0) (h0_1 := h0_1) (h0_2 := h0_2) (h0_3 := h0_3) (h0_4 := h0_4) (h0_5 := h0_5) (h0_6 := h0_6) (h0_7 := h0_7) (h0_8 := h0_8) (h0_9 := h0_9) (a1 := a1) hp5) gL_guardsIn_X8_guardsIn rfl yk_X8_guardsIn ⟨by decide, by decide⟩ ⟨by decide, by decide⟩ clOK8 0 0 rfl rfl [0, 1] [2] 3 rfl (by decide) rfl rfl (Nat.le_of_ble_eq_true rfl) dL_guardsIn_5 (fun b5 e_u5 q5 => ?_) ?_
  · replace hf := exCe e_u5 hf
    cases b5 with
    | false =>
      replace hf := bfE rfl hf
      refine ww_catch0 C L0 (by decide) (by decide) (by decide +kernel) ?_
      refine ww_astore (lv' := [(4, .ref q5), (0, .ref (a0 0)), (1, .int x1), (2, .int x2), (3, .ref q2)]) C dL_guardsIn_13 (by decide) rfl ?_
      refine ww_iconst (v := 1) C dL_guardsIn_15 (by decide) ?_
      obtain rfl := Option.some.inj hf
      refine ww_widen (k := 2) (n := 12) (by decide) (by decide) ?_
      exact ww_iret C ⟨rfl, rfl⟩ dL_guardsIn_16
    | true =>
      replace hf := btE rfl hf
      refine ww_catch1 C L0 (by decide) (by decide +kernel) (by decide) (by decide) (by decide +kernel) ?_
      refine ww_astore (lv' := [(4, .ref q5), (0, .ref (a0 0)), (1, .int x1), (2, .int x2), (3, .ref q2)]) C dL_guardsIn_17 (by decide) rfl ?_
      refine ww_iconst (v := 2) C dL_guardsIn_19 (by decide) ?_
      obtain rfl := Option.some.inj hf
      refine ww_widen (k := 2) (n := 12) (by decide) (by decide) ?_
      exact ww_iret C ⟨rfl, rfl⟩ dL_guardsIn_20
  · skip
    intro u5 e_u5
    replace hf := exCo e_u5 hf
    rintro _ _ ⟨rfl, rfl⟩
    refine ww_perm (gs' := [wGW E a0 (rf10 (a1 0) h0_1 h0_2 h0_3 h0_4 h0_5 h0_6 h0_7 h0_8 h0_9) v0, wHouse E a1 v1, wLon E q2 v2]) [0, 1, 2] 3 rfl (by decide) rfl ?_
    refine ww_i2l C dL_guardsIn_8 ?_
    obtain ⟨g_1, hf⟩ := gdE hf
    obtain ⟨v2_9, e_v2_9⟩ : ∃ y : Nat → Int64, y = vp_updL v2 (Int32.toNatClampNeg 0) (Int32.toInt64 u5) := ⟨_, rfl⟩
    replace hf := ltE e_v2_9 hf
    refine ww_last C (f := v2) (w := wLon E q2 v2) (w' := wLon E q2 v2_9) (gs' := [wGW E a0 (rf10 (a1 0) h0_1 h0_2 h0_3 h0_4 h0_5 h0_6 h0_7 h0_8 h0_9) v0, wHouse E a1 v1, wLon E q2 v2_9]) 2 0 rfl q_Lon (inB_vp g_1) (by rw [e_v2_9]; exact s_Lon) rfl dL_guardsIn_9 ?_
    refine ww_goto (tgt := 21) C dL_guardsIn_10 (by decide) ?_
    refine ww_iconst (v := 0) C dL_guardsIn_21 (by decide) ?_
    obtain rfl := Option.some.inj hf
    refine ww_widen (k := 2) (n := 12) (by decide) (by decide) ?_
    exact ww_iret C ⟨rfl, rfl⟩ dL_guardsIn_22

theorem ysk_L_guardsIn : yL_guardsIn.cls ≠ "java/lang/invoke/MethodHandle" ∧ yL_guardsIn.cls ≠ "java/lang/invoke/VarHandle" ∧ (parseMethodDescriptor yL_guardsIn.desc).map (fun d => d.parameters.length) = some 4 := by decide +kernel
abbrev rmL_nextSeen : Room := { frames := 8, cells := 2, slots := 12, locals := 136 }
set_option maxHeartbeats 4000000 in
set_option maxRecDepth 100000 in
theorem c_L_nextSeen {E : Ex} {a0 : Nat → Nat} {a1 : Nat → Nat} {q2 : Nat} {h0_1 h0_2 h0_3 h0_4 h0_5 h0_6 h0_7 h0_8 h0_9 : Nat} {x1 : Int32} {x2 : Int32} {v0 : GWV} {v1 : HouseV} {v2 : Nat → Int64} {r : (Int32 × (Nat → Int64))} (hf : L_nextSeen x1 x2 v0 v1 v2 = some r) : CtL E yL_nextSeen wsL_nextSeen rmL_nextSeen [.ref (a0 0), .int x1, .int x2, .ref q2] [wGW E a0 (rf10 (a1 0) h0_1 h0_2 h0_3 h0_4 h0_5 h0_6 h0_7 h0_8 h0_9) v0, wHouse E a1 v1, wLon E q2 v2] (fun rv g => rv = some (.int r.1) ∧ g = [wGW E a0 (rf10 (a1 0) h0_1 h0_2 h0_3 h0_4 h0_5 h0_6 h0_7 h0_8 h0_9) v0, wHouse E a1 v1, wLon E q2 r.2]) := by
  refine ctl_of (own := RL) (by decide +kernel) rfl rfl (Nat.le_of_ble_eq_true rfl) (fun K C L0 => ?_)
  refine ww_sub C (lv' := [(0, .ref (a0 0)), (1, .int x1), (2, .int x2), (3, .ref q2)]) [0, 1, 2, 3] rfl ?_
  rw [L_nextSeen] at hf
  refine ww_aload_n C dL_nextSeen_0 rfl 3 rfl ?_
  refine ww_iconst (v := 0) C dL_nextSeen_1 (by decide) ?_
  refine ww_aload_n C dL_nextSeen_2 rfl 0 rfl ?_
  refine ww_iload_n C dL_nextSeen_3 rfl 1 rfl ?_
  refine ww_iload_n C dL_nextSeen_4 rfl 2 rfl ?_
  obtain ⟨p5, hp5, hf⟩ := bdE hf
  refine ww_callVC C L0 (As := [.int x1, .int x2]) (st := [.int 0, .ref q2]) (gr := [wLon E q2 v2]) (c_X8_nextSeen (E := E) (a0 := a0) (h0_1 := h0_1) (h0_2 := h0_2) (h0_3 := h0_3) (h0_4 := h0_4) (h0_5 := h0_5) (h0_6 := h0_6) (h0_7 := h0_7) (h0_8 := h0_8) (h0_9 := h0_9) (a1 := a1) hp5) gL_nextSeen_X8_nextSeen rfl yk_X8_nextSeen ⟨by decide, by decide⟩ ⟨by decide, by decide⟩ clOK8 0 0 rfl rfl [0, 1] [2] 3 rfl (by decide) rfl rfl (Nat.le_of_ble_eq_true rfl) dL_nextSeen_5 (fun b5 e_u5 q5 => ?_) ?_
  · replace hf := exCe e_u5 hf
    cases b5 with
    | false =>
      replace hf := bfE rfl hf
      refine ww_catch0 C L0 (by decide) (by decide) (by decide +kernel) ?_
      refine ww_astore (lv' := [(4, .ref q5), (0, .ref (a0 0)), (1, .int x1), (2, .int x2), (3, .ref q2)]) C dL_nextSeen_13 (by decide) rfl ?_
      refine ww_iconst (v := 1) C dL_nextSeen_15 (by decide) ?_
      obtain rfl := Option.some.inj hf
      refine ww_widen (k := 2) (n := 12) (by decide) (by decide) ?_
      exact ww_iret C ⟨rfl, rfl⟩ dL_nextSeen_16
    | true =>
      replace hf := btE rfl hf
      refine ww_catch1 C L0 (by decide) (by decide +kernel) (by decide) (by decide) (by decide +kernel) ?_
      refine ww_astore (lv' := [(4, .ref q5), (0, .ref (a0 0)), (1, .int x1), (2, .int x2), (3, .ref q2)]) C dL_nextSeen_17 (by decide) rfl ?_
      refine ww_iconst (v := 2) C dL_nextSeen_19 (by decide) ?_
      obtain rfl := Option.some.inj hf
      refine ww_widen (k := 2) (n := 12) (by decide) (by decide) ?_
      exact ww_iret C ⟨rfl, rfl⟩ dL_nextSeen_20
  · skip
    intro u5 e_u5
    replace hf := exCo e_u5 hf
    rintro _ _ ⟨rfl, rfl⟩
    refine ww_perm (gs' := [wGW E a0 (rf10 (a1 0) h0_1 h0_2 h0_3 h0_4 h0_5 h0_6 h0_7 h0_8 h0_9) v0, wHouse E a1 v1, wLon E q2 v2]) [0, 1, 2] 3 rfl (by decide) rfl ?_
    refine ww_i2l C dL_nextSeen_8 ?_
    obtain ⟨g_1, hf⟩ := gdE hf
    obtain ⟨v2_9, e_v2_9⟩ : ∃ y : Nat → Int64, y = vp_updL v2 (Int32.toNatClampNeg 0) (Int32.toInt64 u5) := ⟨_, rfl⟩
    replace hf := ltE e_v2_9 hf
    refine ww_last C (f := v2) (w := wLon E q2 v2) (w' := wLon E q2 v2_9) (gs' := [wGW E a0 (rf10 (a1 0) h0_1 h0_2 h0_3 h0_4 h0_5 h0_6 h0_7 h0_8 h0_9) v0, wHouse E a1 v1, wLon E q2 v2_9]) 2 0 rfl q_Lon (inB_vp g_1) (by rw [e_v2_9]; exact s_Lon) rfl dL_nextSeen_9 ?_
    refine ww_goto (tgt := 21) C dL_nextSeen_10 (by decide) ?_
    refine ww_iconst (v := 0) C dL_nextSeen_21 (by decide) ?_
    obtain rfl := Option.some.inj hf
    refine ww_widen (k := 2) (n := 12) (by decide) (by decide) ?_
    exact ww_iret C ⟨rfl, rfl⟩ dL_nextSeen_22

theorem ysk_L_nextSeen : yL_nextSeen.cls ≠ "java/lang/invoke/MethodHandle" ∧ yL_nextSeen.cls ≠ "java/lang/invoke/VarHandle" ∧ (parseMethodDescriptor yL_nextSeen.desc).map (fun d => d.parameters.length) = some 4 := by decide +kernel
abbrev rmL_gapFrom : Room := { frames := 8, cells := 1, slots := 6, locals := 132 }
set_option maxHeartbeats 4000000 in
set_option maxRecDepth 100000 in
theorem c_L_gapFrom {E : Ex} {a0 : Nat → Nat} {a1 : Nat → Nat} {a2 : Nat → Nat} {q3 : Nat} {h0_1 h0_2 h0_4 h0_5 h0_6 h0_7 h0_8 h0_9 : Nat} {x1 : Int32} {v0 : GWV} {v1 : HouseV} {v2 : SightV} {v3 : Nat → Int64} {r : (Int32 × SightV × (Nat → Int64))} (hf : L_gapFrom x1 v0 v1 v2 v3 = some r) : CtL E yL_gapFrom wsL_gapFrom rmL_gapFrom [.ref (a0 0), .int x1, .ref q3] [wGW E a0 (rf10 (a1 0) h0_1 h0_2 (a2 0) h0_4 h0_5 h0_6 h0_7 h0_8 h0_9) v0, wHouse E a1 v1, wSight E a2 v2, wLon E q3 v3] (fun rv g => rv = some (.int r.1) ∧ g = [wGW E a0 (rf10 (a1 0) h0_1 h0_2 (a2 0) h0_4 h0_5 h0_6 h0_7 h0_8 h0_9) v0, wHouse E a1 v1, wSight E a2 r.2.1, wLon E q3 r.2.2]) := by
  refine ctl_of (own := RL) (by decide +kernel) rfl rfl (Nat.le_of_ble_eq_true rfl) (fun K C L0 => ?_)
  refine ww_sub C (lv' := [(0, .ref (a0 0)), (1, .int x1), (2, .ref q3)]) [0, 1, 2] rfl ?_
  rw [L_gapFrom] at hf
  refine ww_aload_n C dL_gapFrom_0 rfl 2 rfl ?_
  refine ww_iconst (v := 0) C dL_gapFrom_1 (by decide) ?_
  refine ww_aload_n C dL_gapFrom_2 rfl 0 rfl ?_
  refine ww_iload_n C dL_gapFrom_3 rfl 1 rfl ?_
  obtain ⟨p4, hp4, hf⟩ := bdE hf
  refine ww_callVC C L0 (As := [.int x1]) (st := [.int 0, .ref q3]) (gr := [wLon E q3 v3]) (c_X8_gapFrom (E := E) (a0 := a0) (h0_1 := h0_1) (h0_2 := h0_2) (h0_4 := h0_4) (h0_5 := h0_5) (h0_6 := h0_6) (h0_7 := h0_7) (h0_8 := h0_8) (h0_9 := h0_9) (a1 := a1) (a2 := a2) hp4) gL_gapFrom_X8_gapFrom rfl yk_X8_gapFrom ⟨by decide, by decide⟩ ⟨by decide, by decide⟩ clOK8 0 0 rfl rfl [0, 1, 2] [3] 4 rfl (by decide) rfl rfl (Nat.le_of_ble_eq_true rfl) dL_gapFrom_4 (fun b4 e_u4 q4 => ?_) ?_
  · replace hf := exCe e_u4 hf
    cases b4 with
    | false =>
      replace hf := bfE rfl hf
      refine ww_catch0 C L0 (by decide) (by decide) (by decide +kernel) ?_
      refine ww_astore_n (lv' := [(3, .ref q4), (0, .ref (a0 0)), (1, .int x1), (2, .ref q3)]) C dL_gapFrom_12 rfl (by decide) rfl ?_
      refine ww_iconst (v := 1) C dL_gapFrom_13 (by decide) ?_
      obtain rfl := Option.some.inj hf
      refine ww_widen (k := 1) (n := 6) (by decide) (by decide) ?_
      exact ww_iret C ⟨rfl, rfl⟩ dL_gapFrom_14
    | true =>
      replace hf := btE rfl hf
      cases hf
  · skip
    intro u4 e_u4
    replace hf := exCo e_u4 hf
    rintro _ _ ⟨rfl, rfl⟩
    refine ww_perm (gs' := [wGW E a0 (rf10 (a1 0) h0_1 h0_2 (a2 0) h0_4 h0_5 h0_6 h0_7 h0_8 h0_9) v0, wHouse E a1 v1, wSight E a2 u4.2, wLon E q3 v3]) [0, 1, 2, 3] 4 rfl (by decide) rfl ?_
    refine ww_i2l C dL_gapFrom_7 ?_
    obtain ⟨g_1, hf⟩ := gdE hf
    obtain ⟨v3_8, e_v3_8⟩ : ∃ y : Nat → Int64, y = vp_updL v3 (Int32.toNatClampNeg 0) (Int32.toInt64 u4.1) := ⟨_, rfl⟩
    replace hf := ltE e_v3_8 hf
    refine ww_last C (f := v3) (w := wLon E q3 v3) (w' := wLon E q3 v3_8) (gs' := [wGW E a0 (rf10 (a1 0) h0_1 h0_2 (a2 0) h0_4 h0_5 h0_6 h0_7 h0_8 h0_9) v0, wHouse E a1 v1, wSight E a2 u4.2, wLon E q3 v3_8]) 3 0 rfl q_Lon (inB_vp g_1) (by rw [e_v3_8]; exact s_Lon) rfl dL_gapFrom_8 ?_
    refine ww_goto (tgt := 15) C dL_gapFrom_9 (by decide) ?_
    refine ww_iconst (v := 0) C dL_gapFrom_15 (by decide) ?_
    obtain rfl := Option.some.inj hf
    refine ww_widen (k := 1) (n := 6) (by decide) (by decide) ?_
    exact ww_iret C ⟨rfl, rfl⟩ dL_gapFrom_16

theorem ysk_L_gapFrom : yL_gapFrom.cls ≠ "java/lang/invoke/MethodHandle" ∧ yL_gapFrom.cls ≠ "java/lang/invoke/VarHandle" ∧ (parseMethodDescriptor yL_gapFrom.desc).map (fun d => d.parameters.length) = some 3 := by decide +kernel
abbrev rmL_isJoined : Room := { frames := 8, cells := 2, slots := 12, locals := 133 }
set_option maxHeartbeats 4000000 in
set_option maxRecDepth 100000 in
theorem c_L_isJoined {E : Ex} {a0 : Nat → Nat} {a1 : Nat → Nat} {q2 : Nat} {h0_1 h0_2 h0_3 h0_4 h0_5 h0_6 h0_7 h0_8 h0_9 : Nat} {x1 : Int32} {x2 : Int32} {v0 : GWV} {v1 : HouseV} {v2 : Nat → Int64} {r : (Int32 × (Nat → Int64))} (hf : L_isJoined x1 x2 v0 v1 v2 = some r) : CtL E yL_isJoined wsL_isJoined rmL_isJoined [.ref (a0 0), .int x1, .int x2, .ref q2] [wGW E a0 (rf10 (a1 0) h0_1 h0_2 h0_3 h0_4 h0_5 h0_6 h0_7 h0_8 h0_9) v0, wHouse E a1 v1, wLon E q2 v2] (fun rv g => rv = some (.int r.1) ∧ g = [wGW E a0 (rf10 (a1 0) h0_1 h0_2 h0_3 h0_4 h0_5 h0_6 h0_7 h0_8 h0_9) v0, wHouse E a1 v1, wLon E q2 r.2]) := by
  refine ctl_of (own := RL) (by decide +kernel) rfl rfl (Nat.le_of_ble_eq_true rfl) (fun K C L0 => ?_)
  refine ww_sub C (lv' := [(0, .ref (a0 0)), (1, .int x1), (2, .int x2), (3, .ref q2)]) [0, 1, 2, 3] rfl ?_
  rw [L_isJoined] at hf
  refine ww_aload_n C dL_isJoined_0 rfl 3 rfl ?_
  refine ww_iconst (v := 0) C dL_isJoined_1 (by decide) ?_
  refine ww_aload_n C dL_isJoined_2 rfl 0 rfl ?_
  refine ww_iload_n C dL_isJoined_3 rfl 1 rfl ?_
  refine ww_iload_n C dL_isJoined_4 rfl 2 rfl ?_
  obtain ⟨p5, hp5, hf⟩ := bdE hf
  refine ww_callVC C L0 (As := [.int x1, .int x2]) (st := [.int 0, .ref q2]) (gr := [wLon E q2 v2]) (c_X8_isJoined (E := E) (a0 := a0) (h0_1 := h0_1) (h0_2 := h0_2) (h0_3 := h0_3) (h0_4 := h0_4) (h0_5 := h0_5) (h0_6 := h0_6) (h0_7 := h0_7) (h0_8 := h0_8) (h0_9 := h0_9) (a1 := a1) hp5) gL_isJoined_X8_isJoined rfl yk_X8_isJoined ⟨by decide, by decide⟩ ⟨by decide, by decide⟩ clOK8 0 0 rfl rfl [0, 1] [2] 3 rfl (by decide) rfl rfl (Nat.le_of_ble_eq_true rfl) dL_isJoined_5 (fun b5 e_u5 q5 => ?_) ?_
  · replace hf := exCe e_u5 hf
    cases b5 with
    | false =>
      replace hf := bfE rfl hf
      refine ww_catch0 C L0 (by decide) (by decide) (by decide +kernel) ?_
      refine ww_astore (lv' := [(4, .ref q5), (0, .ref (a0 0)), (1, .int x1), (2, .int x2), (3, .ref q2)]) C dL_isJoined_20 (by decide) rfl ?_
      refine ww_iconst (v := 1) C dL_isJoined_22 (by decide) ?_
      obtain rfl := Option.some.inj hf
      refine ww_widen (k := 2) (n := 12) (by decide) (by decide) ?_
      exact ww_iret C ⟨rfl, rfl⟩ dL_isJoined_23
    | true =>
      replace hf := btE rfl hf
      cases hf
  · skip
    intro u5 e_u5
    replace hf := exCo e_u5 hf
    rintro _ _ ⟨rfl, rfl⟩
    refine ww_perm (gs' := [wGW E a0 (rf10 (a1 0) h0_1 h0_2 h0_3 h0_4 h0_5 h0_6 h0_7 h0_8 h0_9) v0, wHouse E a1 v1, wLon E q2 v2]) [0, 1, 2] 3 rfl (by decide) rfl ?_
    refine ww_if_eqB (tgt := 15) C dL_isJoined_8 (by decide) (fun c_1 => ?_) (fun c_1 => ?_)
    · replace hf := bfE c_1 hf
      refine ww_lconst (v := 0) C dL_isJoined_15 (by decide) ?_
      obtain ⟨g_2, hf⟩ := gdE hf
      obtain ⟨v2_16, e_v2_16⟩ : ∃ y : Nat → Int64, y = vp_updL v2 (Int32.toNatClampNeg 0) 0 := ⟨_, rfl⟩
      replace hf := ltE e_v2_16 hf
      refine ww_last C (f := v2) (w := wLon E q2 v2) (w' := wLon E q2 v2_16) (gs' := [wGW E a0 (rf10 (a1 0) h0_1 h0_2 h0_3 h0_4 h0_5 h0_6 h0_7 h0_8 h0_9) v0, wHouse E a1 v1, wLon E q2 v2_16]) 2 0 rfl q_Lon (inB_vp g_2) (by rw [e_v2_16]; exact s_Lon) rfl dL_isJoined_16 ?_
      refine ww_goto (tgt := 24) C dL_isJoined_17 (by decide) ?_
      refine ww_iconst (v := 0) C dL_isJoined_24 (by decide) ?_
      obtain rfl := Option.some.inj hf
      refine ww_widen (k := 2) (n := 12) (by decide) (by decide) ?_
      exact ww_iret C ⟨rfl, rfl⟩ dL_isJoined_25
    · replace hf := btE c_1 hf
      refine ww_lconst (v := 1) C dL_isJoined_11 (by decide) ?_
      refine ww_goto (tgt := 16) C dL_isJoined_12 (by decide) ?_
      obtain ⟨g_3, hf⟩ := gdE hf
      obtain ⟨v2_16, e_v2_16⟩ : ∃ y : Nat → Int64, y = vp_updL v2 (Int32.toNatClampNeg 0) 1 := ⟨_, rfl⟩
      replace hf := ltE e_v2_16 hf
      refine ww_last C (f := v2) (w := wLon E q2 v2) (w' := wLon E q2 v2_16) (gs' := [wGW E a0 (rf10 (a1 0) h0_1 h0_2 h0_3 h0_4 h0_5 h0_6 h0_7 h0_8 h0_9) v0, wHouse E a1 v1, wLon E q2 v2_16]) 2 0 rfl q_Lon (inB_vp g_3) (by rw [e_v2_16]; exact s_Lon) rfl dL_isJoined_16 ?_
      refine ww_goto (tgt := 24) C dL_isJoined_17 (by decide) ?_
      refine ww_iconst (v := 0) C dL_isJoined_24 (by decide) ?_
      obtain rfl := Option.some.inj hf
      refine ww_widen (k := 2) (n := 12) (by decide) (by decide) ?_
      exact ww_iret C ⟨rfl, rfl⟩ dL_isJoined_25

theorem ysk_L_isJoined : yL_isJoined.cls ≠ "java/lang/invoke/MethodHandle" ∧ yL_isJoined.cls ≠ "java/lang/invoke/VarHandle" ∧ (parseMethodDescriptor yL_isJoined.desc).map (fun d => d.parameters.length) = some 4 := by decide +kernel
abbrev rmL_distance : Room := { frames := 8, cells := 2, slots := 12, locals := 133 }
set_option maxHeartbeats 4000000 in
set_option maxRecDepth 100000 in
theorem c_L_distance {E : Ex} {a0 : Nat → Nat} {a1 : Nat → Nat} {q2 : Nat} {h0_1 h0_2 h0_3 h0_4 h0_5 h0_6 h0_7 h0_8 h0_9 : Nat} {x1 : Int32} {x2 : Int32} {v0 : GWV} {v1 : HouseV} {v2 : Nat → Int64} {r : (Int32 × (Nat → Int64))} (hf : L_distance x1 x2 v0 v1 v2 = some r) : CtL E yL_distance wsL_distance rmL_distance [.ref (a0 0), .int x1, .int x2, .ref q2] [wGW E a0 (rf10 (a1 0) h0_1 h0_2 h0_3 h0_4 h0_5 h0_6 h0_7 h0_8 h0_9) v0, wHouse E a1 v1, wLon E q2 v2] (fun rv g => rv = some (.int r.1) ∧ g = [wGW E a0 (rf10 (a1 0) h0_1 h0_2 h0_3 h0_4 h0_5 h0_6 h0_7 h0_8 h0_9) v0, wHouse E a1 v1, wLon E q2 r.2]) := by
  refine ctl_of (own := RL) (by decide +kernel) rfl rfl (Nat.le_of_ble_eq_true rfl) (fun K C L0 => ?_)
  refine ww_sub C (lv' := [(0, .ref (a0 0)), (1, .int x1), (2, .int x2), (3, .ref q2)]) [0, 1, 2, 3] rfl ?_
  rw [L_distance] at hf
  refine ww_aload_n C dL_distance_0 rfl 3 rfl ?_
  refine ww_iconst (v := 0) C dL_distance_1 (by decide) ?_
  refine ww_aload_n C dL_distance_2 rfl 0 rfl ?_
  refine ww_iload_n C dL_distance_3 rfl 1 rfl ?_
  refine ww_iload_n C dL_distance_4 rfl 2 rfl ?_
  obtain ⟨p5, hp5, hf⟩ := bdE hf
  refine ww_callVC C L0 (As := [.int x1, .int x2]) (st := [.int 0, .ref q2]) (gr := [wLon E q2 v2]) (c_X8_distance (E := E) (a0 := a0) (h0_1 := h0_1) (h0_2 := h0_2) (h0_3 := h0_3) (h0_4 := h0_4) (h0_5 := h0_5) (h0_6 := h0_6) (h0_7 := h0_7) (h0_8 := h0_8) (h0_9 := h0_9) (a1 := a1) hp5) gL_distance_X8_distance rfl yk_X8_distance ⟨by decide, by decide⟩ ⟨by decide, by decide⟩ clOK8 0 0 rfl rfl [0, 1] [2] 3 rfl (by decide) rfl rfl (Nat.le_of_ble_eq_true rfl) dL_distance_5 (fun b5 e_u5 q5 => ?_) ?_
  · replace hf := exCe e_u5 hf
    cases b5 with
    | false =>
      replace hf := bfE rfl hf
      refine ww_catch0 C L0 (by decide) (by decide) (by decide +kernel) ?_
      refine ww_astore (lv' := [(4, .ref q5), (0, .ref (a0 0)), (1, .int x1), (2, .int x2), (3, .ref q2)]) C dL_distance_13 (by decide) rfl ?_
      refine ww_iconst (v := 1) C dL_distance_15 (by decide) ?_
      obtain rfl := Option.some.inj hf
      refine ww_widen (k := 2) (n := 12) (by decide) (by decide) ?_
      exact ww_iret C ⟨rfl, rfl⟩ dL_distance_16
    | true =>
      replace hf := btE rfl hf
      cases hf
  · skip
    intro u5 e_u5
    replace hf := exCo e_u5 hf
    rintro _ _ ⟨rfl, rfl⟩
    refine ww_perm (gs' := [wGW E a0 (rf10 (a1 0) h0_1 h0_2 h0_3 h0_4 h0_5 h0_6 h0_7 h0_8 h0_9) v0, wHouse E a1 v1, wLon E q2 v2]) [0, 1, 2] 3 rfl (by decide) rfl ?_
    refine ww_i2l C dL_distance_8 ?_
    obtain ⟨g_1, hf⟩ := gdE hf
    obtain ⟨v2_9, e_v2_9⟩ : ∃ y : Nat → Int64, y = vp_updL v2 (Int32.toNatClampNeg 0) (Int32.toInt64 u5) := ⟨_, rfl⟩
    replace hf := ltE e_v2_9 hf
    refine ww_last C (f := v2) (w := wLon E q2 v2) (w' := wLon E q2 v2_9) (gs' := [wGW E a0 (rf10 (a1 0) h0_1 h0_2 h0_3 h0_4 h0_5 h0_6 h0_7 h0_8 h0_9) v0, wHouse E a1 v1, wLon E q2 v2_9]) 2 0 rfl q_Lon (inB_vp g_1) (by rw [e_v2_9]; exact s_Lon) rfl dL_distance_9 ?_
    refine ww_goto (tgt := 17) C dL_distance_10 (by decide) ?_
    refine ww_iconst (v := 0) C dL_distance_17 (by decide) ?_
    obtain rfl := Option.some.inj hf
    refine ww_widen (k := 2) (n := 12) (by decide) (by decide) ?_
    exact ww_iret C ⟨rfl, rfl⟩ dL_distance_18

theorem ysk_L_distance : yL_distance.cls ≠ "java/lang/invoke/MethodHandle" ∧ yL_distance.cls ≠ "java/lang/invoke/VarHandle" ∧ (parseMethodDescriptor yL_distance.desc).map (fun d => d.parameters.length) = some 4 := by decide +kernel
abbrev rmL_meetings : Room := { frames := 8, cells := 2, slots := 12, locals := 133 }
set_option maxHeartbeats 4000000 in
set_option maxRecDepth 100000 in
theorem c_L_meetings {E : Ex} {a0 : Nat → Nat} {a1 : Nat → Nat} {q2 : Nat} {h0_1 h0_2 h0_3 h0_4 h0_5 h0_6 h0_7 h0_8 h0_9 : Nat} {x1 : Int32} {x2 : Int32} {v0 : GWV} {v1 : HouseV} {v2 : Nat → Int64} {r : (Int32 × (Nat → Int64))} (hf : L_meetings x1 x2 v0 v1 v2 = some r) : CtL E yL_meetings wsL_meetings rmL_meetings [.ref (a0 0), .int x1, .int x2, .ref q2] [wGW E a0 (rf10 (a1 0) h0_1 h0_2 h0_3 h0_4 h0_5 h0_6 h0_7 h0_8 h0_9) v0, wHouse E a1 v1, wLon E q2 v2] (fun rv g => rv = some (.int r.1) ∧ g = [wGW E a0 (rf10 (a1 0) h0_1 h0_2 h0_3 h0_4 h0_5 h0_6 h0_7 h0_8 h0_9) v0, wHouse E a1 v1, wLon E q2 r.2]) := by
  refine ctl_of (own := RL) (by decide +kernel) rfl rfl (Nat.le_of_ble_eq_true rfl) (fun K C L0 => ?_)
  refine ww_sub C (lv' := [(0, .ref (a0 0)), (1, .int x1), (2, .int x2), (3, .ref q2)]) [0, 1, 2, 3] rfl ?_
  rw [L_meetings] at hf
  refine ww_aload_n C dL_meetings_0 rfl 3 rfl ?_
  refine ww_iconst (v := 0) C dL_meetings_1 (by decide) ?_
  refine ww_aload_n C dL_meetings_2 rfl 0 rfl ?_
  refine ww_iload_n C dL_meetings_3 rfl 1 rfl ?_
  refine ww_iload_n C dL_meetings_4 rfl 2 rfl ?_
  obtain ⟨p5, hp5, hf⟩ := bdE hf
  refine ww_callVC C L0 (As := [.int x1, .int x2]) (st := [.int 0, .ref q2]) (gr := [wLon E q2 v2]) (c_X8_meetings (E := E) (a0 := a0) (h0_1 := h0_1) (h0_2 := h0_2) (h0_3 := h0_3) (h0_4 := h0_4) (h0_5 := h0_5) (h0_6 := h0_6) (h0_7 := h0_7) (h0_8 := h0_8) (h0_9 := h0_9) (a1 := a1) hp5) gL_meetings_X8_meetings rfl yk_X8_meetings ⟨by decide, by decide⟩ ⟨by decide, by decide⟩ clOK8 0 0 rfl rfl [0, 1] [2] 3 rfl (by decide) rfl rfl (Nat.le_of_ble_eq_true rfl) dL_meetings_5 (fun b5 e_u5 q5 => ?_) ?_
  · replace hf := exCe e_u5 hf
    cases b5 with
    | false =>
      replace hf := bfE rfl hf
      refine ww_catch0 C L0 (by decide) (by decide) (by decide +kernel) ?_
      refine ww_astore (lv' := [(4, .ref q5), (0, .ref (a0 0)), (1, .int x1), (2, .int x2), (3, .ref q2)]) C dL_meetings_13 (by decide) rfl ?_
      refine ww_iconst (v := 1) C dL_meetings_15 (by decide) ?_
      obtain rfl := Option.some.inj hf
      refine ww_widen (k := 2) (n := 12) (by decide) (by decide) ?_
      exact ww_iret C ⟨rfl, rfl⟩ dL_meetings_16
    | true =>
      replace hf := btE rfl hf
      cases hf
  · skip
    intro u5 e_u5
    replace hf := exCo e_u5 hf
    rintro _ _ ⟨rfl, rfl⟩
    refine ww_perm (gs' := [wGW E a0 (rf10 (a1 0) h0_1 h0_2 h0_3 h0_4 h0_5 h0_6 h0_7 h0_8 h0_9) v0, wHouse E a1 v1, wLon E q2 v2]) [0, 1, 2] 3 rfl (by decide) rfl ?_
    refine ww_i2l C dL_meetings_8 ?_
    obtain ⟨g_1, hf⟩ := gdE hf
    obtain ⟨v2_9, e_v2_9⟩ : ∃ y : Nat → Int64, y = vp_updL v2 (Int32.toNatClampNeg 0) (Int32.toInt64 u5) := ⟨_, rfl⟩
    replace hf := ltE e_v2_9 hf
    refine ww_last C (f := v2) (w := wLon E q2 v2) (w' := wLon E q2 v2_9) (gs' := [wGW E a0 (rf10 (a1 0) h0_1 h0_2 h0_3 h0_4 h0_5 h0_6 h0_7 h0_8 h0_9) v0, wHouse E a1 v1, wLon E q2 v2_9]) 2 0 rfl q_Lon (inB_vp g_1) (by rw [e_v2_9]; exact s_Lon) rfl dL_meetings_9 ?_
    refine ww_goto (tgt := 17) C dL_meetings_10 (by decide) ?_
    refine ww_iconst (v := 0) C dL_meetings_17 (by decide) ?_
    obtain rfl := Option.some.inj hf
    refine ww_widen (k := 2) (n := 12) (by decide) (by decide) ?_
    exact ww_iret C ⟨rfl, rfl⟩ dL_meetings_18

theorem ysk_L_meetings : yL_meetings.cls ≠ "java/lang/invoke/MethodHandle" ∧ yL_meetings.cls ≠ "java/lang/invoke/VarHandle" ∧ (parseMethodDescriptor yL_meetings.desc).map (fun d => d.parameters.length) = some 4 := by decide +kernel
abbrev rmL_passings : Room := { frames := 8, cells := 2, slots := 12, locals := 133 }
set_option maxHeartbeats 4000000 in
set_option maxRecDepth 100000 in
theorem c_L_passings {E : Ex} {a0 : Nat → Nat} {a1 : Nat → Nat} {q2 : Nat} {h0_1 h0_2 h0_3 h0_4 h0_5 h0_6 h0_7 h0_8 h0_9 : Nat} {x1 : Int32} {x2 : Int32} {v0 : GWV} {v1 : HouseV} {v2 : Nat → Int64} {r : (Int32 × (Nat → Int64))} (hf : L_passings x1 x2 v0 v1 v2 = some r) : CtL E yL_passings wsL_passings rmL_passings [.ref (a0 0), .int x1, .int x2, .ref q2] [wGW E a0 (rf10 (a1 0) h0_1 h0_2 h0_3 h0_4 h0_5 h0_6 h0_7 h0_8 h0_9) v0, wHouse E a1 v1, wLon E q2 v2] (fun rv g => rv = some (.int r.1) ∧ g = [wGW E a0 (rf10 (a1 0) h0_1 h0_2 h0_3 h0_4 h0_5 h0_6 h0_7 h0_8 h0_9) v0, wHouse E a1 v1, wLon E q2 r.2]) := by
  refine ctl_of (own := RL) (by decide +kernel) rfl rfl (Nat.le_of_ble_eq_true rfl) (fun K C L0 => ?_)
  refine ww_sub C (lv' := [(0, .ref (a0 0)), (1, .int x1), (2, .int x2), (3, .ref q2)]) [0, 1, 2, 3] rfl ?_
  rw [L_passings] at hf
  refine ww_aload_n C dL_passings_0 rfl 3 rfl ?_
  refine ww_iconst (v := 0) C dL_passings_1 (by decide) ?_
  refine ww_aload_n C dL_passings_2 rfl 0 rfl ?_
  refine ww_iload_n C dL_passings_3 rfl 1 rfl ?_
  refine ww_iload_n C dL_passings_4 rfl 2 rfl ?_
  obtain ⟨p5, hp5, hf⟩ := bdE hf
  refine ww_callVC C L0 (As := [.int x1, .int x2]) (st := [.int 0, .ref q2]) (gr := [wLon E q2 v2]) (c_X8_passings (E := E) (a0 := a0) (h0_1 := h0_1) (h0_2 := h0_2) (h0_3 := h0_3) (h0_4 := h0_4) (h0_5 := h0_5) (h0_6 := h0_6) (h0_7 := h0_7) (h0_8 := h0_8) (h0_9 := h0_9) (a1 := a1) hp5) gL_passings_X8_passings rfl yk_X8_passings ⟨by decide, by decide⟩ ⟨by decide, by decide⟩ clOK8 0 0 rfl rfl [0, 1] [2] 3 rfl (by decide) rfl rfl (Nat.le_of_ble_eq_true rfl) dL_passings_5 (fun b5 e_u5 q5 => ?_) ?_
  · replace hf := exCe e_u5 hf
    cases b5 with
    | false =>
      replace hf := bfE rfl hf
      refine ww_catch0 C L0 (by decide) (by decide) (by decide +kernel) ?_
      refine ww_astore (lv' := [(4, .ref q5), (0, .ref (a0 0)), (1, .int x1), (2, .int x2), (3, .ref q2)]) C dL_passings_13 (by decide) rfl ?_
      refine ww_iconst (v := 1) C dL_passings_15 (by decide) ?_
      obtain rfl := Option.some.inj hf
      refine ww_widen (k := 2) (n := 12) (by decide) (by decide) ?_
      exact ww_iret C ⟨rfl, rfl⟩ dL_passings_16
    | true =>
      replace hf := btE rfl hf
      cases hf
  · skip
    intro u5 e_u5
    replace hf := exCo e_u5 hf
    rintro _ _ ⟨rfl, rfl⟩
    refine ww_perm (gs' := [wGW E a0 (rf10 (a1 0) h0_1 h0_2 h0_3 h0_4 h0_5 h0_6 h0_7 h0_8 h0_9) v0, wHouse E a1 v1, wLon E q2 v2]) [0, 1, 2] 3 rfl (by decide) rfl ?_
    refine ww_i2l C dL_passings_8 ?_
    obtain ⟨g_1, hf⟩ := gdE hf
    obtain ⟨v2_9, e_v2_9⟩ : ∃ y : Nat → Int64, y = vp_updL v2 (Int32.toNatClampNeg 0) (Int32.toInt64 u5) := ⟨_, rfl⟩
    replace hf := ltE e_v2_9 hf
    refine ww_last C (f := v2) (w := wLon E q2 v2) (w' := wLon E q2 v2_9) (gs' := [wGW E a0 (rf10 (a1 0) h0_1 h0_2 h0_3 h0_4 h0_5 h0_6 h0_7 h0_8 h0_9) v0, wHouse E a1 v1, wLon E q2 v2_9]) 2 0 rfl q_Lon (inB_vp g_1) (by rw [e_v2_9]; exact s_Lon) rfl dL_passings_9 ?_
    refine ww_goto (tgt := 17) C dL_passings_10 (by decide) ?_
    refine ww_iconst (v := 0) C dL_passings_17 (by decide) ?_
    obtain rfl := Option.some.inj hf
    refine ww_widen (k := 2) (n := 12) (by decide) (by decide) ?_
    exact ww_iret C ⟨rfl, rfl⟩ dL_passings_18

theorem ysk_L_passings : yL_passings.cls ≠ "java/lang/invoke/MethodHandle" ∧ yL_passings.cls ≠ "java/lang/invoke/VarHandle" ∧ (parseMethodDescriptor yL_passings.desc).map (fun d => d.parameters.length) = some 4 := by decide +kernel
abbrev rmL_nextMeeting : Room := { frames := 8, cells := 3, slots := 18, locals := 137 }
set_option maxHeartbeats 4000000 in
set_option maxRecDepth 100000 in
theorem c_L_nextMeeting {E : Ex} {a0 : Nat → Nat} {a1 : Nat → Nat} {q2 : Nat} {h0_1 h0_2 h0_3 h0_4 h0_5 h0_6 h0_7 h0_8 h0_9 : Nat} {x1 : Int32} {x2 : Int32} {x3 : Int32} {v0 : GWV} {v1 : HouseV} {v2 : Nat → Int64} {r : (Int32 × (Nat → Int64))} (hf : L_nextMeeting x1 x2 x3 v0 v1 v2 = some r) : CtL E yL_nextMeeting wsL_nextMeeting rmL_nextMeeting [.ref (a0 0), .int x1, .int x2, .int x3, .ref q2] [wGW E a0 (rf10 (a1 0) h0_1 h0_2 h0_3 h0_4 h0_5 h0_6 h0_7 h0_8 h0_9) v0, wHouse E a1 v1, wLon E q2 v2] (fun rv g => rv = some (.int r.1) ∧ g = [wGW E a0 (rf10 (a1 0) h0_1 h0_2 h0_3 h0_4 h0_5 h0_6 h0_7 h0_8 h0_9) v0, wHouse E a1 v1, wLon E q2 r.2]) := by
  refine ctl_of (own := RL) (by decide +kernel) rfl rfl (Nat.le_of_ble_eq_true rfl) (fun K C L0 => ?_)
  refine ww_sub C (lv' := [(0, .ref (a0 0)), (1, .int x1), (2, .int x2), (3, .int x3), (4, .ref q2)]) [0, 1, 2, 3, 4] rfl ?_
  rw [L_nextMeeting] at hf
  refine ww_aload C dL_nextMeeting_0 4 rfl ?_
  refine ww_iconst (v := 0) C dL_nextMeeting_2 (by decide) ?_
  refine ww_aload_n C dL_nextMeeting_3 rfl 0 rfl ?_
  refine ww_iload_n C dL_nextMeeting_4 rfl 1 rfl ?_
  refine ww_iload_n C dL_nextMeeting_5 rfl 2 rfl ?_
  refine ww_iload_n C dL_nextMeeting_6 rfl 3 rfl ?_
  obtain ⟨p7, hp7, hf⟩ := bdE hf
  refine ww_callVC C L0 (As := [.int x1, .int x2, .int x3]) (st := [.int 0, .ref q2]) (gr := [wLon E q2 v2]) (c_X8_nextMeeting (E := E) (a0 := a0) (h0_1 := h0_1) (h0_2 := h0_2) (h0_3 := h0_3) (h0_4 := h0_4) (h0_5 := h0_5) (h0_6 := h0_6) (h0_7 := h0_7) (h0_8 := h0_8) (h0_9 := h0_9) (a1 := a1) hp7) gL_nextMeeting_X8_nextMeeting rfl yk_X8_nextMeeting ⟨by decide, by decide⟩ ⟨by decide, by decide⟩ clOK8 0 0 rfl rfl [0, 1] [2] 3 rfl (by decide) rfl rfl (Nat.le_of_ble_eq_true rfl) dL_nextMeeting_7 (fun b7 e_u7 q7 => ?_) ?_
  · replace hf := exCe e_u7 hf
    cases b7 with
    | false =>
      replace hf := bfE rfl hf
      refine ww_catch0 C L0 (by decide) (by decide) (by decide +kernel) ?_
      refine ww_astore (lv' := [(5, .ref q7), (0, .ref (a0 0)), (1, .int x1), (2, .int x2), (3, .int x3), (4, .ref q2)]) C dL_nextMeeting_15 (by decide) rfl ?_
      refine ww_iconst (v := 1) C dL_nextMeeting_17 (by decide) ?_
      obtain rfl := Option.some.inj hf
      refine ww_widen (k := 3) (n := 18) (by decide) (by decide) ?_
      exact ww_iret C ⟨rfl, rfl⟩ dL_nextMeeting_18
    | true =>
      replace hf := btE rfl hf
      refine ww_catch1 C L0 (by decide) (by decide +kernel) (by decide) (by decide) (by decide +kernel) ?_
      refine ww_astore (lv' := [(5, .ref q7), (0, .ref (a0 0)), (1, .int x1), (2, .int x2), (3, .int x3), (4, .ref q2)]) C dL_nextMeeting_19 (by decide) rfl ?_
      refine ww_iconst (v := 2) C dL_nextMeeting_21 (by decide) ?_
      obtain rfl := Option.some.inj hf
      refine ww_widen (k := 3) (n := 18) (by decide) (by decide) ?_
      exact ww_iret C ⟨rfl, rfl⟩ dL_nextMeeting_22
  · skip
    intro u7 e_u7
    replace hf := exCo e_u7 hf
    rintro _ _ ⟨rfl, rfl⟩
    refine ww_perm (gs' := [wGW E a0 (rf10 (a1 0) h0_1 h0_2 h0_3 h0_4 h0_5 h0_6 h0_7 h0_8 h0_9) v0, wHouse E a1 v1, wLon E q2 v2]) [0, 1, 2] 3 rfl (by decide) rfl ?_
    refine ww_i2l C dL_nextMeeting_10 ?_
    obtain ⟨g_1, hf⟩ := gdE hf
    obtain ⟨v2_11, e_v2_11⟩ : ∃ y : Nat → Int64, y = vp_updL v2 (Int32.toNatClampNeg 0) (Int32.toInt64 u7) := ⟨_, rfl⟩
    replace hf := ltE e_v2_11 hf
    refine ww_last C (f := v2) (w := wLon E q2 v2) (w' := wLon E q2 v2_11) (gs' := [wGW E a0 (rf10 (a1 0) h0_1 h0_2 h0_3 h0_4 h0_5 h0_6 h0_7 h0_8 h0_9) v0, wHouse E a1 v1, wLon E q2 v2_11]) 2 0 rfl q_Lon (inB_vp g_1) (by rw [e_v2_11]; exact s_Lon) rfl dL_nextMeeting_11 ?_
    refine ww_goto (tgt := 23) C dL_nextMeeting_12 (by decide) ?_
    refine ww_iconst (v := 0) C dL_nextMeeting_23 (by decide) ?_
    obtain rfl := Option.some.inj hf
    refine ww_widen (k := 3) (n := 18) (by decide) (by decide) ?_
    exact ww_iret C ⟨rfl, rfl⟩ dL_nextMeeting_24

theorem ysk_L_nextMeeting : yL_nextMeeting.cls ≠ "java/lang/invoke/MethodHandle" ∧ yL_nextMeeting.cls ≠ "java/lang/invoke/VarHandle" ∧ (parseMethodDescriptor yL_nextMeeting.desc).map (fun d => d.parameters.length) = some 5 := by decide +kernel
abbrev rmL_worstWith : Room := { frames := 8, cells := 2, slots := 12, locals := 134 }
set_option maxHeartbeats 4000000 in
set_option maxRecDepth 100000 in
theorem c_L_worstWith {E : Ex} {a0 : Nat → Nat} {a1 : Nat → Nat} {a2 : Nat → Nat} {a3 : Nat → Nat} {q4 : Nat} {h0_2 h0_3 h0_5 h0_6 h0_7 h0_8 h0_9 : Nat} {x1 : Int32} {x2 : Int32} {v0 : GWV} {v1 : HouseV} {v2 : HouseV} {v3 : SightV} {v4 : Nat → Int64} {r : (Int32 × HouseV × SightV × (Nat → Int64))} (hf : L_worstWith x1 x2 v0 v1 v2 v3 v4 = some r) : CtL E yL_worstWith wsL_worstWith rmL_worstWith [.ref (a0 0), .int x1, .int x2, .ref q4] [wGW E a0 (rf10 (a1 0) (a2 0) h0_2 h0_3 (a3 0) h0_5 h0_6 h0_7 h0_8 h0_9) v0, wHouse E a1 v1, wHouse E a2 v2, wSight E a3 v3, wLon E q4 v4] (fun rv g => rv = some (.int r.1) ∧ g = [wGW E a0 (rf10 (a1 0) (a2 0) h0_2 h0_3 (a3 0) h0_5 h0_6 h0_7 h0_8 h0_9) v0, wHouse E a1 v1, wHouse E a2 r.2.1, wSight E a3 r.2.2.1, wLon E q4 r.2.2.2]) := by
  refine ctl_of (own := RL) (by decide +kernel) rfl rfl (Nat.le_of_ble_eq_true rfl) (fun K C L0 => ?_)
  refine ww_sub C (lv' := [(0, .ref (a0 0)), (1, .int x1), (2, .int x2), (3, .ref q4)]) [0, 1, 2, 3] rfl ?_
  rw [L_worstWith] at hf
  refine ww_aload_n C dL_worstWith_0 rfl 3 rfl ?_
  refine ww_iconst (v := 0) C dL_worstWith_1 (by decide) ?_
  refine ww_aload_n C dL_worstWith_2 rfl 0 rfl ?_
  refine ww_iload_n C dL_worstWith_3 rfl 1 rfl ?_
  refine ww_iload_n C dL_worstWith_4 rfl 2 rfl ?_
  obtain ⟨p5, hp5, hf⟩ := bdE hf
  refine ww_callVC C L0 (As := [.int x1, .int x2]) (st := [.int 0, .ref q4]) (gr := [wLon E q4 v4]) (c_X8_worstWith (E := E) (a0 := a0) (h0_2 := h0_2) (h0_3 := h0_3) (h0_5 := h0_5) (h0_6 := h0_6) (h0_7 := h0_7) (h0_8 := h0_8) (h0_9 := h0_9) (a1 := a1) (a2 := a2) (a3 := a3) hp5) gL_worstWith_X8_worstWith rfl yk_X8_worstWith ⟨by decide, by decide⟩ ⟨by decide, by decide⟩ clOK8 0 0 rfl rfl [0, 1, 2, 3] [4] 5 rfl (by decide) rfl rfl (Nat.le_of_ble_eq_true rfl) dL_worstWith_5 (fun b5 e_u5 q5 => ?_) ?_
  · replace hf := exCe e_u5 hf
    cases b5 with
    | false =>
      replace hf := bfE rfl hf
      refine ww_catch0 C L0 (by decide) (by decide) (by decide +kernel) ?_
      refine ww_astore (lv' := [(4, .ref q5), (0, .ref (a0 0)), (1, .int x1), (2, .int x2), (3, .ref q4)]) C dL_worstWith_13 (by decide) rfl ?_
      refine ww_iconst (v := 1) C dL_worstWith_15 (by decide) ?_
      obtain rfl := Option.some.inj hf
      refine ww_widen (k := 2) (n := 12) (by decide) (by decide) ?_
      exact ww_iret C ⟨rfl, rfl⟩ dL_worstWith_16
    | true =>
      replace hf := btE rfl hf
      refine ww_catch1 C L0 (by decide) (by decide +kernel) (by decide) (by decide) (by decide +kernel) ?_
      refine ww_astore (lv' := [(4, .ref q5), (0, .ref (a0 0)), (1, .int x1), (2, .int x2), (3, .ref q4)]) C dL_worstWith_17 (by decide) rfl ?_
      refine ww_iconst (v := 2) C dL_worstWith_19 (by decide) ?_
      obtain rfl := Option.some.inj hf
      refine ww_widen (k := 2) (n := 12) (by decide) (by decide) ?_
      exact ww_iret C ⟨rfl, rfl⟩ dL_worstWith_20
  · skip
    intro u5 e_u5
    replace hf := exCo e_u5 hf
    rintro _ _ ⟨rfl, rfl⟩
    refine ww_perm (gs' := [wGW E a0 (rf10 (a1 0) (a2 0) h0_2 h0_3 (a3 0) h0_5 h0_6 h0_7 h0_8 h0_9) v0, wHouse E a1 v1, wHouse E a2 u5.2.1, wSight E a3 u5.2.2, wLon E q4 v4]) [0, 1, 2, 3, 4] 5 rfl (by decide) rfl ?_
    refine ww_i2l C dL_worstWith_8 ?_
    obtain ⟨g_1, hf⟩ := gdE hf
    obtain ⟨v4_9, e_v4_9⟩ : ∃ y : Nat → Int64, y = vp_updL v4 (Int32.toNatClampNeg 0) (Int32.toInt64 u5.1) := ⟨_, rfl⟩
    replace hf := ltE e_v4_9 hf
    refine ww_last C (f := v4) (w := wLon E q4 v4) (w' := wLon E q4 v4_9) (gs' := [wGW E a0 (rf10 (a1 0) (a2 0) h0_2 h0_3 (a3 0) h0_5 h0_6 h0_7 h0_8 h0_9) v0, wHouse E a1 v1, wHouse E a2 u5.2.1, wSight E a3 u5.2.2, wLon E q4 v4_9]) 4 0 rfl q_Lon (inB_vp g_1) (by rw [e_v4_9]; exact s_Lon) rfl dL_worstWith_9 ?_
    refine ww_goto (tgt := 21) C dL_worstWith_10 (by decide) ?_
    refine ww_iconst (v := 0) C dL_worstWith_21 (by decide) ?_
    obtain rfl := Option.some.inj hf
    refine ww_widen (k := 2) (n := 12) (by decide) (by decide) ?_
    exact ww_iret C ⟨rfl, rfl⟩ dL_worstWith_22

theorem ysk_L_worstWith : yL_worstWith.cls ≠ "java/lang/invoke/MethodHandle" ∧ yL_worstWith.cls ≠ "java/lang/invoke/VarHandle" ∧ (parseMethodDescriptor yL_worstWith.desc).map (fun d => d.parameters.length) = some 4 := by decide +kernel
abbrev rmL_bestPhase : Room := { frames := 8, cells := 1, slots := 6, locals := 184 }
set_option maxHeartbeats 4000000 in
set_option maxRecDepth 100000 in
theorem c_L_bestPhase {E : Ex} {a0 : Nat → Nat} {a1 : Nat → Nat} {a2 : Nat → Nat} {a3 : Nat → Nat} {a4 : Nat → Nat} {q5 : Nat} {h0_1 h0_2 h0_3 h0_4 h0_6 h0_7 h0_8 h0_9 : Nat} {x1 : Int32} {v0 : GWV} {v1 : HouseV} {v2 : BestV} {v3 : HouseV} {v4 : SightV} {v5 : Nat → Int64} {r : (Int32 × BestV × HouseV × SightV × (Nat → Int64))} (hf : L_bestPhase x1 v0 v1 v2 v3 v4 v5 = some r) : CtL E yL_bestPhase wsL_bestPhase rmL_bestPhase [.ref (a0 0), .int x1, .ref q5] [wGW E a0 (rf10 (a1 0) h0_1 h0_2 h0_3 h0_4 (a2 0) h0_6 h0_7 h0_8 h0_9) v0, wHouse E a1 v1, wBest E a2 (rf2 (a3 0) (a4 0)) v2, wHouse E a3 v3, wSight E a4 v4, wLon E q5 v5] (fun rv g => rv = some (.int r.1) ∧ g = [wGW E a0 (rf10 (a1 0) h0_1 h0_2 h0_3 h0_4 (a2 0) h0_6 h0_7 h0_8 h0_9) v0, wHouse E a1 v1, wBest E a2 (rf2 (a3 0) (a4 0)) r.2.1, wHouse E a3 r.2.2.1, wSight E a4 r.2.2.2.1, wLon E q5 r.2.2.2.2]) := by
  refine ctl_of (own := RL) (by decide +kernel) rfl rfl (Nat.le_of_ble_eq_true rfl) (fun K C L0 => ?_)
  refine ww_sub C (lv' := [(0, .ref (a0 0)), (1, .int x1), (2, .ref q5)]) [0, 1, 2] rfl ?_
  rw [L_bestPhase] at hf
  refine ww_aload_n C dL_bestPhase_0 rfl 2 rfl ?_
  refine ww_iconst (v := 0) C dL_bestPhase_1 (by decide) ?_
  refine ww_aload_n C dL_bestPhase_2 rfl 0 rfl ?_
  refine ww_iload_n C dL_bestPhase_3 rfl 1 rfl ?_
  obtain ⟨p4, hp4, hf⟩ := bdE hf
  refine ww_callVC C L0 (As := [.int x1]) (st := [.int 0, .ref q5]) (gr := [wLon E q5 v5]) (c_X8_bestPhase (E := E) (a0 := a0) (h0_1 := h0_1) (h0_2 := h0_2) (h0_3 := h0_3) (h0_4 := h0_4) (h0_6 := h0_6) (h0_7 := h0_7) (h0_8 := h0_8) (h0_9 := h0_9) (a1 := a1) (a2 := a2) (a3 := a3) (a4 := a4) hp4) gL_bestPhase_X8_bestPhase rfl yk_X8_bestPhase ⟨by decide, by decide⟩ ⟨by decide, by decide⟩ clOK8 0 0 rfl rfl [0, 1, 2, 3, 4] [5] 6 rfl (by decide) rfl rfl (Nat.le_of_ble_eq_true rfl) dL_bestPhase_4 (fun b4 e_u4 q4 => ?_) ?_
  · replace hf := exCe e_u4 hf
    cases b4 with
    | false =>
      replace hf := bfE rfl hf
      refine ww_catch0 C L0 (by decide) (by decide) (by decide +kernel) ?_
      refine ww_astore_n (lv' := [(3, .ref q4), (0, .ref (a0 0)), (1, .int x1), (2, .ref q5)]) C dL_bestPhase_12 rfl (by decide) rfl ?_
      refine ww_iconst (v := 1) C dL_bestPhase_13 (by decide) ?_
      obtain rfl := Option.some.inj hf
      refine ww_widen (k := 1) (n := 6) (by decide) (by decide) ?_
      exact ww_iret C ⟨rfl, rfl⟩ dL_bestPhase_14
    | true =>
      replace hf := btE rfl hf
      cases hf
  · skip
    intro u4 e_u4
    replace hf := exCo e_u4 hf
    rintro _ _ ⟨rfl, rfl⟩
    refine ww_perm (gs' := [wGW E a0 (rf10 (a1 0) h0_1 h0_2 h0_3 h0_4 (a2 0) h0_6 h0_7 h0_8 h0_9) v0, wHouse E a1 v1, wBest E a2 (rf2 (a3 0) (a4 0)) u4.2.1, wHouse E a3 u4.2.2.1, wSight E a4 u4.2.2.2, wLon E q5 v5]) [0, 1, 2, 3, 4, 5] 6 rfl (by decide) rfl ?_
    refine ww_i2l C dL_bestPhase_7 ?_
    obtain ⟨g_1, hf⟩ := gdE hf
    obtain ⟨v5_8, e_v5_8⟩ : ∃ y : Nat → Int64, y = vp_updL v5 (Int32.toNatClampNeg 0) (Int32.toInt64 u4.1) := ⟨_, rfl⟩
    replace hf := ltE e_v5_8 hf
    refine ww_last C (f := v5) (w := wLon E q5 v5) (w' := wLon E q5 v5_8) (gs' := [wGW E a0 (rf10 (a1 0) h0_1 h0_2 h0_3 h0_4 (a2 0) h0_6 h0_7 h0_8 h0_9) v0, wHouse E a1 v1, wBest E a2 (rf2 (a3 0) (a4 0)) u4.2.1, wHouse E a3 u4.2.2.1, wSight E a4 u4.2.2.2, wLon E q5 v5_8]) 5 0 rfl q_Lon (inB_vp g_1) (by rw [e_v5_8]; exact s_Lon) rfl dL_bestPhase_8 ?_
    refine ww_goto (tgt := 15) C dL_bestPhase_9 (by decide) ?_
    refine ww_iconst (v := 0) C dL_bestPhase_15 (by decide) ?_
    obtain rfl := Option.some.inj hf
    refine ww_widen (k := 1) (n := 6) (by decide) (by decide) ?_
    exact ww_iret C ⟨rfl, rfl⟩ dL_bestPhase_16

theorem ysk_L_bestPhase : yL_bestPhase.cls ≠ "java/lang/invoke/MethodHandle" ∧ yL_bestPhase.cls ≠ "java/lang/invoke/VarHandle" ∧ (parseMethodDescriptor yL_bestPhase.desc).map (fun d => d.parameters.length) = some 3 := by decide +kernel
abbrev rmL_arrival : Room := { frames := 8, cells := 3, slots := 18, locals := 145 }
set_option maxHeartbeats 4000000 in
set_option maxRecDepth 100000 in
theorem c_L_arrival {E : Ex} {a0 : Nat → Nat} {a1 : Nat → Nat} {a2 : Nat → Nat} {q3 : Nat} {h0_1 h0_2 h0_3 h0_4 h0_5 h0_7 h0_8 h0_9 : Nat} {x1 : Int32} {x2 : Int32} {x3 : Int32} {v0 : GWV} {v1 : HouseV} {v2 : IntrV} {v3 : Nat → Int64} {r : (Int32 × IntrV × (Nat → Int64))} (hf : L_arrival x1 x2 x3 v0 v1 v2 v3 = some r) : CtL E yL_arrival wsL_arrival rmL_arrival [.ref (a0 0), .int x1, .int x2, .int x3, .ref q3] [wGW E a0 (rf10 (a1 0) h0_1 h0_2 h0_3 h0_4 h0_5 (a2 0) h0_7 h0_8 h0_9) v0, wHouse E a1 v1, wIntr E a2 v2, wLon E q3 v3] (fun rv g => rv = some (.int r.1) ∧ g = [wGW E a0 (rf10 (a1 0) h0_1 h0_2 h0_3 h0_4 h0_5 (a2 0) h0_7 h0_8 h0_9) v0, wHouse E a1 v1, wIntr E a2 r.2.1, wLon E q3 r.2.2]) := by
  refine ctl_of (own := RL) (by decide +kernel) rfl rfl (Nat.le_of_ble_eq_true rfl) (fun K C L0 => ?_)
  refine ww_sub C (lv' := [(0, .ref (a0 0)), (1, .int x1), (2, .int x2), (3, .int x3), (4, .ref q3)]) [0, 1, 2, 3, 4] rfl ?_
  rw [L_arrival] at hf
  refine ww_aload C dL_arrival_0 4 rfl ?_
  refine ww_iconst (v := 0) C dL_arrival_2 (by decide) ?_
  refine ww_aload_n C dL_arrival_3 rfl 0 rfl ?_
  refine ww_iload_n C dL_arrival_4 rfl 1 rfl ?_
  refine ww_iload_n C dL_arrival_5 rfl 2 rfl ?_
  refine ww_iload_n C dL_arrival_6 rfl 3 rfl ?_
  obtain ⟨p7, hp7, hf⟩ := bdE hf
  refine ww_callVC C L0 (As := [.int x1, .int x2, .int x3]) (st := [.int 0, .ref q3]) (gr := [wLon E q3 v3]) (c_X8_arrival (E := E) (a0 := a0) (h0_1 := h0_1) (h0_2 := h0_2) (h0_3 := h0_3) (h0_4 := h0_4) (h0_5 := h0_5) (h0_7 := h0_7) (h0_8 := h0_8) (h0_9 := h0_9) (a1 := a1) (a2 := a2) hp7) gL_arrival_X8_arrival rfl yk_X8_arrival ⟨by decide, by decide⟩ ⟨by decide, by decide⟩ clOK8 0 0 rfl rfl [0, 1, 2] [3] 4 rfl (by decide) rfl rfl (Nat.le_of_ble_eq_true rfl) dL_arrival_7 (fun b7 e_u7 q7 => ?_) ?_
  · replace hf := exCe e_u7 hf
    cases b7 with
    | false =>
      replace hf := bfE rfl hf
      refine ww_catch0 C L0 (by decide) (by decide) (by decide +kernel) ?_
      refine ww_astore (lv' := [(5, .ref q7), (0, .ref (a0 0)), (1, .int x1), (2, .int x2), (3, .int x3), (4, .ref q3)]) C dL_arrival_15 (by decide) rfl ?_
      refine ww_iconst (v := 1) C dL_arrival_17 (by decide) ?_
      obtain rfl := Option.some.inj hf
      refine ww_widen (k := 3) (n := 18) (by decide) (by decide) ?_
      exact ww_iret C ⟨rfl, rfl⟩ dL_arrival_18
    | true =>
      replace hf := btE rfl hf
      refine ww_catch1 C L0 (by decide) (by decide +kernel) (by decide) (by decide) (by decide +kernel) ?_
      refine ww_astore (lv' := [(5, .ref q7), (0, .ref (a0 0)), (1, .int x1), (2, .int x2), (3, .int x3), (4, .ref q3)]) C dL_arrival_19 (by decide) rfl ?_
      refine ww_iconst (v := 2) C dL_arrival_21 (by decide) ?_
      obtain rfl := Option.some.inj hf
      refine ww_widen (k := 3) (n := 18) (by decide) (by decide) ?_
      exact ww_iret C ⟨rfl, rfl⟩ dL_arrival_22
  · skip
    intro u7 e_u7
    replace hf := exCo e_u7 hf
    rintro _ _ ⟨rfl, rfl⟩
    refine ww_perm (gs' := [wGW E a0 (rf10 (a1 0) h0_1 h0_2 h0_3 h0_4 h0_5 (a2 0) h0_7 h0_8 h0_9) v0, wHouse E a1 v1, wIntr E a2 u7.2, wLon E q3 v3]) [0, 1, 2, 3] 4 rfl (by decide) rfl ?_
    refine ww_i2l C dL_arrival_10 ?_
    obtain ⟨g_1, hf⟩ := gdE hf
    obtain ⟨v3_11, e_v3_11⟩ : ∃ y : Nat → Int64, y = vp_updL v3 (Int32.toNatClampNeg 0) (Int32.toInt64 u7.1) := ⟨_, rfl⟩
    replace hf := ltE e_v3_11 hf
    refine ww_last C (f := v3) (w := wLon E q3 v3) (w' := wLon E q3 v3_11) (gs' := [wGW E a0 (rf10 (a1 0) h0_1 h0_2 h0_3 h0_4 h0_5 (a2 0) h0_7 h0_8 h0_9) v0, wHouse E a1 v1, wIntr E a2 u7.2, wLon E q3 v3_11]) 3 0 rfl q_Lon (inB_vp g_1) (by rw [e_v3_11]; exact s_Lon) rfl dL_arrival_11 ?_
    refine ww_goto (tgt := 23) C dL_arrival_12 (by decide) ?_
    refine ww_iconst (v := 0) C dL_arrival_23 (by decide) ?_
    obtain rfl := Option.some.inj hf
    refine ww_widen (k := 3) (n := 18) (by decide) (by decide) ?_
    exact ww_iret C ⟨rfl, rfl⟩ dL_arrival_24

theorem ysk_L_arrival : yL_arrival.cls ≠ "java/lang/invoke/MethodHandle" ∧ yL_arrival.cls ≠ "java/lang/invoke/VarHandle" ∧ (parseMethodDescriptor yL_arrival.desc).map (fun d => d.parameters.length) = some 5 := by decide +kernel
abbrev rmL_hiding : Room := { frames := 8, cells := 3, slots := 18, locals := 143 }
set_option maxHeartbeats 4000000 in
set_option maxRecDepth 100000 in
theorem c_L_hiding {E : Ex} {a0 : Nat → Nat} {a1 : Nat → Nat} {a2 : Nat → Nat} {q3 : Nat} {h0_1 h0_2 h0_3 h0_4 h0_5 h0_7 h0_8 h0_9 : Nat} {x1 : Int32} {x2 : Int32} {x3 : Int32} {v0 : GWV} {v1 : HouseV} {v2 : IntrV} {v3 : Nat → Int64} {r : (Int32 × IntrV × (Nat → Int64))} (hf : L_hiding x1 x2 x3 v0 v1 v2 v3 = some r) : CtL E yL_hiding wsL_hiding rmL_hiding [.ref (a0 0), .int x1, .int x2, .int x3, .ref q3] [wGW E a0 (rf10 (a1 0) h0_1 h0_2 h0_3 h0_4 h0_5 (a2 0) h0_7 h0_8 h0_9) v0, wHouse E a1 v1, wIntr E a2 v2, wLon E q3 v3] (fun rv g => rv = some (.int r.1) ∧ g = [wGW E a0 (rf10 (a1 0) h0_1 h0_2 h0_3 h0_4 h0_5 (a2 0) h0_7 h0_8 h0_9) v0, wHouse E a1 v1, wIntr E a2 r.2.1, wLon E q3 r.2.2]) := by
  refine ctl_of (own := RL) (by decide +kernel) rfl rfl (Nat.le_of_ble_eq_true rfl) (fun K C L0 => ?_)
  refine ww_sub C (lv' := [(0, .ref (a0 0)), (1, .int x1), (2, .int x2), (3, .int x3), (4, .ref q3)]) [0, 1, 2, 3, 4] rfl ?_
  rw [L_hiding] at hf
  refine ww_aload C dL_hiding_0 4 rfl ?_
  refine ww_iconst (v := 0) C dL_hiding_2 (by decide) ?_
  refine ww_aload_n C dL_hiding_3 rfl 0 rfl ?_
  refine ww_iload_n C dL_hiding_4 rfl 1 rfl ?_
  refine ww_iload_n C dL_hiding_5 rfl 2 rfl ?_
  refine ww_iload_n C dL_hiding_6 rfl 3 rfl ?_
  obtain ⟨p7, hp7, hf⟩ := bdE hf
  refine ww_callVC C L0 (As := [.int x1, .int x2, .int x3]) (st := [.int 0, .ref q3]) (gr := [wLon E q3 v3]) (c_X8_hiding (E := E) (a0 := a0) (h0_1 := h0_1) (h0_2 := h0_2) (h0_3 := h0_3) (h0_4 := h0_4) (h0_5 := h0_5) (h0_7 := h0_7) (h0_8 := h0_8) (h0_9 := h0_9) (a1 := a1) (a2 := a2) hp7) gL_hiding_X8_hiding rfl yk_X8_hiding ⟨by decide, by decide⟩ ⟨by decide, by decide⟩ clOK8 0 0 rfl rfl [0, 1, 2] [3] 4 rfl (by decide) rfl rfl (Nat.le_of_ble_eq_true rfl) dL_hiding_7 (fun b7 e_u7 q7 => ?_) ?_
  · replace hf := exCe e_u7 hf
    cases b7 with
    | false =>
      replace hf := bfE rfl hf
      refine ww_catch0 C L0 (by decide) (by decide) (by decide +kernel) ?_
      refine ww_astore (lv' := [(5, .ref q7), (0, .ref (a0 0)), (1, .int x1), (2, .int x2), (3, .int x3), (4, .ref q3)]) C dL_hiding_15 (by decide) rfl ?_
      refine ww_iconst (v := 1) C dL_hiding_17 (by decide) ?_
      obtain rfl := Option.some.inj hf
      refine ww_widen (k := 3) (n := 18) (by decide) (by decide) ?_
      exact ww_iret C ⟨rfl, rfl⟩ dL_hiding_18
    | true =>
      replace hf := btE rfl hf
      refine ww_catch1 C L0 (by decide) (by decide +kernel) (by decide) (by decide) (by decide +kernel) ?_
      refine ww_astore (lv' := [(5, .ref q7), (0, .ref (a0 0)), (1, .int x1), (2, .int x2), (3, .int x3), (4, .ref q3)]) C dL_hiding_19 (by decide) rfl ?_
      refine ww_iconst (v := 2) C dL_hiding_21 (by decide) ?_
      obtain rfl := Option.some.inj hf
      refine ww_widen (k := 3) (n := 18) (by decide) (by decide) ?_
      exact ww_iret C ⟨rfl, rfl⟩ dL_hiding_22
  · skip
    intro u7 e_u7
    replace hf := exCo e_u7 hf
    rintro _ _ ⟨rfl, rfl⟩
    refine ww_perm (gs' := [wGW E a0 (rf10 (a1 0) h0_1 h0_2 h0_3 h0_4 h0_5 (a2 0) h0_7 h0_8 h0_9) v0, wHouse E a1 v1, wIntr E a2 u7.2, wLon E q3 v3]) [0, 1, 2, 3] 4 rfl (by decide) rfl ?_
    refine ww_i2l C dL_hiding_10 ?_
    obtain ⟨g_1, hf⟩ := gdE hf
    obtain ⟨v3_11, e_v3_11⟩ : ∃ y : Nat → Int64, y = vp_updL v3 (Int32.toNatClampNeg 0) (Int32.toInt64 u7.1) := ⟨_, rfl⟩
    replace hf := ltE e_v3_11 hf
    refine ww_last C (f := v3) (w := wLon E q3 v3) (w' := wLon E q3 v3_11) (gs' := [wGW E a0 (rf10 (a1 0) h0_1 h0_2 h0_3 h0_4 h0_5 (a2 0) h0_7 h0_8 h0_9) v0, wHouse E a1 v1, wIntr E a2 u7.2, wLon E q3 v3_11]) 3 0 rfl q_Lon (inB_vp g_1) (by rw [e_v3_11]; exact s_Lon) rfl dL_hiding_11 ?_
    refine ww_goto (tgt := 23) C dL_hiding_12 (by decide) ?_
    refine ww_iconst (v := 0) C dL_hiding_23 (by decide) ?_
    obtain rfl := Option.some.inj hf
    refine ww_widen (k := 3) (n := 18) (by decide) (by decide) ?_
    exact ww_iret C ⟨rfl, rfl⟩ dL_hiding_24

theorem ysk_L_hiding : yL_hiding.cls ≠ "java/lang/invoke/MethodHandle" ∧ yL_hiding.cls ≠ "java/lang/invoke/VarHandle" ∧ (parseMethodDescriptor yL_hiding.desc).map (fun d => d.parameters.length) = some 5 := by decide +kernel
abbrev rmL_pass : Room := { frames := 8, cells := 1, slots := 6, locals := 135 }
set_option maxHeartbeats 4000000 in
set_option maxRecDepth 100000 in
theorem c_L_pass {E : Ex} {a0 : Nat → Nat} {a1 : Nat → Nat} {a2 : Nat → Nat} {q3 : Nat} {ah3 : Nat → Nat → Nat} {q4 : Nat} {h0_1 h0_3 h0_4 h0_5 h0_6 h0_7 h0_8 h0_9 h2_1 : Nat} {x1 : Int32} {v0 : GWV} {v1 : HouseV} {v2 : HistV} {v3 : Nat → HouseV} {v4 : Nat → Int64} {r : (Int32 × HouseV × HistV × (Nat → HouseV) × (Nat → Int64))} (hf : L_pass x1 v0 v1 v2 v3 v4 = some r) : CtL E yL_pass wsL_pass rmL_pass [.ref (a0 0), .int x1, .ref q4] [wGW E a0 (rf10 (a1 0) h0_1 (a2 0) h0_3 h0_4 h0_5 h0_6 h0_7 h0_8 h0_9) v0, wHouse E a1 v1, wHist E a2 (rf2 q3 h2_1) v2, wHs E q3 ah3 v3, wLon E q4 v4] (fun rv g => rv = some (.int r.1) ∧ g = [wGW E a0 (rf10 (a1 0) h0_1 (a2 0) h0_3 h0_4 h0_5 h0_6 h0_7 h0_8 h0_9) v0, wHouse E a1 r.2.1, wHist E a2 (rf2 q3 h2_1) r.2.2.1, wHs E q3 ah3 r.2.2.2.1, wLon E q4 r.2.2.2.2]) := by
  refine ctl_of (own := RL) (by decide +kernel) rfl rfl (Nat.le_of_ble_eq_true rfl) (fun K C L0 => ?_)
  refine ww_sub C (lv' := [(0, .ref (a0 0)), (1, .int x1), (2, .ref q4)]) [0, 1, 2] rfl ?_
  rw [L_pass] at hf
  refine ww_aload_n C dL_pass_0 rfl 2 rfl ?_
  refine ww_iconst (v := 0) C dL_pass_1 (by decide) ?_
  refine ww_aload_n C dL_pass_2 rfl 0 rfl ?_
  refine ww_iload_n C dL_pass_3 rfl 1 rfl ?_
  obtain ⟨p4, hp4, hf⟩ := bdE hf
  refine ww_callVC C L0 (As := [.int x1]) (st := [.int 0, .ref q4]) (gr := [wLon E q4 v4]) (c_X8_pass (E := E) (a0 := a0) (h0_1 := h0_1) (h0_3 := h0_3) (h0_4 := h0_4) (h0_5 := h0_5) (h0_6 := h0_6) (h0_7 := h0_7) (h0_8 := h0_8) (h0_9 := h0_9) (a1 := a1) (a2 := a2) (h2_1 := h2_1) (q3 := q3) (ah3 := ah3) hp4) gL_pass_X8_pass rfl yk_X8_pass ⟨by decide, by decide⟩ ⟨by decide, by decide⟩ clOK8 0 0 rfl rfl [0, 1, 2, 3] [4] 5 rfl (by decide) rfl rfl (Nat.le_of_ble_eq_true rfl) dL_pass_4 (fun b4 e_u4 z4 => ?_) ?_
  · replace hf := exCe e_u4 hf
    cases b4 with
    | false =>
      replace hf := bfE rfl hf
      cases hf
    | true =>
      replace hf := btE rfl hf
      refine ww_catch0 C L0 (by decide) (by decide) (by decide +kernel) ?_
      refine ww_astore_n (lv' := [(3, .ref z4), (0, .ref (a0 0)), (1, .int x1), (2, .ref q4)]) C dL_pass_12 rfl (by decide) rfl ?_
      refine ww_iconst (v := 1) C dL_pass_13 (by decide) ?_
      obtain rfl := Option.some.inj hf
      refine ww_widen (k := 1) (n := 6) (by decide) (by decide) ?_
      exact ww_iret C ⟨rfl, rfl⟩ dL_pass_14
  · skip
    intro u4 e_u4
    replace hf := exCo e_u4 hf
    rintro _ _ ⟨rfl, rfl⟩
    refine ww_perm (gs' := [wGW E a0 (rf10 (a1 0) h0_1 (a2 0) h0_3 h0_4 h0_5 h0_6 h0_7 h0_8 h0_9) v0, wHouse E a1 u4.2.1, wHist E a2 (rf2 q3 h2_1) u4.2.2.1, wHs E q3 ah3 u4.2.2.2, wLon E q4 v4]) [0, 1, 2, 3, 4] 5 rfl (by decide) rfl ?_
    refine ww_i2l C dL_pass_7 ?_
    obtain ⟨g_1, hf⟩ := gdE hf
    obtain ⟨v4_8, e_v4_8⟩ : ∃ y : Nat → Int64, y = vp_updL v4 (Int32.toNatClampNeg 0) (Int32.toInt64 u4.1) := ⟨_, rfl⟩
    replace hf := ltE e_v4_8 hf
    refine ww_last C (f := v4) (w := wLon E q4 v4) (w' := wLon E q4 v4_8) (gs' := [wGW E a0 (rf10 (a1 0) h0_1 (a2 0) h0_3 h0_4 h0_5 h0_6 h0_7 h0_8 h0_9) v0, wHouse E a1 u4.2.1, wHist E a2 (rf2 q3 h2_1) u4.2.2.1, wHs E q3 ah3 u4.2.2.2, wLon E q4 v4_8]) 4 0 rfl q_Lon (inB_vp g_1) (by rw [e_v4_8]; exact s_Lon) rfl dL_pass_8 ?_
    refine ww_goto (tgt := 15) C dL_pass_9 (by decide) ?_
    refine ww_iconst (v := 0) C dL_pass_15 (by decide) ?_
    obtain rfl := Option.some.inj hf
    refine ww_widen (k := 1) (n := 6) (by decide) (by decide) ?_
    exact ww_iret C ⟨rfl, rfl⟩ dL_pass_16

theorem ysk_L_pass : yL_pass.cls ≠ "java/lang/invoke/MethodHandle" ∧ yL_pass.cls ≠ "java/lang/invoke/VarHandle" ∧ (parseMethodDescriptor yL_pass.desc).map (fun d => d.parameters.length) = some 3 := by decide +kernel
abbrev rmL_shift : Room := { frames := 8, cells := 2, slots := 12, locals := 134 }
set_option maxHeartbeats 4000000 in
set_option maxRecDepth 100000 in
theorem c_L_shift {E : Ex} {a0 : Nat → Nat} {a1 : Nat → Nat} {a2 : Nat → Nat} {q3 : Nat} {ah3 : Nat → Nat → Nat} {a4 : Nat → Nat} {q5 : Nat} {h0_1 h0_4 h0_5 h0_6 h0_7 h0_8 h0_9 h2_1 : Nat} {x1 : Int32} {x2 : Int32} {v0 : GWV} {v1 : HouseV} {v2 : HistV} {v3 : Nat → HouseV} {v4 : SightV} {v5 : Nat → Int64} {r : (Int32 × GWV × HouseV × HistV × (Nat → HouseV) × SightV × (Nat → Int64))} (hf : L_shift x1 x2 v0 v1 v2 v3 v4 v5 = some r) : CtL E yL_shift wsL_shift rmL_shift [.ref (a0 0), .int x1, .int x2, .ref q5] [wGW E a0 (rf10 (a1 0) h0_1 (a2 0) (a4 0) h0_4 h0_5 h0_6 h0_7 h0_8 h0_9) v0, wHouse E a1 v1, wHist E a2 (rf2 q3 h2_1) v2, wHs E q3 ah3 v3, wSight E a4 v4, wLon E q5 v5] (fun rv g => rv = some (.int r.1) ∧ g = [wGW E a0 (rf10 (a1 0) h0_1 (a2 0) (a4 0) h0_4 h0_5 h0_6 h0_7 h0_8 h0_9) r.2.1, wHouse E a1 r.2.2.1, wHist E a2 (rf2 q3 h2_1) r.2.2.2.1, wHs E q3 ah3 r.2.2.2.2.1, wSight E a4 r.2.2.2.2.2.1, wLon E q5 r.2.2.2.2.2.2]) := by
  refine ctl_of (own := RL) (by decide +kernel) rfl rfl (Nat.le_of_ble_eq_true rfl) (fun K C L0 => ?_)
  refine ww_sub C (lv' := [(0, .ref (a0 0)), (1, .int x1), (2, .int x2), (3, .ref q5)]) [0, 1, 2, 3] rfl ?_
  rw [L_shift] at hf
  refine ww_aload_n C dL_shift_0 rfl 3 rfl ?_
  refine ww_iconst (v := 0) C dL_shift_1 (by decide) ?_
  refine ww_aload_n C dL_shift_2 rfl 0 rfl ?_
  refine ww_iload_n C dL_shift_3 rfl 1 rfl ?_
  refine ww_iload_n C dL_shift_4 rfl 2 rfl ?_
  obtain ⟨p5, hp5, hf⟩ := bdE hf
  refine ww_callVC C L0 (As := [.int x1, .int x2]) (st := [.int 0, .ref q5]) (gr := [wLon E q5 v5]) (c_X8_shift (E := E) (a0 := a0) (h0_1 := h0_1) (h0_4 := h0_4) (h0_5 := h0_5) (h0_6 := h0_6) (h0_7 := h0_7) (h0_8 := h0_8) (h0_9 := h0_9) (a1 := a1) (a2 := a2) (h2_1 := h2_1) (q3 := q3) (ah3 := ah3) (a4 := a4) hp5) gL_shift_X8_shift rfl yk_X8_shift ⟨by decide, by decide⟩ ⟨by decide, by decide⟩ clOK8 0 0 rfl rfl [0, 1, 2, 3, 4] [5] 6 rfl (by decide) rfl rfl (Nat.le_of_ble_eq_true rfl) dL_shift_5 (fun b5 e_u5 z5 => ?_) ?_
  · replace hf := exCe e_u5 hf
    cases b5 with
    | false =>
      replace hf := bfE rfl hf
      refine ww_catch0 C L0 (by decide) (by decide) (by decide +kernel) ?_
      refine ww_astore (lv' := [(4, .ref z5), (0, .ref (a0 0)), (1, .int x1), (2, .int x2), (3, .ref q5)]) C dL_shift_13 (by decide) rfl ?_
      refine ww_iconst (v := 1) C dL_shift_15 (by decide) ?_
      obtain rfl := Option.some.inj hf
      refine ww_widen (k := 2) (n := 12) (by decide) (by decide) ?_
      exact ww_iret C ⟨rfl, rfl⟩ dL_shift_16
    | true =>
      replace hf := btE rfl hf
      refine ww_catch1 C L0 (by decide) (by decide +kernel) (by decide) (by decide) (by decide +kernel) ?_
      refine ww_astore (lv' := [(4, .ref z5), (0, .ref (a0 0)), (1, .int x1), (2, .int x2), (3, .ref q5)]) C dL_shift_17 (by decide) rfl ?_
      refine ww_iconst (v := 2) C dL_shift_19 (by decide) ?_
      obtain rfl := Option.some.inj hf
      refine ww_widen (k := 2) (n := 12) (by decide) (by decide) ?_
      exact ww_iret C ⟨rfl, rfl⟩ dL_shift_20
  · skip
    intro u5 e_u5
    replace hf := exCo e_u5 hf
    rintro _ _ ⟨rfl, rfl⟩
    refine ww_perm (gs' := [wGW E a0 (rf10 (a1 0) h0_1 (a2 0) (a4 0) h0_4 h0_5 h0_6 h0_7 h0_8 h0_9) u5.2.1, wHouse E a1 u5.2.2.1, wHist E a2 (rf2 q3 h2_1) u5.2.2.2.1, wHs E q3 ah3 u5.2.2.2.2.1, wSight E a4 u5.2.2.2.2.2, wLon E q5 v5]) [0, 1, 2, 3, 4, 5] 6 rfl (by decide) rfl ?_
    refine ww_i2l C dL_shift_8 ?_
    obtain ⟨g_1, hf⟩ := gdE hf
    obtain ⟨v5_9, e_v5_9⟩ : ∃ y : Nat → Int64, y = vp_updL v5 (Int32.toNatClampNeg 0) (Int32.toInt64 u5.1) := ⟨_, rfl⟩
    replace hf := ltE e_v5_9 hf
    refine ww_last C (f := v5) (w := wLon E q5 v5) (w' := wLon E q5 v5_9) (gs' := [wGW E a0 (rf10 (a1 0) h0_1 (a2 0) (a4 0) h0_4 h0_5 h0_6 h0_7 h0_8 h0_9) u5.2.1, wHouse E a1 u5.2.2.1, wHist E a2 (rf2 q3 h2_1) u5.2.2.2.1, wHs E q3 ah3 u5.2.2.2.2.1, wSight E a4 u5.2.2.2.2.2, wLon E q5 v5_9]) 5 0 rfl q_Lon (inB_vp g_1) (by rw [e_v5_9]; exact s_Lon) rfl dL_shift_9 ?_
    refine ww_goto (tgt := 21) C dL_shift_10 (by decide) ?_
    refine ww_iconst (v := 0) C dL_shift_21 (by decide) ?_
    obtain rfl := Option.some.inj hf
    refine ww_widen (k := 2) (n := 12) (by decide) (by decide) ?_
    exact ww_iret C ⟨rfl, rfl⟩ dL_shift_22

theorem ysk_L_shift : yL_shift.cls ≠ "java/lang/invoke/MethodHandle" ∧ yL_shift.cls ≠ "java/lang/invoke/VarHandle" ∧ (parseMethodDescriptor yL_shift.desc).map (fun d => d.parameters.length) = some 4 := by decide +kernel
abbrev rmL_closeDoor : Room := { frames := 8, cells := 1, slots := 6, locals := 132 }
set_option maxHeartbeats 4000000 in
set_option maxRecDepth 100000 in
theorem c_L_closeDoor {E : Ex} {a0 : Nat → Nat} {a1 : Nat → Nat} {a2 : Nat → Nat} {q3 : Nat} {ah3 : Nat → Nat → Nat} {q4 : Nat} {h0_1 h0_3 h0_4 h0_5 h0_6 h0_7 h0_8 h0_9 h2_1 : Nat} {x1 : Int32} {v0 : GWV} {v1 : HouseV} {v2 : HistV} {v3 : Nat → HouseV} {v4 : Nat → Int64} {r : (Int32 × HouseV × HistV × (Nat → HouseV) × (Nat → Int64))} (hf : L_closeDoor x1 v0 v1 v2 v3 v4 = some r) : CtL E yL_closeDoor wsL_closeDoor rmL_closeDoor [.ref (a0 0), .int x1, .ref q4] [wGW E a0 (rf10 (a1 0) h0_1 (a2 0) h0_3 h0_4 h0_5 h0_6 h0_7 h0_8 h0_9) v0, wHouse E a1 v1, wHist E a2 (rf2 q3 h2_1) v2, wHs E q3 ah3 v3, wLon E q4 v4] (fun rv g => rv = some (.int r.1) ∧ g = [wGW E a0 (rf10 (a1 0) h0_1 (a2 0) h0_3 h0_4 h0_5 h0_6 h0_7 h0_8 h0_9) v0, wHouse E a1 r.2.1, wHist E a2 (rf2 q3 h2_1) r.2.2.1, wHs E q3 ah3 r.2.2.2.1, wLon E q4 r.2.2.2.2]) := by
  refine ctl_of (own := RL) (by decide +kernel) rfl rfl (Nat.le_of_ble_eq_true rfl) (fun K C L0 => ?_)
  refine ww_sub C (lv' := [(0, .ref (a0 0)), (1, .int x1), (2, .ref q4)]) [0, 1, 2] rfl ?_
  rw [L_closeDoor] at hf
  refine ww_aload_n C dL_closeDoor_0 rfl 2 rfl ?_
  refine ww_iconst (v := 0) C dL_closeDoor_1 (by decide) ?_
  refine ww_aload_n C dL_closeDoor_2 rfl 0 rfl ?_
  refine ww_iload_n C dL_closeDoor_3 rfl 1 rfl ?_
  obtain ⟨p4, hp4, hf⟩ := bdE hf
  refine ww_callVC C L0 (As := [.int x1]) (st := [.int 0, .ref q4]) (gr := [wLon E q4 v4]) (c_X8_closeDoor (E := E) (a0 := a0) (h0_1 := h0_1) (h0_3 := h0_3) (h0_4 := h0_4) (h0_5 := h0_5) (h0_6 := h0_6) (h0_7 := h0_7) (h0_8 := h0_8) (h0_9 := h0_9) (a1 := a1) (a2 := a2) (h2_1 := h2_1) (q3 := q3) (ah3 := ah3) hp4) gL_closeDoor_X8_closeDoor rfl yk_X8_closeDoor ⟨by decide, by decide⟩ ⟨by decide, by decide⟩ clOK8 0 0 rfl rfl [0, 1, 2, 3] [4] 5 rfl (by decide) rfl rfl (Nat.le_of_ble_eq_true rfl) dL_closeDoor_4 (fun b4 e_u4 z4 => ?_) ?_
  · replace hf := exCe e_u4 hf
    cases b4 with
    | false =>
      replace hf := bfE rfl hf
      refine ww_catch0 C L0 (by decide) (by decide) (by decide +kernel) ?_
      refine ww_astore_n (lv' := [(3, .ref z4), (0, .ref (a0 0)), (1, .int x1), (2, .ref q4)]) C dL_closeDoor_12 rfl (by decide) rfl ?_
      refine ww_iconst (v := 1) C dL_closeDoor_13 (by decide) ?_
      obtain rfl := Option.some.inj hf
      refine ww_widen (k := 1) (n := 6) (by decide) (by decide) ?_
      exact ww_iret C ⟨rfl, rfl⟩ dL_closeDoor_14
    | true =>
      replace hf := btE rfl hf
      cases hf
  · skip
    intro u4 e_u4
    replace hf := exCo e_u4 hf
    rintro _ _ ⟨rfl, rfl⟩
    refine ww_perm (gs' := [wGW E a0 (rf10 (a1 0) h0_1 (a2 0) h0_3 h0_4 h0_5 h0_6 h0_7 h0_8 h0_9) v0, wHouse E a1 u4.2.1, wHist E a2 (rf2 q3 h2_1) u4.2.2.1, wHs E q3 ah3 u4.2.2.2, wLon E q4 v4]) [0, 1, 2, 3, 4] 5 rfl (by decide) rfl ?_
    refine ww_i2l C dL_closeDoor_7 ?_
    obtain ⟨g_1, hf⟩ := gdE hf
    obtain ⟨v4_8, e_v4_8⟩ : ∃ y : Nat → Int64, y = vp_updL v4 (Int32.toNatClampNeg 0) (Int32.toInt64 u4.1) := ⟨_, rfl⟩
    replace hf := ltE e_v4_8 hf
    refine ww_last C (f := v4) (w := wLon E q4 v4) (w' := wLon E q4 v4_8) (gs' := [wGW E a0 (rf10 (a1 0) h0_1 (a2 0) h0_3 h0_4 h0_5 h0_6 h0_7 h0_8 h0_9) v0, wHouse E a1 u4.2.1, wHist E a2 (rf2 q3 h2_1) u4.2.2.1, wHs E q3 ah3 u4.2.2.2, wLon E q4 v4_8]) 4 0 rfl q_Lon (inB_vp g_1) (by rw [e_v4_8]; exact s_Lon) rfl dL_closeDoor_8 ?_
    refine ww_goto (tgt := 15) C dL_closeDoor_9 (by decide) ?_
    refine ww_iconst (v := 0) C dL_closeDoor_15 (by decide) ?_
    obtain rfl := Option.some.inj hf
    refine ww_widen (k := 1) (n := 6) (by decide) (by decide) ?_
    exact ww_iret C ⟨rfl, rfl⟩ dL_closeDoor_16

theorem ysk_L_closeDoor : yL_closeDoor.cls ≠ "java/lang/invoke/MethodHandle" ∧ yL_closeDoor.cls ≠ "java/lang/invoke/VarHandle" ∧ (parseMethodDescriptor yL_closeDoor.desc).map (fun d => d.parameters.length) = some 3 := by decide +kernel
abbrev rmL_openDoor : Room := { frames := 8, cells := 1, slots := 6, locals := 132 }
set_option maxHeartbeats 4000000 in
set_option maxRecDepth 100000 in
theorem c_L_openDoor {E : Ex} {a0 : Nat → Nat} {a1 : Nat → Nat} {a2 : Nat → Nat} {q3 : Nat} {ah3 : Nat → Nat → Nat} {q4 : Nat} {h0_1 h0_3 h0_4 h0_5 h0_6 h0_7 h0_8 h0_9 h2_1 : Nat} {x1 : Int32} {v0 : GWV} {v1 : HouseV} {v2 : HistV} {v3 : Nat → HouseV} {v4 : Nat → Int64} {r : (Int32 × HouseV × HistV × (Nat → HouseV) × (Nat → Int64))} (hf : L_openDoor x1 v0 v1 v2 v3 v4 = some r) : CtL E yL_openDoor wsL_openDoor rmL_openDoor [.ref (a0 0), .int x1, .ref q4] [wGW E a0 (rf10 (a1 0) h0_1 (a2 0) h0_3 h0_4 h0_5 h0_6 h0_7 h0_8 h0_9) v0, wHouse E a1 v1, wHist E a2 (rf2 q3 h2_1) v2, wHs E q3 ah3 v3, wLon E q4 v4] (fun rv g => rv = some (.int r.1) ∧ g = [wGW E a0 (rf10 (a1 0) h0_1 (a2 0) h0_3 h0_4 h0_5 h0_6 h0_7 h0_8 h0_9) v0, wHouse E a1 r.2.1, wHist E a2 (rf2 q3 h2_1) r.2.2.1, wHs E q3 ah3 r.2.2.2.1, wLon E q4 r.2.2.2.2]) := by
  refine ctl_of (own := RL) (by decide +kernel) rfl rfl (Nat.le_of_ble_eq_true rfl) (fun K C L0 => ?_)
  refine ww_sub C (lv' := [(0, .ref (a0 0)), (1, .int x1), (2, .ref q4)]) [0, 1, 2] rfl ?_
  rw [L_openDoor] at hf
  refine ww_aload_n C dL_openDoor_0 rfl 2 rfl ?_
  refine ww_iconst (v := 0) C dL_openDoor_1 (by decide) ?_
  refine ww_aload_n C dL_openDoor_2 rfl 0 rfl ?_
  refine ww_iload_n C dL_openDoor_3 rfl 1 rfl ?_
  obtain ⟨p4, hp4, hf⟩ := bdE hf
  refine ww_callVC C L0 (As := [.int x1]) (st := [.int 0, .ref q4]) (gr := [wLon E q4 v4]) (c_X8_openDoor (E := E) (a0 := a0) (h0_1 := h0_1) (h0_3 := h0_3) (h0_4 := h0_4) (h0_5 := h0_5) (h0_6 := h0_6) (h0_7 := h0_7) (h0_8 := h0_8) (h0_9 := h0_9) (a1 := a1) (a2 := a2) (h2_1 := h2_1) (q3 := q3) (ah3 := ah3) hp4) gL_openDoor_X8_openDoor rfl yk_X8_openDoor ⟨by decide, by decide⟩ ⟨by decide, by decide⟩ clOK8 0 0 rfl rfl [0, 1, 2, 3] [4] 5 rfl (by decide) rfl rfl (Nat.le_of_ble_eq_true rfl) dL_openDoor_4 (fun b4 e_u4 z4 => ?_) ?_
  · replace hf := exCe e_u4 hf
    cases b4 with
    | false =>
      replace hf := bfE rfl hf
      refine ww_catch0 C L0 (by decide) (by decide) (by decide +kernel) ?_
      refine ww_astore_n (lv' := [(3, .ref z4), (0, .ref (a0 0)), (1, .int x1), (2, .ref q4)]) C dL_openDoor_12 rfl (by decide) rfl ?_
      refine ww_iconst (v := 1) C dL_openDoor_13 (by decide) ?_
      obtain rfl := Option.some.inj hf
      refine ww_widen (k := 1) (n := 6) (by decide) (by decide) ?_
      exact ww_iret C ⟨rfl, rfl⟩ dL_openDoor_14
    | true =>
      replace hf := btE rfl hf
      cases hf
  · skip
    intro u4 e_u4
    replace hf := exCo e_u4 hf
    rintro _ _ ⟨rfl, rfl⟩
    refine ww_perm (gs' := [wGW E a0 (rf10 (a1 0) h0_1 (a2 0) h0_3 h0_4 h0_5 h0_6 h0_7 h0_8 h0_9) v0, wHouse E a1 u4.2.1, wHist E a2 (rf2 q3 h2_1) u4.2.2.1, wHs E q3 ah3 u4.2.2.2, wLon E q4 v4]) [0, 1, 2, 3, 4] 5 rfl (by decide) rfl ?_
    refine ww_i2l C dL_openDoor_7 ?_
    obtain ⟨g_1, hf⟩ := gdE hf
    obtain ⟨v4_8, e_v4_8⟩ : ∃ y : Nat → Int64, y = vp_updL v4 (Int32.toNatClampNeg 0) (Int32.toInt64 u4.1) := ⟨_, rfl⟩
    replace hf := ltE e_v4_8 hf
    refine ww_last C (f := v4) (w := wLon E q4 v4) (w' := wLon E q4 v4_8) (gs' := [wGW E a0 (rf10 (a1 0) h0_1 (a2 0) h0_3 h0_4 h0_5 h0_6 h0_7 h0_8 h0_9) v0, wHouse E a1 u4.2.1, wHist E a2 (rf2 q3 h2_1) u4.2.2.1, wHs E q3 ah3 u4.2.2.2, wLon E q4 v4_8]) 4 0 rfl q_Lon (inB_vp g_1) (by rw [e_v4_8]; exact s_Lon) rfl dL_openDoor_8 ?_
    refine ww_goto (tgt := 15) C dL_openDoor_9 (by decide) ?_
    refine ww_iconst (v := 0) C dL_openDoor_15 (by decide) ?_
    obtain rfl := Option.some.inj hf
    refine ww_widen (k := 1) (n := 6) (by decide) (by decide) ?_
    exact ww_iret C ⟨rfl, rfl⟩ dL_openDoor_16

theorem ysk_L_openDoor : yL_openDoor.cls ≠ "java/lang/invoke/MethodHandle" ∧ yL_openDoor.cls ≠ "java/lang/invoke/VarHandle" ∧ (parseMethodDescriptor yL_openDoor.desc).map (fun d => d.parameters.length) = some 3 := by decide +kernel
abbrev rmL_setLimit : Room := { frames := 8, cells := 2, slots := 12, locals := 134 }
set_option maxHeartbeats 4000000 in
set_option maxRecDepth 100000 in
theorem c_L_setLimit {E : Ex} {a0 : Nat → Nat} {a1 : Nat → Nat} {a2 : Nat → Nat} {q3 : Nat} {ah3 : Nat → Nat → Nat} {a4 : Nat → Nat} {q5 : Nat} {h0_1 h0_4 h0_5 h0_6 h0_7 h0_8 h0_9 h2_1 : Nat} {x1 : Int32} {x2 : Int32} {v0 : GWV} {v1 : HouseV} {v2 : HistV} {v3 : Nat → HouseV} {v4 : SightV} {v5 : Nat → Int64} {r : (Int32 × HouseV × HistV × (Nat → HouseV) × SightV × (Nat → Int64))} (hf : L_setLimit x1 x2 v0 v1 v2 v3 v4 v5 = some r) : CtL E yL_setLimit wsL_setLimit rmL_setLimit [.ref (a0 0), .int x1, .int x2, .ref q5] [wGW E a0 (rf10 (a1 0) h0_1 (a2 0) (a4 0) h0_4 h0_5 h0_6 h0_7 h0_8 h0_9) v0, wHouse E a1 v1, wHist E a2 (rf2 q3 h2_1) v2, wHs E q3 ah3 v3, wSight E a4 v4, wLon E q5 v5] (fun rv g => rv = some (.int r.1) ∧ g = [wGW E a0 (rf10 (a1 0) h0_1 (a2 0) (a4 0) h0_4 h0_5 h0_6 h0_7 h0_8 h0_9) v0, wHouse E a1 r.2.1, wHist E a2 (rf2 q3 h2_1) r.2.2.1, wHs E q3 ah3 r.2.2.2.1, wSight E a4 r.2.2.2.2.1, wLon E q5 r.2.2.2.2.2]) := by
  refine ctl_of (own := RL) (by decide +kernel) rfl rfl (Nat.le_of_ble_eq_true rfl) (fun K C L0 => ?_)
  refine ww_sub C (lv' := [(0, .ref (a0 0)), (1, .int x1), (2, .int x2), (3, .ref q5)]) [0, 1, 2, 3] rfl ?_
  rw [L_setLimit] at hf
  refine ww_aload_n C dL_setLimit_0 rfl 3 rfl ?_
  refine ww_iconst (v := 0) C dL_setLimit_1 (by decide) ?_
  refine ww_aload_n C dL_setLimit_2 rfl 0 rfl ?_
  refine ww_iload_n C dL_setLimit_3 rfl 1 rfl ?_
  refine ww_iload_n C dL_setLimit_4 rfl 2 rfl ?_
  obtain ⟨p5, hp5, hf⟩ := bdE hf
  refine ww_callVC C L0 (As := [.int x1, .int x2]) (st := [.int 0, .ref q5]) (gr := [wLon E q5 v5]) (c_X8_setLimit (E := E) (a0 := a0) (h0_1 := h0_1) (h0_4 := h0_4) (h0_5 := h0_5) (h0_6 := h0_6) (h0_7 := h0_7) (h0_8 := h0_8) (h0_9 := h0_9) (a1 := a1) (a2 := a2) (h2_1 := h2_1) (q3 := q3) (ah3 := ah3) (a4 := a4) hp5) gL_setLimit_X8_setLimit rfl yk_X8_setLimit ⟨by decide, by decide⟩ ⟨by decide, by decide⟩ clOK8 0 0 rfl rfl [0, 1, 2, 3, 4] [5] 6 rfl (by decide) rfl rfl (Nat.le_of_ble_eq_true rfl) dL_setLimit_5 (fun b5 e_u5 z5 => ?_) ?_
  · replace hf := exCe e_u5 hf
    cases b5 with
    | false =>
      replace hf := bfE rfl hf
      refine ww_catch0 C L0 (by decide) (by decide) (by decide +kernel) ?_
      refine ww_astore (lv' := [(4, .ref z5), (0, .ref (a0 0)), (1, .int x1), (2, .int x2), (3, .ref q5)]) C dL_setLimit_13 (by decide) rfl ?_
      refine ww_iconst (v := 1) C dL_setLimit_15 (by decide) ?_
      obtain rfl := Option.some.inj hf
      refine ww_widen (k := 2) (n := 12) (by decide) (by decide) ?_
      exact ww_iret C ⟨rfl, rfl⟩ dL_setLimit_16
    | true =>
      replace hf := btE rfl hf
      refine ww_catch1 C L0 (by decide) (by decide +kernel) (by decide) (by decide) (by decide +kernel) ?_
      refine ww_astore (lv' := [(4, .ref z5), (0, .ref (a0 0)), (1, .int x1), (2, .int x2), (3, .ref q5)]) C dL_setLimit_17 (by decide) rfl ?_
      refine ww_iconst (v := 2) C dL_setLimit_19 (by decide) ?_
      obtain rfl := Option.some.inj hf
      refine ww_widen (k := 2) (n := 12) (by decide) (by decide) ?_
      exact ww_iret C ⟨rfl, rfl⟩ dL_setLimit_20
  · skip
    intro u5 e_u5
    replace hf := exCo e_u5 hf
    rintro _ _ ⟨rfl, rfl⟩
    refine ww_perm (gs' := [wGW E a0 (rf10 (a1 0) h0_1 (a2 0) (a4 0) h0_4 h0_5 h0_6 h0_7 h0_8 h0_9) v0, wHouse E a1 u5.2.1, wHist E a2 (rf2 q3 h2_1) u5.2.2.1, wHs E q3 ah3 u5.2.2.2.1, wSight E a4 u5.2.2.2.2, wLon E q5 v5]) [0, 1, 2, 3, 4, 5] 6 rfl (by decide) rfl ?_
    refine ww_i2l C dL_setLimit_8 ?_
    obtain ⟨g_1, hf⟩ := gdE hf
    obtain ⟨v5_9, e_v5_9⟩ : ∃ y : Nat → Int64, y = vp_updL v5 (Int32.toNatClampNeg 0) (Int32.toInt64 u5.1) := ⟨_, rfl⟩
    replace hf := ltE e_v5_9 hf
    refine ww_last C (f := v5) (w := wLon E q5 v5) (w' := wLon E q5 v5_9) (gs' := [wGW E a0 (rf10 (a1 0) h0_1 (a2 0) (a4 0) h0_4 h0_5 h0_6 h0_7 h0_8 h0_9) v0, wHouse E a1 u5.2.1, wHist E a2 (rf2 q3 h2_1) u5.2.2.1, wHs E q3 ah3 u5.2.2.2.1, wSight E a4 u5.2.2.2.2, wLon E q5 v5_9]) 5 0 rfl q_Lon (inB_vp g_1) (by rw [e_v5_9]; exact s_Lon) rfl dL_setLimit_9 ?_
    refine ww_goto (tgt := 21) C dL_setLimit_10 (by decide) ?_
    refine ww_iconst (v := 0) C dL_setLimit_21 (by decide) ?_
    obtain rfl := Option.some.inj hf
    refine ww_widen (k := 2) (n := 12) (by decide) (by decide) ?_
    exact ww_iret C ⟨rfl, rfl⟩ dL_setLimit_22

theorem ysk_L_setLimit : yL_setLimit.cls ≠ "java/lang/invoke/MethodHandle" ∧ yL_setLimit.cls ≠ "java/lang/invoke/VarHandle" ∧ (parseMethodDescriptor yL_setLimit.desc).map (fun d => d.parameters.length) = some 4 := by decide +kernel
abbrev rmL_change : Room := { frames := 10, cells := 1, slots := 6, locals := 316 }
set_option maxHeartbeats 4000000 in
set_option maxRecDepth 100000 in
theorem c_L_change {E : Ex} {a0 : Nat → Nat} {a1 : Nat → Nat} {a2 : Nat → Nat} {a3 : Nat → Nat} {q4 : Nat} {ah4 : Nat → Nat → Nat} {a5 : Nat → Nat} {a6 : Nat → Nat} {q7 : Nat} {h0_3 h0_4 h0_5 h0_6 h0_9 h3_1 : Nat} {x1 : Int32} {v0 : GWV} {v1 : HouseV} {v2 : HouseV} {v3 : HistV} {v4 : Nat → HouseV} {v5 : ToksV} {v7 : Nat → Int64} {r : (Int32 × GWV × HouseV × HouseV × HistV × (Nat → HouseV) × ToksV × (Nat → Int64))} (hf : L_change x1 v0 v1 v2 v3 v4 v5 v7 = some r) : CtL E yL_change wsL_change rmL_change [.ref (a0 0), .int x1, .ref q7] [wGW E a0 (rf10 (a1 0) (a2 0) (a3 0) h0_3 h0_4 h0_5 h0_6 (a5 0) (a6 0) h0_9) v0, wHouse E a1 v1, wHouse E a2 v2, wHist E a3 (rf2 q4 h3_1) v3, wHs E q4 ah4 v4, wToks E a5 v5, wHRead E a6 (rf1 (a5 0)), wLon E q7 v7] (fun rv g => rv = some (.int r.1) ∧ g = [wGW E a0 (rf10 (a1 0) (a2 0) (a3 0) h0_3 h0_4 h0_5 h0_6 (a5 0) (a6 0) h0_9) r.2.1, wHouse E a1 r.2.2.1, wHouse E a2 r.2.2.2.1, wHist E a3 (rf2 q4 h3_1) r.2.2.2.2.1, wHs E q4 ah4 r.2.2.2.2.2.1, wToks E a5 r.2.2.2.2.2.2.1, wHRead E a6 (rf1 (a5 0)), wLon E q7 r.2.2.2.2.2.2.2]) := by
  refine ctl_of (own := RL) (by decide +kernel) rfl rfl (Nat.le_of_ble_eq_true rfl) (fun K C L0 => ?_)
  refine ww_sub C (lv' := [(0, .ref (a0 0)), (1, .int x1), (2, .ref q7)]) [0, 1, 2] rfl ?_
  rw [L_change] at hf
  refine ww_aload_n C dL_change_0 rfl 2 rfl ?_
  refine ww_iconst (v := 0) C dL_change_1 (by decide) ?_
  refine ww_aload_n C dL_change_2 rfl 0 rfl ?_
  refine ww_iload_n C dL_change_3 rfl 1 rfl ?_
  obtain ⟨p4, hp4, hf⟩ := bdE hf
  refine ww_callVC C L0 (As := [.int x1]) (st := [.int 0, .ref q7]) (gr := [wLon E q7 v7]) (c_X8_change (E := E) (a0 := a0) (h0_3 := h0_3) (h0_4 := h0_4) (h0_5 := h0_5) (h0_6 := h0_6) (h0_9 := h0_9) (a1 := a1) (a2 := a2) (a3 := a3) (h3_1 := h3_1) (q4 := q4) (ah4 := ah4) (a5 := a5) (a6 := a6) hp4) gL_change_X8_change rfl yk_X8_change ⟨by decide, by decide⟩ ⟨by decide, by decide⟩ clOK8 0 0 rfl rfl [0, 1, 2, 3, 4, 5, 6] [7] 8 rfl (by decide) rfl rfl (Nat.le_of_ble_eq_true rfl) dL_change_4 (fun b4 e_u4 q4 => ?_) ?_
  · replace hf := exCe e_u4 hf
    cases b4 with
    | false =>
      replace hf := bfE rfl hf
      cases hf
    | true =>
      replace hf := btE rfl hf
      refine ww_catch0 C L0 (by decide) (by decide) (by decide +kernel) ?_
      refine ww_astore_n (lv' := [(3, .ref q4), (0, .ref (a0 0)), (1, .int x1), (2, .ref q7)]) C dL_change_12 rfl (by decide) rfl ?_
      refine ww_iconst (v := 1) C dL_change_13 (by decide) ?_
      obtain rfl := Option.some.inj hf
      refine ww_widen (k := 1) (n := 6) (by decide) (by decide) ?_
      exact ww_iret C ⟨rfl, rfl⟩ dL_change_14
  · skip
    intro u4 e_u4
    replace hf := exCo e_u4 hf
    rintro _ _ ⟨rfl, rfl⟩
    refine ww_perm (gs' := [wGW E a0 (rf10 (a1 0) (a2 0) (a3 0) h0_3 h0_4 h0_5 h0_6 (a5 0) (a6 0) h0_9) u4.2.1, wHouse E a1 u4.2.2.1, wHouse E a2 u4.2.2.2.1, wHist E a3 (rf2 q4 h3_1) u4.2.2.2.2.1, wHs E q4 ah4 u4.2.2.2.2.2.1, wToks E a5 u4.2.2.2.2.2.2, wHRead E a6 (rf1 (a5 0)), wLon E q7 v7]) [0, 1, 2, 3, 4, 5, 6, 7] 8 rfl (by decide) rfl ?_
    refine ww_i2l C dL_change_7 ?_
    obtain ⟨g_1, hf⟩ := gdE hf
    obtain ⟨v7_8, e_v7_8⟩ : ∃ y : Nat → Int64, y = vp_updL v7 (Int32.toNatClampNeg 0) (Int32.toInt64 u4.1) := ⟨_, rfl⟩
    replace hf := ltE e_v7_8 hf
    refine ww_last C (f := v7) (w := wLon E q7 v7) (w' := wLon E q7 v7_8) (gs' := [wGW E a0 (rf10 (a1 0) (a2 0) (a3 0) h0_3 h0_4 h0_5 h0_6 (a5 0) (a6 0) h0_9) u4.2.1, wHouse E a1 u4.2.2.1, wHouse E a2 u4.2.2.2.1, wHist E a3 (rf2 q4 h3_1) u4.2.2.2.2.1, wHs E q4 ah4 u4.2.2.2.2.2.1, wToks E a5 u4.2.2.2.2.2.2, wHRead E a6 (rf1 (a5 0)), wLon E q7 v7_8]) 7 0 rfl q_Lon (inB_vp g_1) (by rw [e_v7_8]; exact s_Lon) rfl dL_change_8 ?_
    refine ww_goto (tgt := 15) C dL_change_9 (by decide) ?_
    refine ww_iconst (v := 0) C dL_change_15 (by decide) ?_
    obtain rfl := Option.some.inj hf
    refine ww_widen (k := 1) (n := 6) (by decide) (by decide) ?_
    exact ww_iret C ⟨rfl, rfl⟩ dL_change_16

theorem ysk_L_change : yL_change.cls ≠ "java/lang/invoke/MethodHandle" ∧ yL_change.cls ≠ "java/lang/invoke/VarHandle" ∧ (parseMethodDescriptor yL_change.desc).map (fun d => d.parameters.length) = some 3 := by decide +kernel
abbrev rmL_query : Room := { frames := 85, cells := 1, slots := 6, locals := 4171 }
set_option maxHeartbeats 4000000 in
set_option maxRecDepth 100000 in
theorem c_L_query {E : Ex} {a0 : Nat → Nat} {a1 : Nat → Nat} {a2 : Nat → Nat} {a3 : Nat → Nat} {a4 : Nat → Nat} {q5 : Nat} {q6 : Nat} {q7 : Nat} {h0_1 h0_2 h0_4 h0_5 h0_6 h0_8 : Nat} {x1 : Int32} {v0 : GWV} {v1 : HouseV} {v2 : SightV} {v3 : ToksV} {v4 : QReadV} {v5 : Nat → Int32} {v6 : Nat → Int32} {v7 : Nat → Int64} {r : (Int32 × GWV × SightV × ToksV × QReadV × (Nat → Int32) × (Nat → Int32) × (Nat → Int64))} (hf : L_query x1 v0 v1 v2 v3 v4 v5 v6 v7 = some r) : CtL E yL_query wsL_query rmL_query [.ref (a0 0), .int x1, .ref q7] [wGW E a0 (rf10 (a1 0) h0_1 h0_2 (a2 0) h0_4 h0_5 h0_6 (a3 0) h0_8 (a4 0)) v0, wHouse E a1 v1, wSight E a2 v2, wToks E a3 v3, wQRead E a4 (rf3 (a3 0) q5 q6) v4, wArr E q5 12 v5, wArr E q6 12 v6, wLon E q7 v7] (fun rv g => rv = some (.int r.1) ∧ g = [wGW E a0 (rf10 (a1 0) h0_1 h0_2 (a2 0) h0_4 h0_5 h0_6 (a3 0) h0_8 (a4 0)) r.2.1, wHouse E a1 v1, wSight E a2 r.2.2.1, wToks E a3 r.2.2.2.1, wQRead E a4 (rf3 (a3 0) q5 q6) r.2.2.2.2.1, wArr E q5 12 r.2.2.2.2.2.1, wArr E q6 12 r.2.2.2.2.2.2.1, wLon E q7 r.2.2.2.2.2.2.2]) := by
  refine ctl_of (own := RL) (by decide +kernel) rfl rfl (Nat.le_of_ble_eq_true rfl) (fun K C L0 => ?_)
  refine ww_sub C (lv' := [(0, .ref (a0 0)), (1, .int x1), (2, .ref q7)]) [0, 1, 2] rfl ?_
  rw [L_query] at hf
  refine ww_aload_n C dL_query_0 rfl 2 rfl ?_
  refine ww_iconst (v := 0) C dL_query_1 (by decide) ?_
  refine ww_aload_n C dL_query_2 rfl 0 rfl ?_
  refine ww_iload_n C dL_query_3 rfl 1 rfl ?_
  obtain ⟨p4, hp4, hf⟩ := bdE hf
  refine ww_callVC C L0 (As := [.int x1]) (st := [.int 0, .ref q7]) (gr := [wLon E q7 v7]) (c_X8_query (E := E) (a0 := a0) (h0_1 := h0_1) (h0_2 := h0_2) (h0_4 := h0_4) (h0_5 := h0_5) (h0_6 := h0_6) (h0_8 := h0_8) (a1 := a1) (a2 := a2) (a3 := a3) (a4 := a4) (q5 := q5) (q6 := q6) hp4) gL_query_X8_query rfl yk_X8_query ⟨by decide, by decide⟩ ⟨by decide, by decide⟩ clOK8 0 0 rfl rfl [0, 1, 2, 3, 4, 5, 6] [7] 8 rfl (by decide) rfl rfl (Nat.le_of_ble_eq_true rfl) dL_query_4 (fun b4 e_u4 q4 => ?_) ?_
  · replace hf := exCe e_u4 hf
    cases b4 with
    | false =>
      replace hf := bfE rfl hf
      cases hf
    | true =>
      replace hf := btE rfl hf
      refine ww_catch0 C L0 (by decide) (by decide) (by decide +kernel) ?_
      refine ww_astore_n (lv' := [(3, .ref q4), (0, .ref (a0 0)), (1, .int x1), (2, .ref q7)]) C dL_query_12 rfl (by decide) rfl ?_
      refine ww_iconst (v := 1) C dL_query_13 (by decide) ?_
      obtain rfl := Option.some.inj hf
      refine ww_widen (k := 1) (n := 6) (by decide) (by decide) ?_
      exact ww_iret C ⟨rfl, rfl⟩ dL_query_14
  · skip
    intro u4 e_u4
    replace hf := exCo e_u4 hf
    rintro _ _ ⟨rfl, rfl⟩
    refine ww_perm (gs' := [wGW E a0 (rf10 (a1 0) h0_1 h0_2 (a2 0) h0_4 h0_5 h0_6 (a3 0) h0_8 (a4 0)) u4.2.1, wHouse E a1 v1, wSight E a2 u4.2.2.1, wToks E a3 u4.2.2.2.1, wQRead E a4 (rf3 (a3 0) q5 q6) u4.2.2.2.2.1, wArr E q5 12 u4.2.2.2.2.2.1, wArr E q6 12 u4.2.2.2.2.2.2, wLon E q7 v7]) [0, 1, 2, 3, 4, 5, 6, 7] 8 rfl (by decide) rfl ?_
    refine ww_i2l C dL_query_7 ?_
    obtain ⟨g_1, hf⟩ := gdE hf
    obtain ⟨v7_8, e_v7_8⟩ : ∃ y : Nat → Int64, y = vp_updL v7 (Int32.toNatClampNeg 0) (Int32.toInt64 u4.1) := ⟨_, rfl⟩
    replace hf := ltE e_v7_8 hf
    refine ww_last C (f := v7) (w := wLon E q7 v7) (w' := wLon E q7 v7_8) (gs' := [wGW E a0 (rf10 (a1 0) h0_1 h0_2 (a2 0) h0_4 h0_5 h0_6 (a3 0) h0_8 (a4 0)) u4.2.1, wHouse E a1 v1, wSight E a2 u4.2.2.1, wToks E a3 u4.2.2.2.1, wQRead E a4 (rf3 (a3 0) q5 q6) u4.2.2.2.2.1, wArr E q5 12 u4.2.2.2.2.2.1, wArr E q6 12 u4.2.2.2.2.2.2, wLon E q7 v7_8]) 7 0 rfl q_Lon (inB_vp g_1) (by rw [e_v7_8]; exact s_Lon) rfl dL_query_8 ?_
    refine ww_goto (tgt := 15) C dL_query_9 (by decide) ?_
    refine ww_iconst (v := 0) C dL_query_15 (by decide) ?_
    obtain rfl := Option.some.inj hf
    refine ww_widen (k := 1) (n := 6) (by decide) (by decide) ?_
    exact ww_iret C ⟨rfl, rfl⟩ dL_query_16

theorem ysk_L_query : yL_query.cls ≠ "java/lang/invoke/MethodHandle" ∧ yL_query.cls ≠ "java/lang/invoke/VarHandle" ∧ (parseMethodDescriptor yL_query.desc).map (fun d => d.parameters.length) = some 3 := by decide +kernel
