abbrev rmX8_coverage : Room := { frames := 5, cells := 0, slots := 0, locals := 109 }
set_option maxRecDepth 20000 in
theorem in_X8_coverage_X2 : ∀ w ∈ u_ws RX2 TX2 19, w ∈ wsX8_coverage := by decide +kernel
set_option maxRecDepth 20000 in
theorem in_X8_coverage_X8 : ∀ w ∈ u_ws RX8 TX8 14, w ∈ wsX8_coverage := by decide +kernel
set_option maxHeartbeats 4000000 in
set_option maxRecDepth 100000 in
theorem c_X8_coverage {E : Ex} {a0 : Nat → Nat} {a1 : Nat → Nat} {a2 : Nat → Nat} {h0_1 h0_2 h0_4 h0_5 h0_6 h0_7 h0_8 h0_9 : Nat} {v0 : GWV} {v1 : HouseV} {v2 : SightV} {r : (UInt64 × SightV)} (hf : GW_coverage v0 v1 v2 = some r) : Ct E yX8_coverage wsX8_coverage rmX8_coverage [.ref (a0 0)] [wGW E a0 (rf10 (a1 0) h0_1 h0_2 (a2 0) h0_4 h0_5 h0_6 h0_7 h0_8 h0_9) v0, wHouse E a1 v1, wSight E a2 v2] (fun rv g => rv = some (.double r.1) ∧ g = [wGW E a0 (rf10 (a1 0) h0_1 h0_2 (a2 0) h0_4 h0_5 h0_6 h0_7 h0_8 h0_9) v0, wHouse E a1 v1, wSight E a2 r.2]) := by
  refine ct_of (own := RX8) (by decide +kernel) rfl rfl (Nat.le_of_ble_eq_true rfl) (fun K C => ?_)
  refine ww_sub C (lv' := [(0, .ref (a0 0))]) [0] rfl ?_
  rw [GW_coverage] at hf
  refine ww_aload_n C dX8_coverage_0 rfl 0 rfl ?_
  refine ww_get C clOK8 in_X8_coverage_X8 (w := wGW E a0 (rf10 (a1 0) h0_1 h0_2 (a2 0) h0_4 h0_5 h0_6 h0_7 h0_8 h0_9) v0) (fs := fsGW a0 (rf10 (a1 0) h0_1 h0_2 (a2 0) h0_4 h0_5 h0_6 h0_7 h0_8 h0_9) v0) (v := .ref (a1 0)) 0 0 0 rfl q_GW (by decide) (by decide +kernel) g_GW_house dX8_coverage_1 ?_
  refine ww_get C clOK2 in_X8_coverage_X2 (w := wHouse E a1 v1) (fs := fsHouse a1 v1) (v := .int (House_rooms v1)) 1 0 0 rfl q_House (by decide) (by decide +kernel) g_House_rooms dX8_coverage_4 ?_
  refine ww_aload_n C dX8_coverage_7 rfl 0 rfl ?_
  refine ww_get C clOK8 in_X8_coverage_X8 (w := wGW E a0 (rf10 (a1 0) h0_1 h0_2 (a2 0) h0_4 h0_5 h0_6 h0_7 h0_8 h0_9) v0) (fs := fsGW a0 (rf10 (a1 0) h0_1 h0_2 (a2 0) h0_4 h0_5 h0_6 h0_7 h0_8 h0_9) v0) (v := .ref (a1 0)) 0 0 0 rfl q_GW (by decide) (by decide +kernel) g_GW_house dX8_coverage_8 ?_
  obtain ⟨p11, hp11, hf⟩ := bdE hf
  refine ww_callV C (As := []) (st := [.int (House_rooms v1)]) (gr := [wGW E a0 (rf10 (a1 0) h0_1 h0_2 (a2 0) h0_4 h0_5 h0_6 h0_7 h0_8 h0_9) v0, wSight E a2 v2]) (c_X2_cycleLength (E := E) (a0 := a1) hp11) gX8_coverage_X2_cycleLength rfl yk_X2_cycleLength ⟨by decide, by decide⟩ ⟨by decide, by decide⟩ clOK2 0 0 rfl rfl [1] [0, 2] 3 rfl (by decide) rfl rfl (Nat.le_of_ble_eq_true rfl) dX8_coverage_11 ?_
  rintro _ _ ⟨rfl, rfl⟩
  refine ww_perm (gs' := [wGW E a0 (rf10 (a1 0) h0_1 h0_2 (a2 0) h0_4 h0_5 h0_6 h0_7 h0_8 h0_9) v0, wHouse E a1 v1, wSight E a2 v2]) [1, 0, 2] 3 rfl (by decide) rfl ?_
  refine ww_imul C dX8_coverage_14 ?_
  refine ww_topi (fun x1_15 e_x1_15 => ?_)
  replace hf := ltE e_x1_15 hf
  refine ww_istore_n (lv' := [(1, .int x1_15), (0, .ref (a0 0))]) C dX8_coverage_15 rfl (by decide) rfl ?_
  refine ww_iload_n C dX8_coverage_16 rfl 0 rfl ?_
  refine ww_if_gt (tgt := 22) C dX8_coverage_17 (by decide) (fun c_2 => ?_) (fun c_2 => ?_)
  · replace hf := ifT c_2 hf
    refine ww_aload_n C dX8_coverage_22 rfl 1 rfl ?_
    obtain ⟨p23, hp23, hf⟩ := bdE hf
    refine ww_callV C (As := []) (st := []) (gr := []) (c_X8_measured (E := E) (a0 := a0) (h0_1 := h0_1) (h0_2 := h0_2) (h0_4 := h0_4) (h0_5 := h0_5) (h0_6 := h0_6) (h0_7 := h0_7) (h0_8 := h0_8) (h0_9 := h0_9) (a1 := a1) (a2 := a2) hp23) gX8_coverage_X8_measured rfl yk_X8_measured ⟨by decide, by decide⟩ ⟨by decide, by decide⟩ clOK8 0 0 rfl rfl [0, 1, 2] [] 3 rfl (by decide) rfl rfl (Nat.le_of_ble_eq_true rfl) dX8_coverage_23 ?_
    rintro _ _ ⟨rfl, rfl⟩
    refine ww_perm (gs' := [wGW E a0 (rf10 (a1 0) h0_1 h0_2 (a2 0) h0_4 h0_5 h0_6 h0_7 h0_8 h0_9) v0, wHouse E a1 v1, wSight E a2 p23]) [0, 1, 2] 3 rfl (by decide) rfl ?_
    refine ww_aload_n C dX8_coverage_26 rfl 1 rfl ?_
    refine ww_get C clOK8 in_X8_coverage_X8 (w := wGW E a0 (rf10 (a1 0) h0_1 h0_2 (a2 0) h0_4 h0_5 h0_6 h0_7 h0_8 h0_9) v0) (fs := fsGW a0 (rf10 (a1 0) h0_1 h0_2 (a2 0) h0_4 h0_5 h0_6 h0_7 h0_8 h0_9) v0) (v := .ref (a1 0)) 0 0 0 rfl q_GW (by decide) (by decide +kernel) g_GW_house dX8_coverage_27 ?_
    obtain ⟨p30, hp30, hf⟩ := bdE hf
    refine ww_callV C (As := [.ref (a1 0)]) (st := []) (gr := [wGW E a0 (rf10 (a1 0) h0_1 h0_2 (a2 0) h0_4 h0_5 h0_6 h0_7 h0_8 h0_9) v0]) (c_X6_countSeen (E := E) (a0 := a2) (a1 := a1) hp30) gX8_coverage_X6_countSeen rfl yk_X6_countSeen ⟨by decide, by decide⟩ ⟨by decide, by decide⟩ clOK6 0 0 rfl rfl [2, 1] [0] 3 rfl (by decide) rfl rfl (Nat.le_of_ble_eq_true rfl) dX8_coverage_30 ?_
    rintro _ _ ⟨rfl, rfl⟩
    refine ww_perm (gs' := [wGW E a0 (rf10 (a1 0) h0_1 h0_2 (a2 0) h0_4 h0_5 h0_6 h0_7 h0_8 h0_9) v0, wHouse E a1 v1, wSight E a2 p23]) [2, 1, 0] 3 rfl (by decide) rfl ?_
    refine ww_i2d C dX8_coverage_33 ?_
    refine ww_iload_n C dX8_coverage_34 rfl 0 rfl ?_
    refine ww_i2d C dX8_coverage_35 ?_
    obtain ⟨g_3, hf⟩ := gdE hf
    refine ww_ddiv C g_3 dX8_coverage_36 ?_
    obtain rfl := Option.some.inj hf
    exact ww_dret C ⟨rfl, rfl⟩ dX8_coverage_37
  · replace hf := ifF c_2 hf
    refine ww_dconst0 C dX8_coverage_20 ?_
    obtain rfl := Option.some.inj hf
    exact ww_dret C ⟨rfl, rfl⟩ dX8_coverage_21

theorem yk_X8_coverage : yX8_coverage.cls = RX8 ∧ yX8_coverage.cls ≠ "java/lang/invoke/MethodHandle" ∧ yX8_coverage.cls ≠ "java/lang/invoke/VarHandle" ∧ (parseMethodDescriptor yX8_coverage.desc).map (fun d => d.parameters.length) = some 0 := by decide +kernel
abbrev rmX8_seenRate : Room := { frames := 1, cells := 0, slots := 0, locals := 22 }
set_option maxRecDepth 20000 in
theorem in_X8_seenRate_X2 : ∀ w ∈ u_ws RX2 TX2 19, w ∈ wsX8_seenRate := by decide +kernel
set_option maxRecDepth 20000 in
theorem in_X8_seenRate_X8 : ∀ w ∈ u_ws RX8 TX8 14, w ∈ wsX8_seenRate := by decide +kernel
set_option maxHeartbeats 4000000 in
set_option maxRecDepth 100000 in
theorem c_X8_seenRate {E : Ex} {a0 : Nat → Nat} {a1 : Nat → Nat} {h0_1 h0_2 h0_3 h0_4 h0_5 h0_6 h0_7 h0_8 h0_9 : Nat} {v0 : GWV} {v1 : HouseV} {r : UInt32} (hf : GW_seenRate v0 v1 = some r) : Ct E yX8_seenRate wsX8_seenRate rmX8_seenRate [.ref (a0 0)] [wGW E a0 (rf10 (a1 0) h0_1 h0_2 h0_3 h0_4 h0_5 h0_6 h0_7 h0_8 h0_9) v0, wHouse E a1 v1] (fun rv g => rv = some (.float r) ∧ g = [wGW E a0 (rf10 (a1 0) h0_1 h0_2 h0_3 h0_4 h0_5 h0_6 h0_7 h0_8 h0_9) v0, wHouse E a1 v1]) := by
  refine ct_of (own := RX8) (by decide +kernel) rfl rfl (Nat.le_of_ble_eq_true rfl) (fun K C => ?_)
  refine ww_sub C (lv' := [(0, .ref (a0 0))]) [0] rfl ?_
  rw [GW_seenRate] at hf
  refine ww_aload_n C dX8_seenRate_0 rfl 0 rfl ?_
  refine ww_get C clOK8 in_X8_seenRate_X8 (w := wGW E a0 (rf10 (a1 0) h0_1 h0_2 h0_3 h0_4 h0_5 h0_6 h0_7 h0_8 h0_9) v0) (fs := fsGW a0 (rf10 (a1 0) h0_1 h0_2 h0_3 h0_4 h0_5 h0_6 h0_7 h0_8 h0_9) v0) (v := .ref (a1 0)) 0 0 0 rfl q_GW (by decide) (by decide +kernel) g_GW_house dX8_seenRate_1 ?_
  refine ww_get C clOK2 in_X8_seenRate_X2 (w := wHouse E a1 v1) (fs := fsHouse a1 v1) (v := .int (House_minute v1)) 1 0 3 rfl q_House (by decide) (by decide +kernel) g_House_minute dX8_seenRate_4 ?_
  refine ww_if_gt (tgt := 12) C dX8_seenRate_7 (by decide) (fun c_1 => ?_) (fun c_1 => ?_)
  · replace hf := ifT c_1 hf
    refine ww_aload_n C dX8_seenRate_12 rfl 0 rfl ?_
    refine ww_get C clOK8 in_X8_seenRate_X8 (w := wGW E a0 (rf10 (a1 0) h0_1 h0_2 h0_3 h0_4 h0_5 h0_6 h0_7 h0_8 h0_9) v0) (fs := fsGW a0 (rf10 (a1 0) h0_1 h0_2 h0_3 h0_4 h0_5 h0_6 h0_7 h0_8 h0_9) v0) (v := .ref (a1 0)) 0 0 0 rfl q_GW (by decide) (by decide +kernel) g_GW_house dX8_seenRate_13 ?_
    obtain ⟨p16, hp16, hf⟩ := bdE hf
    refine ww_callV C (As := []) (st := []) (gr := [wGW E a0 (rf10 (a1 0) h0_1 h0_2 h0_3 h0_4 h0_5 h0_6 h0_7 h0_8 h0_9) v0]) (c_X2_countSightings (E := E) (a0 := a1) hp16) gX8_seenRate_X2_countSightings rfl yk_X2_countSightings ⟨by decide, by decide⟩ ⟨by decide, by decide⟩ clOK2 0 0 rfl rfl [1] [0] 2 rfl (by decide) rfl rfl (Nat.le_of_ble_eq_true rfl) dX8_seenRate_16 ?_
    rintro _ _ ⟨rfl, rfl⟩
    refine ww_perm (gs' := [wGW E a0 (rf10 (a1 0) h0_1 h0_2 h0_3 h0_4 h0_5 h0_6 h0_7 h0_8 h0_9) v0, wHouse E a1 v1]) [1, 0] 2 rfl (by decide) rfl ?_
    refine ww_i2f C dX8_seenRate_19 ?_
    refine ww_aload_n C dX8_seenRate_20 rfl 0 rfl ?_
    refine ww_get C clOK8 in_X8_seenRate_X8 (w := wGW E a0 (rf10 (a1 0) h0_1 h0_2 h0_3 h0_4 h0_5 h0_6 h0_7 h0_8 h0_9) v0) (fs := fsGW a0 (rf10 (a1 0) h0_1 h0_2 h0_3 h0_4 h0_5 h0_6 h0_7 h0_8 h0_9) v0) (v := .ref (a1 0)) 0 0 0 rfl q_GW (by decide) (by decide +kernel) g_GW_house dX8_seenRate_21 ?_
    refine ww_get C clOK2 in_X8_seenRate_X2 (w := wHouse E a1 v1) (fs := fsHouse a1 v1) (v := .int (House_minute v1)) 1 0 3 rfl q_House (by decide) (by decide +kernel) g_House_minute dX8_seenRate_24 ?_
    refine ww_i2f C dX8_seenRate_27 ?_
    obtain ⟨g_2, hf⟩ := gdE hf
    refine ww_fdiv C g_2 dX8_seenRate_28 ?_
    obtain rfl := Option.some.inj hf
    exact ww_fret C ⟨rfl, rfl⟩ dX8_seenRate_29
  · replace hf := ifF c_1 hf
    refine ww_fconst0 C dX8_seenRate_10 ?_
    obtain rfl := Option.some.inj hf
    exact ww_fret C ⟨rfl, rfl⟩ dX8_seenRate_11

theorem yk_X8_seenRate : yX8_seenRate.cls = RX8 ∧ yX8_seenRate.cls ≠ "java/lang/invoke/MethodHandle" ∧ yX8_seenRate.cls ≠ "java/lang/invoke/VarHandle" ∧ (parseMethodDescriptor yX8_seenRate.desc).map (fun d => d.parameters.length) = some 0 := by decide +kernel
abbrev rmX9_copy : Room := { frames := 0, cells := 0, slots := 0, locals := 0 }
set_option maxHeartbeats 4000000 in
set_option maxRecDepth 100000 in
theorem w_X9_copy_3 {E : Ex} {K : Kx} (C : Cx E K cX9_copy 5 none RX9 wsX9_copy rmX9_copy) {q0 : Nat} {q1 : Nat} {x1 : Int32} {x3 : Int32} {v0 : Nat → Int32} {n0 : Nat} {n1 : Nat}  {r : (Nat → Int32)} : ∀ (n : Nat) (x4 : Int32) (v1 : Nat → Int32), Mod_copy_3 x1 x3 v0 n0 n1 n x4 v1 = some r → WW E K 0 0 (QQ E K (fun rv g => rv = none ∧ g = [wArr E q0 n0 v0, wArr E q1 n1 r]) 0 0) 3 [(0, .ref q0), (1, .int x1), (2, .ref q1), (3, .int x3), (4, .int x4)] [] [wArr E q0 n0 v0, wArr E q1 n1 v1] := by
  intro n
  induction n with
  | zero =>
    intro x4 v1 hf
    simp [Mod_copy_3] at hf
  | succ n ih =>
    intro x4 v1 hf
    rw [Mod_copy_3] at hf
    refine ww_iload C dX9_copy_3 4 rfl ?_
    refine ww_sipush (v := 172) C dX9_copy_5 (by decide) ?_
    refine ww_icmp_ge (tgt := 37) C dX9_copy_8 (by decide) (fun c_1 => ?_) (fun c_1 => ?_)
    · replace hf := ifT c_1 hf
      obtain rfl := Option.some.inj hf
      exact ww_vret C ⟨rfl, rfl⟩ dX9_copy_37
    · replace hf := ifF c_1 hf
      refine ww_aload_n C dX9_copy_11 rfl 2 rfl ?_
      refine ww_sipush (v := 172) C dX9_copy_12 (by decide) ?_
      refine ww_iload_n C dX9_copy_15 rfl 3 rfl ?_
      refine ww_imul C dX9_copy_16 ?_
      refine ww_iload C dX9_copy_17 4 rfl ?_
      refine ww_iadd C dX9_copy_19 ?_
      refine ww_aload_n C dX9_copy_20 rfl 0 rfl ?_
      refine ww_sipush (v := 172) C dX9_copy_21 (by decide) ?_
      refine ww_iload_n C dX9_copy_24 rfl 1 rfl ?_
      refine ww_imul C dX9_copy_25 ?_
      refine ww_iload C dX9_copy_26 4 rfl ?_
      refine ww_iadd C dX9_copy_28 ?_
      obtain ⟨g_2, hf⟩ := gdE hf
      refine ww_iald C (f := v0) (w := wArr E q0 n0 v0) 0 0 rfl q_Arr (inB_vp g_2) dX9_copy_29 ?_
      obtain ⟨g_3, hf⟩ := gdE hf
      obtain ⟨v1_30, e_v1_30⟩ : ∃ y : Nat → Int32, y = upd v1 (Int32.toNatClampNeg ((172 * x3) + x4)) (v0 (Int32.toNatClampNeg ((172 * x1) + x4))) := ⟨_, rfl⟩
      replace hf := ltE e_v1_30 hf
      refine ww_iast C (f := v1) (w := wArr E q1 n1 v1) (w' := wArr E q1 n1 v1_30) (gs' := [wArr E q0 n0 v0, wArr E q1 n1 v1_30]) 1 0 rfl q_Arr (inB_vp g_3) (by rw [e_v1_30]; exact s_Arr) rfl dX9_copy_30 ?_
      obtain ⟨x4_31, e_x4_31⟩ : ∃ y : Int32, y = x4 + 1 := ⟨_, rfl⟩
      replace hf := ltE e_x4_31 hf
      refine ww_iinc (v := x4_31) (lv' := [(4, .int x4_31), (0, .ref q0), (1, .int x1), (2, .ref q1), (3, .int x3)]) C dX9_copy_31 4 rfl (by rw [e_x4_31]; rfl) (by decide) rfl ?_
      refine ww_goto (tgt := 3) C dX9_copy_34 (by decide) ?_
      refine ww_sub C (lv' := [(0, .ref q0), (1, .int x1), (2, .ref q1), (3, .int x3), (4, .int x4_31)]) [1, 2, 3, 4, 0] rfl ?_
      exact ih _ _ hf

set_option maxHeartbeats 4000000 in
set_option maxRecDepth 100000 in
theorem c_X9_copy {E : Ex} {q0 : Nat} {q1 : Nat} {x1 : Int32} {x3 : Int32} {n0 : Nat} {v0 : Nat → Int32} {n1 : Nat} {v1 : Nat → Int32} {r : (Nat → Int32)} (hf : Mod_copy x1 x3 n0 v0 n1 v1 = some r) : Ct E yX9_copy wsX9_copy rmX9_copy [.ref q0, .int x1, .ref q1, .int x3] [wArr E q0 n0 v0, wArr E q1 n1 v1] (fun rv g => rv = none ∧ g = [wArr E q0 n0 v0, wArr E q1 n1 r]) := by
  refine ct_of (own := RX9) (by decide +kernel) rfl rfl (Nat.le_of_ble_eq_true rfl) (fun K C => ?_)
  refine ww_sub C (lv' := [(0, .ref q0), (1, .int x1), (2, .ref q1), (3, .int x3)]) [0, 1, 2, 3] rfl ?_
  rw [Mod_copy] at hf
  refine ww_iconst (v := 0) C dX9_copy_0 (by decide) ?_
  refine ww_istore (lv' := [(4, .int 0), (0, .ref q0), (1, .int x1), (2, .ref q1), (3, .int x3)]) C dX9_copy_1 (by decide) rfl ?_
  refine ww_sub C (lv' := [(0, .ref q0), (1, .int x1), (2, .ref q1), (3, .int x3), (4, .int 0)]) [1, 2, 3, 4, 0] rfl ?_
  exact w_X9_copy_3 C FU _ _ hf

theorem ysk_X9_copy : yX9_copy.cls ≠ "java/lang/invoke/MethodHandle" ∧ yX9_copy.cls ≠ "java/lang/invoke/VarHandle" ∧ (parseMethodDescriptor yX9_copy.desc).map (fun d => d.parameters.length) = some 4 := by decide +kernel
abbrev rmX9_copy_S : Room := { frames := 0, cells := 0, slots := 0, locals := 0 }
set_option maxHeartbeats 4000000 in
set_option maxRecDepth 100000 in
theorem w_X9_copy_S_3 {E : Ex} {K : Kx} (C : Cx E K cX9_copy 5 none RX9 wsX9_copy rmX9_copy_S) {q0 : Nat} {x1 : Int32} {x3 : Int32} {n0 : Nat}  {r : (Nat → Int32)} : ∀ (n : Nat) (x4 : Int32) (v0 : Nat → Int32), Mod_copyS_3 x1 x3 n0 n x4 v0 = some r → WW E K 0 0 (QQ E K (fun rv g => rv = none ∧ g = [wArr E q0 n0 r]) 0 0) 3 [(0, .ref q0), (1, .int x1), (2, .ref q0), (3, .int x3), (4, .int x4)] [] [wArr E q0 n0 v0] := by
  intro n
  induction n with
  | zero =>
    intro x4 v0 hf
    simp [Mod_copyS_3] at hf
  | succ n ih =>
    intro x4 v0 hf
    rw [Mod_copyS_3] at hf
    refine ww_iload C dX9_copy_3 4 rfl ?_
    refine ww_sipush (v := 172) C dX9_copy_5 (by decide) ?_
    refine ww_icmp_ge (tgt := 37) C dX9_copy_8 (by decide) (fun c_1 => ?_) (fun c_1 => ?_)
    · replace hf := ifT c_1 hf
      obtain rfl := Option.some.inj hf
      exact ww_vret C ⟨rfl, rfl⟩ dX9_copy_37
    · replace hf := ifF c_1 hf
      refine ww_aload_n C dX9_copy_11 rfl 2 rfl ?_
      refine ww_sipush (v := 172) C dX9_copy_12 (by decide) ?_
      refine ww_iload_n C dX9_copy_15 rfl 3 rfl ?_
      refine ww_imul C dX9_copy_16 ?_
      refine ww_iload C dX9_copy_17 4 rfl ?_
      refine ww_iadd C dX9_copy_19 ?_
      refine ww_aload_n C dX9_copy_20 rfl 0 rfl ?_
      refine ww_sipush (v := 172) C dX9_copy_21 (by decide) ?_
      refine ww_iload_n C dX9_copy_24 rfl 1 rfl ?_
      refine ww_imul C dX9_copy_25 ?_
      refine ww_iload C dX9_copy_26 4 rfl ?_
      refine ww_iadd C dX9_copy_28 ?_
      obtain ⟨g_2, hf⟩ := gdE hf
      refine ww_iald C (f := v0) (w := wArr E q0 n0 v0) 0 0 rfl q_Arr (inB_vp g_2) dX9_copy_29 ?_
      obtain ⟨g_3, hf⟩ := gdE hf
      obtain ⟨v0_30, e_v0_30⟩ : ∃ y : Nat → Int32, y = upd v0 (Int32.toNatClampNeg ((172 * x3) + x4)) (v0 (Int32.toNatClampNeg ((172 * x1) + x4))) := ⟨_, rfl⟩
      replace hf := ltE e_v0_30 hf
      refine ww_iast C (f := v0) (w := wArr E q0 n0 v0) (w' := wArr E q0 n0 v0_30) (gs' := [wArr E q0 n0 v0_30]) 0 0 rfl q_Arr (inB_vp g_3) (by rw [e_v0_30]; exact s_Arr) rfl dX9_copy_30 ?_
      obtain ⟨x4_31, e_x4_31⟩ : ∃ y : Int32, y = x4 + 1 := ⟨_, rfl⟩
      replace hf := ltE e_x4_31 hf
      refine ww_iinc (v := x4_31) (lv' := [(4, .int x4_31), (0, .ref q0), (1, .int x1), (2, .ref q0), (3, .int x3)]) C dX9_copy_31 4 rfl (by rw [e_x4_31]; rfl) (by decide) rfl ?_
      refine ww_goto (tgt := 3) C dX9_copy_34 (by decide) ?_
      refine ww_sub C (lv' := [(0, .ref q0), (1, .int x1), (2, .ref q0), (3, .int x3), (4, .int x4_31)]) [1, 2, 3, 4, 0] rfl ?_
      exact ih _ _ hf

set_option maxHeartbeats 4000000 in
set_option maxRecDepth 100000 in
theorem c_X9_copy_S {E : Ex} {q0 : Nat} {x1 : Int32} {x3 : Int32} {n0 : Nat} {v0 : Nat → Int32} {r : (Nat → Int32)} (hf : Mod_copyS x1 x3 n0 v0 = some r) : Ct E yX9_copy wsX9_copy rmX9_copy_S [.ref q0, .int x1, .ref q0, .int x3] [wArr E q0 n0 v0] (fun rv g => rv = none ∧ g = [wArr E q0 n0 r]) := by
  refine ct_of (own := RX9) (by decide +kernel) rfl rfl (Nat.le_of_ble_eq_true rfl) (fun K C => ?_)
  refine ww_sub C (lv' := [(0, .ref q0), (1, .int x1), (2, .ref q0), (3, .int x3)]) [0, 1, 2, 3] rfl ?_
  rw [Mod_copyS] at hf
  refine ww_iconst (v := 0) C dX9_copy_0 (by decide) ?_
  refine ww_istore (lv' := [(4, .int 0), (0, .ref q0), (1, .int x1), (2, .ref q0), (3, .int x3)]) C dX9_copy_1 (by decide) rfl ?_
  refine ww_sub C (lv' := [(0, .ref q0), (1, .int x1), (2, .ref q0), (3, .int x3), (4, .int 0)]) [1, 2, 3, 4, 0] rfl ?_
  exact w_X9_copy_S_3 C FU _ _ hf

abbrev rmX9_roomAt : Room := { frames := 0, cells := 0, slots := 0, locals := 0 }
set_option maxHeartbeats 4000000 in
set_option maxRecDepth 100000 in
theorem c_X9_roomAt {E : Ex}  {x0 : Int32} {x1 : Int32} {r : Int32} (hf : Mod_roomAt x0 x1 = some r) : Ct E yX9_roomAt wsX9_roomAt rmX9_roomAt [.int x0, .int x1] [] (fun rv g => rv = some (.int r) ∧ g = []) := by
  refine ct_of (own := RX9) (by decide +kernel) rfl rfl (Nat.le_of_ble_eq_true rfl) (fun K C => ?_)
  refine ww_sub C (lv' := [(0, .int x0), (1, .int x1)]) [0, 1] rfl ?_
  rw [Mod_roomAt] at hf
  refine ww_iconst (v := 4) C dX9_roomAt_0 (by decide) ?_
  refine ww_iconst (v := 5) C dX9_roomAt_1 (by decide) ?_
  refine ww_iload_n C dX9_roomAt_2 rfl 0 rfl ?_
  refine ww_imul C dX9_roomAt_3 ?_
  refine ww_iadd C dX9_roomAt_4 ?_
  refine ww_iload_n C dX9_roomAt_5 rfl 1 rfl ?_
  refine ww_iadd C dX9_roomAt_6 ?_
  obtain rfl := Option.some.inj hf
  exact ww_iret C ⟨rfl, rfl⟩ dX9_roomAt_7

theorem ysk_X9_roomAt : yX9_roomAt.cls ≠ "java/lang/invoke/MethodHandle" ∧ yX9_roomAt.cls ≠ "java/lang/invoke/VarHandle" ∧ (parseMethodDescriptor yX9_roomAt.desc).map (fun d => d.parameters.length) = some 2 := by decide +kernel
abbrev rmX9_clear : Room := { frames := 1, cells := 0, slots := 0, locals := 21 }
set_option maxHeartbeats 4000000 in
set_option maxRecDepth 100000 in
theorem w_X9_clear_21 {E : Ex} {K : Kx} (C : Cx E K cX9_clear 2 none RX9 wsX9_clear rmX9_clear) {q0 : Nat}   {r : (Nat → Int32)} : ∀ (n : Nat) (x1 : Int32) (v0 : Nat → Int32), Mod_clear_21 n x1 v0 = some r → WW E K 0 0 (QQ E K (fun rv g => rv = none ∧ g = [wArr E q0 172 r]) 0 0) 21 [(0, .ref q0), (1, .int x1)] [] [wArr E q0 172 v0] := by
  intro n
  induction n with
  | zero =>
    intro x1 v0 hf
    simp [Mod_clear_21] at hf
  | succ n ih =>
    intro x1 v0 hf
    rw [Mod_clear_21] at hf
    refine ww_iload_n C dX9_clear_21 rfl 1 rfl ?_
    refine ww_bipush (v := 12) C dX9_clear_22 (by decide) ?_
    refine ww_icmp_ge (tgt := 50) C dX9_clear_24 (by decide) (fun c_3 => ?_) (fun c_3 => ?_)
    · replace hf := ifT c_3 hf
      obtain rfl := Option.some.inj hf
      exact ww_vret C ⟨rfl, rfl⟩ dX9_clear_50
    · replace hf := ifF c_3 hf
      refine ww_aload_n C dX9_clear_27 rfl 0 rfl ?_
      refine ww_iload_n C dX9_clear_28 rfl 1 rfl ?_
      refine ww_iconst (v := 0) C dX9_clear_29 (by decide) ?_
      obtain ⟨p30, hp30, hf⟩ := bdE hf
      refine ww_callS C (As := [.int x1, .int 0]) (st := [.ref q0]) (gr := [wArr E q0 172 v0]) (c_X9_roomAt (E := E)  hp30) gX9_clear_X9_roomAt rfl ysk_X9_roomAt ⟨by decide, by decide⟩ ⟨by decide, by decide⟩ [] [0] 1 rfl (by decide) rfl rfl (Nat.le_of_ble_eq_true rfl) dX9_clear_30 ?_
      rintro _ _ ⟨rfl, rfl⟩
      refine ww_perm (gs' := [wArr E q0 172 v0]) [0] 1 rfl (by decide) rfl ?_
      refine ww_bipush (v := 99) C dX9_clear_33 (by decide) ?_
      obtain ⟨g_4, hf⟩ := gdE hf
      obtain ⟨v0_35, e_v0_35⟩ : ∃ y : Nat → Int32, y = upd v0 (Int32.toNatClampNeg p30) 99 := ⟨_, rfl⟩
      replace hf := ltE e_v0_35 hf
      refine ww_iast C (f := v0) (w := wArr E q0 172 v0) (w' := wArr E q0 172 v0_35) (gs' := [wArr E q0 172 v0_35]) 0 0 rfl q_Arr (inB_vp g_4) (by rw [e_v0_35]; exact s_Arr) rfl dX9_clear_35 ?_
      refine ww_aload_n C dX9_clear_36 rfl 0 rfl ?_
      refine ww_iload_n C dX9_clear_37 rfl 1 rfl ?_
      refine ww_iconst (v := 2) C dX9_clear_38 (by decide) ?_
      obtain ⟨p39, hp39, hf⟩ := bdE hf
      refine ww_callS C (As := [.int x1, .int 2]) (st := [.ref q0]) (gr := [wArr E q0 172 v0_35]) (c_X9_roomAt (E := E)  hp39) gX9_clear_X9_roomAt rfl ysk_X9_roomAt ⟨by decide, by decide⟩ ⟨by decide, by decide⟩ [] [0] 1 rfl (by decide) rfl rfl (Nat.le_of_ble_eq_true rfl) dX9_clear_39 ?_
      rintro _ _ ⟨rfl, rfl⟩
      refine ww_perm (gs' := [wArr E q0 172 v0_35]) [0] 1 rfl (by decide) rfl ?_
      refine ww_iconst (v := (-1)) C dX9_clear_42 (by decide) ?_
      obtain ⟨g_5, hf⟩ := gdE hf
      obtain ⟨v0_43, e_v0_43⟩ : ∃ y : Nat → Int32, y = upd v0_35 (Int32.toNatClampNeg p39) (-1) := ⟨_, rfl⟩
      replace hf := ltE e_v0_43 hf
      refine ww_iast C (f := v0_35) (w := wArr E q0 172 v0_35) (w' := wArr E q0 172 v0_43) (gs' := [wArr E q0 172 v0_43]) 0 0 rfl q_Arr (inB_vp g_5) (by rw [e_v0_43]; exact s_Arr) rfl dX9_clear_43 ?_
      obtain ⟨x1_44, e_x1_44⟩ : ∃ y : Int32, y = x1 + 1 := ⟨_, rfl⟩
      replace hf := ltE e_x1_44 hf
      refine ww_iinc (v := x1_44) (lv' := [(1, .int x1_44), (0, .ref q0)]) C dX9_clear_44 1 rfl (by rw [e_x1_44]; rfl) (by decide) rfl ?_
      refine ww_goto (tgt := 21) C dX9_clear_47 (by decide) ?_
      refine ww_sub C (lv' := [(0, .ref q0), (1, .int x1_44)]) [1, 0] rfl ?_
      exact ih _ _ hf

set_option maxHeartbeats 4000000 in
set_option maxRecDepth 100000 in
theorem w_X9_clear_2 {E : Ex} {K : Kx} (C : Cx E K cX9_clear 2 none RX9 wsX9_clear rmX9_clear) {q0 : Nat}   {r : (Nat → Int32)} : ∀ (n : Nat) (x1 : Int32) (v0 : Nat → Int32), Mod_clear_2 n x1 v0 = some r → WW E K 0 0 (QQ E K (fun rv g => rv = none ∧ g = [wArr E q0 172 r]) 0 0) 2 [(0, .ref q0), (1, .int x1)] [] [wArr E q0 172 v0] := by
  intro n
  induction n with
  | zero =>
    intro x1 v0 hf
    simp [Mod_clear_2] at hf
  | succ n ih =>
    intro x1 v0 hf
    rw [Mod_clear_2] at hf
    refine ww_iload_n C dX9_clear_2 rfl 1 rfl ?_
    refine ww_sipush (v := 172) C dX9_clear_3 (by decide) ?_
    refine ww_icmp_ge (tgt := 19) C dX9_clear_6 (by decide) (fun c_1 => ?_) (fun c_1 => ?_)
    · replace hf := ifT c_1 hf
      refine ww_iconst (v := 0) C dX9_clear_19 (by decide) ?_
      refine ww_istore_n (lv' := [(1, .int 0), (0, .ref q0)]) C dX9_clear_20 rfl (by decide) rfl ?_
      refine ww_sub C (lv' := [(0, .ref q0), (1, .int 0)]) [1, 0] rfl ?_
      exact w_X9_clear_21 C FU _ _ hf
    · replace hf := ifF c_1 hf
      refine ww_aload_n C dX9_clear_9 rfl 0 rfl ?_
      refine ww_iload_n C dX9_clear_10 rfl 1 rfl ?_
      refine ww_iconst (v := 0) C dX9_clear_11 (by decide) ?_
      obtain ⟨g_2, hf⟩ := gdE hf
      obtain ⟨v0_12, e_v0_12⟩ : ∃ y : Nat → Int32, y = upd v0 (Int32.toNatClampNeg x1) 0 := ⟨_, rfl⟩
      replace hf := ltE e_v0_12 hf
      refine ww_iast C (f := v0) (w := wArr E q0 172 v0) (w' := wArr E q0 172 v0_12) (gs' := [wArr E q0 172 v0_12]) 0 0 rfl q_Arr (inB_vp g_2) (by rw [e_v0_12]; exact s_Arr) rfl dX9_clear_12 ?_
      obtain ⟨x1_13, e_x1_13⟩ : ∃ y : Int32, y = x1 + 1 := ⟨_, rfl⟩
      replace hf := ltE e_x1_13 hf
      refine ww_iinc (v := x1_13) (lv' := [(1, .int x1_13), (0, .ref q0)]) C dX9_clear_13 1 rfl (by rw [e_x1_13]; rfl) (by decide) rfl ?_
      refine ww_goto (tgt := 2) C dX9_clear_16 (by decide) ?_
      refine ww_sub C (lv' := [(0, .ref q0), (1, .int x1_13)]) [1, 0] rfl ?_
      exact ih _ _ hf

set_option maxHeartbeats 4000000 in
set_option maxRecDepth 100000 in
theorem c_X9_clear {E : Ex} {q0 : Nat} {v0 : Nat → Int32} {r : (Nat → Int32)} (hf : Mod_clear v0 = some r) : Ct E yX9_clear wsX9_clear rmX9_clear [.ref q0] [wArr E q0 172 v0] (fun rv g => rv = none ∧ g = [wArr E q0 172 r]) := by
  refine ct_of (own := RX9) (by decide +kernel) rfl rfl (Nat.le_of_ble_eq_true rfl) (fun K C => ?_)
  refine ww_sub C (lv' := [(0, .ref q0)]) [0] rfl ?_
  rw [Mod_clear] at hf
  refine ww_iconst (v := 0) C dX9_clear_0 (by decide) ?_
  refine ww_istore_n (lv' := [(1, .int 0), (0, .ref q0)]) C dX9_clear_1 rfl (by decide) rfl ?_
  refine ww_sub C (lv' := [(0, .ref q0), (1, .int 0)]) [1, 0] rfl ?_
  exact w_X9_clear_2 C FU _ _ hf

theorem ysk_X9_clear : yX9_clear.cls ≠ "java/lang/invoke/MethodHandle" ∧ yX9_clear.cls ≠ "java/lang/invoke/VarHandle" ∧ (parseMethodDescriptor yX9_clear.desc).map (fun d => d.parameters.length) = some 1 := by decide +kernel
abbrev rmX9_thrown : Room := { frames := 0, cells := 0, slots := 0, locals := 0 }
set_option maxRecDepth 20000 in
theorem in_X9_thrown_X9 : ∀ w ∈ u_ws RX9 TX9 35, w ∈ wsX9_thrown := by decide +kernel
set_option maxHeartbeats 4000000 in
set_option maxRecDepth 100000 in
theorem c_X9_thrown {E : Ex} {a0 : Nat → Nat} {h0_0 h0_1 : Nat} {v0 : ModelV} {r : Int32} (hf : Mod_thrown v0 = some r) : Ct E yX9_thrown wsX9_thrown rmX9_thrown [.ref (a0 0)] [wModel E a0 (rf2 h0_0 h0_1) v0] (fun rv g => rv = some (.int r) ∧ g = [wModel E a0 (rf2 h0_0 h0_1) v0]) := by
  refine ct_of (own := RX9) (by decide +kernel) rfl rfl (Nat.le_of_ble_eq_true rfl) (fun K C => ?_)
  refine ww_sub C (lv' := [(0, .ref (a0 0))]) [0] rfl ?_
  rw [Mod_thrown] at hf
  refine ww_aload_n C dX9_thrown_0 rfl 0 rfl ?_
  refine ww_get C clOK9 in_X9_thrown_X9 (w := wModel E a0 (rf2 h0_0 h0_1) v0) (fs := fsModel a0 (rf2 h0_0 h0_1) v0) (v := .int (Model_thrown v0)) 0 0 5 rfl q_Model (by decide) (by decide +kernel) g_Model_thrown dX9_thrown_1 ?_
  obtain rfl := Option.some.inj hf
  exact ww_iret C ⟨rfl, rfl⟩ dX9_thrown_4

theorem yk_X9_thrown : yX9_thrown.cls = RX9 ∧ yX9_thrown.cls ≠ "java/lang/invoke/MethodHandle" ∧ yX9_thrown.cls ≠ "java/lang/invoke/VarHandle" ∧ (parseMethodDescriptor yX9_thrown.desc).map (fun d => d.parameters.length) = some 0 := by decide +kernel
abbrev rmX9_raise : Room := { frames := 0, cells := 0, slots := 0, locals := 0 }
set_option maxRecDepth 20000 in
theorem in_X9_raise_X9 : ∀ w ∈ u_ws RX9 TX9 35, w ∈ wsX9_raise := by decide +kernel
set_option maxHeartbeats 4000000 in
set_option maxRecDepth 100000 in
theorem c_X9_raise {E : Ex} {a0 : Nat → Nat} {h0_0 h0_1 : Nat} {x1 : Int32} {v0 : ModelV} {r : (Int32 × ModelV)} (hf : Mod_raise x1 v0 = some r) : Ct E yX9_raise wsX9_raise rmX9_raise [.ref (a0 0), .int x1] [wModel E a0 (rf2 h0_0 h0_1) v0] (fun rv g => rv = some (.int r.1) ∧ g = [wModel E a0 (rf2 h0_0 h0_1) r.2]) := by
  refine ct_of (own := RX9) (by decide +kernel) rfl rfl (Nat.le_of_ble_eq_true rfl) (fun K C => ?_)
  refine ww_sub C (lv' := [(0, .ref (a0 0)), (1, .int x1)]) [0, 1] rfl ?_
  rw [Mod_raise] at hf
  refine ww_aload_n C dX9_raise_0 rfl 0 rfl ?_
  refine ww_iload_n C dX9_raise_1 rfl 1 rfl ?_
  obtain ⟨v0_2, e_v0_2⟩ : ∃ y : ModelV, y = Model_set_thrown v0 x1 := ⟨_, rfl⟩
  replace hf := ltE e_v0_2 hf
  refine ww_put C clOK9 in_X9_raise_X9 (w := wModel E a0 (rf2 h0_0 h0_1) v0) (fs := fsModel a0 (rf2 h0_0 h0_1) v0) (w' := wModel E a0 (rf2 h0_0 h0_1) v0_2) (gs' := [wModel E a0 (rf2 h0_0 h0_1) v0_2]) 0 0 5 rfl q_Model (by decide) (by decide +kernel) rfl rfl rfl rfl l_Model (by rw [e_v0_2]; exact p_Model_thrown) rfl dX9_raise_2 ?_
  refine ww_iconst (v := 0) C dX9_raise_5 (by decide) ?_
  obtain rfl := Option.some.inj hf
  exact ww_iret C ⟨rfl, rfl⟩ dX9_raise_6

theorem yk_X9_raise : yX9_raise.cls = RX9 ∧ yX9_raise.cls ≠ "java/lang/invoke/MethodHandle" ∧ yX9_raise.cls ≠ "java/lang/invoke/VarHandle" ∧ (parseMethodDescriptor yX9_raise.desc).map (fun d => d.parameters.length) = some 1 := by decide +kernel
abbrev rmX9_inRange : Room := { frames := 0, cells := 0, slots := 0, locals := 0 }
set_option maxHeartbeats 4000000 in
set_option maxRecDepth 100000 in
theorem c_X9_inRange {E : Ex}  {x0 : Int32} {x1 : Int32} {x2 : Int32} {r : Bool} (hf : Mod_inRange x0 x1 x2 = some r) : Ct E yX9_inRange wsX9_inRange rmX9_inRange [.int x0, .int x1, .int x2] [] (fun rv g => rv = some (.int (b2i r)) ∧ g = []) := by
  refine ct_of (own := RX9) (by decide +kernel) rfl rfl (Nat.le_of_ble_eq_true rfl) (fun K C => ?_)
  refine ww_sub C (lv' := [(0, .int x0), (1, .int x1), (2, .int x2)]) [0, 1, 2] rfl ?_
  rw [Mod_inRange] at hf
  refine ww_iload_n C dX9_inRange_0 rfl 0 rfl ?_
  refine ww_iload_n C dX9_inRange_1 rfl 1 rfl ?_
  refine ww_icmp_lt (tgt := 14) C dX9_inRange_2 (by decide) (fun c_1 => ?_) (fun c_1 => ?_)
  · replace hf := ifT c_1 hf
    refine ww_iconst (v := 0) C dX9_inRange_14 (by decide) ?_
    obtain rfl := Option.some.inj hf
    exact ww_zret C (nar_b false) ⟨rfl, rfl⟩ dX9_inRange_15
  · replace hf := ifF c_1 hf
    refine ww_iload_n C dX9_inRange_5 rfl 0 rfl ?_
    refine ww_iload_n C dX9_inRange_6 rfl 2 rfl ?_
    refine ww_icmp_gt (tgt := 14) C dX9_inRange_7 (by decide) (fun c_2 => ?_) (fun c_2 => ?_)
    · replace hf := ifT c_2 hf
      refine ww_iconst (v := 0) C dX9_inRange_14 (by decide) ?_
      obtain rfl := Option.some.inj hf
      exact ww_zret C (nar_b false) ⟨rfl, rfl⟩ dX9_inRange_15
    · replace hf := ifF c_2 hf
      refine ww_iconst (v := 1) C dX9_inRange_10 (by decide) ?_
      refine ww_goto (tgt := 15) C dX9_inRange_11 (by decide) ?_
      obtain rfl := Option.some.inj hf
      exact ww_zret C (nar_b true) ⟨rfl, rfl⟩ dX9_inRange_15

theorem ysk_X9_inRange : yX9_inRange.cls ≠ "java/lang/invoke/MethodHandle" ∧ yX9_inRange.cls ≠ "java/lang/invoke/VarHandle" ∧ (parseMethodDescriptor yX9_inRange.desc).map (fun d => d.parameters.length) = some 3 := by decide +kernel
abbrev rmX9_feed : Room := { frames := 0, cells := 0, slots := 0, locals := 0 }
set_option maxRecDepth 20000 in
theorem in_X9_feed_X9 : ∀ w ∈ u_ws RX9 TX9 35, w ∈ wsX9_feed := by decide +kernel
set_option maxHeartbeats 4000000 in
set_option maxRecDepth 100000 in
theorem w_X9_feed_76 {E : Ex} {K : Kx} (C : Cx E K cX9_feed 8 (some .int) RX9 wsX9_feed rmX9_feed) {a0 : Nat → Nat} {h0_0 h0_1 : Nat} {x1 : Int32} {x2 : Int32} {x3 : Int32} {x4 : Int32} {x5 : Int32}  {x6 : Int32} {s0 : Int32} {v0 : ModelV} {k23 : Int32 → ModelV → Option (Int32 × ModelV)} {r : (Int32 × ModelV)} (hk23 : ∀ (x6 : Int32) (v0 : ModelV), k23 x6 v0 = some r → WW E K 0 0 (QQ E K (fun rv g => rv = some (.int r.1) ∧ g = [wModel E a0 (rf2 h0_0 h0_1) r.2]) 0 0) 23 [(0, .ref (a0 0)), (1, .int x1), (2, .int x2), (3, .int x3), (4, .int x4), (5, .int x5), (6, .int x6)] [] [wModel E a0 (rf2 h0_0 h0_1) v0]) (hf : Mod_feed_76 x1 x2 x3 x4 x5 k23 x6 s0 v0 = some r) : WW E K 0 0 (QQ E K (fun rv g => rv = some (.int r.1) ∧ g = [wModel E a0 (rf2 h0_0 h0_1) r.2]) 0 0) 76 [(0, .ref (a0 0)), (1, .int x1), (2, .int x2), (3, .int x3), (4, .int x4), (5, .int x5), (6, .int x6)] [.int s0] [wModel E a0 (rf2 h0_0 h0_1) v0] := by
  rw [Mod_feed_76] at hf
  refine ww_istore (lv' := [(7, .int s0), (0, .ref (a0 0)), (1, .int x1), (2, .int x2), (3, .int x3), (4, .int x4), (5, .int x5), (6, .int x6)]) C dX9_feed_76 (by decide) rfl ?_
  refine ww_aload_n C dX9_feed_78 rfl 1 rfl ?_
  refine ww_get C clOK9 in_X9_feed_X9 (w := wModel E a0 (rf2 h0_0 h0_1) v0) (fs := fsModel a0 (rf2 h0_0 h0_1) v0) (v := .ref (a0 14)) 0 0 21 rfl q_Model (by decide) (by decide +kernel) g_Model_buffer dX9_feed_79 ?_
  refine ww_aload_n C dX9_feed_82 rfl 1 rfl ?_
  refine ww_get C clOK9 in_X9_feed_X9 (w := wModel E a0 (rf2 h0_0 h0_1) v0) (fs := fsModel a0 (rf2 h0_0 h0_1) v0) (v := .int (Model_bufferLength v0)) 0 0 22 rfl q_Model (by decide) (by decide +kernel) g_Model_bufferLength dX9_feed_83 ?_
  refine ww_iload C dX9_feed_86 0 rfl ?_
  refine ww_bipush (v := 24) C dX9_feed_88 (by decide) ?_
  refine ww_bipush (v := 8) C dX9_feed_90 (by decide) ?_
  refine ww_iload C dX9_feed_92 7 rfl ?_
  refine ww_iconst (v := 4) C dX9_feed_94 (by decide) ?_
  obtain ⟨g_7, hf⟩ := gdE hf
  refine ww_irem C dX9_feed_95 (nz_ne g_7) ?_
  refine ww_imul C dX9_feed_96 ?_
  refine ww_isub C dX9_feed_97 ?_
  refine ww_ishr C dX9_feed_98 ?_
  refine ww_sipush (v := 255) C dX9_feed_99 (by decide) ?_
  refine ww_iand C dX9_feed_102 ?_
  obtain ⟨g_8, hf⟩ := gdE hf
  obtain ⟨v0_103, e_v0_103⟩ : ∃ y : ModelV, y = Model_set_buffer v0 (upd (Model_buffer v0) (Int32.toNatClampNeg (Model_bufferLength v0)) ((s0 >>> ((24 - (8 * (x6 - x6 / 4 * 4))) &&& 31)) &&& 255)) := ⟨_, rfl⟩
  replace hf := ltE e_v0_103 hf
  refine ww_iast C (f := Model_buffer v0) (w := wModel E a0 (rf2 h0_0 h0_1) v0) (w' := wModel E a0 (rf2 h0_0 h0_1) v0_103) (gs' := [wModel E a0 (rf2 h0_0 h0_1) v0_103]) 0 14 rfl c_Model_buffer (inB_vp g_8) (by rw [e_v0_103]; exact s_Model_buffer) rfl dX9_feed_103 ?_
  refine ww_aload_n C dX9_feed_104 rfl 1 rfl ?_
  refine ww_dup C dX9_feed_105 rfl ?_
  refine ww_get C clOK9 in_X9_feed_X9 (w := wModel E a0 (rf2 h0_0 h0_1) v0_103) (fs := fsModel a0 (rf2 h0_0 h0_1) v0_103) (v := .int (Model_bufferLength v0_103)) 0 0 22 rfl q_Model (by decide) (by decide +kernel) g_Model_bufferLength dX9_feed_106 ?_
  refine ww_iconst (v := 1) C dX9_feed_109 (by decide) ?_
  refine ww_iadd C dX9_feed_110 ?_
  obtain ⟨v0_111, e_v0_111⟩ : ∃ y : ModelV, y = Model_set_bufferLength v0_103 ((Model_bufferLength v0_103) + 1) := ⟨_, rfl⟩
  replace hf := ltE e_v0_111 hf
  refine ww_put C clOK9 in_X9_feed_X9 (w := wModel E a0 (rf2 h0_0 h0_1) v0_103) (fs := fsModel a0 (rf2 h0_0 h0_1) v0_103) (w' := wModel E a0 (rf2 h0_0 h0_1) v0_111) (gs' := [wModel E a0 (rf2 h0_0 h0_1) v0_111]) 0 0 22 rfl q_Model (by decide) (by decide +kernel) rfl rfl rfl rfl l_Model (by rw [e_v0_111]; exact p_Model_bufferLength) rfl dX9_feed_111 ?_
  obtain ⟨x6_114, e_x6_114⟩ : ∃ y : Int32, y = x6 + 1 := ⟨_, rfl⟩
  replace hf := ltE e_x6_114 hf
  refine ww_iinc (v := x6_114) (lv' := [(6, .int x6_114), (7, .int s0), (0, .ref (a0 0)), (1, .int x1), (2, .int x2), (3, .int x3), (4, .int x4), (5, .int x5)]) C dX9_feed_114 7 rfl (by rw [e_x6_114]; rfl) (by decide) rfl ?_
  refine ww_goto (tgt := 23) C dX9_feed_117 (by decide) ?_
  refine ww_sub C (lv' := [(0, .ref (a0 0)), (1, .int x1), (2, .int x2), (3, .int x3), (4, .int x4), (5, .int x5), (6, .int x6_114)]) [2, 3, 4, 5, 6, 7, 0] rfl ?_
  exact hk23 _ _ hf

set_option maxHeartbeats 4000000 in
set_option maxRecDepth 100000 in
theorem w_X9_feed_23 {E : Ex} {K : Kx} (C : Cx E K cX9_feed 8 (some .int) RX9 wsX9_feed rmX9_feed) {a0 : Nat → Nat} {h0_0 h0_1 : Nat} {x1 : Int32} {x2 : Int32} {x3 : Int32} {x4 : Int32} {x5 : Int32}  {r : (Int32 × ModelV)} : ∀ (n : Nat) (x6 : Int32) (v0 : ModelV), Mod_feed_23 x1 x2 x3 x4 x5 n x6 v0 = some r → WW E K 0 0 (QQ E K (fun rv g => rv = some (.int r.1) ∧ g = [wModel E a0 (rf2 h0_0 h0_1) r.2]) 0 0) 23 [(0, .ref (a0 0)), (1, .int x1), (2, .int x2), (3, .int x3), (4, .int x4), (5, .int x5), (6, .int x6)] [] [wModel E a0 (rf2 h0_0 h0_1) v0] := by
  intro n
  induction n with
  | zero =>
    intro x6 v0 hf
    simp [Mod_feed_23] at hf
  | succ n ih =>
    intro x6 v0 hf
    rw [Mod_feed_23] at hf
    refine ww_iload C dX9_feed_23 6 rfl ?_
    refine ww_bipush (v := 20) C dX9_feed_25 (by decide) ?_
    refine ww_icmp_ge (tgt := 120) C dX9_feed_27 (by decide) (fun c_2 => ?_) (fun c_2 => ?_)
    · replace hf := ifT c_2 hf
      refine ww_aload_n C dX9_feed_120 rfl 0 rfl ?_
      refine ww_get C clOK9 in_X9_feed_X9 (w := wModel E a0 (rf2 h0_0 h0_1) v0) (fs := fsModel a0 (rf2 h0_0 h0_1) v0) (v := .int (Model_bufferLength v0)) 0 0 22 rfl q_Model (by decide) (by decide +kernel) g_Model_bufferLength dX9_feed_121 ?_
      obtain rfl := Option.some.inj hf
      exact ww_iret C ⟨rfl, rfl⟩ dX9_feed_124
    · replace hf := ifF c_2 hf
      refine ww_iload C dX9_feed_30 6 rfl ?_
      refine ww_iconst (v := 4) C dX9_feed_32 (by decide) ?_
      refine ww_icmp_ge (tgt := 40) C dX9_feed_33 (by decide) (fun c_3 => ?_) (fun c_3 => ?_)
      · replace hf := ifT c_3 hf
        refine ww_iload C dX9_feed_40 6 rfl ?_
        refine ww_bipush (v := 8) C dX9_feed_42 (by decide) ?_
        refine ww_icmp_ge (tgt := 51) C dX9_feed_44 (by decide) (fun c_4 => ?_) (fun c_4 => ?_)
        · replace hf := ifT c_4 hf
          refine ww_iload C dX9_feed_51 6 rfl ?_
          refine ww_bipush (v := 12) C dX9_feed_53 (by decide) ?_
          refine ww_icmp_ge (tgt := 62) C dX9_feed_55 (by decide) (fun c_5 => ?_) (fun c_5 => ?_)
          · replace hf := ifT c_5 hf
            refine ww_iload C dX9_feed_62 6 rfl ?_
            refine ww_bipush (v := 16) C dX9_feed_64 (by decide) ?_
            refine ww_icmp_ge (tgt := 74) C dX9_feed_66 (by decide) (fun c_6 => ?_) (fun c_6 => ?_)
            · replace hf := ifT c_6 hf
              refine ww_iload C dX9_feed_74 5 rfl ?_
              refine ww_sub C (lv' := [(0, .ref (a0 0)), (1, .int x1), (2, .int x2), (3, .int x3), (4, .int x4), (5, .int x5), (6, .int x6)]) [0, 1, 2, 3, 4, 5, 6] rfl ?_
              exact w_X9_feed_76 C (k23 := (fun (x6 : Int32) (v0 : ModelV) => Mod_feed_23 x1 x2 x3 x4 x5 n x6 v0)) ih hf
            · replace hf := ifF c_6 hf
              refine ww_iload C dX9_feed_69 4 rfl ?_
              refine ww_goto (tgt := 76) C dX9_feed_71 (by decide) ?_
              refine ww_sub C (lv' := [(0, .ref (a0 0)), (1, .int x1), (2, .int x2), (3, .int x3), (4, .int x4), (5, .int x5), (6, .int x6)]) [0, 1, 2, 3, 4, 5, 6] rfl ?_
              exact w_X9_feed_76 C (k23 := (fun (x6 : Int32) (v0 : ModelV) => Mod_feed_23 x1 x2 x3 x4 x5 n x6 v0)) ih hf
          · replace hf := ifF c_5 hf
            refine ww_iload_n C dX9_feed_58 rfl 3 rfl ?_
            refine ww_goto (tgt := 76) C dX9_feed_59 (by decide) ?_
            refine ww_sub C (lv' := [(0, .ref (a0 0)), (1, .int x1), (2, .int x2), (3, .int x3), (4, .int x4), (5, .int x5), (6, .int x6)]) [0, 1, 2, 3, 4, 5, 6] rfl ?_
            exact w_X9_feed_76 C (k23 := (fun (x6 : Int32) (v0 : ModelV) => Mod_feed_23 x1 x2 x3 x4 x5 n x6 v0)) ih hf
        · replace hf := ifF c_4 hf
          refine ww_iload_n C dX9_feed_47 rfl 2 rfl ?_
          refine ww_goto (tgt := 76) C dX9_feed_48 (by decide) ?_
          refine ww_sub C (lv' := [(0, .ref (a0 0)), (1, .int x1), (2, .int x2), (3, .int x3), (4, .int x4), (5, .int x5), (6, .int x6)]) [0, 1, 2, 3, 4, 5, 6] rfl ?_
          exact w_X9_feed_76 C (k23 := (fun (x6 : Int32) (v0 : ModelV) => Mod_feed_23 x1 x2 x3 x4 x5 n x6 v0)) ih hf
      · replace hf := ifF c_3 hf
        refine ww_iload_n C dX9_feed_36 rfl 1 rfl ?_
        refine ww_goto (tgt := 76) C dX9_feed_37 (by decide) ?_
        refine ww_sub C (lv' := [(0, .ref (a0 0)), (1, .int x1), (2, .int x2), (3, .int x3), (4, .int x4), (5, .int x5), (6, .int x6)]) [0, 1, 2, 3, 4, 5, 6] rfl ?_
        exact w_X9_feed_76 C (k23 := (fun (x6 : Int32) (v0 : ModelV) => Mod_feed_23 x1 x2 x3 x4 x5 n x6 v0)) ih hf

set_option maxHeartbeats 4000000 in
set_option maxRecDepth 100000 in
theorem c_X9_feed {E : Ex} {a0 : Nat → Nat} {h0_0 h0_1 : Nat} {x1 : Int32} {x2 : Int32} {x3 : Int32} {x4 : Int32} {x5 : Int32} {v0 : ModelV} {r : (Int32 × ModelV)} (hf : Mod_feed x1 x2 x3 x4 x5 v0 = some r) : Ct E yX9_feed wsX9_feed rmX9_feed [.ref (a0 0), .int x1, .int x2, .int x3, .int x4, .int x5] [wModel E a0 (rf2 h0_0 h0_1) v0] (fun rv g => rv = some (.int r.1) ∧ g = [wModel E a0 (rf2 h0_0 h0_1) r.2]) := by
  refine ct_of (own := RX9) (by decide +kernel) rfl rfl (Nat.le_of_ble_eq_true rfl) (fun K C => ?_)
  refine ww_sub C (lv' := [(0, .ref (a0 0)), (1, .int x1), (2, .int x2), (3, .int x3), (4, .int x4), (5, .int x5)]) [0, 1, 2, 3, 4, 5] rfl ?_
  rw [Mod_feed] at hf
  refine ww_aload_n C dX9_feed_0 rfl 0 rfl ?_
  refine ww_iconst (v := 0) C dX9_feed_1 (by decide) ?_
  obtain ⟨v0_2, e_v0_2⟩ : ∃ y : ModelV, y = Model_set_thrown v0 0 := ⟨_, rfl⟩
  replace hf := ltE e_v0_2 hf
  refine ww_put C clOK9 in_X9_feed_X9 (w := wModel E a0 (rf2 h0_0 h0_1) v0) (fs := fsModel a0 (rf2 h0_0 h0_1) v0) (w' := wModel E a0 (rf2 h0_0 h0_1) v0_2) (gs' := [wModel E a0 (rf2 h0_0 h0_1) v0_2]) 0 0 5 rfl q_Model (by decide) (by decide +kernel) rfl rfl rfl rfl l_Model (by rw [e_v0_2]; exact p_Model_thrown) rfl dX9_feed_2 ?_
  refine ww_aload_n C dX9_feed_5 rfl 0 rfl ?_
  refine ww_get C clOK9 in_X9_feed_X9 (w := wModel E a0 (rf2 h0_0 h0_1) v0_2) (fs := fsModel a0 (rf2 h0_0 h0_1) v0_2) (v := .int (Model_bufferLength v0_2)) 0 0 22 rfl q_Model (by decide) (by decide +kernel) g_Model_bufferLength dX9_feed_6 ?_
  refine ww_bipush (v := 20) C dX9_feed_9 (by decide) ?_
  refine ww_iadd C dX9_feed_11 ?_
  refine ww_sipush (v := 600) C dX9_feed_12 (by decide) ?_
  refine ww_icmp_le (tgt := 20) C dX9_feed_15 (by decide) (fun c_1 => ?_) (fun c_1 => ?_)
  · replace hf := ifT c_1 hf
    refine ww_iconst (v := 0) C dX9_feed_20 (by decide) ?_
    refine ww_istore (lv' := [(6, .int 0), (0, .ref (a0 0)), (1, .int x1), (2, .int x2), (3, .int x3), (4, .int x4), (5, .int x5)]) C dX9_feed_21 (by decide) rfl ?_
    refine ww_sub C (lv' := [(0, .ref (a0 0)), (1, .int x1), (2, .int x2), (3, .int x3), (4, .int x4), (5, .int x5), (6, .int 0)]) [1, 2, 3, 4, 5, 6, 0] rfl ?_
    exact w_X9_feed_23 C FU _ _ hf
  · replace hf := ifF c_1 hf
    refine ww_iconst (v := (-1)) C dX9_feed_18 (by decide) ?_
    obtain rfl := Option.some.inj hf
    exact ww_iret C ⟨rfl, rfl⟩ dX9_feed_19

theorem yk_X9_feed : yX9_feed.cls = RX9 ∧ yX9_feed.cls ≠ "java/lang/invoke/MethodHandle" ∧ yX9_feed.cls ≠ "java/lang/invoke/VarHandle" ∧ (parseMethodDescriptor yX9_feed.desc).map (fun d => d.parameters.length) = some 5 := by decide +kernel
abbrev rmX9_errorPosition : Room := { frames := 0, cells := 0, slots := 0, locals := 0 }
set_option maxRecDepth 20000 in
theorem in_X9_errorPosition_X9 : ∀ w ∈ u_ws RX9 TX9 35, w ∈ wsX9_errorPosition := by decide +kernel
set_option maxHeartbeats 4000000 in
set_option maxRecDepth 100000 in
theorem c_X9_errorPosition {E : Ex} {a0 : Nat → Nat} {h0_0 h0_1 : Nat} {v0 : ModelV} {r : (Int32 × ModelV)} (hf : Mod_errorPosition v0 = some r) : Ct E yX9_errorPosition wsX9_errorPosition rmX9_errorPosition [.ref (a0 0)] [wModel E a0 (rf2 h0_0 h0_1) v0] (fun rv g => rv = some (.int r.1) ∧ g = [wModel E a0 (rf2 h0_0 h0_1) r.2]) := by
  refine ct_of (own := RX9) (by decide +kernel) rfl rfl (Nat.le_of_ble_eq_true rfl) (fun K C => ?_)
  refine ww_sub C (lv' := [(0, .ref (a0 0))]) [0] rfl ?_
  rw [Mod_errorPosition] at hf
  refine ww_aload_n C dX9_errorPosition_0 rfl 0 rfl ?_
  refine ww_iconst (v := 0) C dX9_errorPosition_1 (by decide) ?_
  obtain ⟨v0_2, e_v0_2⟩ : ∃ y : ModelV, y = Model_set_thrown v0 0 := ⟨_, rfl⟩
  replace hf := ltE e_v0_2 hf
  refine ww_put C clOK9 in_X9_errorPosition_X9 (w := wModel E a0 (rf2 h0_0 h0_1) v0) (fs := fsModel a0 (rf2 h0_0 h0_1) v0) (w' := wModel E a0 (rf2 h0_0 h0_1) v0_2) (gs' := [wModel E a0 (rf2 h0_0 h0_1) v0_2]) 0 0 5 rfl q_Model (by decide) (by decide +kernel) rfl rfl rfl rfl l_Model (by rw [e_v0_2]; exact p_Model_thrown) rfl dX9_errorPosition_2 ?_
  refine ww_aload_n C dX9_errorPosition_5 rfl 0 rfl ?_
  refine ww_get C clOK9 in_X9_errorPosition_X9 (w := wModel E a0 (rf2 h0_0 h0_1) v0_2) (fs := fsModel a0 (rf2 h0_0 h0_1) v0_2) (v := .int (Model_errorPosition v0_2)) 0 0 29 rfl q_Model (by decide) (by decide +kernel) g_Model_errorPosition dX9_errorPosition_6 ?_
  obtain rfl := Option.some.inj hf
  exact ww_iret C ⟨rfl, rfl⟩ dX9_errorPosition_9

theorem yk_X9_errorPosition : yX9_errorPosition.cls = RX9 ∧ yX9_errorPosition.cls ≠ "java/lang/invoke/MethodHandle" ∧ yX9_errorPosition.cls ≠ "java/lang/invoke/VarHandle" ∧ (parseMethodDescriptor yX9_errorPosition.desc).map (fun d => d.parameters.length) = some 0 := by decide +kernel
abbrev rmX9_byteAt : Room := { frames := 0, cells := 0, slots := 0, locals := 0 }
set_option maxRecDepth 20000 in
theorem in_X9_byteAt_X9 : ∀ w ∈ u_ws RX9 TX9 35, w ∈ wsX9_byteAt := by decide +kernel
set_option maxHeartbeats 4000000 in
set_option maxRecDepth 100000 in
theorem c_X9_byteAt {E : Ex} {a0 : Nat → Nat} {h0_0 h0_1 : Nat} {x1 : Int32} {v0 : ModelV} {r : Int32} (hf : Mod_byteAt x1 v0 = some r) : Ct E yX9_byteAt wsX9_byteAt rmX9_byteAt [.ref (a0 0), .int x1] [wModel E a0 (rf2 h0_0 h0_1) v0] (fun rv g => rv = some (.int r) ∧ g = [wModel E a0 (rf2 h0_0 h0_1) v0]) := by
  refine ct_of (own := RX9) (by decide +kernel) rfl rfl (Nat.le_of_ble_eq_true rfl) (fun K C => ?_)
  refine ww_sub C (lv' := [(0, .ref (a0 0)), (1, .int x1)]) [0, 1] rfl ?_
  rw [Mod_byteAt] at hf
  refine ww_iload_n C dX9_byteAt_0 rfl 1 rfl ?_
  refine ww_aload_n C dX9_byteAt_1 rfl 0 rfl ?_
  refine ww_get C clOK9 in_X9_byteAt_X9 (w := wModel E a0 (rf2 h0_0 h0_1) v0) (fs := fsModel a0 (rf2 h0_0 h0_1) v0) (v := .int (Model_limit v0)) 0 0 23 rfl q_Model (by decide) (by decide +kernel) g_Model_limit dX9_byteAt_2 ?_
  refine ww_icmp_ge (tgt := 17) C dX9_byteAt_5 (by decide) (fun c_1 => ?_) (fun c_1 => ?_)
  · replace hf := ifT c_1 hf
    refine ww_iconst (v := (-1)) C dX9_byteAt_17 (by decide) ?_
    obtain rfl := Option.some.inj hf
    exact ww_iret C ⟨rfl, rfl⟩ dX9_byteAt_18
  · replace hf := ifF c_1 hf
    refine ww_aload_n C dX9_byteAt_8 rfl 0 rfl ?_
    refine ww_get C clOK9 in_X9_byteAt_X9 (w := wModel E a0 (rf2 h0_0 h0_1) v0) (fs := fsModel a0 (rf2 h0_0 h0_1) v0) (v := .ref (a0 14)) 0 0 21 rfl q_Model (by decide) (by decide +kernel) g_Model_buffer dX9_byteAt_9 ?_
    refine ww_iload_n C dX9_byteAt_12 rfl 1 rfl ?_
    obtain ⟨g_2, hf⟩ := gdE hf
    refine ww_iald C (f := Model_buffer v0) (w := wModel E a0 (rf2 h0_0 h0_1) v0) 0 14 rfl c_Model_buffer (inB_vp g_2) dX9_byteAt_13 ?_
    refine ww_goto (tgt := 18) C dX9_byteAt_14 (by decide) ?_
    obtain rfl := Option.some.inj hf
    exact ww_iret C ⟨rfl, rfl⟩ dX9_byteAt_18

theorem yk_X9_byteAt : yX9_byteAt.cls = RX9 ∧ yX9_byteAt.cls ≠ "java/lang/invoke/MethodHandle" ∧ yX9_byteAt.cls ≠ "java/lang/invoke/VarHandle" ∧ (parseMethodDescriptor yX9_byteAt.desc).map (fun d => d.parameters.length) = some 1 := by decide +kernel
abbrev rmX9_isLetter : Room := { frames := 1, cells := 0, slots := 0, locals := 21 }
set_option maxHeartbeats 4000000 in
set_option maxRecDepth 100000 in
theorem c_X9_isLetter {E : Ex} {a0 : Nat → Nat} {h0_0 h0_1 : Nat} {x1 : Int32} {v0 : ModelV} {r : Bool} (hf : Mod_isLetter x1 v0 = some r) : Ct E yX9_isLetter wsX9_isLetter rmX9_isLetter [.ref (a0 0), .int x1] [wModel E a0 (rf2 h0_0 h0_1) v0] (fun rv g => rv = some (.int (b2i r)) ∧ g = [wModel E a0 (rf2 h0_0 h0_1) v0]) := by
  refine ct_of (own := RX9) (by decide +kernel) rfl rfl (Nat.le_of_ble_eq_true rfl) (fun K C => ?_)
  refine ww_sub C (lv' := [(0, .ref (a0 0)), (1, .int x1)]) [0, 1] rfl ?_
  rw [Mod_isLetter] at hf
  refine ww_aload_n C dX9_isLetter_0 rfl 0 rfl ?_
  refine ww_iload_n C dX9_isLetter_1 rfl 1 rfl ?_
  obtain ⟨p2, hp2, hf⟩ := bdE hf
  refine ww_callV C (As := [.int x1]) (st := []) (gr := []) (c_X9_byteAt (E := E) (a0 := a0) (h0_0 := h0_0) (h0_1 := h0_1) hp2) gX9_isLetter_X9_byteAt rfl yk_X9_byteAt ⟨by decide, by decide⟩ ⟨by decide, by decide⟩ clOK9 0 0 rfl rfl [0] [] 1 rfl (by decide) rfl rfl (Nat.le_of_ble_eq_true rfl) dX9_isLetter_2 ?_
  rintro _ _ ⟨rfl, rfl⟩
  refine ww_perm (gs' := [wModel E a0 (rf2 h0_0 h0_1) v0]) [0] 1 rfl (by decide) rfl ?_
  refine ww_bipush (v := 97) C dX9_isLetter_5 (by decide) ?_
  refine ww_icmp_lt (tgt := 24) C dX9_isLetter_7 (by decide) (fun c_1 => ?_) (fun c_1 => ?_)
  · replace hf := ifT c_1 hf
    refine ww_iconst (v := 0) C dX9_isLetter_24 (by decide) ?_
    obtain rfl := Option.some.inj hf
    exact ww_zret C (nar_b false) ⟨rfl, rfl⟩ dX9_isLetter_25
  · replace hf := ifF c_1 hf
    refine ww_aload_n C dX9_isLetter_10 rfl 0 rfl ?_
    refine ww_iload_n C dX9_isLetter_11 rfl 1 rfl ?_
    obtain ⟨p12, hp12, hf⟩ := bdE hf
    refine ww_callV C (As := [.int x1]) (st := []) (gr := []) (c_X9_byteAt (E := E) (a0 := a0) (h0_0 := h0_0) (h0_1 := h0_1) hp12) gX9_isLetter_X9_byteAt rfl yk_X9_byteAt ⟨by decide, by decide⟩ ⟨by decide, by decide⟩ clOK9 0 0 rfl rfl [0] [] 1 rfl (by decide) rfl rfl (Nat.le_of_ble_eq_true rfl) dX9_isLetter_12 ?_
    rintro _ _ ⟨rfl, rfl⟩
    refine ww_perm (gs' := [wModel E a0 (rf2 h0_0 h0_1) v0]) [0] 1 rfl (by decide) rfl ?_
    refine ww_bipush (v := 122) C dX9_isLetter_15 (by decide) ?_
    refine ww_icmp_gt (tgt := 24) C dX9_isLetter_17 (by decide) (fun c_2 => ?_) (fun c_2 => ?_)
    · replace hf := ifT c_2 hf
      refine ww_iconst (v := 0) C dX9_isLetter_24 (by decide) ?_
      obtain rfl := Option.some.inj hf
      exact ww_zret C (nar_b false) ⟨rfl, rfl⟩ dX9_isLetter_25
    · replace hf := ifF c_2 hf
      refine ww_iconst (v := 1) C dX9_isLetter_20 (by decide) ?_
      refine ww_goto (tgt := 25) C dX9_isLetter_21 (by decide) ?_
      obtain rfl := Option.some.inj hf
      exact ww_zret C (nar_b true) ⟨rfl, rfl⟩ dX9_isLetter_25

theorem yk_X9_isLetter : yX9_isLetter.cls = RX9 ∧ yX9_isLetter.cls ≠ "java/lang/invoke/MethodHandle" ∧ yX9_isLetter.cls ≠ "java/lang/invoke/VarHandle" ∧ (parseMethodDescriptor yX9_isLetter.desc).map (fun d => d.parameters.length) = some 1 := by decide +kernel
abbrev rmX9_isDigit : Room := { frames := 1, cells := 0, slots := 0, locals := 21 }
set_option maxHeartbeats 4000000 in
set_option maxRecDepth 100000 in
theorem c_X9_isDigit {E : Ex} {a0 : Nat → Nat} {h0_0 h0_1 : Nat} {x1 : Int32} {v0 : ModelV} {r : Bool} (hf : Mod_isDigit x1 v0 = some r) : Ct E yX9_isDigit wsX9_isDigit rmX9_isDigit [.ref (a0 0), .int x1] [wModel E a0 (rf2 h0_0 h0_1) v0] (fun rv g => rv = some (.int (b2i r)) ∧ g = [wModel E a0 (rf2 h0_0 h0_1) v0]) := by
  refine ct_of (own := RX9) (by decide +kernel) rfl rfl (Nat.le_of_ble_eq_true rfl) (fun K C => ?_)
  refine ww_sub C (lv' := [(0, .ref (a0 0)), (1, .int x1)]) [0, 1] rfl ?_
  rw [Mod_isDigit] at hf
  refine ww_aload_n C dX9_isDigit_0 rfl 0 rfl ?_
  refine ww_iload_n C dX9_isDigit_1 rfl 1 rfl ?_
  obtain ⟨p2, hp2, hf⟩ := bdE hf
  refine ww_callV C (As := [.int x1]) (st := []) (gr := []) (c_X9_byteAt (E := E) (a0 := a0) (h0_0 := h0_0) (h0_1 := h0_1) hp2) gX9_isDigit_X9_byteAt rfl yk_X9_byteAt ⟨by decide, by decide⟩ ⟨by decide, by decide⟩ clOK9 0 0 rfl rfl [0] [] 1 rfl (by decide) rfl rfl (Nat.le_of_ble_eq_true rfl) dX9_isDigit_2 ?_
  rintro _ _ ⟨rfl, rfl⟩
  refine ww_perm (gs' := [wModel E a0 (rf2 h0_0 h0_1) v0]) [0] 1 rfl (by decide) rfl ?_
  refine ww_bipush (v := 48) C dX9_isDigit_5 (by decide) ?_
  refine ww_icmp_lt (tgt := 24) C dX9_isDigit_7 (by decide) (fun c_1 => ?_) (fun c_1 => ?_)
  · replace hf := ifT c_1 hf
    refine ww_iconst (v := 0) C dX9_isDigit_24 (by decide) ?_
    obtain rfl := Option.some.inj hf
    exact ww_zret C (nar_b false) ⟨rfl, rfl⟩ dX9_isDigit_25
  · replace hf := ifF c_1 hf
    refine ww_aload_n C dX9_isDigit_10 rfl 0 rfl ?_
    refine ww_iload_n C dX9_isDigit_11 rfl 1 rfl ?_
    obtain ⟨p12, hp12, hf⟩ := bdE hf
    refine ww_callV C (As := [.int x1]) (st := []) (gr := []) (c_X9_byteAt (E := E) (a0 := a0) (h0_0 := h0_0) (h0_1 := h0_1) hp12) gX9_isDigit_X9_byteAt rfl yk_X9_byteAt ⟨by decide, by decide⟩ ⟨by decide, by decide⟩ clOK9 0 0 rfl rfl [0] [] 1 rfl (by decide) rfl rfl (Nat.le_of_ble_eq_true rfl) dX9_isDigit_12 ?_
    rintro _ _ ⟨rfl, rfl⟩
    refine ww_perm (gs' := [wModel E a0 (rf2 h0_0 h0_1) v0]) [0] 1 rfl (by decide) rfl ?_
    refine ww_bipush (v := 57) C dX9_isDigit_15 (by decide) ?_
    refine ww_icmp_gt (tgt := 24) C dX9_isDigit_17 (by decide) (fun c_2 => ?_) (fun c_2 => ?_)
    · replace hf := ifT c_2 hf
      refine ww_iconst (v := 0) C dX9_isDigit_24 (by decide) ?_
      obtain rfl := Option.some.inj hf
      exact ww_zret C (nar_b false) ⟨rfl, rfl⟩ dX9_isDigit_25
    · replace hf := ifF c_2 hf
      refine ww_iconst (v := 1) C dX9_isDigit_20 (by decide) ?_
      refine ww_goto (tgt := 25) C dX9_isDigit_21 (by decide) ?_
      obtain rfl := Option.some.inj hf
      exact ww_zret C (nar_b true) ⟨rfl, rfl⟩ dX9_isDigit_25

theorem yk_X9_isDigit : yX9_isDigit.cls = RX9 ∧ yX9_isDigit.cls ≠ "java/lang/invoke/MethodHandle" ∧ yX9_isDigit.cls ≠ "java/lang/invoke/VarHandle" ∧ (parseMethodDescriptor yX9_isDigit.desc).map (fun d => d.parameters.length) = some 1 := by decide +kernel
abbrev rmX9_scan : Room := { frames := 2, cells := 0, slots := 0, locals := 42 }
set_option maxRecDepth 20000 in
theorem in_X9_scan_X9 : ∀ w ∈ u_ws RX9 TX9 35, w ∈ wsX9_scan := by decide +kernel
set_option maxHeartbeats 4000000 in
set_option maxRecDepth 100000 in
theorem w_X9_scan_77 {E : Ex} {K : Kx} (C : Cx E K cX9_scan 1 none RX9 wsX9_scan rmX9_scan) {a0 : Nat → Nat} {h0_0 h0_1 : Nat}   {r : ModelV} : ∀ (n : Nat) (v0 : ModelV), Mod_scan_77 n v0 = some r → WW E K 0 0 (QQ E K (fun rv g => rv = none ∧ g = [wModel E a0 (rf2 h0_0 h0_1) r]) 0 0) 77 [(0, .ref (a0 0))] [] [wModel E a0 (rf2 h0_0 h0_1) v0] := by
  intro n
  induction n with
  | zero =>
    intro v0 hf
    simp [Mod_scan_77] at hf
  | succ n ih =>
    intro v0 hf
    rw [Mod_scan_77] at hf
    refine ww_aload_n C dX9_scan_77 rfl 0 rfl ?_
    refine ww_aload_n C dX9_scan_78 rfl 0 rfl ?_
    refine ww_get C clOK9 in_X9_scan_X9 (w := wModel E a0 (rf2 h0_0 h0_1) v0) (fs := fsModel a0 (rf2 h0_0 h0_1) v0) (v := .int (Model_next v0)) 0 0 24 rfl q_Model (by decide) (by decide +kernel) g_Model_next dX9_scan_79 ?_
    obtain ⟨p82, hp82, hf⟩ := bdE hf
    refine ww_callV C (As := [.int (Model_next v0)]) (st := []) (gr := []) (c_X9_isLetter (E := E) (a0 := a0) (h0_0 := h0_0) (h0_1 := h0_1) hp82) gX9_scan_X9_isLetter rfl yk_X9_isLetter ⟨by decide, by decide⟩ ⟨by decide, by decide⟩ clOK9 0 0 rfl rfl [0] [] 1 rfl (by decide) rfl rfl (Nat.le_of_ble_eq_true rfl) dX9_scan_82 ?_
    rintro _ _ ⟨rfl, rfl⟩
    refine ww_perm (gs' := [wModel E a0 (rf2 h0_0 h0_1) v0]) [0] 1 rfl (by decide) rfl ?_
    refine ww_if_eqB (tgt := 101) C dX9_scan_85 (by decide) (fun c_6 => ?_) (fun c_6 => ?_)
    · replace hf := bfE c_6 hf
      refine ww_aload_n C dX9_scan_101 rfl 0 rfl ?_
      refine ww_iconst (v := 1) C dX9_scan_102 (by decide) ?_
      obtain ⟨v0_103, e_v0_103⟩ : ∃ y : ModelV, y = Model_set_token v0 1 := ⟨_, rfl⟩
      replace hf := ltE e_v0_103 hf
      refine ww_put C clOK9 in_X9_scan_X9 (w := wModel E a0 (rf2 h0_0 h0_1) v0) (fs := fsModel a0 (rf2 h0_0 h0_1) v0) (w' := wModel E a0 (rf2 h0_0 h0_1) v0_103) (gs' := [wModel E a0 (rf2 h0_0 h0_1) v0_103]) 0 0 26 rfl q_Model (by decide) (by decide +kernel) rfl rfl rfl rfl l_Model (by rw [e_v0_103]; exact p_Model_token) rfl dX9_scan_103 ?_
      refine ww_goto (tgt := 167) C dX9_scan_106 (by decide) ?_
      obtain rfl := Option.some.inj hf
      exact ww_vret C ⟨rfl, rfl⟩ dX9_scan_167
    · replace hf := btE c_6 hf
      refine ww_aload_n C dX9_scan_88 rfl 0 rfl ?_
      refine ww_dup C dX9_scan_89 rfl ?_
      refine ww_get C clOK9 in_X9_scan_X9 (w := wModel E a0 (rf2 h0_0 h0_1) v0) (fs := fsModel a0 (rf2 h0_0 h0_1) v0) (v := .int (Model_next v0)) 0 0 24 rfl q_Model (by decide) (by decide +kernel) g_Model_next dX9_scan_90 ?_
      refine ww_iconst (v := 1) C dX9_scan_93 (by decide) ?_
      refine ww_iadd C dX9_scan_94 ?_
      obtain ⟨v0_95, e_v0_95⟩ : ∃ y : ModelV, y = Model_set_next v0 ((Model_next v0) + 1) := ⟨_, rfl⟩
      replace hf := ltE e_v0_95 hf
      refine ww_put C clOK9 in_X9_scan_X9 (w := wModel E a0 (rf2 h0_0 h0_1) v0) (fs := fsModel a0 (rf2 h0_0 h0_1) v0) (w' := wModel E a0 (rf2 h0_0 h0_1) v0_95) (gs' := [wModel E a0 (rf2 h0_0 h0_1) v0_95]) 0 0 24 rfl q_Model (by decide) (by decide +kernel) rfl rfl rfl rfl l_Model (by rw [e_v0_95]; exact p_Model_next) rfl dX9_scan_95 ?_
      refine ww_goto (tgt := 77) C dX9_scan_98 (by decide) ?_
      refine ww_sub C (lv' := [(0, .ref (a0 0))]) [0] rfl ?_
      exact ih _ hf

set_option maxHeartbeats 4000000 in
set_option maxRecDepth 100000 in
theorem w_X9_scan_120 {E : Ex} {K : Kx} (C : Cx E K cX9_scan 1 none RX9 wsX9_scan rmX9_scan) {a0 : Nat → Nat} {h0_0 h0_1 : Nat}   {r : ModelV} : ∀ (n : Nat) (v0 : ModelV), Mod_scan_120 n v0 = some r → WW E K 0 0 (QQ E K (fun rv g => rv = none ∧ g = [wModel E a0 (rf2 h0_0 h0_1) r]) 0 0) 120 [(0, .ref (a0 0))] [] [wModel E a0 (rf2 h0_0 h0_1) v0] := by
  intro n
  induction n with
  | zero =>
    intro v0 hf
    simp [Mod_scan_120] at hf
  | succ n ih =>
    intro v0 hf
    rw [Mod_scan_120] at hf
    refine ww_aload_n C dX9_scan_120 rfl 0 rfl ?_
    refine ww_aload_n C dX9_scan_121 rfl 0 rfl ?_
    refine ww_get C clOK9 in_X9_scan_X9 (w := wModel E a0 (rf2 h0_0 h0_1) v0) (fs := fsModel a0 (rf2 h0_0 h0_1) v0) (v := .int (Model_next v0)) 0 0 24 rfl q_Model (by decide) (by decide +kernel) g_Model_next dX9_scan_122 ?_
    obtain ⟨p125, hp125, hf⟩ := bdE hf
    refine ww_callV C (As := [.int (Model_next v0)]) (st := []) (gr := []) (c_X9_isDigit (E := E) (a0 := a0) (h0_0 := h0_0) (h0_1 := h0_1) hp125) gX9_scan_X9_isDigit rfl yk_X9_isDigit ⟨by decide, by decide⟩ ⟨by decide, by decide⟩ clOK9 0 0 rfl rfl [0] [] 1 rfl (by decide) rfl rfl (Nat.le_of_ble_eq_true rfl) dX9_scan_125 ?_
    rintro _ _ ⟨rfl, rfl⟩
    refine ww_perm (gs' := [wModel E a0 (rf2 h0_0 h0_1) v0]) [0] 1 rfl (by decide) rfl ?_
    refine ww_if_eqB (tgt := 144) C dX9_scan_128 (by decide) (fun c_7 => ?_) (fun c_7 => ?_)
    · replace hf := bfE c_7 hf
      refine ww_aload_n C dX9_scan_144 rfl 0 rfl ?_
      refine ww_iconst (v := 2) C dX9_scan_145 (by decide) ?_
      obtain ⟨v0_146, e_v0_146⟩ : ∃ y : ModelV, y = Model_set_token v0 2 := ⟨_, rfl⟩
      replace hf := ltE e_v0_146 hf
      refine ww_put C clOK9 in_X9_scan_X9 (w := wModel E a0 (rf2 h0_0 h0_1) v0) (fs := fsModel a0 (rf2 h0_0 h0_1) v0) (w' := wModel E a0 (rf2 h0_0 h0_1) v0_146) (gs' := [wModel E a0 (rf2 h0_0 h0_1) v0_146]) 0 0 26 rfl q_Model (by decide) (by decide +kernel) rfl rfl rfl rfl l_Model (by rw [e_v0_146]; exact p_Model_token) rfl dX9_scan_146 ?_
      refine ww_goto (tgt := 167) C dX9_scan_149 (by decide) ?_
      obtain rfl := Option.some.inj hf
      exact ww_vret C ⟨rfl, rfl⟩ dX9_scan_167
    · replace hf := btE c_7 hf
      refine ww_aload_n C dX9_scan_131 rfl 0 rfl ?_
      refine ww_dup C dX9_scan_132 rfl ?_
      refine ww_get C clOK9 in_X9_scan_X9 (w := wModel E a0 (rf2 h0_0 h0_1) v0) (fs := fsModel a0 (rf2 h0_0 h0_1) v0) (v := .int (Model_next v0)) 0 0 24 rfl q_Model (by decide) (by decide +kernel) g_Model_next dX9_scan_133 ?_
      refine ww_iconst (v := 1) C dX9_scan_136 (by decide) ?_
      refine ww_iadd C dX9_scan_137 ?_
      obtain ⟨v0_138, e_v0_138⟩ : ∃ y : ModelV, y = Model_set_next v0 ((Model_next v0) + 1) := ⟨_, rfl⟩
      replace hf := ltE e_v0_138 hf
      refine ww_put C clOK9 in_X9_scan_X9 (w := wModel E a0 (rf2 h0_0 h0_1) v0) (fs := fsModel a0 (rf2 h0_0 h0_1) v0) (w' := wModel E a0 (rf2 h0_0 h0_1) v0_138) (gs' := [wModel E a0 (rf2 h0_0 h0_1) v0_138]) 0 0 24 rfl q_Model (by decide) (by decide +kernel) rfl rfl rfl rfl l_Model (by rw [e_v0_138]; exact p_Model_next) rfl dX9_scan_138 ?_
      refine ww_goto (tgt := 120) C dX9_scan_141 (by decide) ?_
      refine ww_sub C (lv' := [(0, .ref (a0 0))]) [0] rfl ?_
      exact ih _ hf

set_option maxHeartbeats 4000000 in
set_option maxRecDepth 100000 in
theorem w_X9_scan_0 {E : Ex} {K : Kx} (C : Cx E K cX9_scan 1 none RX9 wsX9_scan rmX9_scan) {a0 : Nat → Nat} {h0_0 h0_1 : Nat}   {r : ModelV} : ∀ (n : Nat) (v0 : ModelV), Mod_scan_0 n v0 = some r → WW E K 0 0 (QQ E K (fun rv g => rv = none ∧ g = [wModel E a0 (rf2 h0_0 h0_1) r]) 0 0) 0 [(0, .ref (a0 0))] [] [wModel E a0 (rf2 h0_0 h0_1) v0] := by
  intro n
  induction n with
  | zero =>
    intro v0 hf
    simp [Mod_scan_0] at hf
  | succ n ih =>
    intro v0 hf
    rw [Mod_scan_0] at hf
    refine ww_aload_n C dX9_scan_0 rfl 0 rfl ?_
    refine ww_aload_n C dX9_scan_1 rfl 0 rfl ?_
    refine ww_get C clOK9 in_X9_scan_X9 (w := wModel E a0 (rf2 h0_0 h0_1) v0) (fs := fsModel a0 (rf2 h0_0 h0_1) v0) (v := .int (Model_next v0)) 0 0 24 rfl q_Model (by decide) (by decide +kernel) g_Model_next dX9_scan_2 ?_
    obtain ⟨p5, hp5, hf⟩ := bdE hf
    refine ww_callV C (As := [.int (Model_next v0)]) (st := []) (gr := []) (c_X9_byteAt (E := E) (a0 := a0) (h0_0 := h0_0) (h0_1 := h0_1) hp5) gX9_scan_X9_byteAt rfl yk_X9_byteAt ⟨by decide, by decide⟩ ⟨by decide, by decide⟩ clOK9 0 0 rfl rfl [0] [] 1 rfl (by decide) rfl rfl (Nat.le_of_ble_eq_true rfl) dX9_scan_5 ?_
    rintro _ _ ⟨rfl, rfl⟩
    refine ww_perm (gs' := [wModel E a0 (rf2 h0_0 h0_1) v0]) [0] 1 rfl (by decide) rfl ?_
    refine ww_bipush (v := 32) C dX9_scan_8 (by decide) ?_
    refine ww_icmp_eq (tgt := 26) C dX9_scan_10 (by decide) (fun c_1 => ?_) (fun c_1 => ?_)
    · replace hf := ifT c_1 hf
      refine ww_aload_n C dX9_scan_26 rfl 0 rfl ?_
      refine ww_dup C dX9_scan_27 rfl ?_
      refine ww_get C clOK9 in_X9_scan_X9 (w := wModel E a0 (rf2 h0_0 h0_1) v0) (fs := fsModel a0 (rf2 h0_0 h0_1) v0) (v := .int (Model_next v0)) 0 0 24 rfl q_Model (by decide) (by decide +kernel) g_Model_next dX9_scan_28 ?_
      refine ww_iconst (v := 1) C dX9_scan_31 (by decide) ?_
      refine ww_iadd C dX9_scan_32 ?_
      obtain ⟨v0_33, e_v0_33⟩ : ∃ y : ModelV, y = Model_set_next v0 ((Model_next v0) + 1) := ⟨_, rfl⟩
      replace hf := ltE e_v0_33 hf
      refine ww_put C clOK9 in_X9_scan_X9 (w := wModel E a0 (rf2 h0_0 h0_1) v0) (fs := fsModel a0 (rf2 h0_0 h0_1) v0) (w' := wModel E a0 (rf2 h0_0 h0_1) v0_33) (gs' := [wModel E a0 (rf2 h0_0 h0_1) v0_33]) 0 0 24 rfl q_Model (by decide) (by decide +kernel) rfl rfl rfl rfl l_Model (by rw [e_v0_33]; exact p_Model_next) rfl dX9_scan_33 ?_
      refine ww_goto (tgt := 0) C dX9_scan_36 (by decide) ?_
      refine ww_sub C (lv' := [(0, .ref (a0 0))]) [0] rfl ?_
      exact ih _ hf
    · replace hf := ifF c_1 hf
      refine ww_aload_n C dX9_scan_13 rfl 0 rfl ?_
      refine ww_aload_n C dX9_scan_14 rfl 0 rfl ?_
      refine ww_get C clOK9 in_X9_scan_X9 (w := wModel E a0 (rf2 h0_0 h0_1) v0) (fs := fsModel a0 (rf2 h0_0 h0_1) v0) (v := .int (Model_next v0)) 0 0 24 rfl q_Model (by decide) (by decide +kernel) g_Model_next dX9_scan_15 ?_
      obtain ⟨p18, hp18, hf⟩ := bdE hf
      refine ww_callV C (As := [.int (Model_next v0)]) (st := []) (gr := []) (c_X9_byteAt (E := E) (a0 := a0) (h0_0 := h0_0) (h0_1 := h0_1) hp18) gX9_scan_X9_byteAt rfl yk_X9_byteAt ⟨by decide, by decide⟩ ⟨by decide, by decide⟩ clOK9 0 0 rfl rfl [0] [] 1 rfl (by decide) rfl rfl (Nat.le_of_ble_eq_true rfl) dX9_scan_18 ?_
      rintro _ _ ⟨rfl, rfl⟩
      refine ww_perm (gs' := [wModel E a0 (rf2 h0_0 h0_1) v0]) [0] 1 rfl (by decide) rfl ?_
      refine ww_bipush (v := 10) C dX9_scan_21 (by decide) ?_
      refine ww_icmp_ne (tgt := 39) C dX9_scan_23 (by decide) (fun c_2 => ?_) (fun c_2 => ?_)
      · replace hf := ifF c_2 hf
        refine ww_aload_n C dX9_scan_39 rfl 0 rfl ?_
        refine ww_aload_n C dX9_scan_40 rfl 0 rfl ?_
        refine ww_get C clOK9 in_X9_scan_X9 (w := wModel E a0 (rf2 h0_0 h0_1) v0) (fs := fsModel a0 (rf2 h0_0 h0_1) v0) (v := .int (Model_next v0)) 0 0 24 rfl q_Model (by decide) (by decide +kernel) g_Model_next dX9_scan_41 ?_
        obtain ⟨v0_44, e_v0_44⟩ : ∃ y : ModelV, y = Model_set_beginsAt v0 (Model_next v0) := ⟨_, rfl⟩
        replace hf := ltE e_v0_44 hf
        refine ww_put C clOK9 in_X9_scan_X9 (w := wModel E a0 (rf2 h0_0 h0_1) v0) (fs := fsModel a0 (rf2 h0_0 h0_1) v0) (w' := wModel E a0 (rf2 h0_0 h0_1) v0_44) (gs' := [wModel E a0 (rf2 h0_0 h0_1) v0_44]) 0 0 25 rfl q_Model (by decide) (by decide +kernel) rfl rfl rfl rfl l_Model (by rw [e_v0_44]; exact p_Model_beginsAt) rfl dX9_scan_44 ?_
        refine ww_aload_n C dX9_scan_47 rfl 0 rfl ?_
        refine ww_get C clOK9 in_X9_scan_X9 (w := wModel E a0 (rf2 h0_0 h0_1) v0_44) (fs := fsModel a0 (rf2 h0_0 h0_1) v0_44) (v := .int (Model_next v0_44)) 0 0 24 rfl q_Model (by decide) (by decide +kernel) g_Model_next dX9_scan_48 ?_
        refine ww_aload_n C dX9_scan_51 rfl 0 rfl ?_
        refine ww_get C clOK9 in_X9_scan_X9 (w := wModel E a0 (rf2 h0_0 h0_1) v0_44) (fs := fsModel a0 (rf2 h0_0 h0_1) v0_44) (v := .int (Model_limit v0_44)) 0 0 23 rfl q_Model (by decide) (by decide +kernel) g_Model_limit dX9_scan_52 ?_
        refine ww_icmp_lt (tgt := 66) C dX9_scan_55 (by decide) (fun c_3 => ?_) (fun c_3 => ?_)
        · replace hf := ifT c_3 hf
          refine ww_aload_n C dX9_scan_66 rfl 0 rfl ?_
          refine ww_aload_n C dX9_scan_67 rfl 0 rfl ?_
          refine ww_get C clOK9 in_X9_scan_X9 (w := wModel E a0 (rf2 h0_0 h0_1) v0_44) (fs := fsModel a0 (rf2 h0_0 h0_1) v0_44) (v := .int (Model_next v0_44)) 0 0 24 rfl q_Model (by decide) (by decide +kernel) g_Model_next dX9_scan_68 ?_
          obtain ⟨p71, hp71, hf⟩ := bdE hf
          refine ww_callV C (As := [.int (Model_next v0_44)]) (st := []) (gr := []) (c_X9_isLetter (E := E) (a0 := a0) (h0_0 := h0_0) (h0_1 := h0_1) hp71) gX9_scan_X9_isLetter rfl yk_X9_isLetter ⟨by decide, by decide⟩ ⟨by decide, by decide⟩ clOK9 0 0 rfl rfl [0] [] 1 rfl (by decide) rfl rfl (Nat.le_of_ble_eq_true rfl) dX9_scan_71 ?_
          rintro _ _ ⟨rfl, rfl⟩
          refine ww_perm (gs' := [wModel E a0 (rf2 h0_0 h0_1) v0_44]) [0] 1 rfl (by decide) rfl ?_
          refine ww_if_eqB (tgt := 109) C dX9_scan_74 (by decide) (fun c_4 => ?_) (fun c_4 => ?_)
          · replace hf := bfE c_4 hf
            refine ww_aload_n C dX9_scan_109 rfl 0 rfl ?_
            refine ww_aload_n C dX9_scan_110 rfl 0 rfl ?_
            refine ww_get C clOK9 in_X9_scan_X9 (w := wModel E a0 (rf2 h0_0 h0_1) v0_44) (fs := fsModel a0 (rf2 h0_0 h0_1) v0_44) (v := .int (Model_next v0_44)) 0 0 24 rfl q_Model (by decide) (by decide +kernel) g_Model_next dX9_scan_111 ?_
            obtain ⟨p114, hp114, hf⟩ := bdE hf
            refine ww_callV C (As := [.int (Model_next v0_44)]) (st := []) (gr := []) (c_X9_isDigit (E := E) (a0 := a0) (h0_0 := h0_0) (h0_1 := h0_1) hp114) gX9_scan_X9_isDigit rfl yk_X9_isDigit ⟨by decide, by decide⟩ ⟨by decide, by decide⟩ clOK9 0 0 rfl rfl [0] [] 1 rfl (by decide) rfl rfl (Nat.le_of_ble_eq_true rfl) dX9_scan_114 ?_
            rintro _ _ ⟨rfl, rfl⟩
            refine ww_perm (gs' := [wModel E a0 (rf2 h0_0 h0_1) v0_44]) [0] 1 rfl (by decide) rfl ?_
            refine ww_if_eqB (tgt := 152) C dX9_scan_117 (by decide) (fun c_5 => ?_) (fun c_5 => ?_)
            · replace hf := bfE c_5 hf
              refine ww_aload_n C dX9_scan_152 rfl 0 rfl ?_
              refine ww_dup C dX9_scan_153 rfl ?_
              refine ww_get C clOK9 in_X9_scan_X9 (w := wModel E a0 (rf2 h0_0 h0_1) v0_44) (fs := fsModel a0 (rf2 h0_0 h0_1) v0_44) (v := .int (Model_next v0_44)) 0 0 24 rfl q_Model (by decide) (by decide +kernel) g_Model_next dX9_scan_154 ?_
              refine ww_iconst (v := 1) C dX9_scan_157 (by decide) ?_
              refine ww_iadd C dX9_scan_158 ?_
              obtain ⟨v0_159, e_v0_159⟩ : ∃ y : ModelV, y = Model_set_next v0_44 ((Model_next v0_44) + 1) := ⟨_, rfl⟩
              replace hf := ltE e_v0_159 hf
              refine ww_put C clOK9 in_X9_scan_X9 (w := wModel E a0 (rf2 h0_0 h0_1) v0_44) (fs := fsModel a0 (rf2 h0_0 h0_1) v0_44) (w' := wModel E a0 (rf2 h0_0 h0_1) v0_159) (gs' := [wModel E a0 (rf2 h0_0 h0_1) v0_159]) 0 0 24 rfl q_Model (by decide) (by decide +kernel) rfl rfl rfl rfl l_Model (by rw [e_v0_159]; exact p_Model_next) rfl dX9_scan_159 ?_
              refine ww_aload_n C dX9_scan_162 rfl 0 rfl ?_
              refine ww_iconst (v := 3) C dX9_scan_163 (by decide) ?_
              obtain ⟨v0_164, e_v0_164⟩ : ∃ y : ModelV, y = Model_set_token v0_159 3 := ⟨_, rfl⟩
              replace hf := ltE e_v0_164 hf
              refine ww_put C clOK9 in_X9_scan_X9 (w := wModel E a0 (rf2 h0_0 h0_1) v0_159) (fs := fsModel a0 (rf2 h0_0 h0_1) v0_159) (w' := wModel E a0 (rf2 h0_0 h0_1) v0_164) (gs' := [wModel E a0 (rf2 h0_0 h0_1) v0_164]) 0 0 26 rfl q_Model (by decide) (by decide +kernel) rfl rfl rfl rfl l_Model (by rw [e_v0_164]; exact p_Model_token) rfl dX9_scan_164 ?_
              obtain rfl := Option.some.inj hf
              exact ww_vret C ⟨rfl, rfl⟩ dX9_scan_167
            · replace hf := btE c_5 hf
              refine ww_sub C (lv' := [(0, .ref (a0 0))]) [0] rfl ?_
              exact w_X9_scan_120 C FU _ hf
          · replace hf := btE c_4 hf
            refine ww_sub C (lv' := [(0, .ref (a0 0))]) [0] rfl ?_
            exact w_X9_scan_77 C FU _ hf
        · replace hf := ifF c_3 hf
          refine ww_aload_n C dX9_scan_58 rfl 0 rfl ?_
          refine ww_iconst (v := 0) C dX9_scan_59 (by decide) ?_
          obtain ⟨v0_60, e_v0_60⟩ : ∃ y : ModelV, y = Model_set_token v0_44 0 := ⟨_, rfl⟩
          replace hf := ltE e_v0_60 hf
          refine ww_put C clOK9 in_X9_scan_X9 (w := wModel E a0 (rf2 h0_0 h0_1) v0_44) (fs := fsModel a0 (rf2 h0_0 h0_1) v0_44) (w' := wModel E a0 (rf2 h0_0 h0_1) v0_60) (gs' := [wModel E a0 (rf2 h0_0 h0_1) v0_60]) 0 0 26 rfl q_Model (by decide) (by decide +kernel) rfl rfl rfl rfl l_Model (by rw [e_v0_60]; exact p_Model_token) rfl dX9_scan_60 ?_
          refine ww_goto (tgt := 167) C dX9_scan_63 (by decide) ?_
          obtain rfl := Option.some.inj hf
          exact ww_vret C ⟨rfl, rfl⟩ dX9_scan_167
      · replace hf := ifT c_2 hf
        refine ww_aload_n C dX9_scan_26 rfl 0 rfl ?_
        refine ww_dup C dX9_scan_27 rfl ?_
        refine ww_get C clOK9 in_X9_scan_X9 (w := wModel E a0 (rf2 h0_0 h0_1) v0) (fs := fsModel a0 (rf2 h0_0 h0_1) v0) (v := .int (Model_next v0)) 0 0 24 rfl q_Model (by decide) (by decide +kernel) g_Model_next dX9_scan_28 ?_
        refine ww_iconst (v := 1) C dX9_scan_31 (by decide) ?_
        refine ww_iadd C dX9_scan_32 ?_
        obtain ⟨v0_33, e_v0_33⟩ : ∃ y : ModelV, y = Model_set_next v0 ((Model_next v0) + 1) := ⟨_, rfl⟩
        replace hf := ltE e_v0_33 hf
        refine ww_put C clOK9 in_X9_scan_X9 (w := wModel E a0 (rf2 h0_0 h0_1) v0) (fs := fsModel a0 (rf2 h0_0 h0_1) v0) (w' := wModel E a0 (rf2 h0_0 h0_1) v0_33) (gs' := [wModel E a0 (rf2 h0_0 h0_1) v0_33]) 0 0 24 rfl q_Model (by decide) (by decide +kernel) rfl rfl rfl rfl l_Model (by rw [e_v0_33]; exact p_Model_next) rfl dX9_scan_33 ?_
        refine ww_goto (tgt := 0) C dX9_scan_36 (by decide) ?_
        refine ww_sub C (lv' := [(0, .ref (a0 0))]) [0] rfl ?_
        exact ih _ hf

set_option maxHeartbeats 4000000 in
set_option maxRecDepth 100000 in
theorem c_X9_scan {E : Ex} {a0 : Nat → Nat} {h0_0 h0_1 : Nat} {v0 : ModelV} {r : ModelV} (hf : Mod_scan v0 = some r) : Ct E yX9_scan wsX9_scan rmX9_scan [.ref (a0 0)] [wModel E a0 (rf2 h0_0 h0_1) v0] (fun rv g => rv = none ∧ g = [wModel E a0 (rf2 h0_0 h0_1) r]) := by
  refine ct_of (own := RX9) (by decide +kernel) rfl rfl (Nat.le_of_ble_eq_true rfl) (fun K C => ?_)
  refine ww_sub C (lv' := [(0, .ref (a0 0))]) [0] rfl ?_
  rw [Mod_scan] at hf
  refine ww_sub C (lv' := [(0, .ref (a0 0))]) [0] rfl ?_
  exact w_X9_scan_0 C FU _ hf

theorem yk_X9_scan : yX9_scan.cls = RX9 ∧ yX9_scan.cls ≠ "java/lang/invoke/MethodHandle" ∧ yX9_scan.cls ≠ "java/lang/invoke/VarHandle" ∧ (parseMethodDescriptor yX9_scan.desc).map (fun d => d.parameters.length) = some 0 := by decide +kernel
abbrev rmX9_startText : Room := { frames := 3, cells := 0, slots := 0, locals := 62 }
set_option maxRecDepth 20000 in
theorem in_X9_startText_X9 : ∀ w ∈ u_ws RX9 TX9 35, w ∈ wsX9_startText := by decide +kernel
set_option maxHeartbeats 4000000 in
set_option maxRecDepth 100000 in
theorem c_X9_startText {E : Ex} {a0 : Nat → Nat} {h0_0 h0_1 : Nat} {x1 : Int32} {v0 : ModelV} {r : ModelV} (hf : Mod_startText x1 v0 = some r) : Ct E yX9_startText wsX9_startText rmX9_startText [.ref (a0 0), .int x1] [wModel E a0 (rf2 h0_0 h0_1) v0] (fun rv g => rv = none ∧ g = [wModel E a0 (rf2 h0_0 h0_1) r]) := by
  refine ct_of (own := RX9) (by decide +kernel) rfl rfl (Nat.le_of_ble_eq_true rfl) (fun K C => ?_)
  refine ww_sub C (lv' := [(0, .ref (a0 0)), (1, .int x1)]) [0, 1] rfl ?_
  rw [Mod_startText] at hf
  refine ww_aload_n C dX9_startText_0 rfl 0 rfl ?_
  refine ww_iload_n C dX9_startText_1 rfl 1 rfl ?_
  obtain ⟨v0_2, e_v0_2⟩ : ∃ y : ModelV, y = Model_set_limit v0 x1 := ⟨_, rfl⟩
  replace hf := ltE e_v0_2 hf
  refine ww_put C clOK9 in_X9_startText_X9 (w := wModel E a0 (rf2 h0_0 h0_1) v0) (fs := fsModel a0 (rf2 h0_0 h0_1) v0) (w' := wModel E a0 (rf2 h0_0 h0_1) v0_2) (gs' := [wModel E a0 (rf2 h0_0 h0_1) v0_2]) 0 0 23 rfl q_Model (by decide) (by decide +kernel) rfl rfl rfl rfl l_Model (by rw [e_v0_2]; exact p_Model_limit) rfl dX9_startText_2 ?_
  refine ww_aload_n C dX9_startText_5 rfl 0 rfl ?_
  refine ww_iconst (v := 0) C dX9_startText_6 (by decide) ?_
  obtain ⟨v0_7, e_v0_7⟩ : ∃ y : ModelV, y = Model_set_next v0_2 0 := ⟨_, rfl⟩
  replace hf := ltE e_v0_7 hf
  refine ww_put C clOK9 in_X9_startText_X9 (w := wModel E a0 (rf2 h0_0 h0_1) v0_2) (fs := fsModel a0 (rf2 h0_0 h0_1) v0_2) (w' := wModel E a0 (rf2 h0_0 h0_1) v0_7) (gs' := [wModel E a0 (rf2 h0_0 h0_1) v0_7]) 0 0 24 rfl q_Model (by decide) (by decide +kernel) rfl rfl rfl rfl l_Model (by rw [e_v0_7]; exact p_Model_next) rfl dX9_startText_7 ?_
  refine ww_aload_n C dX9_startText_10 rfl 0 rfl ?_
  refine ww_iconst (v := 0) C dX9_startText_11 (by decide) ?_
  obtain ⟨v0_12, e_v0_12⟩ : ∃ y : ModelV, y = Model_set_error v0_7 0 := ⟨_, rfl⟩
  replace hf := ltE e_v0_12 hf
  refine ww_put C clOK9 in_X9_startText_X9 (w := wModel E a0 (rf2 h0_0 h0_1) v0_7) (fs := fsModel a0 (rf2 h0_0 h0_1) v0_7) (w' := wModel E a0 (rf2 h0_0 h0_1) v0_12) (gs' := [wModel E a0 (rf2 h0_0 h0_1) v0_12]) 0 0 27 rfl q_Model (by decide) (by decide +kernel) rfl rfl rfl rfl l_Model (by rw [e_v0_12]; exact p_Model_error) rfl dX9_startText_12 ?_
  refine ww_aload_n C dX9_startText_15 rfl 0 rfl ?_
  refine ww_iconst (v := 0) C dX9_startText_16 (by decide) ?_
  obtain ⟨v0_17, e_v0_17⟩ : ∃ y : ModelV, y = Model_set_nested v0_12 0 := ⟨_, rfl⟩
  replace hf := ltE e_v0_17 hf
  refine ww_put C clOK9 in_X9_startText_X9 (w := wModel E a0 (rf2 h0_0 h0_1) v0_12) (fs := fsModel a0 (rf2 h0_0 h0_1) v0_12) (w' := wModel E a0 (rf2 h0_0 h0_1) v0_17) (gs' := [wModel E a0 (rf2 h0_0 h0_1) v0_17]) 0 0 30 rfl q_Model (by decide) (by decide +kernel) rfl rfl rfl rfl l_Model (by rw [e_v0_17]; exact p_Model_nested) rfl dX9_startText_17 ?_
  refine ww_aload_n C dX9_startText_20 rfl 0 rfl ?_
  obtain ⟨p21, hp21, hf⟩ := bdE hf
  refine ww_callV C (As := []) (st := []) (gr := []) (c_X9_scan (E := E) (a0 := a0) (h0_0 := h0_0) (h0_1 := h0_1) hp21) gX9_startText_X9_scan rfl yk_X9_scan ⟨by decide, by decide⟩ ⟨by decide, by decide⟩ clOK9 0 0 rfl rfl [0] [] 1 rfl (by decide) rfl rfl (Nat.le_of_ble_eq_true rfl) dX9_startText_21 ?_
  rintro _ _ ⟨rfl, rfl⟩
  refine ww_perm (gs' := [wModel E a0 (rf2 h0_0 h0_1) p21]) [0] 1 rfl (by decide) rfl ?_
  obtain rfl := Option.some.inj hf
  exact ww_vret C ⟨rfl, rfl⟩ dX9_startText_24

theorem yk_X9_startText : yX9_startText.cls = RX9 ∧ yX9_startText.cls ≠ "java/lang/invoke/MethodHandle" ∧ yX9_startText.cls ≠ "java/lang/invoke/VarHandle" ∧ (parseMethodDescriptor yX9_startText.desc).map (fun d => d.parameters.length) = some 1 := by decide +kernel
abbrev rmX9_finish : Room := { frames := 0, cells := 0, slots := 0, locals := 0 }
set_option maxRecDepth 20000 in
theorem in_X9_finish_X9 : ∀ w ∈ u_ws RX9 TX9 35, w ∈ wsX9_finish := by decide +kernel
set_option maxHeartbeats 4000000 in
set_option maxRecDepth 100000 in
theorem c_X9_finish {E : Ex} {a0 : Nat → Nat} {h0_0 h0_1 : Nat} {v0 : ModelV} {r : (Int32 × ModelV)} (hf : Mod_finish v0 = some r) : Ct E yX9_finish wsX9_finish rmX9_finish [.ref (a0 0)] [wModel E a0 (rf2 h0_0 h0_1) v0] (fun rv g => rv = some (.int r.1) ∧ g = [wModel E a0 (rf2 h0_0 h0_1) r.2]) := by
  refine ct_of (own := RX9) (by decide +kernel) rfl rfl (Nat.le_of_ble_eq_true rfl) (fun K C => ?_)
  refine ww_sub C (lv' := [(0, .ref (a0 0))]) [0] rfl ?_
  rw [Mod_finish] at hf
  refine ww_aload_n C dX9_finish_0 rfl 0 rfl ?_
  refine ww_iconst (v := 0) C dX9_finish_1 (by decide) ?_
  obtain ⟨v0_2, e_v0_2⟩ : ∃ y : ModelV, y = Model_set_bufferLength v0 0 := ⟨_, rfl⟩
  replace hf := ltE e_v0_2 hf
  refine ww_put C clOK9 in_X9_finish_X9 (w := wModel E a0 (rf2 h0_0 h0_1) v0) (fs := fsModel a0 (rf2 h0_0 h0_1) v0) (w' := wModel E a0 (rf2 h0_0 h0_1) v0_2) (gs' := [wModel E a0 (rf2 h0_0 h0_1) v0_2]) 0 0 22 rfl q_Model (by decide) (by decide +kernel) rfl rfl rfl rfl l_Model (by rw [e_v0_2]; exact p_Model_bufferLength) rfl dX9_finish_2 ?_
  refine ww_aload_n C dX9_finish_5 rfl 0 rfl ?_
  refine ww_aload_n C dX9_finish_6 rfl 0 rfl ?_
  refine ww_get C clOK9 in_X9_finish_X9 (w := wModel E a0 (rf2 h0_0 h0_1) v0_2) (fs := fsModel a0 (rf2 h0_0 h0_1) v0_2) (v := .int (Model_error v0_2)) 0 0 27 rfl q_Model (by decide) (by decide +kernel) g_Model_error dX9_finish_7 ?_
  refine ww_if_ne (tgt := 17) C dX9_finish_10 (by decide) (fun c_1 => ?_) (fun c_1 => ?_)
  · replace hf := ifF c_1 hf
    refine ww_aload_n C dX9_finish_17 rfl 0 rfl ?_
    refine ww_get C clOK9 in_X9_finish_X9 (w := wModel E a0 (rf2 h0_0 h0_1) v0_2) (fs := fsModel a0 (rf2 h0_0 h0_1) v0_2) (v := .int (Model_errorAt v0_2)) 0 0 28 rfl q_Model (by decide) (by decide +kernel) g_Model_errorAt dX9_finish_18 ?_
    obtain ⟨v0_21, e_v0_21⟩ : ∃ y : ModelV, y = Model_set_errorPosition v0_2 (Model_errorAt v0_2) := ⟨_, rfl⟩
    replace hf := ltE e_v0_21 hf
    refine ww_put C clOK9 in_X9_finish_X9 (w := wModel E a0 (rf2 h0_0 h0_1) v0_2) (fs := fsModel a0 (rf2 h0_0 h0_1) v0_2) (w' := wModel E a0 (rf2 h0_0 h0_1) v0_21) (gs' := [wModel E a0 (rf2 h0_0 h0_1) v0_21]) 0 0 29 rfl q_Model (by decide) (by decide +kernel) rfl rfl rfl rfl l_Model (by rw [e_v0_21]; exact p_Model_errorPosition) rfl dX9_finish_21 ?_
    refine ww_aload_n C dX9_finish_24 rfl 0 rfl ?_
    refine ww_get C clOK9 in_X9_finish_X9 (w := wModel E a0 (rf2 h0_0 h0_1) v0_21) (fs := fsModel a0 (rf2 h0_0 h0_1) v0_21) (v := .int (Model_error v0_21)) 0 0 27 rfl q_Model (by decide) (by decide +kernel) g_Model_error dX9_finish_25 ?_
    obtain rfl := Option.some.inj hf
    exact ww_iret C ⟨rfl, rfl⟩ dX9_finish_28
  · replace hf := ifT c_1 hf
    refine ww_iconst (v := (-1)) C dX9_finish_13 (by decide) ?_
    refine ww_goto (tgt := 21) C dX9_finish_14 (by decide) ?_
    obtain ⟨v0_21, e_v0_21⟩ : ∃ y : ModelV, y = Model_set_errorPosition v0_2 (-1) := ⟨_, rfl⟩
    replace hf := ltE e_v0_21 hf
    refine ww_put C clOK9 in_X9_finish_X9 (w := wModel E a0 (rf2 h0_0 h0_1) v0_2) (fs := fsModel a0 (rf2 h0_0 h0_1) v0_2) (w' := wModel E a0 (rf2 h0_0 h0_1) v0_21) (gs' := [wModel E a0 (rf2 h0_0 h0_1) v0_21]) 0 0 29 rfl q_Model (by decide) (by decide +kernel) rfl rfl rfl rfl l_Model (by rw [e_v0_21]; exact p_Model_errorPosition) rfl dX9_finish_21 ?_
    refine ww_aload_n C dX9_finish_24 rfl 0 rfl ?_
    refine ww_get C clOK9 in_X9_finish_X9 (w := wModel E a0 (rf2 h0_0 h0_1) v0_21) (fs := fsModel a0 (rf2 h0_0 h0_1) v0_21) (v := .int (Model_error v0_21)) 0 0 27 rfl q_Model (by decide) (by decide +kernel) g_Model_error dX9_finish_25 ?_
    obtain rfl := Option.some.inj hf
    exact ww_iret C ⟨rfl, rfl⟩ dX9_finish_28

theorem yk_X9_finish : yX9_finish.cls = RX9 ∧ yX9_finish.cls ≠ "java/lang/invoke/MethodHandle" ∧ yX9_finish.cls ≠ "java/lang/invoke/VarHandle" ∧ (parseMethodDescriptor yX9_finish.desc).map (fun d => d.parameters.length) = some 0 := by decide +kernel
abbrev rmX9_flaw : Room := { frames := 0, cells := 0, slots := 0, locals := 0 }
set_option maxRecDepth 20000 in
theorem in_X9_flaw_X9 : ∀ w ∈ u_ws RX9 TX9 35, w ∈ wsX9_flaw := by decide +kernel
set_option maxHeartbeats 4000000 in
set_option maxRecDepth 100000 in
theorem c_X9_flaw {E : Ex} {a0 : Nat → Nat} {h0_0 h0_1 : Nat} {x1 : Int32} {v0 : ModelV} {r : ModelV} (hf : Mod_flaw x1 v0 = some r) : Ct E yX9_flaw wsX9_flaw rmX9_flaw [.ref (a0 0), .int x1] [wModel E a0 (rf2 h0_0 h0_1) v0] (fun rv g => rv = none ∧ g = [wModel E a0 (rf2 h0_0 h0_1) r]) := by
  refine ct_of (own := RX9) (by decide +kernel) rfl rfl (Nat.le_of_ble_eq_true rfl) (fun K C => ?_)
  refine ww_sub C (lv' := [(0, .ref (a0 0)), (1, .int x1)]) [0, 1] rfl ?_
  rw [Mod_flaw] at hf
  refine ww_aload_n C dX9_flaw_0 rfl 0 rfl ?_
  refine ww_get C clOK9 in_X9_flaw_X9 (w := wModel E a0 (rf2 h0_0 h0_1) v0) (fs := fsModel a0 (rf2 h0_0 h0_1) v0) (v := .int (Model_error v0)) 0 0 27 rfl q_Model (by decide) (by decide +kernel) g_Model_error dX9_flaw_1 ?_
  refine ww_if_ne (tgt := 20) C dX9_flaw_4 (by decide) (fun c_1 => ?_) (fun c_1 => ?_)
  · replace hf := ifF c_1 hf
    obtain rfl := Option.some.inj hf
    exact ww_vret C ⟨rfl, rfl⟩ dX9_flaw_20
  · replace hf := ifT c_1 hf
    refine ww_aload_n C dX9_flaw_7 rfl 0 rfl ?_
    refine ww_iload_n C dX9_flaw_8 rfl 1 rfl ?_
    obtain ⟨v0_9, e_v0_9⟩ : ∃ y : ModelV, y = Model_set_error v0 x1 := ⟨_, rfl⟩
    replace hf := ltE e_v0_9 hf
    refine ww_put C clOK9 in_X9_flaw_X9 (w := wModel E a0 (rf2 h0_0 h0_1) v0) (fs := fsModel a0 (rf2 h0_0 h0_1) v0) (w' := wModel E a0 (rf2 h0_0 h0_1) v0_9) (gs' := [wModel E a0 (rf2 h0_0 h0_1) v0_9]) 0 0 27 rfl q_Model (by decide) (by decide +kernel) rfl rfl rfl rfl l_Model (by rw [e_v0_9]; exact p_Model_error) rfl dX9_flaw_9 ?_
    refine ww_aload_n C dX9_flaw_12 rfl 0 rfl ?_
    refine ww_aload_n C dX9_flaw_13 rfl 0 rfl ?_
    refine ww_get C clOK9 in_X9_flaw_X9 (w := wModel E a0 (rf2 h0_0 h0_1) v0_9) (fs := fsModel a0 (rf2 h0_0 h0_1) v0_9) (v := .int (Model_beginsAt v0_9)) 0 0 25 rfl q_Model (by decide) (by decide +kernel) g_Model_beginsAt dX9_flaw_14 ?_
    obtain ⟨v0_17, e_v0_17⟩ : ∃ y : ModelV, y = Model_set_errorAt v0_9 (Model_beginsAt v0_9) := ⟨_, rfl⟩
    replace hf := ltE e_v0_17 hf
    refine ww_put C clOK9 in_X9_flaw_X9 (w := wModel E a0 (rf2 h0_0 h0_1) v0_9) (fs := fsModel a0 (rf2 h0_0 h0_1) v0_9) (w' := wModel E a0 (rf2 h0_0 h0_1) v0_17) (gs' := [wModel E a0 (rf2 h0_0 h0_1) v0_17]) 0 0 28 rfl q_Model (by decide) (by decide +kernel) rfl rfl rfl rfl l_Model (by rw [e_v0_17]; exact p_Model_errorAt) rfl dX9_flaw_17 ?_
    obtain rfl := Option.some.inj hf
    exact ww_vret C ⟨rfl, rfl⟩ dX9_flaw_20

theorem yk_X9_flaw : yX9_flaw.cls = RX9 ∧ yX9_flaw.cls ≠ "java/lang/invoke/MethodHandle" ∧ yX9_flaw.cls ≠ "java/lang/invoke/VarHandle" ∧ (parseMethodDescriptor yX9_flaw.desc).map (fun d => d.parameters.length) = some 1 := by decide +kernel
abbrev rmX9_check : Room := { frames := 1, cells := 0, slots := 0, locals := 21 }
set_option maxHeartbeats 4000000 in
set_option maxRecDepth 100000 in
theorem c_X9_check {E : Ex} {a0 : Nat → Nat} {h0_0 h0_1 : Nat} {x1 : Bool} {x2 : Int32} {v0 : ModelV} {r : ModelV} (hf : Mod_check x1 x2 v0 = some r) : Ct E yX9_check wsX9_check rmX9_check [.ref (a0 0), .int (b2i x1), .int x2] [wModel E a0 (rf2 h0_0 h0_1) v0] (fun rv g => rv = none ∧ g = [wModel E a0 (rf2 h0_0 h0_1) r]) := by
  refine ct_of (own := RX9) (by decide +kernel) rfl rfl (Nat.le_of_ble_eq_true rfl) (fun K C => ?_)
  refine ww_sub C (lv' := [(0, .ref (a0 0)), (1, .int (b2i x1)), (2, .int x2)]) [0, 1, 2] rfl ?_
  rw [Mod_check] at hf
  refine ww_iload_n C dX9_check_0 rfl 1 rfl ?_
  refine ww_if_neB (tgt := 9) C dX9_check_1 (by decide) (fun c_1 => ?_) (fun c_1 => ?_)
  · replace hf := btE c_1 hf
    obtain rfl := Option.some.inj hf
    exact ww_vret C ⟨rfl, rfl⟩ dX9_check_9
  · replace hf := bfE c_1 hf
    refine ww_aload_n C dX9_check_4 rfl 0 rfl ?_
    refine ww_iload_n C dX9_check_5 rfl 2 rfl ?_
    obtain ⟨p6, hp6, hf⟩ := bdE hf
    refine ww_callV C (As := [.int x2]) (st := []) (gr := []) (c_X9_flaw (E := E) (a0 := a0) (h0_0 := h0_0) (h0_1 := h0_1) hp6) gX9_check_X9_flaw rfl yk_X9_flaw ⟨by decide, by decide⟩ ⟨by decide, by decide⟩ clOK9 0 0 rfl rfl [0] [] 1 rfl (by decide) rfl rfl (Nat.le_of_ble_eq_true rfl) dX9_check_6 ?_
    rintro _ _ ⟨rfl, rfl⟩
    refine ww_perm (gs' := [wModel E a0 (rf2 h0_0 h0_1) p6]) [0] 1 rfl (by decide) rfl ?_
    obtain rfl := Option.some.inj hf
    exact ww_vret C ⟨rfl, rfl⟩ dX9_check_9

theorem yk_X9_check : yX9_check.cls = RX9 ∧ yX9_check.cls ≠ "java/lang/invoke/MethodHandle" ∧ yX9_check.cls ≠ "java/lang/invoke/VarHandle" ∧ (parseMethodDescriptor yX9_check.desc).map (fun d => d.parameters.length) = some 2 := by decide +kernel
abbrev rmX9_advance : Room := { frames := 3, cells := 0, slots := 0, locals := 62 }
set_option maxRecDepth 20000 in
theorem in_X9_advance_X9 : ∀ w ∈ u_ws RX9 TX9 35, w ∈ wsX9_advance := by decide +kernel
set_option maxHeartbeats 4000000 in
set_option maxRecDepth 100000 in
theorem c_X9_advance {E : Ex} {a0 : Nat → Nat} {h0_0 h0_1 : Nat} {v0 : ModelV} {r : ModelV} (hf : Mod_advance v0 = some r) : Ct E yX9_advance wsX9_advance rmX9_advance [.ref (a0 0)] [wModel E a0 (rf2 h0_0 h0_1) v0] (fun rv g => rv = none ∧ g = [wModel E a0 (rf2 h0_0 h0_1) r]) := by
  refine ct_of (own := RX9) (by decide +kernel) rfl rfl (Nat.le_of_ble_eq_true rfl) (fun K C => ?_)
  refine ww_sub C (lv' := [(0, .ref (a0 0))]) [0] rfl ?_
  rw [Mod_advance] at hf
  refine ww_aload_n C dX9_advance_0 rfl 0 rfl ?_
  refine ww_get C clOK9 in_X9_advance_X9 (w := wModel E a0 (rf2 h0_0 h0_1) v0) (fs := fsModel a0 (rf2 h0_0 h0_1) v0) (v := .int (Model_error v0)) 0 0 27 rfl q_Model (by decide) (by decide +kernel) g_Model_error dX9_advance_1 ?_
  refine ww_if_ne (tgt := 11) C dX9_advance_4 (by decide) (fun c_1 => ?_) (fun c_1 => ?_)
  · replace hf := ifF c_1 hf
    obtain rfl := Option.some.inj hf
    exact ww_vret C ⟨rfl, rfl⟩ dX9_advance_11
  · replace hf := ifT c_1 hf
    refine ww_aload_n C dX9_advance_7 rfl 0 rfl ?_
    obtain ⟨p8, hp8, hf⟩ := bdE hf
    refine ww_callV C (As := []) (st := []) (gr := []) (c_X9_scan (E := E) (a0 := a0) (h0_0 := h0_0) (h0_1 := h0_1) hp8) gX9_advance_X9_scan rfl yk_X9_scan ⟨by decide, by decide⟩ ⟨by decide, by decide⟩ clOK9 0 0 rfl rfl [0] [] 1 rfl (by decide) rfl rfl (Nat.le_of_ble_eq_true rfl) dX9_advance_8 ?_
    rintro _ _ ⟨rfl, rfl⟩
    refine ww_perm (gs' := [wModel E a0 (rf2 h0_0 h0_1) p8]) [0] 1 rfl (by decide) rfl ?_
    obtain rfl := Option.some.inj hf
    exact ww_vret C ⟨rfl, rfl⟩ dX9_advance_11

theorem yk_X9_advance : yX9_advance.cls = RX9 ∧ yX9_advance.cls ≠ "java/lang/invoke/MethodHandle" ∧ yX9_advance.cls ≠ "java/lang/invoke/VarHandle" ∧ (parseMethodDescriptor yX9_advance.desc).map (fun d => d.parameters.length) = some 0 := by decide +kernel
abbrev rmX9_isSymbol : Room := { frames := 0, cells := 0, slots := 0, locals := 0 }
set_option maxRecDepth 20000 in
theorem in_X9_isSymbol_X9 : ∀ w ∈ u_ws RX9 TX9 35, w ∈ wsX9_isSymbol := by decide +kernel
set_option maxHeartbeats 4000000 in
set_option maxRecDepth 100000 in
theorem c_X9_isSymbol {E : Ex} {a0 : Nat → Nat} {h0_0 h0_1 : Nat} {x1 : Int32} {v0 : ModelV} {r : Bool} (hf : Mod_isSymbol x1 v0 = some r) : Ct E yX9_isSymbol wsX9_isSymbol rmX9_isSymbol [.ref (a0 0), .int x1] [wModel E a0 (rf2 h0_0 h0_1) v0] (fun rv g => rv = some (.int (b2i r)) ∧ g = [wModel E a0 (rf2 h0_0 h0_1) v0]) := by
  refine ct_of (own := RX9) (by decide +kernel) rfl rfl (Nat.le_of_ble_eq_true rfl) (fun K C => ?_)
  refine ww_sub C (lv' := [(0, .ref (a0 0)), (1, .int x1)]) [0, 1] rfl ?_
  rw [Mod_isSymbol] at hf
  refine ww_aload_n C dX9_isSymbol_0 rfl 0 rfl ?_
  refine ww_get C clOK9 in_X9_isSymbol_X9 (w := wModel E a0 (rf2 h0_0 h0_1) v0) (fs := fsModel a0 (rf2 h0_0 h0_1) v0) (v := .int (Model_error v0)) 0 0 27 rfl q_Model (by decide) (by decide +kernel) g_Model_error dX9_isSymbol_1 ?_
  refine ww_if_ne (tgt := 32) C dX9_isSymbol_4 (by decide) (fun c_1 => ?_) (fun c_1 => ?_)
  · replace hf := ifF c_1 hf
    refine ww_iconst (v := 0) C dX9_isSymbol_32 (by decide) ?_
    obtain rfl := Option.some.inj hf
    exact ww_zret C (nar_b false) ⟨rfl, rfl⟩ dX9_isSymbol_33
  · replace hf := ifT c_1 hf
    refine ww_aload_n C dX9_isSymbol_7 rfl 0 rfl ?_
    refine ww_get C clOK9 in_X9_isSymbol_X9 (w := wModel E a0 (rf2 h0_0 h0_1) v0) (fs := fsModel a0 (rf2 h0_0 h0_1) v0) (v := .int (Model_token v0)) 0 0 26 rfl q_Model (by decide) (by decide +kernel) g_Model_token dX9_isSymbol_8 ?_
    refine ww_iconst (v := 3) C dX9_isSymbol_11 (by decide) ?_
    refine ww_icmp_ne (tgt := 32) C dX9_isSymbol_12 (by decide) (fun c_2 => ?_) (fun c_2 => ?_)
    · replace hf := ifF c_2 hf
      refine ww_iconst (v := 0) C dX9_isSymbol_32 (by decide) ?_
      obtain rfl := Option.some.inj hf
      exact ww_zret C (nar_b false) ⟨rfl, rfl⟩ dX9_isSymbol_33
    · replace hf := ifT c_2 hf
      refine ww_aload_n C dX9_isSymbol_15 rfl 0 rfl ?_
      refine ww_get C clOK9 in_X9_isSymbol_X9 (w := wModel E a0 (rf2 h0_0 h0_1) v0) (fs := fsModel a0 (rf2 h0_0 h0_1) v0) (v := .ref (a0 14)) 0 0 21 rfl q_Model (by decide) (by decide +kernel) g_Model_buffer dX9_isSymbol_16 ?_
      refine ww_aload_n C dX9_isSymbol_19 rfl 0 rfl ?_
      refine ww_get C clOK9 in_X9_isSymbol_X9 (w := wModel E a0 (rf2 h0_0 h0_1) v0) (fs := fsModel a0 (rf2 h0_0 h0_1) v0) (v := .int (Model_beginsAt v0)) 0 0 25 rfl q_Model (by decide) (by decide +kernel) g_Model_beginsAt dX9_isSymbol_20 ?_
      obtain ⟨g_3, hf⟩ := gdE hf
      refine ww_iald C (f := Model_buffer v0) (w := wModel E a0 (rf2 h0_0 h0_1) v0) 0 14 rfl c_Model_buffer (inB_vp g_3) dX9_isSymbol_23 ?_
      refine ww_iload_n C dX9_isSymbol_24 rfl 1 rfl ?_
      refine ww_icmp_ne (tgt := 32) C dX9_isSymbol_25 (by decide) (fun c_4 => ?_) (fun c_4 => ?_)
      · replace hf := ifF c_4 hf
        refine ww_iconst (v := 0) C dX9_isSymbol_32 (by decide) ?_
        obtain rfl := Option.some.inj hf
        exact ww_zret C (nar_b false) ⟨rfl, rfl⟩ dX9_isSymbol_33
      · replace hf := ifT c_4 hf
        refine ww_iconst (v := 1) C dX9_isSymbol_28 (by decide) ?_
        refine ww_goto (tgt := 33) C dX9_isSymbol_29 (by decide) ?_
        obtain rfl := Option.some.inj hf
        exact ww_zret C (nar_b true) ⟨rfl, rfl⟩ dX9_isSymbol_33

theorem yk_X9_isSymbol : yX9_isSymbol.cls = RX9 ∧ yX9_isSymbol.cls ≠ "java/lang/invoke/MethodHandle" ∧ yX9_isSymbol.cls ≠ "java/lang/invoke/VarHandle" ∧ (parseMethodDescriptor yX9_isSymbol.desc).map (fun d => d.parameters.length) = some 1 := by decide +kernel
abbrev rmX9_isWord : Room := { frames := 5, cells := 0, slots := 0, locals := 200 }
set_option maxRecDepth 20000 in
theorem in_X9_isWord_X9 : ∀ w ∈ u_ws RX9 TX9 35, w ∈ wsX9_isWord := by decide +kernel
set_option maxHeartbeats 4000000 in
set_option maxRecDepth 100000 in
theorem w_X9_isWord_39 {E : Ex} {K : Kx} (C : Cx E K cX9_isWord 4 (some .boolean) RX9 wsX9_isWord rmX9_isWord) {a0 : Nat → Nat} {h0_0 h0_1 : Nat} {x1 : Nat} {v0 : ModelV}  {r : Bool} : ∀ (n : Nat) (x2 : Int32) (x3 : Int32), Mod_isWord_39 x1 v0 n x2 x3 = some r → WW E K 0 0 (QQ E K (fun rv g => rv = some (.int (b2i r)) ∧ g = [wModel E a0 (rf2 h0_0 h0_1) v0]) 0 0) 39 [(0, .ref (a0 0)), (1, .ref (eK E x1)), (2, .int x2), (3, .int x3)] [] [wModel E a0 (rf2 h0_0 h0_1) v0] := by
  intro n
  induction n with
  | zero =>
    intro x2 x3 hf
    simp [Mod_isWord_39] at hf
  | succ n ih =>
    intro x2 x3 hf
    rw [Mod_isWord_39] at hf
    refine ww_iload_n C dX9_isWord_39 rfl 2 rfl ?_
    refine ww_if_eq (tgt := 82) C dX9_isWord_40 (by decide) (fun c_5 => ?_) (fun c_5 => ?_)
    · replace hf := ifT c_5 hf
      refine ww_iload_n C dX9_isWord_82 rfl 2 rfl ?_
      obtain ⟨z_6, e_z_6, hf⟩ := asBE hf
      rw [e_z_6]
      obtain rfl := Option.some.inj hf
      exact ww_zret C (nar_b z_6) ⟨rfl, rfl⟩ dX9_isWord_83
    · replace hf := ifF c_5 hf
      refine ww_iload_n C dX9_isWord_43 rfl 3 rfl ?_
      refine ww_aload_n C dX9_isWord_44 rfl 1 rfl ?_
      obtain ⟨g_7, hf⟩ := gdE hf
      refine ww_strlen C g_7 gX9_isWord_J0_length_8abf5 (by decide) (by decide) ⟨by decide, by decide⟩ (Nat.le_of_ble_eq_true rfl) dX9_isWord_45 ?_
      refine ww_icmp_ge (tgt := 82) C dX9_isWord_48 (by decide) (fun c_8 => ?_) (fun c_8 => ?_)
      · replace hf := ifT c_8 hf
        refine ww_iload_n C dX9_isWord_82 rfl 2 rfl ?_
        obtain ⟨z_9, e_z_9, hf⟩ := asBE hf
        rw [e_z_9]
        obtain rfl := Option.some.inj hf
        exact ww_zret C (nar_b z_9) ⟨rfl, rfl⟩ dX9_isWord_83
      · replace hf := ifF c_8 hf
        refine ww_aload_n C dX9_isWord_51 rfl 1 rfl ?_
        refine ww_iload_n C dX9_isWord_52 rfl 3 rfl ?_
        obtain ⟨g_10, hf⟩ := gdE hf
        refine ww_strchar C g_7 g_10 gX9_isWord_J0_charAt_5068e (by decide) (by decide) ⟨by decide, by decide⟩ (Nat.le_of_ble_eq_true rfl) dX9_isWord_53 ?_
        refine ww_aload_n C dX9_isWord_56 rfl 0 rfl ?_
        refine ww_get C clOK9 in_X9_isWord_X9 (w := wModel E a0 (rf2 h0_0 h0_1) v0) (fs := fsModel a0 (rf2 h0_0 h0_1) v0) (v := .ref (a0 14)) 0 0 21 rfl q_Model (by decide) (by decide +kernel) g_Model_buffer dX9_isWord_57 ?_
        refine ww_aload_n C dX9_isWord_60 rfl 0 rfl ?_
        refine ww_get C clOK9 in_X9_isWord_X9 (w := wModel E a0 (rf2 h0_0 h0_1) v0) (fs := fsModel a0 (rf2 h0_0 h0_1) v0) (v := .int (Model_beginsAt v0)) 0 0 25 rfl q_Model (by decide) (by decide +kernel) g_Model_beginsAt dX9_isWord_61 ?_
        refine ww_iload_n C dX9_isWord_64 rfl 3 rfl ?_
        refine ww_iadd C dX9_isWord_65 ?_
        obtain ⟨g_11, hf⟩ := gdE hf
        refine ww_iald C (f := Model_buffer v0) (w := wModel E a0 (rf2 h0_0 h0_1) v0) 0 14 rfl c_Model_buffer (inB_vp g_11) dX9_isWord_66 ?_
        refine ww_icmp_ne (tgt := 74) C dX9_isWord_67 (by decide) (fun c_12 => ?_) (fun c_12 => ?_)
        · replace hf := ifF c_12 hf
          refine ww_iconst (v := 0) C dX9_isWord_74 (by decide) ?_
          refine ww_istore_n (lv' := [(2, .int 0), (0, .ref (a0 0)), (1, .ref (eK E x1)), (3, .int x3)]) C dX9_isWord_75 rfl (by decide) rfl ?_
          obtain ⟨x3_76, e_x3_76⟩ : ∃ y : Int32, y = x3 + 1 := ⟨_, rfl⟩
          replace hf := ltE e_x3_76 hf
          refine ww_iinc (v := x3_76) (lv' := [(3, .int x3_76), (2, .int 0), (0, .ref (a0 0)), (1, .ref (eK E x1))]) C dX9_isWord_76 3 rfl (by rw [e_x3_76]; rfl) (by decide) rfl ?_
          refine ww_goto (tgt := 39) C dX9_isWord_79 (by decide) ?_
          refine ww_sub C (lv' := [(0, .ref (a0 0)), (1, .ref (eK E x1)), (2, .int 0), (3, .int x3_76)]) [2, 3, 1, 0] rfl ?_
          exact ih _ _ hf
        · replace hf := ifT c_12 hf
          refine ww_iconst (v := 1) C dX9_isWord_70 (by decide) ?_
          refine ww_goto (tgt := 75) C dX9_isWord_71 (by decide) ?_
          refine ww_istore_n (lv' := [(2, .int 1), (0, .ref (a0 0)), (1, .ref (eK E x1)), (3, .int x3)]) C dX9_isWord_75 rfl (by decide) rfl ?_
          obtain ⟨x3_76, e_x3_76⟩ : ∃ y : Int32, y = x3 + 1 := ⟨_, rfl⟩
          replace hf := ltE e_x3_76 hf
          refine ww_iinc (v := x3_76) (lv' := [(3, .int x3_76), (2, .int 1), (0, .ref (a0 0)), (1, .ref (eK E x1))]) C dX9_isWord_76 3 rfl (by rw [e_x3_76]; rfl) (by decide) rfl ?_
          refine ww_goto (tgt := 39) C dX9_isWord_79 (by decide) ?_
          refine ww_sub C (lv' := [(0, .ref (a0 0)), (1, .ref (eK E x1)), (2, .int 1), (3, .int x3_76)]) [2, 3, 1, 0] rfl ?_
          exact ih _ _ hf

set_option maxHeartbeats 4000000 in
set_option maxRecDepth 100000 in
theorem c_X9_isWord {E : Ex} {a0 : Nat → Nat} {h0_0 h0_1 : Nat} {x1 : Nat} {v0 : ModelV} {r : Bool} (hf : Mod_isWord x1 v0 = some r) : Ct E yX9_isWord wsX9_isWord rmX9_isWord [.ref (a0 0), .ref (eK E x1)] [wModel E a0 (rf2 h0_0 h0_1) v0] (fun rv g => rv = some (.int (b2i r)) ∧ g = [wModel E a0 (rf2 h0_0 h0_1) v0]) := by
  refine ct_of (own := RX9) (by decide +kernel) rfl rfl (Nat.le_of_ble_eq_true rfl) (fun K C => ?_)
  refine ww_sub C (lv' := [(0, .ref (a0 0)), (1, .ref (eK E x1))]) [0, 1] rfl ?_
  rw [Mod_isWord] at hf
  refine ww_aload_n C dX9_isWord_0 rfl 0 rfl ?_
  refine ww_get C clOK9 in_X9_isWord_X9 (w := wModel E a0 (rf2 h0_0 h0_1) v0) (fs := fsModel a0 (rf2 h0_0 h0_1) v0) (v := .int (Model_error v0)) 0 0 27 rfl q_Model (by decide) (by decide +kernel) g_Model_error dX9_isWord_1 ?_
  refine ww_if_ne (tgt := 35) C dX9_isWord_4 (by decide) (fun c_1 => ?_) (fun c_1 => ?_)
  · replace hf := ifF c_1 hf
    refine ww_iconst (v := 0) C dX9_isWord_35 (by decide) ?_
    refine ww_istore_n (lv' := [(2, .int 0), (0, .ref (a0 0)), (1, .ref (eK E x1))]) C dX9_isWord_36 rfl (by decide) rfl ?_
    refine ww_iconst (v := 0) C dX9_isWord_37 (by decide) ?_
    refine ww_istore_n (lv' := [(3, .int 0), (2, .int 0), (0, .ref (a0 0)), (1, .ref (eK E x1))]) C dX9_isWord_38 rfl (by decide) rfl ?_
    refine ww_sub C (lv' := [(0, .ref (a0 0)), (1, .ref (eK E x1)), (2, .int 0), (3, .int 0)]) [2, 3, 1, 0] rfl ?_
    exact w_X9_isWord_39 C FU _ _ hf
  · replace hf := ifT c_1 hf
    refine ww_aload_n C dX9_isWord_7 rfl 0 rfl ?_
    refine ww_get C clOK9 in_X9_isWord_X9 (w := wModel E a0 (rf2 h0_0 h0_1) v0) (fs := fsModel a0 (rf2 h0_0 h0_1) v0) (v := .int (Model_token v0)) 0 0 26 rfl q_Model (by decide) (by decide +kernel) g_Model_token dX9_isWord_8 ?_
    refine ww_iconst (v := 1) C dX9_isWord_11 (by decide) ?_
    refine ww_icmp_ne (tgt := 35) C dX9_isWord_12 (by decide) (fun c_2 => ?_) (fun c_2 => ?_)
    · replace hf := ifF c_2 hf
      refine ww_iconst (v := 0) C dX9_isWord_35 (by decide) ?_
      refine ww_istore_n (lv' := [(2, .int 0), (0, .ref (a0 0)), (1, .ref (eK E x1))]) C dX9_isWord_36 rfl (by decide) rfl ?_
      refine ww_iconst (v := 0) C dX9_isWord_37 (by decide) ?_
      refine ww_istore_n (lv' := [(3, .int 0), (2, .int 0), (0, .ref (a0 0)), (1, .ref (eK E x1))]) C dX9_isWord_38 rfl (by decide) rfl ?_
      refine ww_sub C (lv' := [(0, .ref (a0 0)), (1, .ref (eK E x1)), (2, .int 0), (3, .int 0)]) [2, 3, 1, 0] rfl ?_
      exact w_X9_isWord_39 C FU _ _ hf
    · replace hf := ifT c_2 hf
      refine ww_aload_n C dX9_isWord_15 rfl 1 rfl ?_
      obtain ⟨g_3, hf⟩ := gdE hf
      refine ww_strlen C g_3 gX9_isWord_J0_length_8abf5 (by decide) (by decide) ⟨by decide, by decide⟩ (Nat.le_of_ble_eq_true rfl) dX9_isWord_16 ?_
      refine ww_aload_n C dX9_isWord_19 rfl 0 rfl ?_
      refine ww_get C clOK9 in_X9_isWord_X9 (w := wModel E a0 (rf2 h0_0 h0_1) v0) (fs := fsModel a0 (rf2 h0_0 h0_1) v0) (v := .int (Model_next v0)) 0 0 24 rfl q_Model (by decide) (by decide +kernel) g_Model_next dX9_isWord_20 ?_
      refine ww_aload_n C dX9_isWord_23 rfl 0 rfl ?_
      refine ww_get C clOK9 in_X9_isWord_X9 (w := wModel E a0 (rf2 h0_0 h0_1) v0) (fs := fsModel a0 (rf2 h0_0 h0_1) v0) (v := .int (Model_beginsAt v0)) 0 0 25 rfl q_Model (by decide) (by decide +kernel) g_Model_beginsAt dX9_isWord_24 ?_
      refine ww_isub C dX9_isWord_27 ?_
      refine ww_icmp_ne (tgt := 35) C dX9_isWord_28 (by decide) (fun c_4 => ?_) (fun c_4 => ?_)
      · replace hf := ifF c_4 hf
        refine ww_iconst (v := 0) C dX9_isWord_35 (by decide) ?_
        refine ww_istore_n (lv' := [(2, .int 0), (0, .ref (a0 0)), (1, .ref (eK E x1))]) C dX9_isWord_36 rfl (by decide) rfl ?_
        refine ww_iconst (v := 0) C dX9_isWord_37 (by decide) ?_
        refine ww_istore_n (lv' := [(3, .int 0), (2, .int 0), (0, .ref (a0 0)), (1, .ref (eK E x1))]) C dX9_isWord_38 rfl (by decide) rfl ?_
        refine ww_sub C (lv' := [(0, .ref (a0 0)), (1, .ref (eK E x1)), (2, .int 0), (3, .int 0)]) [2, 3, 1, 0] rfl ?_
        exact w_X9_isWord_39 C FU _ _ hf
      · replace hf := ifT c_4 hf
        refine ww_iconst (v := 1) C dX9_isWord_31 (by decide) ?_
        refine ww_goto (tgt := 36) C dX9_isWord_32 (by decide) ?_
        refine ww_istore_n (lv' := [(2, .int 1), (0, .ref (a0 0)), (1, .ref (eK E x1))]) C dX9_isWord_36 rfl (by decide) rfl ?_
        refine ww_iconst (v := 0) C dX9_isWord_37 (by decide) ?_
        refine ww_istore_n (lv' := [(3, .int 0), (2, .int 1), (0, .ref (a0 0)), (1, .ref (eK E x1))]) C dX9_isWord_38 rfl (by decide) rfl ?_
        refine ww_sub C (lv' := [(0, .ref (a0 0)), (1, .ref (eK E x1)), (2, .int 1), (3, .int 0)]) [2, 3, 1, 0] rfl ?_
        exact w_X9_isWord_39 C FU _ _ hf

theorem yk_X9_isWord : yX9_isWord.cls = RX9 ∧ yX9_isWord.cls ≠ "java/lang/invoke/MethodHandle" ∧ yX9_isWord.cls ≠ "java/lang/invoke/VarHandle" ∧ (parseMethodDescriptor yX9_isWord.desc).map (fun d => d.parameters.length) = some 1 := by decide +kernel
abbrev rmX9_accept : Room := { frames := 6, cells := 0, slots := 0, locals := 223 }
set_option maxHeartbeats 4000000 in
set_option maxRecDepth 100000 in
theorem c_X9_accept {E : Ex} {a0 : Nat → Nat} {h0_0 h0_1 : Nat} {x1 : Nat} {v0 : ModelV} {r : (Bool × ModelV)} (hf : Mod_accept x1 v0 = some r) : Ct E yX9_accept wsX9_accept rmX9_accept [.ref (a0 0), .ref (eK E x1)] [wModel E a0 (rf2 h0_0 h0_1) v0] (fun rv g => rv = some (.int (b2i r.1)) ∧ g = [wModel E a0 (rf2 h0_0 h0_1) r.2]) := by
  refine ct_of (own := RX9) (by decide +kernel) rfl rfl (Nat.le_of_ble_eq_true rfl) (fun K C => ?_)
  refine ww_sub C (lv' := [(0, .ref (a0 0)), (1, .ref (eK E x1))]) [0, 1] rfl ?_
  rw [Mod_accept] at hf
  refine ww_aload_n C dX9_accept_0 rfl 0 rfl ?_
  refine ww_aload_n C dX9_accept_1 rfl 1 rfl ?_
  obtain ⟨p2, hp2, hf⟩ := bdE hf
  refine ww_callV C (As := [.ref (eK E x1)]) (st := []) (gr := []) (c_X9_isWord (E := E) (a0 := a0) (h0_0 := h0_0) (h0_1 := h0_1) hp2) gX9_accept_X9_isWord rfl yk_X9_isWord ⟨by decide, by decide⟩ ⟨by decide, by decide⟩ clOK9 0 0 rfl rfl [0] [] 1 rfl (by decide) rfl rfl (Nat.le_of_ble_eq_true rfl) dX9_accept_2 ?_
  rintro _ _ ⟨rfl, rfl⟩
  refine ww_perm (gs' := [wModel E a0 (rf2 h0_0 h0_1) v0]) [0] 1 rfl (by decide) rfl ?_
  refine ww_topi (fun x2_5 e_x2_5 => ?_)
  replace hf := ltE e_x2_5 hf
  refine ww_istore_n (lv' := [(2, .int x2_5), (0, .ref (a0 0)), (1, .ref (eK E x1))]) C dX9_accept_5 rfl (by decide) rfl ?_
  refine ww_iload_n C dX9_accept_6 rfl 0 rfl ?_
  refine ww_if_eq (tgt := 14) C dX9_accept_7 (by decide) (fun c_2 => ?_) (fun c_2 => ?_)
  · replace hf := ifT c_2 hf
    refine ww_iload_n C dX9_accept_14 rfl 0 rfl ?_
    obtain ⟨z_3, e_z_3, hf⟩ := asBE hf
    rw [e_z_3]
    obtain rfl := Option.some.inj hf
    exact ww_zret C (nar_b z_3) ⟨rfl, rfl⟩ dX9_accept_15
  · replace hf := ifF c_2 hf
    refine ww_aload_n C dX9_accept_10 rfl 1 rfl ?_
    obtain ⟨p11, hp11, hf⟩ := bdE hf
    refine ww_callV C (As := []) (st := []) (gr := []) (c_X9_scan (E := E) (a0 := a0) (h0_0 := h0_0) (h0_1 := h0_1) hp11) gX9_accept_X9_scan rfl yk_X9_scan ⟨by decide, by decide⟩ ⟨by decide, by decide⟩ clOK9 0 0 rfl rfl [0] [] 1 rfl (by decide) rfl rfl (Nat.le_of_ble_eq_true rfl) dX9_accept_11 ?_
    rintro _ _ ⟨rfl, rfl⟩
    refine ww_perm (gs' := [wModel E a0 (rf2 h0_0 h0_1) p11]) [0] 1 rfl (by decide) rfl ?_
    refine ww_iload_n C dX9_accept_14 rfl 0 rfl ?_
    obtain ⟨z_4, e_z_4, hf⟩ := asBE hf
    rw [e_z_4]
    obtain rfl := Option.some.inj hf
    exact ww_zret C (nar_b z_4) ⟨rfl, rfl⟩ dX9_accept_15

theorem yk_X9_accept : yX9_accept.cls = RX9 ∧ yX9_accept.cls ≠ "java/lang/invoke/MethodHandle" ∧ yX9_accept.cls ≠ "java/lang/invoke/VarHandle" ∧ (parseMethodDescriptor yX9_accept.desc).map (fun d => d.parameters.length) = some 1 := by decide +kernel
abbrev rmX9_expectWord : Room := { frames := 6, cells := 0, slots := 0, locals := 223 }
set_option maxHeartbeats 4000000 in
set_option maxRecDepth 100000 in
theorem c_X9_expectWord {E : Ex} {a0 : Nat → Nat} {h0_0 h0_1 : Nat} {x1 : Nat} {v0 : ModelV} {r : ModelV} (hf : Mod_expectWord x1 v0 = some r) : Ct E yX9_expectWord wsX9_expectWord rmX9_expectWord [.ref (a0 0), .ref (eK E x1)] [wModel E a0 (rf2 h0_0 h0_1) v0] (fun rv g => rv = none ∧ g = [wModel E a0 (rf2 h0_0 h0_1) r]) := by
  refine ct_of (own := RX9) (by decide +kernel) rfl rfl (Nat.le_of_ble_eq_true rfl) (fun K C => ?_)
  refine ww_sub C (lv' := [(0, .ref (a0 0)), (1, .ref (eK E x1))]) [0, 1] rfl ?_
  rw [Mod_expectWord] at hf
  refine ww_aload_n C dX9_expectWord_0 rfl 0 rfl ?_
  refine ww_aload_n C dX9_expectWord_1 rfl 0 rfl ?_
  refine ww_aload_n C dX9_expectWord_2 rfl 1 rfl ?_
  obtain ⟨p3, hp3, hf⟩ := bdE hf
  refine ww_callV C (As := [.ref (eK E x1)]) (st := [.ref (a0 0)]) (gr := []) (c_X9_isWord (E := E) (a0 := a0) (h0_0 := h0_0) (h0_1 := h0_1) hp3) gX9_expectWord_X9_isWord rfl yk_X9_isWord ⟨by decide, by decide⟩ ⟨by decide, by decide⟩ clOK9 0 0 rfl rfl [0] [] 1 rfl (by decide) rfl rfl (Nat.le_of_ble_eq_true rfl) dX9_expectWord_3 ?_
  rintro _ _ ⟨rfl, rfl⟩
  refine ww_perm (gs' := [wModel E a0 (rf2 h0_0 h0_1) v0]) [0] 1 rfl (by decide) rfl ?_
  refine ww_iconst (v := 1) C dX9_expectWord_6 (by decide) ?_
  obtain ⟨p7, hp7, hf⟩ := bdE hf
  refine ww_callV C (As := [.int (b2i p3), .int 1]) (st := []) (gr := []) (c_X9_check (E := E) (a0 := a0) (h0_0 := h0_0) (h0_1 := h0_1) hp7) gX9_expectWord_X9_check rfl yk_X9_check ⟨by decide, by decide⟩ ⟨by decide, by decide⟩ clOK9 0 0 rfl rfl [0] [] 1 rfl (by decide) rfl rfl (Nat.le_of_ble_eq_true rfl) dX9_expectWord_7 ?_
  rintro _ _ ⟨rfl, rfl⟩
  refine ww_perm (gs' := [wModel E a0 (rf2 h0_0 h0_1) p7]) [0] 1 rfl (by decide) rfl ?_
  refine ww_aload_n C dX9_expectWord_10 rfl 0 rfl ?_
  obtain ⟨p11, hp11, hf⟩ := bdE hf
  refine ww_callV C (As := []) (st := []) (gr := []) (c_X9_advance (E := E) (a0 := a0) (h0_0 := h0_0) (h0_1 := h0_1) hp11) gX9_expectWord_X9_advance rfl yk_X9_advance ⟨by decide, by decide⟩ ⟨by decide, by decide⟩ clOK9 0 0 rfl rfl [0] [] 1 rfl (by decide) rfl rfl (Nat.le_of_ble_eq_true rfl) dX9_expectWord_11 ?_
  rintro _ _ ⟨rfl, rfl⟩
  refine ww_perm (gs' := [wModel E a0 (rf2 h0_0 h0_1) p11]) [0] 1 rfl (by decide) rfl ?_
  obtain rfl := Option.some.inj hf
  exact ww_vret C ⟨rfl, rfl⟩ dX9_expectWord_14

theorem yk_X9_expectWord : yX9_expectWord.cls = RX9 ∧ yX9_expectWord.cls ≠ "java/lang/invoke/MethodHandle" ∧ yX9_expectWord.cls ≠ "java/lang/invoke/VarHandle" ∧ (parseMethodDescriptor yX9_expectWord.desc).map (fun d => d.parameters.length) = some 1 := by decide +kernel
abbrev rmX9_expect : Room := { frames := 4, cells := 0, slots := 0, locals := 82 }
set_option maxHeartbeats 4000000 in
set_option maxRecDepth 100000 in
theorem c_X9_expect {E : Ex} {a0 : Nat → Nat} {h0_0 h0_1 : Nat} {x1 : Int32} {v0 : ModelV} {r : ModelV} (hf : Mod_expect x1 v0 = some r) : Ct E yX9_expect wsX9_expect rmX9_expect [.ref (a0 0), .int x1] [wModel E a0 (rf2 h0_0 h0_1) v0] (fun rv g => rv = none ∧ g = [wModel E a0 (rf2 h0_0 h0_1) r]) := by
  refine ct_of (own := RX9) (by decide +kernel) rfl rfl (Nat.le_of_ble_eq_true rfl) (fun K C => ?_)
  refine ww_sub C (lv' := [(0, .ref (a0 0)), (1, .int x1)]) [0, 1] rfl ?_
  rw [Mod_expect] at hf
  refine ww_aload_n C dX9_expect_0 rfl 0 rfl ?_
  refine ww_aload_n C dX9_expect_1 rfl 0 rfl ?_
  refine ww_iload_n C dX9_expect_2 rfl 1 rfl ?_
  obtain ⟨p3, hp3, hf⟩ := bdE hf
  refine ww_callV C (As := [.int x1]) (st := [.ref (a0 0)]) (gr := []) (c_X9_isSymbol (E := E) (a0 := a0) (h0_0 := h0_0) (h0_1 := h0_1) hp3) gX9_expect_X9_isSymbol rfl yk_X9_isSymbol ⟨by decide, by decide⟩ ⟨by decide, by decide⟩ clOK9 0 0 rfl rfl [0] [] 1 rfl (by decide) rfl rfl (Nat.le_of_ble_eq_true rfl) dX9_expect_3 ?_
  rintro _ _ ⟨rfl, rfl⟩
  refine ww_perm (gs' := [wModel E a0 (rf2 h0_0 h0_1) v0]) [0] 1 rfl (by decide) rfl ?_
  refine ww_iconst (v := 1) C dX9_expect_6 (by decide) ?_
  obtain ⟨p7, hp7, hf⟩ := bdE hf
  refine ww_callV C (As := [.int (b2i p3), .int 1]) (st := []) (gr := []) (c_X9_check (E := E) (a0 := a0) (h0_0 := h0_0) (h0_1 := h0_1) hp7) gX9_expect_X9_check rfl yk_X9_check ⟨by decide, by decide⟩ ⟨by decide, by decide⟩ clOK9 0 0 rfl rfl [0] [] 1 rfl (by decide) rfl rfl (Nat.le_of_ble_eq_true rfl) dX9_expect_7 ?_
  rintro _ _ ⟨rfl, rfl⟩
  refine ww_perm (gs' := [wModel E a0 (rf2 h0_0 h0_1) p7]) [0] 1 rfl (by decide) rfl ?_
  refine ww_aload_n C dX9_expect_10 rfl 0 rfl ?_
  obtain ⟨p11, hp11, hf⟩ := bdE hf
  refine ww_callV C (As := []) (st := []) (gr := []) (c_X9_advance (E := E) (a0 := a0) (h0_0 := h0_0) (h0_1 := h0_1) hp11) gX9_expect_X9_advance rfl yk_X9_advance ⟨by decide, by decide⟩ ⟨by decide, by decide⟩ clOK9 0 0 rfl rfl [0] [] 1 rfl (by decide) rfl rfl (Nat.le_of_ble_eq_true rfl) dX9_expect_11 ?_
  rintro _ _ ⟨rfl, rfl⟩
  refine ww_perm (gs' := [wModel E a0 (rf2 h0_0 h0_1) p11]) [0] 1 rfl (by decide) rfl ?_
  obtain rfl := Option.some.inj hf
  exact ww_vret C ⟨rfl, rfl⟩ dX9_expect_14

theorem yk_X9_expect : yX9_expect.cls = RX9 ∧ yX9_expect.cls ≠ "java/lang/invoke/MethodHandle" ∧ yX9_expect.cls ≠ "java/lang/invoke/VarHandle" ∧ (parseMethodDescriptor yX9_expect.desc).map (fun d => d.parameters.length) = some 1 := by decide +kernel
abbrev rmX9_value : Room := { frames := 1, cells := 0, slots := 0, locals := 25 }
set_option maxRecDepth 20000 in
theorem in_X9_value_X9 : ∀ w ∈ u_ws RX9 TX9 35, w ∈ wsX9_value := by decide +kernel
set_option maxHeartbeats 4000000 in
set_option maxRecDepth 100000 in
theorem w_X9_value_7 {E : Ex} {K : Kx} (C : Cx E K cX9_value 3 (some .int) RX9 wsX9_value rmX9_value) {a0 : Nat → Nat} {h0_0 h0_1 : Nat} {v0 : ModelV}  {r : Int32} : ∀ (n : Nat) (x1 : Int32) (x2 : Int32), Mod_value_7 v0 n x1 x2 = some r → WW E K 0 0 (QQ E K (fun rv g => rv = some (.int r) ∧ g = [wModel E a0 (rf2 h0_0 h0_1) v0]) 0 0) 7 [(0, .ref (a0 0)), (1, .int x1), (2, .int x2)] [] [wModel E a0 (rf2 h0_0 h0_1) v0] := by
  intro n
  induction n with
  | zero =>
    intro x1 x2 hf
    simp [Mod_value_7] at hf
  | succ n ih =>
    intro x1 x2 hf
    rw [Mod_value_7] at hf
    refine ww_iload_n C dX9_value_7 rfl 2 rfl ?_
    refine ww_aload_n C dX9_value_8 rfl 0 rfl ?_
    refine ww_get C clOK9 in_X9_value_X9 (w := wModel E a0 (rf2 h0_0 h0_1) v0) (fs := fsModel a0 (rf2 h0_0 h0_1) v0) (v := .int (Model_next v0)) 0 0 24 rfl q_Model (by decide) (by decide +kernel) g_Model_next dX9_value_9 ?_
    refine ww_icmp_ge (tgt := 55) C dX9_value_12 (by decide) (fun c_2 => ?_) (fun c_2 => ?_)
    · replace hf := ifT c_2 hf
      refine ww_iload_n C dX9_value_55 rfl 1 rfl ?_
      obtain rfl := Option.some.inj hf
      exact ww_iret C ⟨rfl, rfl⟩ dX9_value_56
    · replace hf := ifF c_2 hf
      refine ww_aload_n C dX9_value_15 rfl 0 rfl ?_
      refine ww_get C clOK9 in_X9_value_X9 (w := wModel E a0 (rf2 h0_0 h0_1) v0) (fs := fsModel a0 (rf2 h0_0 h0_1) v0) (v := .int (Model_token v0)) 0 0 26 rfl q_Model (by decide) (by decide +kernel) g_Model_token dX9_value_16 ?_
      refine ww_iconst (v := 2) C dX9_value_19 (by decide) ?_
      refine ww_icmp_ne (tgt := 55) C dX9_value_20 (by decide) (fun c_3 => ?_) (fun c_3 => ?_)
      · replace hf := ifF c_3 hf
        refine ww_iload_n C dX9_value_55 rfl 1 rfl ?_
        obtain rfl := Option.some.inj hf
        exact ww_iret C ⟨rfl, rfl⟩ dX9_value_56
      · replace hf := ifT c_3 hf
        refine ww_ldc2 (v := 2000000000) C (by decide +kernel) dX9_value_23 ?_
        refine ww_ldc2 (v := 10) C (by decide +kernel) dX9_value_26 ?_
        refine ww_iload_n C dX9_value_29 rfl 1 rfl ?_
        refine ww_i2l C dX9_value_30 ?_
        refine ww_lmul C dX9_value_31 ?_
        refine ww_aload_n C dX9_value_32 rfl 0 rfl ?_
        refine ww_get C clOK9 in_X9_value_X9 (w := wModel E a0 (rf2 h0_0 h0_1) v0) (fs := fsModel a0 (rf2 h0_0 h0_1) v0) (v := .ref (a0 14)) 0 0 21 rfl q_Model (by decide) (by decide +kernel) g_Model_buffer dX9_value_33 ?_
        refine ww_iload_n C dX9_value_36 rfl 2 rfl ?_
        obtain ⟨g_4, hf⟩ := gdE hf
        refine ww_iald C (f := Model_buffer v0) (w := wModel E a0 (rf2 h0_0 h0_1) v0) 0 14 rfl c_Model_buffer (inB_vp g_4) dX9_value_37 ?_
        refine ww_i2l C dX9_value_38 ?_
        refine ww_ladd C dX9_value_39 ?_
        refine ww_ldc2 (v := 48) C (by decide +kernel) dX9_value_40 ?_
        refine ww_lsub C dX9_value_43 ?_
        refine ww_lmin C (by decide +kernel) (by decide +kernel) (by decide +kernel) (by decide +kernel) (by decide) (Nat.le_of_ble_eq_true rfl) (by decide) (by decide) dX9_value_44 ?_
        refine ww_l2i C dX9_value_47 ?_
        refine ww_topi (fun x1_48 e_x1_48 => ?_)
        replace hf := ltE e_x1_48 hf
        refine ww_istore_n (lv' := [(1, .int x1_48), (0, .ref (a0 0)), (2, .int x2)]) C dX9_value_48 rfl (by decide) rfl ?_
        obtain ⟨x2_49, e_x2_49⟩ : ∃ y : Int32, y = x2 + 1 := ⟨_, rfl⟩
        replace hf := ltE e_x2_49 hf
        refine ww_iinc (v := x2_49) (lv' := [(2, .int x2_49), (1, .int x1_48), (0, .ref (a0 0))]) C dX9_value_49 2 rfl (by rw [e_x2_49]; rfl) (by decide) rfl ?_
        refine ww_goto (tgt := 7) C dX9_value_52 (by decide) ?_
        refine ww_sub C (lv' := [(0, .ref (a0 0)), (1, .int x1_48), (2, .int x2_49)]) [2, 1, 0] rfl ?_
        exact ih _ _ hf

set_option maxHeartbeats 4000000 in
set_option maxRecDepth 100000 in
theorem c_X9_value {E : Ex} {a0 : Nat → Nat} {h0_0 h0_1 : Nat} {v0 : ModelV} {r : Int32} (hf : Mod_value v0 = some r) : Ct E yX9_value wsX9_value rmX9_value [.ref (a0 0)] [wModel E a0 (rf2 h0_0 h0_1) v0] (fun rv g => rv = some (.int r) ∧ g = [wModel E a0 (rf2 h0_0 h0_1) v0]) := by
  refine ct_of (own := RX9) (by decide +kernel) rfl rfl (Nat.le_of_ble_eq_true rfl) (fun K C => ?_)
  refine ww_sub C (lv' := [(0, .ref (a0 0))]) [0] rfl ?_
  rw [Mod_value] at hf
  refine ww_iconst (v := 0) C dX9_value_0 (by decide) ?_
  refine ww_istore_n (lv' := [(1, .int 0), (0, .ref (a0 0))]) C dX9_value_1 rfl (by decide) rfl ?_
  refine ww_aload_n C dX9_value_2 rfl 1 rfl ?_
  refine ww_get C clOK9 in_X9_value_X9 (w := wModel E a0 (rf2 h0_0 h0_1) v0) (fs := fsModel a0 (rf2 h0_0 h0_1) v0) (v := .int (Model_beginsAt v0)) 0 0 25 rfl q_Model (by decide) (by decide +kernel) g_Model_beginsAt dX9_value_3 ?_
  refine ww_topi (fun x2_6 e_x2_6 => ?_)
  replace hf := ltE e_x2_6 hf
  refine ww_istore_n (lv' := [(2, .int x2_6), (1, .int 0), (0, .ref (a0 0))]) C dX9_value_6 rfl (by decide) rfl ?_
  refine ww_sub C (lv' := [(0, .ref (a0 0)), (1, .int 0), (2, .int x2_6)]) [2, 1, 0] rfl ?_
  exact w_X9_value_7 C FU _ _ hf

theorem yk_X9_value : yX9_value.cls = RX9 ∧ yX9_value.cls ≠ "java/lang/invoke/MethodHandle" ∧ yX9_value.cls ≠ "java/lang/invoke/VarHandle" ∧ (parseMethodDescriptor yX9_value.desc).map (fun d => d.parameters.length) = some 0 := by decide +kernel
abbrev rmX9_readNumber : Room := { frames := 4, cells := 0, slots := 0, locals := 82 }
set_option maxRecDepth 20000 in
theorem in_X9_readNumber_X9 : ∀ w ∈ u_ws RX9 TX9 35, w ∈ wsX9_readNumber := by decide +kernel
set_option maxHeartbeats 4000000 in
set_option maxRecDepth 100000 in
theorem w_X9_readNumber_52 {E : Ex} {K : Kx} (C : Cx E K cX9_readNumber 4 (some .int) RX9 wsX9_readNumber rmX9_readNumber) {a0 : Nat → Nat} {h0_0 h0_1 : Nat} {x1 : Int32} {x2 : Int32}  {x3 : Int32} {s0 : Int32} {v0 : ModelV} {r : (Int32 × ModelV)} (hf : Mod_readNumber_52 x1 x2 x3 s0 v0 = some r) : WW E K 0 0 (QQ E K (fun rv g => rv = some (.int r.1) ∧ g = [wModel E a0 (rf2 h0_0 h0_1) r.2]) 0 0) 52 [(0, .ref (a0 0)), (1, .int x1), (3, .int x3)] [.int s0, .ref (a0 0)] [wModel E a0 (rf2 h0_0 h0_1) v0] := by
  rw [Mod_readNumber_52] at hf
  refine ww_iconst (v := 2) C dX9_readNumber_52 (by decide) ?_
  obtain ⟨z_6, e_z_6, hf⟩ := asBE hf
  rw [e_z_6]
  obtain ⟨p53, hp53, hf⟩ := bdE hf
  refine ww_callV C (As := [.int (b2i z_6), .int 2]) (st := []) (gr := []) (c_X9_check (E := E) (a0 := a0) (h0_0 := h0_0) (h0_1 := h0_1) hp53) gX9_readNumber_X9_check rfl yk_X9_check ⟨by decide, by decide⟩ ⟨by decide, by decide⟩ clOK9 0 0 rfl rfl [0] [] 1 rfl (by decide) rfl rfl (Nat.le_of_ble_eq_true rfl) dX9_readNumber_53 ?_
  rintro _ _ ⟨rfl, rfl⟩
  refine ww_perm (gs' := [wModel E a0 (rf2 h0_0 h0_1) p53]) [0] 1 rfl (by decide) rfl ?_
  refine ww_aload_n C dX9_readNumber_56 rfl 0 rfl ?_
  obtain ⟨p57, hp57, hf⟩ := bdE hf
  refine ww_callV C (As := []) (st := []) (gr := []) (c_X9_advance (E := E) (a0 := a0) (h0_0 := h0_0) (h0_1 := h0_1) hp57) gX9_readNumber_X9_advance rfl yk_X9_advance ⟨by decide, by decide⟩ ⟨by decide, by decide⟩ clOK9 0 0 rfl rfl [0] [] 1 rfl (by decide) rfl rfl (Nat.le_of_ble_eq_true rfl) dX9_readNumber_57 ?_
  rintro _ _ ⟨rfl, rfl⟩
  refine ww_perm (gs' := [wModel E a0 (rf2 h0_0 h0_1) p57]) [0] 1 rfl (by decide) rfl ?_
  refine ww_aload_n C dX9_readNumber_60 rfl 0 rfl ?_
  refine ww_get C clOK9 in_X9_readNumber_X9 (w := wModel E a0 (rf2 h0_0 h0_1) p57) (fs := fsModel a0 (rf2 h0_0 h0_1) p57) (v := .int (Model_error p57)) 0 0 27 rfl q_Model (by decide) (by decide +kernel) g_Model_error dX9_readNumber_61 ?_
  refine ww_if_ne (tgt := 71) C dX9_readNumber_64 (by decide) (fun c_7 => ?_) (fun c_7 => ?_)
  · replace hf := ifF c_7 hf
    refine ww_iload_n C dX9_readNumber_71 rfl 1 rfl ?_
    obtain rfl := Option.some.inj hf
    exact ww_iret C ⟨rfl, rfl⟩ dX9_readNumber_72
  · replace hf := ifT c_7 hf
    refine ww_iload_n C dX9_readNumber_67 rfl 2 rfl ?_
    refine ww_goto (tgt := 72) C dX9_readNumber_68 (by decide) ?_
    obtain rfl := Option.some.inj hf
    exact ww_iret C ⟨rfl, rfl⟩ dX9_readNumber_72

set_option maxHeartbeats 4000000 in
set_option maxRecDepth 100000 in
theorem w_X9_readNumber_47 {E : Ex} {K : Kx} (C : Cx E K cX9_readNumber 4 (some .int) RX9 wsX9_readNumber rmX9_readNumber) {a0 : Nat → Nat} {h0_0 h0_1 : Nat} {x1 : Int32} {x2 : Int32}  {x3 : Int32} {v0 : ModelV} {r : (Int32 × ModelV)} (hf : Mod_readNumber_47 x1 x2 x3 v0 = some r) : WW E K 0 0 (QQ E K (fun rv g => rv = some (.int r.1) ∧ g = [wModel E a0 (rf2 h0_0 h0_1) r.2]) 0 0) 47 [(0, .ref (a0 0)), (1, .int x1), (3, .int x3)] [.ref (a0 0)] [wModel E a0 (rf2 h0_0 h0_1) v0] := by
  rw [Mod_readNumber_47] at hf
  refine ww_iconst (v := 1) C dX9_readNumber_47 (by decide) ?_
  refine ww_goto (tgt := 52) C dX9_readNumber_48 (by decide) ?_
  refine ww_sub C (lv' := [(0, .ref (a0 0)), (1, .int x1), (3, .int x3)]) [0, 1, 2] rfl ?_
  exact w_X9_readNumber_52 C hf

set_option maxHeartbeats 4000000 in
set_option maxRecDepth 100000 in
theorem w_X9_readNumber_21 {E : Ex} {K : Kx} (C : Cx E K cX9_readNumber 4 (some .int) RX9 wsX9_readNumber rmX9_readNumber) {a0 : Nat → Nat} {h0_0 h0_1 : Nat} {x1 : Int32} {x2 : Int32}  {s0 : Int32} {v0 : ModelV} {r : (Int32 × ModelV)} (hf : Mod_readNumber_21 x1 x2 s0 v0 = some r) : WW E K 0 0 (QQ E K (fun rv g => rv = some (.int r.1) ∧ g = [wModel E a0 (rf2 h0_0 h0_1) r.2]) 0 0) 21 [(0, .ref (a0 0)), (1, .int x1), (2, .int x2)] [.int s0, .ref (a0 0)] [wModel E a0 (rf2 h0_0 h0_1) v0] := by
  rw [Mod_readNumber_21] at hf
  refine ww_iconst (v := 1) C dX9_readNumber_21 (by decide) ?_
  obtain ⟨z_3, e_z_3, hf⟩ := asBE hf
  rw [e_z_3]
  obtain ⟨p22, hp22, hf⟩ := bdE hf
  refine ww_callV C (As := [.int (b2i z_3), .int 1]) (st := []) (gr := []) (c_X9_check (E := E) (a0 := a0) (h0_0 := h0_0) (h0_1 := h0_1) hp22) gX9_readNumber_X9_check rfl yk_X9_check ⟨by decide, by decide⟩ ⟨by decide, by decide⟩ clOK9 0 0 rfl rfl [0] [] 1 rfl (by decide) rfl rfl (Nat.le_of_ble_eq_true rfl) dX9_readNumber_22 ?_
  rintro _ _ ⟨rfl, rfl⟩
  refine ww_perm (gs' := [wModel E a0 (rf2 h0_0 h0_1) p22]) [0] 1 rfl (by decide) rfl ?_
  refine ww_aload_n C dX9_readNumber_25 rfl 0 rfl ?_
  obtain ⟨p26, hp26, hf⟩ := bdE hf
  refine ww_callV C (As := []) (st := []) (gr := []) (c_X9_value (E := E) (a0 := a0) (h0_0 := h0_0) (h0_1 := h0_1) hp26) gX9_readNumber_X9_value rfl yk_X9_value ⟨by decide, by decide⟩ ⟨by decide, by decide⟩ clOK9 0 0 rfl rfl [0] [] 1 rfl (by decide) rfl rfl (Nat.le_of_ble_eq_true rfl) dX9_readNumber_26 ?_
  rintro _ _ ⟨rfl, rfl⟩
  refine ww_perm (gs' := [wModel E a0 (rf2 h0_0 h0_1) p22]) [0] 1 rfl (by decide) rfl ?_
  refine ww_istore_n (lv' := [(3, .int p26), (0, .ref (a0 0)), (1, .int x1), (2, .int x2)]) C dX9_readNumber_29 rfl (by decide) rfl ?_
  refine ww_aload_n C dX9_readNumber_30 rfl 1 rfl ?_
  refine ww_aload_n C dX9_readNumber_31 rfl 1 rfl ?_
  refine ww_get C clOK9 in_X9_readNumber_X9 (w := wModel E a0 (rf2 h0_0 h0_1) p22) (fs := fsModel a0 (rf2 h0_0 h0_1) p22) (v := .int (Model_error p22)) 0 0 27 rfl q_Model (by decide) (by decide +kernel) g_Model_error dX9_readNumber_32 ?_
  refine ww_if_ne (tgt := 47) C dX9_readNumber_35 (by decide) (fun c_4 => ?_) (fun c_4 => ?_)
  · replace hf := ifF c_4 hf
    refine ww_sub C (lv' := [(0, .ref (a0 0)), (1, .int x1), (3, .int p26)]) [1, 2, 0] rfl ?_
    exact w_X9_readNumber_47 C hf
  · replace hf := ifT c_4 hf
    refine ww_iload_n C dX9_readNumber_38 rfl 0 rfl ?_
    refine ww_iload_n C dX9_readNumber_39 rfl 2 rfl ?_
    refine ww_iload_n C dX9_readNumber_40 rfl 3 rfl ?_
    obtain ⟨p41, hp41, hf⟩ := bdE hf
    refine ww_callS C (As := [.int p26, .int x1, .int x2]) (st := [.ref (a0 0)]) (gr := [wModel E a0 (rf2 h0_0 h0_1) p22]) (c_X9_inRange (E := E)  hp41) gX9_readNumber_X9_inRange rfl ysk_X9_inRange ⟨by decide, by decide⟩ ⟨by decide, by decide⟩ [] [0] 1 rfl (by decide) rfl rfl (Nat.le_of_ble_eq_true rfl) dX9_readNumber_41 ?_
    rintro _ _ ⟨rfl, rfl⟩
    refine ww_perm (gs' := [wModel E a0 (rf2 h0_0 h0_1) p22]) [0] 1 rfl (by decide) rfl ?_
    refine ww_if_eqB (tgt := 51) C dX9_readNumber_44 (by decide) (fun c_5 => ?_) (fun c_5 => ?_)
    · replace hf := bfE c_5 hf
      refine ww_iconst (v := 0) C dX9_readNumber_51 (by decide) ?_
      refine ww_sub C (lv' := [(0, .ref (a0 0)), (1, .int x1), (3, .int p26)]) [1, 2, 0] rfl ?_
      exact w_X9_readNumber_52 C hf
    · replace hf := btE c_5 hf
      refine ww_sub C (lv' := [(0, .ref (a0 0)), (1, .int x1), (3, .int p26)]) [1, 2, 0] rfl ?_
      exact w_X9_readNumber_47 C hf

set_option maxHeartbeats 4000000 in
set_option maxRecDepth 100000 in
theorem w_X9_readNumber_16 {E : Ex} {K : Kx} (C : Cx E K cX9_readNumber 4 (some .int) RX9 wsX9_readNumber rmX9_readNumber) {a0 : Nat → Nat} {h0_0 h0_1 : Nat} {x1 : Int32} {x2 : Int32}  {v0 : ModelV} {r : (Int32 × ModelV)} (hf : Mod_readNumber_16 x1 x2 v0 = some r) : WW E K 0 0 (QQ E K (fun rv g => rv = some (.int r.1) ∧ g = [wModel E a0 (rf2 h0_0 h0_1) r.2]) 0 0) 16 [(0, .ref (a0 0)), (1, .int x1), (2, .int x2)] [.ref (a0 0)] [wModel E a0 (rf2 h0_0 h0_1) v0] := by
  rw [Mod_readNumber_16] at hf
  refine ww_iconst (v := 1) C dX9_readNumber_16 (by decide) ?_
  refine ww_goto (tgt := 21) C dX9_readNumber_17 (by decide) ?_
  refine ww_sub C (lv' := [(0, .ref (a0 0)), (1, .int x1), (2, .int x2)]) [0, 1, 2] rfl ?_
  exact w_X9_readNumber_21 C hf

set_option maxHeartbeats 4000000 in
set_option maxRecDepth 100000 in
theorem c_X9_readNumber {E : Ex} {a0 : Nat → Nat} {h0_0 h0_1 : Nat} {x1 : Int32} {x2 : Int32} {v0 : ModelV} {r : (Int32 × ModelV)} (hf : Mod_readNumber x1 x2 v0 = some r) : Ct E yX9_readNumber wsX9_readNumber rmX9_readNumber [.ref (a0 0), .int x1, .int x2] [wModel E a0 (rf2 h0_0 h0_1) v0] (fun rv g => rv = some (.int r.1) ∧ g = [wModel E a0 (rf2 h0_0 h0_1) r.2]) := by
  refine ct_of (own := RX9) (by decide +kernel) rfl rfl (Nat.le_of_ble_eq_true rfl) (fun K C => ?_)
  refine ww_sub C (lv' := [(0, .ref (a0 0)), (1, .int x1), (2, .int x2)]) [0, 1, 2] rfl ?_
  rw [Mod_readNumber] at hf
  refine ww_aload_n C dX9_readNumber_0 rfl 0 rfl ?_
  refine ww_aload_n C dX9_readNumber_1 rfl 0 rfl ?_
  refine ww_get C clOK9 in_X9_readNumber_X9 (w := wModel E a0 (rf2 h0_0 h0_1) v0) (fs := fsModel a0 (rf2 h0_0 h0_1) v0) (v := .int (Model_error v0)) 0 0 27 rfl q_Model (by decide) (by decide +kernel) g_Model_error dX9_readNumber_2 ?_
  refine ww_if_ne (tgt := 16) C dX9_readNumber_5 (by decide) (fun c_1 => ?_) (fun c_1 => ?_)
  · replace hf := ifF c_1 hf
    refine ww_sub C (lv' := [(0, .ref (a0 0)), (1, .int x1), (2, .int x2)]) [0, 1, 2] rfl ?_
    exact w_X9_readNumber_16 C hf
  · replace hf := ifT c_1 hf
    refine ww_aload_n C dX9_readNumber_8 rfl 0 rfl ?_
    refine ww_get C clOK9 in_X9_readNumber_X9 (w := wModel E a0 (rf2 h0_0 h0_1) v0) (fs := fsModel a0 (rf2 h0_0 h0_1) v0) (v := .int (Model_token v0)) 0 0 26 rfl q_Model (by decide) (by decide +kernel) g_Model_token dX9_readNumber_9 ?_
    refine ww_iconst (v := 2) C dX9_readNumber_12 (by decide) ?_
    refine ww_icmp_ne (tgt := 20) C dX9_readNumber_13 (by decide) (fun c_2 => ?_) (fun c_2 => ?_)
    · replace hf := ifF c_2 hf
      refine ww_iconst (v := 0) C dX9_readNumber_20 (by decide) ?_
      refine ww_sub C (lv' := [(0, .ref (a0 0)), (1, .int x1), (2, .int x2)]) [0, 1, 2] rfl ?_
      exact w_X9_readNumber_21 C hf
    · replace hf := ifT c_2 hf
      refine ww_sub C (lv' := [(0, .ref (a0 0)), (1, .int x1), (2, .int x2)]) [0, 1, 2] rfl ?_
      exact w_X9_readNumber_16 C hf

theorem yk_X9_readNumber : yX9_readNumber.cls = RX9 ∧ yX9_readNumber.cls ≠ "java/lang/invoke/MethodHandle" ∧ yX9_readNumber.cls ≠ "java/lang/invoke/VarHandle" ∧ (parseMethodDescriptor yX9_readNumber.desc).map (fun d => d.parameters.length) = some 2 := by decide +kernel
abbrev rmX9_emit : Room := { frames := 0, cells := 0, slots := 0, locals := 0 }
set_option maxRecDepth 20000 in
theorem in_X9_emit_X9 : ∀ w ∈ u_ws RX9 TX9 35, w ∈ wsX9_emit := by decide +kernel
set_option maxHeartbeats 4000000 in
set_option maxRecDepth 100000 in
theorem c_X9_emit {E : Ex} {a0 : Nat → Nat} {h0_0 h0_1 : Nat} {x1 : Int32} {v0 : ModelV} {r : ModelV} (hf : Mod_emit x1 v0 = some r) : Ct E yX9_emit wsX9_emit rmX9_emit [.ref (a0 0), .int x1] [wModel E a0 (rf2 h0_0 h0_1) v0] (fun rv g => rv = none ∧ g = [wModel E a0 (rf2 h0_0 h0_1) r]) := by
  refine ct_of (own := RX9) (by decide +kernel) rfl rfl (Nat.le_of_ble_eq_true rfl) (fun K C => ?_)
  refine ww_sub C (lv' := [(0, .ref (a0 0)), (1, .int x1)]) [0, 1] rfl ?_
  rw [Mod_emit] at hf
  refine ww_aload_n C dX9_emit_0 rfl 0 rfl ?_
  refine ww_get C clOK9 in_X9_emit_X9 (w := wModel E a0 (rf2 h0_0 h0_1) v0) (fs := fsModel a0 (rf2 h0_0 h0_1) v0) (v := .int (Model_error v0)) 0 0 27 rfl q_Model (by decide) (by decide +kernel) g_Model_error dX9_emit_1 ?_
  refine ww_if_ne (tgt := 27) C dX9_emit_4 (by decide) (fun c_1 => ?_) (fun c_1 => ?_)
  · replace hf := ifF c_1 hf
    obtain rfl := Option.some.inj hf
    exact ww_vret C ⟨rfl, rfl⟩ dX9_emit_27
  · replace hf := ifT c_1 hf
    refine ww_aload_n C dX9_emit_7 rfl 0 rfl ?_
    refine ww_get C clOK9 in_X9_emit_X9 (w := wModel E a0 (rf2 h0_0 h0_1) v0) (fs := fsModel a0 (rf2 h0_0 h0_1) v0) (v := .ref (a0 15)) 0 0 32 rfl q_Model (by decide) (by decide +kernel) g_Model_codes dX9_emit_8 ?_
    refine ww_aload_n C dX9_emit_11 rfl 0 rfl ?_
    refine ww_get C clOK9 in_X9_emit_X9 (w := wModel E a0 (rf2 h0_0 h0_1) v0) (fs := fsModel a0 (rf2 h0_0 h0_1) v0) (v := .int (Model_codeCount v0)) 0 0 34 rfl q_Model (by decide) (by decide +kernel) g_Model_codeCount dX9_emit_12 ?_
    refine ww_iload_n C dX9_emit_15 rfl 1 rfl ?_
    obtain ⟨g_2, hf⟩ := gdE hf
    obtain ⟨v0_16, e_v0_16⟩ : ∃ y : ModelV, y = Model_set_codes v0 (upd (Model_codes v0) (Int32.toNatClampNeg (Model_codeCount v0)) x1) := ⟨_, rfl⟩
    replace hf := ltE e_v0_16 hf
    refine ww_iast C (f := Model_codes v0) (w := wModel E a0 (rf2 h0_0 h0_1) v0) (w' := wModel E a0 (rf2 h0_0 h0_1) v0_16) (gs' := [wModel E a0 (rf2 h0_0 h0_1) v0_16]) 0 15 rfl c_Model_codes (inB_vp g_2) (by rw [e_v0_16]; exact s_Model_codes) rfl dX9_emit_16 ?_
    refine ww_aload_n C dX9_emit_17 rfl 0 rfl ?_
    refine ww_dup C dX9_emit_18 rfl ?_
    refine ww_get C clOK9 in_X9_emit_X9 (w := wModel E a0 (rf2 h0_0 h0_1) v0_16) (fs := fsModel a0 (rf2 h0_0 h0_1) v0_16) (v := .int (Model_codeCount v0_16)) 0 0 34 rfl q_Model (by decide) (by decide +kernel) g_Model_codeCount dX9_emit_19 ?_
    refine ww_iconst (v := 1) C dX9_emit_22 (by decide) ?_
    refine ww_iadd C dX9_emit_23 ?_
    obtain ⟨v0_24, e_v0_24⟩ : ∃ y : ModelV, y = Model_set_codeCount v0_16 ((Model_codeCount v0_16) + 1) := ⟨_, rfl⟩
    replace hf := ltE e_v0_24 hf
    refine ww_put C clOK9 in_X9_emit_X9 (w := wModel E a0 (rf2 h0_0 h0_1) v0_16) (fs := fsModel a0 (rf2 h0_0 h0_1) v0_16) (w' := wModel E a0 (rf2 h0_0 h0_1) v0_24) (gs' := [wModel E a0 (rf2 h0_0 h0_1) v0_24]) 0 0 34 rfl q_Model (by decide) (by decide +kernel) rfl rfl rfl rfl l_Model (by rw [e_v0_24]; exact p_Model_codeCount) rfl dX9_emit_24 ?_
    obtain rfl := Option.some.inj hf
    exact ww_vret C ⟨rfl, rfl⟩ dX9_emit_27

theorem yk_X9_emit : yX9_emit.cls = RX9 ∧ yX9_emit.cls ≠ "java/lang/invoke/MethodHandle" ∧ yX9_emit.cls ≠ "java/lang/invoke/VarHandle" ∧ (parseMethodDescriptor yX9_emit.desc).map (fun d => d.parameters.length) = some 1 := by decide +kernel
abbrev rmX9_enter : Room := { frames := 4, cells := 0, slots := 0, locals := 82 }
set_option maxRecDepth 20000 in
theorem in_X9_enter_X9 : ∀ w ∈ u_ws RX9 TX9 35, w ∈ wsX9_enter := by decide +kernel
set_option maxHeartbeats 4000000 in
set_option maxRecDepth 100000 in
theorem w_X9_enter_15 {E : Ex} {K : Kx} (C : Cx E K cX9_enter 1 none RX9 wsX9_enter rmX9_enter) {a0 : Nat → Nat} {h0_0 h0_1 : Nat}   {s0 : Int32} {v0 : ModelV} {r : ModelV} (hf : Mod_enter_15 s0 v0 = some r) : WW E K 0 0 (QQ E K (fun rv g => rv = none ∧ g = [wModel E a0 (rf2 h0_0 h0_1) r]) 0 0) 15 [(0, .ref (a0 0))] [.int s0, .ref (a0 0)] [wModel E a0 (rf2 h0_0 h0_1) v0] := by
  rw [Mod_enter_15] at hf
  refine ww_iconst (v := 3) C dX9_enter_15 (by decide) ?_
  obtain ⟨z_2, e_z_2, hf⟩ := asBE hf
  rw [e_z_2]
  obtain ⟨p16, hp16, hf⟩ := bdE hf
  refine ww_callV C (As := [.int (b2i z_2), .int 3]) (st := []) (gr := []) (c_X9_check (E := E) (a0 := a0) (h0_0 := h0_0) (h0_1 := h0_1) hp16) gX9_enter_X9_check rfl yk_X9_check ⟨by decide, by decide⟩ ⟨by decide, by decide⟩ clOK9 0 0 rfl rfl [0] [] 1 rfl (by decide) rfl rfl (Nat.le_of_ble_eq_true rfl) dX9_enter_16 ?_
  rintro _ _ ⟨rfl, rfl⟩
  refine ww_perm (gs' := [wModel E a0 (rf2 h0_0 h0_1) p16]) [0] 1 rfl (by decide) rfl ?_
  refine ww_aload_n C dX9_enter_19 rfl 0 rfl ?_
  refine ww_dup C dX9_enter_20 rfl ?_
  refine ww_get C clOK9 in_X9_enter_X9 (w := wModel E a0 (rf2 h0_0 h0_1) p16) (fs := fsModel a0 (rf2 h0_0 h0_1) p16) (v := .int (Model_nested p16)) 0 0 30 rfl q_Model (by decide) (by decide +kernel) g_Model_nested dX9_enter_21 ?_
  refine ww_iconst (v := 1) C dX9_enter_24 (by decide) ?_
  refine ww_iadd C dX9_enter_25 ?_
  obtain ⟨v0_26, e_v0_26⟩ : ∃ y : ModelV, y = Model_set_nested p16 ((Model_nested p16) + 1) := ⟨_, rfl⟩
  replace hf := ltE e_v0_26 hf
  refine ww_put C clOK9 in_X9_enter_X9 (w := wModel E a0 (rf2 h0_0 h0_1) p16) (fs := fsModel a0 (rf2 h0_0 h0_1) p16) (w' := wModel E a0 (rf2 h0_0 h0_1) v0_26) (gs' := [wModel E a0 (rf2 h0_0 h0_1) v0_26]) 0 0 30 rfl q_Model (by decide) (by decide +kernel) rfl rfl rfl rfl l_Model (by rw [e_v0_26]; exact p_Model_nested) rfl dX9_enter_26 ?_
  refine ww_aload_n C dX9_enter_29 rfl 0 rfl ?_
  obtain ⟨p30, hp30, hf⟩ := bdE hf
  refine ww_callV C (As := []) (st := []) (gr := []) (c_X9_advance (E := E) (a0 := a0) (h0_0 := h0_0) (h0_1 := h0_1) hp30) gX9_enter_X9_advance rfl yk_X9_advance ⟨by decide, by decide⟩ ⟨by decide, by decide⟩ clOK9 0 0 rfl rfl [0] [] 1 rfl (by decide) rfl rfl (Nat.le_of_ble_eq_true rfl) dX9_enter_30 ?_
  rintro _ _ ⟨rfl, rfl⟩
  refine ww_perm (gs' := [wModel E a0 (rf2 h0_0 h0_1) p30]) [0] 1 rfl (by decide) rfl ?_
  obtain rfl := Option.some.inj hf
  exact ww_vret C ⟨rfl, rfl⟩ dX9_enter_33

set_option maxHeartbeats 4000000 in
set_option maxRecDepth 100000 in
theorem c_X9_enter {E : Ex} {a0 : Nat → Nat} {h0_0 h0_1 : Nat} {v0 : ModelV} {r : ModelV} (hf : Mod_enter v0 = some r) : Ct E yX9_enter wsX9_enter rmX9_enter [.ref (a0 0)] [wModel E a0 (rf2 h0_0 h0_1) v0] (fun rv g => rv = none ∧ g = [wModel E a0 (rf2 h0_0 h0_1) r]) := by
  refine ct_of (own := RX9) (by decide +kernel) rfl rfl (Nat.le_of_ble_eq_true rfl) (fun K C => ?_)
  refine ww_sub C (lv' := [(0, .ref (a0 0))]) [0] rfl ?_
  rw [Mod_enter] at hf
  refine ww_aload_n C dX9_enter_0 rfl 0 rfl ?_
  refine ww_aload_n C dX9_enter_1 rfl 0 rfl ?_
  refine ww_get C clOK9 in_X9_enter_X9 (w := wModel E a0 (rf2 h0_0 h0_1) v0) (fs := fsModel a0 (rf2 h0_0 h0_1) v0) (v := .int (Model_nested v0)) 0 0 30 rfl q_Model (by decide) (by decide +kernel) g_Model_nested dX9_enter_2 ?_
  refine ww_bipush (v := 6) C dX9_enter_5 (by decide) ?_
  refine ww_icmp_ge (tgt := 14) C dX9_enter_7 (by decide) (fun c_1 => ?_) (fun c_1 => ?_)
  · replace hf := ifT c_1 hf
    refine ww_iconst (v := 0) C dX9_enter_14 (by decide) ?_
    refine ww_sub C (lv' := [(0, .ref (a0 0))]) [0] rfl ?_
    exact w_X9_enter_15 C hf
  · replace hf := ifF c_1 hf
    refine ww_iconst (v := 1) C dX9_enter_10 (by decide) ?_
    refine ww_goto (tgt := 15) C dX9_enter_11 (by decide) ?_
    refine ww_sub C (lv' := [(0, .ref (a0 0))]) [0] rfl ?_
    exact w_X9_enter_15 C hf

theorem yk_X9_enter : yX9_enter.cls = RX9 ∧ yX9_enter.cls ≠ "java/lang/invoke/MethodHandle" ∧ yX9_enter.cls ≠ "java/lang/invoke/VarHandle" ∧ (parseMethodDescriptor yX9_enter.desc).map (fun d => d.parameters.length) = some 0 := by decide +kernel
abbrev rmX9_operate : Room := { frames := 0, cells := 0, slots := 0, locals := 0 }
set_option maxHeartbeats 4000000 in
set_option maxRecDepth 100000 in
theorem c_X9_operate {E : Ex}  {x0 : Int32} {x1 : Int64} {x3 : Int64} {r : Int64} (hf : Mod_operate x0 x1 x3 = some r) : Ct E yX9_operate wsX9_operate rmX9_operate [.int x0, .long x1, .long x3] [] (fun rv g => rv = some (.long r) ∧ g = []) := by
  refine ct_of (own := RX9) (by decide +kernel) rfl rfl (Nat.le_of_ble_eq_true rfl) (fun K C => ?_)
  refine ww_sub C (lv' := [(0, .int x0), (1, .long x1), (3, .long x3)]) [0, 1, 2] rfl ?_
  rw [Mod_operate] at hf
  refine ww_iload_n C dX9_operate_0 rfl 0 rfl ?_
  by_cases c_4 : Int32.toInt x0 < (-24) ∨ (-20) < Int32.toInt x0
  · replace hf := ifT c_4 hf
    refine ww_tabOut (tgt := 76) C dX9_operate_1 c_4 (by decide) ?_
    refine ww_lload_n C dX9_operate_76 rfl 1 rfl ?_
    refine ww_lload_n C dX9_operate_77 rfl 2 rfl ?_
    refine ww_lor C dX9_operate_78 ?_
    obtain rfl := Option.some.inj hf
    exact ww_lret C ⟨rfl, rfl⟩ dX9_operate_79
  · replace hf := ifF c_4 hf
    by_cases c_5 : x0 = (-24)
    · replace hf := ifT c_5 hf
      refine ww_tabIn (off := 71) (tgt := 72) C dX9_operate_1 (fun z => c_4 (Or.inl z)) (fun z => c_4 (Or.inr z)) (by rw [c_5]; decide) (by decide) ?_
      refine ww_lload_n C dX9_operate_72 rfl 1 rfl ?_
      refine ww_lload_n C dX9_operate_73 rfl 2 rfl ?_
      refine ww_land C dX9_operate_74 ?_
      obtain rfl := Option.some.inj hf
      exact ww_lret C ⟨rfl, rfl⟩ dX9_operate_75
    · replace hf := ifF c_5 hf
      by_cases c_6 : x0 = (-23)
      · replace hf := ifT c_6 hf
        refine ww_tabIn (off := 75) (tgt := 76) C dX9_operate_1 (fun z => c_4 (Or.inl z)) (fun z => c_4 (Or.inr z)) (by rw [c_6]; decide) (by decide) ?_
        refine ww_lload_n C dX9_operate_76 rfl 1 rfl ?_
        refine ww_lload_n C dX9_operate_77 rfl 2 rfl ?_
        refine ww_lor C dX9_operate_78 ?_
        obtain rfl := Option.some.inj hf
        exact ww_lret C ⟨rfl, rfl⟩ dX9_operate_79
      · replace hf := ifF c_6 hf
        by_cases c_7 : x0 = (-22)
        · replace hf := ifT c_7 hf
          refine ww_tabIn (off := 59) (tgt := 60) C dX9_operate_1 (fun z => c_4 (Or.inl z)) (fun z => c_4 (Or.inr z)) (by rw [c_7]; decide) (by decide) ?_
          refine ww_lload_n C dX9_operate_60 rfl 1 rfl ?_
          refine ww_lload_n C dX9_operate_61 rfl 2 rfl ?_
          refine ww_lcmp C dX9_operate_62 ?_
          refine ww_if_le (tgt := 70) C dX9_operate_63 (by decide) (fun c_1 => ?_) (fun c_1 => ?_)
          · replace hf := ifT c_1 hf
            refine ww_lconst (v := 0) C dX9_operate_70 (by decide) ?_
            obtain rfl := Option.some.inj hf
            exact ww_lret C ⟨rfl, rfl⟩ dX9_operate_71
          · replace hf := ifF c_1 hf
            refine ww_lconst (v := 1) C dX9_operate_66 (by decide) ?_
            refine ww_goto (tgt := 71) C dX9_operate_67 (by decide) ?_
            obtain rfl := Option.some.inj hf
            exact ww_lret C ⟨rfl, rfl⟩ dX9_operate_71
        · replace hf := ifF c_7 hf
          by_cases c_8 : x0 = (-21)
          · replace hf := ifT c_8 hf
            refine ww_tabIn (off := 47) (tgt := 48) C dX9_operate_1 (fun z => c_4 (Or.inl z)) (fun z => c_4 (Or.inr z)) (by rw [c_8]; decide) (by decide) ?_
            refine ww_lload_n C dX9_operate_48 rfl 1 rfl ?_
            refine ww_lload_n C dX9_operate_49 rfl 2 rfl ?_
            refine ww_lcmp C dX9_operate_50 ?_
            refine ww_if_ne (tgt := 58) C dX9_operate_51 (by decide) (fun c_2 => ?_) (fun c_2 => ?_)
            · replace hf := ifF c_2 hf
              refine ww_lconst (v := 0) C dX9_operate_58 (by decide) ?_
              obtain rfl := Option.some.inj hf
              exact ww_lret C ⟨rfl, rfl⟩ dX9_operate_59
            · replace hf := ifT c_2 hf
              refine ww_lconst (v := 1) C dX9_operate_54 (by decide) ?_
              refine ww_goto (tgt := 59) C dX9_operate_55 (by decide) ?_
              obtain rfl := Option.some.inj hf
              exact ww_lret C ⟨rfl, rfl⟩ dX9_operate_59
          · replace hf := ifF c_8 hf
            by_cases c_9 : x0 = (-20)
            · replace hf := ifT c_9 hf
              refine ww_tabIn (off := 35) (tgt := 36) C dX9_operate_1 (fun z => c_4 (Or.inl z)) (fun z => c_4 (Or.inr z)) (by rw [c_9]; decide) (by decide) ?_
              refine ww_lload_n C dX9_operate_36 rfl 1 rfl ?_
              refine ww_lload_n C dX9_operate_37 rfl 2 rfl ?_
              refine ww_lcmp C dX9_operate_38 ?_
              refine ww_if_ge (tgt := 46) C dX9_operate_39 (by decide) (fun c_3 => ?_) (fun c_3 => ?_)
              · replace hf := ifT c_3 hf
                refine ww_lconst (v := 0) C dX9_operate_46 (by decide) ?_
                obtain rfl := Option.some.inj hf
                exact ww_lret C ⟨rfl, rfl⟩ dX9_operate_47
              · replace hf := ifF c_3 hf
                refine ww_lconst (v := 1) C dX9_operate_42 (by decide) ?_
                refine ww_goto (tgt := 47) C dX9_operate_43 (by decide) ?_
                obtain rfl := Option.some.inj hf
                exact ww_lret C ⟨rfl, rfl⟩ dX9_operate_47
            · replace hf := ifF c_9 hf
              cases hf

theorem ysk_X9_operate : yX9_operate.cls ≠ "java/lang/invoke/MethodHandle" ∧ yX9_operate.cls ≠ "java/lang/invoke/VarHandle" ∧ (parseMethodDescriptor yX9_operate.desc).map (fun d => d.parameters.length) = some 3 := by decide +kernel
