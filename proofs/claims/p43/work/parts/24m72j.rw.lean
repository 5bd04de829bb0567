abbrev rmX8_needRoom : Room := { frames := 1, cells := 0, slots := 0, locals := 21 }
set_option maxRecDepth 20000 in
theorem in_X8_needRoom_X8 : ∀ w ∈ u_ws RX8 TX8 14, w ∈ wsX8_needRoom := by decide +kernel
set_option maxHeartbeats 4000000 in
set_option maxRecDepth 100000 in
theorem c_X8_needRoom {E : Ex} {a0 : Nat → Nat} {a1 : Nat → Nat} {h0_1 h0_2 h0_3 h0_4 h0_5 h0_6 h0_7 h0_8 h0_9 : Nat} {x1 : Int32} {v0 : GWV} {v1 : HouseV} {r : Unit} (hf : GW_needRoom x1 v0 v1 = some r) : Ct E yX8_needRoom wsX8_needRoom rmX8_needRoom [.ref (a0 0), .int x1] [wGW E a0 (rf10 (a1 0) h0_1 h0_2 h0_3 h0_4 h0_5 h0_6 h0_7 h0_8 h0_9) v0, wHouse E a1 v1] (fun rv g => rv = none ∧ g = [wGW E a0 (rf10 (a1 0) h0_1 h0_2 h0_3 h0_4 h0_5 h0_6 h0_7 h0_8 h0_9) v0, wHouse E a1 v1]) := by
  refine ct_of (own := RX8) (by decide +kernel) rfl rfl (Nat.le_of_ble_eq_true rfl) (fun K C => ?_)
  refine ww_sub C (lv' := [(0, .ref (a0 0)), (1, .int x1)]) [0, 1] rfl ?_
  rw [GW_needRoom] at hf
  refine ww_aload_n C dX8_needRoom_0 rfl 0 rfl ?_
  refine ww_get C clOK8 in_X8_needRoom_X8 (w := wGW E a0 (rf10 (a1 0) h0_1 h0_2 h0_3 h0_4 h0_5 h0_6 h0_7 h0_8 h0_9) v0) (fs := fsGW a0 (rf10 (a1 0) h0_1 h0_2 h0_3 h0_4 h0_5 h0_6 h0_7 h0_8 h0_9) v0) (v := .ref (a1 0)) 0 0 0 rfl q_GW (by decide) (by decide +kernel) g_GW_house dX8_needRoom_1 ?_
  refine ww_iload_n C dX8_needRoom_4 rfl 1 rfl ?_
  obtain ⟨p5, hp5, hf⟩ := bdE hf
  refine ww_callV C (As := [.int x1]) (st := []) (gr := [wGW E a0 (rf10 (a1 0) h0_1 h0_2 h0_3 h0_4 h0_5 h0_6 h0_7 h0_8 h0_9) v0]) (c_X2_hasRoom (E := E) (a0 := a1) hp5) gX8_needRoom_X2_hasRoom rfl yk_X2_hasRoom ⟨by decide, Nat.le_of_ble_eq_true rfl⟩ ⟨by decide, by decide⟩ clOK2 0 0 rfl rfl [1] [0] 2 rfl (by decide) rfl rfl (Nat.le_of_ble_eq_true rfl) dX8_needRoom_5 ?_
  rintro _ _ ⟨rfl, rfl⟩
  refine ww_perm (gs' := [wGW E a0 (rf10 (a1 0) h0_1 h0_2 h0_3 h0_4 h0_5 h0_6 h0_7 h0_8 h0_9) v0, wHouse E a1 v1]) [1, 0] 2 rfl (by decide) rfl ?_
  refine ww_if_neB (tgt := 22) C dX8_needRoom_8 (by decide) (fun c_1 => ?_) (fun c_1 => ?_)
  · replace hf := btE c_1 hf
    obtain rfl := Option.some.inj hf
    exact ww_vret C ⟨rfl, rfl⟩ dX8_needRoom_22
  · replace hf := bfE c_1 hf
    cases hf

theorem yk_X8_needRoom : yX8_needRoom.cls = RX8 ∧ yX8_needRoom.cls ≠ "java/lang/invoke/MethodHandle" ∧ yX8_needRoom.cls ≠ "java/lang/invoke/VarHandle" ∧ (parseMethodDescriptor yX8_needRoom.desc).map (fun d => d.parameters.length) = some 1 := by decide +kernel
abbrev rmX8_needDoor : Room := { frames := 1, cells := 0, slots := 0, locals := 21 }
set_option maxRecDepth 20000 in
theorem in_X8_needDoor_X8 : ∀ w ∈ u_ws RX8 TX8 14, w ∈ wsX8_needDoor := by decide +kernel
set_option maxHeartbeats 4000000 in
set_option maxRecDepth 100000 in
theorem c_X8_needDoor {E : Ex} {a0 : Nat → Nat} {a1 : Nat → Nat} {h0_1 h0_2 h0_3 h0_4 h0_5 h0_6 h0_7 h0_8 h0_9 : Nat} {x1 : Int32} {v0 : GWV} {v1 : HouseV} {r : Unit} (hf : GW_needDoor x1 v0 v1 = some r) : Ct E yX8_needDoor wsX8_needDoor rmX8_needDoor [.ref (a0 0), .int x1] [wGW E a0 (rf10 (a1 0) h0_1 h0_2 h0_3 h0_4 h0_5 h0_6 h0_7 h0_8 h0_9) v0, wHouse E a1 v1] (fun rv g => rv = none ∧ g = [wGW E a0 (rf10 (a1 0) h0_1 h0_2 h0_3 h0_4 h0_5 h0_6 h0_7 h0_8 h0_9) v0, wHouse E a1 v1]) := by
  refine ct_of (own := RX8) (by decide +kernel) rfl rfl (Nat.le_of_ble_eq_true rfl) (fun K C => ?_)
  refine ww_sub C (lv' := [(0, .ref (a0 0)), (1, .int x1)]) [0, 1] rfl ?_
  rw [GW_needDoor] at hf
  refine ww_aload_n C dX8_needDoor_0 rfl 0 rfl ?_
  refine ww_get C clOK8 in_X8_needDoor_X8 (w := wGW E a0 (rf10 (a1 0) h0_1 h0_2 h0_3 h0_4 h0_5 h0_6 h0_7 h0_8 h0_9) v0) (fs := fsGW a0 (rf10 (a1 0) h0_1 h0_2 h0_3 h0_4 h0_5 h0_6 h0_7 h0_8 h0_9) v0) (v := .ref (a1 0)) 0 0 0 rfl q_GW (by decide) (by decide +kernel) g_GW_house dX8_needDoor_1 ?_
  refine ww_iload_n C dX8_needDoor_4 rfl 1 rfl ?_
  obtain ⟨p5, hp5, hf⟩ := bdE hf
  refine ww_callV C (As := [.int x1]) (st := []) (gr := [wGW E a0 (rf10 (a1 0) h0_1 h0_2 h0_3 h0_4 h0_5 h0_6 h0_7 h0_8 h0_9) v0]) (c_X2_hasDoor (E := E) (a0 := a1) hp5) gX8_needDoor_X2_hasDoor rfl yk_X2_hasDoor ⟨by decide, Nat.le_of_ble_eq_true rfl⟩ ⟨by decide, by decide⟩ clOK2 0 0 rfl rfl [1] [0] 2 rfl (by decide) rfl rfl (Nat.le_of_ble_eq_true rfl) dX8_needDoor_5 ?_
  rintro _ _ ⟨rfl, rfl⟩
  refine ww_perm (gs' := [wGW E a0 (rf10 (a1 0) h0_1 h0_2 h0_3 h0_4 h0_5 h0_6 h0_7 h0_8 h0_9) v0, wHouse E a1 v1]) [1, 0] 2 rfl (by decide) rfl ?_
  refine ww_if_neB (tgt := 22) C dX8_needDoor_8 (by decide) (fun c_1 => ?_) (fun c_1 => ?_)
  · replace hf := btE c_1 hf
    obtain rfl := Option.some.inj hf
    exact ww_vret C ⟨rfl, rfl⟩ dX8_needDoor_22
  · replace hf := bfE c_1 hf
    cases hf

theorem yk_X8_needDoor : yX8_needDoor.cls = RX8 ∧ yX8_needDoor.cls ≠ "java/lang/invoke/MethodHandle" ∧ yX8_needDoor.cls ≠ "java/lang/invoke/VarHandle" ∧ (parseMethodDescriptor yX8_needDoor.desc).map (fun d => d.parameters.length) = some 1 := by decide +kernel
abbrev rmX8_needGuard : Room := { frames := 1, cells := 0, slots := 0, locals := 21 }
set_option maxRecDepth 20000 in
theorem in_X8_needGuard_X8 : ∀ w ∈ u_ws RX8 TX8 14, w ∈ wsX8_needGuard := by decide +kernel
set_option maxHeartbeats 4000000 in
set_option maxRecDepth 100000 in
theorem c_X8_needGuard {E : Ex} {a0 : Nat → Nat} {a1 : Nat → Nat} {h0_1 h0_2 h0_3 h0_4 h0_5 h0_6 h0_7 h0_8 h0_9 : Nat} {x1 : Int32} {v0 : GWV} {v1 : HouseV} {r : Unit} (hf : GW_needGuard x1 v0 v1 = some r) : Ct E yX8_needGuard wsX8_needGuard rmX8_needGuard [.ref (a0 0), .int x1] [wGW E a0 (rf10 (a1 0) h0_1 h0_2 h0_3 h0_4 h0_5 h0_6 h0_7 h0_8 h0_9) v0, wHouse E a1 v1] (fun rv g => rv = none ∧ g = [wGW E a0 (rf10 (a1 0) h0_1 h0_2 h0_3 h0_4 h0_5 h0_6 h0_7 h0_8 h0_9) v0, wHouse E a1 v1]) := by
  refine ct_of (own := RX8) (by decide +kernel) rfl rfl (Nat.le_of_ble_eq_true rfl) (fun K C => ?_)
  refine ww_sub C (lv' := [(0, .ref (a0 0)), (1, .int x1)]) [0, 1] rfl ?_
  rw [GW_needGuard] at hf
  refine ww_aload_n C dX8_needGuard_0 rfl 0 rfl ?_
  refine ww_get C clOK8 in_X8_needGuard_X8 (w := wGW E a0 (rf10 (a1 0) h0_1 h0_2 h0_3 h0_4 h0_5 h0_6 h0_7 h0_8 h0_9) v0) (fs := fsGW a0 (rf10 (a1 0) h0_1 h0_2 h0_3 h0_4 h0_5 h0_6 h0_7 h0_8 h0_9) v0) (v := .ref (a1 0)) 0 0 0 rfl q_GW (by decide) (by decide +kernel) g_GW_house dX8_needGuard_1 ?_
  refine ww_iload_n C dX8_needGuard_4 rfl 1 rfl ?_
  obtain ⟨p5, hp5, hf⟩ := bdE hf
  refine ww_callV C (As := [.int x1]) (st := []) (gr := [wGW E a0 (rf10 (a1 0) h0_1 h0_2 h0_3 h0_4 h0_5 h0_6 h0_7 h0_8 h0_9) v0]) (c_X2_hasGuard (E := E) (a0 := a1) hp5) gX8_needGuard_X2_hasGuard rfl yk_X2_hasGuard ⟨by decide, Nat.le_of_ble_eq_true rfl⟩ ⟨by decide, by decide⟩ clOK2 0 0 rfl rfl [1] [0] 2 rfl (by decide) rfl rfl (Nat.le_of_ble_eq_true rfl) dX8_needGuard_5 ?_
  rintro _ _ ⟨rfl, rfl⟩
  refine ww_perm (gs' := [wGW E a0 (rf10 (a1 0) h0_1 h0_2 h0_3 h0_4 h0_5 h0_6 h0_7 h0_8 h0_9) v0, wHouse E a1 v1]) [1, 0] 2 rfl (by decide) rfl ?_
  refine ww_if_neB (tgt := 22) C dX8_needGuard_8 (by decide) (fun c_1 => ?_) (fun c_1 => ?_)
  · replace hf := btE c_1 hf
    obtain rfl := Option.some.inj hf
    exact ww_vret C ⟨rfl, rfl⟩ dX8_needGuard_22
  · replace hf := bfE c_1 hf
    cases hf

theorem yk_X8_needGuard : yX8_needGuard.cls = RX8 ∧ yX8_needGuard.cls ≠ "java/lang/invoke/MethodHandle" ∧ yX8_needGuard.cls ≠ "java/lang/invoke/VarHandle" ∧ (parseMethodDescriptor yX8_needGuard.desc).map (fun d => d.parameters.length) = some 1 := by decide +kernel
abbrev rmX8_needRange : Room := { frames := 0, cells := 0, slots := 0, locals := 0 }
set_option maxHeartbeats 4000000 in
set_option maxRecDepth 100000 in
theorem w_X8_needRange_10 {E : Ex} {K : Kx} (C : Cx E K cX8_needRange 3 none RX8 wsX8_needRange rmX8_needRange)  {x0 : Int32} {x1 : Int32} {x2 : Int32}    {r : Unit} (hf : GW_needRange_10 x0 x1 x2  = some r) : WW E K 0 0 (QQ E K (fun rv g => rv = none ∧ g = []) 0 0) 10 [] [] [] := by
  rw [GW_needRange_10] at hf
  cases hf

set_option maxHeartbeats 4000000 in
set_option maxRecDepth 100000 in
theorem c_X8_needRange {E : Ex}  {x0 : Int32} {x1 : Int32} {x2 : Int32} {r : Unit} (hf : GW_needRange x0 x1 x2 = some r) : Ct E yX8_needRange wsX8_needRange rmX8_needRange [.int x0, .int x1, .int x2] [] (fun rv g => rv = none ∧ g = []) := by
  refine ct_of (own := RX8) (by decide +kernel) rfl rfl (Nat.le_of_ble_eq_true rfl) (fun K C => ?_)
  refine ww_sub C (lv' := [(0, .int x0), (1, .int x1), (2, .int x2)]) [0, 1, 2] rfl ?_
  rw [GW_needRange] at hf
  refine ww_iload_n C dX8_needRange_0 rfl 0 rfl ?_
  refine ww_iload_n C dX8_needRange_1 rfl 1 rfl ?_
  refine ww_icmp_lt (tgt := 10) C dX8_needRange_2 (by decide) (fun c_1 => ?_) (fun c_1 => ?_)
  · replace hf := ifT c_1 hf
    refine ww_sub C (lv' := []) [] rfl ?_
    exact w_X8_needRange_10 C hf
  · replace hf := ifF c_1 hf
    refine ww_iload_n C dX8_needRange_5 rfl 0 rfl ?_
    refine ww_iload_n C dX8_needRange_6 rfl 2 rfl ?_
    refine ww_icmp_le (tgt := 21) C dX8_needRange_7 (by decide) (fun c_2 => ?_) (fun c_2 => ?_)
    · replace hf := ifT c_2 hf
      obtain rfl := Option.some.inj hf
      exact ww_vret C ⟨rfl, rfl⟩ dX8_needRange_21
    · replace hf := ifF c_2 hf
      refine ww_sub C (lv' := []) [] rfl ?_
      exact w_X8_needRange_10 C hf

theorem ysk_X8_needRange : yX8_needRange.cls ≠ "java/lang/invoke/MethodHandle" ∧ yX8_needRange.cls ≠ "java/lang/invoke/VarHandle" ∧ (parseMethodDescriptor yX8_needRange.desc).map (fun d => d.parameters.length) = some 3 := by decide +kernel
abbrev rmX8_needNotNegative : Room := { frames := 0, cells := 0, slots := 0, locals := 0 }
set_option maxHeartbeats 4000000 in
set_option maxRecDepth 100000 in
theorem c_X8_needNotNegative {E : Ex}  {x0 : Int32} {r : Unit} (hf : GW_needNotNegative x0 = some r) : Ct E yX8_needNotNegative wsX8_needNotNegative rmX8_needNotNegative [.int x0] [] (fun rv g => rv = none ∧ g = []) := by
  refine ct_of (own := RX8) (by decide +kernel) rfl rfl (Nat.le_of_ble_eq_true rfl) (fun K C => ?_)
  refine ww_sub C (lv' := [(0, .int x0)]) [0] rfl ?_
  rw [GW_needNotNegative] at hf
  refine ww_iload_n C dX8_needNotNegative_0 rfl 0 rfl ?_
  refine ww_if_ge (tgt := 15) C dX8_needNotNegative_1 (by decide) (fun c_1 => ?_) (fun c_1 => ?_)
  · replace hf := ifT c_1 hf
    obtain rfl := Option.some.inj hf
    exact ww_vret C ⟨rfl, rfl⟩ dX8_needNotNegative_15
  · replace hf := ifF c_1 hf
    cases hf

theorem ysk_X8_needNotNegative : yX8_needNotNegative.cls ≠ "java/lang/invoke/MethodHandle" ∧ yX8_needNotNegative.cls ≠ "java/lang/invoke/VarHandle" ∧ (parseMethodDescriptor yX8_needNotNegative.desc).map (fun d => d.parameters.length) = some 1 := by decide +kernel
abbrev rmX8_feed : Room := { frames := 1, cells := 0, slots := 0, locals := 22 }
set_option maxRecDepth 20000 in
theorem in_X8_feed_X7 : ∀ w ∈ u_ws RX7 TX7 7, w ∈ wsX8_feed := by decide +kernel
set_option maxRecDepth 20000 in
theorem in_X8_feed_X8 : ∀ w ∈ u_ws RX8 TX8 14, w ∈ wsX8_feed := by decide +kernel
set_option maxHeartbeats 4000000 in
set_option maxRecDepth 100000 in
theorem c_X8_feed {E : Ex} {a0 : Nat → Nat} {a1 : Nat → Nat} {h0_0 h0_1 h0_2 h0_3 h0_4 h0_5 h0_6 h0_8 h0_9 : Nat} {x1 : Int32} {x2 : Int32} {x3 : Int32} {x4 : Int32} {x5 : Int32} {v0 : GWV} {v1 : ToksV} {r : (Int32 × ToksV)} (hf : GW_feed x1 x2 x3 x4 x5 v0 v1 = some r) : Ct E yX8_feed wsX8_feed rmX8_feed [.ref (a0 0), .int x1, .int x2, .int x3, .int x4, .int x5] [wGW E a0 (rf10 h0_0 h0_1 h0_2 h0_3 h0_4 h0_5 h0_6 (a1 0) h0_8 h0_9) v0, wToks E a1 v1] (fun rv g => rv = some (.int r.1) ∧ g = [wGW E a0 (rf10 h0_0 h0_1 h0_2 h0_3 h0_4 h0_5 h0_6 (a1 0) h0_8 h0_9) v0, wToks E a1 r.2]) := by
  refine ct_of (own := RX8) (by decide +kernel) rfl rfl (Nat.le_of_ble_eq_true rfl) (fun K C => ?_)
  refine ww_sub C (lv' := [(0, .ref (a0 0)), (1, .int x1), (2, .int x2), (3, .int x3), (4, .int x4), (5, .int x5)]) [0, 1, 2, 3, 4, 5] rfl ?_
  rw [GW_feed] at hf
  refine ww_aload_n C dX8_feed_0 rfl 0 rfl ?_
  refine ww_get C clOK8 in_X8_feed_X8 (w := wGW E a0 (rf10 h0_0 h0_1 h0_2 h0_3 h0_4 h0_5 h0_6 (a1 0) h0_8 h0_9) v0) (fs := fsGW a0 (rf10 h0_0 h0_1 h0_2 h0_3 h0_4 h0_5 h0_6 (a1 0) h0_8 h0_9) v0) (v := .ref (a1 0)) 0 0 7 rfl q_GW (by decide) (by decide +kernel) g_GW_tokens dX8_feed_1 ?_
  refine ww_get C clOK7 in_X8_feed_X7 (w := wToks E a1 v1) (fs := fsToks a1 v1) (v := .int (Toks_filled v1)) 1 0 1 rfl q_Toks (by decide) (by decide +kernel) g_Toks_filled dX8_feed_4 ?_
  refine ww_sipush (v := 580) C dX8_feed_7 (by decide) ?_
  refine ww_icmp_le (tgt := 15) C dX8_feed_10 (by decide) (fun c_1 => ?_) (fun c_1 => ?_)
  · replace hf := ifT c_1 hf
    refine ww_aload_n C dX8_feed_15 rfl 0 rfl ?_
    refine ww_get C clOK8 in_X8_feed_X8 (w := wGW E a0 (rf10 h0_0 h0_1 h0_2 h0_3 h0_4 h0_5 h0_6 (a1 0) h0_8 h0_9) v0) (fs := fsGW a0 (rf10 h0_0 h0_1 h0_2 h0_3 h0_4 h0_5 h0_6 (a1 0) h0_8 h0_9) v0) (v := .ref (a1 0)) 0 0 7 rfl q_GW (by decide) (by decide +kernel) g_GW_tokens dX8_feed_16 ?_
    refine ww_iload_n C dX8_feed_19 rfl 1 rfl ?_
    obtain ⟨p20, hp20, hf⟩ := bdE hf
    refine ww_callV C (As := [.int x1]) (st := []) (gr := [wGW E a0 (rf10 h0_0 h0_1 h0_2 h0_3 h0_4 h0_5 h0_6 (a1 0) h0_8 h0_9) v0]) (c_X7_addBytes (E := E) (a0 := a1) hp20) gX8_feed_X7_addBytes rfl yk_X7_addBytes ⟨by decide, Nat.le_of_ble_eq_true rfl⟩ ⟨by decide, by decide⟩ clOK7 0 0 rfl rfl [1] [0] 2 rfl (by decide) rfl rfl (Nat.le_of_ble_eq_true rfl) dX8_feed_20 ?_
    rintro _ _ ⟨rfl, rfl⟩
    refine ww_perm (gs' := [wGW E a0 (rf10 h0_0 h0_1 h0_2 h0_3 h0_4 h0_5 h0_6 (a1 0) h0_8 h0_9) v0, wToks E a1 p20]) [1, 0] 2 rfl (by decide) rfl ?_
    refine ww_aload_n C dX8_feed_23 rfl 0 rfl ?_
    refine ww_get C clOK8 in_X8_feed_X8 (w := wGW E a0 (rf10 h0_0 h0_1 h0_2 h0_3 h0_4 h0_5 h0_6 (a1 0) h0_8 h0_9) v0) (fs := fsGW a0 (rf10 h0_0 h0_1 h0_2 h0_3 h0_4 h0_5 h0_6 (a1 0) h0_8 h0_9) v0) (v := .ref (a1 0)) 0 0 7 rfl q_GW (by decide) (by decide +kernel) g_GW_tokens dX8_feed_24 ?_
    refine ww_iload_n C dX8_feed_27 rfl 2 rfl ?_
    obtain ⟨p28, hp28, hf⟩ := bdE hf
    refine ww_callV C (As := [.int x2]) (st := []) (gr := [wGW E a0 (rf10 h0_0 h0_1 h0_2 h0_3 h0_4 h0_5 h0_6 (a1 0) h0_8 h0_9) v0]) (c_X7_addBytes (E := E) (a0 := a1) hp28) gX8_feed_X7_addBytes rfl yk_X7_addBytes ⟨by decide, Nat.le_of_ble_eq_true rfl⟩ ⟨by decide, by decide⟩ clOK7 0 0 rfl rfl [1] [0] 2 rfl (by decide) rfl rfl (Nat.le_of_ble_eq_true rfl) dX8_feed_28 ?_
    rintro _ _ ⟨rfl, rfl⟩
    refine ww_perm (gs' := [wGW E a0 (rf10 h0_0 h0_1 h0_2 h0_3 h0_4 h0_5 h0_6 (a1 0) h0_8 h0_9) v0, wToks E a1 p28]) [1, 0] 2 rfl (by decide) rfl ?_
    refine ww_aload_n C dX8_feed_31 rfl 0 rfl ?_
    refine ww_get C clOK8 in_X8_feed_X8 (w := wGW E a0 (rf10 h0_0 h0_1 h0_2 h0_3 h0_4 h0_5 h0_6 (a1 0) h0_8 h0_9) v0) (fs := fsGW a0 (rf10 h0_0 h0_1 h0_2 h0_3 h0_4 h0_5 h0_6 (a1 0) h0_8 h0_9) v0) (v := .ref (a1 0)) 0 0 7 rfl q_GW (by decide) (by decide +kernel) g_GW_tokens dX8_feed_32 ?_
    refine ww_iload_n C dX8_feed_35 rfl 3 rfl ?_
    obtain ⟨p36, hp36, hf⟩ := bdE hf
    refine ww_callV C (As := [.int x3]) (st := []) (gr := [wGW E a0 (rf10 h0_0 h0_1 h0_2 h0_3 h0_4 h0_5 h0_6 (a1 0) h0_8 h0_9) v0]) (c_X7_addBytes (E := E) (a0 := a1) hp36) gX8_feed_X7_addBytes rfl yk_X7_addBytes ⟨by decide, Nat.le_of_ble_eq_true rfl⟩ ⟨by decide, by decide⟩ clOK7 0 0 rfl rfl [1] [0] 2 rfl (by decide) rfl rfl (Nat.le_of_ble_eq_true rfl) dX8_feed_36 ?_
    rintro _ _ ⟨rfl, rfl⟩
    refine ww_perm (gs' := [wGW E a0 (rf10 h0_0 h0_1 h0_2 h0_3 h0_4 h0_5 h0_6 (a1 0) h0_8 h0_9) v0, wToks E a1 p36]) [1, 0] 2 rfl (by decide) rfl ?_
    refine ww_aload_n C dX8_feed_39 rfl 0 rfl ?_
    refine ww_get C clOK8 in_X8_feed_X8 (w := wGW E a0 (rf10 h0_0 h0_1 h0_2 h0_3 h0_4 h0_5 h0_6 (a1 0) h0_8 h0_9) v0) (fs := fsGW a0 (rf10 h0_0 h0_1 h0_2 h0_3 h0_4 h0_5 h0_6 (a1 0) h0_8 h0_9) v0) (v := .ref (a1 0)) 0 0 7 rfl q_GW (by decide) (by decide +kernel) g_GW_tokens dX8_feed_40 ?_
    refine ww_iload C dX8_feed_43 4 rfl ?_
    obtain ⟨p45, hp45, hf⟩ := bdE hf
    refine ww_callV C (As := [.int x4]) (st := []) (gr := [wGW E a0 (rf10 h0_0 h0_1 h0_2 h0_3 h0_4 h0_5 h0_6 (a1 0) h0_8 h0_9) v0]) (c_X7_addBytes (E := E) (a0 := a1) hp45) gX8_feed_X7_addBytes rfl yk_X7_addBytes ⟨by decide, Nat.le_of_ble_eq_true rfl⟩ ⟨by decide, by decide⟩ clOK7 0 0 rfl rfl [1] [0] 2 rfl (by decide) rfl rfl (Nat.le_of_ble_eq_true rfl) dX8_feed_45 ?_
    rintro _ _ ⟨rfl, rfl⟩
    refine ww_perm (gs' := [wGW E a0 (rf10 h0_0 h0_1 h0_2 h0_3 h0_4 h0_5 h0_6 (a1 0) h0_8 h0_9) v0, wToks E a1 p45]) [1, 0] 2 rfl (by decide) rfl ?_
    refine ww_aload_n C dX8_feed_48 rfl 0 rfl ?_
    refine ww_get C clOK8 in_X8_feed_X8 (w := wGW E a0 (rf10 h0_0 h0_1 h0_2 h0_3 h0_4 h0_5 h0_6 (a1 0) h0_8 h0_9) v0) (fs := fsGW a0 (rf10 h0_0 h0_1 h0_2 h0_3 h0_4 h0_5 h0_6 (a1 0) h0_8 h0_9) v0) (v := .ref (a1 0)) 0 0 7 rfl q_GW (by decide) (by decide +kernel) g_GW_tokens dX8_feed_49 ?_
    refine ww_iload C dX8_feed_52 5 rfl ?_
    obtain ⟨p54, hp54, hf⟩ := bdE hf
    refine ww_callV C (As := [.int x5]) (st := []) (gr := [wGW E a0 (rf10 h0_0 h0_1 h0_2 h0_3 h0_4 h0_5 h0_6 (a1 0) h0_8 h0_9) v0]) (c_X7_addBytes (E := E) (a0 := a1) hp54) gX8_feed_X7_addBytes rfl yk_X7_addBytes ⟨by decide, Nat.le_of_ble_eq_true rfl⟩ ⟨by decide, by decide⟩ clOK7 0 0 rfl rfl [1] [0] 2 rfl (by decide) rfl rfl (Nat.le_of_ble_eq_true rfl) dX8_feed_54 ?_
    rintro _ _ ⟨rfl, rfl⟩
    refine ww_perm (gs' := [wGW E a0 (rf10 h0_0 h0_1 h0_2 h0_3 h0_4 h0_5 h0_6 (a1 0) h0_8 h0_9) v0, wToks E a1 p54]) [1, 0] 2 rfl (by decide) rfl ?_
    refine ww_aload_n C dX8_feed_57 rfl 0 rfl ?_
    refine ww_get C clOK8 in_X8_feed_X8 (w := wGW E a0 (rf10 h0_0 h0_1 h0_2 h0_3 h0_4 h0_5 h0_6 (a1 0) h0_8 h0_9) v0) (fs := fsGW a0 (rf10 h0_0 h0_1 h0_2 h0_3 h0_4 h0_5 h0_6 (a1 0) h0_8 h0_9) v0) (v := .ref (a1 0)) 0 0 7 rfl q_GW (by decide) (by decide +kernel) g_GW_tokens dX8_feed_58 ?_
    refine ww_get C clOK7 in_X8_feed_X7 (w := wToks E a1 p54) (fs := fsToks a1 p54) (v := .int (Toks_filled p54)) 1 0 1 rfl q_Toks (by decide) (by decide +kernel) g_Toks_filled dX8_feed_61 ?_
    obtain rfl := Option.some.inj hf
    exact ww_iret C ⟨rfl, rfl⟩ dX8_feed_64
  · replace hf := ifF c_1 hf
    refine ww_iconst (v := (-1)) C dX8_feed_13 (by decide) ?_
    obtain rfl := Option.some.inj hf
    exact ww_iret C ⟨rfl, rfl⟩ dX8_feed_14

theorem yk_X8_feed : yX8_feed.cls = RX8 ∧ yX8_feed.cls ≠ "java/lang/invoke/MethodHandle" ∧ yX8_feed.cls ≠ "java/lang/invoke/VarHandle" ∧ (parseMethodDescriptor yX8_feed.desc).map (fun d => d.parameters.length) = some 5 := by decide +kernel
abbrev rmX8_endReading : Room := { frames := 0, cells := 0, slots := 0, locals := 0 }
set_option maxRecDepth 20000 in
theorem in_X8_endReading_X7 : ∀ w ∈ u_ws RX7 TX7 7, w ∈ wsX8_endReading := by decide +kernel
set_option maxRecDepth 20000 in
theorem in_X8_endReading_X8 : ∀ w ∈ u_ws RX8 TX8 14, w ∈ wsX8_endReading := by decide +kernel
set_option maxHeartbeats 4000000 in
set_option maxRecDepth 100000 in
theorem c_X8_endReading {E : Ex} {a0 : Nat → Nat} {a1 : Nat → Nat} {h0_0 h0_1 h0_2 h0_3 h0_4 h0_5 h0_6 h0_8 h0_9 : Nat} {x1 : Int32} {v0 : GWV} {v1 : ToksV} {r : (GWV × ToksV)} (hf : GW_endReading x1 v0 v1 = some r) : Ct E yX8_endReading wsX8_endReading rmX8_endReading [.ref (a0 0), .int x1] [wGW E a0 (rf10 h0_0 h0_1 h0_2 h0_3 h0_4 h0_5 h0_6 (a1 0) h0_8 h0_9) v0, wToks E a1 v1] (fun rv g => rv = none ∧ g = [wGW E a0 (rf10 h0_0 h0_1 h0_2 h0_3 h0_4 h0_5 h0_6 (a1 0) h0_8 h0_9) r.1, wToks E a1 r.2]) := by
  refine ct_of (own := RX8) (by decide +kernel) rfl rfl (Nat.le_of_ble_eq_true rfl) (fun K C => ?_)
  refine ww_sub C (lv' := [(0, .ref (a0 0)), (1, .int x1)]) [0, 1] rfl ?_
  rw [GW_endReading] at hf
  refine ww_aload_n C dX8_endReading_0 rfl 0 rfl ?_
  refine ww_iload_n C dX8_endReading_1 rfl 1 rfl ?_
  refine ww_if_ne (tgt := 9) C dX8_endReading_2 (by decide) (fun c_1 => ?_) (fun c_1 => ?_)
  · replace hf := ifF c_1 hf
    refine ww_aload_n C dX8_endReading_9 rfl 0 rfl ?_
    refine ww_get C clOK8 in_X8_endReading_X8 (w := wGW E a0 (rf10 h0_0 h0_1 h0_2 h0_3 h0_4 h0_5 h0_6 (a1 0) h0_8 h0_9) v0) (fs := fsGW a0 (rf10 h0_0 h0_1 h0_2 h0_3 h0_4 h0_5 h0_6 (a1 0) h0_8 h0_9) v0) (v := .ref (a1 0)) 0 0 7 rfl q_GW (by decide) (by decide +kernel) g_GW_tokens dX8_endReading_10 ?_
    refine ww_get C clOK7 in_X8_endReading_X7 (w := wToks E a1 v1) (fs := fsToks a1 v1) (v := .int (Toks_from v1)) 1 0 2 rfl q_Toks (by decide) (by decide +kernel) g_Toks_from dX8_endReading_13 ?_
    obtain ⟨v0_16, e_v0_16⟩ : ∃ y : GWV, y = GW_set_lastErrorPosition v0 (Toks_from v1) := ⟨_, rfl⟩
    replace hf := ltE e_v0_16 hf
    refine ww_put C clOK8 in_X8_endReading_X8 (w := wGW E a0 (rf10 h0_0 h0_1 h0_2 h0_3 h0_4 h0_5 h0_6 (a1 0) h0_8 h0_9) v0) (fs := fsGW a0 (rf10 h0_0 h0_1 h0_2 h0_3 h0_4 h0_5 h0_6 (a1 0) h0_8 h0_9) v0) (w' := wGW E a0 (rf10 h0_0 h0_1 h0_2 h0_3 h0_4 h0_5 h0_6 (a1 0) h0_8 h0_9) v0_16) (gs' := [wGW E a0 (rf10 h0_0 h0_1 h0_2 h0_3 h0_4 h0_5 h0_6 (a1 0) h0_8 h0_9) v0_16, wToks E a1 v1]) 0 0 12 rfl q_GW (by decide) (by decide +kernel) rfl rfl rfl rfl l_GW (by rw [e_v0_16]; exact p_GW_lastErrorPosition) rfl dX8_endReading_16 ?_
    refine ww_aload_n C dX8_endReading_19 rfl 0 rfl ?_
    refine ww_get C clOK8 in_X8_endReading_X8 (w := wGW E a0 (rf10 h0_0 h0_1 h0_2 h0_3 h0_4 h0_5 h0_6 (a1 0) h0_8 h0_9) v0_16) (fs := fsGW a0 (rf10 h0_0 h0_1 h0_2 h0_3 h0_4 h0_5 h0_6 (a1 0) h0_8 h0_9) v0_16) (v := .ref (a1 0)) 0 0 7 rfl q_GW (by decide) (by decide +kernel) g_GW_tokens dX8_endReading_20 ?_
    refine ww_iconst (v := 0) C dX8_endReading_23 (by decide) ?_
    obtain ⟨v1_24, e_v1_24⟩ : ∃ y : ToksV, y = Toks_set_filled v1 0 := ⟨_, rfl⟩
    replace hf := ltE e_v1_24 hf
    refine ww_put C clOK7 in_X8_endReading_X7 (w := wToks E a1 v1) (fs := fsToks a1 v1) (w' := wToks E a1 v1_24) (gs' := [wGW E a0 (rf10 h0_0 h0_1 h0_2 h0_3 h0_4 h0_5 h0_6 (a1 0) h0_8 h0_9) v0_16, wToks E a1 v1_24]) 1 0 1 rfl q_Toks (by decide) (by decide +kernel) rfl rfl rfl rfl l_Toks (by rw [e_v1_24]; exact p_Toks_filled) rfl dX8_endReading_24 ?_
    obtain rfl := Option.some.inj hf
    exact ww_vret C ⟨rfl, rfl⟩ dX8_endReading_27
  · replace hf := ifT c_1 hf
    refine ww_iconst (v := (-1)) C dX8_endReading_5 (by decide) ?_
    refine ww_goto (tgt := 16) C dX8_endReading_6 (by decide) ?_
    obtain ⟨v0_16, e_v0_16⟩ : ∃ y : GWV, y = GW_set_lastErrorPosition v0 (-1) := ⟨_, rfl⟩
    replace hf := ltE e_v0_16 hf
    refine ww_put C clOK8 in_X8_endReading_X8 (w := wGW E a0 (rf10 h0_0 h0_1 h0_2 h0_3 h0_4 h0_5 h0_6 (a1 0) h0_8 h0_9) v0) (fs := fsGW a0 (rf10 h0_0 h0_1 h0_2 h0_3 h0_4 h0_5 h0_6 (a1 0) h0_8 h0_9) v0) (w' := wGW E a0 (rf10 h0_0 h0_1 h0_2 h0_3 h0_4 h0_5 h0_6 (a1 0) h0_8 h0_9) v0_16) (gs' := [wGW E a0 (rf10 h0_0 h0_1 h0_2 h0_3 h0_4 h0_5 h0_6 (a1 0) h0_8 h0_9) v0_16, wToks E a1 v1]) 0 0 12 rfl q_GW (by decide) (by decide +kernel) rfl rfl rfl rfl l_GW (by rw [e_v0_16]; exact p_GW_lastErrorPosition) rfl dX8_endReading_16 ?_
    refine ww_aload_n C dX8_endReading_19 rfl 0 rfl ?_
    refine ww_get C clOK8 in_X8_endReading_X8 (w := wGW E a0 (rf10 h0_0 h0_1 h0_2 h0_3 h0_4 h0_5 h0_6 (a1 0) h0_8 h0_9) v0_16) (fs := fsGW a0 (rf10 h0_0 h0_1 h0_2 h0_3 h0_4 h0_5 h0_6 (a1 0) h0_8 h0_9) v0_16) (v := .ref (a1 0)) 0 0 7 rfl q_GW (by decide) (by decide +kernel) g_GW_tokens dX8_endReading_20 ?_
    refine ww_iconst (v := 0) C dX8_endReading_23 (by decide) ?_
    obtain ⟨v1_24, e_v1_24⟩ : ∃ y : ToksV, y = Toks_set_filled v1 0 := ⟨_, rfl⟩
    replace hf := ltE e_v1_24 hf
    refine ww_put C clOK7 in_X8_endReading_X7 (w := wToks E a1 v1) (fs := fsToks a1 v1) (w' := wToks E a1 v1_24) (gs' := [wGW E a0 (rf10 h0_0 h0_1 h0_2 h0_3 h0_4 h0_5 h0_6 (a1 0) h0_8 h0_9) v0_16, wToks E a1 v1_24]) 1 0 1 rfl q_Toks (by decide) (by decide +kernel) rfl rfl rfl rfl l_Toks (by rw [e_v1_24]; exact p_Toks_filled) rfl dX8_endReading_24 ?_
    obtain rfl := Option.some.inj hf
    exact ww_vret C ⟨rfl, rfl⟩ dX8_endReading_27

theorem yk_X8_endReading : yX8_endReading.cls = RX8 ∧ yX8_endReading.cls ≠ "java/lang/invoke/MethodHandle" ∧ yX8_endReading.cls ≠ "java/lang/invoke/VarHandle" ∧ (parseMethodDescriptor yX8_endReading.desc).map (fun d => d.parameters.length) = some 1 := by decide +kernel
abbrev rmX8_markPhasesChanged : Room := { frames := 0, cells := 0, slots := 0, locals := 0 }
set_option maxRecDepth 20000 in
theorem in_X8_markPhasesChanged_X2 : ∀ w ∈ u_ws RX2 TX2 19, w ∈ wsX8_markPhasesChanged := by decide +kernel
set_option maxRecDepth 20000 in
theorem in_X8_markPhasesChanged_X8 : ∀ w ∈ u_ws RX8 TX8 14, w ∈ wsX8_markPhasesChanged := by decide +kernel
set_option maxHeartbeats 4000000 in
set_option maxRecDepth 100000 in
theorem c_X8_markPhasesChanged {E : Ex} {a0 : Nat → Nat} {a1 : Nat → Nat} {h0_1 h0_2 h0_3 h0_4 h0_5 h0_6 h0_7 h0_8 h0_9 : Nat} {v0 : GWV} {v1 : HouseV} {r : (GWV × HouseV)} (hf : GW_markPhasesChanged v0 v1 = some r) : Ct E yX8_markPhasesChanged wsX8_markPhasesChanged rmX8_markPhasesChanged [.ref (a0 0)] [wGW E a0 (rf10 (a1 0) h0_1 h0_2 h0_3 h0_4 h0_5 h0_6 h0_7 h0_8 h0_9) v0, wHouse E a1 v1] (fun rv g => rv = none ∧ g = [wGW E a0 (rf10 (a1 0) h0_1 h0_2 h0_3 h0_4 h0_5 h0_6 h0_7 h0_8 h0_9) r.1, wHouse E a1 r.2]) := by
  refine ct_of (own := RX8) (by decide +kernel) rfl rfl (Nat.le_of_ble_eq_true rfl) (fun K C => ?_)
  refine ww_sub C (lv' := [(0, .ref (a0 0))]) [0] rfl ?_
  rw [GW_markPhasesChanged] at hf
  refine ww_aload_n C dX8_markPhasesChanged_0 rfl 0 rfl ?_
  refine ww_dup C dX8_markPhasesChanged_1 rfl ?_
  refine ww_get C clOK8 in_X8_markPhasesChanged_X8 (w := wGW E a0 (rf10 (a1 0) h0_1 h0_2 h0_3 h0_4 h0_5 h0_6 h0_7 h0_8 h0_9) v0) (fs := fsGW a0 (rf10 (a1 0) h0_1 h0_2 h0_3 h0_4 h0_5 h0_6 h0_7 h0_8 h0_9) v0) (v := .int (GW_lastStamp v0)) 0 0 13 rfl q_GW (by decide) (by decide +kernel) g_GW_lastStamp dX8_markPhasesChanged_2 ?_
  refine ww_iconst (v := 1) C dX8_markPhasesChanged_5 (by decide) ?_
  refine ww_iadd C dX8_markPhasesChanged_6 ?_
  obtain ⟨v0_7, e_v0_7⟩ : ∃ y : GWV, y = GW_set_lastStamp v0 ((GW_lastStamp v0) + 1) := ⟨_, rfl⟩
  replace hf := ltE e_v0_7 hf
  refine ww_put C clOK8 in_X8_markPhasesChanged_X8 (w := wGW E a0 (rf10 (a1 0) h0_1 h0_2 h0_3 h0_4 h0_5 h0_6 h0_7 h0_8 h0_9) v0) (fs := fsGW a0 (rf10 (a1 0) h0_1 h0_2 h0_3 h0_4 h0_5 h0_6 h0_7 h0_8 h0_9) v0) (w' := wGW E a0 (rf10 (a1 0) h0_1 h0_2 h0_3 h0_4 h0_5 h0_6 h0_7 h0_8 h0_9) v0_7) (gs' := [wGW E a0 (rf10 (a1 0) h0_1 h0_2 h0_3 h0_4 h0_5 h0_6 h0_7 h0_8 h0_9) v0_7, wHouse E a1 v1]) 0 0 13 rfl q_GW (by decide) (by decide +kernel) rfl rfl rfl rfl l_GW (by rw [e_v0_7]; exact p_GW_lastStamp) rfl dX8_markPhasesChanged_7 ?_
  refine ww_aload_n C dX8_markPhasesChanged_10 rfl 0 rfl ?_
  refine ww_get C clOK8 in_X8_markPhasesChanged_X8 (w := wGW E a0 (rf10 (a1 0) h0_1 h0_2 h0_3 h0_4 h0_5 h0_6 h0_7 h0_8 h0_9) v0_7) (fs := fsGW a0 (rf10 (a1 0) h0_1 h0_2 h0_3 h0_4 h0_5 h0_6 h0_7 h0_8 h0_9) v0_7) (v := .ref (a1 0)) 0 0 0 rfl q_GW (by decide) (by decide +kernel) g_GW_house dX8_markPhasesChanged_11 ?_
  refine ww_aload_n C dX8_markPhasesChanged_14 rfl 0 rfl ?_
  refine ww_get C clOK8 in_X8_markPhasesChanged_X8 (w := wGW E a0 (rf10 (a1 0) h0_1 h0_2 h0_3 h0_4 h0_5 h0_6 h0_7 h0_8 h0_9) v0_7) (fs := fsGW a0 (rf10 (a1 0) h0_1 h0_2 h0_3 h0_4 h0_5 h0_6 h0_7 h0_8 h0_9) v0_7) (v := .int (GW_lastStamp v0_7)) 0 0 13 rfl q_GW (by decide) (by decide +kernel) g_GW_lastStamp dX8_markPhasesChanged_15 ?_
  obtain ⟨v1_18, e_v1_18⟩ : ∃ y : HouseV, y = House_set_phasesStamp v1 (GW_lastStamp v0_7) := ⟨_, rfl⟩
  replace hf := ltE e_v1_18 hf
  refine ww_put C clOK2 in_X8_markPhasesChanged_X2 (w := wHouse E a1 v1) (fs := fsHouse a1 v1) (w' := wHouse E a1 v1_18) (gs' := [wGW E a0 (rf10 (a1 0) h0_1 h0_2 h0_3 h0_4 h0_5 h0_6 h0_7 h0_8 h0_9) v0_7, wHouse E a1 v1_18]) 1 0 6 rfl q_House (by decide) (by decide +kernel) rfl rfl rfl rfl l_House (by rw [e_v1_18]; exact p_House_phasesStamp) rfl dX8_markPhasesChanged_18 ?_
  obtain rfl := Option.some.inj hf
  exact ww_vret C ⟨rfl, rfl⟩ dX8_markPhasesChanged_21

theorem yk_X8_markPhasesChanged : yX8_markPhasesChanged.cls = RX8 ∧ yX8_markPhasesChanged.cls ≠ "java/lang/invoke/MethodHandle" ∧ yX8_markPhasesChanged.cls ≠ "java/lang/invoke/VarHandle" ∧ (parseMethodDescriptor yX8_markPhasesChanged.desc).map (fun d => d.parameters.length) = some 0 := by decide +kernel
abbrev rmX8_markWalksChanged : Room := { frames := 1, cells := 0, slots := 0, locals := 20 }
set_option maxRecDepth 20000 in
theorem in_X8_markWalksChanged_X2 : ∀ w ∈ u_ws RX2 TX2 19, w ∈ wsX8_markWalksChanged := by decide +kernel
set_option maxRecDepth 20000 in
theorem in_X8_markWalksChanged_X8 : ∀ w ∈ u_ws RX8 TX8 14, w ∈ wsX8_markWalksChanged := by decide +kernel
set_option maxHeartbeats 4000000 in
set_option maxRecDepth 100000 in
theorem c_X8_markWalksChanged {E : Ex} {a0 : Nat → Nat} {a1 : Nat → Nat} {h0_1 h0_2 h0_3 h0_4 h0_5 h0_6 h0_7 h0_8 h0_9 : Nat} {v0 : GWV} {v1 : HouseV} {r : (GWV × HouseV)} (hf : GW_markWalksChanged v0 v1 = some r) : Ct E yX8_markWalksChanged wsX8_markWalksChanged rmX8_markWalksChanged [.ref (a0 0)] [wGW E a0 (rf10 (a1 0) h0_1 h0_2 h0_3 h0_4 h0_5 h0_6 h0_7 h0_8 h0_9) v0, wHouse E a1 v1] (fun rv g => rv = none ∧ g = [wGW E a0 (rf10 (a1 0) h0_1 h0_2 h0_3 h0_4 h0_5 h0_6 h0_7 h0_8 h0_9) r.1, wHouse E a1 r.2]) := by
  refine ct_of (own := RX8) (by decide +kernel) rfl rfl (Nat.le_of_ble_eq_true rfl) (fun K C => ?_)
  refine ww_sub C (lv' := [(0, .ref (a0 0))]) [0] rfl ?_
  rw [GW_markWalksChanged] at hf
  refine ww_aload_n C dX8_markWalksChanged_0 rfl 0 rfl ?_
  obtain ⟨p1, hp1, hf⟩ := bdE hf
  refine ww_callV C (As := []) (st := []) (gr := []) (c_X8_markPhasesChanged (E := E) (a0 := a0) (h0_1 := h0_1) (h0_2 := h0_2) (h0_3 := h0_3) (h0_4 := h0_4) (h0_5 := h0_5) (h0_6 := h0_6) (h0_7 := h0_7) (h0_8 := h0_8) (h0_9 := h0_9) (a1 := a1) hp1) gX8_markWalksChanged_X8_markPhasesChanged rfl yk_X8_markPhasesChanged ⟨by decide, Nat.le_of_ble_eq_true rfl⟩ ⟨by decide, by decide⟩ clOK8 0 0 rfl rfl [0, 1] [] 2 rfl (by decide) rfl rfl (Nat.le_of_ble_eq_true rfl) dX8_markWalksChanged_1 ?_
  rintro _ _ ⟨rfl, rfl⟩
  refine ww_perm (gs' := [wGW E a0 (rf10 (a1 0) h0_1 h0_2 h0_3 h0_4 h0_5 h0_6 h0_7 h0_8 h0_9) p1.1, wHouse E a1 p1.2]) [0, 1] 2 rfl (by decide) rfl ?_
  refine ww_aload_n C dX8_markWalksChanged_4 rfl 0 rfl ?_
  refine ww_get C clOK8 in_X8_markWalksChanged_X8 (w := wGW E a0 (rf10 (a1 0) h0_1 h0_2 h0_3 h0_4 h0_5 h0_6 h0_7 h0_8 h0_9) p1.1) (fs := fsGW a0 (rf10 (a1 0) h0_1 h0_2 h0_3 h0_4 h0_5 h0_6 h0_7 h0_8 h0_9) p1.1) (v := .ref (a1 0)) 0 0 0 rfl q_GW (by decide) (by decide +kernel) g_GW_house dX8_markWalksChanged_5 ?_
  refine ww_aload_n C dX8_markWalksChanged_8 rfl 0 rfl ?_
  refine ww_get C clOK8 in_X8_markWalksChanged_X8 (w := wGW E a0 (rf10 (a1 0) h0_1 h0_2 h0_3 h0_4 h0_5 h0_6 h0_7 h0_8 h0_9) p1.1) (fs := fsGW a0 (rf10 (a1 0) h0_1 h0_2 h0_3 h0_4 h0_5 h0_6 h0_7 h0_8 h0_9) p1.1) (v := .int (GW_lastStamp p1.1)) 0 0 13 rfl q_GW (by decide) (by decide +kernel) g_GW_lastStamp dX8_markWalksChanged_9 ?_
  obtain ⟨v1_12, e_v1_12⟩ : ∃ y : HouseV, y = House_set_walksStamp p1.2 (GW_lastStamp p1.1) := ⟨_, rfl⟩
  replace hf := ltE e_v1_12 hf
  refine ww_put C clOK2 in_X8_markWalksChanged_X2 (w := wHouse E a1 p1.2) (fs := fsHouse a1 p1.2) (w' := wHouse E a1 v1_12) (gs' := [wGW E a0 (rf10 (a1 0) h0_1 h0_2 h0_3 h0_4 h0_5 h0_6 h0_7 h0_8 h0_9) p1.1, wHouse E a1 v1_12]) 1 0 5 rfl q_House (by decide) (by decide +kernel) rfl rfl rfl rfl l_House (by rw [e_v1_12]; exact p_House_walksStamp) rfl dX8_markWalksChanged_12 ?_
  obtain rfl := Option.some.inj hf
  exact ww_vret C ⟨rfl, rfl⟩ dX8_markWalksChanged_15

theorem yk_X8_markWalksChanged : yX8_markWalksChanged.cls = RX8 ∧ yX8_markWalksChanged.cls ≠ "java/lang/invoke/MethodHandle" ∧ yX8_markWalksChanged.cls ≠ "java/lang/invoke/VarHandle" ∧ (parseMethodDescriptor yX8_markWalksChanged.desc).map (fun d => d.parameters.length) = some 0 := by decide +kernel
abbrev rmX8_measured : Room := { frames := 4, cells := 0, slots := 0, locals := 89 }
set_option maxRecDepth 20000 in
theorem in_X8_measured_X2 : ∀ w ∈ u_ws RX2 TX2 19, w ∈ wsX8_measured := by decide +kernel
set_option maxRecDepth 20000 in
theorem in_X8_measured_X6 : ∀ w ∈ u_ws RX6 TX6 8, w ∈ wsX8_measured := by decide +kernel
set_option maxRecDepth 20000 in
theorem in_X8_measured_X8 : ∀ w ∈ u_ws RX8 TX8 14, w ∈ wsX8_measured := by decide +kernel
set_option maxHeartbeats 4000000 in
set_option maxRecDepth 100000 in
theorem c_X8_measured {E : Ex} {a0 : Nat → Nat} {a1 : Nat → Nat} {a2 : Nat → Nat} {h0_1 h0_2 h0_4 h0_5 h0_6 h0_7 h0_8 h0_9 : Nat} {v0 : GWV} {v1 : HouseV} {v2 : SightV} {r : SightV} (hf : GW_measured v0 v1 v2 = some r) : Ct E yX8_measured wsX8_measured rmX8_measured [.ref (a0 0)] [wGW E a0 (rf10 (a1 0) h0_1 h0_2 (a2 0) h0_4 h0_5 h0_6 h0_7 h0_8 h0_9) v0, wHouse E a1 v1, wSight E a2 v2] (fun rv g => rv = some (.ref (a2 0)) ∧ g = [wGW E a0 (rf10 (a1 0) h0_1 h0_2 (a2 0) h0_4 h0_5 h0_6 h0_7 h0_8 h0_9) v0, wHouse E a1 v1, wSight E a2 r]) := by
  refine ct_of (own := RX8) (by decide +kernel) rfl rfl (Nat.le_of_ble_eq_true rfl) (fun K C => ?_)
  refine ww_sub C (lv' := [(0, .ref (a0 0))]) [0] rfl ?_
  rw [GW_measured] at hf
  refine ww_aload_n C dX8_measured_0 rfl 0 rfl ?_
  refine ww_get C clOK8 in_X8_measured_X8 (w := wGW E a0 (rf10 (a1 0) h0_1 h0_2 (a2 0) h0_4 h0_5 h0_6 h0_7 h0_8 h0_9) v0) (fs := fsGW a0 (rf10 (a1 0) h0_1 h0_2 (a2 0) h0_4 h0_5 h0_6 h0_7 h0_8 h0_9) v0) (v := .ref (a2 0)) 0 0 3 rfl q_GW (by decide) (by decide +kernel) g_GW_sightings dX8_measured_1 ?_
  refine ww_get C clOK6 in_X8_measured_X6 (w := wSight E a2 v2) (fs := fsSight a2 v2) (v := .int (Sight_stamp v2)) 2 0 7 rfl q_Sight (by decide) (by decide +kernel) g_Sight_stamp dX8_measured_4 ?_
  refine ww_aload_n C dX8_measured_7 rfl 0 rfl ?_
  refine ww_get C clOK8 in_X8_measured_X8 (w := wGW E a0 (rf10 (a1 0) h0_1 h0_2 (a2 0) h0_4 h0_5 h0_6 h0_7 h0_8 h0_9) v0) (fs := fsGW a0 (rf10 (a1 0) h0_1 h0_2 (a2 0) h0_4 h0_5 h0_6 h0_7 h0_8 h0_9) v0) (v := .ref (a1 0)) 0 0 0 rfl q_GW (by decide) (by decide +kernel) g_GW_house dX8_measured_8 ?_
  refine ww_get C clOK2 in_X8_measured_X2 (w := wHouse E a1 v1) (fs := fsHouse a1 v1) (v := .int (House_phasesStamp v1)) 1 0 6 rfl q_House (by decide) (by decide +kernel) g_House_phasesStamp dX8_measured_11 ?_
  refine ww_icmp_eq (tgt := 28) C dX8_measured_14 (by decide) (fun c_1 => ?_) (fun c_1 => ?_)
  · replace hf := ifT c_1 hf
    refine ww_aload_n C dX8_measured_28 rfl 0 rfl ?_
    refine ww_get C clOK8 in_X8_measured_X8 (w := wGW E a0 (rf10 (a1 0) h0_1 h0_2 (a2 0) h0_4 h0_5 h0_6 h0_7 h0_8 h0_9) v0) (fs := fsGW a0 (rf10 (a1 0) h0_1 h0_2 (a2 0) h0_4 h0_5 h0_6 h0_7 h0_8 h0_9) v0) (v := .ref (a2 0)) 0 0 3 rfl q_GW (by decide) (by decide +kernel) g_GW_sightings dX8_measured_29 ?_
    obtain rfl := Option.some.inj hf
    exact ww_aret C (Or.inl ⟨_, rfl⟩) ⟨rfl, rfl⟩ dX8_measured_32
  · replace hf := ifF c_1 hf
    refine ww_aload_n C dX8_measured_17 rfl 0 rfl ?_
    refine ww_get C clOK8 in_X8_measured_X8 (w := wGW E a0 (rf10 (a1 0) h0_1 h0_2 (a2 0) h0_4 h0_5 h0_6 h0_7 h0_8 h0_9) v0) (fs := fsGW a0 (rf10 (a1 0) h0_1 h0_2 (a2 0) h0_4 h0_5 h0_6 h0_7 h0_8 h0_9) v0) (v := .ref (a2 0)) 0 0 3 rfl q_GW (by decide) (by decide +kernel) g_GW_sightings dX8_measured_18 ?_
    refine ww_aload_n C dX8_measured_21 rfl 0 rfl ?_
    refine ww_get C clOK8 in_X8_measured_X8 (w := wGW E a0 (rf10 (a1 0) h0_1 h0_2 (a2 0) h0_4 h0_5 h0_6 h0_7 h0_8 h0_9) v0) (fs := fsGW a0 (rf10 (a1 0) h0_1 h0_2 (a2 0) h0_4 h0_5 h0_6 h0_7 h0_8 h0_9) v0) (v := .ref (a1 0)) 0 0 0 rfl q_GW (by decide) (by decide +kernel) g_GW_house dX8_measured_22 ?_
    obtain ⟨p25, hp25, hf⟩ := bdE hf
    refine ww_callV C (As := [.ref (a1 0)]) (st := []) (gr := [wGW E a0 (rf10 (a1 0) h0_1 h0_2 (a2 0) h0_4 h0_5 h0_6 h0_7 h0_8 h0_9) v0]) (c_X6_measure (E := E) (a0 := a2) (a1 := a1) hp25) gX8_measured_X6_measure rfl yk_X6_measure ⟨by decide, Nat.le_of_ble_eq_true rfl⟩ ⟨by decide, by decide⟩ clOK6 0 0 rfl rfl [2, 1] [0] 3 rfl (by decide) rfl rfl (Nat.le_of_ble_eq_true rfl) dX8_measured_25 ?_
    rintro _ _ ⟨rfl, rfl⟩
    refine ww_perm (gs' := [wGW E a0 (rf10 (a1 0) h0_1 h0_2 (a2 0) h0_4 h0_5 h0_6 h0_7 h0_8 h0_9) v0, wHouse E a1 v1, wSight E a2 p25]) [2, 1, 0] 3 rfl (by decide) rfl ?_
    refine ww_aload_n C dX8_measured_28 rfl 0 rfl ?_
    refine ww_get C clOK8 in_X8_measured_X8 (w := wGW E a0 (rf10 (a1 0) h0_1 h0_2 (a2 0) h0_4 h0_5 h0_6 h0_7 h0_8 h0_9) v0) (fs := fsGW a0 (rf10 (a1 0) h0_1 h0_2 (a2 0) h0_4 h0_5 h0_6 h0_7 h0_8 h0_9) v0) (v := .ref (a2 0)) 0 0 3 rfl q_GW (by decide) (by decide +kernel) g_GW_sightings dX8_measured_29 ?_
    obtain rfl := Option.some.inj hf
    exact ww_aret C (Or.inl ⟨_, rfl⟩) ⟨rfl, rfl⟩ dX8_measured_32

theorem yk_X8_measured : yX8_measured.cls = RX8 ∧ yX8_measured.cls ≠ "java/lang/invoke/MethodHandle" ∧ yX8_measured.cls ≠ "java/lang/invoke/VarHandle" ∧ (parseMethodDescriptor yX8_measured.desc).map (fun d => d.parameters.length) = some 0 := by decide +kernel
abbrev rmX8_best : Room := { frames := 6, cells := 0, slots := 0, locals := 143 }
set_option maxRecDepth 20000 in
theorem in_X8_best_X0 : ∀ w ∈ u_ws RX0 TX0 7, w ∈ wsX8_best := by decide +kernel
set_option maxRecDepth 20000 in
theorem in_X8_best_X2 : ∀ w ∈ u_ws RX2 TX2 19, w ∈ wsX8_best := by decide +kernel
set_option maxRecDepth 20000 in
theorem in_X8_best_X8 : ∀ w ∈ u_ws RX8 TX8 14, w ∈ wsX8_best := by decide +kernel
set_option maxHeartbeats 4000000 in
set_option maxRecDepth 100000 in
theorem c_X8_best {E : Ex} {a0 : Nat → Nat} {a1 : Nat → Nat} {a2 : Nat → Nat} {a3 : Nat → Nat} {a4 : Nat → Nat} {h0_1 h0_2 h0_3 h0_4 h0_6 h0_7 h0_8 h0_9 : Nat} {v0 : GWV} {v1 : HouseV} {v2 : BestV} {v3 : HouseV} {v4 : SightV} {r : (BestV × HouseV × SightV)} (hf : GW_best v0 v1 v2 v3 v4 = some r) : Ct E yX8_best wsX8_best rmX8_best [.ref (a0 0)] [wGW E a0 (rf10 (a1 0) h0_1 h0_2 h0_3 h0_4 (a2 0) h0_6 h0_7 h0_8 h0_9) v0, wHouse E a1 v1, wBest E a2 (rf2 (a3 0) (a4 0)) v2, wHouse E a3 v3, wSight E a4 v4] (fun rv g => rv = some (.ref (a2 0)) ∧ g = [wGW E a0 (rf10 (a1 0) h0_1 h0_2 h0_3 h0_4 (a2 0) h0_6 h0_7 h0_8 h0_9) v0, wHouse E a1 v1, wBest E a2 (rf2 (a3 0) (a4 0)) r.1, wHouse E a3 r.2.1, wSight E a4 r.2.2]) := by
  refine ct_of (own := RX8) (by decide +kernel) rfl rfl (Nat.le_of_ble_eq_true rfl) (fun K C => ?_)
  refine ww_sub C (lv' := [(0, .ref (a0 0))]) [0] rfl ?_
  rw [GW_best] at hf
  refine ww_aload_n C dX8_best_0 rfl 0 rfl ?_
  refine ww_get C clOK8 in_X8_best_X8 (w := wGW E a0 (rf10 (a1 0) h0_1 h0_2 h0_3 h0_4 (a2 0) h0_6 h0_7 h0_8 h0_9) v0) (fs := fsGW a0 (rf10 (a1 0) h0_1 h0_2 h0_3 h0_4 (a2 0) h0_6 h0_7 h0_8 h0_9) v0) (v := .ref (a2 0)) 0 0 5 rfl q_GW (by decide) (by decide +kernel) g_GW_bestPhases dX8_best_1 ?_
  refine ww_get C clOK0 in_X8_best_X0 (w := wBest E a2 (rf2 (a3 0) (a4 0)) v2) (fs := fsBest a2 (rf2 (a3 0) (a4 0)) v2) (v := .int (Best_stamp v2)) 2 0 3 rfl q_Best (by decide) (by decide +kernel) g_Best_stamp dX8_best_4 ?_
  refine ww_aload_n C dX8_best_7 rfl 0 rfl ?_
  refine ww_get C clOK8 in_X8_best_X8 (w := wGW E a0 (rf10 (a1 0) h0_1 h0_2 h0_3 h0_4 (a2 0) h0_6 h0_7 h0_8 h0_9) v0) (fs := fsGW a0 (rf10 (a1 0) h0_1 h0_2 h0_3 h0_4 (a2 0) h0_6 h0_7 h0_8 h0_9) v0) (v := .ref (a1 0)) 0 0 0 rfl q_GW (by decide) (by decide +kernel) g_GW_house dX8_best_8 ?_
  refine ww_get C clOK2 in_X8_best_X2 (w := wHouse E a1 v1) (fs := fsHouse a1 v1) (v := .int (House_walksStamp v1)) 1 0 5 rfl q_House (by decide) (by decide +kernel) g_House_walksStamp dX8_best_11 ?_
  refine ww_icmp_eq (tgt := 28) C dX8_best_14 (by decide) (fun c_1 => ?_) (fun c_1 => ?_)
  · replace hf := ifT c_1 hf
    refine ww_aload_n C dX8_best_28 rfl 0 rfl ?_
    refine ww_get C clOK8 in_X8_best_X8 (w := wGW E a0 (rf10 (a1 0) h0_1 h0_2 h0_3 h0_4 (a2 0) h0_6 h0_7 h0_8 h0_9) v0) (fs := fsGW a0 (rf10 (a1 0) h0_1 h0_2 h0_3 h0_4 (a2 0) h0_6 h0_7 h0_8 h0_9) v0) (v := .ref (a2 0)) 0 0 5 rfl q_GW (by decide) (by decide +kernel) g_GW_bestPhases dX8_best_29 ?_
    obtain rfl := Option.some.inj hf
    exact ww_aret C (Or.inl ⟨_, rfl⟩) ⟨rfl, rfl⟩ dX8_best_32
  · replace hf := ifF c_1 hf
    refine ww_aload_n C dX8_best_17 rfl 0 rfl ?_
    refine ww_get C clOK8 in_X8_best_X8 (w := wGW E a0 (rf10 (a1 0) h0_1 h0_2 h0_3 h0_4 (a2 0) h0_6 h0_7 h0_8 h0_9) v0) (fs := fsGW a0 (rf10 (a1 0) h0_1 h0_2 h0_3 h0_4 (a2 0) h0_6 h0_7 h0_8 h0_9) v0) (v := .ref (a2 0)) 0 0 5 rfl q_GW (by decide) (by decide +kernel) g_GW_bestPhases dX8_best_18 ?_
    refine ww_aload_n C dX8_best_21 rfl 0 rfl ?_
    refine ww_get C clOK8 in_X8_best_X8 (w := wGW E a0 (rf10 (a1 0) h0_1 h0_2 h0_3 h0_4 (a2 0) h0_6 h0_7 h0_8 h0_9) v0) (fs := fsGW a0 (rf10 (a1 0) h0_1 h0_2 h0_3 h0_4 (a2 0) h0_6 h0_7 h0_8 h0_9) v0) (v := .ref (a1 0)) 0 0 0 rfl q_GW (by decide) (by decide +kernel) g_GW_house dX8_best_22 ?_
    obtain ⟨p25, hp25, hf⟩ := bdE hf
    refine ww_callV C (As := [.ref (a1 0)]) (st := []) (gr := [wGW E a0 (rf10 (a1 0) h0_1 h0_2 h0_3 h0_4 (a2 0) h0_6 h0_7 h0_8 h0_9) v0]) (c_X0_search (E := E) (a0 := a2) (a1 := a3) (a2 := a4) (a3 := a1) hp25) gX8_best_X0_search rfl yk_X0_search ⟨by decide, Nat.le_of_ble_eq_true rfl⟩ ⟨by decide, by decide⟩ clOK0 0 0 rfl rfl [2, 3, 4, 1] [0] 5 rfl (by decide) rfl rfl (Nat.le_of_ble_eq_true rfl) dX8_best_25 ?_
    rintro _ _ ⟨rfl, rfl⟩
    refine ww_perm (gs' := [wGW E a0 (rf10 (a1 0) h0_1 h0_2 h0_3 h0_4 (a2 0) h0_6 h0_7 h0_8 h0_9) v0, wHouse E a1 v1, wBest E a2 (rf2 (a3 0) (a4 0)) p25.1, wHouse E a3 p25.2.1, wSight E a4 p25.2.2]) [4, 3, 0, 1, 2] 5 rfl (by decide) rfl ?_
    refine ww_aload_n C dX8_best_28 rfl 0 rfl ?_
    refine ww_get C clOK8 in_X8_best_X8 (w := wGW E a0 (rf10 (a1 0) h0_1 h0_2 h0_3 h0_4 (a2 0) h0_6 h0_7 h0_8 h0_9) v0) (fs := fsGW a0 (rf10 (a1 0) h0_1 h0_2 h0_3 h0_4 (a2 0) h0_6 h0_7 h0_8 h0_9) v0) (v := .ref (a2 0)) 0 0 5 rfl q_GW (by decide) (by decide +kernel) g_GW_bestPhases dX8_best_29 ?_
    obtain rfl := Option.some.inj hf
    exact ww_aret C (Or.inl ⟨_, rfl⟩) ⟨rfl, rfl⟩ dX8_best_32

theorem yk_X8_best : yX8_best.cls = RX8 ∧ yX8_best.cls ≠ "java/lang/invoke/MethodHandle" ∧ yX8_best.cls ≠ "java/lang/invoke/VarHandle" ∧ (parseMethodDescriptor yX8_best.desc).map (fun d => d.parameters.length) = some 0 := by decide +kernel
abbrev rmX8_load : Room := { frames := 11, cells := 0, slots := 0, locals := 338 }
set_option maxRecDepth 20000 in
theorem in_X8_load_X2 : ∀ w ∈ u_ws RX2 TX2 19, w ∈ wsX8_load := by decide +kernel
set_option maxRecDepth 20000 in
theorem in_X8_load_X7 : ∀ w ∈ u_ws RX7 TX7 7, w ∈ wsX8_load := by decide +kernel
set_option maxRecDepth 20000 in
theorem in_X8_load_X8 : ∀ w ∈ u_ws RX8 TX8 14, w ∈ wsX8_load := by decide +kernel
set_option maxHeartbeats 4000000 in
set_option maxRecDepth 100000 in
theorem c_X8_load {E : Ex} {a0 : Nat → Nat} {a1 : Nat → Nat} {a2 : Nat → Nat} {a3 : Nat → Nat} {a4 : Nat → Nat} {a5 : Nat → Nat} {h0_3 h0_4 h0_5 h0_6 h0_9 h3_0 h3_1 : Nat} {x1 : Int32} {v0 : GWV} {v1 : HouseV} {v2 : HouseV} {v3 : HistV} {v4 : ToksV} {r : (Int32 × GWV × HouseV × HouseV × HistV × ToksV)} (hf : GW_load x1 v0 v1 v2 v3 v4 = some r) : Ct E yX8_load wsX8_load rmX8_load [.ref (a0 0), .int x1] [wGW E a0 (rf10 (a1 0) (a2 0) (a3 0) h0_3 h0_4 h0_5 h0_6 (a4 0) (a5 0) h0_9) v0, wHouse E a1 v1, wHouse E a2 v2, wHist E a3 (rf2 h3_0 h3_1) v3, wToks E a4 v4, wHRead E a5 (rf1 (a4 0))] (fun rv g => rv = some (.int r.1) ∧ g = [wGW E a0 (rf10 (a1 0) (a2 0) (a3 0) h0_3 h0_4 h0_5 h0_6 (a4 0) (a5 0) h0_9) r.2.1, wHouse E a1 r.2.2.1, wHouse E a2 r.2.2.2.1, wHist E a3 (rf2 h3_0 h3_1) r.2.2.2.2.1, wToks E a4 r.2.2.2.2.2, wHRead E a5 (rf1 (a4 0))]) := by
  refine ct_of (own := RX8) (by decide +kernel) rfl rfl (Nat.le_of_ble_eq_true rfl) (fun K C => ?_)
  refine ww_sub C (lv' := [(0, .ref (a0 0)), (1, .int x1)]) [0, 1] rfl ?_
  rw [GW_load] at hf
  refine ww_iload_n C dX8_load_0 rfl 1 rfl ?_
  refine ww_iconst (v := 0) C dX8_load_1 (by decide) ?_
  refine ww_aload_n C dX8_load_2 rfl 0 rfl ?_
  refine ww_get C clOK8 in_X8_load_X8 (w := wGW E a0 (rf10 (a1 0) (a2 0) (a3 0) h0_3 h0_4 h0_5 h0_6 (a4 0) (a5 0) h0_9) v0) (fs := fsGW a0 (rf10 (a1 0) (a2 0) (a3 0) h0_3 h0_4 h0_5 h0_6 (a4 0) (a5 0) h0_9) v0) (v := .ref (a4 0)) 0 0 7 rfl q_GW (by decide) (by decide +kernel) g_GW_tokens dX8_load_3 ?_
  refine ww_get C clOK7 in_X8_load_X7 (w := wToks E a4 v4) (fs := fsToks a4 v4) (v := .int (Toks_filled v4)) 4 0 1 rfl q_Toks (by decide) (by decide +kernel) g_Toks_filled dX8_load_6 ?_
  obtain ⟨p9, hp9, hf⟩ := bdE hf
  refine ww_callS C (As := [.int x1, .int 0, .int (Toks_filled v4)]) (st := []) (gr := [wGW E a0 (rf10 (a1 0) (a2 0) (a3 0) h0_3 h0_4 h0_5 h0_6 (a4 0) (a5 0) h0_9) v0, wHouse E a1 v1, wHouse E a2 v2, wHist E a3 (rf2 h3_0 h3_1) v3, wToks E a4 v4, wHRead E a5 (rf1 (a4 0))]) (c_X8_needRange (E := E)  hp9) gX8_load_X8_needRange rfl ysk_X8_needRange ⟨by decide, Nat.le_of_ble_eq_true rfl⟩ ⟨by decide, by decide⟩ [] [0, 1, 2, 3, 4, 5] 6 rfl (by decide) rfl rfl (Nat.le_of_ble_eq_true rfl) dX8_load_9 ?_
  rintro _ _ ⟨rfl, rfl⟩
  refine ww_perm (gs' := [wGW E a0 (rf10 (a1 0) (a2 0) (a3 0) h0_3 h0_4 h0_5 h0_6 (a4 0) (a5 0) h0_9) v0, wHouse E a1 v1, wHouse E a2 v2, wHist E a3 (rf2 h3_0 h3_1) v3, wToks E a4 v4, wHRead E a5 (rf1 (a4 0))]) [0, 1, 2, 3, 4, 5] 6 rfl (by decide) rfl ?_
  refine ww_aload_n C dX8_load_12 rfl 0 rfl ?_
  refine ww_get C clOK8 in_X8_load_X8 (w := wGW E a0 (rf10 (a1 0) (a2 0) (a3 0) h0_3 h0_4 h0_5 h0_6 (a4 0) (a5 0) h0_9) v0) (fs := fsGW a0 (rf10 (a1 0) (a2 0) (a3 0) h0_3 h0_4 h0_5 h0_6 (a4 0) (a5 0) h0_9) v0) (v := .ref (a4 0)) 0 0 7 rfl q_GW (by decide) (by decide +kernel) g_GW_tokens dX8_load_13 ?_
  refine ww_iload_n C dX8_load_16 rfl 1 rfl ?_
  obtain ⟨p17, hp17, hf⟩ := bdE hf
  refine ww_callV C (As := [.int x1]) (st := []) (gr := [wGW E a0 (rf10 (a1 0) (a2 0) (a3 0) h0_3 h0_4 h0_5 h0_6 (a4 0) (a5 0) h0_9) v0, wHouse E a1 v1, wHouse E a2 v2, wHist E a3 (rf2 h3_0 h3_1) v3, wHRead E a5 (rf1 (a4 0))]) (c_X7_begin (E := E) (a0 := a4) hp17) gX8_load_X7_begin rfl yk_X7_begin ⟨by decide, Nat.le_of_ble_eq_true rfl⟩ ⟨by decide, by decide⟩ clOK7 0 0 rfl rfl [4] [0, 1, 2, 3, 5] 6 rfl (by decide) rfl rfl (Nat.le_of_ble_eq_true rfl) dX8_load_17 ?_
  rintro _ _ ⟨rfl, rfl⟩
  refine ww_perm (gs' := [wGW E a0 (rf10 (a1 0) (a2 0) (a3 0) h0_3 h0_4 h0_5 h0_6 (a4 0) (a5 0) h0_9) v0, wHouse E a1 v1, wHouse E a2 v2, wHist E a3 (rf2 h3_0 h3_1) v3, wToks E a4 p17, wHRead E a5 (rf1 (a4 0))]) [1, 2, 3, 4, 0, 5] 6 rfl (by decide) rfl ?_
  refine ww_aload_n C dX8_load_20 rfl 0 rfl ?_
  refine ww_get C clOK8 in_X8_load_X8 (w := wGW E a0 (rf10 (a1 0) (a2 0) (a3 0) h0_3 h0_4 h0_5 h0_6 (a4 0) (a5 0) h0_9) v0) (fs := fsGW a0 (rf10 (a1 0) (a2 0) (a3 0) h0_3 h0_4 h0_5 h0_6 (a4 0) (a5 0) h0_9) v0) (v := .ref (a5 0)) 0 0 8 rfl q_GW (by decide) (by decide +kernel) g_GW_houseReader dX8_load_21 ?_
  refine ww_aload_n C dX8_load_24 rfl 0 rfl ?_
  refine ww_get C clOK8 in_X8_load_X8 (w := wGW E a0 (rf10 (a1 0) (a2 0) (a3 0) h0_3 h0_4 h0_5 h0_6 (a4 0) (a5 0) h0_9) v0) (fs := fsGW a0 (rf10 (a1 0) (a2 0) (a3 0) h0_3 h0_4 h0_5 h0_6 (a4 0) (a5 0) h0_9) v0) (v := .ref (a2 0)) 0 0 1 rfl q_GW (by decide) (by decide +kernel) g_GW_scratch dX8_load_25 ?_
  obtain ⟨p28, hp28, hf⟩ := bdE hf
  refine ww_callV C (As := [.ref (a2 0)]) (st := []) (gr := [wGW E a0 (rf10 (a1 0) (a2 0) (a3 0) h0_3 h0_4 h0_5 h0_6 (a4 0) (a5 0) h0_9) v0, wHouse E a1 v1, wHist E a3 (rf2 h3_0 h3_1) v3]) (c_X3_readHouse (E := E) (a0 := a5) (a1 := a4) (a2 := a2) hp28) gX8_load_X3_readHouse rfl yk_X3_readHouse ⟨by decide, Nat.le_of_ble_eq_true rfl⟩ ⟨by decide, by decide⟩ clOK3 0 0 rfl rfl [5, 4, 2] [0, 1, 3] 6 rfl (by decide) rfl rfl (Nat.le_of_ble_eq_true rfl) dX8_load_28 ?_
  rintro _ _ ⟨rfl, rfl⟩
  refine ww_perm (gs' := [wGW E a0 (rf10 (a1 0) (a2 0) (a3 0) h0_3 h0_4 h0_5 h0_6 (a4 0) (a5 0) h0_9) v0, wHouse E a1 v1, wHouse E a2 p28.2.2, wHist E a3 (rf2 h3_0 h3_1) v3, wToks E a4 p28.2.1, wHRead E a5 (rf1 (a4 0))]) [3, 4, 2, 5, 1, 0] 6 rfl (by decide) rfl ?_
  refine ww_istore_n (lv' := [(2, .int p28.1), (0, .ref (a0 0)), (1, .int x1)]) C dX8_load_31 rfl (by decide) rfl ?_
  refine ww_aload_n C dX8_load_32 rfl 1 rfl ?_
  refine ww_iload_n C dX8_load_33 rfl 0 rfl ?_
  obtain ⟨p34, hp34, hf⟩ := bdE hf
  refine ww_callV C (As := [.int p28.1]) (st := []) (gr := [wHouse E a1 v1, wHouse E a2 p28.2.2, wHist E a3 (rf2 h3_0 h3_1) v3, wHRead E a5 (rf1 (a4 0))]) (c_X8_endReading (E := E) (a0 := a0) (h0_0 := a1 0) (h0_1 := a2 0) (h0_2 := a3 0) (h0_3 := h0_3) (h0_4 := h0_4) (h0_5 := h0_5) (h0_6 := h0_6) (h0_8 := a5 0) (h0_9 := h0_9) (a1 := a4) hp34) gX8_load_X8_endReading rfl yk_X8_endReading ⟨by decide, Nat.le_of_ble_eq_true rfl⟩ ⟨by decide, by decide⟩ clOK8 0 0 rfl rfl [0, 4] [1, 2, 3, 5] 6 rfl (by decide) rfl rfl (Nat.le_of_ble_eq_true rfl) dX8_load_34 ?_
  rintro _ _ ⟨rfl, rfl⟩
  refine ww_perm (gs' := [wGW E a0 (rf10 (a1 0) (a2 0) (a3 0) h0_3 h0_4 h0_5 h0_6 (a4 0) (a5 0) h0_9) p34.1, wHouse E a1 v1, wHouse E a2 p28.2.2, wHist E a3 (rf2 h3_0 h3_1) v3, wToks E a4 p34.2, wHRead E a5 (rf1 (a4 0))]) [0, 2, 3, 4, 1, 5] 6 rfl (by decide) rfl ?_
  refine ww_iload_n C dX8_load_37 rfl 0 rfl ?_
  refine ww_if_eq (tgt := 46) C dX8_load_38 (by decide) (fun c_1 => ?_) (fun c_1 => ?_)
  · replace hf := ifT c_1 hf
    refine ww_aload_n C dX8_load_46 rfl 1 rfl ?_
    refine ww_get C clOK8 in_X8_load_X8 (w := wGW E a0 (rf10 (a1 0) (a2 0) (a3 0) h0_3 h0_4 h0_5 h0_6 (a4 0) (a5 0) h0_9) p34.1) (fs := fsGW a0 (rf10 (a1 0) (a2 0) (a3 0) h0_3 h0_4 h0_5 h0_6 (a4 0) (a5 0) h0_9) p34.1) (v := .ref (a1 0)) 0 0 0 rfl q_GW (by decide) (by decide +kernel) g_GW_house dX8_load_47 ?_
    refine ww_aload_n C dX8_load_50 rfl 1 rfl ?_
    refine ww_get C clOK8 in_X8_load_X8 (w := wGW E a0 (rf10 (a1 0) (a2 0) (a3 0) h0_3 h0_4 h0_5 h0_6 (a4 0) (a5 0) h0_9) p34.1) (fs := fsGW a0 (rf10 (a1 0) (a2 0) (a3 0) h0_3 h0_4 h0_5 h0_6 (a4 0) (a5 0) h0_9) p34.1) (v := .ref (a2 0)) 0 0 1 rfl q_GW (by decide) (by decide +kernel) g_GW_scratch dX8_load_51 ?_
    obtain ⟨p54, hp54, hf⟩ := bdE hf
    refine ww_callV C (As := [.ref (a2 0)]) (st := []) (gr := [wGW E a0 (rf10 (a1 0) (a2 0) (a3 0) h0_3 h0_4 h0_5 h0_6 (a4 0) (a5 0) h0_9) p34.1, wHist E a3 (rf2 h3_0 h3_1) v3, wToks E a4 p34.2, wHRead E a5 (rf1 (a4 0))]) (c_X2_copyFrom (E := E) (a0 := a1) (a1 := a2) hp54) gX8_load_X2_copyFrom rfl yk_X2_copyFrom ⟨by decide, Nat.le_of_ble_eq_true rfl⟩ ⟨by decide, by decide⟩ clOK2 0 0 rfl rfl [1, 2] [0, 3, 4, 5] 6 rfl (by decide) rfl rfl (Nat.le_of_ble_eq_true rfl) dX8_load_54 ?_
    rintro _ _ ⟨rfl, rfl⟩
    refine ww_perm (gs' := [wGW E a0 (rf10 (a1 0) (a2 0) (a3 0) h0_3 h0_4 h0_5 h0_6 (a4 0) (a5 0) h0_9) p34.1, wHouse E a1 p54, wHouse E a2 p28.2.2, wHist E a3 (rf2 h3_0 h3_1) v3, wToks E a4 p34.2, wHRead E a5 (rf1 (a4 0))]) [2, 0, 1, 3, 4, 5] 6 rfl (by decide) rfl ?_
    refine ww_aload_n C dX8_load_57 rfl 1 rfl ?_
    obtain ⟨p58, hp58, hf⟩ := bdE hf
    refine ww_callV C (As := []) (st := []) (gr := [wHouse E a2 p28.2.2, wHist E a3 (rf2 h3_0 h3_1) v3, wToks E a4 p34.2, wHRead E a5 (rf1 (a4 0))]) (c_X8_markWalksChanged (E := E) (a0 := a0) (h0_1 := a2 0) (h0_2 := a3 0) (h0_3 := h0_3) (h0_4 := h0_4) (h0_5 := h0_5) (h0_6 := h0_6) (h0_7 := a4 0) (h0_8 := a5 0) (h0_9 := h0_9) (a1 := a1) hp58) gX8_load_X8_markWalksChanged rfl yk_X8_markWalksChanged ⟨by decide, Nat.le_of_ble_eq_true rfl⟩ ⟨by decide, by decide⟩ clOK8 0 0 rfl rfl [0, 1] [2, 3, 4, 5] 6 rfl (by decide) rfl rfl (Nat.le_of_ble_eq_true rfl) dX8_load_58 ?_
    rintro _ _ ⟨rfl, rfl⟩
    refine ww_perm (gs' := [wGW E a0 (rf10 (a1 0) (a2 0) (a3 0) h0_3 h0_4 h0_5 h0_6 (a4 0) (a5 0) h0_9) p58.1, wHouse E a1 p58.2, wHouse E a2 p28.2.2, wHist E a3 (rf2 h3_0 h3_1) v3, wToks E a4 p34.2, wHRead E a5 (rf1 (a4 0))]) [0, 1, 2, 3, 4, 5] 6 rfl (by decide) rfl ?_
    refine ww_aload_n C dX8_load_61 rfl 1 rfl ?_
    refine ww_get C clOK8 in_X8_load_X8 (w := wGW E a0 (rf10 (a1 0) (a2 0) (a3 0) h0_3 h0_4 h0_5 h0_6 (a4 0) (a5 0) h0_9) p58.1) (fs := fsGW a0 (rf10 (a1 0) (a2 0) (a3 0) h0_3 h0_4 h0_5 h0_6 (a4 0) (a5 0) h0_9) p58.1) (v := .ref (a3 0)) 0 0 2 rfl q_GW (by decide) (by decide +kernel) g_GW_history dX8_load_62 ?_
    obtain ⟨p65, hp65, hf⟩ := bdE hf
    refine ww_callV C (As := []) (st := []) (gr := [wGW E a0 (rf10 (a1 0) (a2 0) (a3 0) h0_3 h0_4 h0_5 h0_6 (a4 0) (a5 0) h0_9) p58.1, wHouse E a1 p58.2, wHouse E a2 p28.2.2, wToks E a4 p34.2, wHRead E a5 (rf1 (a4 0))]) (c_X1_forget (E := E) (a0 := a3) (h0_0 := h3_0) (h0_1 := h3_1) hp65) gX8_load_X1_forget rfl yk_X1_forget ⟨by decide, Nat.le_of_ble_eq_true rfl⟩ ⟨by decide, by decide⟩ clOK1 0 0 rfl rfl [3] [0, 1, 2, 4, 5] 6 rfl (by decide) rfl rfl (Nat.le_of_ble_eq_true rfl) dX8_load_65 ?_
    rintro _ _ ⟨rfl, rfl⟩
    refine ww_perm (gs' := [wGW E a0 (rf10 (a1 0) (a2 0) (a3 0) h0_3 h0_4 h0_5 h0_6 (a4 0) (a5 0) h0_9) p58.1, wHouse E a1 p58.2, wHouse E a2 p28.2.2, wHist E a3 (rf2 h3_0 h3_1) p65, wToks E a4 p34.2, wHRead E a5 (rf1 (a4 0))]) [1, 2, 3, 0, 4, 5] 6 rfl (by decide) rfl ?_
    refine ww_aload_n C dX8_load_68 rfl 1 rfl ?_
    refine ww_get C clOK8 in_X8_load_X8 (w := wGW E a0 (rf10 (a1 0) (a2 0) (a3 0) h0_3 h0_4 h0_5 h0_6 (a4 0) (a5 0) h0_9) p58.1) (fs := fsGW a0 (rf10 (a1 0) (a2 0) (a3 0) h0_3 h0_4 h0_5 h0_6 (a4 0) (a5 0) h0_9) p58.1) (v := .ref (a1 0)) 0 0 0 rfl q_GW (by decide) (by decide +kernel) g_GW_house dX8_load_69 ?_
    refine ww_get C clOK2 in_X8_load_X2 (w := wHouse E a1 p58.2) (fs := fsHouse a1 p58.2) (v := .int (House_rooms p58.2)) 1 0 0 rfl q_House (by decide) (by decide +kernel) g_House_rooms dX8_load_72 ?_
    obtain rfl := Option.some.inj hf
    exact ww_iret C ⟨rfl, rfl⟩ dX8_load_75
  · replace hf := ifF c_1 hf
    refine ww_bipush (v := (-10)) C dX8_load_41 (by decide) ?_
    refine ww_iload_n C dX8_load_43 rfl 0 rfl ?_
    refine ww_isub C dX8_load_44 ?_
    obtain rfl := Option.some.inj hf
    exact ww_iret C ⟨rfl, rfl⟩ dX8_load_45

theorem yk_X8_load : yX8_load.cls = RX8 ∧ yX8_load.cls ≠ "java/lang/invoke/MethodHandle" ∧ yX8_load.cls ≠ "java/lang/invoke/VarHandle" ∧ (parseMethodDescriptor yX8_load.desc).map (fun d => d.parameters.length) = some 1 := by decide +kernel
abbrev rmX8_size : Room := { frames := 5, cells := 0, slots := 0, locals := 109 }
set_option maxRecDepth 20000 in
theorem in_X8_size_X2 : ∀ w ∈ u_ws RX2 TX2 19, w ∈ wsX8_size := by decide +kernel
set_option maxRecDepth 20000 in
theorem in_X8_size_X6 : ∀ w ∈ u_ws RX6 TX6 8, w ∈ wsX8_size := by decide +kernel
set_option maxRecDepth 20000 in
theorem in_X8_size_X8 : ∀ w ∈ u_ws RX8 TX8 14, w ∈ wsX8_size := by decide +kernel
set_option maxHeartbeats 4000000 in
set_option maxRecDepth 100000 in
theorem c_X8_size {E : Ex} {a0 : Nat → Nat} {a1 : Nat → Nat} {a2 : Nat → Nat} {h0_1 h0_2 h0_4 h0_5 h0_6 h0_7 h0_8 h0_9 : Nat} {x1 : Int32} {v0 : GWV} {v1 : HouseV} {v2 : SightV} {r : (Int32 × SightV)} (hf : GW_size x1 v0 v1 v2 = some r) : Ct E yX8_size wsX8_size rmX8_size [.ref (a0 0), .int x1] [wGW E a0 (rf10 (a1 0) h0_1 h0_2 (a2 0) h0_4 h0_5 h0_6 h0_7 h0_8 h0_9) v0, wHouse E a1 v1, wSight E a2 v2] (fun rv g => rv = some (.int r.1) ∧ g = [wGW E a0 (rf10 (a1 0) h0_1 h0_2 (a2 0) h0_4 h0_5 h0_6 h0_7 h0_8 h0_9) v0, wHouse E a1 v1, wSight E a2 r.2]) := by
  refine ct_of (own := RX8) (by decide +kernel) rfl rfl (Nat.le_of_ble_eq_true rfl) (fun K C => ?_)
  refine ww_sub C (lv' := [(0, .ref (a0 0)), (1, .int x1)]) [0, 1] rfl ?_
  rw [GW_size] at hf
  refine ww_iload_n C dX8_size_0 rfl 1 rfl ?_
  by_cases c_1 : Int32.toInt x1 < 0 ∨ 9 < Int32.toInt x1
  · replace hf := ifT c_1 hf
    refine ww_tabOut (tgt := 140) C dX8_size_1 c_1 (by decide) ?_
    cases hf
  · replace hf := ifF c_1 hf
    by_cases c_2 : x1 = 0
    · replace hf := ifT c_2 hf
      refine ww_tabIn (off := 55) (tgt := 56) C dX8_size_1 (fun z => c_1 (Or.inl z)) (fun z => c_1 (Or.inr z)) (by rw [c_2]; decide) (by decide) ?_
      refine ww_aload_n C dX8_size_56 rfl 0 rfl ?_
      refine ww_get C clOK8 in_X8_size_X8 (w := wGW E a0 (rf10 (a1 0) h0_1 h0_2 (a2 0) h0_4 h0_5 h0_6 h0_7 h0_8 h0_9) v0) (fs := fsGW a0 (rf10 (a1 0) h0_1 h0_2 (a2 0) h0_4 h0_5 h0_6 h0_7 h0_8 h0_9) v0) (v := .ref (a1 0)) 0 0 0 rfl q_GW (by decide) (by decide +kernel) g_GW_house dX8_size_57 ?_
      refine ww_get C clOK2 in_X8_size_X2 (w := wHouse E a1 v1) (fs := fsHouse a1 v1) (v := .int (House_rooms v1)) 1 0 0 rfl q_House (by decide) (by decide +kernel) g_House_rooms dX8_size_60 ?_
      obtain rfl := Option.some.inj hf
      exact ww_iret C ⟨rfl, rfl⟩ dX8_size_63
    · replace hf := ifF c_2 hf
      by_cases c_3 : x1 = 1
      · replace hf := ifT c_3 hf
        refine ww_tabIn (off := 63) (tgt := 64) C dX8_size_1 (fun z => c_1 (Or.inl z)) (fun z => c_1 (Or.inr z)) (by rw [c_3]; decide) (by decide) ?_
        refine ww_aload_n C dX8_size_64 rfl 0 rfl ?_
        refine ww_get C clOK8 in_X8_size_X8 (w := wGW E a0 (rf10 (a1 0) h0_1 h0_2 (a2 0) h0_4 h0_5 h0_6 h0_7 h0_8 h0_9) v0) (fs := fsGW a0 (rf10 (a1 0) h0_1 h0_2 (a2 0) h0_4 h0_5 h0_6 h0_7 h0_8 h0_9) v0) (v := .ref (a1 0)) 0 0 0 rfl q_GW (by decide) (by decide +kernel) g_GW_house dX8_size_65 ?_
        refine ww_get C clOK2 in_X8_size_X2 (w := wHouse E a1 v1) (fs := fsHouse a1 v1) (v := .int (House_doors v1)) 1 0 1 rfl q_House (by decide) (by decide +kernel) g_House_doors dX8_size_68 ?_
        obtain rfl := Option.some.inj hf
        exact ww_iret C ⟨rfl, rfl⟩ dX8_size_71
      · replace hf := ifF c_3 hf
        by_cases c_4 : x1 = 2
        · replace hf := ifT c_4 hf
          refine ww_tabIn (off := 71) (tgt := 72) C dX8_size_1 (fun z => c_1 (Or.inl z)) (fun z => c_1 (Or.inr z)) (by rw [c_4]; decide) (by decide) ?_
          refine ww_aload_n C dX8_size_72 rfl 0 rfl ?_
          refine ww_get C clOK8 in_X8_size_X8 (w := wGW E a0 (rf10 (a1 0) h0_1 h0_2 (a2 0) h0_4 h0_5 h0_6 h0_7 h0_8 h0_9) v0) (fs := fsGW a0 (rf10 (a1 0) h0_1 h0_2 (a2 0) h0_4 h0_5 h0_6 h0_7 h0_8 h0_9) v0) (v := .ref (a1 0)) 0 0 0 rfl q_GW (by decide) (by decide +kernel) g_GW_house dX8_size_73 ?_
          refine ww_get C clOK2 in_X8_size_X2 (w := wHouse E a1 v1) (fs := fsHouse a1 v1) (v := .int (House_guards v1)) 1 0 2 rfl q_House (by decide) (by decide +kernel) g_House_guards dX8_size_76 ?_
          obtain rfl := Option.some.inj hf
          exact ww_iret C ⟨rfl, rfl⟩ dX8_size_79
        · replace hf := ifF c_4 hf
          by_cases c_5 : x1 = 3
          · replace hf := ifT c_5 hf
            refine ww_tabIn (off := 79) (tgt := 80) C dX8_size_1 (fun z => c_1 (Or.inl z)) (fun z => c_1 (Or.inr z)) (by rw [c_5]; decide) (by decide) ?_
            refine ww_aload_n C dX8_size_80 rfl 0 rfl ?_
            refine ww_get C clOK8 in_X8_size_X8 (w := wGW E a0 (rf10 (a1 0) h0_1 h0_2 (a2 0) h0_4 h0_5 h0_6 h0_7 h0_8 h0_9) v0) (fs := fsGW a0 (rf10 (a1 0) h0_1 h0_2 (a2 0) h0_4 h0_5 h0_6 h0_7 h0_8 h0_9) v0) (v := .ref (a1 0)) 0 0 0 rfl q_GW (by decide) (by decide +kernel) g_GW_house dX8_size_81 ?_
            obtain ⟨p84, hp84, hf⟩ := bdE hf
            refine ww_callV C (As := []) (st := []) (gr := [wGW E a0 (rf10 (a1 0) h0_1 h0_2 (a2 0) h0_4 h0_5 h0_6 h0_7 h0_8 h0_9) v0, wSight E a2 v2]) (c_X2_cycleLength (E := E) (a0 := a1) hp84) gX8_size_X2_cycleLength rfl yk_X2_cycleLength ⟨by decide, Nat.le_of_ble_eq_true rfl⟩ ⟨by decide, by decide⟩ clOK2 0 0 rfl rfl [1] [0, 2] 3 rfl (by decide) rfl rfl (Nat.le_of_ble_eq_true rfl) dX8_size_84 ?_
            rintro _ _ ⟨rfl, rfl⟩
            refine ww_perm (gs' := [wGW E a0 (rf10 (a1 0) h0_1 h0_2 (a2 0) h0_4 h0_5 h0_6 h0_7 h0_8 h0_9) v0, wHouse E a1 v1, wSight E a2 v2]) [1, 0, 2] 3 rfl (by decide) rfl ?_
            obtain rfl := Option.some.inj hf
            exact ww_iret C ⟨rfl, rfl⟩ dX8_size_87
          · replace hf := ifF c_5 hf
            by_cases c_6 : x1 = 4
            · replace hf := ifT c_6 hf
              refine ww_tabIn (off := 87) (tgt := 88) C dX8_size_1 (fun z => c_1 (Or.inl z)) (fun z => c_1 (Or.inr z)) (by rw [c_6]; decide) (by decide) ?_
              refine ww_aload_n C dX8_size_88 rfl 0 rfl ?_
              refine ww_get C clOK8 in_X8_size_X8 (w := wGW E a0 (rf10 (a1 0) h0_1 h0_2 (a2 0) h0_4 h0_5 h0_6 h0_7 h0_8 h0_9) v0) (fs := fsGW a0 (rf10 (a1 0) h0_1 h0_2 (a2 0) h0_4 h0_5 h0_6 h0_7 h0_8 h0_9) v0) (v := .ref (a1 0)) 0 0 0 rfl q_GW (by decide) (by decide +kernel) g_GW_house dX8_size_89 ?_
              refine ww_get C clOK2 in_X8_size_X2 (w := wHouse E a1 v1) (fs := fsHouse a1 v1) (v := .int (House_minute v1)) 1 0 3 rfl q_House (by decide) (by decide +kernel) g_House_minute dX8_size_92 ?_
              obtain rfl := Option.some.inj hf
              exact ww_iret C ⟨rfl, rfl⟩ dX8_size_95
            · replace hf := ifF c_6 hf
              by_cases c_7 : x1 = 5
              · replace hf := ifT c_7 hf
                refine ww_tabIn (off := 95) (tgt := 96) C dX8_size_1 (fun z => c_1 (Or.inl z)) (fun z => c_1 (Or.inr z)) (by rw [c_7]; decide) (by decide) ?_
                refine ww_aload_n C dX8_size_96 rfl 0 rfl ?_
                obtain ⟨p97, hp97, hf⟩ := bdE hf
                refine ww_callV C (As := []) (st := []) (gr := []) (c_X8_measured (E := E) (a0 := a0) (h0_1 := h0_1) (h0_2 := h0_2) (h0_4 := h0_4) (h0_5 := h0_5) (h0_6 := h0_6) (h0_7 := h0_7) (h0_8 := h0_8) (h0_9 := h0_9) (a1 := a1) (a2 := a2) hp97) gX8_size_X8_measured rfl yk_X8_measured ⟨by decide, Nat.le_of_ble_eq_true rfl⟩ ⟨by decide, by decide⟩ clOK8 0 0 rfl rfl [0, 1, 2] [] 3 rfl (by decide) rfl rfl (Nat.le_of_ble_eq_true rfl) dX8_size_97 ?_
                rintro _ _ ⟨rfl, rfl⟩
                refine ww_perm (gs' := [wGW E a0 (rf10 (a1 0) h0_1 h0_2 (a2 0) h0_4 h0_5 h0_6 h0_7 h0_8 h0_9) v0, wHouse E a1 v1, wSight E a2 p97]) [0, 1, 2] 3 rfl (by decide) rfl ?_
                refine ww_get C clOK6 in_X8_size_X6 (w := wSight E a2 p97) (fs := fsSight a2 p97) (v := .int (Sight_worst p97)) 2 0 6 rfl q_Sight (by decide) (by decide +kernel) g_Sight_worst dX8_size_100 ?_
                obtain rfl := Option.some.inj hf
                exact ww_iret C ⟨rfl, rfl⟩ dX8_size_103
              · replace hf := ifF c_7 hf
                by_cases c_8 : x1 = 6
                · replace hf := ifT c_8 hf
                  refine ww_tabIn (off := 103) (tgt := 104) C dX8_size_1 (fun z => c_1 (Or.inl z)) (fun z => c_1 (Or.inr z)) (by rw [c_8]; decide) (by decide) ?_
                  refine ww_aload_n C dX8_size_104 rfl 0 rfl ?_
                  obtain ⟨p105, hp105, hf⟩ := bdE hf
                  refine ww_callV C (As := []) (st := []) (gr := []) (c_X8_measured (E := E) (a0 := a0) (h0_1 := h0_1) (h0_2 := h0_2) (h0_4 := h0_4) (h0_5 := h0_5) (h0_6 := h0_6) (h0_7 := h0_7) (h0_8 := h0_8) (h0_9 := h0_9) (a1 := a1) (a2 := a2) hp105) gX8_size_X8_measured rfl yk_X8_measured ⟨by decide, Nat.le_of_ble_eq_true rfl⟩ ⟨by decide, by decide⟩ clOK8 0 0 rfl rfl [0, 1, 2] [] 3 rfl (by decide) rfl rfl (Nat.le_of_ble_eq_true rfl) dX8_size_105 ?_
                  rintro _ _ ⟨rfl, rfl⟩
                  refine ww_perm (gs' := [wGW E a0 (rf10 (a1 0) h0_1 h0_2 (a2 0) h0_4 h0_5 h0_6 h0_7 h0_8 h0_9) v0, wHouse E a1 v1, wSight E a2 p105]) [0, 1, 2] 3 rfl (by decide) rfl ?_
                  refine ww_aload_n C dX8_size_108 rfl 0 rfl ?_
                  refine ww_get C clOK8 in_X8_size_X8 (w := wGW E a0 (rf10 (a1 0) h0_1 h0_2 (a2 0) h0_4 h0_5 h0_6 h0_7 h0_8 h0_9) v0) (fs := fsGW a0 (rf10 (a1 0) h0_1 h0_2 (a2 0) h0_4 h0_5 h0_6 h0_7 h0_8 h0_9) v0) (v := .ref (a1 0)) 0 0 0 rfl q_GW (by decide) (by decide +kernel) g_GW_house dX8_size_109 ?_
                  obtain ⟨p112, hp112, hf⟩ := bdE hf
                  refine ww_callV C (As := [.ref (a1 0)]) (st := []) (gr := [wGW E a0 (rf10 (a1 0) h0_1 h0_2 (a2 0) h0_4 h0_5 h0_6 h0_7 h0_8 h0_9) v0]) (c_X6_countLate (E := E) (a0 := a2) (a1 := a1) hp112) gX8_size_X6_countLate rfl yk_X6_countLate ⟨by decide, Nat.le_of_ble_eq_true rfl⟩ ⟨by decide, by decide⟩ clOK6 0 0 rfl rfl [2, 1] [0] 3 rfl (by decide) rfl rfl (Nat.le_of_ble_eq_true rfl) dX8_size_112 ?_
                  rintro _ _ ⟨rfl, rfl⟩
                  refine ww_perm (gs' := [wGW E a0 (rf10 (a1 0) h0_1 h0_2 (a2 0) h0_4 h0_5 h0_6 h0_7 h0_8 h0_9) v0, wHouse E a1 v1, wSight E a2 p105]) [2, 1, 0] 3 rfl (by decide) rfl ?_
                  obtain rfl := Option.some.inj hf
                  exact ww_iret C ⟨rfl, rfl⟩ dX8_size_115
                · replace hf := ifF c_8 hf
                  by_cases c_9 : x1 = 7
                  · replace hf := ifT c_9 hf
                    refine ww_tabIn (off := 115) (tgt := 116) C dX8_size_1 (fun z => c_1 (Or.inl z)) (fun z => c_1 (Or.inr z)) (by rw [c_9]; decide) (by decide) ?_
                    refine ww_aload_n C dX8_size_116 rfl 0 rfl ?_
                    refine ww_get C clOK8 in_X8_size_X8 (w := wGW E a0 (rf10 (a1 0) h0_1 h0_2 (a2 0) h0_4 h0_5 h0_6 h0_7 h0_8 h0_9) v0) (fs := fsGW a0 (rf10 (a1 0) h0_1 h0_2 (a2 0) h0_4 h0_5 h0_6 h0_7 h0_8 h0_9) v0) (v := .ref (a1 0)) 0 0 0 rfl q_GW (by decide) (by decide +kernel) g_GW_house dX8_size_117 ?_
                    obtain ⟨p120, hp120, hf⟩ := bdE hf
                    refine ww_callV C (As := []) (st := []) (gr := [wGW E a0 (rf10 (a1 0) h0_1 h0_2 (a2 0) h0_4 h0_5 h0_6 h0_7 h0_8 h0_9) v0, wSight E a2 v2]) (c_X2_countCrossings (E := E) (a0 := a1) hp120) gX8_size_X2_countCrossings rfl yk_X2_countCrossings ⟨by decide, Nat.le_of_ble_eq_true rfl⟩ ⟨by decide, by decide⟩ clOK2 0 0 rfl rfl [1] [0, 2] 3 rfl (by decide) rfl rfl (Nat.le_of_ble_eq_true rfl) dX8_size_120 ?_
                    rintro _ _ ⟨rfl, rfl⟩
                    refine ww_perm (gs' := [wGW E a0 (rf10 (a1 0) h0_1 h0_2 (a2 0) h0_4 h0_5 h0_6 h0_7 h0_8 h0_9) v0, wHouse E a1 v1, wSight E a2 v2]) [1, 0, 2] 3 rfl (by decide) rfl ?_
                    obtain rfl := Option.some.inj hf
                    exact ww_iret C ⟨rfl, rfl⟩ dX8_size_123
                  · replace hf := ifF c_9 hf
                    by_cases c_10 : x1 = 8
                    · replace hf := ifT c_10 hf
                      refine ww_tabIn (off := 123) (tgt := 124) C dX8_size_1 (fun z => c_1 (Or.inl z)) (fun z => c_1 (Or.inr z)) (by rw [c_10]; decide) (by decide) ?_
                      refine ww_aload_n C dX8_size_124 rfl 0 rfl ?_
                      refine ww_get C clOK8 in_X8_size_X8 (w := wGW E a0 (rf10 (a1 0) h0_1 h0_2 (a2 0) h0_4 h0_5 h0_6 h0_7 h0_8 h0_9) v0) (fs := fsGW a0 (rf10 (a1 0) h0_1 h0_2 (a2 0) h0_4 h0_5 h0_6 h0_7 h0_8 h0_9) v0) (v := .ref (a1 0)) 0 0 0 rfl q_GW (by decide) (by decide +kernel) g_GW_house dX8_size_125 ?_
                      obtain ⟨p128, hp128, hf⟩ := bdE hf
                      refine ww_callV C (As := []) (st := []) (gr := [wGW E a0 (rf10 (a1 0) h0_1 h0_2 (a2 0) h0_4 h0_5 h0_6 h0_7 h0_8 h0_9) v0, wSight E a2 v2]) (c_X2_countOpenDoors (E := E) (a0 := a1) hp128) gX8_size_X2_countOpenDoors rfl yk_X2_countOpenDoors ⟨by decide, Nat.le_of_ble_eq_true rfl⟩ ⟨by decide, by decide⟩ clOK2 0 0 rfl rfl [1] [0, 2] 3 rfl (by decide) rfl rfl (Nat.le_of_ble_eq_true rfl) dX8_size_128 ?_
                      rintro _ _ ⟨rfl, rfl⟩
                      refine ww_perm (gs' := [wGW E a0 (rf10 (a1 0) h0_1 h0_2 (a2 0) h0_4 h0_5 h0_6 h0_7 h0_8 h0_9) v0, wHouse E a1 v1, wSight E a2 v2]) [1, 0, 2] 3 rfl (by decide) rfl ?_
                      obtain rfl := Option.some.inj hf
                      exact ww_iret C ⟨rfl, rfl⟩ dX8_size_131
                    · replace hf := ifF c_10 hf
                      by_cases c_11 : x1 = 9
                      · replace hf := ifT c_11 hf
                        refine ww_tabIn (off := 131) (tgt := 132) C dX8_size_1 (fun z => c_1 (Or.inl z)) (fun z => c_1 (Or.inr z)) (by rw [c_11]; decide) (by decide) ?_
                        refine ww_aload_n C dX8_size_132 rfl 0 rfl ?_
                        refine ww_get C clOK8 in_X8_size_X8 (w := wGW E a0 (rf10 (a1 0) h0_1 h0_2 (a2 0) h0_4 h0_5 h0_6 h0_7 h0_8 h0_9) v0) (fs := fsGW a0 (rf10 (a1 0) h0_1 h0_2 (a2 0) h0_4 h0_5 h0_6 h0_7 h0_8 h0_9) v0) (v := .ref (a1 0)) 0 0 0 rfl q_GW (by decide) (by decide +kernel) g_GW_house dX8_size_133 ?_
                        obtain ⟨p136, hp136, hf⟩ := bdE hf
                        refine ww_callV C (As := []) (st := []) (gr := [wGW E a0 (rf10 (a1 0) h0_1 h0_2 (a2 0) h0_4 h0_5 h0_6 h0_7 h0_8 h0_9) v0, wSight E a2 v2]) (c_X2_countSightings (E := E) (a0 := a1) hp136) gX8_size_X2_countSightings rfl yk_X2_countSightings ⟨by decide, Nat.le_of_ble_eq_true rfl⟩ ⟨by decide, by decide⟩ clOK2 0 0 rfl rfl [1] [0, 2] 3 rfl (by decide) rfl rfl (Nat.le_of_ble_eq_true rfl) dX8_size_136 ?_
                        rintro _ _ ⟨rfl, rfl⟩
                        refine ww_perm (gs' := [wGW E a0 (rf10 (a1 0) h0_1 h0_2 (a2 0) h0_4 h0_5 h0_6 h0_7 h0_8 h0_9) v0, wHouse E a1 v1, wSight E a2 v2]) [1, 0, 2] 3 rfl (by decide) rfl ?_
                        obtain rfl := Option.some.inj hf
                        exact ww_iret C ⟨rfl, rfl⟩ dX8_size_139
                      · replace hf := ifF c_11 hf
                        cases hf

theorem yk_X8_size : yX8_size.cls = RX8 ∧ yX8_size.cls ≠ "java/lang/invoke/MethodHandle" ∧ yX8_size.cls ≠ "java/lang/invoke/VarHandle" ∧ (parseMethodDescriptor yX8_size.desc).map (fun d => d.parameters.length) = some 1 := by decide +kernel
abbrev rmX8_door : Room := { frames := 4, cells := 0, slots := 0, locals := 92 }
set_option maxRecDepth 20000 in
theorem in_X8_door_X2 : ∀ w ∈ u_ws RX2 TX2 19, w ∈ wsX8_door := by decide +kernel
set_option maxRecDepth 20000 in
theorem in_X8_door_X8 : ∀ w ∈ u_ws RX8 TX8 14, w ∈ wsX8_door := by decide +kernel
set_option maxHeartbeats 4000000 in
set_option maxRecDepth 100000 in
theorem c_X8_door {E : Ex} {a0 : Nat → Nat} {a1 : Nat → Nat} {h0_1 h0_2 h0_3 h0_4 h0_5 h0_6 h0_7 h0_8 h0_9 : Nat} {x1 : Int32} {x2 : Int32} {v0 : GWV} {v1 : HouseV} {r : Int32} (hf : GW_door x1 x2 v0 v1 = some r) : Ct E yX8_door wsX8_door rmX8_door [.ref (a0 0), .int x1, .int x2] [wGW E a0 (rf10 (a1 0) h0_1 h0_2 h0_3 h0_4 h0_5 h0_6 h0_7 h0_8 h0_9) v0, wHouse E a1 v1] (fun rv g => rv = some (.int r) ∧ g = [wGW E a0 (rf10 (a1 0) h0_1 h0_2 h0_3 h0_4 h0_5 h0_6 h0_7 h0_8 h0_9) v0, wHouse E a1 v1]) := by
  refine ct_of (own := RX8) (by decide +kernel) rfl rfl (Nat.le_of_ble_eq_true rfl) (fun K C => ?_)
  refine ww_sub C (lv' := [(0, .ref (a0 0)), (1, .int x1), (2, .int x2)]) [0, 1, 2] rfl ?_
  rw [GW_door] at hf
  refine ww_aload_n C dX8_door_0 rfl 0 rfl ?_
  refine ww_iload_n C dX8_door_1 rfl 1 rfl ?_
  obtain ⟨p2, hp2, hf⟩ := bdE hf
  refine ww_callV C (As := [.int x1]) (st := []) (gr := []) (c_X8_needDoor (E := E) (a0 := a0) (h0_1 := h0_1) (h0_2 := h0_2) (h0_3 := h0_3) (h0_4 := h0_4) (h0_5 := h0_5) (h0_6 := h0_6) (h0_7 := h0_7) (h0_8 := h0_8) (h0_9 := h0_9) (a1 := a1) hp2) gX8_door_X8_needDoor rfl yk_X8_needDoor ⟨by decide, Nat.le_of_ble_eq_true rfl⟩ ⟨by decide, by decide⟩ clOK8 0 0 rfl rfl [0, 1] [] 2 rfl (by decide) rfl rfl (Nat.le_of_ble_eq_true rfl) dX8_door_2 ?_
  rintro _ _ ⟨rfl, rfl⟩
  refine ww_perm (gs' := [wGW E a0 (rf10 (a1 0) h0_1 h0_2 h0_3 h0_4 h0_5 h0_6 h0_7 h0_8 h0_9) v0, wHouse E a1 v1]) [0, 1] 2 rfl (by decide) rfl ?_
  refine ww_iload_n C dX8_door_5 rfl 2 rfl ?_
  by_cases c_4 : Int32.toInt x2 < 0 ∨ 3 < Int32.toInt x2
  · replace hf := ifT c_4 hf
    refine ww_tabOut (tgt := 82) C dX8_door_6 c_4 (by decide) ?_
    cases hf
  · replace hf := ifF c_4 hf
    by_cases c_5 : x2 = 0
    · replace hf := ifT c_5 hf
      refine ww_tabIn (off := 30) (tgt := 36) C dX8_door_6 (fun z => c_4 (Or.inl z)) (fun z => c_4 (Or.inr z)) (by rw [c_5]; decide) (by decide) ?_
      refine ww_aload_n C dX8_door_36 rfl 0 rfl ?_
      refine ww_get C clOK8 in_X8_door_X8 (w := wGW E a0 (rf10 (a1 0) h0_1 h0_2 h0_3 h0_4 h0_5 h0_6 h0_7 h0_8 h0_9) v0) (fs := fsGW a0 (rf10 (a1 0) h0_1 h0_2 h0_3 h0_4 h0_5 h0_6 h0_7 h0_8 h0_9) v0) (v := .ref (a1 0)) 0 0 0 rfl q_GW (by decide) (by decide +kernel) g_GW_house dX8_door_37 ?_
      refine ww_get C clOK2 in_X8_door_X2 (w := wHouse E a1 v1) (fs := fsHouse a1 v1) (v := .ref (a1 1)) 1 0 7 rfl q_House (by decide) (by decide +kernel) g_House_doorFirst dX8_door_40 ?_
      refine ww_iload_n C dX8_door_43 rfl 1 rfl ?_
      obtain ⟨g_1, hf⟩ := gdE hf
      refine ww_iald C (f := House_doorFirst v1) (w := wHouse E a1 v1) 1 1 rfl c_House_doorFirst (inB_vp g_1) dX8_door_44 ?_
      obtain rfl := Option.some.inj hf
      exact ww_iret C ⟨rfl, rfl⟩ dX8_door_45
    · replace hf := ifF c_5 hf
      by_cases c_6 : x2 = 1
      · replace hf := ifT c_6 hf
        refine ww_tabIn (off := 40) (tgt := 46) C dX8_door_6 (fun z => c_4 (Or.inl z)) (fun z => c_4 (Or.inr z)) (by rw [c_6]; decide) (by decide) ?_
        refine ww_aload_n C dX8_door_46 rfl 0 rfl ?_
        refine ww_get C clOK8 in_X8_door_X8 (w := wGW E a0 (rf10 (a1 0) h0_1 h0_2 h0_3 h0_4 h0_5 h0_6 h0_7 h0_8 h0_9) v0) (fs := fsGW a0 (rf10 (a1 0) h0_1 h0_2 h0_3 h0_4 h0_5 h0_6 h0_7 h0_8 h0_9) v0) (v := .ref (a1 0)) 0 0 0 rfl q_GW (by decide) (by decide +kernel) g_GW_house dX8_door_47 ?_
        refine ww_get C clOK2 in_X8_door_X2 (w := wHouse E a1 v1) (fs := fsHouse a1 v1) (v := .ref (a1 2)) 1 0 8 rfl q_House (by decide) (by decide +kernel) g_House_doorSecond dX8_door_50 ?_
        refine ww_iload_n C dX8_door_53 rfl 1 rfl ?_
        obtain ⟨g_2, hf⟩ := gdE hf
        refine ww_iald C (f := House_doorSecond v1) (w := wHouse E a1 v1) 1 2 rfl c_House_doorSecond (inB_vp g_2) dX8_door_54 ?_
        obtain rfl := Option.some.inj hf
        exact ww_iret C ⟨rfl, rfl⟩ dX8_door_55
      · replace hf := ifF c_6 hf
        by_cases c_7 : x2 = 2
        · replace hf := ifT c_7 hf
          refine ww_tabIn (off := 50) (tgt := 56) C dX8_door_6 (fun z => c_4 (Or.inl z)) (fun z => c_4 (Or.inr z)) (by rw [c_7]; decide) (by decide) ?_
          refine ww_aload_n C dX8_door_56 rfl 0 rfl ?_
          refine ww_get C clOK8 in_X8_door_X8 (w := wGW E a0 (rf10 (a1 0) h0_1 h0_2 h0_3 h0_4 h0_5 h0_6 h0_7 h0_8 h0_9) v0) (fs := fsGW a0 (rf10 (a1 0) h0_1 h0_2 h0_3 h0_4 h0_5 h0_6 h0_7 h0_8 h0_9) v0) (v := .ref (a1 0)) 0 0 0 rfl q_GW (by decide) (by decide +kernel) g_GW_house dX8_door_57 ?_
          refine ww_iload_n C dX8_door_60 rfl 1 rfl ?_
          obtain ⟨p61, hp61, hf⟩ := bdE hf
          refine ww_callV C (As := [.int x1]) (st := []) (gr := [wGW E a0 (rf10 (a1 0) h0_1 h0_2 h0_3 h0_4 h0_5 h0_6 h0_7 h0_8 h0_9) v0]) (c_X2_isOpen (E := E) (a0 := a1) hp61) gX8_door_X2_isOpen rfl yk_X2_isOpen ⟨by decide, Nat.le_of_ble_eq_true rfl⟩ ⟨by decide, by decide⟩ clOK2 0 0 rfl rfl [1] [0] 2 rfl (by decide) rfl rfl (Nat.le_of_ble_eq_true rfl) dX8_door_61 ?_
          rintro _ _ ⟨rfl, rfl⟩
          refine ww_perm (gs' := [wGW E a0 (rf10 (a1 0) h0_1 h0_2 h0_3 h0_4 h0_5 h0_6 h0_7 h0_8 h0_9) v0, wHouse E a1 v1]) [1, 0] 2 rfl (by decide) rfl ?_
          refine ww_if_eqB (tgt := 71) C dX8_door_64 (by decide) (fun c_3 => ?_) (fun c_3 => ?_)
          · replace hf := bfE c_3 hf
            refine ww_iconst (v := 0) C dX8_door_71 (by decide) ?_
            obtain rfl := Option.some.inj hf
            exact ww_iret C ⟨rfl, rfl⟩ dX8_door_72
          · replace hf := btE c_3 hf
            refine ww_iconst (v := 1) C dX8_door_67 (by decide) ?_
            refine ww_goto (tgt := 72) C dX8_door_68 (by decide) ?_
            obtain rfl := Option.some.inj hf
            exact ww_iret C ⟨rfl, rfl⟩ dX8_door_72
        · replace hf := ifF c_7 hf
          by_cases c_8 : x2 = 3
          · replace hf := ifT c_8 hf
            refine ww_tabIn (off := 67) (tgt := 73) C dX8_door_6 (fun z => c_4 (Or.inl z)) (fun z => c_4 (Or.inr z)) (by rw [c_8]; decide) (by decide) ?_
            refine ww_aload_n C dX8_door_73 rfl 0 rfl ?_
            refine ww_get C clOK8 in_X8_door_X8 (w := wGW E a0 (rf10 (a1 0) h0_1 h0_2 h0_3 h0_4 h0_5 h0_6 h0_7 h0_8 h0_9) v0) (fs := fsGW a0 (rf10 (a1 0) h0_1 h0_2 h0_3 h0_4 h0_5 h0_6 h0_7 h0_8 h0_9) v0) (v := .ref (a1 0)) 0 0 0 rfl q_GW (by decide) (by decide +kernel) g_GW_house dX8_door_74 ?_
            refine ww_iload_n C dX8_door_77 rfl 1 rfl ?_
            obtain ⟨p78, hp78, hf⟩ := bdE hf
            refine ww_callV C (As := [.int x1]) (st := []) (gr := [wGW E a0 (rf10 (a1 0) h0_1 h0_2 h0_3 h0_4 h0_5 h0_6 h0_7 h0_8 h0_9) v0]) (c_X2_countGuardsThrough (E := E) (a0 := a1) hp78) gX8_door_X2_countGuardsThrough rfl yk_X2_countGuardsThrough ⟨by decide, Nat.le_of_ble_eq_true rfl⟩ ⟨by decide, by decide⟩ clOK2 0 0 rfl rfl [1] [0] 2 rfl (by decide) rfl rfl (Nat.le_of_ble_eq_true rfl) dX8_door_78 ?_
            rintro _ _ ⟨rfl, rfl⟩
            refine ww_perm (gs' := [wGW E a0 (rf10 (a1 0) h0_1 h0_2 h0_3 h0_4 h0_5 h0_6 h0_7 h0_8 h0_9) v0, wHouse E a1 v1]) [1, 0] 2 rfl (by decide) rfl ?_
            obtain rfl := Option.some.inj hf
            exact ww_iret C ⟨rfl, rfl⟩ dX8_door_81
          · replace hf := ifF c_8 hf
            cases hf

theorem yk_X8_door : yX8_door.cls = RX8 ∧ yX8_door.cls ≠ "java/lang/invoke/MethodHandle" ∧ yX8_door.cls ≠ "java/lang/invoke/VarHandle" ∧ (parseMethodDescriptor yX8_door.desc).map (fun d => d.parameters.length) = some 2 := by decide +kernel
abbrev rmX8_room : Room := { frames := 5, cells := 0, slots := 0, locals := 109 }
set_option maxRecDepth 20000 in
theorem in_X8_room_X2 : ∀ w ∈ u_ws RX2 TX2 19, w ∈ wsX8_room := by decide +kernel
set_option maxRecDepth 20000 in
theorem in_X8_room_X6 : ∀ w ∈ u_ws RX6 TX6 8, w ∈ wsX8_room := by decide +kernel
set_option maxRecDepth 20000 in
theorem in_X8_room_X8 : ∀ w ∈ u_ws RX8 TX8 14, w ∈ wsX8_room := by decide +kernel
set_option maxHeartbeats 4000000 in
set_option maxRecDepth 100000 in
theorem c_X8_room {E : Ex} {a0 : Nat → Nat} {a1 : Nat → Nat} {a2 : Nat → Nat} {h0_1 h0_2 h0_4 h0_5 h0_6 h0_7 h0_8 h0_9 : Nat} {x1 : Int32} {x2 : Int32} {v0 : GWV} {v1 : HouseV} {v2 : SightV} {r : (Int32 × SightV)} (hf : GW_room x1 x2 v0 v1 v2 = some r) : Ct E yX8_room wsX8_room rmX8_room [.ref (a0 0), .int x1, .int x2] [wGW E a0 (rf10 (a1 0) h0_1 h0_2 (a2 0) h0_4 h0_5 h0_6 h0_7 h0_8 h0_9) v0, wHouse E a1 v1, wSight E a2 v2] (fun rv g => rv = some (.int r.1) ∧ g = [wGW E a0 (rf10 (a1 0) h0_1 h0_2 (a2 0) h0_4 h0_5 h0_6 h0_7 h0_8 h0_9) v0, wHouse E a1 v1, wSight E a2 r.2]) := by
  refine ct_of (own := RX8) (by decide +kernel) rfl rfl (Nat.le_of_ble_eq_true rfl) (fun K C => ?_)
  refine ww_sub C (lv' := [(0, .ref (a0 0)), (1, .int x1), (2, .int x2)]) [0, 1, 2] rfl ?_
  rw [GW_room] at hf
  refine ww_aload_n C dX8_room_0 rfl 0 rfl ?_
  refine ww_iload_n C dX8_room_1 rfl 1 rfl ?_
  obtain ⟨p2, hp2, hf⟩ := bdE hf
  refine ww_callV C (As := [.int x1]) (st := []) (gr := [wSight E a2 v2]) (c_X8_needRoom (E := E) (a0 := a0) (h0_1 := h0_1) (h0_2 := h0_2) (h0_3 := a2 0) (h0_4 := h0_4) (h0_5 := h0_5) (h0_6 := h0_6) (h0_7 := h0_7) (h0_8 := h0_8) (h0_9 := h0_9) (a1 := a1) hp2) gX8_room_X8_needRoom rfl yk_X8_needRoom ⟨by decide, Nat.le_of_ble_eq_true rfl⟩ ⟨by decide, by decide⟩ clOK8 0 0 rfl rfl [0, 1] [2] 3 rfl (by decide) rfl rfl (Nat.le_of_ble_eq_true rfl) dX8_room_2 ?_
  rintro _ _ ⟨rfl, rfl⟩
  refine ww_perm (gs' := [wGW E a0 (rf10 (a1 0) h0_1 h0_2 (a2 0) h0_4 h0_5 h0_6 h0_7 h0_8 h0_9) v0, wHouse E a1 v1, wSight E a2 v2]) [0, 1, 2] 3 rfl (by decide) rfl ?_
  refine ww_iload_n C dX8_room_5 rfl 2 rfl ?_
  by_cases c_9 : Int32.toInt x2 < 0 ∨ 7 < Int32.toInt x2
  · replace hf := ifT c_9 hf
    refine ww_tabOut (tgt := 143) C dX8_room_6 c_9 (by decide) ?_
    cases hf
  · replace hf := ifF c_9 hf
    by_cases c_10 : x2 = 0
    · replace hf := ifT c_10 hf
      refine ww_tabIn (off := 46) (tgt := 52) C dX8_room_6 (fun z => c_9 (Or.inl z)) (fun z => c_9 (Or.inr z)) (by rw [c_10]; decide) (by decide) ?_
      refine ww_aload_n C dX8_room_52 rfl 0 rfl ?_
      refine ww_get C clOK8 in_X8_room_X8 (w := wGW E a0 (rf10 (a1 0) h0_1 h0_2 (a2 0) h0_4 h0_5 h0_6 h0_7 h0_8 h0_9) v0) (fs := fsGW a0 (rf10 (a1 0) h0_1 h0_2 (a2 0) h0_4 h0_5 h0_6 h0_7 h0_8 h0_9) v0) (v := .ref (a1 0)) 0 0 0 rfl q_GW (by decide) (by decide +kernel) g_GW_house dX8_room_53 ?_
      refine ww_get C clOK2 in_X8_room_X2 (w := wHouse E a1 v1) (fs := fsHouse a1 v1) (v := .ref (a1 4)) 1 0 10 rfl q_House (by decide) (by decide +kernel) g_House_limits dX8_room_56 ?_
      refine ww_iload_n C dX8_room_59 rfl 1 rfl ?_
      obtain ⟨g_1, hf⟩ := gdE hf
      refine ww_iald C (f := House_limits v1) (w := wHouse E a1 v1) 1 4 rfl c_House_limits (inB_vp g_1) dX8_room_60 ?_
      obtain rfl := Option.some.inj hf
      exact ww_iret C ⟨rfl, rfl⟩ dX8_room_61
    · replace hf := ifF c_10 hf
      by_cases c_11 : x2 = 1
      · replace hf := ifT c_11 hf
        refine ww_tabIn (off := 56) (tgt := 62) C dX8_room_6 (fun z => c_9 (Or.inl z)) (fun z => c_9 (Or.inr z)) (by rw [c_11]; decide) (by decide) ?_
        refine ww_aload_n C dX8_room_62 rfl 0 rfl ?_
        obtain ⟨p63, hp63, hf⟩ := bdE hf
        refine ww_callV C (As := []) (st := []) (gr := []) (c_X8_measured (E := E) (a0 := a0) (h0_1 := h0_1) (h0_2 := h0_2) (h0_4 := h0_4) (h0_5 := h0_5) (h0_6 := h0_6) (h0_7 := h0_7) (h0_8 := h0_8) (h0_9 := h0_9) (a1 := a1) (a2 := a2) hp63) gX8_room_X8_measured rfl yk_X8_measured ⟨by decide, Nat.le_of_ble_eq_true rfl⟩ ⟨by decide, by decide⟩ clOK8 0 0 rfl rfl [0, 1, 2] [] 3 rfl (by decide) rfl rfl (Nat.le_of_ble_eq_true rfl) dX8_room_63 ?_
        rintro _ _ ⟨rfl, rfl⟩
        refine ww_perm (gs' := [wGW E a0 (rf10 (a1 0) h0_1 h0_2 (a2 0) h0_4 h0_5 h0_6 h0_7 h0_8 h0_9) v0, wHouse E a1 v1, wSight E a2 p63]) [0, 1, 2] 3 rfl (by decide) rfl ?_
        refine ww_get C clOK6 in_X8_room_X6 (w := wSight E a2 p63) (fs := fsSight a2 p63) (v := .ref (a2 2)) 2 0 1 rfl q_Sight (by decide) (by decide +kernel) g_Sight_gaps dX8_room_66 ?_
        refine ww_iload_n C dX8_room_69 rfl 1 rfl ?_
        obtain ⟨g_2, hf⟩ := gdE hf
        refine ww_iald C (f := Sight_gaps p63) (w := wSight E a2 p63) 2 2 rfl c_Sight_gaps (inB_vp g_2) dX8_room_70 ?_
        obtain rfl := Option.some.inj hf
        exact ww_iret C ⟨rfl, rfl⟩ dX8_room_71
      · replace hf := ifF c_11 hf
        by_cases c_12 : x2 = 2
        · replace hf := ifT c_12 hf
          refine ww_tabIn (off := 66) (tgt := 72) C dX8_room_6 (fun z => c_9 (Or.inl z)) (fun z => c_9 (Or.inr z)) (by rw [c_12]; decide) (by decide) ?_
          refine ww_aload_n C dX8_room_72 rfl 0 rfl ?_
          obtain ⟨p73, hp73, hf⟩ := bdE hf
          refine ww_callV C (As := []) (st := []) (gr := []) (c_X8_measured (E := E) (a0 := a0) (h0_1 := h0_1) (h0_2 := h0_2) (h0_4 := h0_4) (h0_5 := h0_5) (h0_6 := h0_6) (h0_7 := h0_7) (h0_8 := h0_8) (h0_9 := h0_9) (a1 := a1) (a2 := a2) hp73) gX8_room_X8_measured rfl yk_X8_measured ⟨by decide, Nat.le_of_ble_eq_true rfl⟩ ⟨by decide, by decide⟩ clOK8 0 0 rfl rfl [0, 1, 2] [] 3 rfl (by decide) rfl rfl (Nat.le_of_ble_eq_true rfl) dX8_room_73 ?_
          rintro _ _ ⟨rfl, rfl⟩
          refine ww_perm (gs' := [wGW E a0 (rf10 (a1 0) h0_1 h0_2 (a2 0) h0_4 h0_5 h0_6 h0_7 h0_8 h0_9) v0, wHouse E a1 v1, wSight E a2 p73]) [0, 1, 2] 3 rfl (by decide) rfl ?_
          refine ww_aload_n C dX8_room_76 rfl 0 rfl ?_
          refine ww_get C clOK8 in_X8_room_X8 (w := wGW E a0 (rf10 (a1 0) h0_1 h0_2 (a2 0) h0_4 h0_5 h0_6 h0_7 h0_8 h0_9) v0) (fs := fsGW a0 (rf10 (a1 0) h0_1 h0_2 (a2 0) h0_4 h0_5 h0_6 h0_7 h0_8 h0_9) v0) (v := .ref (a1 0)) 0 0 0 rfl q_GW (by decide) (by decide +kernel) g_GW_house dX8_room_77 ?_
          refine ww_iload_n C dX8_room_80 rfl 1 rfl ?_
          obtain ⟨p81, hp81, hf⟩ := bdE hf
          refine ww_callV C (As := [.ref (a1 0), .int x1]) (st := []) (gr := [wGW E a0 (rf10 (a1 0) h0_1 h0_2 (a2 0) h0_4 h0_5 h0_6 h0_7 h0_8 h0_9) v0]) (c_X6_isLate (E := E) (a0 := a2) (a1 := a1) hp81) gX8_room_X6_isLate rfl yk_X6_isLate ⟨by decide, Nat.le_of_ble_eq_true rfl⟩ ⟨by decide, by decide⟩ clOK6 0 0 rfl rfl [2, 1] [0] 3 rfl (by decide) rfl rfl (Nat.le_of_ble_eq_true rfl) dX8_room_81 ?_
          rintro _ _ ⟨rfl, rfl⟩
          refine ww_perm (gs' := [wGW E a0 (rf10 (a1 0) h0_1 h0_2 (a2 0) h0_4 h0_5 h0_6 h0_7 h0_8 h0_9) v0, wHouse E a1 v1, wSight E a2 p73]) [2, 1, 0] 3 rfl (by decide) rfl ?_
          refine ww_if_eqB (tgt := 91) C dX8_room_84 (by decide) (fun c_3 => ?_) (fun c_3 => ?_)
          · replace hf := bfE c_3 hf
            refine ww_iconst (v := 0) C dX8_room_91 (by decide) ?_
            obtain rfl := Option.some.inj hf
            exact ww_iret C ⟨rfl, rfl⟩ dX8_room_92
          · replace hf := btE c_3 hf
            refine ww_iconst (v := 1) C dX8_room_87 (by decide) ?_
            refine ww_goto (tgt := 92) C dX8_room_88 (by decide) ?_
            obtain rfl := Option.some.inj hf
            exact ww_iret C ⟨rfl, rfl⟩ dX8_room_92
        · replace hf := ifF c_12 hf
          by_cases c_13 : x2 = 3
          · replace hf := ifT c_13 hf
            refine ww_tabIn (off := 87) (tgt := 93) C dX8_room_6 (fun z => c_9 (Or.inl z)) (fun z => c_9 (Or.inr z)) (by rw [c_13]; decide) (by decide) ?_
            refine ww_aload_n C dX8_room_93 rfl 0 rfl ?_
            obtain ⟨p94, hp94, hf⟩ := bdE hf
            refine ww_callV C (As := []) (st := []) (gr := []) (c_X8_measured (E := E) (a0 := a0) (h0_1 := h0_1) (h0_2 := h0_2) (h0_4 := h0_4) (h0_5 := h0_5) (h0_6 := h0_6) (h0_7 := h0_7) (h0_8 := h0_8) (h0_9 := h0_9) (a1 := a1) (a2 := a2) hp94) gX8_room_X8_measured rfl yk_X8_measured ⟨by decide, Nat.le_of_ble_eq_true rfl⟩ ⟨by decide, by decide⟩ clOK8 0 0 rfl rfl [0, 1, 2] [] 3 rfl (by decide) rfl rfl (Nat.le_of_ble_eq_true rfl) dX8_room_94 ?_
            rintro _ _ ⟨rfl, rfl⟩
            refine ww_perm (gs' := [wGW E a0 (rf10 (a1 0) h0_1 h0_2 (a2 0) h0_4 h0_5 h0_6 h0_7 h0_8 h0_9) v0, wHouse E a1 v1, wSight E a2 p94]) [0, 1, 2] 3 rfl (by decide) rfl ?_
            refine ww_get C clOK6 in_X8_room_X6 (w := wSight E a2 p94) (fs := fsSight a2 p94) (v := .ref (a2 1)) 2 0 0 rfl q_Sight (by decide) (by decide +kernel) g_Sight_seen dX8_room_97 ?_
            refine ww_iload_n C dX8_room_100 rfl 1 rfl ?_
            obtain ⟨g_4, hf⟩ := gdE hf
            refine ww_iald C (f := Sight_seen p94) (w := wSight E a2 p94) 2 1 rfl c_Sight_seen (inB_vp g_4) dX8_room_101 ?_
            obtain rfl := Option.some.inj hf
            exact ww_iret C ⟨rfl, rfl⟩ dX8_room_102
          · replace hf := ifF c_13 hf
            by_cases c_14 : x2 = 4
            · replace hf := ifT c_14 hf
              refine ww_tabIn (off := 97) (tgt := 103) C dX8_room_6 (fun z => c_9 (Or.inl z)) (fun z => c_9 (Or.inr z)) (by rw [c_14]; decide) (by decide) ?_
              refine ww_aload_n C dX8_room_103 rfl 0 rfl ?_
              refine ww_get C clOK8 in_X8_room_X8 (w := wGW E a0 (rf10 (a1 0) h0_1 h0_2 (a2 0) h0_4 h0_5 h0_6 h0_7 h0_8 h0_9) v0) (fs := fsGW a0 (rf10 (a1 0) h0_1 h0_2 (a2 0) h0_4 h0_5 h0_6 h0_7 h0_8 h0_9) v0) (v := .ref (a1 0)) 0 0 0 rfl q_GW (by decide) (by decide +kernel) g_GW_house dX8_room_104 ?_
              refine ww_get C clOK2 in_X8_room_X2 (w := wHouse E a1 v1) (fs := fsHouse a1 v1) (v := .ref (a1 9)) 1 0 15 rfl q_House (by decide) (by decide +kernel) g_House_sightings dX8_room_107 ?_
              refine ww_iload_n C dX8_room_110 rfl 1 rfl ?_
              obtain ⟨g_5, hf⟩ := gdE hf
              refine ww_iald C (f := House_sightings v1) (w := wHouse E a1 v1) 1 9 rfl c_House_sightings (inB_vp g_5) dX8_room_111 ?_
              obtain rfl := Option.some.inj hf
              exact ww_iret C ⟨rfl, rfl⟩ dX8_room_112
            · replace hf := ifF c_14 hf
              by_cases c_15 : x2 = 5
              · replace hf := ifT c_15 hf
                refine ww_tabIn (off := 107) (tgt := 113) C dX8_room_6 (fun z => c_9 (Or.inl z)) (fun z => c_9 (Or.inr z)) (by rw [c_15]; decide) (by decide) ?_
                refine ww_aload_n C dX8_room_113 rfl 0 rfl ?_
                refine ww_get C clOK8 in_X8_room_X8 (w := wGW E a0 (rf10 (a1 0) h0_1 h0_2 (a2 0) h0_4 h0_5 h0_6 h0_7 h0_8 h0_9) v0) (fs := fsGW a0 (rf10 (a1 0) h0_1 h0_2 (a2 0) h0_4 h0_5 h0_6 h0_7 h0_8 h0_9) v0) (v := .ref (a1 0)) 0 0 0 rfl q_GW (by decide) (by decide +kernel) g_GW_house dX8_room_114 ?_
                refine ww_get C clOK2 in_X8_room_X2 (w := wHouse E a1 v1) (fs := fsHouse a1 v1) (v := .ref (a1 10)) 1 0 16 rfl q_House (by decide) (by decide +kernel) g_House_lastSeen dX8_room_117 ?_
                refine ww_iload_n C dX8_room_120 rfl 1 rfl ?_
                obtain ⟨g_6, hf⟩ := gdE hf
                refine ww_iald C (f := House_lastSeen v1) (w := wHouse E a1 v1) 1 10 rfl c_House_lastSeen (inB_vp g_6) dX8_room_121 ?_
                obtain rfl := Option.some.inj hf
                exact ww_iret C ⟨rfl, rfl⟩ dX8_room_122
              · replace hf := ifF c_15 hf
                by_cases c_16 : x2 = 6
                · replace hf := ifT c_16 hf
                  refine ww_tabIn (off := 117) (tgt := 123) C dX8_room_6 (fun z => c_9 (Or.inl z)) (fun z => c_9 (Or.inr z)) (by rw [c_16]; decide) (by decide) ?_
                  refine ww_aload_n C dX8_room_123 rfl 0 rfl ?_
                  refine ww_get C clOK8 in_X8_room_X8 (w := wGW E a0 (rf10 (a1 0) h0_1 h0_2 (a2 0) h0_4 h0_5 h0_6 h0_7 h0_8 h0_9) v0) (fs := fsGW a0 (rf10 (a1 0) h0_1 h0_2 (a2 0) h0_4 h0_5 h0_6 h0_7 h0_8 h0_9) v0) (v := .ref (a1 0)) 0 0 0 rfl q_GW (by decide) (by decide +kernel) g_GW_house dX8_room_124 ?_
                  refine ww_get C clOK2 in_X8_room_X2 (w := wHouse E a1 v1) (fs := fsHouse a1 v1) (v := .ref (a1 11)) 1 0 17 rfl q_House (by decide) (by decide +kernel) g_House_runs dX8_room_127 ?_
                  refine ww_iload_n C dX8_room_130 rfl 1 rfl ?_
                  obtain ⟨g_7, hf⟩ := gdE hf
                  refine ww_iald C (f := House_runs v1) (w := wHouse E a1 v1) 1 11 rfl c_House_runs (inB_vp g_7) dX8_room_131 ?_
                  obtain rfl := Option.some.inj hf
                  exact ww_iret C ⟨rfl, rfl⟩ dX8_room_132
                · replace hf := ifF c_16 hf
                  by_cases c_17 : x2 = 7
                  · replace hf := ifT c_17 hf
                    refine ww_tabIn (off := 127) (tgt := 133) C dX8_room_6 (fun z => c_9 (Or.inl z)) (fun z => c_9 (Or.inr z)) (by rw [c_17]; decide) (by decide) ?_
                    refine ww_aload_n C dX8_room_133 rfl 0 rfl ?_
                    refine ww_get C clOK8 in_X8_room_X8 (w := wGW E a0 (rf10 (a1 0) h0_1 h0_2 (a2 0) h0_4 h0_5 h0_6 h0_7 h0_8 h0_9) v0) (fs := fsGW a0 (rf10 (a1 0) h0_1 h0_2 (a2 0) h0_4 h0_5 h0_6 h0_7 h0_8 h0_9) v0) (v := .ref (a1 0)) 0 0 0 rfl q_GW (by decide) (by decide +kernel) g_GW_house dX8_room_134 ?_
                    refine ww_get C clOK2 in_X8_room_X2 (w := wHouse E a1 v1) (fs := fsHouse a1 v1) (v := .ref (a1 12)) 1 0 18 rfl q_House (by decide) (by decide +kernel) g_House_longestRuns dX8_room_137 ?_
                    refine ww_iload_n C dX8_room_140 rfl 1 rfl ?_
                    obtain ⟨g_8, hf⟩ := gdE hf
                    refine ww_iald C (f := House_longestRuns v1) (w := wHouse E a1 v1) 1 12 rfl c_House_longestRuns (inB_vp g_8) dX8_room_141 ?_
                    obtain rfl := Option.some.inj hf
                    exact ww_iret C ⟨rfl, rfl⟩ dX8_room_142
                  · replace hf := ifF c_17 hf
                    cases hf

theorem yk_X8_room : yX8_room.cls = RX8 ∧ yX8_room.cls ≠ "java/lang/invoke/MethodHandle" ∧ yX8_room.cls ≠ "java/lang/invoke/VarHandle" ∧ (parseMethodDescriptor yX8_room.desc).map (fun d => d.parameters.length) = some 2 := by decide +kernel
abbrev rmX8_guard : Room := { frames := 2, cells := 0, slots := 0, locals := 44 }
set_option maxRecDepth 20000 in
theorem in_X8_guard_X2 : ∀ w ∈ u_ws RX2 TX2 19, w ∈ wsX8_guard := by decide +kernel
set_option maxRecDepth 20000 in
theorem in_X8_guard_X8 : ∀ w ∈ u_ws RX8 TX8 14, w ∈ wsX8_guard := by decide +kernel
set_option maxHeartbeats 4000000 in
set_option maxRecDepth 100000 in
theorem c_X8_guard {E : Ex} {a0 : Nat → Nat} {a1 : Nat → Nat} {h0_1 h0_2 h0_3 h0_4 h0_5 h0_6 h0_7 h0_8 h0_9 : Nat} {x1 : Int32} {x2 : Int32} {v0 : GWV} {v1 : HouseV} {r : Int32} (hf : GW_guard x1 x2 v0 v1 = some r) : Ct E yX8_guard wsX8_guard rmX8_guard [.ref (a0 0), .int x1, .int x2] [wGW E a0 (rf10 (a1 0) h0_1 h0_2 h0_3 h0_4 h0_5 h0_6 h0_7 h0_8 h0_9) v0, wHouse E a1 v1] (fun rv g => rv = some (.int r) ∧ g = [wGW E a0 (rf10 (a1 0) h0_1 h0_2 h0_3 h0_4 h0_5 h0_6 h0_7 h0_8 h0_9) v0, wHouse E a1 v1]) := by
  refine ct_of (own := RX8) (by decide +kernel) rfl rfl (Nat.le_of_ble_eq_true rfl) (fun K C => ?_)
  refine ww_sub C (lv' := [(0, .ref (a0 0)), (1, .int x1), (2, .int x2)]) [0, 1, 2] rfl ?_
  rw [GW_guard] at hf
  refine ww_aload_n C dX8_guard_0 rfl 0 rfl ?_
  refine ww_iload_n C dX8_guard_1 rfl 1 rfl ?_
  obtain ⟨p2, hp2, hf⟩ := bdE hf
  refine ww_callV C (As := [.int x1]) (st := []) (gr := []) (c_X8_needGuard (E := E) (a0 := a0) (h0_1 := h0_1) (h0_2 := h0_2) (h0_3 := h0_3) (h0_4 := h0_4) (h0_5 := h0_5) (h0_6 := h0_6) (h0_7 := h0_7) (h0_8 := h0_8) (h0_9 := h0_9) (a1 := a1) hp2) gX8_guard_X8_needGuard rfl yk_X8_needGuard ⟨by decide, Nat.le_of_ble_eq_true rfl⟩ ⟨by decide, by decide⟩ clOK8 0 0 rfl rfl [0, 1] [] 2 rfl (by decide) rfl rfl (Nat.le_of_ble_eq_true rfl) dX8_guard_2 ?_
  rintro _ _ ⟨rfl, rfl⟩
  refine ww_perm (gs' := [wGW E a0 (rf10 (a1 0) h0_1 h0_2 h0_3 h0_4 h0_5 h0_6 h0_7 h0_8 h0_9) v0, wHouse E a1 v1]) [0, 1] 2 rfl (by decide) rfl ?_
  refine ww_iload_n C dX8_guard_5 rfl 2 rfl ?_
  by_cases c_4 : Int32.toInt x2 < 0 ∨ 3 < Int32.toInt x2
  · replace hf := ifT c_4 hf
    refine ww_tabOut (tgt := 85) C dX8_guard_6 c_4 (by decide) ?_
    cases hf
  · replace hf := ifF c_4 hf
    by_cases c_5 : x2 = 0
    · replace hf := ifT c_5 hf
      refine ww_tabIn (off := 30) (tgt := 36) C dX8_guard_6 (fun z => c_4 (Or.inl z)) (fun z => c_4 (Or.inr z)) (by rw [c_5]; decide) (by decide) ?_
      refine ww_aload_n C dX8_guard_36 rfl 0 rfl ?_
      refine ww_get C clOK8 in_X8_guard_X8 (w := wGW E a0 (rf10 (a1 0) h0_1 h0_2 h0_3 h0_4 h0_5 h0_6 h0_7 h0_8 h0_9) v0) (fs := fsGW a0 (rf10 (a1 0) h0_1 h0_2 h0_3 h0_4 h0_5 h0_6 h0_7 h0_8 h0_9) v0) (v := .ref (a1 0)) 0 0 0 rfl q_GW (by decide) (by decide +kernel) g_GW_house dX8_guard_37 ?_
      refine ww_get C clOK2 in_X8_guard_X2 (w := wHouse E a1 v1) (fs := fsHouse a1 v1) (v := .ref (a1 5)) 1 0 11 rfl q_House (by decide) (by decide +kernel) g_House_periods dX8_guard_40 ?_
      refine ww_iload_n C dX8_guard_43 rfl 1 rfl ?_
      obtain ⟨g_1, hf⟩ := gdE hf
      refine ww_iald C (f := House_periods v1) (w := wHouse E a1 v1) 1 5 rfl c_House_periods (inB_vp g_1) dX8_guard_44 ?_
      obtain rfl := Option.some.inj hf
      exact ww_iret C ⟨rfl, rfl⟩ dX8_guard_45
    · replace hf := ifF c_5 hf
      by_cases c_6 : x2 = 1
      · replace hf := ifT c_6 hf
        refine ww_tabIn (off := 40) (tgt := 46) C dX8_guard_6 (fun z => c_4 (Or.inl z)) (fun z => c_4 (Or.inr z)) (by rw [c_6]; decide) (by decide) ?_
        refine ww_aload_n C dX8_guard_46 rfl 0 rfl ?_
        refine ww_get C clOK8 in_X8_guard_X8 (w := wGW E a0 (rf10 (a1 0) h0_1 h0_2 h0_3 h0_4 h0_5 h0_6 h0_7 h0_8 h0_9) v0) (fs := fsGW a0 (rf10 (a1 0) h0_1 h0_2 h0_3 h0_4 h0_5 h0_6 h0_7 h0_8 h0_9) v0) (v := .ref (a1 0)) 0 0 0 rfl q_GW (by decide) (by decide +kernel) g_GW_house dX8_guard_47 ?_
        refine ww_get C clOK2 in_X8_guard_X2 (w := wHouse E a1 v1) (fs := fsHouse a1 v1) (v := .ref (a1 6)) 1 0 12 rfl q_House (by decide) (by decide +kernel) g_House_phases dX8_guard_50 ?_
        refine ww_iload_n C dX8_guard_53 rfl 1 rfl ?_
        obtain ⟨g_2, hf⟩ := gdE hf
        refine ww_iald C (f := House_phases v1) (w := wHouse E a1 v1) 1 6 rfl c_House_phases (inB_vp g_2) dX8_guard_54 ?_
        obtain rfl := Option.some.inj hf
        exact ww_iret C ⟨rfl, rfl⟩ dX8_guard_55
      · replace hf := ifF c_6 hf
        by_cases c_7 : x2 = 2
        · replace hf := ifT c_7 hf
          refine ww_tabIn (off := 50) (tgt := 56) C dX8_guard_6 (fun z => c_4 (Or.inl z)) (fun z => c_4 (Or.inr z)) (by rw [c_7]; decide) (by decide) ?_
          refine ww_aload_n C dX8_guard_56 rfl 0 rfl ?_
          refine ww_get C clOK8 in_X8_guard_X8 (w := wGW E a0 (rf10 (a1 0) h0_1 h0_2 h0_3 h0_4 h0_5 h0_6 h0_7 h0_8 h0_9) v0) (fs := fsGW a0 (rf10 (a1 0) h0_1 h0_2 h0_3 h0_4 h0_5 h0_6 h0_7 h0_8 h0_9) v0) (v := .ref (a1 0)) 0 0 0 rfl q_GW (by decide) (by decide +kernel) g_GW_house dX8_guard_57 ?_
          refine ww_iload_n C dX8_guard_60 rfl 1 rfl ?_
          refine ww_aload_n C dX8_guard_61 rfl 0 rfl ?_
          refine ww_get C clOK8 in_X8_guard_X8 (w := wGW E a0 (rf10 (a1 0) h0_1 h0_2 h0_3 h0_4 h0_5 h0_6 h0_7 h0_8 h0_9) v0) (fs := fsGW a0 (rf10 (a1 0) h0_1 h0_2 h0_3 h0_4 h0_5 h0_6 h0_7 h0_8 h0_9) v0) (v := .ref (a1 0)) 0 0 0 rfl q_GW (by decide) (by decide +kernel) g_GW_house dX8_guard_62 ?_
          refine ww_get C clOK2 in_X8_guard_X2 (w := wHouse E a1 v1) (fs := fsHouse a1 v1) (v := .int (House_minute v1)) 1 0 3 rfl q_House (by decide) (by decide +kernel) g_House_minute dX8_guard_65 ?_
          obtain ⟨p68, hp68, hf⟩ := bdE hf
          refine ww_callV C (As := [.int x1, .int (House_minute v1)]) (st := []) (gr := [wGW E a0 (rf10 (a1 0) h0_1 h0_2 h0_3 h0_4 h0_5 h0_6 h0_7 h0_8 h0_9) v0]) (c_X2_roomAt (E := E) (a0 := a1) hp68) gX8_guard_X2_roomAt rfl yk_X2_roomAt ⟨by decide, Nat.le_of_ble_eq_true rfl⟩ ⟨by decide, by decide⟩ clOK2 0 0 rfl rfl [1] [0] 2 rfl (by decide) rfl rfl (Nat.le_of_ble_eq_true rfl) dX8_guard_68 ?_
          rintro _ _ ⟨rfl, rfl⟩
          refine ww_perm (gs' := [wGW E a0 (rf10 (a1 0) h0_1 h0_2 h0_3 h0_4 h0_5 h0_6 h0_7 h0_8 h0_9) v0, wHouse E a1 v1]) [1, 0] 2 rfl (by decide) rfl ?_
          obtain rfl := Option.some.inj hf
          exact ww_iret C ⟨rfl, rfl⟩ dX8_guard_71
        · replace hf := ifF c_7 hf
          by_cases c_8 : x2 = 3
          · replace hf := ifT c_8 hf
            refine ww_tabIn (off := 66) (tgt := 72) C dX8_guard_6 (fun z => c_4 (Or.inl z)) (fun z => c_4 (Or.inr z)) (by rw [c_8]; decide) (by decide) ?_
            refine ww_aload_n C dX8_guard_72 rfl 0 rfl ?_
            refine ww_get C clOK8 in_X8_guard_X8 (w := wGW E a0 (rf10 (a1 0) h0_1 h0_2 h0_3 h0_4 h0_5 h0_6 h0_7 h0_8 h0_9) v0) (fs := fsGW a0 (rf10 (a1 0) h0_1 h0_2 h0_3 h0_4 h0_5 h0_6 h0_7 h0_8 h0_9) v0) (v := .ref (a1 0)) 0 0 0 rfl q_GW (by decide) (by decide +kernel) g_GW_house dX8_guard_73 ?_
            refine ww_get C clOK2 in_X8_guard_X2 (w := wHouse E a1 v1) (fs := fsHouse a1 v1) (v := .ref (a1 8)) 1 0 14 rfl q_House (by decide) (by decide +kernel) g_House_walked dX8_guard_76 ?_
            refine ww_iload_n C dX8_guard_79 rfl 1 rfl ?_
            obtain ⟨g_3, hf⟩ := gdE hf
            refine ww_iald C (f := House_walked v1) (w := wHouse E a1 v1) 1 8 rfl c_House_walked (inB_vp g_3) dX8_guard_80 ?_
            obtain ⟨p81, hp81, hf⟩ := bdE hf
            refine ww_callS C (As := [.int ((House_walked v1) (Int32.toNatClampNeg x1))]) (st := []) (gr := [wGW E a0 (rf10 (a1 0) h0_1 h0_2 h0_3 h0_4 h0_5 h0_6 h0_7 h0_8 h0_9) v0, wHouse E a1 v1]) (c_J6_bitCount_0f7a4 (E := E)  hp81) gX8_guard_J6_bitCount_0f7a4 rfl ysk_J6_bitCount_0f7a4 ⟨by decide, Nat.le_of_ble_eq_true rfl⟩ ⟨by decide, by decide⟩ [] [0, 1] 2 rfl (by decide) rfl rfl (Nat.le_of_ble_eq_true rfl) dX8_guard_81 ?_
            rintro _ _ ⟨rfl, rfl⟩
            refine ww_perm (gs' := [wGW E a0 (rf10 (a1 0) h0_1 h0_2 h0_3 h0_4 h0_5 h0_6 h0_7 h0_8 h0_9) v0, wHouse E a1 v1]) [0, 1] 2 rfl (by decide) rfl ?_
            obtain rfl := Option.some.inj hf
            exact ww_iret C ⟨rfl, rfl⟩ dX8_guard_84
          · replace hf := ifF c_8 hf
            cases hf

theorem yk_X8_guard : yX8_guard.cls = RX8 ∧ yX8_guard.cls ≠ "java/lang/invoke/MethodHandle" ∧ yX8_guard.cls ≠ "java/lang/invoke/VarHandle" ∧ (parseMethodDescriptor yX8_guard.desc).map (fun d => d.parameters.length) = some 2 := by decide +kernel
abbrev rmX8_walk : Room := { frames := 2, cells := 0, slots := 0, locals := 43 }
set_option maxRecDepth 20000 in
theorem in_X8_walk_X8 : ∀ w ∈ u_ws RX8 TX8 14, w ∈ wsX8_walk := by decide +kernel
set_option maxHeartbeats 4000000 in
set_option maxRecDepth 100000 in
theorem c_X8_walk {E : Ex} {a0 : Nat → Nat} {a1 : Nat → Nat} {h0_1 h0_2 h0_3 h0_4 h0_5 h0_6 h0_7 h0_8 h0_9 : Nat} {x1 : Int32} {x2 : Int32} {v0 : GWV} {v1 : HouseV} {r : Int32} (hf : GW_walk x1 x2 v0 v1 = some r) : Ct E yX8_walk wsX8_walk rmX8_walk [.ref (a0 0), .int x1, .int x2] [wGW E a0 (rf10 (a1 0) h0_1 h0_2 h0_3 h0_4 h0_5 h0_6 h0_7 h0_8 h0_9) v0, wHouse E a1 v1] (fun rv g => rv = some (.int r) ∧ g = [wGW E a0 (rf10 (a1 0) h0_1 h0_2 h0_3 h0_4 h0_5 h0_6 h0_7 h0_8 h0_9) v0, wHouse E a1 v1]) := by
  refine ct_of (own := RX8) (by decide +kernel) rfl rfl (Nat.le_of_ble_eq_true rfl) (fun K C => ?_)
  refine ww_sub C (lv' := [(0, .ref (a0 0)), (1, .int x1), (2, .int x2)]) [0, 1, 2] rfl ?_
  rw [GW_walk] at hf
  refine ww_aload_n C dX8_walk_0 rfl 0 rfl ?_
  refine ww_iload_n C dX8_walk_1 rfl 1 rfl ?_
  obtain ⟨p2, hp2, hf⟩ := bdE hf
  refine ww_callV C (As := [.int x1]) (st := []) (gr := []) (c_X8_needGuard (E := E) (a0 := a0) (h0_1 := h0_1) (h0_2 := h0_2) (h0_3 := h0_3) (h0_4 := h0_4) (h0_5 := h0_5) (h0_6 := h0_6) (h0_7 := h0_7) (h0_8 := h0_8) (h0_9 := h0_9) (a1 := a1) hp2) gX8_walk_X8_needGuard rfl yk_X8_needGuard ⟨by decide, Nat.le_of_ble_eq_true rfl⟩ ⟨by decide, by decide⟩ clOK8 0 0 rfl rfl [0, 1] [] 2 rfl (by decide) rfl rfl (Nat.le_of_ble_eq_true rfl) dX8_walk_2 ?_
  rintro _ _ ⟨rfl, rfl⟩
  refine ww_perm (gs' := [wGW E a0 (rf10 (a1 0) h0_1 h0_2 h0_3 h0_4 h0_5 h0_6 h0_7 h0_8 h0_9) v0, wHouse E a1 v1]) [0, 1] 2 rfl (by decide) rfl ?_
  refine ww_aload_n C dX8_walk_5 rfl 0 rfl ?_
  refine ww_get C clOK8 in_X8_walk_X8 (w := wGW E a0 (rf10 (a1 0) h0_1 h0_2 h0_3 h0_4 h0_5 h0_6 h0_7 h0_8 h0_9) v0) (fs := fsGW a0 (rf10 (a1 0) h0_1 h0_2 h0_3 h0_4 h0_5 h0_6 h0_7 h0_8 h0_9) v0) (v := .ref (a1 0)) 0 0 0 rfl q_GW (by decide) (by decide +kernel) g_GW_house dX8_walk_6 ?_
  refine ww_iload_n C dX8_walk_9 rfl 1 rfl ?_
  refine ww_iload_n C dX8_walk_10 rfl 2 rfl ?_
  obtain ⟨p11, hp11, hf⟩ := bdE hf
  refine ww_callV C (As := [.int x1, .int x2]) (st := []) (gr := [wGW E a0 (rf10 (a1 0) h0_1 h0_2 h0_3 h0_4 h0_5 h0_6 h0_7 h0_8 h0_9) v0]) (c_X2_walkRoom (E := E) (a0 := a1) hp11) gX8_walk_X2_walkRoom rfl yk_X2_walkRoom ⟨by decide, Nat.le_of_ble_eq_true rfl⟩ ⟨by decide, by decide⟩ clOK2 0 0 rfl rfl [1] [0] 2 rfl (by decide) rfl rfl (Nat.le_of_ble_eq_true rfl) dX8_walk_11 ?_
  rintro _ _ ⟨rfl, rfl⟩
  refine ww_perm (gs' := [wGW E a0 (rf10 (a1 0) h0_1 h0_2 h0_3 h0_4 h0_5 h0_6 h0_7 h0_8 h0_9) v0, wHouse E a1 v1]) [1, 0] 2 rfl (by decide) rfl ?_
  obtain rfl := Option.some.inj hf
  exact ww_iret C ⟨rfl, rfl⟩ dX8_walk_14

theorem yk_X8_walk : yX8_walk.cls = RX8 ∧ yX8_walk.cls ≠ "java/lang/invoke/MethodHandle" ∧ yX8_walk.cls ≠ "java/lang/invoke/VarHandle" ∧ (parseMethodDescriptor yX8_walk.desc).map (fun d => d.parameters.length) = some 2 := by decide +kernel
abbrev rmX8_roomOf : Room := { frames := 2, cells := 0, slots := 0, locals := 44 }
set_option maxRecDepth 20000 in
theorem in_X8_roomOf_X8 : ∀ w ∈ u_ws RX8 TX8 14, w ∈ wsX8_roomOf := by decide +kernel
set_option maxHeartbeats 4000000 in
set_option maxRecDepth 100000 in
theorem c_X8_roomOf {E : Ex} {a0 : Nat → Nat} {a1 : Nat → Nat} {h0_1 h0_2 h0_3 h0_4 h0_5 h0_6 h0_7 h0_8 h0_9 : Nat} {x1 : Int32} {x2 : Int32} {v0 : GWV} {v1 : HouseV} {r : Int32} (hf : GW_roomOf x1 x2 v0 v1 = some r) : Ct E yX8_roomOf wsX8_roomOf rmX8_roomOf [.ref (a0 0), .int x1, .int x2] [wGW E a0 (rf10 (a1 0) h0_1 h0_2 h0_3 h0_4 h0_5 h0_6 h0_7 h0_8 h0_9) v0, wHouse E a1 v1] (fun rv g => rv = some (.int r) ∧ g = [wGW E a0 (rf10 (a1 0) h0_1 h0_2 h0_3 h0_4 h0_5 h0_6 h0_7 h0_8 h0_9) v0, wHouse E a1 v1]) := by
  refine ct_of (own := RX8) (by decide +kernel) rfl rfl (Nat.le_of_ble_eq_true rfl) (fun K C => ?_)
  refine ww_sub C (lv' := [(0, .ref (a0 0)), (1, .int x1), (2, .int x2)]) [0, 1, 2] rfl ?_
  rw [GW_roomOf] at hf
  refine ww_aload_n C dX8_roomOf_0 rfl 0 rfl ?_
  refine ww_iload_n C dX8_roomOf_1 rfl 1 rfl ?_
  obtain ⟨p2, hp2, hf⟩ := bdE hf
  refine ww_callV C (As := [.int x1]) (st := []) (gr := []) (c_X8_needGuard (E := E) (a0 := a0) (h0_1 := h0_1) (h0_2 := h0_2) (h0_3 := h0_3) (h0_4 := h0_4) (h0_5 := h0_5) (h0_6 := h0_6) (h0_7 := h0_7) (h0_8 := h0_8) (h0_9 := h0_9) (a1 := a1) hp2) gX8_roomOf_X8_needGuard rfl yk_X8_needGuard ⟨by decide, Nat.le_of_ble_eq_true rfl⟩ ⟨by decide, by decide⟩ clOK8 0 0 rfl rfl [0, 1] [] 2 rfl (by decide) rfl rfl (Nat.le_of_ble_eq_true rfl) dX8_roomOf_2 ?_
  rintro _ _ ⟨rfl, rfl⟩
  refine ww_perm (gs' := [wGW E a0 (rf10 (a1 0) h0_1 h0_2 h0_3 h0_4 h0_5 h0_6 h0_7 h0_8 h0_9) v0, wHouse E a1 v1]) [0, 1] 2 rfl (by decide) rfl ?_
  refine ww_iload_n C dX8_roomOf_5 rfl 2 rfl ?_
  obtain ⟨p6, hp6, hf⟩ := bdE hf
  refine ww_callS C (As := [.int x2]) (st := []) (gr := [wGW E a0 (rf10 (a1 0) h0_1 h0_2 h0_3 h0_4 h0_5 h0_6 h0_7 h0_8 h0_9) v0, wHouse E a1 v1]) (c_X8_needNotNegative (E := E)  hp6) gX8_roomOf_X8_needNotNegative rfl ysk_X8_needNotNegative ⟨by decide, Nat.le_of_ble_eq_true rfl⟩ ⟨by decide, by decide⟩ [] [0, 1] 2 rfl (by decide) rfl rfl (Nat.le_of_ble_eq_true rfl) dX8_roomOf_6 ?_
  rintro _ _ ⟨rfl, rfl⟩
  refine ww_perm (gs' := [wGW E a0 (rf10 (a1 0) h0_1 h0_2 h0_3 h0_4 h0_5 h0_6 h0_7 h0_8 h0_9) v0, wHouse E a1 v1]) [0, 1] 2 rfl (by decide) rfl ?_
  refine ww_aload_n C dX8_roomOf_9 rfl 0 rfl ?_
  refine ww_get C clOK8 in_X8_roomOf_X8 (w := wGW E a0 (rf10 (a1 0) h0_1 h0_2 h0_3 h0_4 h0_5 h0_6 h0_7 h0_8 h0_9) v0) (fs := fsGW a0 (rf10 (a1 0) h0_1 h0_2 h0_3 h0_4 h0_5 h0_6 h0_7 h0_8 h0_9) v0) (v := .ref (a1 0)) 0 0 0 rfl q_GW (by decide) (by decide +kernel) g_GW_house dX8_roomOf_10 ?_
  refine ww_iload_n C dX8_roomOf_13 rfl 1 rfl ?_
  refine ww_iload_n C dX8_roomOf_14 rfl 2 rfl ?_
  obtain ⟨p15, hp15, hf⟩ := bdE hf
  refine ww_callV C (As := [.int x1, .int x2]) (st := []) (gr := [wGW E a0 (rf10 (a1 0) h0_1 h0_2 h0_3 h0_4 h0_5 h0_6 h0_7 h0_8 h0_9) v0]) (c_X2_roomAt (E := E) (a0 := a1) hp15) gX8_roomOf_X2_roomAt rfl yk_X2_roomAt ⟨by decide, Nat.le_of_ble_eq_true rfl⟩ ⟨by decide, by decide⟩ clOK2 0 0 rfl rfl [1] [0] 2 rfl (by decide) rfl rfl (Nat.le_of_ble_eq_true rfl) dX8_roomOf_15 ?_
  rintro _ _ ⟨rfl, rfl⟩
  refine ww_perm (gs' := [wGW E a0 (rf10 (a1 0) h0_1 h0_2 h0_3 h0_4 h0_5 h0_6 h0_7 h0_8 h0_9) v0, wHouse E a1 v1]) [1, 0] 2 rfl (by decide) rfl ?_
  obtain rfl := Option.some.inj hf
  exact ww_iret C ⟨rfl, rfl⟩ dX8_roomOf_18

theorem yk_X8_roomOf : yX8_roomOf.cls = RX8 ∧ yX8_roomOf.cls ≠ "java/lang/invoke/MethodHandle" ∧ yX8_roomOf.cls ≠ "java/lang/invoke/VarHandle" ∧ (parseMethodDescriptor yX8_roomOf.desc).map (fun d => d.parameters.length) = some 2 := by decide +kernel
abbrev rmX8_guardsIn : Room := { frames := 3, cells := 0, slots := 0, locals := 68 }
set_option maxRecDepth 20000 in
theorem in_X8_guardsIn_X8 : ∀ w ∈ u_ws RX8 TX8 14, w ∈ wsX8_guardsIn := by decide +kernel
set_option maxHeartbeats 4000000 in
set_option maxRecDepth 100000 in
theorem c_X8_guardsIn {E : Ex} {a0 : Nat → Nat} {a1 : Nat → Nat} {h0_1 h0_2 h0_3 h0_4 h0_5 h0_6 h0_7 h0_8 h0_9 : Nat} {x1 : Int32} {x2 : Int32} {v0 : GWV} {v1 : HouseV} {r : Int32} (hf : GW_guardsIn x1 x2 v0 v1 = some r) : Ct E yX8_guardsIn wsX8_guardsIn rmX8_guardsIn [.ref (a0 0), .int x1, .int x2] [wGW E a0 (rf10 (a1 0) h0_1 h0_2 h0_3 h0_4 h0_5 h0_6 h0_7 h0_8 h0_9) v0, wHouse E a1 v1] (fun rv g => rv = some (.int r) ∧ g = [wGW E a0 (rf10 (a1 0) h0_1 h0_2 h0_3 h0_4 h0_5 h0_6 h0_7 h0_8 h0_9) v0, wHouse E a1 v1]) := by
  refine ct_of (own := RX8) (by decide +kernel) rfl rfl (Nat.le_of_ble_eq_true rfl) (fun K C => ?_)
  refine ww_sub C (lv' := [(0, .ref (a0 0)), (1, .int x1), (2, .int x2)]) [0, 1, 2] rfl ?_
  rw [GW_guardsIn] at hf
  refine ww_aload_n C dX8_guardsIn_0 rfl 0 rfl ?_
  refine ww_iload_n C dX8_guardsIn_1 rfl 1 rfl ?_
  obtain ⟨p2, hp2, hf⟩ := bdE hf
  refine ww_callV C (As := [.int x1]) (st := []) (gr := []) (c_X8_needRoom (E := E) (a0 := a0) (h0_1 := h0_1) (h0_2 := h0_2) (h0_3 := h0_3) (h0_4 := h0_4) (h0_5 := h0_5) (h0_6 := h0_6) (h0_7 := h0_7) (h0_8 := h0_8) (h0_9 := h0_9) (a1 := a1) hp2) gX8_guardsIn_X8_needRoom rfl yk_X8_needRoom ⟨by decide, Nat.le_of_ble_eq_true rfl⟩ ⟨by decide, by decide⟩ clOK8 0 0 rfl rfl [0, 1] [] 2 rfl (by decide) rfl rfl (Nat.le_of_ble_eq_true rfl) dX8_guardsIn_2 ?_
  rintro _ _ ⟨rfl, rfl⟩
  refine ww_perm (gs' := [wGW E a0 (rf10 (a1 0) h0_1 h0_2 h0_3 h0_4 h0_5 h0_6 h0_7 h0_8 h0_9) v0, wHouse E a1 v1]) [0, 1] 2 rfl (by decide) rfl ?_
  refine ww_iload_n C dX8_guardsIn_5 rfl 2 rfl ?_
  obtain ⟨p6, hp6, hf⟩ := bdE hf
  refine ww_callS C (As := [.int x2]) (st := []) (gr := [wGW E a0 (rf10 (a1 0) h0_1 h0_2 h0_3 h0_4 h0_5 h0_6 h0_7 h0_8 h0_9) v0, wHouse E a1 v1]) (c_X8_needNotNegative (E := E)  hp6) gX8_guardsIn_X8_needNotNegative rfl ysk_X8_needNotNegative ⟨by decide, Nat.le_of_ble_eq_true rfl⟩ ⟨by decide, by decide⟩ [] [0, 1] 2 rfl (by decide) rfl rfl (Nat.le_of_ble_eq_true rfl) dX8_guardsIn_6 ?_
  rintro _ _ ⟨rfl, rfl⟩
  refine ww_perm (gs' := [wGW E a0 (rf10 (a1 0) h0_1 h0_2 h0_3 h0_4 h0_5 h0_6 h0_7 h0_8 h0_9) v0, wHouse E a1 v1]) [0, 1] 2 rfl (by decide) rfl ?_
  refine ww_aload_n C dX8_guardsIn_9 rfl 0 rfl ?_
  refine ww_get C clOK8 in_X8_guardsIn_X8 (w := wGW E a0 (rf10 (a1 0) h0_1 h0_2 h0_3 h0_4 h0_5 h0_6 h0_7 h0_8 h0_9) v0) (fs := fsGW a0 (rf10 (a1 0) h0_1 h0_2 h0_3 h0_4 h0_5 h0_6 h0_7 h0_8 h0_9) v0) (v := .ref (a1 0)) 0 0 0 rfl q_GW (by decide) (by decide +kernel) g_GW_house dX8_guardsIn_10 ?_
  refine ww_iload_n C dX8_guardsIn_13 rfl 1 rfl ?_
  refine ww_iload_n C dX8_guardsIn_14 rfl 2 rfl ?_
  obtain ⟨p15, hp15, hf⟩ := bdE hf
  refine ww_callV C (As := [.int x1, .int x2]) (st := []) (gr := [wGW E a0 (rf10 (a1 0) h0_1 h0_2 h0_3 h0_4 h0_5 h0_6 h0_7 h0_8 h0_9) v0]) (c_X2_guardsAt (E := E) (a0 := a1) hp15) gX8_guardsIn_X2_guardsAt rfl yk_X2_guardsAt ⟨by decide, Nat.le_of_ble_eq_true rfl⟩ ⟨by decide, by decide⟩ clOK2 0 0 rfl rfl [1] [0] 2 rfl (by decide) rfl rfl (Nat.le_of_ble_eq_true rfl) dX8_guardsIn_15 ?_
  rintro _ _ ⟨rfl, rfl⟩
  refine ww_perm (gs' := [wGW E a0 (rf10 (a1 0) h0_1 h0_2 h0_3 h0_4 h0_5 h0_6 h0_7 h0_8 h0_9) v0, wHouse E a1 v1]) [1, 0] 2 rfl (by decide) rfl ?_
  obtain rfl := Option.some.inj hf
  exact ww_iret C ⟨rfl, rfl⟩ dX8_guardsIn_18

theorem yk_X8_guardsIn : yX8_guardsIn.cls = RX8 ∧ yX8_guardsIn.cls ≠ "java/lang/invoke/MethodHandle" ∧ yX8_guardsIn.cls ≠ "java/lang/invoke/VarHandle" ∧ (parseMethodDescriptor yX8_guardsIn.desc).map (fun d => d.parameters.length) = some 2 := by decide +kernel
abbrev rmX8_nextSeen : Room := { frames := 3, cells := 0, slots := 0, locals := 68 }
set_option maxRecDepth 20000 in
theorem in_X8_nextSeen_X8 : ∀ w ∈ u_ws RX8 TX8 14, w ∈ wsX8_nextSeen := by decide +kernel
set_option maxHeartbeats 4000000 in
set_option maxRecDepth 100000 in
theorem w_X8_nextSeen_23 {E : Ex} {K : Kx} (C : Cx E K cX8_nextSeen 5 (some .int) RX8 wsX8_nextSeen rmX8_nextSeen) {a0 : Nat → Nat} {a1 : Nat → Nat} {h0_1 h0_2 h0_3 h0_4 h0_5 h0_6 h0_7 h0_8 h0_9 : Nat} {x1 : Int32} {x2 : Int32} {v0 : GWV} {v1 : HouseV} {x3 : Int32} {r : Int32} : ∀ (n : Nat)  (x4 : Int32), GW_nextSeen_23 x1 x2 v0 v1 x3 n x4 = some r → WW E K 0 0 (QQ E K (fun rv g => rv = some (.int r) ∧ g = [wGW E a0 (rf10 (a1 0) h0_1 h0_2 h0_3 h0_4 h0_5 h0_6 h0_7 h0_8 h0_9) v0, wHouse E a1 v1]) 0 0) 23 [(0, .ref (a0 0)), (1, .int x1), (2, .int x2), (3, .int x3), (4, .int x4)] [] [wGW E a0 (rf10 (a1 0) h0_1 h0_2 h0_3 h0_4 h0_5 h0_6 h0_7 h0_8 h0_9) v0, wHouse E a1 v1] := by
  intro n
  induction n with
  | zero =>
    intro  x4 hf
    simp [GW_nextSeen_23] at hf
  | succ n ih =>
    intro  x4 hf
    rw [GW_nextSeen_23] at hf
    refine ww_iload C dX8_nextSeen_23 4 rfl ?_
    refine ww_iload_n C dX8_nextSeen_25 rfl 3 rfl ?_
    refine ww_icmp_ge (tgt := 55) C dX8_nextSeen_26 (by decide) (fun c_1 => ?_) (fun c_1 => ?_)
    · replace hf := ifT c_1 hf
      refine ww_iconst (v := (-1)) C dX8_nextSeen_55 (by decide) ?_
      obtain rfl := Option.some.inj hf
      exact ww_iret C ⟨rfl, rfl⟩ dX8_nextSeen_56
    · replace hf := ifF c_1 hf
      refine ww_aload_n C dX8_nextSeen_29 rfl 0 rfl ?_
      refine ww_get C clOK8 in_X8_nextSeen_X8 (w := wGW E a0 (rf10 (a1 0) h0_1 h0_2 h0_3 h0_4 h0_5 h0_6 h0_7 h0_8 h0_9) v0) (fs := fsGW a0 (rf10 (a1 0) h0_1 h0_2 h0_3 h0_4 h0_5 h0_6 h0_7 h0_8 h0_9) v0) (v := .ref (a1 0)) 0 0 0 rfl q_GW (by decide) (by decide +kernel) g_GW_house dX8_nextSeen_30 ?_
      refine ww_iload_n C dX8_nextSeen_33 rfl 1 rfl ?_
      refine ww_iload_n C dX8_nextSeen_34 rfl 2 rfl ?_
      refine ww_iload C dX8_nextSeen_35 4 rfl ?_
      refine ww_iadd C dX8_nextSeen_37 ?_
      obtain ⟨p38, hp38, hf⟩ := bdE hf
      refine ww_callV C (As := [.int x1, .int (x2 + x4)]) (st := []) (gr := [wGW E a0 (rf10 (a1 0) h0_1 h0_2 h0_3 h0_4 h0_5 h0_6 h0_7 h0_8 h0_9) v0]) (c_X2_guardsAt (E := E) (a0 := a1) hp38) gX8_nextSeen_X2_guardsAt rfl yk_X2_guardsAt ⟨by decide, Nat.le_of_ble_eq_true rfl⟩ ⟨by decide, by decide⟩ clOK2 0 0 rfl rfl [1] [0] 2 rfl (by decide) rfl rfl (Nat.le_of_ble_eq_true rfl) dX8_nextSeen_38 ?_
      rintro _ _ ⟨rfl, rfl⟩
      refine ww_perm (gs' := [wGW E a0 (rf10 (a1 0) h0_1 h0_2 h0_3 h0_4 h0_5 h0_6 h0_7 h0_8 h0_9) v0, wHouse E a1 v1]) [1, 0] 2 rfl (by decide) rfl ?_
      refine ww_if_eq (tgt := 49) C dX8_nextSeen_41 (by decide) (fun c_2 => ?_) (fun c_2 => ?_)
      · replace hf := ifT c_2 hf
        obtain ⟨x4_49, e_x4_49⟩ : ∃ y : Int32, y = x4 + 1 := ⟨_, rfl⟩
        replace hf := ltE e_x4_49 hf
        refine ww_iinc (v := x4_49) (lv' := [(4, .int x4_49), (0, .ref (a0 0)), (1, .int x1), (2, .int x2), (3, .int x3)]) C dX8_nextSeen_49 4 rfl (by rw [e_x4_49]; rfl) (by decide) rfl ?_
        refine ww_goto (tgt := 23) C dX8_nextSeen_52 (by decide) ?_
        refine ww_sub C (lv' := [(0, .ref (a0 0)), (1, .int x1), (2, .int x2), (3, .int x3), (4, .int x4_49)]) [1, 2, 3, 4, 0] rfl ?_
        exact ih _ hf
      · replace hf := ifF c_2 hf
        refine ww_iload_n C dX8_nextSeen_44 rfl 2 rfl ?_
        refine ww_iload C dX8_nextSeen_45 4 rfl ?_
        refine ww_iadd C dX8_nextSeen_47 ?_
        obtain rfl := Option.some.inj hf
        exact ww_iret C ⟨rfl, rfl⟩ dX8_nextSeen_48

set_option maxHeartbeats 4000000 in
set_option maxRecDepth 100000 in
theorem c_X8_nextSeen {E : Ex} {a0 : Nat → Nat} {a1 : Nat → Nat} {h0_1 h0_2 h0_3 h0_4 h0_5 h0_6 h0_7 h0_8 h0_9 : Nat} {x1 : Int32} {x2 : Int32} {v0 : GWV} {v1 : HouseV} {r : Int32} (hf : GW_nextSeen x1 x2 v0 v1 = some r) : Ct E yX8_nextSeen wsX8_nextSeen rmX8_nextSeen [.ref (a0 0), .int x1, .int x2] [wGW E a0 (rf10 (a1 0) h0_1 h0_2 h0_3 h0_4 h0_5 h0_6 h0_7 h0_8 h0_9) v0, wHouse E a1 v1] (fun rv g => rv = some (.int r) ∧ g = [wGW E a0 (rf10 (a1 0) h0_1 h0_2 h0_3 h0_4 h0_5 h0_6 h0_7 h0_8 h0_9) v0, wHouse E a1 v1]) := by
  refine ct_of (own := RX8) (by decide +kernel) rfl rfl (Nat.le_of_ble_eq_true rfl) (fun K C => ?_)
  refine ww_sub C (lv' := [(0, .ref (a0 0)), (1, .int x1), (2, .int x2)]) [0, 1, 2] rfl ?_
  rw [GW_nextSeen] at hf
  refine ww_aload_n C dX8_nextSeen_0 rfl 0 rfl ?_
  refine ww_iload_n C dX8_nextSeen_1 rfl 1 rfl ?_
  obtain ⟨p2, hp2, hf⟩ := bdE hf
  refine ww_callV C (As := [.int x1]) (st := []) (gr := []) (c_X8_needRoom (E := E) (a0 := a0) (h0_1 := h0_1) (h0_2 := h0_2) (h0_3 := h0_3) (h0_4 := h0_4) (h0_5 := h0_5) (h0_6 := h0_6) (h0_7 := h0_7) (h0_8 := h0_8) (h0_9 := h0_9) (a1 := a1) hp2) gX8_nextSeen_X8_needRoom rfl yk_X8_needRoom ⟨by decide, Nat.le_of_ble_eq_true rfl⟩ ⟨by decide, by decide⟩ clOK8 0 0 rfl rfl [0, 1] [] 2 rfl (by decide) rfl rfl (Nat.le_of_ble_eq_true rfl) dX8_nextSeen_2 ?_
  rintro _ _ ⟨rfl, rfl⟩
  refine ww_perm (gs' := [wGW E a0 (rf10 (a1 0) h0_1 h0_2 h0_3 h0_4 h0_5 h0_6 h0_7 h0_8 h0_9) v0, wHouse E a1 v1]) [0, 1] 2 rfl (by decide) rfl ?_
  refine ww_iload_n C dX8_nextSeen_5 rfl 2 rfl ?_
  refine ww_iconst (v := 0) C dX8_nextSeen_6 (by decide) ?_
  refine ww_ldc (v := 1000000) C (by decide +kernel) dX8_nextSeen_7 ?_
  obtain ⟨p9, hp9, hf⟩ := bdE hf
  refine ww_callS C (As := [.int x2, .int 0, .int 1000000]) (st := []) (gr := [wGW E a0 (rf10 (a1 0) h0_1 h0_2 h0_3 h0_4 h0_5 h0_6 h0_7 h0_8 h0_9) v0, wHouse E a1 v1]) (c_X8_needRange (E := E)  hp9) gX8_nextSeen_X8_needRange rfl ysk_X8_needRange ⟨by decide, Nat.le_of_ble_eq_true rfl⟩ ⟨by decide, by decide⟩ [] [0, 1] 2 rfl (by decide) rfl rfl (Nat.le_of_ble_eq_true rfl) dX8_nextSeen_9 ?_
  rintro _ _ ⟨rfl, rfl⟩
  refine ww_perm (gs' := [wGW E a0 (rf10 (a1 0) h0_1 h0_2 h0_3 h0_4 h0_5 h0_6 h0_7 h0_8 h0_9) v0, wHouse E a1 v1]) [0, 1] 2 rfl (by decide) rfl ?_
  refine ww_aload_n C dX8_nextSeen_12 rfl 0 rfl ?_
  refine ww_get C clOK8 in_X8_nextSeen_X8 (w := wGW E a0 (rf10 (a1 0) h0_1 h0_2 h0_3 h0_4 h0_5 h0_6 h0_7 h0_8 h0_9) v0) (fs := fsGW a0 (rf10 (a1 0) h0_1 h0_2 h0_3 h0_4 h0_5 h0_6 h0_7 h0_8 h0_9) v0) (v := .ref (a1 0)) 0 0 0 rfl q_GW (by decide) (by decide +kernel) g_GW_house dX8_nextSeen_13 ?_
  obtain ⟨p16, hp16, hf⟩ := bdE hf
  refine ww_callV C (As := []) (st := []) (gr := [wGW E a0 (rf10 (a1 0) h0_1 h0_2 h0_3 h0_4 h0_5 h0_6 h0_7 h0_8 h0_9) v0]) (c_X2_cycleLength (E := E) (a0 := a1) hp16) gX8_nextSeen_X2_cycleLength rfl yk_X2_cycleLength ⟨by decide, Nat.le_of_ble_eq_true rfl⟩ ⟨by decide, by decide⟩ clOK2 0 0 rfl rfl [1] [0] 2 rfl (by decide) rfl rfl (Nat.le_of_ble_eq_true rfl) dX8_nextSeen_16 ?_
  rintro _ _ ⟨rfl, rfl⟩
  refine ww_perm (gs' := [wGW E a0 (rf10 (a1 0) h0_1 h0_2 h0_3 h0_4 h0_5 h0_6 h0_7 h0_8 h0_9) v0, wHouse E a1 v1]) [1, 0] 2 rfl (by decide) rfl ?_
  refine ww_istore_n (lv' := [(3, .int p16), (0, .ref (a0 0)), (1, .int x1), (2, .int x2)]) C dX8_nextSeen_19 rfl (by decide) rfl ?_
  refine ww_iconst (v := 0) C dX8_nextSeen_20 (by decide) ?_
  refine ww_istore (lv' := [(4, .int 0), (3, .int p16), (0, .ref (a0 0)), (1, .int x1), (2, .int x2)]) C dX8_nextSeen_21 (by decide) rfl ?_
  refine ww_sub C (lv' := [(0, .ref (a0 0)), (1, .int x1), (2, .int x2), (3, .int p16), (4, .int 0)]) [2, 3, 4, 1, 0] rfl ?_
  exact w_X8_nextSeen_23 C FU _ hf

theorem yk_X8_nextSeen : yX8_nextSeen.cls = RX8 ∧ yX8_nextSeen.cls ≠ "java/lang/invoke/MethodHandle" ∧ yX8_nextSeen.cls ≠ "java/lang/invoke/VarHandle" ∧ (parseMethodDescriptor yX8_nextSeen.desc).map (fun d => d.parameters.length) = some 2 := by decide +kernel
abbrev rmX8_gapFrom : Room := { frames := 5, cells := 0, slots := 0, locals := 109 }
set_option maxRecDepth 20000 in
theorem in_X8_gapFrom_X6 : ∀ w ∈ u_ws RX6 TX6 8, w ∈ wsX8_gapFrom := by decide +kernel
set_option maxHeartbeats 4000000 in
set_option maxRecDepth 100000 in
theorem c_X8_gapFrom {E : Ex} {a0 : Nat → Nat} {a1 : Nat → Nat} {a2 : Nat → Nat} {h0_1 h0_2 h0_4 h0_5 h0_6 h0_7 h0_8 h0_9 : Nat} {x1 : Int32} {v0 : GWV} {v1 : HouseV} {v2 : SightV} {r : (Int32 × SightV)} (hf : GW_gapFrom x1 v0 v1 v2 = some r) : Ct E yX8_gapFrom wsX8_gapFrom rmX8_gapFrom [.ref (a0 0), .int x1] [wGW E a0 (rf10 (a1 0) h0_1 h0_2 (a2 0) h0_4 h0_5 h0_6 h0_7 h0_8 h0_9) v0, wHouse E a1 v1, wSight E a2 v2] (fun rv g => rv = some (.int r.1) ∧ g = [wGW E a0 (rf10 (a1 0) h0_1 h0_2 (a2 0) h0_4 h0_5 h0_6 h0_7 h0_8 h0_9) v0, wHouse E a1 v1, wSight E a2 r.2]) := by
  refine ct_of (own := RX8) (by decide +kernel) rfl rfl (Nat.le_of_ble_eq_true rfl) (fun K C => ?_)
  refine ww_sub C (lv' := [(0, .ref (a0 0)), (1, .int x1)]) [0, 1] rfl ?_
  rw [GW_gapFrom] at hf
  refine ww_aload_n C dX8_gapFrom_0 rfl 0 rfl ?_
  refine ww_iload_n C dX8_gapFrom_1 rfl 1 rfl ?_
  obtain ⟨p2, hp2, hf⟩ := bdE hf
  refine ww_callV C (As := [.int x1]) (st := []) (gr := [wSight E a2 v2]) (c_X8_needRoom (E := E) (a0 := a0) (h0_1 := h0_1) (h0_2 := h0_2) (h0_3 := a2 0) (h0_4 := h0_4) (h0_5 := h0_5) (h0_6 := h0_6) (h0_7 := h0_7) (h0_8 := h0_8) (h0_9 := h0_9) (a1 := a1) hp2) gX8_gapFrom_X8_needRoom rfl yk_X8_needRoom ⟨by decide, Nat.le_of_ble_eq_true rfl⟩ ⟨by decide, by decide⟩ clOK8 0 0 rfl rfl [0, 1] [2] 3 rfl (by decide) rfl rfl (Nat.le_of_ble_eq_true rfl) dX8_gapFrom_2 ?_
  rintro _ _ ⟨rfl, rfl⟩
  refine ww_perm (gs' := [wGW E a0 (rf10 (a1 0) h0_1 h0_2 (a2 0) h0_4 h0_5 h0_6 h0_7 h0_8 h0_9) v0, wHouse E a1 v1, wSight E a2 v2]) [0, 1, 2] 3 rfl (by decide) rfl ?_
  refine ww_aload_n C dX8_gapFrom_5 rfl 0 rfl ?_
  obtain ⟨p6, hp6, hf⟩ := bdE hf
  refine ww_callV C (As := []) (st := []) (gr := []) (c_X8_measured (E := E) (a0 := a0) (h0_1 := h0_1) (h0_2 := h0_2) (h0_4 := h0_4) (h0_5 := h0_5) (h0_6 := h0_6) (h0_7 := h0_7) (h0_8 := h0_8) (h0_9 := h0_9) (a1 := a1) (a2 := a2) hp6) gX8_gapFrom_X8_measured rfl yk_X8_measured ⟨by decide, Nat.le_of_ble_eq_true rfl⟩ ⟨by decide, by decide⟩ clOK8 0 0 rfl rfl [0, 1, 2] [] 3 rfl (by decide) rfl rfl (Nat.le_of_ble_eq_true rfl) dX8_gapFrom_6 ?_
  rintro _ _ ⟨rfl, rfl⟩
  refine ww_perm (gs' := [wGW E a0 (rf10 (a1 0) h0_1 h0_2 (a2 0) h0_4 h0_5 h0_6 h0_7 h0_8 h0_9) v0, wHouse E a1 v1, wSight E a2 p6]) [0, 1, 2] 3 rfl (by decide) rfl ?_
  refine ww_get C clOK6 in_X8_gapFrom_X6 (w := wSight E a2 p6) (fs := fsSight a2 p6) (v := .ref (a2 3)) 2 0 2 rfl q_Sight (by decide) (by decide +kernel) g_Sight_gapStarts dX8_gapFrom_9 ?_
  refine ww_iload_n C dX8_gapFrom_12 rfl 1 rfl ?_
  obtain ⟨g_1, hf⟩ := gdE hf
  refine ww_iald C (f := Sight_gapStarts p6) (w := wSight E a2 p6) 2 3 rfl c_Sight_gapStarts (inB_vp g_1) dX8_gapFrom_13 ?_
  obtain rfl := Option.some.inj hf
  exact ww_iret C ⟨rfl, rfl⟩ dX8_gapFrom_14

theorem yk_X8_gapFrom : yX8_gapFrom.cls = RX8 ∧ yX8_gapFrom.cls ≠ "java/lang/invoke/MethodHandle" ∧ yX8_gapFrom.cls ≠ "java/lang/invoke/VarHandle" ∧ (parseMethodDescriptor yX8_gapFrom.desc).map (fun d => d.parameters.length) = some 1 := by decide +kernel
abbrev rmX8_isJoined : Room := { frames := 2, cells := 0, slots := 0, locals := 43 }
set_option maxRecDepth 20000 in
theorem in_X8_isJoined_X8 : ∀ w ∈ u_ws RX8 TX8 14, w ∈ wsX8_isJoined := by decide +kernel
set_option maxHeartbeats 4000000 in
set_option maxRecDepth 100000 in
theorem c_X8_isJoined {E : Ex} {a0 : Nat → Nat} {a1 : Nat → Nat} {h0_1 h0_2 h0_3 h0_4 h0_5 h0_6 h0_7 h0_8 h0_9 : Nat} {x1 : Int32} {x2 : Int32} {v0 : GWV} {v1 : HouseV} {r : Bool} (hf : GW_isJoined x1 x2 v0 v1 = some r) : Ct E yX8_isJoined wsX8_isJoined rmX8_isJoined [.ref (a0 0), .int x1, .int x2] [wGW E a0 (rf10 (a1 0) h0_1 h0_2 h0_3 h0_4 h0_5 h0_6 h0_7 h0_8 h0_9) v0, wHouse E a1 v1] (fun rv g => rv = some (.int (b2i r)) ∧ g = [wGW E a0 (rf10 (a1 0) h0_1 h0_2 h0_3 h0_4 h0_5 h0_6 h0_7 h0_8 h0_9) v0, wHouse E a1 v1]) := by
  refine ct_of (own := RX8) (by decide +kernel) rfl rfl (Nat.le_of_ble_eq_true rfl) (fun K C => ?_)
  refine ww_sub C (lv' := [(0, .ref (a0 0)), (1, .int x1), (2, .int x2)]) [0, 1, 2] rfl ?_
  rw [GW_isJoined] at hf
  refine ww_aload_n C dX8_isJoined_0 rfl 0 rfl ?_
  refine ww_iload_n C dX8_isJoined_1 rfl 1 rfl ?_
  obtain ⟨p2, hp2, hf⟩ := bdE hf
  refine ww_callV C (As := [.int x1]) (st := []) (gr := []) (c_X8_needRoom (E := E) (a0 := a0) (h0_1 := h0_1) (h0_2 := h0_2) (h0_3 := h0_3) (h0_4 := h0_4) (h0_5 := h0_5) (h0_6 := h0_6) (h0_7 := h0_7) (h0_8 := h0_8) (h0_9 := h0_9) (a1 := a1) hp2) gX8_isJoined_X8_needRoom rfl yk_X8_needRoom ⟨by decide, Nat.le_of_ble_eq_true rfl⟩ ⟨by decide, by decide⟩ clOK8 0 0 rfl rfl [0, 1] [] 2 rfl (by decide) rfl rfl (Nat.le_of_ble_eq_true rfl) dX8_isJoined_2 ?_
  rintro _ _ ⟨rfl, rfl⟩
  refine ww_perm (gs' := [wGW E a0 (rf10 (a1 0) h0_1 h0_2 h0_3 h0_4 h0_5 h0_6 h0_7 h0_8 h0_9) v0, wHouse E a1 v1]) [0, 1] 2 rfl (by decide) rfl ?_
  refine ww_aload_n C dX8_isJoined_5 rfl 0 rfl ?_
  refine ww_iload_n C dX8_isJoined_6 rfl 2 rfl ?_
  obtain ⟨p7, hp7, hf⟩ := bdE hf
  refine ww_callV C (As := [.int x2]) (st := []) (gr := []) (c_X8_needRoom (E := E) (a0 := a0) (h0_1 := h0_1) (h0_2 := h0_2) (h0_3 := h0_3) (h0_4 := h0_4) (h0_5 := h0_5) (h0_6 := h0_6) (h0_7 := h0_7) (h0_8 := h0_8) (h0_9 := h0_9) (a1 := a1) hp7) gX8_isJoined_X8_needRoom rfl yk_X8_needRoom ⟨by decide, Nat.le_of_ble_eq_true rfl⟩ ⟨by decide, by decide⟩ clOK8 0 0 rfl rfl [0, 1] [] 2 rfl (by decide) rfl rfl (Nat.le_of_ble_eq_true rfl) dX8_isJoined_7 ?_
  rintro _ _ ⟨rfl, rfl⟩
  refine ww_perm (gs' := [wGW E a0 (rf10 (a1 0) h0_1 h0_2 h0_3 h0_4 h0_5 h0_6 h0_7 h0_8 h0_9) v0, wHouse E a1 v1]) [0, 1] 2 rfl (by decide) rfl ?_
  refine ww_aload_n C dX8_isJoined_10 rfl 0 rfl ?_
  refine ww_get C clOK8 in_X8_isJoined_X8 (w := wGW E a0 (rf10 (a1 0) h0_1 h0_2 h0_3 h0_4 h0_5 h0_6 h0_7 h0_8 h0_9) v0) (fs := fsGW a0 (rf10 (a1 0) h0_1 h0_2 h0_3 h0_4 h0_5 h0_6 h0_7 h0_8 h0_9) v0) (v := .ref (a1 0)) 0 0 0 rfl q_GW (by decide) (by decide +kernel) g_GW_house dX8_isJoined_11 ?_
  refine ww_iload_n C dX8_isJoined_14 rfl 1 rfl ?_
  refine ww_iload_n C dX8_isJoined_15 rfl 2 rfl ?_
  obtain ⟨p16, hp16, hf⟩ := bdE hf
  refine ww_callV C (As := [.int x1, .int x2]) (st := []) (gr := [wGW E a0 (rf10 (a1 0) h0_1 h0_2 h0_3 h0_4 h0_5 h0_6 h0_7 h0_8 h0_9) v0]) (c_X2_areJoined (E := E) (a0 := a1) hp16) gX8_isJoined_X2_areJoined rfl yk_X2_areJoined ⟨by decide, Nat.le_of_ble_eq_true rfl⟩ ⟨by decide, by decide⟩ clOK2 0 0 rfl rfl [1] [0] 2 rfl (by decide) rfl rfl (Nat.le_of_ble_eq_true rfl) dX8_isJoined_16 ?_
  rintro _ _ ⟨rfl, rfl⟩
  refine ww_perm (gs' := [wGW E a0 (rf10 (a1 0) h0_1 h0_2 h0_3 h0_4 h0_5 h0_6 h0_7 h0_8 h0_9) v0, wHouse E a1 v1]) [1, 0] 2 rfl (by decide) rfl ?_
  obtain rfl := Option.some.inj hf
  exact ww_zret C (nar_b p16) ⟨rfl, rfl⟩ dX8_isJoined_19

theorem yk_X8_isJoined : yX8_isJoined.cls = RX8 ∧ yX8_isJoined.cls ≠ "java/lang/invoke/MethodHandle" ∧ yX8_isJoined.cls ≠ "java/lang/invoke/VarHandle" ∧ (parseMethodDescriptor yX8_isJoined.desc).map (fun d => d.parameters.length) = some 2 := by decide +kernel
abbrev rmX8_distance : Room := { frames := 2, cells := 0, slots := 0, locals := 47 }
set_option maxRecDepth 20000 in
theorem in_X8_distance_X8 : ∀ w ∈ u_ws RX8 TX8 14, w ∈ wsX8_distance := by decide +kernel
set_option maxHeartbeats 4000000 in
set_option maxRecDepth 100000 in
theorem c_X8_distance {E : Ex} {a0 : Nat → Nat} {a1 : Nat → Nat} {h0_1 h0_2 h0_3 h0_4 h0_5 h0_6 h0_7 h0_8 h0_9 : Nat} {x1 : Int32} {x2 : Int32} {v0 : GWV} {v1 : HouseV} {r : Int32} (hf : GW_distance x1 x2 v0 v1 = some r) : Ct E yX8_distance wsX8_distance rmX8_distance [.ref (a0 0), .int x1, .int x2] [wGW E a0 (rf10 (a1 0) h0_1 h0_2 h0_3 h0_4 h0_5 h0_6 h0_7 h0_8 h0_9) v0, wHouse E a1 v1] (fun rv g => rv = some (.int r) ∧ g = [wGW E a0 (rf10 (a1 0) h0_1 h0_2 h0_3 h0_4 h0_5 h0_6 h0_7 h0_8 h0_9) v0, wHouse E a1 v1]) := by
  refine ct_of (own := RX8) (by decide +kernel) rfl rfl (Nat.le_of_ble_eq_true rfl) (fun K C => ?_)
  refine ww_sub C (lv' := [(0, .ref (a0 0)), (1, .int x1), (2, .int x2)]) [0, 1, 2] rfl ?_
  rw [GW_distance] at hf
  refine ww_aload_n C dX8_distance_0 rfl 0 rfl ?_
  refine ww_iload_n C dX8_distance_1 rfl 1 rfl ?_
  obtain ⟨p2, hp2, hf⟩ := bdE hf
  refine ww_callV C (As := [.int x1]) (st := []) (gr := []) (c_X8_needRoom (E := E) (a0 := a0) (h0_1 := h0_1) (h0_2 := h0_2) (h0_3 := h0_3) (h0_4 := h0_4) (h0_5 := h0_5) (h0_6 := h0_6) (h0_7 := h0_7) (h0_8 := h0_8) (h0_9 := h0_9) (a1 := a1) hp2) gX8_distance_X8_needRoom rfl yk_X8_needRoom ⟨by decide, Nat.le_of_ble_eq_true rfl⟩ ⟨by decide, by decide⟩ clOK8 0 0 rfl rfl [0, 1] [] 2 rfl (by decide) rfl rfl (Nat.le_of_ble_eq_true rfl) dX8_distance_2 ?_
  rintro _ _ ⟨rfl, rfl⟩
  refine ww_perm (gs' := [wGW E a0 (rf10 (a1 0) h0_1 h0_2 h0_3 h0_4 h0_5 h0_6 h0_7 h0_8 h0_9) v0, wHouse E a1 v1]) [0, 1] 2 rfl (by decide) rfl ?_
  refine ww_aload_n C dX8_distance_5 rfl 0 rfl ?_
  refine ww_iload_n C dX8_distance_6 rfl 2 rfl ?_
  obtain ⟨p7, hp7, hf⟩ := bdE hf
  refine ww_callV C (As := [.int x2]) (st := []) (gr := []) (c_X8_needRoom (E := E) (a0 := a0) (h0_1 := h0_1) (h0_2 := h0_2) (h0_3 := h0_3) (h0_4 := h0_4) (h0_5 := h0_5) (h0_6 := h0_6) (h0_7 := h0_7) (h0_8 := h0_8) (h0_9 := h0_9) (a1 := a1) hp7) gX8_distance_X8_needRoom rfl yk_X8_needRoom ⟨by decide, Nat.le_of_ble_eq_true rfl⟩ ⟨by decide, by decide⟩ clOK8 0 0 rfl rfl [0, 1] [] 2 rfl (by decide) rfl rfl (Nat.le_of_ble_eq_true rfl) dX8_distance_7 ?_
  rintro _ _ ⟨rfl, rfl⟩
  refine ww_perm (gs' := [wGW E a0 (rf10 (a1 0) h0_1 h0_2 h0_3 h0_4 h0_5 h0_6 h0_7 h0_8 h0_9) v0, wHouse E a1 v1]) [0, 1] 2 rfl (by decide) rfl ?_
  refine ww_aload_n C dX8_distance_10 rfl 0 rfl ?_
  refine ww_get C clOK8 in_X8_distance_X8 (w := wGW E a0 (rf10 (a1 0) h0_1 h0_2 h0_3 h0_4 h0_5 h0_6 h0_7 h0_8 h0_9) v0) (fs := fsGW a0 (rf10 (a1 0) h0_1 h0_2 h0_3 h0_4 h0_5 h0_6 h0_7 h0_8 h0_9) v0) (v := .ref (a1 0)) 0 0 0 rfl q_GW (by decide) (by decide +kernel) g_GW_house dX8_distance_11 ?_
  refine ww_iload_n C dX8_distance_14 rfl 1 rfl ?_
  refine ww_iload_n C dX8_distance_15 rfl 2 rfl ?_
  obtain ⟨p16, hp16, hf⟩ := bdE hf
  refine ww_callV C (As := [.int x1, .int x2]) (st := []) (gr := [wGW E a0 (rf10 (a1 0) h0_1 h0_2 h0_3 h0_4 h0_5 h0_6 h0_7 h0_8 h0_9) v0]) (c_X2_doorsBetween (E := E) (a0 := a1) hp16) gX8_distance_X2_doorsBetween rfl yk_X2_doorsBetween ⟨by decide, Nat.le_of_ble_eq_true rfl⟩ ⟨by decide, by decide⟩ clOK2 0 0 rfl rfl [1] [0] 2 rfl (by decide) rfl rfl (Nat.le_of_ble_eq_true rfl) dX8_distance_16 ?_
  rintro _ _ ⟨rfl, rfl⟩
  refine ww_perm (gs' := [wGW E a0 (rf10 (a1 0) h0_1 h0_2 h0_3 h0_4 h0_5 h0_6 h0_7 h0_8 h0_9) v0, wHouse E a1 v1]) [1, 0] 2 rfl (by decide) rfl ?_
  obtain rfl := Option.some.inj hf
  exact ww_iret C ⟨rfl, rfl⟩ dX8_distance_19

theorem yk_X8_distance : yX8_distance.cls = RX8 ∧ yX8_distance.cls ≠ "java/lang/invoke/MethodHandle" ∧ yX8_distance.cls ≠ "java/lang/invoke/VarHandle" ∧ (parseMethodDescriptor yX8_distance.desc).map (fun d => d.parameters.length) = some 2 := by decide +kernel
abbrev rmX8_meetings : Room := { frames := 3, cells := 0, slots := 0, locals := 75 }
set_option maxRecDepth 20000 in
theorem in_X8_meetings_X8 : ∀ w ∈ u_ws RX8 TX8 14, w ∈ wsX8_meetings := by decide +kernel
set_option maxHeartbeats 4000000 in
set_option maxRecDepth 100000 in
theorem c_X8_meetings {E : Ex} {a0 : Nat → Nat} {a1 : Nat → Nat} {h0_1 h0_2 h0_3 h0_4 h0_5 h0_6 h0_7 h0_8 h0_9 : Nat} {x1 : Int32} {x2 : Int32} {v0 : GWV} {v1 : HouseV} {r : Int32} (hf : GW_meetings x1 x2 v0 v1 = some r) : Ct E yX8_meetings wsX8_meetings rmX8_meetings [.ref (a0 0), .int x1, .int x2] [wGW E a0 (rf10 (a1 0) h0_1 h0_2 h0_3 h0_4 h0_5 h0_6 h0_7 h0_8 h0_9) v0, wHouse E a1 v1] (fun rv g => rv = some (.int r) ∧ g = [wGW E a0 (rf10 (a1 0) h0_1 h0_2 h0_3 h0_4 h0_5 h0_6 h0_7 h0_8 h0_9) v0, wHouse E a1 v1]) := by
  refine ct_of (own := RX8) (by decide +kernel) rfl rfl (Nat.le_of_ble_eq_true rfl) (fun K C => ?_)
  refine ww_sub C (lv' := [(0, .ref (a0 0)), (1, .int x1), (2, .int x2)]) [0, 1, 2] rfl ?_
  rw [GW_meetings] at hf
  refine ww_aload_n C dX8_meetings_0 rfl 0 rfl ?_
  refine ww_iload_n C dX8_meetings_1 rfl 1 rfl ?_
  obtain ⟨p2, hp2, hf⟩ := bdE hf
  refine ww_callV C (As := [.int x1]) (st := []) (gr := []) (c_X8_needGuard (E := E) (a0 := a0) (h0_1 := h0_1) (h0_2 := h0_2) (h0_3 := h0_3) (h0_4 := h0_4) (h0_5 := h0_5) (h0_6 := h0_6) (h0_7 := h0_7) (h0_8 := h0_8) (h0_9 := h0_9) (a1 := a1) hp2) gX8_meetings_X8_needGuard rfl yk_X8_needGuard ⟨by decide, Nat.le_of_ble_eq_true rfl⟩ ⟨by decide, by decide⟩ clOK8 0 0 rfl rfl [0, 1] [] 2 rfl (by decide) rfl rfl (Nat.le_of_ble_eq_true rfl) dX8_meetings_2 ?_
  rintro _ _ ⟨rfl, rfl⟩
  refine ww_perm (gs' := [wGW E a0 (rf10 (a1 0) h0_1 h0_2 h0_3 h0_4 h0_5 h0_6 h0_7 h0_8 h0_9) v0, wHouse E a1 v1]) [0, 1] 2 rfl (by decide) rfl ?_
  refine ww_aload_n C dX8_meetings_5 rfl 0 rfl ?_
  refine ww_iload_n C dX8_meetings_6 rfl 2 rfl ?_
  obtain ⟨p7, hp7, hf⟩ := bdE hf
  refine ww_callV C (As := [.int x2]) (st := []) (gr := []) (c_X8_needGuard (E := E) (a0 := a0) (h0_1 := h0_1) (h0_2 := h0_2) (h0_3 := h0_3) (h0_4 := h0_4) (h0_5 := h0_5) (h0_6 := h0_6) (h0_7 := h0_7) (h0_8 := h0_8) (h0_9 := h0_9) (a1 := a1) hp7) gX8_meetings_X8_needGuard rfl yk_X8_needGuard ⟨by decide, Nat.le_of_ble_eq_true rfl⟩ ⟨by decide, by decide⟩ clOK8 0 0 rfl rfl [0, 1] [] 2 rfl (by decide) rfl rfl (Nat.le_of_ble_eq_true rfl) dX8_meetings_7 ?_
  rintro _ _ ⟨rfl, rfl⟩
  refine ww_perm (gs' := [wGW E a0 (rf10 (a1 0) h0_1 h0_2 h0_3 h0_4 h0_5 h0_6 h0_7 h0_8 h0_9) v0, wHouse E a1 v1]) [0, 1] 2 rfl (by decide) rfl ?_
  refine ww_aload_n C dX8_meetings_10 rfl 0 rfl ?_
  refine ww_get C clOK8 in_X8_meetings_X8 (w := wGW E a0 (rf10 (a1 0) h0_1 h0_2 h0_3 h0_4 h0_5 h0_6 h0_7 h0_8 h0_9) v0) (fs := fsGW a0 (rf10 (a1 0) h0_1 h0_2 h0_3 h0_4 h0_5 h0_6 h0_7 h0_8 h0_9) v0) (v := .ref (a1 0)) 0 0 0 rfl q_GW (by decide) (by decide +kernel) g_GW_house dX8_meetings_11 ?_
  refine ww_iload_n C dX8_meetings_14 rfl 1 rfl ?_
  refine ww_iload_n C dX8_meetings_15 rfl 2 rfl ?_
  refine ww_iconst (v := 1) C dX8_meetings_16 (by decide) ?_
  refine ww_iconst (v := 0) C dX8_meetings_17 (by decide) ?_
  obtain ⟨p18, hp18, hf⟩ := bdE hf
  refine ww_callV C (As := [.int x1, .int x2, .int 1, .int 0]) (st := []) (gr := [wGW E a0 (rf10 (a1 0) h0_1 h0_2 h0_3 h0_4 h0_5 h0_6 h0_7 h0_8 h0_9) v0]) (c_X2_countPair (E := E) (a0 := a1) hp18) gX8_meetings_X2_countPair rfl yk_X2_countPair ⟨by decide, Nat.le_of_ble_eq_true rfl⟩ ⟨by decide, by decide⟩ clOK2 0 0 rfl rfl [1] [0] 2 rfl (by decide) rfl rfl (Nat.le_of_ble_eq_true rfl) dX8_meetings_18 ?_
  rintro _ _ ⟨rfl, rfl⟩
  refine ww_perm (gs' := [wGW E a0 (rf10 (a1 0) h0_1 h0_2 h0_3 h0_4 h0_5 h0_6 h0_7 h0_8 h0_9) v0, wHouse E a1 v1]) [1, 0] 2 rfl (by decide) rfl ?_
  obtain rfl := Option.some.inj hf
  exact ww_iret C ⟨rfl, rfl⟩ dX8_meetings_21

theorem yk_X8_meetings : yX8_meetings.cls = RX8 ∧ yX8_meetings.cls ≠ "java/lang/invoke/MethodHandle" ∧ yX8_meetings.cls ≠ "java/lang/invoke/VarHandle" ∧ (parseMethodDescriptor yX8_meetings.desc).map (fun d => d.parameters.length) = some 2 := by decide +kernel
abbrev rmX8_passings : Room := { frames := 3, cells := 0, slots := 0, locals := 75 }
set_option maxRecDepth 20000 in
theorem in_X8_passings_X8 : ∀ w ∈ u_ws RX8 TX8 14, w ∈ wsX8_passings := by decide +kernel
set_option maxHeartbeats 4000000 in
set_option maxRecDepth 100000 in
theorem c_X8_passings {E : Ex} {a0 : Nat → Nat} {a1 : Nat → Nat} {h0_1 h0_2 h0_3 h0_4 h0_5 h0_6 h0_7 h0_8 h0_9 : Nat} {x1 : Int32} {x2 : Int32} {v0 : GWV} {v1 : HouseV} {r : Int32} (hf : GW_passings x1 x2 v0 v1 = some r) : Ct E yX8_passings wsX8_passings rmX8_passings [.ref (a0 0), .int x1, .int x2] [wGW E a0 (rf10 (a1 0) h0_1 h0_2 h0_3 h0_4 h0_5 h0_6 h0_7 h0_8 h0_9) v0, wHouse E a1 v1] (fun rv g => rv = some (.int r) ∧ g = [wGW E a0 (rf10 (a1 0) h0_1 h0_2 h0_3 h0_4 h0_5 h0_6 h0_7 h0_8 h0_9) v0, wHouse E a1 v1]) := by
  refine ct_of (own := RX8) (by decide +kernel) rfl rfl (Nat.le_of_ble_eq_true rfl) (fun K C => ?_)
  refine ww_sub C (lv' := [(0, .ref (a0 0)), (1, .int x1), (2, .int x2)]) [0, 1, 2] rfl ?_
  rw [GW_passings] at hf
  refine ww_aload_n C dX8_passings_0 rfl 0 rfl ?_
  refine ww_iload_n C dX8_passings_1 rfl 1 rfl ?_
  obtain ⟨p2, hp2, hf⟩ := bdE hf
  refine ww_callV C (As := [.int x1]) (st := []) (gr := []) (c_X8_needGuard (E := E) (a0 := a0) (h0_1 := h0_1) (h0_2 := h0_2) (h0_3 := h0_3) (h0_4 := h0_4) (h0_5 := h0_5) (h0_6 := h0_6) (h0_7 := h0_7) (h0_8 := h0_8) (h0_9 := h0_9) (a1 := a1) hp2) gX8_passings_X8_needGuard rfl yk_X8_needGuard ⟨by decide, Nat.le_of_ble_eq_true rfl⟩ ⟨by decide, by decide⟩ clOK8 0 0 rfl rfl [0, 1] [] 2 rfl (by decide) rfl rfl (Nat.le_of_ble_eq_true rfl) dX8_passings_2 ?_
  rintro _ _ ⟨rfl, rfl⟩
  refine ww_perm (gs' := [wGW E a0 (rf10 (a1 0) h0_1 h0_2 h0_3 h0_4 h0_5 h0_6 h0_7 h0_8 h0_9) v0, wHouse E a1 v1]) [0, 1] 2 rfl (by decide) rfl ?_
  refine ww_aload_n C dX8_passings_5 rfl 0 rfl ?_
  refine ww_iload_n C dX8_passings_6 rfl 2 rfl ?_
  obtain ⟨p7, hp7, hf⟩ := bdE hf
  refine ww_callV C (As := [.int x2]) (st := []) (gr := []) (c_X8_needGuard (E := E) (a0 := a0) (h0_1 := h0_1) (h0_2 := h0_2) (h0_3 := h0_3) (h0_4 := h0_4) (h0_5 := h0_5) (h0_6 := h0_6) (h0_7 := h0_7) (h0_8 := h0_8) (h0_9 := h0_9) (a1 := a1) hp7) gX8_passings_X8_needGuard rfl yk_X8_needGuard ⟨by decide, Nat.le_of_ble_eq_true rfl⟩ ⟨by decide, by decide⟩ clOK8 0 0 rfl rfl [0, 1] [] 2 rfl (by decide) rfl rfl (Nat.le_of_ble_eq_true rfl) dX8_passings_7 ?_
  rintro _ _ ⟨rfl, rfl⟩
  refine ww_perm (gs' := [wGW E a0 (rf10 (a1 0) h0_1 h0_2 h0_3 h0_4 h0_5 h0_6 h0_7 h0_8 h0_9) v0, wHouse E a1 v1]) [0, 1] 2 rfl (by decide) rfl ?_
  refine ww_aload_n C dX8_passings_10 rfl 0 rfl ?_
  refine ww_get C clOK8 in_X8_passings_X8 (w := wGW E a0 (rf10 (a1 0) h0_1 h0_2 h0_3 h0_4 h0_5 h0_6 h0_7 h0_8 h0_9) v0) (fs := fsGW a0 (rf10 (a1 0) h0_1 h0_2 h0_3 h0_4 h0_5 h0_6 h0_7 h0_8 h0_9) v0) (v := .ref (a1 0)) 0 0 0 rfl q_GW (by decide) (by decide +kernel) g_GW_house dX8_passings_11 ?_
  refine ww_iload_n C dX8_passings_14 rfl 1 rfl ?_
  refine ww_iload_n C dX8_passings_15 rfl 2 rfl ?_
  refine ww_iconst (v := 0) C dX8_passings_16 (by decide) ?_
  refine ww_iconst (v := 1) C dX8_passings_17 (by decide) ?_
  obtain ⟨p18, hp18, hf⟩ := bdE hf
  refine ww_callV C (As := [.int x1, .int x2, .int 0, .int 1]) (st := []) (gr := [wGW E a0 (rf10 (a1 0) h0_1 h0_2 h0_3 h0_4 h0_5 h0_6 h0_7 h0_8 h0_9) v0]) (c_X2_countPair (E := E) (a0 := a1) hp18) gX8_passings_X2_countPair rfl yk_X2_countPair ⟨by decide, Nat.le_of_ble_eq_true rfl⟩ ⟨by decide, by decide⟩ clOK2 0 0 rfl rfl [1] [0] 2 rfl (by decide) rfl rfl (Nat.le_of_ble_eq_true rfl) dX8_passings_18 ?_
  rintro _ _ ⟨rfl, rfl⟩
  refine ww_perm (gs' := [wGW E a0 (rf10 (a1 0) h0_1 h0_2 h0_3 h0_4 h0_5 h0_6 h0_7 h0_8 h0_9) v0, wHouse E a1 v1]) [1, 0] 2 rfl (by decide) rfl ?_
  obtain rfl := Option.some.inj hf
  exact ww_iret C ⟨rfl, rfl⟩ dX8_passings_21

theorem yk_X8_passings : yX8_passings.cls = RX8 ∧ yX8_passings.cls ≠ "java/lang/invoke/MethodHandle" ∧ yX8_passings.cls ≠ "java/lang/invoke/VarHandle" ∧ (parseMethodDescriptor yX8_passings.desc).map (fun d => d.parameters.length) = some 2 := by decide +kernel
abbrev rmX8_worstWith : Room := { frames := 4, cells := 0, slots := 0, locals := 89 }
set_option maxRecDepth 20000 in
theorem in_X8_worstWith_X2 : ∀ w ∈ u_ws RX2 TX2 19, w ∈ wsX8_worstWith := by decide +kernel
set_option maxRecDepth 20000 in
theorem in_X8_worstWith_X6 : ∀ w ∈ u_ws RX6 TX6 8, w ∈ wsX8_worstWith := by decide +kernel
set_option maxRecDepth 20000 in
theorem in_X8_worstWith_X8 : ∀ w ∈ u_ws RX8 TX8 14, w ∈ wsX8_worstWith := by decide +kernel
set_option maxHeartbeats 4000000 in
set_option maxRecDepth 100000 in
theorem c_X8_worstWith {E : Ex} {a0 : Nat → Nat} {a1 : Nat → Nat} {a2 : Nat → Nat} {a3 : Nat → Nat} {h0_2 h0_3 h0_5 h0_6 h0_7 h0_8 h0_9 : Nat} {x1 : Int32} {x2 : Int32} {v0 : GWV} {v1 : HouseV} {v2 : HouseV} {v3 : SightV} {r : (Int32 × HouseV × SightV)} (hf : GW_worstWith x1 x2 v0 v1 v2 v3 = some r) : Ct E yX8_worstWith wsX8_worstWith rmX8_worstWith [.ref (a0 0), .int x1, .int x2] [wGW E a0 (rf10 (a1 0) (a2 0) h0_2 h0_3 (a3 0) h0_5 h0_6 h0_7 h0_8 h0_9) v0, wHouse E a1 v1, wHouse E a2 v2, wSight E a3 v3] (fun rv g => rv = some (.int r.1) ∧ g = [wGW E a0 (rf10 (a1 0) (a2 0) h0_2 h0_3 (a3 0) h0_5 h0_6 h0_7 h0_8 h0_9) v0, wHouse E a1 v1, wHouse E a2 r.2.1, wSight E a3 r.2.2]) := by
  refine ct_of (own := RX8) (by decide +kernel) rfl rfl (Nat.le_of_ble_eq_true rfl) (fun K C => ?_)
  refine ww_sub C (lv' := [(0, .ref (a0 0)), (1, .int x1), (2, .int x2)]) [0, 1, 2] rfl ?_
  rw [GW_worstWith] at hf
  refine ww_aload_n C dX8_worstWith_0 rfl 0 rfl ?_
  refine ww_iload_n C dX8_worstWith_1 rfl 1 rfl ?_
  obtain ⟨p2, hp2, hf⟩ := bdE hf
  refine ww_callV C (As := [.int x1]) (st := []) (gr := [wHouse E a2 v2, wSight E a3 v3]) (c_X8_needGuard (E := E) (a0 := a0) (h0_1 := a2 0) (h0_2 := h0_2) (h0_3 := h0_3) (h0_4 := a3 0) (h0_5 := h0_5) (h0_6 := h0_6) (h0_7 := h0_7) (h0_8 := h0_8) (h0_9 := h0_9) (a1 := a1) hp2) gX8_worstWith_X8_needGuard rfl yk_X8_needGuard ⟨by decide, Nat.le_of_ble_eq_true rfl⟩ ⟨by decide, by decide⟩ clOK8 0 0 rfl rfl [0, 1] [2, 3] 4 rfl (by decide) rfl rfl (Nat.le_of_ble_eq_true rfl) dX8_worstWith_2 ?_
  rintro _ _ ⟨rfl, rfl⟩
  refine ww_perm (gs' := [wGW E a0 (rf10 (a1 0) (a2 0) h0_2 h0_3 (a3 0) h0_5 h0_6 h0_7 h0_8 h0_9) v0, wHouse E a1 v1, wHouse E a2 v2, wSight E a3 v3]) [0, 1, 2, 3] 4 rfl (by decide) rfl ?_
  refine ww_iload_n C dX8_worstWith_5 rfl 2 rfl ?_
  refine ww_iconst (v := 0) C dX8_worstWith_6 (by decide) ?_
  refine ww_aload_n C dX8_worstWith_7 rfl 0 rfl ?_
  refine ww_get C clOK8 in_X8_worstWith_X8 (w := wGW E a0 (rf10 (a1 0) (a2 0) h0_2 h0_3 (a3 0) h0_5 h0_6 h0_7 h0_8 h0_9) v0) (fs := fsGW a0 (rf10 (a1 0) (a2 0) h0_2 h0_3 (a3 0) h0_5 h0_6 h0_7 h0_8 h0_9) v0) (v := .ref (a1 0)) 0 0 0 rfl q_GW (by decide) (by decide +kernel) g_GW_house dX8_worstWith_8 ?_
  refine ww_get C clOK2 in_X8_worstWith_X2 (w := wHouse E a1 v1) (fs := fsHouse a1 v1) (v := .ref (a1 5)) 1 0 11 rfl q_House (by decide) (by decide +kernel) g_House_periods dX8_worstWith_11 ?_
  refine ww_iload_n C dX8_worstWith_14 rfl 1 rfl ?_
  obtain ⟨g_1, hf⟩ := gdE hf
  refine ww_iald C (f := House_periods v1) (w := wHouse E a1 v1) 1 5 rfl c_House_periods (inB_vp g_1) dX8_worstWith_15 ?_
  refine ww_iconst (v := 1) C dX8_worstWith_16 (by decide) ?_
  refine ww_isub C dX8_worstWith_17 ?_
  obtain ⟨p18, hp18, hf⟩ := bdE hf
  refine ww_callS C (As := [.int x2, .int 0, .int (((House_periods v1) (Int32.toNatClampNeg x1)) - 1)]) (st := []) (gr := [wGW E a0 (rf10 (a1 0) (a2 0) h0_2 h0_3 (a3 0) h0_5 h0_6 h0_7 h0_8 h0_9) v0, wHouse E a1 v1, wHouse E a2 v2, wSight E a3 v3]) (c_X8_needRange (E := E)  hp18) gX8_worstWith_X8_needRange rfl ysk_X8_needRange ⟨by decide, Nat.le_of_ble_eq_true rfl⟩ ⟨by decide, by decide⟩ [] [0, 1, 2, 3] 4 rfl (by decide) rfl rfl (Nat.le_of_ble_eq_true rfl) dX8_worstWith_18 ?_
  rintro _ _ ⟨rfl, rfl⟩
  refine ww_perm (gs' := [wGW E a0 (rf10 (a1 0) (a2 0) h0_2 h0_3 (a3 0) h0_5 h0_6 h0_7 h0_8 h0_9) v0, wHouse E a1 v1, wHouse E a2 v2, wSight E a3 v3]) [0, 1, 2, 3] 4 rfl (by decide) rfl ?_
  refine ww_aload_n C dX8_worstWith_21 rfl 0 rfl ?_
  refine ww_get C clOK8 in_X8_worstWith_X8 (w := wGW E a0 (rf10 (a1 0) (a2 0) h0_2 h0_3 (a3 0) h0_5 h0_6 h0_7 h0_8 h0_9) v0) (fs := fsGW a0 (rf10 (a1 0) (a2 0) h0_2 h0_3 (a3 0) h0_5 h0_6 h0_7 h0_8 h0_9) v0) (v := .ref (a2 0)) 0 0 1 rfl q_GW (by decide) (by decide +kernel) g_GW_scratch dX8_worstWith_22 ?_
  refine ww_aload_n C dX8_worstWith_25 rfl 0 rfl ?_
  refine ww_get C clOK8 in_X8_worstWith_X8 (w := wGW E a0 (rf10 (a1 0) (a2 0) h0_2 h0_3 (a3 0) h0_5 h0_6 h0_7 h0_8 h0_9) v0) (fs := fsGW a0 (rf10 (a1 0) (a2 0) h0_2 h0_3 (a3 0) h0_5 h0_6 h0_7 h0_8 h0_9) v0) (v := .ref (a1 0)) 0 0 0 rfl q_GW (by decide) (by decide +kernel) g_GW_house dX8_worstWith_26 ?_
  obtain ⟨p29, hp29, hf⟩ := bdE hf
  refine ww_callV C (As := [.ref (a1 0)]) (st := []) (gr := [wGW E a0 (rf10 (a1 0) (a2 0) h0_2 h0_3 (a3 0) h0_5 h0_6 h0_7 h0_8 h0_9) v0, wSight E a3 v3]) (c_X2_copyFrom (E := E) (a0 := a2) (a1 := a1) hp29) gX8_worstWith_X2_copyFrom rfl yk_X2_copyFrom ⟨by decide, Nat.le_of_ble_eq_true rfl⟩ ⟨by decide, by decide⟩ clOK2 0 0 rfl rfl [2, 1] [0, 3] 4 rfl (by decide) rfl rfl (Nat.le_of_ble_eq_true rfl) dX8_worstWith_29 ?_
  rintro _ _ ⟨rfl, rfl⟩
  refine ww_perm (gs' := [wGW E a0 (rf10 (a1 0) (a2 0) h0_2 h0_3 (a3 0) h0_5 h0_6 h0_7 h0_8 h0_9) v0, wHouse E a1 v1, wHouse E a2 p29, wSight E a3 v3]) [2, 1, 0, 3] 4 rfl (by decide) rfl ?_
  refine ww_aload_n C dX8_worstWith_32 rfl 0 rfl ?_
  refine ww_get C clOK8 in_X8_worstWith_X8 (w := wGW E a0 (rf10 (a1 0) (a2 0) h0_2 h0_3 (a3 0) h0_5 h0_6 h0_7 h0_8 h0_9) v0) (fs := fsGW a0 (rf10 (a1 0) (a2 0) h0_2 h0_3 (a3 0) h0_5 h0_6 h0_7 h0_8 h0_9) v0) (v := .ref (a2 0)) 0 0 1 rfl q_GW (by decide) (by decide +kernel) g_GW_scratch dX8_worstWith_33 ?_
  refine ww_get C clOK2 in_X8_worstWith_X2 (w := wHouse E a2 p29) (fs := fsHouse a2 p29) (v := .ref (a2 6)) 2 0 12 rfl q_House (by decide) (by decide +kernel) g_House_phases dX8_worstWith_36 ?_
  refine ww_iload_n C dX8_worstWith_39 rfl 1 rfl ?_
  refine ww_iload_n C dX8_worstWith_40 rfl 2 rfl ?_
  obtain ⟨v2_41, e_v2_41⟩ : ∃ y : HouseV, y = House_set_phases p29 (upd (House_phases p29) (Int32.toNatClampNeg x1) x2) := ⟨_, rfl⟩
  replace hf := ltE e_v2_41 hf
  refine ww_iast C (f := House_phases p29) (w := wHouse E a2 p29) (w' := wHouse E a2 v2_41) (gs' := [wGW E a0 (rf10 (a1 0) (a2 0) h0_2 h0_3 (a3 0) h0_5 h0_6 h0_7 h0_8 h0_9) v0, wHouse E a1 v1, wHouse E a2 v2_41, wSight E a3 v3]) 2 6 rfl c_House_phases (inB_vp g_1) (by rw [e_v2_41]; exact s_House_phases) rfl dX8_worstWith_41 ?_
  refine ww_aload_n C dX8_worstWith_42 rfl 0 rfl ?_
  refine ww_get C clOK8 in_X8_worstWith_X8 (w := wGW E a0 (rf10 (a1 0) (a2 0) h0_2 h0_3 (a3 0) h0_5 h0_6 h0_7 h0_8 h0_9) v0) (fs := fsGW a0 (rf10 (a1 0) (a2 0) h0_2 h0_3 (a3 0) h0_5 h0_6 h0_7 h0_8 h0_9) v0) (v := .ref (a3 0)) 0 0 4 rfl q_GW (by decide) (by decide +kernel) g_GW_trialSightings dX8_worstWith_43 ?_
  refine ww_aload_n C dX8_worstWith_46 rfl 0 rfl ?_
  refine ww_get C clOK8 in_X8_worstWith_X8 (w := wGW E a0 (rf10 (a1 0) (a2 0) h0_2 h0_3 (a3 0) h0_5 h0_6 h0_7 h0_8 h0_9) v0) (fs := fsGW a0 (rf10 (a1 0) (a2 0) h0_2 h0_3 (a3 0) h0_5 h0_6 h0_7 h0_8 h0_9) v0) (v := .ref (a2 0)) 0 0 1 rfl q_GW (by decide) (by decide +kernel) g_GW_scratch dX8_worstWith_47 ?_
  obtain ⟨p50, hp50, hf⟩ := bdE hf
  refine ww_callV C (As := [.ref (a2 0)]) (st := []) (gr := [wGW E a0 (rf10 (a1 0) (a2 0) h0_2 h0_3 (a3 0) h0_5 h0_6 h0_7 h0_8 h0_9) v0, wHouse E a1 v1]) (c_X6_measure (E := E) (a0 := a3) (a1 := a2) hp50) gX8_worstWith_X6_measure rfl yk_X6_measure ⟨by decide, Nat.le_of_ble_eq_true rfl⟩ ⟨by decide, by decide⟩ clOK6 0 0 rfl rfl [3, 2] [0, 1] 4 rfl (by decide) rfl rfl (Nat.le_of_ble_eq_true rfl) dX8_worstWith_50 ?_
  rintro _ _ ⟨rfl, rfl⟩
  refine ww_perm (gs' := [wGW E a0 (rf10 (a1 0) (a2 0) h0_2 h0_3 (a3 0) h0_5 h0_6 h0_7 h0_8 h0_9) v0, wHouse E a1 v1, wHouse E a2 v2_41, wSight E a3 p50]) [2, 3, 1, 0] 4 rfl (by decide) rfl ?_
  refine ww_aload_n C dX8_worstWith_53 rfl 0 rfl ?_
  refine ww_get C clOK8 in_X8_worstWith_X8 (w := wGW E a0 (rf10 (a1 0) (a2 0) h0_2 h0_3 (a3 0) h0_5 h0_6 h0_7 h0_8 h0_9) v0) (fs := fsGW a0 (rf10 (a1 0) (a2 0) h0_2 h0_3 (a3 0) h0_5 h0_6 h0_7 h0_8 h0_9) v0) (v := .ref (a3 0)) 0 0 4 rfl q_GW (by decide) (by decide +kernel) g_GW_trialSightings dX8_worstWith_54 ?_
  refine ww_get C clOK6 in_X8_worstWith_X6 (w := wSight E a3 p50) (fs := fsSight a3 p50) (v := .int (Sight_worst p50)) 3 0 6 rfl q_Sight (by decide) (by decide +kernel) g_Sight_worst dX8_worstWith_57 ?_
  obtain rfl := Option.some.inj hf
  exact ww_iret C ⟨rfl, rfl⟩ dX8_worstWith_60

theorem yk_X8_worstWith : yX8_worstWith.cls = RX8 ∧ yX8_worstWith.cls ≠ "java/lang/invoke/MethodHandle" ∧ yX8_worstWith.cls ≠ "java/lang/invoke/VarHandle" ∧ (parseMethodDescriptor yX8_worstWith.desc).map (fun d => d.parameters.length) = some 2 := by decide +kernel
abbrev rmX8_bestWorst : Room := { frames := 7, cells := 0, slots := 0, locals := 163 }
set_option maxRecDepth 20000 in
theorem in_X8_bestWorst_X0 : ∀ w ∈ u_ws RX0 TX0 7, w ∈ wsX8_bestWorst := by decide +kernel
set_option maxHeartbeats 4000000 in
set_option maxRecDepth 100000 in
theorem c_X8_bestWorst {E : Ex} {a0 : Nat → Nat} {a1 : Nat → Nat} {a2 : Nat → Nat} {a3 : Nat → Nat} {a4 : Nat → Nat} {h0_1 h0_2 h0_3 h0_4 h0_6 h0_7 h0_8 h0_9 : Nat} {v0 : GWV} {v1 : HouseV} {v2 : BestV} {v3 : HouseV} {v4 : SightV} {r : (Int32 × BestV × HouseV × SightV)} (hf : GW_bestWorst v0 v1 v2 v3 v4 = some r) : Ct E yX8_bestWorst wsX8_bestWorst rmX8_bestWorst [.ref (a0 0)] [wGW E a0 (rf10 (a1 0) h0_1 h0_2 h0_3 h0_4 (a2 0) h0_6 h0_7 h0_8 h0_9) v0, wHouse E a1 v1, wBest E a2 (rf2 (a3 0) (a4 0)) v2, wHouse E a3 v3, wSight E a4 v4] (fun rv g => rv = some (.int r.1) ∧ g = [wGW E a0 (rf10 (a1 0) h0_1 h0_2 h0_3 h0_4 (a2 0) h0_6 h0_7 h0_8 h0_9) v0, wHouse E a1 v1, wBest E a2 (rf2 (a3 0) (a4 0)) r.2.1, wHouse E a3 r.2.2.1, wSight E a4 r.2.2.2]) := by
  refine ct_of (own := RX8) (by decide +kernel) rfl rfl (Nat.le_of_ble_eq_true rfl) (fun K C => ?_)
  refine ww_sub C (lv' := [(0, .ref (a0 0))]) [0] rfl ?_
  rw [GW_bestWorst] at hf
  refine ww_aload_n C dX8_bestWorst_0 rfl 0 rfl ?_
  obtain ⟨p1, hp1, hf⟩ := bdE hf
  refine ww_callV C (As := []) (st := []) (gr := []) (c_X8_best (E := E) (a0 := a0) (h0_1 := h0_1) (h0_2 := h0_2) (h0_3 := h0_3) (h0_4 := h0_4) (h0_6 := h0_6) (h0_7 := h0_7) (h0_8 := h0_8) (h0_9 := h0_9) (a1 := a1) (a2 := a2) (a3 := a3) (a4 := a4) hp1) gX8_bestWorst_X8_best rfl yk_X8_best ⟨by decide, Nat.le_of_ble_eq_true rfl⟩ ⟨by decide, by decide⟩ clOK8 0 0 rfl rfl [0, 1, 2, 3, 4] [] 5 rfl (by decide) rfl rfl (Nat.le_of_ble_eq_true rfl) dX8_bestWorst_1 ?_
  rintro _ _ ⟨rfl, rfl⟩
  refine ww_perm (gs' := [wGW E a0 (rf10 (a1 0) h0_1 h0_2 h0_3 h0_4 (a2 0) h0_6 h0_7 h0_8 h0_9) v0, wHouse E a1 v1, wBest E a2 (rf2 (a3 0) (a4 0)) p1.1, wHouse E a3 p1.2.1, wSight E a4 p1.2.2]) [0, 1, 2, 3, 4] 5 rfl (by decide) rfl ?_
  refine ww_get C clOK0 in_X8_bestWorst_X0 (w := wBest E a2 (rf2 (a3 0) (a4 0)) p1.1) (fs := fsBest a2 (rf2 (a3 0) (a4 0)) p1.1) (v := .int (Best_worst p1.1)) 2 0 1 rfl q_Best (by decide) (by decide +kernel) g_Best_worst dX8_bestWorst_4 ?_
  obtain rfl := Option.some.inj hf
  exact ww_iret C ⟨rfl, rfl⟩ dX8_bestWorst_7

theorem yk_X8_bestWorst : yX8_bestWorst.cls = RX8 ∧ yX8_bestWorst.cls ≠ "java/lang/invoke/MethodHandle" ∧ yX8_bestWorst.cls ≠ "java/lang/invoke/VarHandle" ∧ (parseMethodDescriptor yX8_bestWorst.desc).map (fun d => d.parameters.length) = some 0 := by decide +kernel
abbrev rmX8_bestCrossings : Room := { frames := 7, cells := 0, slots := 0, locals := 163 }
set_option maxRecDepth 20000 in
theorem in_X8_bestCrossings_X0 : ∀ w ∈ u_ws RX0 TX0 7, w ∈ wsX8_bestCrossings := by decide +kernel
set_option maxHeartbeats 4000000 in
set_option maxRecDepth 100000 in
theorem c_X8_bestCrossings {E : Ex} {a0 : Nat → Nat} {a1 : Nat → Nat} {a2 : Nat → Nat} {a3 : Nat → Nat} {a4 : Nat → Nat} {h0_1 h0_2 h0_3 h0_4 h0_6 h0_7 h0_8 h0_9 : Nat} {v0 : GWV} {v1 : HouseV} {v2 : BestV} {v3 : HouseV} {v4 : SightV} {r : (Int32 × BestV × HouseV × SightV)} (hf : GW_bestCrossings v0 v1 v2 v3 v4 = some r) : Ct E yX8_bestCrossings wsX8_bestCrossings rmX8_bestCrossings [.ref (a0 0)] [wGW E a0 (rf10 (a1 0) h0_1 h0_2 h0_3 h0_4 (a2 0) h0_6 h0_7 h0_8 h0_9) v0, wHouse E a1 v1, wBest E a2 (rf2 (a3 0) (a4 0)) v2, wHouse E a3 v3, wSight E a4 v4] (fun rv g => rv = some (.int r.1) ∧ g = [wGW E a0 (rf10 (a1 0) h0_1 h0_2 h0_3 h0_4 (a2 0) h0_6 h0_7 h0_8 h0_9) v0, wHouse E a1 v1, wBest E a2 (rf2 (a3 0) (a4 0)) r.2.1, wHouse E a3 r.2.2.1, wSight E a4 r.2.2.2]) := by
  refine ct_of (own := RX8) (by decide +kernel) rfl rfl (Nat.le_of_ble_eq_true rfl) (fun K C => ?_)
  refine ww_sub C (lv' := [(0, .ref (a0 0))]) [0] rfl ?_
  rw [GW_bestCrossings] at hf
  refine ww_aload_n C dX8_bestCrossings_0 rfl 0 rfl ?_
  obtain ⟨p1, hp1, hf⟩ := bdE hf
  refine ww_callV C (As := []) (st := []) (gr := []) (c_X8_best (E := E) (a0 := a0) (h0_1 := h0_1) (h0_2 := h0_2) (h0_3 := h0_3) (h0_4 := h0_4) (h0_6 := h0_6) (h0_7 := h0_7) (h0_8 := h0_8) (h0_9 := h0_9) (a1 := a1) (a2 := a2) (a3 := a3) (a4 := a4) hp1) gX8_bestCrossings_X8_best rfl yk_X8_best ⟨by decide, Nat.le_of_ble_eq_true rfl⟩ ⟨by decide, by decide⟩ clOK8 0 0 rfl rfl [0, 1, 2, 3, 4] [] 5 rfl (by decide) rfl rfl (Nat.le_of_ble_eq_true rfl) dX8_bestCrossings_1 ?_
  rintro _ _ ⟨rfl, rfl⟩
  refine ww_perm (gs' := [wGW E a0 (rf10 (a1 0) h0_1 h0_2 h0_3 h0_4 (a2 0) h0_6 h0_7 h0_8 h0_9) v0, wHouse E a1 v1, wBest E a2 (rf2 (a3 0) (a4 0)) p1.1, wHouse E a3 p1.2.1, wSight E a4 p1.2.2]) [0, 1, 2, 3, 4] 5 rfl (by decide) rfl ?_
  refine ww_get C clOK0 in_X8_bestCrossings_X0 (w := wBest E a2 (rf2 (a3 0) (a4 0)) p1.1) (fs := fsBest a2 (rf2 (a3 0) (a4 0)) p1.1) (v := .int (Best_crossings p1.1)) 2 0 2 rfl q_Best (by decide) (by decide +kernel) g_Best_crossings dX8_bestCrossings_4 ?_
  obtain rfl := Option.some.inj hf
  exact ww_iret C ⟨rfl, rfl⟩ dX8_bestCrossings_7

theorem yk_X8_bestCrossings : yX8_bestCrossings.cls = RX8 ∧ yX8_bestCrossings.cls ≠ "java/lang/invoke/MethodHandle" ∧ yX8_bestCrossings.cls ≠ "java/lang/invoke/VarHandle" ∧ (parseMethodDescriptor yX8_bestCrossings.desc).map (fun d => d.parameters.length) = some 0 := by decide +kernel
abbrev rmX8_bestPhase : Room := { frames := 7, cells := 0, slots := 0, locals := 163 }
set_option maxRecDepth 20000 in
theorem in_X8_bestPhase_X0 : ∀ w ∈ u_ws RX0 TX0 7, w ∈ wsX8_bestPhase := by decide +kernel
set_option maxHeartbeats 4000000 in
set_option maxRecDepth 100000 in
theorem c_X8_bestPhase {E : Ex} {a0 : Nat → Nat} {a1 : Nat → Nat} {a2 : Nat → Nat} {a3 : Nat → Nat} {a4 : Nat → Nat} {h0_1 h0_2 h0_3 h0_4 h0_6 h0_7 h0_8 h0_9 : Nat} {x1 : Int32} {v0 : GWV} {v1 : HouseV} {v2 : BestV} {v3 : HouseV} {v4 : SightV} {r : (Int32 × BestV × HouseV × SightV)} (hf : GW_bestPhase x1 v0 v1 v2 v3 v4 = some r) : Ct E yX8_bestPhase wsX8_bestPhase rmX8_bestPhase [.ref (a0 0), .int x1] [wGW E a0 (rf10 (a1 0) h0_1 h0_2 h0_3 h0_4 (a2 0) h0_6 h0_7 h0_8 h0_9) v0, wHouse E a1 v1, wBest E a2 (rf2 (a3 0) (a4 0)) v2, wHouse E a3 v3, wSight E a4 v4] (fun rv g => rv = some (.int r.1) ∧ g = [wGW E a0 (rf10 (a1 0) h0_1 h0_2 h0_3 h0_4 (a2 0) h0_6 h0_7 h0_8 h0_9) v0, wHouse E a1 v1, wBest E a2 (rf2 (a3 0) (a4 0)) r.2.1, wHouse E a3 r.2.2.1, wSight E a4 r.2.2.2]) := by
  refine ct_of (own := RX8) (by decide +kernel) rfl rfl (Nat.le_of_ble_eq_true rfl) (fun K C => ?_)
  refine ww_sub C (lv' := [(0, .ref (a0 0)), (1, .int x1)]) [0, 1] rfl ?_
  rw [GW_bestPhase] at hf
  refine ww_aload_n C dX8_bestPhase_0 rfl 0 rfl ?_
  refine ww_iload_n C dX8_bestPhase_1 rfl 1 rfl ?_
  obtain ⟨p2, hp2, hf⟩ := bdE hf
  refine ww_callV C (As := [.int x1]) (st := []) (gr := [wBest E a2 (rf2 (a3 0) (a4 0)) v2, wHouse E a3 v3, wSight E a4 v4]) (c_X8_needGuard (E := E) (a0 := a0) (h0_1 := h0_1) (h0_2 := h0_2) (h0_3 := h0_3) (h0_4 := h0_4) (h0_5 := a2 0) (h0_6 := h0_6) (h0_7 := h0_7) (h0_8 := h0_8) (h0_9 := h0_9) (a1 := a1) hp2) gX8_bestPhase_X8_needGuard rfl yk_X8_needGuard ⟨by decide, Nat.le_of_ble_eq_true rfl⟩ ⟨by decide, by decide⟩ clOK8 0 0 rfl rfl [0, 1] [2, 3, 4] 5 rfl (by decide) rfl rfl (Nat.le_of_ble_eq_true rfl) dX8_bestPhase_2 ?_
  rintro _ _ ⟨rfl, rfl⟩
  refine ww_perm (gs' := [wGW E a0 (rf10 (a1 0) h0_1 h0_2 h0_3 h0_4 (a2 0) h0_6 h0_7 h0_8 h0_9) v0, wHouse E a1 v1, wBest E a2 (rf2 (a3 0) (a4 0)) v2, wHouse E a3 v3, wSight E a4 v4]) [0, 1, 2, 3, 4] 5 rfl (by decide) rfl ?_
  refine ww_aload_n C dX8_bestPhase_5 rfl 0 rfl ?_
  obtain ⟨p6, hp6, hf⟩ := bdE hf
  refine ww_callV C (As := []) (st := []) (gr := []) (c_X8_best (E := E) (a0 := a0) (h0_1 := h0_1) (h0_2 := h0_2) (h0_3 := h0_3) (h0_4 := h0_4) (h0_6 := h0_6) (h0_7 := h0_7) (h0_8 := h0_8) (h0_9 := h0_9) (a1 := a1) (a2 := a2) (a3 := a3) (a4 := a4) hp6) gX8_bestPhase_X8_best rfl yk_X8_best ⟨by decide, Nat.le_of_ble_eq_true rfl⟩ ⟨by decide, by decide⟩ clOK8 0 0 rfl rfl [0, 1, 2, 3, 4] [] 5 rfl (by decide) rfl rfl (Nat.le_of_ble_eq_true rfl) dX8_bestPhase_6 ?_
  rintro _ _ ⟨rfl, rfl⟩
  refine ww_perm (gs' := [wGW E a0 (rf10 (a1 0) h0_1 h0_2 h0_3 h0_4 (a2 0) h0_6 h0_7 h0_8 h0_9) v0, wHouse E a1 v1, wBest E a2 (rf2 (a3 0) (a4 0)) p6.1, wHouse E a3 p6.2.1, wSight E a4 p6.2.2]) [0, 1, 2, 3, 4] 5 rfl (by decide) rfl ?_
  refine ww_get C clOK0 in_X8_bestPhase_X0 (w := wBest E a2 (rf2 (a3 0) (a4 0)) p6.1) (fs := fsBest a2 (rf2 (a3 0) (a4 0)) p6.1) (v := .ref (a2 1)) 2 0 0 rfl q_Best (by decide) (by decide +kernel) g_Best_phases dX8_bestPhase_9 ?_
  refine ww_iload_n C dX8_bestPhase_12 rfl 1 rfl ?_
  obtain ⟨g_1, hf⟩ := gdE hf
  refine ww_iald C (f := Best_phases p6.1) (w := wBest E a2 (rf2 (a3 0) (a4 0)) p6.1) 2 1 rfl c_Best_phases (inB_vp g_1) dX8_bestPhase_13 ?_
  obtain rfl := Option.some.inj hf
  exact ww_iret C ⟨rfl, rfl⟩ dX8_bestPhase_14

theorem yk_X8_bestPhase : yX8_bestPhase.cls = RX8 ∧ yX8_bestPhase.cls ≠ "java/lang/invoke/MethodHandle" ∧ yX8_bestPhase.cls ≠ "java/lang/invoke/VarHandle" ∧ (parseMethodDescriptor yX8_bestPhase.desc).map (fun d => d.parameters.length) = some 1 := by decide +kernel
