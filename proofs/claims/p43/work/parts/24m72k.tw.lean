abbrev rmX8_arrival : Room := { frames := 5, cells := 0, slots := 0, locals := 122 }
set_option maxRecDepth 20000 in
theorem in_X8_arrival_X8 : ∀ w ∈ u_ws RX8 TX8 14, w ∈ wsX8_arrival := by decide +kernel
set_option maxHeartbeats 4000000 in
set_option maxRecDepth 100000 in
theorem c_X8_arrival {E : Ex} {a0 : Nat → Nat} {a1 : Nat → Nat} {a2 : Nat → Nat} {h0_1 h0_2 h0_3 h0_4 h0_5 h0_7 h0_8 h0_9 : Nat} {x1 : Int32} {x2 : Int32} {x3 : Int32} {v0 : GWV} {v1 : HouseV} {v2 : IntrV} {r : (Int32 × IntrV)} (hf : GW_arrival x1 x2 x3 v0 v1 v2 = some r) : Ct E yX8_arrival wsX8_arrival rmX8_arrival [.ref (a0 0), .int x1, .int x2, .int x3] [wGW E a0 (rf10 (a1 0) h0_1 h0_2 h0_3 h0_4 h0_5 (a2 0) h0_7 h0_8 h0_9) v0, wHouse E a1 v1, wIntr E a2 v2] (fun rv g => rv = some (.int r.1) ∧ g = [wGW E a0 (rf10 (a1 0) h0_1 h0_2 h0_3 h0_4 h0_5 (a2 0) h0_7 h0_8 h0_9) v0, wHouse E a1 v1, wIntr E a2 r.2]) := by
  refine ct_of (own := RX8) (by decide +kernel) rfl rfl (Nat.le_of_ble_eq_true rfl) (fun K C => ?_)
  refine ww_sub C (lv' := [(0, .ref (a0 0)), (1, .int x1), (2, .int x2), (3, .int x3)]) [0, 1, 2, 3] rfl ?_
  rw [GW_arrival] at hf
  refine ww_aload_n C dX8_arrival_0 rfl 0 rfl ?_
  refine ww_iload_n C dX8_arrival_1 rfl 1 rfl ?_
  obtain ⟨p2, hp2, hf⟩ := bdE hf
  refine ww_callV C (As := [.int x1]) (st := []) (gr := [wIntr E a2 v2]) (c_X8_needRoom (E := E) (a0 := a0) (h0_1 := h0_1) (h0_2 := h0_2) (h0_3 := h0_3) (h0_4 := h0_4) (h0_5 := h0_5) (h0_6 := a2 0) (h0_7 := h0_7) (h0_8 := h0_8) (h0_9 := h0_9) (a1 := a1) hp2) gX8_arrival_X8_needRoom rfl yk_X8_needRoom ⟨by decide, Nat.le_of_ble_eq_true rfl⟩ ⟨by decide, by decide⟩ clOK8 0 0 rfl rfl [0, 1] [2] 3 rfl (by decide) rfl rfl (Nat.le_of_ble_eq_true rfl) dX8_arrival_2 ?_
  rintro _ _ ⟨rfl, rfl⟩
  refine ww_perm (gs' := [wGW E a0 (rf10 (a1 0) h0_1 h0_2 h0_3 h0_4 h0_5 (a2 0) h0_7 h0_8 h0_9) v0, wHouse E a1 v1, wIntr E a2 v2]) [0, 1, 2] 3 rfl (by decide) rfl ?_
  refine ww_aload_n C dX8_arrival_5 rfl 0 rfl ?_
  refine ww_iload_n C dX8_arrival_6 rfl 2 rfl ?_
  obtain ⟨p7, hp7, hf⟩ := bdE hf
  refine ww_callV C (As := [.int x2]) (st := []) (gr := [wIntr E a2 v2]) (c_X8_needRoom (E := E) (a0 := a0) (h0_1 := h0_1) (h0_2 := h0_2) (h0_3 := h0_3) (h0_4 := h0_4) (h0_5 := h0_5) (h0_6 := a2 0) (h0_7 := h0_7) (h0_8 := h0_8) (h0_9 := h0_9) (a1 := a1) hp7) gX8_arrival_X8_needRoom rfl yk_X8_needRoom ⟨by decide, Nat.le_of_ble_eq_true rfl⟩ ⟨by decide, by decide⟩ clOK8 0 0 rfl rfl [0, 1] [2] 3 rfl (by decide) rfl rfl (Nat.le_of_ble_eq_true rfl) dX8_arrival_7 ?_
  rintro _ _ ⟨rfl, rfl⟩
  refine ww_perm (gs' := [wGW E a0 (rf10 (a1 0) h0_1 h0_2 h0_3 h0_4 h0_5 (a2 0) h0_7 h0_8 h0_9) v0, wHouse E a1 v1, wIntr E a2 v2]) [0, 1, 2] 3 rfl (by decide) rfl ?_
  refine ww_iload_n C dX8_arrival_10 rfl 3 rfl ?_
  refine ww_iconst (v := 0) C dX8_arrival_11 (by decide) ?_
  refine ww_ldc (v := 1000000) C (by decide +kernel) dX8_arrival_12 ?_
  obtain ⟨p14, hp14, hf⟩ := bdE hf
  refine ww_callS C (As := [.int x3, .int 0, .int 1000000]) (st := []) (gr := [wGW E a0 (rf10 (a1 0) h0_1 h0_2 h0_3 h0_4 h0_5 (a2 0) h0_7 h0_8 h0_9) v0, wHouse E a1 v1, wIntr E a2 v2]) (c_X8_needRange (E := E)  hp14) gX8_arrival_X8_needRange rfl ysk_X8_needRange ⟨by decide, Nat.le_of_ble_eq_true rfl⟩ ⟨by decide, by decide⟩ [] [0, 1, 2] 3 rfl (by decide) rfl rfl (Nat.le_of_ble_eq_true rfl) dX8_arrival_14 ?_
  rintro _ _ ⟨rfl, rfl⟩
  refine ww_perm (gs' := [wGW E a0 (rf10 (a1 0) h0_1 h0_2 h0_3 h0_4 h0_5 (a2 0) h0_7 h0_8 h0_9) v0, wHouse E a1 v1, wIntr E a2 v2]) [0, 1, 2] 3 rfl (by decide) rfl ?_
  refine ww_aload_n C dX8_arrival_17 rfl 0 rfl ?_
  refine ww_get C clOK8 in_X8_arrival_X8 (w := wGW E a0 (rf10 (a1 0) h0_1 h0_2 h0_3 h0_4 h0_5 (a2 0) h0_7 h0_8 h0_9) v0) (fs := fsGW a0 (rf10 (a1 0) h0_1 h0_2 h0_3 h0_4 h0_5 (a2 0) h0_7 h0_8 h0_9) v0) (v := .ref (a2 0)) 0 0 6 rfl q_GW (by decide) (by decide +kernel) g_GW_intruder dX8_arrival_18 ?_
  refine ww_aload_n C dX8_arrival_21 rfl 0 rfl ?_
  refine ww_get C clOK8 in_X8_arrival_X8 (w := wGW E a0 (rf10 (a1 0) h0_1 h0_2 h0_3 h0_4 h0_5 (a2 0) h0_7 h0_8 h0_9) v0) (fs := fsGW a0 (rf10 (a1 0) h0_1 h0_2 h0_3 h0_4 h0_5 (a2 0) h0_7 h0_8 h0_9) v0) (v := .ref (a1 0)) 0 0 0 rfl q_GW (by decide) (by decide +kernel) g_GW_house dX8_arrival_22 ?_
  refine ww_iload_n C dX8_arrival_25 rfl 1 rfl ?_
  refine ww_iload_n C dX8_arrival_26 rfl 2 rfl ?_
  refine ww_iload_n C dX8_arrival_27 rfl 3 rfl ?_
  obtain ⟨p28, hp28, hf⟩ := bdE hf
  refine ww_callV C (As := [.ref (a1 0), .int x1, .int x2, .int x3]) (st := []) (gr := [wGW E a0 (rf10 (a1 0) h0_1 h0_2 h0_3 h0_4 h0_5 (a2 0) h0_7 h0_8 h0_9) v0]) (c_X4_firstArrival (E := E) (a0 := a2) (a1 := a1) hp28) gX8_arrival_X4_firstArrival rfl yk_X4_firstArrival ⟨by decide, Nat.le_of_ble_eq_true rfl⟩ ⟨by decide, by decide⟩ clOK4 0 0 rfl rfl [2, 1] [0] 3 rfl (by decide) rfl rfl (Nat.le_of_ble_eq_true rfl) dX8_arrival_28 ?_
  rintro _ _ ⟨rfl, rfl⟩
  refine ww_perm (gs' := [wGW E a0 (rf10 (a1 0) h0_1 h0_2 h0_3 h0_4 h0_5 (a2 0) h0_7 h0_8 h0_9) v0, wHouse E a1 v1, wIntr E a2 p28.2]) [2, 1, 0] 3 rfl (by decide) rfl ?_
  obtain rfl := Option.some.inj hf
  exact ww_iret C ⟨rfl, rfl⟩ dX8_arrival_31

theorem yk_X8_arrival : yX8_arrival.cls = RX8 ∧ yX8_arrival.cls ≠ "java/lang/invoke/MethodHandle" ∧ yX8_arrival.cls ≠ "java/lang/invoke/VarHandle" ∧ (parseMethodDescriptor yX8_arrival.desc).map (fun d => d.parameters.length) = some 3 := by decide +kernel
abbrev rmX8_hiding : Room := { frames := 5, cells := 0, slots := 0, locals := 120 }
set_option maxRecDepth 20000 in
theorem in_X8_hiding_X8 : ∀ w ∈ u_ws RX8 TX8 14, w ∈ wsX8_hiding := by decide +kernel
set_option maxHeartbeats 4000000 in
set_option maxRecDepth 100000 in
theorem c_X8_hiding {E : Ex} {a0 : Nat → Nat} {a1 : Nat → Nat} {a2 : Nat → Nat} {h0_1 h0_2 h0_3 h0_4 h0_5 h0_7 h0_8 h0_9 : Nat} {x1 : Int32} {x2 : Int32} {x3 : Int32} {v0 : GWV} {v1 : HouseV} {v2 : IntrV} {r : (Int32 × IntrV)} (hf : GW_hiding x1 x2 x3 v0 v1 v2 = some r) : Ct E yX8_hiding wsX8_hiding rmX8_hiding [.ref (a0 0), .int x1, .int x2, .int x3] [wGW E a0 (rf10 (a1 0) h0_1 h0_2 h0_3 h0_4 h0_5 (a2 0) h0_7 h0_8 h0_9) v0, wHouse E a1 v1, wIntr E a2 v2] (fun rv g => rv = some (.int r.1) ∧ g = [wGW E a0 (rf10 (a1 0) h0_1 h0_2 h0_3 h0_4 h0_5 (a2 0) h0_7 h0_8 h0_9) v0, wHouse E a1 v1, wIntr E a2 r.2]) := by
  refine ct_of (own := RX8) (by decide +kernel) rfl rfl (Nat.le_of_ble_eq_true rfl) (fun K C => ?_)
  refine ww_sub C (lv' := [(0, .ref (a0 0)), (1, .int x1), (2, .int x2), (3, .int x3)]) [0, 1, 2, 3] rfl ?_
  rw [GW_hiding] at hf
  refine ww_aload_n C dX8_hiding_0 rfl 0 rfl ?_
  refine ww_iload_n C dX8_hiding_1 rfl 1 rfl ?_
  obtain ⟨p2, hp2, hf⟩ := bdE hf
  refine ww_callV C (As := [.int x1]) (st := []) (gr := [wIntr E a2 v2]) (c_X8_needRoom (E := E) (a0 := a0) (h0_1 := h0_1) (h0_2 := h0_2) (h0_3 := h0_3) (h0_4 := h0_4) (h0_5 := h0_5) (h0_6 := a2 0) (h0_7 := h0_7) (h0_8 := h0_8) (h0_9 := h0_9) (a1 := a1) hp2) gX8_hiding_X8_needRoom rfl yk_X8_needRoom ⟨by decide, Nat.le_of_ble_eq_true rfl⟩ ⟨by decide, by decide⟩ clOK8 0 0 rfl rfl [0, 1] [2] 3 rfl (by decide) rfl rfl (Nat.le_of_ble_eq_true rfl) dX8_hiding_2 ?_
  rintro _ _ ⟨rfl, rfl⟩
  refine ww_perm (gs' := [wGW E a0 (rf10 (a1 0) h0_1 h0_2 h0_3 h0_4 h0_5 (a2 0) h0_7 h0_8 h0_9) v0, wHouse E a1 v1, wIntr E a2 v2]) [0, 1, 2] 3 rfl (by decide) rfl ?_
  refine ww_iload_n C dX8_hiding_5 rfl 2 rfl ?_
  refine ww_iconst (v := 0) C dX8_hiding_6 (by decide) ?_
  refine ww_ldc (v := 1000000) C (by decide +kernel) dX8_hiding_7 ?_
  obtain ⟨p9, hp9, hf⟩ := bdE hf
  refine ww_callS C (As := [.int x2, .int 0, .int 1000000]) (st := []) (gr := [wGW E a0 (rf10 (a1 0) h0_1 h0_2 h0_3 h0_4 h0_5 (a2 0) h0_7 h0_8 h0_9) v0, wHouse E a1 v1, wIntr E a2 v2]) (c_X8_needRange (E := E)  hp9) gX8_hiding_X8_needRange rfl ysk_X8_needRange ⟨by decide, Nat.le_of_ble_eq_true rfl⟩ ⟨by decide, by decide⟩ [] [0, 1, 2] 3 rfl (by decide) rfl rfl (Nat.le_of_ble_eq_true rfl) dX8_hiding_9 ?_
  rintro _ _ ⟨rfl, rfl⟩
  refine ww_perm (gs' := [wGW E a0 (rf10 (a1 0) h0_1 h0_2 h0_3 h0_4 h0_5 (a2 0) h0_7 h0_8 h0_9) v0, wHouse E a1 v1, wIntr E a2 v2]) [0, 1, 2] 3 rfl (by decide) rfl ?_
  refine ww_iload_n C dX8_hiding_12 rfl 3 rfl ?_
  refine ww_iconst (v := 0) C dX8_hiding_13 (by decide) ?_
  refine ww_bipush (v := 100) C dX8_hiding_14 (by decide) ?_
  obtain ⟨p16, hp16, hf⟩ := bdE hf
  refine ww_callS C (As := [.int x3, .int 0, .int 100]) (st := []) (gr := [wGW E a0 (rf10 (a1 0) h0_1 h0_2 h0_3 h0_4 h0_5 (a2 0) h0_7 h0_8 h0_9) v0, wHouse E a1 v1, wIntr E a2 v2]) (c_X8_needRange (E := E)  hp16) gX8_hiding_X8_needRange rfl ysk_X8_needRange ⟨by decide, Nat.le_of_ble_eq_true rfl⟩ ⟨by decide, by decide⟩ [] [0, 1, 2] 3 rfl (by decide) rfl rfl (Nat.le_of_ble_eq_true rfl) dX8_hiding_16 ?_
  rintro _ _ ⟨rfl, rfl⟩
  refine ww_perm (gs' := [wGW E a0 (rf10 (a1 0) h0_1 h0_2 h0_3 h0_4 h0_5 (a2 0) h0_7 h0_8 h0_9) v0, wHouse E a1 v1, wIntr E a2 v2]) [0, 1, 2] 3 rfl (by decide) rfl ?_
  refine ww_aload_n C dX8_hiding_19 rfl 0 rfl ?_
  refine ww_get C clOK8 in_X8_hiding_X8 (w := wGW E a0 (rf10 (a1 0) h0_1 h0_2 h0_3 h0_4 h0_5 (a2 0) h0_7 h0_8 h0_9) v0) (fs := fsGW a0 (rf10 (a1 0) h0_1 h0_2 h0_3 h0_4 h0_5 (a2 0) h0_7 h0_8 h0_9) v0) (v := .ref (a2 0)) 0 0 6 rfl q_GW (by decide) (by decide +kernel) g_GW_intruder dX8_hiding_20 ?_
  refine ww_aload_n C dX8_hiding_23 rfl 0 rfl ?_
  refine ww_get C clOK8 in_X8_hiding_X8 (w := wGW E a0 (rf10 (a1 0) h0_1 h0_2 h0_3 h0_4 h0_5 (a2 0) h0_7 h0_8 h0_9) v0) (fs := fsGW a0 (rf10 (a1 0) h0_1 h0_2 h0_3 h0_4 h0_5 (a2 0) h0_7 h0_8 h0_9) v0) (v := .ref (a1 0)) 0 0 0 rfl q_GW (by decide) (by decide +kernel) g_GW_house dX8_hiding_24 ?_
  refine ww_iload_n C dX8_hiding_27 rfl 1 rfl ?_
  refine ww_iload_n C dX8_hiding_28 rfl 2 rfl ?_
  refine ww_iload_n C dX8_hiding_29 rfl 3 rfl ?_
  obtain ⟨p30, hp30, hf⟩ := bdE hf
  refine ww_callV C (As := [.ref (a1 0), .int x1, .int x2, .int x3]) (st := []) (gr := [wGW E a0 (rf10 (a1 0) h0_1 h0_2 h0_3 h0_4 h0_5 (a2 0) h0_7 h0_8 h0_9) v0]) (c_X4_roomsAfter (E := E) (a0 := a2) (a1 := a1) hp30) gX8_hiding_X4_roomsAfter rfl yk_X4_roomsAfter ⟨by decide, Nat.le_of_ble_eq_true rfl⟩ ⟨by decide, by decide⟩ clOK4 0 0 rfl rfl [2, 1] [0] 3 rfl (by decide) rfl rfl (Nat.le_of_ble_eq_true rfl) dX8_hiding_30 ?_
  rintro _ _ ⟨rfl, rfl⟩
  refine ww_perm (gs' := [wGW E a0 (rf10 (a1 0) h0_1 h0_2 h0_3 h0_4 h0_5 (a2 0) h0_7 h0_8 h0_9) v0, wHouse E a1 v1, wIntr E a2 p30.2]) [2, 1, 0] 3 rfl (by decide) rfl ?_
  obtain rfl := Option.some.inj hf
  exact ww_iret C ⟨rfl, rfl⟩ dX8_hiding_33

theorem yk_X8_hiding : yX8_hiding.cls = RX8 ∧ yX8_hiding.cls ≠ "java/lang/invoke/MethodHandle" ∧ yX8_hiding.cls ≠ "java/lang/invoke/VarHandle" ∧ (parseMethodDescriptor yX8_hiding.desc).map (fun d => d.parameters.length) = some 3 := by decide +kernel
abbrev rmX8_pass : Room := { frames := 4, cells := 0, slots := 0, locals := 90 }
set_option maxRecDepth 20000 in
theorem in_X8_pass_X2 : ∀ w ∈ u_ws RX2 TX2 19, w ∈ wsX8_pass := by decide +kernel
set_option maxRecDepth 20000 in
theorem in_X8_pass_X8 : ∀ w ∈ u_ws RX8 TX8 14, w ∈ wsX8_pass := by decide +kernel
set_option maxHeartbeats 4000000 in
set_option maxRecDepth 100000 in
theorem w_X8_pass_41 {E : Ex} {K : Kx} (C : Cx E K cX8_pass 4 (some .int) RX8 wsX8_pass rmX8_pass) {a0 : Nat → Nat} {a1 : Nat → Nat} {a2 : Nat → Nat} {q3 : Nat} {ah3 : Nat → Nat → Nat} {h0_1 h0_3 h0_4 h0_5 h0_6 h0_7 h0_8 h0_9 h2_1 : Nat} {x1 : Int32} {v0 : GWV}  {r : (Int32 × HouseV × HistV × (Nat → HouseV))} : ∀ (n : Nat)  (x2 : Int32) (x3 : Int32) (v1 : HouseV) (v2 : HistV) (v3 : Nat → HouseV), GW_pass_41 x1 v0 n x2 x3 v1 v2 v3 = some r → WW E K 0 0 (QQ E K (fun rv g => rv = some (.int r.1) ∧ g = [wGW E a0 (rf10 (a1 0) h0_1 (a2 0) h0_3 h0_4 h0_5 h0_6 h0_7 h0_8 h0_9) v0, wHouse E a1 r.2.1, wHist E a2 (rf2 q3 h2_1) r.2.2.1, wHs E q3 ah3 r.2.2.2]) 0 0) 41 [(0, .ref (a0 0)), (1, .int x1), (2, .int x2), (3, .int x3)] [] [wGW E a0 (rf10 (a1 0) h0_1 (a2 0) h0_3 h0_4 h0_5 h0_6 h0_7 h0_8 h0_9) v0, wHouse E a1 v1, wHist E a2 (rf2 q3 h2_1) v2, wHs E q3 ah3 v3] := by
  intro n
  induction n with
  | zero =>
    intro  x2 x3 v1 v2 v3 hf
    simp [GW_pass_41] at hf
  | succ n ih =>
    intro  x2 x3 v1 v2 v3 hf
    rw [GW_pass_41] at hf
    refine ww_iload_n C dX8_pass_41 rfl 3 rfl ?_
    refine ww_iload_n C dX8_pass_42 rfl 1 rfl ?_
    refine ww_icmp_ge (tgt := 62) C dX8_pass_43 (by decide) (fun c_2 => ?_) (fun c_2 => ?_)
    · replace hf := ifT c_2 hf
      refine ww_iload_n C dX8_pass_62 rfl 2 rfl ?_
      obtain rfl := Option.some.inj hf
      exact ww_iret C ⟨rfl, rfl⟩ dX8_pass_63
    · replace hf := ifF c_2 hf
      refine ww_iload_n C dX8_pass_46 rfl 2 rfl ?_
      refine ww_aload_n C dX8_pass_47 rfl 0 rfl ?_
      refine ww_get C clOK8 in_X8_pass_X8 (w := wGW E a0 (rf10 (a1 0) h0_1 (a2 0) h0_3 h0_4 h0_5 h0_6 h0_7 h0_8 h0_9) v0) (fs := fsGW a0 (rf10 (a1 0) h0_1 (a2 0) h0_3 h0_4 h0_5 h0_6 h0_7 h0_8 h0_9) v0) (v := .ref (a1 0)) 0 0 0 rfl q_GW (by decide) (by decide +kernel) g_GW_house dX8_pass_48 ?_
      obtain ⟨p51, hp51, hf⟩ := bdE hf
      refine ww_callV C (As := []) (st := [.int x2]) (gr := [wGW E a0 (rf10 (a1 0) h0_1 (a2 0) h0_3 h0_4 h0_5 h0_6 h0_7 h0_8 h0_9) v0, wHist E a2 (rf2 q3 h2_1) v2, wHs E q3 ah3 v3]) (c_X2_passMinute (E := E) (a0 := a1) hp51) gX8_pass_X2_passMinute rfl yk_X2_passMinute ⟨by decide, Nat.le_of_ble_eq_true rfl⟩ ⟨by decide, by decide⟩ clOK2 0 0 rfl rfl [1] [0, 2, 3] 4 rfl (by decide) rfl rfl (Nat.le_of_ble_eq_true rfl) dX8_pass_51 ?_
      rintro _ _ ⟨rfl, rfl⟩
      refine ww_perm (gs' := [wGW E a0 (rf10 (a1 0) h0_1 (a2 0) h0_3 h0_4 h0_5 h0_6 h0_7 h0_8 h0_9) v0, wHouse E a1 p51.2, wHist E a2 (rf2 q3 h2_1) v2, wHs E q3 ah3 v3]) [1, 0, 2, 3] 4 rfl (by decide) rfl ?_
      refine ww_iadd C dX8_pass_54 ?_
      refine ww_topi (fun x2_55 e_x2_55 => ?_)
      replace hf := ltE e_x2_55 hf
      refine ww_istore_n (lv' := [(2, .int x2_55), (0, .ref (a0 0)), (1, .int x1), (3, .int x3)]) C dX8_pass_55 rfl (by decide) rfl ?_
      obtain ⟨x3_56, e_x3_56⟩ : ∃ y : Int32, y = x3 + 1 := ⟨_, rfl⟩
      replace hf := ltE e_x3_56 hf
      refine ww_iinc (v := x3_56) (lv' := [(3, .int x3_56), (2, .int x2_55), (0, .ref (a0 0)), (1, .int x1)]) C dX8_pass_56 3 rfl (by rw [e_x3_56]; rfl) (by decide) rfl ?_
      refine ww_goto (tgt := 41) C dX8_pass_59 (by decide) ?_
      refine ww_sub C (lv' := [(0, .ref (a0 0)), (1, .int x1), (2, .int x2_55), (3, .int x3_56)]) [2, 3, 1, 0] rfl ?_
      exact ih _ _ _ _ _ hf

set_option maxHeartbeats 4000000 in
set_option maxRecDepth 100000 in
theorem c_X8_pass {E : Ex} {a0 : Nat → Nat} {a1 : Nat → Nat} {a2 : Nat → Nat} {q3 : Nat} {ah3 : Nat → Nat → Nat} {h0_1 h0_3 h0_4 h0_5 h0_6 h0_7 h0_8 h0_9 h2_1 : Nat} {x1 : Int32} {v0 : GWV} {v1 : HouseV} {v2 : HistV} {v3 : Nat → HouseV} {r : (Int32 × HouseV × HistV × (Nat → HouseV))} (hf : GW_pass x1 v0 v1 v2 v3 = some r) : Ct E yX8_pass wsX8_pass rmX8_pass [.ref (a0 0), .int x1] [wGW E a0 (rf10 (a1 0) h0_1 (a2 0) h0_3 h0_4 h0_5 h0_6 h0_7 h0_8 h0_9) v0, wHouse E a1 v1, wHist E a2 (rf2 q3 h2_1) v2, wHs E q3 ah3 v3] (fun rv g => rv = some (.int r.1) ∧ g = [wGW E a0 (rf10 (a1 0) h0_1 (a2 0) h0_3 h0_4 h0_5 h0_6 h0_7 h0_8 h0_9) v0, wHouse E a1 r.2.1, wHist E a2 (rf2 q3 h2_1) r.2.2.1, wHs E q3 ah3 r.2.2.2]) := by
  refine ct_of (own := RX8) (by decide +kernel) rfl rfl (Nat.le_of_ble_eq_true rfl) (fun K C => ?_)
  refine ww_sub C (lv' := [(0, .ref (a0 0)), (1, .int x1)]) [0, 1] rfl ?_
  rw [GW_pass] at hf
  refine ww_iload_n C dX8_pass_0 rfl 1 rfl ?_
  refine ww_iconst (v := 1) C dX8_pass_1 (by decide) ?_
  refine ww_sipush (v := 500) C dX8_pass_2 (by decide) ?_
  obtain ⟨p5, hp5, hf⟩ := bdE hf
  refine ww_callS C (As := [.int x1, .int 1, .int 500]) (st := []) (gr := [wGW E a0 (rf10 (a1 0) h0_1 (a2 0) h0_3 h0_4 h0_5 h0_6 h0_7 h0_8 h0_9) v0, wHouse E a1 v1, wHist E a2 (rf2 q3 h2_1) v2, wHs E q3 ah3 v3]) (c_X8_needRange (E := E)  hp5) gX8_pass_X8_needRange rfl ysk_X8_needRange ⟨by decide, Nat.le_of_ble_eq_true rfl⟩ ⟨by decide, by decide⟩ [] [0, 1, 2, 3] 4 rfl (by decide) rfl rfl (Nat.le_of_ble_eq_true rfl) dX8_pass_5 ?_
  rintro _ _ ⟨rfl, rfl⟩
  refine ww_perm (gs' := [wGW E a0 (rf10 (a1 0) h0_1 (a2 0) h0_3 h0_4 h0_5 h0_6 h0_7 h0_8 h0_9) v0, wHouse E a1 v1, wHist E a2 (rf2 q3 h2_1) v2, wHs E q3 ah3 v3]) [0, 1, 2, 3] 4 rfl (by decide) rfl ?_
  refine ww_aload_n C dX8_pass_8 rfl 0 rfl ?_
  refine ww_get C clOK8 in_X8_pass_X8 (w := wGW E a0 (rf10 (a1 0) h0_1 (a2 0) h0_3 h0_4 h0_5 h0_6 h0_7 h0_8 h0_9) v0) (fs := fsGW a0 (rf10 (a1 0) h0_1 (a2 0) h0_3 h0_4 h0_5 h0_6 h0_7 h0_8 h0_9) v0) (v := .ref (a1 0)) 0 0 0 rfl q_GW (by decide) (by decide +kernel) g_GW_house dX8_pass_9 ?_
  refine ww_get C clOK2 in_X8_pass_X2 (w := wHouse E a1 v1) (fs := fsHouse a1 v1) (v := .int (House_minute v1)) 1 0 3 rfl q_House (by decide) (by decide +kernel) g_House_minute dX8_pass_12 ?_
  refine ww_iload_n C dX8_pass_15 rfl 1 rfl ?_
  refine ww_iadd C dX8_pass_16 ?_
  refine ww_ldcw (v := 99999) C (by decide +kernel) dX8_pass_17 ?_
  refine ww_icmp_le (tgt := 26) C dX8_pass_20 (by decide) (fun c_1 => ?_) (fun c_1 => ?_)
  · replace hf := ifT c_1 hf
    refine ww_aload_n C dX8_pass_26 rfl 0 rfl ?_
    refine ww_get C clOK8 in_X8_pass_X8 (w := wGW E a0 (rf10 (a1 0) h0_1 (a2 0) h0_3 h0_4 h0_5 h0_6 h0_7 h0_8 h0_9) v0) (fs := fsGW a0 (rf10 (a1 0) h0_1 (a2 0) h0_3 h0_4 h0_5 h0_6 h0_7 h0_8 h0_9) v0) (v := .ref (a2 0)) 0 0 2 rfl q_GW (by decide) (by decide +kernel) g_GW_history dX8_pass_27 ?_
    refine ww_aload_n C dX8_pass_30 rfl 0 rfl ?_
    refine ww_get C clOK8 in_X8_pass_X8 (w := wGW E a0 (rf10 (a1 0) h0_1 (a2 0) h0_3 h0_4 h0_5 h0_6 h0_7 h0_8 h0_9) v0) (fs := fsGW a0 (rf10 (a1 0) h0_1 (a2 0) h0_3 h0_4 h0_5 h0_6 h0_7 h0_8 h0_9) v0) (v := .ref (a1 0)) 0 0 0 rfl q_GW (by decide) (by decide +kernel) g_GW_house dX8_pass_31 ?_
    obtain ⟨p34, hp34, hf⟩ := bdE hf
    refine ww_callV C (As := [.ref (a1 0)]) (st := []) (gr := [wGW E a0 (rf10 (a1 0) h0_1 (a2 0) h0_3 h0_4 h0_5 h0_6 h0_7 h0_8 h0_9) v0]) (c_X1_record (E := E) (a0 := a2) (h0_1 := h2_1) (q1 := q3) (ah1 := ah3) (a2 := a1) hp34) gX8_pass_X1_record rfl yk_X1_record ⟨by decide, Nat.le_of_ble_eq_true rfl⟩ ⟨by decide, by decide⟩ clOK1 0 0 rfl rfl [2, 3, 1] [0] 4 rfl (by decide) rfl rfl (Nat.le_of_ble_eq_true rfl) dX8_pass_34 ?_
    rintro _ _ ⟨rfl, rfl⟩
    refine ww_perm (gs' := [wGW E a0 (rf10 (a1 0) h0_1 (a2 0) h0_3 h0_4 h0_5 h0_6 h0_7 h0_8 h0_9) v0, wHouse E a1 v1, wHist E a2 (rf2 q3 h2_1) p34.1, wHs E q3 ah3 p34.2]) [3, 2, 0, 1] 4 rfl (by decide) rfl ?_
    refine ww_iconst (v := 0) C dX8_pass_37 (by decide) ?_
    refine ww_istore_n (lv' := [(2, .int 0), (0, .ref (a0 0)), (1, .int x1)]) C dX8_pass_38 rfl (by decide) rfl ?_
    refine ww_iconst (v := 0) C dX8_pass_39 (by decide) ?_
    refine ww_istore_n (lv' := [(3, .int 0), (2, .int 0), (0, .ref (a0 0)), (1, .int x1)]) C dX8_pass_40 rfl (by decide) rfl ?_
    refine ww_sub C (lv' := [(0, .ref (a0 0)), (1, .int x1), (2, .int 0), (3, .int 0)]) [2, 3, 1, 0] rfl ?_
    exact w_X8_pass_41 C FU _ _ _ _ _ hf
  · replace hf := ifF c_1 hf
    refine ww_bipush (v := (-2)) C dX8_pass_23 (by decide) ?_
    obtain rfl := Option.some.inj hf
    exact ww_iret C ⟨rfl, rfl⟩ dX8_pass_25

theorem yk_X8_pass : yX8_pass.cls = RX8 ∧ yX8_pass.cls ≠ "java/lang/invoke/MethodHandle" ∧ yX8_pass.cls ≠ "java/lang/invoke/VarHandle" ∧ (parseMethodDescriptor yX8_pass.desc).map (fun d => d.parameters.length) = some 1 := by decide +kernel
abbrev rmX8_shift : Room := { frames := 5, cells := 0, slots := 0, locals := 109 }
set_option maxRecDepth 20000 in
theorem in_X8_shift_X2 : ∀ w ∈ u_ws RX2 TX2 19, w ∈ wsX8_shift := by decide +kernel
set_option maxRecDepth 20000 in
theorem in_X8_shift_X6 : ∀ w ∈ u_ws RX6 TX6 8, w ∈ wsX8_shift := by decide +kernel
set_option maxRecDepth 20000 in
theorem in_X8_shift_X8 : ∀ w ∈ u_ws RX8 TX8 14, w ∈ wsX8_shift := by decide +kernel
set_option maxHeartbeats 4000000 in
set_option maxRecDepth 100000 in
theorem c_X8_shift {E : Ex} {a0 : Nat → Nat} {a1 : Nat → Nat} {a2 : Nat → Nat} {q3 : Nat} {ah3 : Nat → Nat → Nat} {a4 : Nat → Nat} {h0_1 h0_4 h0_5 h0_6 h0_7 h0_8 h0_9 h2_1 : Nat} {x1 : Int32} {x2 : Int32} {v0 : GWV} {v1 : HouseV} {v2 : HistV} {v3 : Nat → HouseV} {v4 : SightV} {r : (Int32 × GWV × HouseV × HistV × (Nat → HouseV) × SightV)} (hf : GW_shift x1 x2 v0 v1 v2 v3 v4 = some r) : Ct E yX8_shift wsX8_shift rmX8_shift [.ref (a0 0), .int x1, .int x2] [wGW E a0 (rf10 (a1 0) h0_1 (a2 0) (a4 0) h0_4 h0_5 h0_6 h0_7 h0_8 h0_9) v0, wHouse E a1 v1, wHist E a2 (rf2 q3 h2_1) v2, wHs E q3 ah3 v3, wSight E a4 v4] (fun rv g => rv = some (.int r.1) ∧ g = [wGW E a0 (rf10 (a1 0) h0_1 (a2 0) (a4 0) h0_4 h0_5 h0_6 h0_7 h0_8 h0_9) r.2.1, wHouse E a1 r.2.2.1, wHist E a2 (rf2 q3 h2_1) r.2.2.2.1, wHs E q3 ah3 r.2.2.2.2.1, wSight E a4 r.2.2.2.2.2]) := by
  refine ct_of (own := RX8) (by decide +kernel) rfl rfl (Nat.le_of_ble_eq_true rfl) (fun K C => ?_)
  refine ww_sub C (lv' := [(0, .ref (a0 0)), (1, .int x1), (2, .int x2)]) [0, 1, 2] rfl ?_
  rw [GW_shift] at hf
  refine ww_aload_n C dX8_shift_0 rfl 0 rfl ?_
  refine ww_iload_n C dX8_shift_1 rfl 1 rfl ?_
  obtain ⟨p2, hp2, hf⟩ := bdE hf
  refine ww_callV C (As := [.int x1]) (st := []) (gr := [wHist E a2 (rf2 q3 h2_1) v2, wHs E q3 ah3 v3, wSight E a4 v4]) (c_X8_needGuard (E := E) (a0 := a0) (h0_1 := h0_1) (h0_2 := a2 0) (h0_3 := a4 0) (h0_4 := h0_4) (h0_5 := h0_5) (h0_6 := h0_6) (h0_7 := h0_7) (h0_8 := h0_8) (h0_9 := h0_9) (a1 := a1) hp2) gX8_shift_X8_needGuard rfl yk_X8_needGuard ⟨by decide, Nat.le_of_ble_eq_true rfl⟩ ⟨by decide, by decide⟩ clOK8 0 0 rfl rfl [0, 1] [2, 3, 4] 5 rfl (by decide) rfl rfl (Nat.le_of_ble_eq_true rfl) dX8_shift_2 ?_
  rintro _ _ ⟨rfl, rfl⟩
  refine ww_perm (gs' := [wGW E a0 (rf10 (a1 0) h0_1 (a2 0) (a4 0) h0_4 h0_5 h0_6 h0_7 h0_8 h0_9) v0, wHouse E a1 v1, wHist E a2 (rf2 q3 h2_1) v2, wHs E q3 ah3 v3, wSight E a4 v4]) [0, 1, 2, 3, 4] 5 rfl (by decide) rfl ?_
  refine ww_iload_n C dX8_shift_5 rfl 2 rfl ?_
  refine ww_iconst (v := 0) C dX8_shift_6 (by decide) ?_
  refine ww_aload_n C dX8_shift_7 rfl 0 rfl ?_
  refine ww_get C clOK8 in_X8_shift_X8 (w := wGW E a0 (rf10 (a1 0) h0_1 (a2 0) (a4 0) h0_4 h0_5 h0_6 h0_7 h0_8 h0_9) v0) (fs := fsGW a0 (rf10 (a1 0) h0_1 (a2 0) (a4 0) h0_4 h0_5 h0_6 h0_7 h0_8 h0_9) v0) (v := .ref (a1 0)) 0 0 0 rfl q_GW (by decide) (by decide +kernel) g_GW_house dX8_shift_8 ?_
  refine ww_get C clOK2 in_X8_shift_X2 (w := wHouse E a1 v1) (fs := fsHouse a1 v1) (v := .ref (a1 5)) 1 0 11 rfl q_House (by decide) (by decide +kernel) g_House_periods dX8_shift_11 ?_
  refine ww_iload_n C dX8_shift_14 rfl 1 rfl ?_
  obtain ⟨g_1, hf⟩ := gdE hf
  refine ww_iald C (f := House_periods v1) (w := wHouse E a1 v1) 1 5 rfl c_House_periods (inB_vp g_1) dX8_shift_15 ?_
  refine ww_iconst (v := 1) C dX8_shift_16 (by decide) ?_
  refine ww_isub C dX8_shift_17 ?_
  obtain ⟨p18, hp18, hf⟩ := bdE hf
  refine ww_callS C (As := [.int x2, .int 0, .int (((House_periods v1) (Int32.toNatClampNeg x1)) - 1)]) (st := []) (gr := [wGW E a0 (rf10 (a1 0) h0_1 (a2 0) (a4 0) h0_4 h0_5 h0_6 h0_7 h0_8 h0_9) v0, wHouse E a1 v1, wHist E a2 (rf2 q3 h2_1) v2, wHs E q3 ah3 v3, wSight E a4 v4]) (c_X8_needRange (E := E)  hp18) gX8_shift_X8_needRange rfl ysk_X8_needRange ⟨by decide, Nat.le_of_ble_eq_true rfl⟩ ⟨by decide, by decide⟩ [] [0, 1, 2, 3, 4] 5 rfl (by decide) rfl rfl (Nat.le_of_ble_eq_true rfl) dX8_shift_18 ?_
  rintro _ _ ⟨rfl, rfl⟩
  refine ww_perm (gs' := [wGW E a0 (rf10 (a1 0) h0_1 (a2 0) (a4 0) h0_4 h0_5 h0_6 h0_7 h0_8 h0_9) v0, wHouse E a1 v1, wHist E a2 (rf2 q3 h2_1) v2, wHs E q3 ah3 v3, wSight E a4 v4]) [0, 1, 2, 3, 4] 5 rfl (by decide) rfl ?_
  refine ww_aload_n C dX8_shift_21 rfl 0 rfl ?_
  refine ww_get C clOK8 in_X8_shift_X8 (w := wGW E a0 (rf10 (a1 0) h0_1 (a2 0) (a4 0) h0_4 h0_5 h0_6 h0_7 h0_8 h0_9) v0) (fs := fsGW a0 (rf10 (a1 0) h0_1 (a2 0) (a4 0) h0_4 h0_5 h0_6 h0_7 h0_8 h0_9) v0) (v := .ref (a2 0)) 0 0 2 rfl q_GW (by decide) (by decide +kernel) g_GW_history dX8_shift_22 ?_
  refine ww_aload_n C dX8_shift_25 rfl 0 rfl ?_
  refine ww_get C clOK8 in_X8_shift_X8 (w := wGW E a0 (rf10 (a1 0) h0_1 (a2 0) (a4 0) h0_4 h0_5 h0_6 h0_7 h0_8 h0_9) v0) (fs := fsGW a0 (rf10 (a1 0) h0_1 (a2 0) (a4 0) h0_4 h0_5 h0_6 h0_7 h0_8 h0_9) v0) (v := .ref (a1 0)) 0 0 0 rfl q_GW (by decide) (by decide +kernel) g_GW_house dX8_shift_26 ?_
  obtain ⟨p29, hp29, hf⟩ := bdE hf
  refine ww_callV C (As := [.ref (a1 0)]) (st := []) (gr := [wGW E a0 (rf10 (a1 0) h0_1 (a2 0) (a4 0) h0_4 h0_5 h0_6 h0_7 h0_8 h0_9) v0, wSight E a4 v4]) (c_X1_record (E := E) (a0 := a2) (h0_1 := h2_1) (q1 := q3) (ah1 := ah3) (a2 := a1) hp29) gX8_shift_X1_record rfl yk_X1_record ⟨by decide, Nat.le_of_ble_eq_true rfl⟩ ⟨by decide, by decide⟩ clOK1 0 0 rfl rfl [2, 3, 1] [0, 4] 5 rfl (by decide) rfl rfl (Nat.le_of_ble_eq_true rfl) dX8_shift_29 ?_
  rintro _ _ ⟨rfl, rfl⟩
  refine ww_perm (gs' := [wGW E a0 (rf10 (a1 0) h0_1 (a2 0) (a4 0) h0_4 h0_5 h0_6 h0_7 h0_8 h0_9) v0, wHouse E a1 v1, wHist E a2 (rf2 q3 h2_1) p29.1, wHs E q3 ah3 p29.2, wSight E a4 v4]) [3, 2, 0, 1, 4] 5 rfl (by decide) rfl ?_
  refine ww_aload_n C dX8_shift_32 rfl 0 rfl ?_
  refine ww_get C clOK8 in_X8_shift_X8 (w := wGW E a0 (rf10 (a1 0) h0_1 (a2 0) (a4 0) h0_4 h0_5 h0_6 h0_7 h0_8 h0_9) v0) (fs := fsGW a0 (rf10 (a1 0) h0_1 (a2 0) (a4 0) h0_4 h0_5 h0_6 h0_7 h0_8 h0_9) v0) (v := .ref (a1 0)) 0 0 0 rfl q_GW (by decide) (by decide +kernel) g_GW_house dX8_shift_33 ?_
  refine ww_get C clOK2 in_X8_shift_X2 (w := wHouse E a1 v1) (fs := fsHouse a1 v1) (v := .ref (a1 6)) 1 0 12 rfl q_House (by decide) (by decide +kernel) g_House_phases dX8_shift_36 ?_
  refine ww_iload_n C dX8_shift_39 rfl 1 rfl ?_
  refine ww_iload_n C dX8_shift_40 rfl 2 rfl ?_
  obtain ⟨v1_41, e_v1_41⟩ : ∃ y : HouseV, y = House_set_phases v1 (upd (House_phases v1) (Int32.toNatClampNeg x1) x2) := ⟨_, rfl⟩
  replace hf := ltE e_v1_41 hf
  refine ww_iast C (f := House_phases v1) (w := wHouse E a1 v1) (w' := wHouse E a1 v1_41) (gs' := [wGW E a0 (rf10 (a1 0) h0_1 (a2 0) (a4 0) h0_4 h0_5 h0_6 h0_7 h0_8 h0_9) v0, wHouse E a1 v1_41, wHist E a2 (rf2 q3 h2_1) p29.1, wHs E q3 ah3 p29.2, wSight E a4 v4]) 1 6 rfl c_House_phases (inB_vp g_1) (by rw [e_v1_41]; exact s_House_phases) rfl dX8_shift_41 ?_
  refine ww_aload_n C dX8_shift_42 rfl 0 rfl ?_
  obtain ⟨p43, hp43, hf⟩ := bdE hf
  refine ww_callV C (As := []) (st := []) (gr := [wHist E a2 (rf2 q3 h2_1) p29.1, wHs E q3 ah3 p29.2, wSight E a4 v4]) (c_X8_markPhasesChanged (E := E) (a0 := a0) (h0_1 := h0_1) (h0_2 := a2 0) (h0_3 := a4 0) (h0_4 := h0_4) (h0_5 := h0_5) (h0_6 := h0_6) (h0_7 := h0_7) (h0_8 := h0_8) (h0_9 := h0_9) (a1 := a1) hp43) gX8_shift_X8_markPhasesChanged rfl yk_X8_markPhasesChanged ⟨by decide, Nat.le_of_ble_eq_true rfl⟩ ⟨by decide, by decide⟩ clOK8 0 0 rfl rfl [0, 1] [2, 3, 4] 5 rfl (by decide) rfl rfl (Nat.le_of_ble_eq_true rfl) dX8_shift_43 ?_
  rintro _ _ ⟨rfl, rfl⟩
  refine ww_perm (gs' := [wGW E a0 (rf10 (a1 0) h0_1 (a2 0) (a4 0) h0_4 h0_5 h0_6 h0_7 h0_8 h0_9) p43.1, wHouse E a1 p43.2, wHist E a2 (rf2 q3 h2_1) p29.1, wHs E q3 ah3 p29.2, wSight E a4 v4]) [0, 1, 2, 3, 4] 5 rfl (by decide) rfl ?_
  refine ww_aload_n C dX8_shift_46 rfl 0 rfl ?_
  obtain ⟨p47, hp47, hf⟩ := bdE hf
  refine ww_callV C (As := []) (st := []) (gr := [wHist E a2 (rf2 q3 h2_1) p29.1, wHs E q3 ah3 p29.2]) (c_X8_measured (E := E) (a0 := a0) (h0_1 := h0_1) (h0_2 := a2 0) (h0_4 := h0_4) (h0_5 := h0_5) (h0_6 := h0_6) (h0_7 := h0_7) (h0_8 := h0_8) (h0_9 := h0_9) (a1 := a1) (a2 := a4) hp47) gX8_shift_X8_measured rfl yk_X8_measured ⟨by decide, Nat.le_of_ble_eq_true rfl⟩ ⟨by decide, by decide⟩ clOK8 0 0 rfl rfl [0, 1, 4] [2, 3] 5 rfl (by decide) rfl rfl (Nat.le_of_ble_eq_true rfl) dX8_shift_47 ?_
  rintro _ _ ⟨rfl, rfl⟩
  refine ww_perm (gs' := [wGW E a0 (rf10 (a1 0) h0_1 (a2 0) (a4 0) h0_4 h0_5 h0_6 h0_7 h0_8 h0_9) p43.1, wHouse E a1 p43.2, wHist E a2 (rf2 q3 h2_1) p29.1, wHs E q3 ah3 p29.2, wSight E a4 p47]) [0, 1, 3, 4, 2] 5 rfl (by decide) rfl ?_
  refine ww_get C clOK6 in_X8_shift_X6 (w := wSight E a4 p47) (fs := fsSight a4 p47) (v := .int (Sight_worst p47)) 4 0 6 rfl q_Sight (by decide) (by decide +kernel) g_Sight_worst dX8_shift_50 ?_
  obtain rfl := Option.some.inj hf
  exact ww_iret C ⟨rfl, rfl⟩ dX8_shift_53

theorem yk_X8_shift : yX8_shift.cls = RX8 ∧ yX8_shift.cls ≠ "java/lang/invoke/MethodHandle" ∧ yX8_shift.cls ≠ "java/lang/invoke/VarHandle" ∧ (parseMethodDescriptor yX8_shift.desc).map (fun d => d.parameters.length) = some 2 := by decide +kernel
abbrev rmX8_adopt : Room := { frames := 7, cells := 0, slots := 0, locals := 163 }
set_option maxRecDepth 20000 in
theorem in_X8_adopt_X0 : ∀ w ∈ u_ws RX0 TX0 7, w ∈ wsX8_adopt := by decide +kernel
set_option maxRecDepth 20000 in
theorem in_X8_adopt_X2 : ∀ w ∈ u_ws RX2 TX2 19, w ∈ wsX8_adopt := by decide +kernel
set_option maxRecDepth 20000 in
theorem in_X8_adopt_X8 : ∀ w ∈ u_ws RX8 TX8 14, w ∈ wsX8_adopt := by decide +kernel
set_option maxHeartbeats 4000000 in
set_option maxRecDepth 100000 in
theorem w_X8_adopt_78 {E : Ex} {K : Kx} (C : Cx E K cX8_adopt 4 (some .int) RX8 wsX8_adopt rmX8_adopt) {a0 : Nat → Nat} {a1 : Nat → Nat} {a2 : Nat → Nat} {q3 : Nat} {ah3 : Nat → Nat → Nat} {a4 : Nat → Nat} {a5 : Nat → Nat} {a6 : Nat → Nat} {h0_1 h0_3 h0_4 h0_6 h0_7 h0_8 h0_9 h2_1 : Nat}    {x2 : Int32} {v0 : GWV} {v1 : HouseV} {v2 : HistV} {v3 : Nat → HouseV} {v4 : BestV} {v5 : HouseV} {v6 : SightV} {r : (Int32 × GWV × HouseV × HistV × (Nat → HouseV) × BestV × HouseV × SightV)} (hf : GW_adopt_78 x2 v0 v1 v2 v3 v4 v5 v6 = some r) : WW E K 0 0 (QQ E K (fun rv g => rv = some (.int r.1) ∧ g = [wGW E a0 (rf10 (a1 0) h0_1 (a2 0) h0_3 h0_4 (a4 0) h0_6 h0_7 h0_8 h0_9) r.2.1, wHouse E a1 r.2.2.1, wHist E a2 (rf2 q3 h2_1) r.2.2.2.1, wHs E q3 ah3 r.2.2.2.2.1, wBest E a4 (rf2 (a5 0) (a6 0)) r.2.2.2.2.2.1, wHouse E a5 r.2.2.2.2.2.2.1, wSight E a6 r.2.2.2.2.2.2.2]) 0 0) 78 [(0, .ref (a0 0)), (2, .int x2)] [] [wGW E a0 (rf10 (a1 0) h0_1 (a2 0) h0_3 h0_4 (a4 0) h0_6 h0_7 h0_8 h0_9) v0, wHouse E a1 v1, wHist E a2 (rf2 q3 h2_1) v2, wHs E q3 ah3 v3, wBest E a4 (rf2 (a5 0) (a6 0)) v4, wHouse E a5 v5, wSight E a6 v6] := by
  rw [GW_adopt_78] at hf
  refine ww_aload_n C dX8_adopt_78 rfl 0 rfl ?_
  obtain ⟨p79, hp79, hf⟩ := bdE hf
  refine ww_callV C (As := []) (st := []) (gr := [wHist E a2 (rf2 q3 h2_1) v2, wHs E q3 ah3 v3, wBest E a4 (rf2 (a5 0) (a6 0)) v4, wHouse E a5 v5, wSight E a6 v6]) (c_X8_markPhasesChanged (E := E) (a0 := a0) (h0_1 := h0_1) (h0_2 := a2 0) (h0_3 := h0_3) (h0_4 := h0_4) (h0_5 := a4 0) (h0_6 := h0_6) (h0_7 := h0_7) (h0_8 := h0_8) (h0_9 := h0_9) (a1 := a1) hp79) gX8_adopt_X8_markPhasesChanged rfl yk_X8_markPhasesChanged ⟨by decide, Nat.le_of_ble_eq_true rfl⟩ ⟨by decide, by decide⟩ clOK8 0 0 rfl rfl [0, 1] [2, 3, 4, 5, 6] 7 rfl (by decide) rfl rfl (Nat.le_of_ble_eq_true rfl) dX8_adopt_79 ?_
  rintro _ _ ⟨rfl, rfl⟩
  refine ww_perm (gs' := [wGW E a0 (rf10 (a1 0) h0_1 (a2 0) h0_3 h0_4 (a4 0) h0_6 h0_7 h0_8 h0_9) p79.1, wHouse E a1 p79.2, wHist E a2 (rf2 q3 h2_1) v2, wHs E q3 ah3 v3, wBest E a4 (rf2 (a5 0) (a6 0)) v4, wHouse E a5 v5, wSight E a6 v6]) [0, 1, 2, 3, 4, 5, 6] 7 rfl (by decide) rfl ?_
  refine ww_iload_n C dX8_adopt_82 rfl 1 rfl ?_
  obtain rfl := Option.some.inj hf
  exact ww_iret C ⟨rfl, rfl⟩ dX8_adopt_83

set_option maxHeartbeats 4000000 in
set_option maxRecDepth 100000 in
theorem w_X8_adopt_20 {E : Ex} {K : Kx} (C : Cx E K cX8_adopt 4 (some .int) RX8 wsX8_adopt rmX8_adopt) {a0 : Nat → Nat} {a1 : Nat → Nat} {a2 : Nat → Nat} {q3 : Nat} {ah3 : Nat → Nat → Nat} {a4 : Nat → Nat} {a5 : Nat → Nat} {a6 : Nat → Nat} {h0_1 h0_3 h0_4 h0_6 h0_7 h0_8 h0_9 h2_1 : Nat}   {r : (Int32 × GWV × HouseV × HistV × (Nat → HouseV) × BestV × HouseV × SightV)} : ∀ (n : Nat)  (x2 : Int32) (x3 : Int32) (v0 : GWV) (v1 : HouseV) (v2 : HistV) (v3 : Nat → HouseV) (v4 : BestV) (v5 : HouseV) (v6 : SightV), GW_adopt_20 n x2 x3 v0 v1 v2 v3 v4 v5 v6 = some r → WW E K 0 0 (QQ E K (fun rv g => rv = some (.int r.1) ∧ g = [wGW E a0 (rf10 (a1 0) h0_1 (a2 0) h0_3 h0_4 (a4 0) h0_6 h0_7 h0_8 h0_9) r.2.1, wHouse E a1 r.2.2.1, wHist E a2 (rf2 q3 h2_1) r.2.2.2.1, wHs E q3 ah3 r.2.2.2.2.1, wBest E a4 (rf2 (a5 0) (a6 0)) r.2.2.2.2.2.1, wHouse E a5 r.2.2.2.2.2.2.1, wSight E a6 r.2.2.2.2.2.2.2]) 0 0) 20 [(0, .ref (a0 0)), (1, .ref (a4 0)), (2, .int x2), (3, .int x3)] [] [wGW E a0 (rf10 (a1 0) h0_1 (a2 0) h0_3 h0_4 (a4 0) h0_6 h0_7 h0_8 h0_9) v0, wHouse E a1 v1, wHist E a2 (rf2 q3 h2_1) v2, wHs E q3 ah3 v3, wBest E a4 (rf2 (a5 0) (a6 0)) v4, wHouse E a5 v5, wSight E a6 v6] := by
  intro n
  induction n with
  | zero =>
    intro  x2 x3 v0 v1 v2 v3 v4 v5 v6 hf
    simp [GW_adopt_20] at hf
  | succ n ih =>
    intro  x2 x3 v0 v1 v2 v3 v4 v5 v6 hf
    rw [GW_adopt_20] at hf
    refine ww_iload_n C dX8_adopt_20 rfl 3 rfl ?_
    refine ww_aload_n C dX8_adopt_21 rfl 0 rfl ?_
    refine ww_get C clOK8 in_X8_adopt_X8 (w := wGW E a0 (rf10 (a1 0) h0_1 (a2 0) h0_3 h0_4 (a4 0) h0_6 h0_7 h0_8 h0_9) v0) (fs := fsGW a0 (rf10 (a1 0) h0_1 (a2 0) h0_3 h0_4 (a4 0) h0_6 h0_7 h0_8 h0_9) v0) (v := .ref (a1 0)) 0 0 0 rfl q_GW (by decide) (by decide +kernel) g_GW_house dX8_adopt_22 ?_
    refine ww_get C clOK2 in_X8_adopt_X2 (w := wHouse E a1 v1) (fs := fsHouse a1 v1) (v := .int (House_guards v1)) 1 0 2 rfl q_House (by decide) (by decide +kernel) g_House_guards dX8_adopt_25 ?_
    refine ww_icmp_ge (tgt := 78) C dX8_adopt_28 (by decide) (fun c_1 => ?_) (fun c_1 => ?_)
    · replace hf := ifT c_1 hf
      refine ww_sub C (lv' := [(0, .ref (a0 0)), (2, .int x2)]) [0, 2] rfl ?_
      exact w_X8_adopt_78 C hf
    · replace hf := ifF c_1 hf
      refine ww_iload_n C dX8_adopt_31 rfl 3 rfl ?_
      refine ww_iconst (v := 4) C dX8_adopt_32 (by decide) ?_
      refine ww_icmp_ge (tgt := 78) C dX8_adopt_33 (by decide) (fun c_2 => ?_) (fun c_2 => ?_)
      · replace hf := ifT c_2 hf
        refine ww_sub C (lv' := [(0, .ref (a0 0)), (2, .int x2)]) [0, 2] rfl ?_
        exact w_X8_adopt_78 C hf
      · replace hf := ifF c_2 hf
        refine ww_aload_n C dX8_adopt_36 rfl 0 rfl ?_
        refine ww_get C clOK8 in_X8_adopt_X8 (w := wGW E a0 (rf10 (a1 0) h0_1 (a2 0) h0_3 h0_4 (a4 0) h0_6 h0_7 h0_8 h0_9) v0) (fs := fsGW a0 (rf10 (a1 0) h0_1 (a2 0) h0_3 h0_4 (a4 0) h0_6 h0_7 h0_8 h0_9) v0) (v := .ref (a1 0)) 0 0 0 rfl q_GW (by decide) (by decide +kernel) g_GW_house dX8_adopt_37 ?_
        refine ww_get C clOK2 in_X8_adopt_X2 (w := wHouse E a1 v1) (fs := fsHouse a1 v1) (v := .ref (a1 6)) 1 0 12 rfl q_House (by decide) (by decide +kernel) g_House_phases dX8_adopt_40 ?_
        refine ww_iload_n C dX8_adopt_43 rfl 3 rfl ?_
        obtain ⟨g_3, hf⟩ := gdE hf
        refine ww_iald C (f := House_phases v1) (w := wHouse E a1 v1) 1 6 rfl c_House_phases (inB_vp g_3) dX8_adopt_44 ?_
        refine ww_aload_n C dX8_adopt_45 rfl 1 rfl ?_
        refine ww_get C clOK0 in_X8_adopt_X0 (w := wBest E a4 (rf2 (a5 0) (a6 0)) v4) (fs := fsBest a4 (rf2 (a5 0) (a6 0)) v4) (v := .ref (a4 1)) 4 0 0 rfl q_Best (by decide) (by decide +kernel) g_Best_phases dX8_adopt_46 ?_
        refine ww_iload_n C dX8_adopt_49 rfl 3 rfl ?_
        refine ww_iald C (f := Best_phases v4) (w := wBest E a4 (rf2 (a5 0) (a6 0)) v4) 4 1 rfl c_Best_phases (inB_vp g_3) dX8_adopt_50 ?_
        refine ww_icmp_eq (tgt := 72) C dX8_adopt_51 (by decide) (fun c_4 => ?_) (fun c_4 => ?_)
        · replace hf := ifT c_4 hf
          obtain ⟨x3_72, e_x3_72⟩ : ∃ y : Int32, y = x3 + 1 := ⟨_, rfl⟩
          replace hf := ltE e_x3_72 hf
          refine ww_iinc (v := x3_72) (lv' := [(3, .int x3_72), (0, .ref (a0 0)), (1, .ref (a4 0)), (2, .int x2)]) C dX8_adopt_72 3 rfl (by rw [e_x3_72]; rfl) (by decide) rfl ?_
          refine ww_goto (tgt := 20) C dX8_adopt_75 (by decide) ?_
          refine ww_sub C (lv' := [(0, .ref (a0 0)), (1, .ref (a4 0)), (2, .int x2), (3, .int x3_72)]) [1, 2, 3, 0] rfl ?_
          exact ih _ _ _ _ _ _ _ _ _ hf
        · replace hf := ifF c_4 hf
          refine ww_aload_n C dX8_adopt_54 rfl 0 rfl ?_
          refine ww_get C clOK8 in_X8_adopt_X8 (w := wGW E a0 (rf10 (a1 0) h0_1 (a2 0) h0_3 h0_4 (a4 0) h0_6 h0_7 h0_8 h0_9) v0) (fs := fsGW a0 (rf10 (a1 0) h0_1 (a2 0) h0_3 h0_4 (a4 0) h0_6 h0_7 h0_8 h0_9) v0) (v := .ref (a1 0)) 0 0 0 rfl q_GW (by decide) (by decide +kernel) g_GW_house dX8_adopt_55 ?_
          refine ww_get C clOK2 in_X8_adopt_X2 (w := wHouse E a1 v1) (fs := fsHouse a1 v1) (v := .ref (a1 6)) 1 0 12 rfl q_House (by decide) (by decide +kernel) g_House_phases dX8_adopt_58 ?_
          refine ww_iload_n C dX8_adopt_61 rfl 3 rfl ?_
          refine ww_aload_n C dX8_adopt_62 rfl 1 rfl ?_
          refine ww_get C clOK0 in_X8_adopt_X0 (w := wBest E a4 (rf2 (a5 0) (a6 0)) v4) (fs := fsBest a4 (rf2 (a5 0) (a6 0)) v4) (v := .ref (a4 1)) 4 0 0 rfl q_Best (by decide) (by decide +kernel) g_Best_phases dX8_adopt_63 ?_
          refine ww_iload_n C dX8_adopt_66 rfl 3 rfl ?_
          refine ww_iald C (f := Best_phases v4) (w := wBest E a4 (rf2 (a5 0) (a6 0)) v4) 4 1 rfl c_Best_phases (inB_vp g_3) dX8_adopt_67 ?_
          obtain ⟨v1_68, e_v1_68⟩ : ∃ y : HouseV, y = House_set_phases v1 (upd (House_phases v1) (Int32.toNatClampNeg x3) ((Best_phases v4) (Int32.toNatClampNeg x3))) := ⟨_, rfl⟩
          replace hf := ltE e_v1_68 hf
          refine ww_iast C (f := House_phases v1) (w := wHouse E a1 v1) (w' := wHouse E a1 v1_68) (gs' := [wGW E a0 (rf10 (a1 0) h0_1 (a2 0) h0_3 h0_4 (a4 0) h0_6 h0_7 h0_8 h0_9) v0, wHouse E a1 v1_68, wHist E a2 (rf2 q3 h2_1) v2, wHs E q3 ah3 v3, wBest E a4 (rf2 (a5 0) (a6 0)) v4, wHouse E a5 v5, wSight E a6 v6]) 1 6 rfl c_House_phases (inB_vp g_3) (by rw [e_v1_68]; exact s_House_phases) rfl dX8_adopt_68 ?_
          obtain ⟨x2_69, e_x2_69⟩ : ∃ y : Int32, y = x2 + 1 := ⟨_, rfl⟩
          replace hf := ltE e_x2_69 hf
          refine ww_iinc (v := x2_69) (lv' := [(2, .int x2_69), (0, .ref (a0 0)), (1, .ref (a4 0)), (3, .int x3)]) C dX8_adopt_69 2 rfl (by rw [e_x2_69]; rfl) (by decide) rfl ?_
          obtain ⟨x3_72, e_x3_72⟩ : ∃ y : Int32, y = x3 + 1 := ⟨_, rfl⟩
          replace hf := ltE e_x3_72 hf
          refine ww_iinc (v := x3_72) (lv' := [(3, .int x3_72), (2, .int x2_69), (0, .ref (a0 0)), (1, .ref (a4 0))]) C dX8_adopt_72 3 rfl (by rw [e_x3_72]; rfl) (by decide) rfl ?_
          refine ww_goto (tgt := 20) C dX8_adopt_75 (by decide) ?_
          refine ww_sub C (lv' := [(0, .ref (a0 0)), (1, .ref (a4 0)), (2, .int x2_69), (3, .int x3_72)]) [2, 3, 1, 0] rfl ?_
          exact ih _ _ _ _ _ _ _ _ _ hf

set_option maxHeartbeats 4000000 in
set_option maxRecDepth 100000 in
theorem c_X8_adopt {E : Ex} {a0 : Nat → Nat} {a1 : Nat → Nat} {a2 : Nat → Nat} {q3 : Nat} {ah3 : Nat → Nat → Nat} {a4 : Nat → Nat} {a5 : Nat → Nat} {a6 : Nat → Nat} {h0_1 h0_3 h0_4 h0_6 h0_7 h0_8 h0_9 h2_1 : Nat} {v0 : GWV} {v1 : HouseV} {v2 : HistV} {v3 : Nat → HouseV} {v4 : BestV} {v5 : HouseV} {v6 : SightV} {r : (Int32 × GWV × HouseV × HistV × (Nat → HouseV) × BestV × HouseV × SightV)} (hf : GW_adopt v0 v1 v2 v3 v4 v5 v6 = some r) : Ct E yX8_adopt wsX8_adopt rmX8_adopt [.ref (a0 0)] [wGW E a0 (rf10 (a1 0) h0_1 (a2 0) h0_3 h0_4 (a4 0) h0_6 h0_7 h0_8 h0_9) v0, wHouse E a1 v1, wHist E a2 (rf2 q3 h2_1) v2, wHs E q3 ah3 v3, wBest E a4 (rf2 (a5 0) (a6 0)) v4, wHouse E a5 v5, wSight E a6 v6] (fun rv g => rv = some (.int r.1) ∧ g = [wGW E a0 (rf10 (a1 0) h0_1 (a2 0) h0_3 h0_4 (a4 0) h0_6 h0_7 h0_8 h0_9) r.2.1, wHouse E a1 r.2.2.1, wHist E a2 (rf2 q3 h2_1) r.2.2.2.1, wHs E q3 ah3 r.2.2.2.2.1, wBest E a4 (rf2 (a5 0) (a6 0)) r.2.2.2.2.2.1, wHouse E a5 r.2.2.2.2.2.2.1, wSight E a6 r.2.2.2.2.2.2.2]) := by
  refine ct_of (own := RX8) (by decide +kernel) rfl rfl (Nat.le_of_ble_eq_true rfl) (fun K C => ?_)
  refine ww_sub C (lv' := [(0, .ref (a0 0))]) [0] rfl ?_
  rw [GW_adopt] at hf
  refine ww_aload_n C dX8_adopt_0 rfl 0 rfl ?_
  obtain ⟨p1, hp1, hf⟩ := bdE hf
  refine ww_callV C (As := []) (st := []) (gr := [wHist E a2 (rf2 q3 h2_1) v2, wHs E q3 ah3 v3]) (c_X8_best (E := E) (a0 := a0) (h0_1 := h0_1) (h0_2 := a2 0) (h0_3 := h0_3) (h0_4 := h0_4) (h0_6 := h0_6) (h0_7 := h0_7) (h0_8 := h0_8) (h0_9 := h0_9) (a1 := a1) (a2 := a4) (a3 := a5) (a4 := a6) hp1) gX8_adopt_X8_best rfl yk_X8_best ⟨by decide, Nat.le_of_ble_eq_true rfl⟩ ⟨by decide, by decide⟩ clOK8 0 0 rfl rfl [0, 1, 4, 5, 6] [2, 3] 7 rfl (by decide) rfl rfl (Nat.le_of_ble_eq_true rfl) dX8_adopt_1 ?_
  rintro _ _ ⟨rfl, rfl⟩
  refine ww_perm (gs' := [wGW E a0 (rf10 (a1 0) h0_1 (a2 0) h0_3 h0_4 (a4 0) h0_6 h0_7 h0_8 h0_9) v0, wHouse E a1 v1, wHist E a2 (rf2 q3 h2_1) v2, wHs E q3 ah3 v3, wBest E a4 (rf2 (a5 0) (a6 0)) p1.1, wHouse E a5 p1.2.1, wSight E a6 p1.2.2]) [0, 1, 5, 6, 2, 3, 4] 7 rfl (by decide) rfl ?_
  refine ww_astore_n (lv' := [(1, .ref (a4 0)), (0, .ref (a0 0))]) C dX8_adopt_4 rfl (by decide) rfl ?_
  refine ww_aload_n C dX8_adopt_5 rfl 1 rfl ?_
  refine ww_get C clOK8 in_X8_adopt_X8 (w := wGW E a0 (rf10 (a1 0) h0_1 (a2 0) h0_3 h0_4 (a4 0) h0_6 h0_7 h0_8 h0_9) v0) (fs := fsGW a0 (rf10 (a1 0) h0_1 (a2 0) h0_3 h0_4 (a4 0) h0_6 h0_7 h0_8 h0_9) v0) (v := .ref (a2 0)) 0 0 2 rfl q_GW (by decide) (by decide +kernel) g_GW_history dX8_adopt_6 ?_
  refine ww_aload_n C dX8_adopt_9 rfl 1 rfl ?_
  refine ww_get C clOK8 in_X8_adopt_X8 (w := wGW E a0 (rf10 (a1 0) h0_1 (a2 0) h0_3 h0_4 (a4 0) h0_6 h0_7 h0_8 h0_9) v0) (fs := fsGW a0 (rf10 (a1 0) h0_1 (a2 0) h0_3 h0_4 (a4 0) h0_6 h0_7 h0_8 h0_9) v0) (v := .ref (a1 0)) 0 0 0 rfl q_GW (by decide) (by decide +kernel) g_GW_house dX8_adopt_10 ?_
  obtain ⟨p13, hp13, hf⟩ := bdE hf
  refine ww_callV C (As := [.ref (a1 0)]) (st := []) (gr := [wGW E a0 (rf10 (a1 0) h0_1 (a2 0) h0_3 h0_4 (a4 0) h0_6 h0_7 h0_8 h0_9) v0, wBest E a4 (rf2 (a5 0) (a6 0)) p1.1, wHouse E a5 p1.2.1, wSight E a6 p1.2.2]) (c_X1_record (E := E) (a0 := a2) (h0_1 := h2_1) (q1 := q3) (ah1 := ah3) (a2 := a1) hp13) gX8_adopt_X1_record rfl yk_X1_record ⟨by decide, Nat.le_of_ble_eq_true rfl⟩ ⟨by decide, by decide⟩ clOK1 0 0 rfl rfl [2, 3, 1] [0, 4, 5, 6] 7 rfl (by decide) rfl rfl (Nat.le_of_ble_eq_true rfl) dX8_adopt_13 ?_
  rintro _ _ ⟨rfl, rfl⟩
  refine ww_perm (gs' := [wGW E a0 (rf10 (a1 0) h0_1 (a2 0) h0_3 h0_4 (a4 0) h0_6 h0_7 h0_8 h0_9) v0, wHouse E a1 v1, wHist E a2 (rf2 q3 h2_1) p13.1, wHs E q3 ah3 p13.2, wBest E a4 (rf2 (a5 0) (a6 0)) p1.1, wHouse E a5 p1.2.1, wSight E a6 p1.2.2]) [3, 2, 0, 1, 4, 5, 6] 7 rfl (by decide) rfl ?_
  refine ww_iconst (v := 0) C dX8_adopt_16 (by decide) ?_
  refine ww_istore_n (lv' := [(2, .int 0), (1, .ref (a4 0)), (0, .ref (a0 0))]) C dX8_adopt_17 rfl (by decide) rfl ?_
  refine ww_iconst (v := 0) C dX8_adopt_18 (by decide) ?_
  refine ww_istore_n (lv' := [(3, .int 0), (2, .int 0), (1, .ref (a4 0)), (0, .ref (a0 0))]) C dX8_adopt_19 rfl (by decide) rfl ?_
  refine ww_sub C (lv' := [(0, .ref (a0 0)), (1, .ref (a4 0)), (2, .int 0), (3, .int 0)]) [3, 2, 1, 0] rfl ?_
  exact w_X8_adopt_20 C FU _ _ _ _ _ _ _ _ _ hf

theorem yk_X8_adopt : yX8_adopt.cls = RX8 ∧ yX8_adopt.cls ≠ "java/lang/invoke/MethodHandle" ∧ yX8_adopt.cls ≠ "java/lang/invoke/VarHandle" ∧ (parseMethodDescriptor yX8_adopt.desc).map (fun d => d.parameters.length) = some 0 := by decide +kernel
abbrev rmX8_closeDoor : Room := { frames := 4, cells := 0, slots := 0, locals := 92 }
set_option maxRecDepth 20000 in
theorem in_X8_closeDoor_X8 : ∀ w ∈ u_ws RX8 TX8 14, w ∈ wsX8_closeDoor := by decide +kernel
set_option maxHeartbeats 4000000 in
set_option maxRecDepth 100000 in
theorem w_X8_closeDoor_44 {E : Ex} {K : Kx} (C : Cx E K cX8_closeDoor 2 (some .int) RX8 wsX8_closeDoor rmX8_closeDoor) {a0 : Nat → Nat} {a1 : Nat → Nat} {a2 : Nat → Nat} {q3 : Nat} {ah3 : Nat → Nat → Nat} {h0_1 h0_3 h0_4 h0_5 h0_6 h0_7 h0_8 h0_9 h2_1 : Nat} {x1 : Int32} {v0 : GWV}   {v1 : HouseV} {v2 : HistV} {v3 : Nat → HouseV} {r : (Int32 × HouseV × HistV × (Nat → HouseV))} (hf : GW_closeDoor_44 x1 v0 v1 v2 v3 = some r) : WW E K 0 0 (QQ E K (fun rv g => rv = some (.int r.1) ∧ g = [wGW E a0 (rf10 (a1 0) h0_1 (a2 0) h0_3 h0_4 h0_5 h0_6 h0_7 h0_8 h0_9) v0, wHouse E a1 r.2.1, wHist E a2 (rf2 q3 h2_1) r.2.2.1, wHs E q3 ah3 r.2.2.2]) 0 0) 44 [(0, .ref (a0 0)), (1, .int x1)] [] [wGW E a0 (rf10 (a1 0) h0_1 (a2 0) h0_3 h0_4 h0_5 h0_6 h0_7 h0_8 h0_9) v0, wHouse E a1 v1, wHist E a2 (rf2 q3 h2_1) v2, wHs E q3 ah3 v3] := by
  rw [GW_closeDoor_44] at hf
  refine ww_aload_n C dX8_closeDoor_44 rfl 0 rfl ?_
  refine ww_get C clOK8 in_X8_closeDoor_X8 (w := wGW E a0 (rf10 (a1 0) h0_1 (a2 0) h0_3 h0_4 h0_5 h0_6 h0_7 h0_8 h0_9) v0) (fs := fsGW a0 (rf10 (a1 0) h0_1 (a2 0) h0_3 h0_4 h0_5 h0_6 h0_7 h0_8 h0_9) v0) (v := .ref (a2 0)) 0 0 2 rfl q_GW (by decide) (by decide +kernel) g_GW_history dX8_closeDoor_45 ?_
  refine ww_aload_n C dX8_closeDoor_48 rfl 0 rfl ?_
  refine ww_get C clOK8 in_X8_closeDoor_X8 (w := wGW E a0 (rf10 (a1 0) h0_1 (a2 0) h0_3 h0_4 h0_5 h0_6 h0_7 h0_8 h0_9) v0) (fs := fsGW a0 (rf10 (a1 0) h0_1 (a2 0) h0_3 h0_4 h0_5 h0_6 h0_7 h0_8 h0_9) v0) (v := .ref (a1 0)) 0 0 0 rfl q_GW (by decide) (by decide +kernel) g_GW_house dX8_closeDoor_49 ?_
  obtain ⟨p52, hp52, hf⟩ := bdE hf
  refine ww_callV C (As := [.ref (a1 0)]) (st := []) (gr := [wGW E a0 (rf10 (a1 0) h0_1 (a2 0) h0_3 h0_4 h0_5 h0_6 h0_7 h0_8 h0_9) v0]) (c_X1_record (E := E) (a0 := a2) (h0_1 := h2_1) (q1 := q3) (ah1 := ah3) (a2 := a1) hp52) gX8_closeDoor_X1_record rfl yk_X1_record ⟨by decide, Nat.le_of_ble_eq_true rfl⟩ ⟨by decide, by decide⟩ clOK1 0 0 rfl rfl [2, 3, 1] [0] 4 rfl (by decide) rfl rfl (Nat.le_of_ble_eq_true rfl) dX8_closeDoor_52 ?_
  rintro _ _ ⟨rfl, rfl⟩
  refine ww_perm (gs' := [wGW E a0 (rf10 (a1 0) h0_1 (a2 0) h0_3 h0_4 h0_5 h0_6 h0_7 h0_8 h0_9) v0, wHouse E a1 v1, wHist E a2 (rf2 q3 h2_1) p52.1, wHs E q3 ah3 p52.2]) [3, 2, 0, 1] 4 rfl (by decide) rfl ?_
  refine ww_aload_n C dX8_closeDoor_55 rfl 0 rfl ?_
  refine ww_get C clOK8 in_X8_closeDoor_X8 (w := wGW E a0 (rf10 (a1 0) h0_1 (a2 0) h0_3 h0_4 h0_5 h0_6 h0_7 h0_8 h0_9) v0) (fs := fsGW a0 (rf10 (a1 0) h0_1 (a2 0) h0_3 h0_4 h0_5 h0_6 h0_7 h0_8 h0_9) v0) (v := .ref (a1 0)) 0 0 0 rfl q_GW (by decide) (by decide +kernel) g_GW_house dX8_closeDoor_56 ?_
  refine ww_iload_n C dX8_closeDoor_59 rfl 1 rfl ?_
  refine ww_iconst (v := 0) C dX8_closeDoor_60 (by decide) ?_
  obtain ⟨p61, hp61, hf⟩ := bdE hf
  refine ww_callV C (As := [.int x1, .int (b2i false)]) (st := []) (gr := [wGW E a0 (rf10 (a1 0) h0_1 (a2 0) h0_3 h0_4 h0_5 h0_6 h0_7 h0_8 h0_9) v0, wHist E a2 (rf2 q3 h2_1) p52.1, wHs E q3 ah3 p52.2]) (c_X2_setOpen (E := E) (a0 := a1) hp61) gX8_closeDoor_X2_setOpen rfl yk_X2_setOpen ⟨by decide, Nat.le_of_ble_eq_true rfl⟩ ⟨by decide, by decide⟩ clOK2 0 0 rfl rfl [1] [0, 2, 3] 4 rfl (by decide) rfl rfl (Nat.le_of_ble_eq_true rfl) dX8_closeDoor_61 ?_
  rintro _ _ ⟨rfl, rfl⟩
  refine ww_perm (gs' := [wGW E a0 (rf10 (a1 0) h0_1 (a2 0) h0_3 h0_4 h0_5 h0_6 h0_7 h0_8 h0_9) v0, wHouse E a1 p61, wHist E a2 (rf2 q3 h2_1) p52.1, wHs E q3 ah3 p52.2]) [1, 0, 2, 3] 4 rfl (by decide) rfl ?_
  refine ww_aload_n C dX8_closeDoor_64 rfl 0 rfl ?_
  refine ww_get C clOK8 in_X8_closeDoor_X8 (w := wGW E a0 (rf10 (a1 0) h0_1 (a2 0) h0_3 h0_4 h0_5 h0_6 h0_7 h0_8 h0_9) v0) (fs := fsGW a0 (rf10 (a1 0) h0_1 (a2 0) h0_3 h0_4 h0_5 h0_6 h0_7 h0_8 h0_9) v0) (v := .ref (a1 0)) 0 0 0 rfl q_GW (by decide) (by decide +kernel) g_GW_house dX8_closeDoor_65 ?_
  obtain ⟨p68, hp68, hf⟩ := bdE hf
  refine ww_callV C (As := []) (st := []) (gr := [wGW E a0 (rf10 (a1 0) h0_1 (a2 0) h0_3 h0_4 h0_5 h0_6 h0_7 h0_8 h0_9) v0, wHist E a2 (rf2 q3 h2_1) p52.1, wHs E q3 ah3 p52.2]) (c_X2_countOpenDoors (E := E) (a0 := a1) hp68) gX8_closeDoor_X2_countOpenDoors rfl yk_X2_countOpenDoors ⟨by decide, Nat.le_of_ble_eq_true rfl⟩ ⟨by decide, by decide⟩ clOK2 0 0 rfl rfl [1] [0, 2, 3] 4 rfl (by decide) rfl rfl (Nat.le_of_ble_eq_true rfl) dX8_closeDoor_68 ?_
  rintro _ _ ⟨rfl, rfl⟩
  refine ww_perm (gs' := [wGW E a0 (rf10 (a1 0) h0_1 (a2 0) h0_3 h0_4 h0_5 h0_6 h0_7 h0_8 h0_9) v0, wHouse E a1 p61, wHist E a2 (rf2 q3 h2_1) p52.1, wHs E q3 ah3 p52.2]) [1, 0, 2, 3] 4 rfl (by decide) rfl ?_
  obtain rfl := Option.some.inj hf
  exact ww_iret C ⟨rfl, rfl⟩ dX8_closeDoor_71

set_option maxHeartbeats 4000000 in
set_option maxRecDepth 100000 in
theorem c_X8_closeDoor {E : Ex} {a0 : Nat → Nat} {a1 : Nat → Nat} {a2 : Nat → Nat} {q3 : Nat} {ah3 : Nat → Nat → Nat} {h0_1 h0_3 h0_4 h0_5 h0_6 h0_7 h0_8 h0_9 h2_1 : Nat} {x1 : Int32} {v0 : GWV} {v1 : HouseV} {v2 : HistV} {v3 : Nat → HouseV} {r : (Int32 × HouseV × HistV × (Nat → HouseV))} (hf : GW_closeDoor x1 v0 v1 v2 v3 = some r) : Ct E yX8_closeDoor wsX8_closeDoor rmX8_closeDoor [.ref (a0 0), .int x1] [wGW E a0 (rf10 (a1 0) h0_1 (a2 0) h0_3 h0_4 h0_5 h0_6 h0_7 h0_8 h0_9) v0, wHouse E a1 v1, wHist E a2 (rf2 q3 h2_1) v2, wHs E q3 ah3 v3] (fun rv g => rv = some (.int r.1) ∧ g = [wGW E a0 (rf10 (a1 0) h0_1 (a2 0) h0_3 h0_4 h0_5 h0_6 h0_7 h0_8 h0_9) v0, wHouse E a1 r.2.1, wHist E a2 (rf2 q3 h2_1) r.2.2.1, wHs E q3 ah3 r.2.2.2]) := by
  refine ct_of (own := RX8) (by decide +kernel) rfl rfl (Nat.le_of_ble_eq_true rfl) (fun K C => ?_)
  refine ww_sub C (lv' := [(0, .ref (a0 0)), (1, .int x1)]) [0, 1] rfl ?_
  rw [GW_closeDoor] at hf
  refine ww_aload_n C dX8_closeDoor_0 rfl 0 rfl ?_
  refine ww_iload_n C dX8_closeDoor_1 rfl 1 rfl ?_
  obtain ⟨p2, hp2, hf⟩ := bdE hf
  refine ww_callV C (As := [.int x1]) (st := []) (gr := [wHist E a2 (rf2 q3 h2_1) v2, wHs E q3 ah3 v3]) (c_X8_needDoor (E := E) (a0 := a0) (h0_1 := h0_1) (h0_2 := a2 0) (h0_3 := h0_3) (h0_4 := h0_4) (h0_5 := h0_5) (h0_6 := h0_6) (h0_7 := h0_7) (h0_8 := h0_8) (h0_9 := h0_9) (a1 := a1) hp2) gX8_closeDoor_X8_needDoor rfl yk_X8_needDoor ⟨by decide, Nat.le_of_ble_eq_true rfl⟩ ⟨by decide, by decide⟩ clOK8 0 0 rfl rfl [0, 1] [2, 3] 4 rfl (by decide) rfl rfl (Nat.le_of_ble_eq_true rfl) dX8_closeDoor_2 ?_
  rintro _ _ ⟨rfl, rfl⟩
  refine ww_perm (gs' := [wGW E a0 (rf10 (a1 0) h0_1 (a2 0) h0_3 h0_4 h0_5 h0_6 h0_7 h0_8 h0_9) v0, wHouse E a1 v1, wHist E a2 (rf2 q3 h2_1) v2, wHs E q3 ah3 v3]) [0, 1, 2, 3] 4 rfl (by decide) rfl ?_
  refine ww_aload_n C dX8_closeDoor_5 rfl 0 rfl ?_
  refine ww_get C clOK8 in_X8_closeDoor_X8 (w := wGW E a0 (rf10 (a1 0) h0_1 (a2 0) h0_3 h0_4 h0_5 h0_6 h0_7 h0_8 h0_9) v0) (fs := fsGW a0 (rf10 (a1 0) h0_1 (a2 0) h0_3 h0_4 h0_5 h0_6 h0_7 h0_8 h0_9) v0) (v := .ref (a1 0)) 0 0 0 rfl q_GW (by decide) (by decide +kernel) g_GW_house dX8_closeDoor_6 ?_
  refine ww_iload_n C dX8_closeDoor_9 rfl 1 rfl ?_
  obtain ⟨p10, hp10, hf⟩ := bdE hf
  refine ww_callV C (As := [.int x1]) (st := []) (gr := [wGW E a0 (rf10 (a1 0) h0_1 (a2 0) h0_3 h0_4 h0_5 h0_6 h0_7 h0_8 h0_9) v0, wHist E a2 (rf2 q3 h2_1) v2, wHs E q3 ah3 v3]) (c_X2_isOpen (E := E) (a0 := a1) hp10) gX8_closeDoor_X2_isOpen rfl yk_X2_isOpen ⟨by decide, Nat.le_of_ble_eq_true rfl⟩ ⟨by decide, by decide⟩ clOK2 0 0 rfl rfl [1] [0, 2, 3] 4 rfl (by decide) rfl rfl (Nat.le_of_ble_eq_true rfl) dX8_closeDoor_10 ?_
  rintro _ _ ⟨rfl, rfl⟩
  refine ww_perm (gs' := [wGW E a0 (rf10 (a1 0) h0_1 (a2 0) h0_3 h0_4 h0_5 h0_6 h0_7 h0_8 h0_9) v0, wHouse E a1 v1, wHist E a2 (rf2 q3 h2_1) v2, wHs E q3 ah3 v3]) [1, 0, 2, 3] 4 rfl (by decide) rfl ?_
  refine ww_if_neB (tgt := 19) C dX8_closeDoor_13 (by decide) (fun c_1 => ?_) (fun c_1 => ?_)
  · replace hf := btE c_1 hf
    refine ww_aload_n C dX8_closeDoor_19 rfl 0 rfl ?_
    refine ww_get C clOK8 in_X8_closeDoor_X8 (w := wGW E a0 (rf10 (a1 0) h0_1 (a2 0) h0_3 h0_4 h0_5 h0_6 h0_7 h0_8 h0_9) v0) (fs := fsGW a0 (rf10 (a1 0) h0_1 (a2 0) h0_3 h0_4 h0_5 h0_6 h0_7 h0_8 h0_9) v0) (v := .ref (a1 0)) 0 0 0 rfl q_GW (by decide) (by decide +kernel) g_GW_house dX8_closeDoor_20 ?_
    refine ww_iload_n C dX8_closeDoor_23 rfl 1 rfl ?_
    obtain ⟨p24, hp24, hf⟩ := bdE hf
    refine ww_callV C (As := [.int x1]) (st := []) (gr := [wGW E a0 (rf10 (a1 0) h0_1 (a2 0) h0_3 h0_4 h0_5 h0_6 h0_7 h0_8 h0_9) v0, wHist E a2 (rf2 q3 h2_1) v2, wHs E q3 ah3 v3]) (c_X2_countGuardsThrough (E := E) (a0 := a1) hp24) gX8_closeDoor_X2_countGuardsThrough rfl yk_X2_countGuardsThrough ⟨by decide, Nat.le_of_ble_eq_true rfl⟩ ⟨by decide, by decide⟩ clOK2 0 0 rfl rfl [1] [0, 2, 3] 4 rfl (by decide) rfl rfl (Nat.le_of_ble_eq_true rfl) dX8_closeDoor_24 ?_
    rintro _ _ ⟨rfl, rfl⟩
    refine ww_perm (gs' := [wGW E a0 (rf10 (a1 0) h0_1 (a2 0) h0_3 h0_4 h0_5 h0_6 h0_7 h0_8 h0_9) v0, wHouse E a1 v1, wHist E a2 (rf2 q3 h2_1) v2, wHs E q3 ah3 v3]) [1, 0, 2, 3] 4 rfl (by decide) rfl ?_
    refine ww_if_le (tgt := 44) C dX8_closeDoor_27 (by decide) (fun c_2 => ?_) (fun c_2 => ?_)
    · replace hf := ifT c_2 hf
      refine ww_sub C (lv' := [(0, .ref (a0 0)), (1, .int x1)]) [0, 1] rfl ?_
      exact w_X8_closeDoor_44 C hf
    · replace hf := ifF c_2 hf
      refine ww_aload_n C dX8_closeDoor_30 rfl 0 rfl ?_
      refine ww_get C clOK8 in_X8_closeDoor_X8 (w := wGW E a0 (rf10 (a1 0) h0_1 (a2 0) h0_3 h0_4 h0_5 h0_6 h0_7 h0_8 h0_9) v0) (fs := fsGW a0 (rf10 (a1 0) h0_1 (a2 0) h0_3 h0_4 h0_5 h0_6 h0_7 h0_8 h0_9) v0) (v := .ref (a1 0)) 0 0 0 rfl q_GW (by decide) (by decide +kernel) g_GW_house dX8_closeDoor_31 ?_
      refine ww_iload_n C dX8_closeDoor_34 rfl 1 rfl ?_
      obtain ⟨p35, hp35, hf⟩ := bdE hf
      refine ww_callV C (As := [.int x1]) (st := []) (gr := [wGW E a0 (rf10 (a1 0) h0_1 (a2 0) h0_3 h0_4 h0_5 h0_6 h0_7 h0_8 h0_9) v0, wHist E a2 (rf2 q3 h2_1) v2, wHs E q3 ah3 v3]) (c_X2_hasOtherOpenDoor (E := E) (a0 := a1) hp35) gX8_closeDoor_X2_hasOtherOpenDoor rfl yk_X2_hasOtherOpenDoor ⟨by decide, Nat.le_of_ble_eq_true rfl⟩ ⟨by decide, by decide⟩ clOK2 0 0 rfl rfl [1] [0, 2, 3] 4 rfl (by decide) rfl rfl (Nat.le_of_ble_eq_true rfl) dX8_closeDoor_35 ?_
      rintro _ _ ⟨rfl, rfl⟩
      refine ww_perm (gs' := [wGW E a0 (rf10 (a1 0) h0_1 (a2 0) h0_3 h0_4 h0_5 h0_6 h0_7 h0_8 h0_9) v0, wHouse E a1 v1, wHist E a2 (rf2 q3 h2_1) v2, wHs E q3 ah3 v3]) [1, 0, 2, 3] 4 rfl (by decide) rfl ?_
      refine ww_if_neB (tgt := 44) C dX8_closeDoor_38 (by decide) (fun c_3 => ?_) (fun c_3 => ?_)
      · replace hf := btE c_3 hf
        refine ww_sub C (lv' := [(0, .ref (a0 0)), (1, .int x1)]) [0, 1] rfl ?_
        exact w_X8_closeDoor_44 C hf
      · replace hf := bfE c_3 hf
        refine ww_bipush (v := (-3)) C dX8_closeDoor_41 (by decide) ?_
        obtain rfl := Option.some.inj hf
        exact ww_iret C ⟨rfl, rfl⟩ dX8_closeDoor_43
  · replace hf := bfE c_1 hf
    refine ww_bipush (v := (-2)) C dX8_closeDoor_16 (by decide) ?_
    obtain rfl := Option.some.inj hf
    exact ww_iret C ⟨rfl, rfl⟩ dX8_closeDoor_18

theorem yk_X8_closeDoor : yX8_closeDoor.cls = RX8 ∧ yX8_closeDoor.cls ≠ "java/lang/invoke/MethodHandle" ∧ yX8_closeDoor.cls ≠ "java/lang/invoke/VarHandle" ∧ (parseMethodDescriptor yX8_closeDoor.desc).map (fun d => d.parameters.length) = some 1 := by decide +kernel
abbrev rmX8_openDoor : Room := { frames := 3, cells := 0, slots := 0, locals := 82 }
set_option maxRecDepth 20000 in
theorem in_X8_openDoor_X8 : ∀ w ∈ u_ws RX8 TX8 14, w ∈ wsX8_openDoor := by decide +kernel
set_option maxHeartbeats 4000000 in
set_option maxRecDepth 100000 in
theorem c_X8_openDoor {E : Ex} {a0 : Nat → Nat} {a1 : Nat → Nat} {a2 : Nat → Nat} {q3 : Nat} {ah3 : Nat → Nat → Nat} {h0_1 h0_3 h0_4 h0_5 h0_6 h0_7 h0_8 h0_9 h2_1 : Nat} {x1 : Int32} {v0 : GWV} {v1 : HouseV} {v2 : HistV} {v3 : Nat → HouseV} {r : (Int32 × HouseV × HistV × (Nat → HouseV))} (hf : GW_openDoor x1 v0 v1 v2 v3 = some r) : Ct E yX8_openDoor wsX8_openDoor rmX8_openDoor [.ref (a0 0), .int x1] [wGW E a0 (rf10 (a1 0) h0_1 (a2 0) h0_3 h0_4 h0_5 h0_6 h0_7 h0_8 h0_9) v0, wHouse E a1 v1, wHist E a2 (rf2 q3 h2_1) v2, wHs E q3 ah3 v3] (fun rv g => rv = some (.int r.1) ∧ g = [wGW E a0 (rf10 (a1 0) h0_1 (a2 0) h0_3 h0_4 h0_5 h0_6 h0_7 h0_8 h0_9) v0, wHouse E a1 r.2.1, wHist E a2 (rf2 q3 h2_1) r.2.2.1, wHs E q3 ah3 r.2.2.2]) := by
  refine ct_of (own := RX8) (by decide +kernel) rfl rfl (Nat.le_of_ble_eq_true rfl) (fun K C => ?_)
  refine ww_sub C (lv' := [(0, .ref (a0 0)), (1, .int x1)]) [0, 1] rfl ?_
  rw [GW_openDoor] at hf
  refine ww_aload_n C dX8_openDoor_0 rfl 0 rfl ?_
  refine ww_iload_n C dX8_openDoor_1 rfl 1 rfl ?_
  obtain ⟨p2, hp2, hf⟩ := bdE hf
  refine ww_callV C (As := [.int x1]) (st := []) (gr := [wHist E a2 (rf2 q3 h2_1) v2, wHs E q3 ah3 v3]) (c_X8_needDoor (E := E) (a0 := a0) (h0_1 := h0_1) (h0_2 := a2 0) (h0_3 := h0_3) (h0_4 := h0_4) (h0_5 := h0_5) (h0_6 := h0_6) (h0_7 := h0_7) (h0_8 := h0_8) (h0_9 := h0_9) (a1 := a1) hp2) gX8_openDoor_X8_needDoor rfl yk_X8_needDoor ⟨by decide, Nat.le_of_ble_eq_true rfl⟩ ⟨by decide, by decide⟩ clOK8 0 0 rfl rfl [0, 1] [2, 3] 4 rfl (by decide) rfl rfl (Nat.le_of_ble_eq_true rfl) dX8_openDoor_2 ?_
  rintro _ _ ⟨rfl, rfl⟩
  refine ww_perm (gs' := [wGW E a0 (rf10 (a1 0) h0_1 (a2 0) h0_3 h0_4 h0_5 h0_6 h0_7 h0_8 h0_9) v0, wHouse E a1 v1, wHist E a2 (rf2 q3 h2_1) v2, wHs E q3 ah3 v3]) [0, 1, 2, 3] 4 rfl (by decide) rfl ?_
  refine ww_aload_n C dX8_openDoor_5 rfl 0 rfl ?_
  refine ww_get C clOK8 in_X8_openDoor_X8 (w := wGW E a0 (rf10 (a1 0) h0_1 (a2 0) h0_3 h0_4 h0_5 h0_6 h0_7 h0_8 h0_9) v0) (fs := fsGW a0 (rf10 (a1 0) h0_1 (a2 0) h0_3 h0_4 h0_5 h0_6 h0_7 h0_8 h0_9) v0) (v := .ref (a1 0)) 0 0 0 rfl q_GW (by decide) (by decide +kernel) g_GW_house dX8_openDoor_6 ?_
  refine ww_iload_n C dX8_openDoor_9 rfl 1 rfl ?_
  obtain ⟨p10, hp10, hf⟩ := bdE hf
  refine ww_callV C (As := [.int x1]) (st := []) (gr := [wGW E a0 (rf10 (a1 0) h0_1 (a2 0) h0_3 h0_4 h0_5 h0_6 h0_7 h0_8 h0_9) v0, wHist E a2 (rf2 q3 h2_1) v2, wHs E q3 ah3 v3]) (c_X2_isOpen (E := E) (a0 := a1) hp10) gX8_openDoor_X2_isOpen rfl yk_X2_isOpen ⟨by decide, Nat.le_of_ble_eq_true rfl⟩ ⟨by decide, by decide⟩ clOK2 0 0 rfl rfl [1] [0, 2, 3] 4 rfl (by decide) rfl rfl (Nat.le_of_ble_eq_true rfl) dX8_openDoor_10 ?_
  rintro _ _ ⟨rfl, rfl⟩
  refine ww_perm (gs' := [wGW E a0 (rf10 (a1 0) h0_1 (a2 0) h0_3 h0_4 h0_5 h0_6 h0_7 h0_8 h0_9) v0, wHouse E a1 v1, wHist E a2 (rf2 q3 h2_1) v2, wHs E q3 ah3 v3]) [1, 0, 2, 3] 4 rfl (by decide) rfl ?_
  refine ww_if_eqB (tgt := 19) C dX8_openDoor_13 (by decide) (fun c_1 => ?_) (fun c_1 => ?_)
  · replace hf := bfE c_1 hf
    refine ww_aload_n C dX8_openDoor_19 rfl 0 rfl ?_
    refine ww_get C clOK8 in_X8_openDoor_X8 (w := wGW E a0 (rf10 (a1 0) h0_1 (a2 0) h0_3 h0_4 h0_5 h0_6 h0_7 h0_8 h0_9) v0) (fs := fsGW a0 (rf10 (a1 0) h0_1 (a2 0) h0_3 h0_4 h0_5 h0_6 h0_7 h0_8 h0_9) v0) (v := .ref (a2 0)) 0 0 2 rfl q_GW (by decide) (by decide +kernel) g_GW_history dX8_openDoor_20 ?_
    refine ww_aload_n C dX8_openDoor_23 rfl 0 rfl ?_
    refine ww_get C clOK8 in_X8_openDoor_X8 (w := wGW E a0 (rf10 (a1 0) h0_1 (a2 0) h0_3 h0_4 h0_5 h0_6 h0_7 h0_8 h0_9) v0) (fs := fsGW a0 (rf10 (a1 0) h0_1 (a2 0) h0_3 h0_4 h0_5 h0_6 h0_7 h0_8 h0_9) v0) (v := .ref (a1 0)) 0 0 0 rfl q_GW (by decide) (by decide +kernel) g_GW_house dX8_openDoor_24 ?_
    obtain ⟨p27, hp27, hf⟩ := bdE hf
    refine ww_callV C (As := [.ref (a1 0)]) (st := []) (gr := [wGW E a0 (rf10 (a1 0) h0_1 (a2 0) h0_3 h0_4 h0_5 h0_6 h0_7 h0_8 h0_9) v0]) (c_X1_record (E := E) (a0 := a2) (h0_1 := h2_1) (q1 := q3) (ah1 := ah3) (a2 := a1) hp27) gX8_openDoor_X1_record rfl yk_X1_record ⟨by decide, Nat.le_of_ble_eq_true rfl⟩ ⟨by decide, by decide⟩ clOK1 0 0 rfl rfl [2, 3, 1] [0] 4 rfl (by decide) rfl rfl (Nat.le_of_ble_eq_true rfl) dX8_openDoor_27 ?_
    rintro _ _ ⟨rfl, rfl⟩
    refine ww_perm (gs' := [wGW E a0 (rf10 (a1 0) h0_1 (a2 0) h0_3 h0_4 h0_5 h0_6 h0_7 h0_8 h0_9) v0, wHouse E a1 v1, wHist E a2 (rf2 q3 h2_1) p27.1, wHs E q3 ah3 p27.2]) [3, 2, 0, 1] 4 rfl (by decide) rfl ?_
    refine ww_aload_n C dX8_openDoor_30 rfl 0 rfl ?_
    refine ww_get C clOK8 in_X8_openDoor_X8 (w := wGW E a0 (rf10 (a1 0) h0_1 (a2 0) h0_3 h0_4 h0_5 h0_6 h0_7 h0_8 h0_9) v0) (fs := fsGW a0 (rf10 (a1 0) h0_1 (a2 0) h0_3 h0_4 h0_5 h0_6 h0_7 h0_8 h0_9) v0) (v := .ref (a1 0)) 0 0 0 rfl q_GW (by decide) (by decide +kernel) g_GW_house dX8_openDoor_31 ?_
    refine ww_iload_n C dX8_openDoor_34 rfl 1 rfl ?_
    refine ww_iconst (v := 1) C dX8_openDoor_35 (by decide) ?_
    obtain ⟨p36, hp36, hf⟩ := bdE hf
    refine ww_callV C (As := [.int x1, .int (b2i true)]) (st := []) (gr := [wGW E a0 (rf10 (a1 0) h0_1 (a2 0) h0_3 h0_4 h0_5 h0_6 h0_7 h0_8 h0_9) v0, wHist E a2 (rf2 q3 h2_1) p27.1, wHs E q3 ah3 p27.2]) (c_X2_setOpen (E := E) (a0 := a1) hp36) gX8_openDoor_X2_setOpen rfl yk_X2_setOpen ⟨by decide, Nat.le_of_ble_eq_true rfl⟩ ⟨by decide, by decide⟩ clOK2 0 0 rfl rfl [1] [0, 2, 3] 4 rfl (by decide) rfl rfl (Nat.le_of_ble_eq_true rfl) dX8_openDoor_36 ?_
    rintro _ _ ⟨rfl, rfl⟩
    refine ww_perm (gs' := [wGW E a0 (rf10 (a1 0) h0_1 (a2 0) h0_3 h0_4 h0_5 h0_6 h0_7 h0_8 h0_9) v0, wHouse E a1 p36, wHist E a2 (rf2 q3 h2_1) p27.1, wHs E q3 ah3 p27.2]) [1, 0, 2, 3] 4 rfl (by decide) rfl ?_
    refine ww_aload_n C dX8_openDoor_39 rfl 0 rfl ?_
    refine ww_get C clOK8 in_X8_openDoor_X8 (w := wGW E a0 (rf10 (a1 0) h0_1 (a2 0) h0_3 h0_4 h0_5 h0_6 h0_7 h0_8 h0_9) v0) (fs := fsGW a0 (rf10 (a1 0) h0_1 (a2 0) h0_3 h0_4 h0_5 h0_6 h0_7 h0_8 h0_9) v0) (v := .ref (a1 0)) 0 0 0 rfl q_GW (by decide) (by decide +kernel) g_GW_house dX8_openDoor_40 ?_
    obtain ⟨p43, hp43, hf⟩ := bdE hf
    refine ww_callV C (As := []) (st := []) (gr := [wGW E a0 (rf10 (a1 0) h0_1 (a2 0) h0_3 h0_4 h0_5 h0_6 h0_7 h0_8 h0_9) v0, wHist E a2 (rf2 q3 h2_1) p27.1, wHs E q3 ah3 p27.2]) (c_X2_countOpenDoors (E := E) (a0 := a1) hp43) gX8_openDoor_X2_countOpenDoors rfl yk_X2_countOpenDoors ⟨by decide, Nat.le_of_ble_eq_true rfl⟩ ⟨by decide, by decide⟩ clOK2 0 0 rfl rfl [1] [0, 2, 3] 4 rfl (by decide) rfl rfl (Nat.le_of_ble_eq_true rfl) dX8_openDoor_43 ?_
    rintro _ _ ⟨rfl, rfl⟩
    refine ww_perm (gs' := [wGW E a0 (rf10 (a1 0) h0_1 (a2 0) h0_3 h0_4 h0_5 h0_6 h0_7 h0_8 h0_9) v0, wHouse E a1 p36, wHist E a2 (rf2 q3 h2_1) p27.1, wHs E q3 ah3 p27.2]) [1, 0, 2, 3] 4 rfl (by decide) rfl ?_
    obtain rfl := Option.some.inj hf
    exact ww_iret C ⟨rfl, rfl⟩ dX8_openDoor_46
  · replace hf := btE c_1 hf
    refine ww_bipush (v := (-2)) C dX8_openDoor_16 (by decide) ?_
    obtain rfl := Option.some.inj hf
    exact ww_iret C ⟨rfl, rfl⟩ dX8_openDoor_18

theorem yk_X8_openDoor : yX8_openDoor.cls = RX8 ∧ yX8_openDoor.cls ≠ "java/lang/invoke/MethodHandle" ∧ yX8_openDoor.cls ≠ "java/lang/invoke/VarHandle" ∧ (parseMethodDescriptor yX8_openDoor.desc).map (fun d => d.parameters.length) = some 1 := by decide +kernel
abbrev rmX8_setLimit : Room := { frames := 5, cells := 0, slots := 0, locals := 109 }
set_option maxRecDepth 20000 in
theorem in_X8_setLimit_X2 : ∀ w ∈ u_ws RX2 TX2 19, w ∈ wsX8_setLimit := by decide +kernel
set_option maxRecDepth 20000 in
theorem in_X8_setLimit_X8 : ∀ w ∈ u_ws RX8 TX8 14, w ∈ wsX8_setLimit := by decide +kernel
set_option maxHeartbeats 4000000 in
set_option maxRecDepth 100000 in
theorem c_X8_setLimit {E : Ex} {a0 : Nat → Nat} {a1 : Nat → Nat} {a2 : Nat → Nat} {q3 : Nat} {ah3 : Nat → Nat → Nat} {a4 : Nat → Nat} {h0_1 h0_4 h0_5 h0_6 h0_7 h0_8 h0_9 h2_1 : Nat} {x1 : Int32} {x2 : Int32} {v0 : GWV} {v1 : HouseV} {v2 : HistV} {v3 : Nat → HouseV} {v4 : SightV} {r : (Int32 × HouseV × HistV × (Nat → HouseV) × SightV)} (hf : GW_setLimit x1 x2 v0 v1 v2 v3 v4 = some r) : Ct E yX8_setLimit wsX8_setLimit rmX8_setLimit [.ref (a0 0), .int x1, .int x2] [wGW E a0 (rf10 (a1 0) h0_1 (a2 0) (a4 0) h0_4 h0_5 h0_6 h0_7 h0_8 h0_9) v0, wHouse E a1 v1, wHist E a2 (rf2 q3 h2_1) v2, wHs E q3 ah3 v3, wSight E a4 v4] (fun rv g => rv = some (.int r.1) ∧ g = [wGW E a0 (rf10 (a1 0) h0_1 (a2 0) (a4 0) h0_4 h0_5 h0_6 h0_7 h0_8 h0_9) v0, wHouse E a1 r.2.1, wHist E a2 (rf2 q3 h2_1) r.2.2.1, wHs E q3 ah3 r.2.2.2.1, wSight E a4 r.2.2.2.2]) := by
  refine ct_of (own := RX8) (by decide +kernel) rfl rfl (Nat.le_of_ble_eq_true rfl) (fun K C => ?_)
  refine ww_sub C (lv' := [(0, .ref (a0 0)), (1, .int x1), (2, .int x2)]) [0, 1, 2] rfl ?_
  rw [GW_setLimit] at hf
  refine ww_aload_n C dX8_setLimit_0 rfl 0 rfl ?_
  refine ww_iload_n C dX8_setLimit_1 rfl 1 rfl ?_
  obtain ⟨p2, hp2, hf⟩ := bdE hf
  refine ww_callV C (As := [.int x1]) (st := []) (gr := [wHist E a2 (rf2 q3 h2_1) v2, wHs E q3 ah3 v3, wSight E a4 v4]) (c_X8_needRoom (E := E) (a0 := a0) (h0_1 := h0_1) (h0_2 := a2 0) (h0_3 := a4 0) (h0_4 := h0_4) (h0_5 := h0_5) (h0_6 := h0_6) (h0_7 := h0_7) (h0_8 := h0_8) (h0_9 := h0_9) (a1 := a1) hp2) gX8_setLimit_X8_needRoom rfl yk_X8_needRoom ⟨by decide, Nat.le_of_ble_eq_true rfl⟩ ⟨by decide, by decide⟩ clOK8 0 0 rfl rfl [0, 1] [2, 3, 4] 5 rfl (by decide) rfl rfl (Nat.le_of_ble_eq_true rfl) dX8_setLimit_2 ?_
  rintro _ _ ⟨rfl, rfl⟩
  refine ww_perm (gs' := [wGW E a0 (rf10 (a1 0) h0_1 (a2 0) (a4 0) h0_4 h0_5 h0_6 h0_7 h0_8 h0_9) v0, wHouse E a1 v1, wHist E a2 (rf2 q3 h2_1) v2, wHs E q3 ah3 v3, wSight E a4 v4]) [0, 1, 2, 3, 4] 5 rfl (by decide) rfl ?_
  refine ww_iload_n C dX8_setLimit_5 rfl 2 rfl ?_
  refine ww_iconst (v := 0) C dX8_setLimit_6 (by decide) ?_
  refine ww_bipush (v := 99) C dX8_setLimit_7 (by decide) ?_
  obtain ⟨p9, hp9, hf⟩ := bdE hf
  refine ww_callS C (As := [.int x2, .int 0, .int 99]) (st := []) (gr := [wGW E a0 (rf10 (a1 0) h0_1 (a2 0) (a4 0) h0_4 h0_5 h0_6 h0_7 h0_8 h0_9) v0, wHouse E a1 v1, wHist E a2 (rf2 q3 h2_1) v2, wHs E q3 ah3 v3, wSight E a4 v4]) (c_X8_needRange (E := E)  hp9) gX8_setLimit_X8_needRange rfl ysk_X8_needRange ⟨by decide, Nat.le_of_ble_eq_true rfl⟩ ⟨by decide, by decide⟩ [] [0, 1, 2, 3, 4] 5 rfl (by decide) rfl rfl (Nat.le_of_ble_eq_true rfl) dX8_setLimit_9 ?_
  rintro _ _ ⟨rfl, rfl⟩
  refine ww_perm (gs' := [wGW E a0 (rf10 (a1 0) h0_1 (a2 0) (a4 0) h0_4 h0_5 h0_6 h0_7 h0_8 h0_9) v0, wHouse E a1 v1, wHist E a2 (rf2 q3 h2_1) v2, wHs E q3 ah3 v3, wSight E a4 v4]) [0, 1, 2, 3, 4] 5 rfl (by decide) rfl ?_
  refine ww_aload_n C dX8_setLimit_12 rfl 0 rfl ?_
  refine ww_get C clOK8 in_X8_setLimit_X8 (w := wGW E a0 (rf10 (a1 0) h0_1 (a2 0) (a4 0) h0_4 h0_5 h0_6 h0_7 h0_8 h0_9) v0) (fs := fsGW a0 (rf10 (a1 0) h0_1 (a2 0) (a4 0) h0_4 h0_5 h0_6 h0_7 h0_8 h0_9) v0) (v := .ref (a2 0)) 0 0 2 rfl q_GW (by decide) (by decide +kernel) g_GW_history dX8_setLimit_13 ?_
  refine ww_aload_n C dX8_setLimit_16 rfl 0 rfl ?_
  refine ww_get C clOK8 in_X8_setLimit_X8 (w := wGW E a0 (rf10 (a1 0) h0_1 (a2 0) (a4 0) h0_4 h0_5 h0_6 h0_7 h0_8 h0_9) v0) (fs := fsGW a0 (rf10 (a1 0) h0_1 (a2 0) (a4 0) h0_4 h0_5 h0_6 h0_7 h0_8 h0_9) v0) (v := .ref (a1 0)) 0 0 0 rfl q_GW (by decide) (by decide +kernel) g_GW_house dX8_setLimit_17 ?_
  obtain ⟨p20, hp20, hf⟩ := bdE hf
  refine ww_callV C (As := [.ref (a1 0)]) (st := []) (gr := [wGW E a0 (rf10 (a1 0) h0_1 (a2 0) (a4 0) h0_4 h0_5 h0_6 h0_7 h0_8 h0_9) v0, wSight E a4 v4]) (c_X1_record (E := E) (a0 := a2) (h0_1 := h2_1) (q1 := q3) (ah1 := ah3) (a2 := a1) hp20) gX8_setLimit_X1_record rfl yk_X1_record ⟨by decide, Nat.le_of_ble_eq_true rfl⟩ ⟨by decide, by decide⟩ clOK1 0 0 rfl rfl [2, 3, 1] [0, 4] 5 rfl (by decide) rfl rfl (Nat.le_of_ble_eq_true rfl) dX8_setLimit_20 ?_
  rintro _ _ ⟨rfl, rfl⟩
  refine ww_perm (gs' := [wGW E a0 (rf10 (a1 0) h0_1 (a2 0) (a4 0) h0_4 h0_5 h0_6 h0_7 h0_8 h0_9) v0, wHouse E a1 v1, wHist E a2 (rf2 q3 h2_1) p20.1, wHs E q3 ah3 p20.2, wSight E a4 v4]) [3, 2, 0, 1, 4] 5 rfl (by decide) rfl ?_
  refine ww_aload_n C dX8_setLimit_23 rfl 0 rfl ?_
  refine ww_get C clOK8 in_X8_setLimit_X8 (w := wGW E a0 (rf10 (a1 0) h0_1 (a2 0) (a4 0) h0_4 h0_5 h0_6 h0_7 h0_8 h0_9) v0) (fs := fsGW a0 (rf10 (a1 0) h0_1 (a2 0) (a4 0) h0_4 h0_5 h0_6 h0_7 h0_8 h0_9) v0) (v := .ref (a1 0)) 0 0 0 rfl q_GW (by decide) (by decide +kernel) g_GW_house dX8_setLimit_24 ?_
  refine ww_get C clOK2 in_X8_setLimit_X2 (w := wHouse E a1 v1) (fs := fsHouse a1 v1) (v := .ref (a1 4)) 1 0 10 rfl q_House (by decide) (by decide +kernel) g_House_limits dX8_setLimit_27 ?_
  refine ww_iload_n C dX8_setLimit_30 rfl 1 rfl ?_
  refine ww_iload_n C dX8_setLimit_31 rfl 2 rfl ?_
  obtain ⟨g_1, hf⟩ := gdE hf
  obtain ⟨v1_32, e_v1_32⟩ : ∃ y : HouseV, y = House_set_limits v1 (upd (House_limits v1) (Int32.toNatClampNeg x1) x2) := ⟨_, rfl⟩
  replace hf := ltE e_v1_32 hf
  refine ww_iast C (f := House_limits v1) (w := wHouse E a1 v1) (w' := wHouse E a1 v1_32) (gs' := [wGW E a0 (rf10 (a1 0) h0_1 (a2 0) (a4 0) h0_4 h0_5 h0_6 h0_7 h0_8 h0_9) v0, wHouse E a1 v1_32, wHist E a2 (rf2 q3 h2_1) p20.1, wHs E q3 ah3 p20.2, wSight E a4 v4]) 1 4 rfl c_House_limits (inB_vp g_1) (by rw [e_v1_32]; exact s_House_limits) rfl dX8_setLimit_32 ?_
  refine ww_aload_n C dX8_setLimit_33 rfl 0 rfl ?_
  obtain ⟨p34, hp34, hf⟩ := bdE hf
  refine ww_callV C (As := []) (st := []) (gr := [wHist E a2 (rf2 q3 h2_1) p20.1, wHs E q3 ah3 p20.2]) (c_X8_measured (E := E) (a0 := a0) (h0_1 := h0_1) (h0_2 := a2 0) (h0_4 := h0_4) (h0_5 := h0_5) (h0_6 := h0_6) (h0_7 := h0_7) (h0_8 := h0_8) (h0_9 := h0_9) (a1 := a1) (a2 := a4) hp34) gX8_setLimit_X8_measured rfl yk_X8_measured ⟨by decide, Nat.le_of_ble_eq_true rfl⟩ ⟨by decide, by decide⟩ clOK8 0 0 rfl rfl [0, 1, 4] [2, 3] 5 rfl (by decide) rfl rfl (Nat.le_of_ble_eq_true rfl) dX8_setLimit_34 ?_
  rintro _ _ ⟨rfl, rfl⟩
  refine ww_perm (gs' := [wGW E a0 (rf10 (a1 0) h0_1 (a2 0) (a4 0) h0_4 h0_5 h0_6 h0_7 h0_8 h0_9) v0, wHouse E a1 v1_32, wHist E a2 (rf2 q3 h2_1) p20.1, wHs E q3 ah3 p20.2, wSight E a4 p34]) [0, 1, 3, 4, 2] 5 rfl (by decide) rfl ?_
  refine ww_aload_n C dX8_setLimit_37 rfl 0 rfl ?_
  refine ww_get C clOK8 in_X8_setLimit_X8 (w := wGW E a0 (rf10 (a1 0) h0_1 (a2 0) (a4 0) h0_4 h0_5 h0_6 h0_7 h0_8 h0_9) v0) (fs := fsGW a0 (rf10 (a1 0) h0_1 (a2 0) (a4 0) h0_4 h0_5 h0_6 h0_7 h0_8 h0_9) v0) (v := .ref (a1 0)) 0 0 0 rfl q_GW (by decide) (by decide +kernel) g_GW_house dX8_setLimit_38 ?_
  obtain ⟨p41, hp41, hf⟩ := bdE hf
  refine ww_callV C (As := [.ref (a1 0)]) (st := []) (gr := [wGW E a0 (rf10 (a1 0) h0_1 (a2 0) (a4 0) h0_4 h0_5 h0_6 h0_7 h0_8 h0_9) v0, wHist E a2 (rf2 q3 h2_1) p20.1, wHs E q3 ah3 p20.2]) (c_X6_countLate (E := E) (a0 := a4) (a1 := a1) hp41) gX8_setLimit_X6_countLate rfl yk_X6_countLate ⟨by decide, Nat.le_of_ble_eq_true rfl⟩ ⟨by decide, by decide⟩ clOK6 0 0 rfl rfl [4, 1] [0, 2, 3] 5 rfl (by decide) rfl rfl (Nat.le_of_ble_eq_true rfl) dX8_setLimit_41 ?_
  rintro _ _ ⟨rfl, rfl⟩
  refine ww_perm (gs' := [wGW E a0 (rf10 (a1 0) h0_1 (a2 0) (a4 0) h0_4 h0_5 h0_6 h0_7 h0_8 h0_9) v0, wHouse E a1 v1_32, wHist E a2 (rf2 q3 h2_1) p20.1, wHs E q3 ah3 p20.2, wSight E a4 p34]) [2, 1, 3, 4, 0] 5 rfl (by decide) rfl ?_
  obtain rfl := Option.some.inj hf
  exact ww_iret C ⟨rfl, rfl⟩ dX8_setLimit_44

theorem yk_X8_setLimit : yX8_setLimit.cls = RX8 ∧ yX8_setLimit.cls ≠ "java/lang/invoke/MethodHandle" ∧ yX8_setLimit.cls ≠ "java/lang/invoke/VarHandle" ∧ (parseMethodDescriptor yX8_setLimit.desc).map (fun d => d.parameters.length) = some 2 := by decide +kernel
abbrev rmX8_change : Room := { frames := 9, cells := 0, slots := 0, locals := 294 }
set_option maxRecDepth 20000 in
theorem in_X8_change_X7 : ∀ w ∈ u_ws RX7 TX7 7, w ∈ wsX8_change := by decide +kernel
set_option maxRecDepth 20000 in
theorem in_X8_change_X8 : ∀ w ∈ u_ws RX8 TX8 14, w ∈ wsX8_change := by decide +kernel
set_option maxHeartbeats 4000000 in
set_option maxRecDepth 100000 in
theorem c_X8_change {E : Ex} {a0 : Nat → Nat} {a1 : Nat → Nat} {a2 : Nat → Nat} {a3 : Nat → Nat} {q4 : Nat} {ah4 : Nat → Nat → Nat} {a5 : Nat → Nat} {a6 : Nat → Nat} {h0_3 h0_4 h0_5 h0_6 h0_9 h3_1 : Nat} {x1 : Int32} {v0 : GWV} {v1 : HouseV} {v2 : HouseV} {v3 : HistV} {v4 : Nat → HouseV} {v5 : ToksV} {r : (Int32 × GWV × HouseV × HouseV × HistV × (Nat → HouseV) × ToksV)} (hf : GW_change x1 v0 v1 v2 v3 v4 v5 = some r) : Ct E yX8_change wsX8_change rmX8_change [.ref (a0 0), .int x1] [wGW E a0 (rf10 (a1 0) (a2 0) (a3 0) h0_3 h0_4 h0_5 h0_6 (a5 0) (a6 0) h0_9) v0, wHouse E a1 v1, wHouse E a2 v2, wHist E a3 (rf2 q4 h3_1) v3, wHs E q4 ah4 v4, wToks E a5 v5, wHRead E a6 (rf1 (a5 0))] (fun rv g => rv = some (.int r.1) ∧ g = [wGW E a0 (rf10 (a1 0) (a2 0) (a3 0) h0_3 h0_4 h0_5 h0_6 (a5 0) (a6 0) h0_9) r.2.1, wHouse E a1 r.2.2.1, wHouse E a2 r.2.2.2.1, wHist E a3 (rf2 q4 h3_1) r.2.2.2.2.1, wHs E q4 ah4 r.2.2.2.2.2.1, wToks E a5 r.2.2.2.2.2.2, wHRead E a6 (rf1 (a5 0))]) := by
  refine ct_of (own := RX8) (by decide +kernel) rfl rfl (Nat.le_of_ble_eq_true rfl) (fun K C => ?_)
  refine ww_sub C (lv' := [(0, .ref (a0 0)), (1, .int x1)]) [0, 1] rfl ?_
  rw [GW_change] at hf
  refine ww_iload_n C dX8_change_0 rfl 1 rfl ?_
  refine ww_iconst (v := 0) C dX8_change_1 (by decide) ?_
  refine ww_aload_n C dX8_change_2 rfl 0 rfl ?_
  refine ww_get C clOK8 in_X8_change_X8 (w := wGW E a0 (rf10 (a1 0) (a2 0) (a3 0) h0_3 h0_4 h0_5 h0_6 (a5 0) (a6 0) h0_9) v0) (fs := fsGW a0 (rf10 (a1 0) (a2 0) (a3 0) h0_3 h0_4 h0_5 h0_6 (a5 0) (a6 0) h0_9) v0) (v := .ref (a5 0)) 0 0 7 rfl q_GW (by decide) (by decide +kernel) g_GW_tokens dX8_change_3 ?_
  refine ww_get C clOK7 in_X8_change_X7 (w := wToks E a5 v5) (fs := fsToks a5 v5) (v := .int (Toks_filled v5)) 5 0 1 rfl q_Toks (by decide) (by decide +kernel) g_Toks_filled dX8_change_6 ?_
  obtain ⟨p9, hp9, hf⟩ := bdE hf
  refine ww_callS C (As := [.int x1, .int 0, .int (Toks_filled v5)]) (st := []) (gr := [wGW E a0 (rf10 (a1 0) (a2 0) (a3 0) h0_3 h0_4 h0_5 h0_6 (a5 0) (a6 0) h0_9) v0, wHouse E a1 v1, wHouse E a2 v2, wHist E a3 (rf2 q4 h3_1) v3, wHs E q4 ah4 v4, wToks E a5 v5, wHRead E a6 (rf1 (a5 0))]) (c_X8_needRange (E := E)  hp9) gX8_change_X8_needRange rfl ysk_X8_needRange ⟨by decide, Nat.le_of_ble_eq_true rfl⟩ ⟨by decide, by decide⟩ [] [0, 1, 2, 3, 4, 5, 6] 7 rfl (by decide) rfl rfl (Nat.le_of_ble_eq_true rfl) dX8_change_9 ?_
  rintro _ _ ⟨rfl, rfl⟩
  refine ww_perm (gs' := [wGW E a0 (rf10 (a1 0) (a2 0) (a3 0) h0_3 h0_4 h0_5 h0_6 (a5 0) (a6 0) h0_9) v0, wHouse E a1 v1, wHouse E a2 v2, wHist E a3 (rf2 q4 h3_1) v3, wHs E q4 ah4 v4, wToks E a5 v5, wHRead E a6 (rf1 (a5 0))]) [0, 1, 2, 3, 4, 5, 6] 7 rfl (by decide) rfl ?_
  refine ww_aload_n C dX8_change_12 rfl 0 rfl ?_
  refine ww_get C clOK8 in_X8_change_X8 (w := wGW E a0 (rf10 (a1 0) (a2 0) (a3 0) h0_3 h0_4 h0_5 h0_6 (a5 0) (a6 0) h0_9) v0) (fs := fsGW a0 (rf10 (a1 0) (a2 0) (a3 0) h0_3 h0_4 h0_5 h0_6 (a5 0) (a6 0) h0_9) v0) (v := .ref (a5 0)) 0 0 7 rfl q_GW (by decide) (by decide +kernel) g_GW_tokens dX8_change_13 ?_
  refine ww_iload_n C dX8_change_16 rfl 1 rfl ?_
  obtain ⟨p17, hp17, hf⟩ := bdE hf
  refine ww_callV C (As := [.int x1]) (st := []) (gr := [wGW E a0 (rf10 (a1 0) (a2 0) (a3 0) h0_3 h0_4 h0_5 h0_6 (a5 0) (a6 0) h0_9) v0, wHouse E a1 v1, wHouse E a2 v2, wHist E a3 (rf2 q4 h3_1) v3, wHs E q4 ah4 v4, wHRead E a6 (rf1 (a5 0))]) (c_X7_begin (E := E) (a0 := a5) hp17) gX8_change_X7_begin rfl yk_X7_begin ⟨by decide, Nat.le_of_ble_eq_true rfl⟩ ⟨by decide, by decide⟩ clOK7 0 0 rfl rfl [5] [0, 1, 2, 3, 4, 6] 7 rfl (by decide) rfl rfl (Nat.le_of_ble_eq_true rfl) dX8_change_17 ?_
  rintro _ _ ⟨rfl, rfl⟩
  refine ww_perm (gs' := [wGW E a0 (rf10 (a1 0) (a2 0) (a3 0) h0_3 h0_4 h0_5 h0_6 (a5 0) (a6 0) h0_9) v0, wHouse E a1 v1, wHouse E a2 v2, wHist E a3 (rf2 q4 h3_1) v3, wHs E q4 ah4 v4, wToks E a5 p17, wHRead E a6 (rf1 (a5 0))]) [1, 2, 3, 4, 5, 0, 6] 7 rfl (by decide) rfl ?_
  refine ww_aload_n C dX8_change_20 rfl 0 rfl ?_
  refine ww_get C clOK8 in_X8_change_X8 (w := wGW E a0 (rf10 (a1 0) (a2 0) (a3 0) h0_3 h0_4 h0_5 h0_6 (a5 0) (a6 0) h0_9) v0) (fs := fsGW a0 (rf10 (a1 0) (a2 0) (a3 0) h0_3 h0_4 h0_5 h0_6 (a5 0) (a6 0) h0_9) v0) (v := .ref (a2 0)) 0 0 1 rfl q_GW (by decide) (by decide +kernel) g_GW_scratch dX8_change_21 ?_
  refine ww_aload_n C dX8_change_24 rfl 0 rfl ?_
  refine ww_get C clOK8 in_X8_change_X8 (w := wGW E a0 (rf10 (a1 0) (a2 0) (a3 0) h0_3 h0_4 h0_5 h0_6 (a5 0) (a6 0) h0_9) v0) (fs := fsGW a0 (rf10 (a1 0) (a2 0) (a3 0) h0_3 h0_4 h0_5 h0_6 (a5 0) (a6 0) h0_9) v0) (v := .ref (a1 0)) 0 0 0 rfl q_GW (by decide) (by decide +kernel) g_GW_house dX8_change_25 ?_
  obtain ⟨p28, hp28, hf⟩ := bdE hf
  refine ww_callV C (As := [.ref (a1 0)]) (st := []) (gr := [wGW E a0 (rf10 (a1 0) (a2 0) (a3 0) h0_3 h0_4 h0_5 h0_6 (a5 0) (a6 0) h0_9) v0, wHist E a3 (rf2 q4 h3_1) v3, wHs E q4 ah4 v4, wToks E a5 p17, wHRead E a6 (rf1 (a5 0))]) (c_X2_copyFrom (E := E) (a0 := a2) (a1 := a1) hp28) gX8_change_X2_copyFrom rfl yk_X2_copyFrom ⟨by decide, Nat.le_of_ble_eq_true rfl⟩ ⟨by decide, by decide⟩ clOK2 0 0 rfl rfl [2, 1] [0, 3, 4, 5, 6] 7 rfl (by decide) rfl rfl (Nat.le_of_ble_eq_true rfl) dX8_change_28 ?_
  rintro _ _ ⟨rfl, rfl⟩
  refine ww_perm (gs' := [wGW E a0 (rf10 (a1 0) (a2 0) (a3 0) h0_3 h0_4 h0_5 h0_6 (a5 0) (a6 0) h0_9) v0, wHouse E a1 v1, wHouse E a2 p28, wHist E a3 (rf2 q4 h3_1) v3, wHs E q4 ah4 v4, wToks E a5 p17, wHRead E a6 (rf1 (a5 0))]) [2, 1, 0, 3, 4, 5, 6] 7 rfl (by decide) rfl ?_
  refine ww_aload_n C dX8_change_31 rfl 0 rfl ?_
  refine ww_get C clOK8 in_X8_change_X8 (w := wGW E a0 (rf10 (a1 0) (a2 0) (a3 0) h0_3 h0_4 h0_5 h0_6 (a5 0) (a6 0) h0_9) v0) (fs := fsGW a0 (rf10 (a1 0) (a2 0) (a3 0) h0_3 h0_4 h0_5 h0_6 (a5 0) (a6 0) h0_9) v0) (v := .ref (a6 0)) 0 0 8 rfl q_GW (by decide) (by decide +kernel) g_GW_houseReader dX8_change_32 ?_
  refine ww_aload_n C dX8_change_35 rfl 0 rfl ?_
  refine ww_get C clOK8 in_X8_change_X8 (w := wGW E a0 (rf10 (a1 0) (a2 0) (a3 0) h0_3 h0_4 h0_5 h0_6 (a5 0) (a6 0) h0_9) v0) (fs := fsGW a0 (rf10 (a1 0) (a2 0) (a3 0) h0_3 h0_4 h0_5 h0_6 (a5 0) (a6 0) h0_9) v0) (v := .ref (a2 0)) 0 0 1 rfl q_GW (by decide) (by decide +kernel) g_GW_scratch dX8_change_36 ?_
  obtain ⟨p39, hp39, hf⟩ := bdE hf
  refine ww_callV C (As := [.ref (a2 0)]) (st := []) (gr := [wGW E a0 (rf10 (a1 0) (a2 0) (a3 0) h0_3 h0_4 h0_5 h0_6 (a5 0) (a6 0) h0_9) v0, wHouse E a1 v1, wHist E a3 (rf2 q4 h3_1) v3, wHs E q4 ah4 v4]) (c_X3_readChange (E := E) (a0 := a6) (a1 := a5) (a2 := a2) hp39) gX8_change_X3_readChange rfl yk_X3_readChange ⟨by decide, Nat.le_of_ble_eq_true rfl⟩ ⟨by decide, by decide⟩ clOK3 0 0 rfl rfl [6, 5, 2] [0, 1, 3, 4] 7 rfl (by decide) rfl rfl (Nat.le_of_ble_eq_true rfl) dX8_change_39 ?_
  rintro _ _ ⟨rfl, rfl⟩
  refine ww_perm (gs' := [wGW E a0 (rf10 (a1 0) (a2 0) (a3 0) h0_3 h0_4 h0_5 h0_6 (a5 0) (a6 0) h0_9) v0, wHouse E a1 v1, wHouse E a2 p39.2.2, wHist E a3 (rf2 q4 h3_1) v3, wHs E q4 ah4 v4, wToks E a5 p39.2.1, wHRead E a6 (rf1 (a5 0))]) [3, 4, 2, 5, 6, 1, 0] 7 rfl (by decide) rfl ?_
  refine ww_istore_n (lv' := [(2, .int p39.1), (0, .ref (a0 0)), (1, .int x1)]) C dX8_change_42 rfl (by decide) rfl ?_
  refine ww_aload_n C dX8_change_43 rfl 1 rfl ?_
  refine ww_iload_n C dX8_change_44 rfl 0 rfl ?_
  obtain ⟨p45, hp45, hf⟩ := bdE hf
  refine ww_callV C (As := [.int p39.1]) (st := []) (gr := [wHouse E a1 v1, wHouse E a2 p39.2.2, wHist E a3 (rf2 q4 h3_1) v3, wHs E q4 ah4 v4, wHRead E a6 (rf1 (a5 0))]) (c_X8_endReading (E := E) (a0 := a0) (h0_0 := a1 0) (h0_1 := a2 0) (h0_2 := a3 0) (h0_3 := h0_3) (h0_4 := h0_4) (h0_5 := h0_5) (h0_6 := h0_6) (h0_8 := a6 0) (h0_9 := h0_9) (a1 := a5) hp45) gX8_change_X8_endReading rfl yk_X8_endReading ⟨by decide, Nat.le_of_ble_eq_true rfl⟩ ⟨by decide, by decide⟩ clOK8 0 0 rfl rfl [0, 5] [1, 2, 3, 4, 6] 7 rfl (by decide) rfl rfl (Nat.le_of_ble_eq_true rfl) dX8_change_45 ?_
  rintro _ _ ⟨rfl, rfl⟩
  refine ww_perm (gs' := [wGW E a0 (rf10 (a1 0) (a2 0) (a3 0) h0_3 h0_4 h0_5 h0_6 (a5 0) (a6 0) h0_9) p45.1, wHouse E a1 v1, wHouse E a2 p39.2.2, wHist E a3 (rf2 q4 h3_1) v3, wHs E q4 ah4 v4, wToks E a5 p45.2, wHRead E a6 (rf1 (a5 0))]) [0, 2, 3, 4, 5, 1, 6] 7 rfl (by decide) rfl ?_
  refine ww_iload_n C dX8_change_48 rfl 0 rfl ?_
  refine ww_if_eq (tgt := 57) C dX8_change_49 (by decide) (fun c_1 => ?_) (fun c_1 => ?_)
  · replace hf := ifT c_1 hf
    refine ww_aload_n C dX8_change_57 rfl 1 rfl ?_
    refine ww_get C clOK8 in_X8_change_X8 (w := wGW E a0 (rf10 (a1 0) (a2 0) (a3 0) h0_3 h0_4 h0_5 h0_6 (a5 0) (a6 0) h0_9) p45.1) (fs := fsGW a0 (rf10 (a1 0) (a2 0) (a3 0) h0_3 h0_4 h0_5 h0_6 (a5 0) (a6 0) h0_9) p45.1) (v := .ref (a3 0)) 0 0 2 rfl q_GW (by decide) (by decide +kernel) g_GW_history dX8_change_58 ?_
    refine ww_aload_n C dX8_change_61 rfl 1 rfl ?_
    refine ww_get C clOK8 in_X8_change_X8 (w := wGW E a0 (rf10 (a1 0) (a2 0) (a3 0) h0_3 h0_4 h0_5 h0_6 (a5 0) (a6 0) h0_9) p45.1) (fs := fsGW a0 (rf10 (a1 0) (a2 0) (a3 0) h0_3 h0_4 h0_5 h0_6 (a5 0) (a6 0) h0_9) p45.1) (v := .ref (a1 0)) 0 0 0 rfl q_GW (by decide) (by decide +kernel) g_GW_house dX8_change_62 ?_
    obtain ⟨p65, hp65, hf⟩ := bdE hf
    refine ww_callV C (As := [.ref (a1 0)]) (st := []) (gr := [wGW E a0 (rf10 (a1 0) (a2 0) (a3 0) h0_3 h0_4 h0_5 h0_6 (a5 0) (a6 0) h0_9) p45.1, wHouse E a2 p39.2.2, wToks E a5 p45.2, wHRead E a6 (rf1 (a5 0))]) (c_X1_record (E := E) (a0 := a3) (h0_1 := h3_1) (q1 := q4) (ah1 := ah4) (a2 := a1) hp65) gX8_change_X1_record rfl yk_X1_record ⟨by decide, Nat.le_of_ble_eq_true rfl⟩ ⟨by decide, by decide⟩ clOK1 0 0 rfl rfl [3, 4, 1] [0, 2, 5, 6] 7 rfl (by decide) rfl rfl (Nat.le_of_ble_eq_true rfl) dX8_change_65 ?_
    rintro _ _ ⟨rfl, rfl⟩
    refine ww_perm (gs' := [wGW E a0 (rf10 (a1 0) (a2 0) (a3 0) h0_3 h0_4 h0_5 h0_6 (a5 0) (a6 0) h0_9) p45.1, wHouse E a1 v1, wHouse E a2 p39.2.2, wHist E a3 (rf2 q4 h3_1) p65.1, wHs E q4 ah4 p65.2, wToks E a5 p45.2, wHRead E a6 (rf1 (a5 0))]) [3, 2, 4, 0, 1, 5, 6] 7 rfl (by decide) rfl ?_
    refine ww_aload_n C dX8_change_68 rfl 1 rfl ?_
    refine ww_get C clOK8 in_X8_change_X8 (w := wGW E a0 (rf10 (a1 0) (a2 0) (a3 0) h0_3 h0_4 h0_5 h0_6 (a5 0) (a6 0) h0_9) p45.1) (fs := fsGW a0 (rf10 (a1 0) (a2 0) (a3 0) h0_3 h0_4 h0_5 h0_6 (a5 0) (a6 0) h0_9) p45.1) (v := .ref (a1 0)) 0 0 0 rfl q_GW (by decide) (by decide +kernel) g_GW_house dX8_change_69 ?_
    refine ww_aload_n C dX8_change_72 rfl 1 rfl ?_
    refine ww_get C clOK8 in_X8_change_X8 (w := wGW E a0 (rf10 (a1 0) (a2 0) (a3 0) h0_3 h0_4 h0_5 h0_6 (a5 0) (a6 0) h0_9) p45.1) (fs := fsGW a0 (rf10 (a1 0) (a2 0) (a3 0) h0_3 h0_4 h0_5 h0_6 (a5 0) (a6 0) h0_9) p45.1) (v := .ref (a2 0)) 0 0 1 rfl q_GW (by decide) (by decide +kernel) g_GW_scratch dX8_change_73 ?_
    obtain ⟨p76, hp76, hf⟩ := bdE hf
    refine ww_callV C (As := [.ref (a2 0)]) (st := []) (gr := [wGW E a0 (rf10 (a1 0) (a2 0) (a3 0) h0_3 h0_4 h0_5 h0_6 (a5 0) (a6 0) h0_9) p45.1, wHist E a3 (rf2 q4 h3_1) p65.1, wHs E q4 ah4 p65.2, wToks E a5 p45.2, wHRead E a6 (rf1 (a5 0))]) (c_X2_copyFrom (E := E) (a0 := a1) (a1 := a2) hp76) gX8_change_X2_copyFrom rfl yk_X2_copyFrom ⟨by decide, Nat.le_of_ble_eq_true rfl⟩ ⟨by decide, by decide⟩ clOK2 0 0 rfl rfl [1, 2] [0, 3, 4, 5, 6] 7 rfl (by decide) rfl rfl (Nat.le_of_ble_eq_true rfl) dX8_change_76 ?_
    rintro _ _ ⟨rfl, rfl⟩
    refine ww_perm (gs' := [wGW E a0 (rf10 (a1 0) (a2 0) (a3 0) h0_3 h0_4 h0_5 h0_6 (a5 0) (a6 0) h0_9) p45.1, wHouse E a1 p76, wHouse E a2 p39.2.2, wHist E a3 (rf2 q4 h3_1) p65.1, wHs E q4 ah4 p65.2, wToks E a5 p45.2, wHRead E a6 (rf1 (a5 0))]) [2, 0, 1, 3, 4, 5, 6] 7 rfl (by decide) rfl ?_
    refine ww_aload_n C dX8_change_79 rfl 1 rfl ?_
    obtain ⟨p80, hp80, hf⟩ := bdE hf
    refine ww_callV C (As := []) (st := []) (gr := [wHouse E a2 p39.2.2, wHist E a3 (rf2 q4 h3_1) p65.1, wHs E q4 ah4 p65.2, wToks E a5 p45.2, wHRead E a6 (rf1 (a5 0))]) (c_X8_markWalksChanged (E := E) (a0 := a0) (h0_1 := a2 0) (h0_2 := a3 0) (h0_3 := h0_3) (h0_4 := h0_4) (h0_5 := h0_5) (h0_6 := h0_6) (h0_7 := a5 0) (h0_8 := a6 0) (h0_9 := h0_9) (a1 := a1) hp80) gX8_change_X8_markWalksChanged rfl yk_X8_markWalksChanged ⟨by decide, Nat.le_of_ble_eq_true rfl⟩ ⟨by decide, by decide⟩ clOK8 0 0 rfl rfl [0, 1] [2, 3, 4, 5, 6] 7 rfl (by decide) rfl rfl (Nat.le_of_ble_eq_true rfl) dX8_change_80 ?_
    rintro _ _ ⟨rfl, rfl⟩
    refine ww_perm (gs' := [wGW E a0 (rf10 (a1 0) (a2 0) (a3 0) h0_3 h0_4 h0_5 h0_6 (a5 0) (a6 0) h0_9) p80.1, wHouse E a1 p80.2, wHouse E a2 p39.2.2, wHist E a3 (rf2 q4 h3_1) p65.1, wHs E q4 ah4 p65.2, wToks E a5 p45.2, wHRead E a6 (rf1 (a5 0))]) [0, 1, 2, 3, 4, 5, 6] 7 rfl (by decide) rfl ?_
    refine ww_aload_n C dX8_change_83 rfl 1 rfl ?_
    refine ww_get C clOK8 in_X8_change_X8 (w := wGW E a0 (rf10 (a1 0) (a2 0) (a3 0) h0_3 h0_4 h0_5 h0_6 (a5 0) (a6 0) h0_9) p80.1) (fs := fsGW a0 (rf10 (a1 0) (a2 0) (a3 0) h0_3 h0_4 h0_5 h0_6 (a5 0) (a6 0) h0_9) p80.1) (v := .ref (a1 0)) 0 0 0 rfl q_GW (by decide) (by decide +kernel) g_GW_house dX8_change_84 ?_
    obtain ⟨p87, hp87, hf⟩ := bdE hf
    refine ww_callV C (As := []) (st := []) (gr := [wGW E a0 (rf10 (a1 0) (a2 0) (a3 0) h0_3 h0_4 h0_5 h0_6 (a5 0) (a6 0) h0_9) p80.1, wHouse E a2 p39.2.2, wHist E a3 (rf2 q4 h3_1) p65.1, wHs E q4 ah4 p65.2, wToks E a5 p45.2, wHRead E a6 (rf1 (a5 0))]) (c_X2_cycleLength (E := E) (a0 := a1) hp87) gX8_change_X2_cycleLength rfl yk_X2_cycleLength ⟨by decide, Nat.le_of_ble_eq_true rfl⟩ ⟨by decide, by decide⟩ clOK2 0 0 rfl rfl [1] [0, 2, 3, 4, 5, 6] 7 rfl (by decide) rfl rfl (Nat.le_of_ble_eq_true rfl) dX8_change_87 ?_
    rintro _ _ ⟨rfl, rfl⟩
    refine ww_perm (gs' := [wGW E a0 (rf10 (a1 0) (a2 0) (a3 0) h0_3 h0_4 h0_5 h0_6 (a5 0) (a6 0) h0_9) p80.1, wHouse E a1 p80.2, wHouse E a2 p39.2.2, wHist E a3 (rf2 q4 h3_1) p65.1, wHs E q4 ah4 p65.2, wToks E a5 p45.2, wHRead E a6 (rf1 (a5 0))]) [1, 0, 2, 3, 4, 5, 6] 7 rfl (by decide) rfl ?_
    obtain rfl := Option.some.inj hf
    exact ww_iret C ⟨rfl, rfl⟩ dX8_change_90
  · replace hf := ifF c_1 hf
    refine ww_bipush (v := (-10)) C dX8_change_52 (by decide) ?_
    refine ww_iload_n C dX8_change_54 rfl 0 rfl ?_
    refine ww_isub C dX8_change_55 ?_
    obtain rfl := Option.some.inj hf
    exact ww_iret C ⟨rfl, rfl⟩ dX8_change_56

theorem yk_X8_change : yX8_change.cls = RX8 ∧ yX8_change.cls ≠ "java/lang/invoke/MethodHandle" ∧ yX8_change.cls ≠ "java/lang/invoke/VarHandle" ∧ (parseMethodDescriptor yX8_change.desc).map (fun d => d.parameters.length) = some 1 := by decide +kernel
abbrev rmX8_undoCount : Room := { frames := 0, cells := 0, slots := 0, locals := 0 }
set_option maxRecDepth 20000 in
theorem in_X8_undoCount_X1 : ∀ w ∈ u_ws RX1 TX1 5, w ∈ wsX8_undoCount := by decide +kernel
set_option maxRecDepth 20000 in
theorem in_X8_undoCount_X8 : ∀ w ∈ u_ws RX8 TX8 14, w ∈ wsX8_undoCount := by decide +kernel
set_option maxHeartbeats 4000000 in
set_option maxRecDepth 100000 in
theorem c_X8_undoCount {E : Ex} {a0 : Nat → Nat} {a1 : Nat → Nat} {h0_0 h0_1 h0_3 h0_4 h0_5 h0_6 h0_7 h0_8 h0_9 h1_0 h1_1 : Nat} {v0 : GWV} {v1 : HistV} {r : Int32} (hf : GW_undoCount v0 v1 = some r) : Ct E yX8_undoCount wsX8_undoCount rmX8_undoCount [.ref (a0 0)] [wGW E a0 (rf10 h0_0 h0_1 (a1 0) h0_3 h0_4 h0_5 h0_6 h0_7 h0_8 h0_9) v0, wHist E a1 (rf2 h1_0 h1_1) v1] (fun rv g => rv = some (.int r) ∧ g = [wGW E a0 (rf10 h0_0 h0_1 (a1 0) h0_3 h0_4 h0_5 h0_6 h0_7 h0_8 h0_9) v0, wHist E a1 (rf2 h1_0 h1_1) v1]) := by
  refine ct_of (own := RX8) (by decide +kernel) rfl rfl (Nat.le_of_ble_eq_true rfl) (fun K C => ?_)
  refine ww_sub C (lv' := [(0, .ref (a0 0))]) [0] rfl ?_
  rw [GW_undoCount] at hf
  refine ww_aload_n C dX8_undoCount_0 rfl 0 rfl ?_
  refine ww_get C clOK8 in_X8_undoCount_X8 (w := wGW E a0 (rf10 h0_0 h0_1 (a1 0) h0_3 h0_4 h0_5 h0_6 h0_7 h0_8 h0_9) v0) (fs := fsGW a0 (rf10 h0_0 h0_1 (a1 0) h0_3 h0_4 h0_5 h0_6 h0_7 h0_8 h0_9) v0) (v := .ref (a1 0)) 0 0 2 rfl q_GW (by decide) (by decide +kernel) g_GW_history dX8_undoCount_1 ?_
  refine ww_get C clOK1 in_X8_undoCount_X1 (w := wHist E a1 (rf2 h1_0 h1_1) v1) (fs := fsHist a1 (rf2 h1_0 h1_1) v1) (v := .int (Hist_count v1)) 1 0 4 rfl q_Hist (by decide) (by decide +kernel) g_Hist_count dX8_undoCount_4 ?_
  obtain rfl := Option.some.inj hf
  exact ww_iret C ⟨rfl, rfl⟩ dX8_undoCount_7

theorem yk_X8_undoCount : yX8_undoCount.cls = RX8 ∧ yX8_undoCount.cls ≠ "java/lang/invoke/MethodHandle" ∧ yX8_undoCount.cls ≠ "java/lang/invoke/VarHandle" ∧ (parseMethodDescriptor yX8_undoCount.desc).map (fun d => d.parameters.length) = some 0 := by decide +kernel
abbrev rmX8_undo : Room := { frames := 3, cells := 0, slots := 0, locals := 83 }
set_option maxRecDepth 20000 in
theorem in_X8_undo_X1 : ∀ w ∈ u_ws RX1 TX1 5, w ∈ wsX8_undo := by decide +kernel
set_option maxRecDepth 20000 in
theorem in_X8_undo_X8 : ∀ w ∈ u_ws RX8 TX8 14, w ∈ wsX8_undo := by decide +kernel
set_option maxHeartbeats 4000000 in
set_option maxRecDepth 100000 in
theorem c_X8_undo {E : Ex} {a0 : Nat → Nat} {a1 : Nat → Nat} {a2 : Nat → Nat} {q3 : Nat} {ah3 : Nat → Nat → Nat} {h0_1 h0_3 h0_4 h0_5 h0_6 h0_7 h0_8 h0_9 h2_1 : Nat} {v0 : GWV} {v1 : HouseV} {v2 : HistV} {v3 : Nat → HouseV} {r : (Int32 × HouseV × HistV)} (hf : GW_undo v0 v1 v2 v3 = some r) : Ct E yX8_undo wsX8_undo rmX8_undo [.ref (a0 0)] [wGW E a0 (rf10 (a1 0) h0_1 (a2 0) h0_3 h0_4 h0_5 h0_6 h0_7 h0_8 h0_9) v0, wHouse E a1 v1, wHist E a2 (rf2 q3 h2_1) v2, wHs E q3 ah3 v3] (fun rv g => rv = some (.int r.1) ∧ g = [wGW E a0 (rf10 (a1 0) h0_1 (a2 0) h0_3 h0_4 h0_5 h0_6 h0_7 h0_8 h0_9) v0, wHouse E a1 r.2.1, wHist E a2 (rf2 q3 h2_1) r.2.2, wHs E q3 ah3 v3]) := by
  refine ct_of (own := RX8) (by decide +kernel) rfl rfl (Nat.le_of_ble_eq_true rfl) (fun K C => ?_)
  refine ww_sub C (lv' := [(0, .ref (a0 0))]) [0] rfl ?_
  rw [GW_undo] at hf
  refine ww_aload_n C dX8_undo_0 rfl 0 rfl ?_
  refine ww_get C clOK8 in_X8_undo_X8 (w := wGW E a0 (rf10 (a1 0) h0_1 (a2 0) h0_3 h0_4 h0_5 h0_6 h0_7 h0_8 h0_9) v0) (fs := fsGW a0 (rf10 (a1 0) h0_1 (a2 0) h0_3 h0_4 h0_5 h0_6 h0_7 h0_8 h0_9) v0) (v := .ref (a2 0)) 0 0 2 rfl q_GW (by decide) (by decide +kernel) g_GW_history dX8_undo_1 ?_
  refine ww_aload_n C dX8_undo_4 rfl 0 rfl ?_
  refine ww_get C clOK8 in_X8_undo_X8 (w := wGW E a0 (rf10 (a1 0) h0_1 (a2 0) h0_3 h0_4 h0_5 h0_6 h0_7 h0_8 h0_9) v0) (fs := fsGW a0 (rf10 (a1 0) h0_1 (a2 0) h0_3 h0_4 h0_5 h0_6 h0_7 h0_8 h0_9) v0) (v := .ref (a1 0)) 0 0 0 rfl q_GW (by decide) (by decide +kernel) g_GW_house dX8_undo_5 ?_
  obtain ⟨p8, hp8, hf⟩ := bdE hf
  refine ww_callV C (As := [.ref (a1 0)]) (st := []) (gr := [wGW E a0 (rf10 (a1 0) h0_1 (a2 0) h0_3 h0_4 h0_5 h0_6 h0_7 h0_8 h0_9) v0]) (c_X1_takeBack (E := E) (a0 := a2) (h0_1 := h2_1) (q1 := q3) (ah1 := ah3) (a2 := a1) hp8) gX8_undo_X1_takeBack rfl yk_X1_takeBack ⟨by decide, Nat.le_of_ble_eq_true rfl⟩ ⟨by decide, by decide⟩ clOK1 0 0 rfl rfl [2, 3, 1] [0] 4 rfl (by decide) rfl rfl (Nat.le_of_ble_eq_true rfl) dX8_undo_8 ?_
  rintro _ _ ⟨rfl, rfl⟩
  refine ww_perm (gs' := [wGW E a0 (rf10 (a1 0) h0_1 (a2 0) h0_3 h0_4 h0_5 h0_6 h0_7 h0_8 h0_9) v0, wHouse E a1 p8.2.2, wHist E a2 (rf2 q3 h2_1) p8.2.1, wHs E q3 ah3 v3]) [3, 2, 0, 1] 4 rfl (by decide) rfl ?_
  refine ww_if_eqB (tgt := 24) C dX8_undo_11 (by decide) (fun c_1 => ?_) (fun c_1 => ?_)
  · replace hf := bfE c_1 hf
    refine ww_iconst (v := (-1)) C dX8_undo_24 (by decide) ?_
    obtain rfl := Option.some.inj hf
    exact ww_iret C ⟨rfl, rfl⟩ dX8_undo_25
  · replace hf := btE c_1 hf
    refine ww_aload_n C dX8_undo_14 rfl 0 rfl ?_
    refine ww_get C clOK8 in_X8_undo_X8 (w := wGW E a0 (rf10 (a1 0) h0_1 (a2 0) h0_3 h0_4 h0_5 h0_6 h0_7 h0_8 h0_9) v0) (fs := fsGW a0 (rf10 (a1 0) h0_1 (a2 0) h0_3 h0_4 h0_5 h0_6 h0_7 h0_8 h0_9) v0) (v := .ref (a2 0)) 0 0 2 rfl q_GW (by decide) (by decide +kernel) g_GW_history dX8_undo_15 ?_
    refine ww_get C clOK1 in_X8_undo_X1 (w := wHist E a2 (rf2 q3 h2_1) p8.2.1) (fs := fsHist a2 (rf2 q3 h2_1) p8.2.1) (v := .int (Hist_count p8.2.1)) 2 0 4 rfl q_Hist (by decide) (by decide +kernel) g_Hist_count dX8_undo_18 ?_
    refine ww_goto (tgt := 25) C dX8_undo_21 (by decide) ?_
    obtain rfl := Option.some.inj hf
    exact ww_iret C ⟨rfl, rfl⟩ dX8_undo_25

theorem yk_X8_undo : yX8_undo.cls = RX8 ∧ yX8_undo.cls ≠ "java/lang/invoke/MethodHandle" ∧ yX8_undo.cls ≠ "java/lang/invoke/VarHandle" ∧ (parseMethodDescriptor yX8_undo.desc).map (fun d => d.parameters.length) = some 0 := by decide +kernel
abbrev rmX8_saveSnapshot : Room := { frames := 3, cells := 0, slots := 0, locals := 82 }
set_option maxRecDepth 20000 in
theorem in_X8_saveSnapshot_X8 : ∀ w ∈ u_ws RX8 TX8 14, w ∈ wsX8_saveSnapshot := by decide +kernel
set_option maxHeartbeats 4000000 in
set_option maxRecDepth 100000 in
theorem c_X8_saveSnapshot {E : Ex} {a0 : Nat → Nat} {a1 : Nat → Nat} {a2 : Nat → Nat} {a3 : Nat → Nat} {h0_1 h0_3 h0_4 h0_5 h0_6 h0_7 h0_8 h0_9 h2_0 : Nat} {v0 : GWV} {v1 : HouseV} {v2 : HistV} {v3 : HouseV} {r : (HistV × HouseV)} (hf : GW_saveSnapshot v0 v1 v2 v3 = some r) : Ct E yX8_saveSnapshot wsX8_saveSnapshot rmX8_saveSnapshot [.ref (a0 0)] [wGW E a0 (rf10 (a1 0) h0_1 (a2 0) h0_3 h0_4 h0_5 h0_6 h0_7 h0_8 h0_9) v0, wHouse E a1 v1, wHist E a2 (rf2 h2_0 (a3 0)) v2, wHouse E a3 v3] (fun rv g => rv = none ∧ g = [wGW E a0 (rf10 (a1 0) h0_1 (a2 0) h0_3 h0_4 h0_5 h0_6 h0_7 h0_8 h0_9) v0, wHouse E a1 v1, wHist E a2 (rf2 h2_0 (a3 0)) r.1, wHouse E a3 r.2]) := by
  refine ct_of (own := RX8) (by decide +kernel) rfl rfl (Nat.le_of_ble_eq_true rfl) (fun K C => ?_)
  refine ww_sub C (lv' := [(0, .ref (a0 0))]) [0] rfl ?_
  rw [GW_saveSnapshot] at hf
  refine ww_aload_n C dX8_saveSnapshot_0 rfl 0 rfl ?_
  refine ww_get C clOK8 in_X8_saveSnapshot_X8 (w := wGW E a0 (rf10 (a1 0) h0_1 (a2 0) h0_3 h0_4 h0_5 h0_6 h0_7 h0_8 h0_9) v0) (fs := fsGW a0 (rf10 (a1 0) h0_1 (a2 0) h0_3 h0_4 h0_5 h0_6 h0_7 h0_8 h0_9) v0) (v := .ref (a2 0)) 0 0 2 rfl q_GW (by decide) (by decide +kernel) g_GW_history dX8_saveSnapshot_1 ?_
  refine ww_aload_n C dX8_saveSnapshot_4 rfl 0 rfl ?_
  refine ww_get C clOK8 in_X8_saveSnapshot_X8 (w := wGW E a0 (rf10 (a1 0) h0_1 (a2 0) h0_3 h0_4 h0_5 h0_6 h0_7 h0_8 h0_9) v0) (fs := fsGW a0 (rf10 (a1 0) h0_1 (a2 0) h0_3 h0_4 h0_5 h0_6 h0_7 h0_8 h0_9) v0) (v := .ref (a1 0)) 0 0 0 rfl q_GW (by decide) (by decide +kernel) g_GW_house dX8_saveSnapshot_5 ?_
  obtain ⟨p8, hp8, hf⟩ := bdE hf
  refine ww_callV C (As := [.ref (a1 0)]) (st := []) (gr := [wGW E a0 (rf10 (a1 0) h0_1 (a2 0) h0_3 h0_4 h0_5 h0_6 h0_7 h0_8 h0_9) v0]) (c_X1_keepSnapshot (E := E) (a0 := a2) (h0_0 := h2_0) (a1 := a3) (a2 := a1) hp8) gX8_saveSnapshot_X1_keepSnapshot rfl yk_X1_keepSnapshot ⟨by decide, Nat.le_of_ble_eq_true rfl⟩ ⟨by decide, by decide⟩ clOK1 0 0 rfl rfl [2, 3, 1] [0] 4 rfl (by decide) rfl rfl (Nat.le_of_ble_eq_true rfl) dX8_saveSnapshot_8 ?_
  rintro _ _ ⟨rfl, rfl⟩
  refine ww_perm (gs' := [wGW E a0 (rf10 (a1 0) h0_1 (a2 0) h0_3 h0_4 h0_5 h0_6 h0_7 h0_8 h0_9) v0, wHouse E a1 v1, wHist E a2 (rf2 h2_0 (a3 0)) p8.1, wHouse E a3 p8.2]) [3, 2, 0, 1] 4 rfl (by decide) rfl ?_
  obtain rfl := Option.some.inj hf
  exact ww_vret C ⟨rfl, rfl⟩ dX8_saveSnapshot_11

theorem yk_X8_saveSnapshot : yX8_saveSnapshot.cls = RX8 ∧ yX8_saveSnapshot.cls ≠ "java/lang/invoke/MethodHandle" ∧ yX8_saveSnapshot.cls ≠ "java/lang/invoke/VarHandle" ∧ (parseMethodDescriptor yX8_saveSnapshot.desc).map (fun d => d.parameters.length) = some 0 := by decide +kernel
abbrev rmX8_restoreSnapshot : Room := { frames := 3, cells := 0, slots := 0, locals := 82 }
set_option maxRecDepth 20000 in
theorem in_X8_restoreSnapshot_X8 : ∀ w ∈ u_ws RX8 TX8 14, w ∈ wsX8_restoreSnapshot := by decide +kernel
set_option maxHeartbeats 4000000 in
set_option maxRecDepth 100000 in
theorem c_X8_restoreSnapshot {E : Ex} {a0 : Nat → Nat} {a1 : Nat → Nat} {a2 : Nat → Nat} {a3 : Nat → Nat} {h0_1 h0_3 h0_4 h0_5 h0_6 h0_7 h0_8 h0_9 h2_0 : Nat} {v0 : GWV} {v1 : HouseV} {v2 : HistV} {v3 : HouseV} {r : (Bool × HouseV × HistV)} (hf : GW_restoreSnapshot v0 v1 v2 v3 = some r) : Ct E yX8_restoreSnapshot wsX8_restoreSnapshot rmX8_restoreSnapshot [.ref (a0 0)] [wGW E a0 (rf10 (a1 0) h0_1 (a2 0) h0_3 h0_4 h0_5 h0_6 h0_7 h0_8 h0_9) v0, wHouse E a1 v1, wHist E a2 (rf2 h2_0 (a3 0)) v2, wHouse E a3 v3] (fun rv g => rv = some (.int (b2i r.1)) ∧ g = [wGW E a0 (rf10 (a1 0) h0_1 (a2 0) h0_3 h0_4 h0_5 h0_6 h0_7 h0_8 h0_9) v0, wHouse E a1 r.2.1, wHist E a2 (rf2 h2_0 (a3 0)) r.2.2, wHouse E a3 v3]) := by
  refine ct_of (own := RX8) (by decide +kernel) rfl rfl (Nat.le_of_ble_eq_true rfl) (fun K C => ?_)
  refine ww_sub C (lv' := [(0, .ref (a0 0))]) [0] rfl ?_
  rw [GW_restoreSnapshot] at hf
  refine ww_aload_n C dX8_restoreSnapshot_0 rfl 0 rfl ?_
  refine ww_get C clOK8 in_X8_restoreSnapshot_X8 (w := wGW E a0 (rf10 (a1 0) h0_1 (a2 0) h0_3 h0_4 h0_5 h0_6 h0_7 h0_8 h0_9) v0) (fs := fsGW a0 (rf10 (a1 0) h0_1 (a2 0) h0_3 h0_4 h0_5 h0_6 h0_7 h0_8 h0_9) v0) (v := .ref (a2 0)) 0 0 2 rfl q_GW (by decide) (by decide +kernel) g_GW_history dX8_restoreSnapshot_1 ?_
  refine ww_aload_n C dX8_restoreSnapshot_4 rfl 0 rfl ?_
  refine ww_get C clOK8 in_X8_restoreSnapshot_X8 (w := wGW E a0 (rf10 (a1 0) h0_1 (a2 0) h0_3 h0_4 h0_5 h0_6 h0_7 h0_8 h0_9) v0) (fs := fsGW a0 (rf10 (a1 0) h0_1 (a2 0) h0_3 h0_4 h0_5 h0_6 h0_7 h0_8 h0_9) v0) (v := .ref (a1 0)) 0 0 0 rfl q_GW (by decide) (by decide +kernel) g_GW_house dX8_restoreSnapshot_5 ?_
  obtain ⟨p8, hp8, hf⟩ := bdE hf
  refine ww_callV C (As := [.ref (a1 0)]) (st := []) (gr := [wGW E a0 (rf10 (a1 0) h0_1 (a2 0) h0_3 h0_4 h0_5 h0_6 h0_7 h0_8 h0_9) v0]) (c_X1_bringSnapshot (E := E) (a0 := a2) (h0_0 := h2_0) (a1 := a3) (a2 := a1) hp8) gX8_restoreSnapshot_X1_bringSnapshot rfl yk_X1_bringSnapshot ⟨by decide, Nat.le_of_ble_eq_true rfl⟩ ⟨by decide, by decide⟩ clOK1 0 0 rfl rfl [2, 3, 1] [0] 4 rfl (by decide) rfl rfl (Nat.le_of_ble_eq_true rfl) dX8_restoreSnapshot_8 ?_
  rintro _ _ ⟨rfl, rfl⟩
  refine ww_perm (gs' := [wGW E a0 (rf10 (a1 0) h0_1 (a2 0) h0_3 h0_4 h0_5 h0_6 h0_7 h0_8 h0_9) v0, wHouse E a1 p8.2.2, wHist E a2 (rf2 h2_0 (a3 0)) p8.2.1, wHouse E a3 v3]) [3, 2, 0, 1] 4 rfl (by decide) rfl ?_
  obtain rfl := Option.some.inj hf
  exact ww_zret C (nar_b p8.1) ⟨rfl, rfl⟩ dX8_restoreSnapshot_11

theorem yk_X8_restoreSnapshot : yX8_restoreSnapshot.cls = RX8 ∧ yX8_restoreSnapshot.cls ≠ "java/lang/invoke/MethodHandle" ∧ yX8_restoreSnapshot.cls ≠ "java/lang/invoke/VarHandle" ∧ (parseMethodDescriptor yX8_restoreSnapshot.desc).map (fun d => d.parameters.length) = some 0 := by decide +kernel
