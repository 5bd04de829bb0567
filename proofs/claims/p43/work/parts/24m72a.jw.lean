abbrev rmJ7_fill_53178 : Room := { frames := 0, cells := 0, slots := 0, locals := 0 }
set_option maxHeartbeats 4000000 in
set_option maxRecDepth 100000 in
theorem w_J7_fill_53178_5 {E : Ex} {K : Kx} (C : Cx E K cJ7_fill_53178 4 none RJ7 wsJ7_fill_53178 rmJ7_fill_53178) {q0 : Nat} {x1 : Int32} {n0 : Nat} {x3 : Int32} {r : (Nat → Int32)} : ∀ (n : Nat) (x2 : Int32) (v0 : Nat → Int32), J_fill_5 x1 n0 x3 n x2 v0 = some r → WW E K 0 0 (QQ E K (fun rv g => rv = none ∧ g = [wArr E q0 n0 r]) 0 0) 5 [(0, .ref q0), (1, .int x1), (2, .int x2), (3, .int x3)] [] [wArr E q0 n0 v0] := by
  intro n
  induction n with
  | zero =>
    intro x2 v0 hf
    simp [J_fill_5] at hf
  | succ n ih =>
    intro x2 v0 hf
    rw [J_fill_5] at hf
    refine ww_iload_n C dJ7_fill_53178_5 rfl 2 rfl ?_
    refine ww_iload_n C dJ7_fill_53178_6 rfl 3 rfl ?_
    refine ww_icmp_ge (tgt := 20) C dJ7_fill_53178_7 (by decide) (fun c_2 => ?_) (fun c_2 => ?_)
    · replace hf := ifT c_2 hf
      obtain rfl := Option.some.inj hf
      exact ww_vret C ⟨rfl, rfl⟩ dJ7_fill_53178_20
    · replace hf := ifF c_2 hf
      refine ww_aload_n C dJ7_fill_53178_10 rfl 0 rfl ?_
      refine ww_iload_n C dJ7_fill_53178_11 rfl 2 rfl ?_
      refine ww_iload_n C dJ7_fill_53178_12 rfl 1 rfl ?_
      obtain ⟨g_3, hf⟩ := gdE hf
      obtain ⟨v0_13, e_v0_13⟩ : ∃ y : Nat → Int32, y = upd v0 (Int32.toNatClampNeg x2) x1 := ⟨_, rfl⟩
      replace hf := ltE e_v0_13 hf
      refine ww_iast C (f := v0) (w := wArr E q0 n0 v0) (w' := wArr E q0 n0 v0_13) (gs' := [wArr E q0 n0 v0_13]) 0 0 rfl q_Arr (inB_vp g_3) (by rw [e_v0_13]; exact s_Arr) rfl dJ7_fill_53178_13 ?_
      obtain ⟨x2_14, e_x2_14⟩ : ∃ y : Int32, y = x2 + 1 := ⟨_, rfl⟩
      replace hf := ltE e_x2_14 hf
      refine ww_iinc (v := x2_14) (lv' := [(2, .int x2_14), (0, .ref q0), (1, .int x1), (3, .int x3)]) C dJ7_fill_53178_14 2 rfl (by rw [e_x2_14]; rfl) (by decide) rfl ?_
      refine ww_goto (tgt := 5) C dJ7_fill_53178_17 (by decide) ?_
      refine ww_sub C (lv' := [(0, .ref q0), (1, .int x1), (2, .int x2_14), (3, .int x3)]) [1, 2, 0, 3] rfl ?_
      exact ih _ _ hf

set_option maxHeartbeats 4000000 in
set_option maxRecDepth 100000 in
theorem c_J7_fill_53178 {E : Ex} {q0 : Nat} {x1 : Int32} {n0 : Nat} {v0 : Nat → Int32} {r : (Nat → Int32)} (hf : J_fill x1 n0 v0 = some r) : Ct E yJ7_fill_53178 wsJ7_fill_53178 rmJ7_fill_53178 [.ref q0, .int x1] [wArr E q0 n0 v0] (fun rv g => rv = none ∧ g = [wArr E q0 n0 r]) := by
  refine ct_of (own := RJ7) (by decide +kernel) rfl rfl (Nat.le_of_ble_eq_true rfl) (fun K C => ?_)
  refine ww_sub C (lv' := [(0, .ref q0), (1, .int x1)]) [0, 1] rfl ?_
  rw [J_fill] at hf
  refine ww_iconst (v := 0) C dJ7_fill_53178_0 (by decide) ?_
  refine ww_istore_n (lv' := [(2, .int 0), (0, .ref q0), (1, .int x1)]) C dJ7_fill_53178_1 rfl (by decide) rfl ?_
  refine ww_aload_n C dJ7_fill_53178_2 rfl 1 rfl ?_
  refine ww_alen C (v := nI n0) (w := wArr E q0 n0 v0) 0 0 rfl q_Arr rfl dJ7_fill_53178_3 ?_
  refine ww_topi (fun x3_4 e_x3_4 => ?_)
  replace hf := ltE e_x3_4 hf
  refine ww_istore_n (lv' := [(3, .int x3_4), (2, .int 0), (0, .ref q0), (1, .int x1)]) C dJ7_fill_53178_4 rfl (by decide) rfl ?_
  refine ww_sub C (lv' := [(0, .ref q0), (1, .int x1), (2, .int 0), (3, .int x3_4)]) [2, 3, 1, 0] rfl ?_
  exact w_J7_fill_53178_5 C FU _ _ hf

theorem ysk_J7_fill_53178 : yJ7_fill_53178.cls ≠ "java/lang/invoke/MethodHandle" ∧ yJ7_fill_53178.cls ≠ "java/lang/invoke/VarHandle" ∧ (parseMethodDescriptor yJ7_fill_53178.desc).map (fun d => d.parameters.length) = some 2 := by decide +kernel
abbrev rmJ6_bitCount_0f7a4 : Room := { frames := 0, cells := 0, slots := 0, locals := 0 }
set_option maxHeartbeats 4000000 in
set_option maxRecDepth 100000 in
theorem c_J6_bitCount_0f7a4 {E : Ex}  {x0 : Int32} {r : Int32} (hf : J_bitCount x0 = some r) : Ct E yJ6_bitCount_0f7a4 wsJ6_bitCount_0f7a4 rmJ6_bitCount_0f7a4 [.int x0] [] (fun rv g => rv = some (.int r) ∧ g = []) := by
  refine ct_of (own := RJ6) (by decide +kernel) rfl rfl (Nat.le_of_ble_eq_true rfl) (fun K C => ?_)
  refine ww_sub C (lv' := [(0, .int x0)]) [0] rfl ?_
  rw [J_bitCount] at hf
  refine ww_iload_n C dJ6_bitCount_0f7a4_0 rfl 0 rfl ?_
  refine ww_iload_n C dJ6_bitCount_0f7a4_1 rfl 0 rfl ?_
  refine ww_iconst (v := 1) C dJ6_bitCount_0f7a4_2 (by decide) ?_
  refine ww_iushr C dJ6_bitCount_0f7a4_3 ?_
  refine ww_ldcw (v := 1431655765) C (by decide +kernel) dJ6_bitCount_0f7a4_4 ?_
  refine ww_iand C dJ6_bitCount_0f7a4_7 ?_
  refine ww_isub C dJ6_bitCount_0f7a4_8 ?_
  refine ww_topi (fun x0_9 e_x0_9 => ?_)
  replace hf := ltE e_x0_9 hf
  refine ww_istore_n (lv' := [(0, .int x0_9)]) C dJ6_bitCount_0f7a4_9 rfl (by decide) rfl ?_
  refine ww_iload_n C dJ6_bitCount_0f7a4_10 rfl 0 rfl ?_
  refine ww_ldcw (v := 858993459) C (by decide +kernel) dJ6_bitCount_0f7a4_11 ?_
  refine ww_iand C dJ6_bitCount_0f7a4_14 ?_
  refine ww_iload_n C dJ6_bitCount_0f7a4_15 rfl 0 rfl ?_
  refine ww_iconst (v := 2) C dJ6_bitCount_0f7a4_16 (by decide) ?_
  refine ww_iushr C dJ6_bitCount_0f7a4_17 ?_
  refine ww_ldcw (v := 858993459) C (by decide +kernel) dJ6_bitCount_0f7a4_18 ?_
  refine ww_iand C dJ6_bitCount_0f7a4_21 ?_
  refine ww_iadd C dJ6_bitCount_0f7a4_22 ?_
  refine ww_topi (fun x0_23 e_x0_23 => ?_)
  replace hf := ltE e_x0_23 hf
  refine ww_istore_n (lv' := [(0, .int x0_23)]) C dJ6_bitCount_0f7a4_23 rfl (by decide) rfl ?_
  refine ww_iload_n C dJ6_bitCount_0f7a4_24 rfl 0 rfl ?_
  refine ww_iload_n C dJ6_bitCount_0f7a4_25 rfl 0 rfl ?_
  refine ww_iconst (v := 4) C dJ6_bitCount_0f7a4_26 (by decide) ?_
  refine ww_iushr C dJ6_bitCount_0f7a4_27 ?_
  refine ww_iadd C dJ6_bitCount_0f7a4_28 ?_
  refine ww_ldcw (v := 252645135) C (by decide +kernel) dJ6_bitCount_0f7a4_29 ?_
  refine ww_iand C dJ6_bitCount_0f7a4_32 ?_
  refine ww_topi (fun x0_33 e_x0_33 => ?_)
  replace hf := ltE e_x0_33 hf
  refine ww_istore_n (lv' := [(0, .int x0_33)]) C dJ6_bitCount_0f7a4_33 rfl (by decide) rfl ?_
  refine ww_iload_n C dJ6_bitCount_0f7a4_34 rfl 0 rfl ?_
  refine ww_iload_n C dJ6_bitCount_0f7a4_35 rfl 0 rfl ?_
  refine ww_bipush (v := 8) C dJ6_bitCount_0f7a4_36 (by decide) ?_
  refine ww_iushr C dJ6_bitCount_0f7a4_38 ?_
  refine ww_iadd C dJ6_bitCount_0f7a4_39 ?_
  refine ww_topi (fun x0_40 e_x0_40 => ?_)
  replace hf := ltE e_x0_40 hf
  refine ww_istore_n (lv' := [(0, .int x0_40)]) C dJ6_bitCount_0f7a4_40 rfl (by decide) rfl ?_
  refine ww_iload_n C dJ6_bitCount_0f7a4_41 rfl 0 rfl ?_
  refine ww_iload_n C dJ6_bitCount_0f7a4_42 rfl 0 rfl ?_
  refine ww_bipush (v := 16) C dJ6_bitCount_0f7a4_43 (by decide) ?_
  refine ww_iushr C dJ6_bitCount_0f7a4_45 ?_
  refine ww_iadd C dJ6_bitCount_0f7a4_46 ?_
  refine ww_topi (fun x0_47 e_x0_47 => ?_)
  replace hf := ltE e_x0_47 hf
  refine ww_istore_n (lv' := [(0, .int x0_47)]) C dJ6_bitCount_0f7a4_47 rfl (by decide) rfl ?_
  refine ww_iload_n C dJ6_bitCount_0f7a4_48 rfl 0 rfl ?_
  refine ww_bipush (v := 63) C dJ6_bitCount_0f7a4_49 (by decide) ?_
  refine ww_iand C dJ6_bitCount_0f7a4_51 ?_
  obtain rfl := Option.some.inj hf
  exact ww_iret C ⟨rfl, rfl⟩ dJ6_bitCount_0f7a4_52

theorem ysk_J6_bitCount_0f7a4 : yJ6_bitCount_0f7a4.cls ≠ "java/lang/invoke/MethodHandle" ∧ yJ6_bitCount_0f7a4.cls ≠ "java/lang/invoke/VarHandle" ∧ (parseMethodDescriptor yJ6_bitCount_0f7a4.desc).map (fun d => d.parameters.length) = some 1 := by decide +kernel
abbrev rmX8_has : Room := { frames := 0, cells := 0, slots := 0, locals := 0 }
set_option maxHeartbeats 4000000 in
set_option maxRecDepth 100000 in
theorem c_X8_has {E : Ex}  {x0 : Int32} {x1 : Int32} {r : Bool} (hf : GW_has x0 x1 = some r) : Ct E yX8_has wsX8_has rmX8_has [.int x0, .int x1] [] (fun rv g => rv = some (.int (b2i r)) ∧ g = []) := by
  refine ct_of (own := RX8) (by decide +kernel) rfl rfl (Nat.le_of_ble_eq_true rfl) (fun K C => ?_)
  refine ww_sub C (lv' := [(0, .int x0), (1, .int x1)]) [0, 1] rfl ?_
  rw [GW_has] at hf
  refine ww_iload_n C dX8_has_0 rfl 0 rfl ?_
  refine ww_iload_n C dX8_has_1 rfl 1 rfl ?_
  refine ww_ishr C dX8_has_2 ?_
  refine ww_iconst (v := 1) C dX8_has_3 (by decide) ?_
  refine ww_iand C dX8_has_4 ?_
  refine ww_if_eq (tgt := 12) C dX8_has_5 (by decide) (fun c_1 => ?_) (fun c_1 => ?_)
  · replace hf := ifT c_1 hf
    refine ww_iconst (v := 0) C dX8_has_12 (by decide) ?_
    obtain rfl := Option.some.inj hf
    exact ww_zret C (nar_b false) ⟨rfl, rfl⟩ dX8_has_13
  · replace hf := ifF c_1 hf
    refine ww_iconst (v := 1) C dX8_has_8 (by decide) ?_
    refine ww_goto (tgt := 13) C dX8_has_9 (by decide) ?_
    obtain rfl := Option.some.inj hf
    exact ww_zret C (nar_b true) ⟨rfl, rfl⟩ dX8_has_13

theorem ysk_X8_has : yX8_has.cls ≠ "java/lang/invoke/MethodHandle" ∧ yX8_has.cls ≠ "java/lang/invoke/VarHandle" ∧ (parseMethodDescriptor yX8_has.desc).map (fun d => d.parameters.length) = some 2 := by decide +kernel
abbrev rmX8_leastMultiple : Room := { frames := 0, cells := 0, slots := 0, locals := 0 }
set_option maxHeartbeats 4000000 in
set_option maxRecDepth 100000 in
theorem w_X8_leastMultiple_9 {E : Ex} {K : Kx} (C : Cx E K cX8_leastMultiple 3 (some .int) RX8 wsX8_leastMultiple rmX8_leastMultiple)  {x0 : Int32} {x1 : Int32}  {r : Int32} : ∀ (n : Nat) (x2 : Int32), GW_leastMultiple_9 x0 x1 n x2 = some r → WW E K 0 0 (QQ E K (fun rv g => rv = some (.int r) ∧ g = []) 0 0) 9 [(0, .int x0), (1, .int x1), (2, .int x2)] [] [] := by
  intro n
  induction n with
  | zero =>
    intro x2 hf
    simp [GW_leastMultiple_9] at hf
  | succ n ih =>
    intro x2 hf
    rw [GW_leastMultiple_9] at hf
    refine ww_iload_n C dX8_leastMultiple_9 rfl 2 rfl ?_
    refine ww_iload_n C dX8_leastMultiple_10 rfl 1 rfl ?_
    refine ww_icmp_ge (tgt := 32) C dX8_leastMultiple_11 (by decide) (fun c_2 => ?_) (fun c_2 => ?_)
    · replace hf := ifT c_2 hf
      refine ww_iload_n C dX8_leastMultiple_32 rfl 0 rfl ?_
      refine ww_iload_n C dX8_leastMultiple_33 rfl 1 rfl ?_
      refine ww_imul C dX8_leastMultiple_34 ?_
      obtain rfl := Option.some.inj hf
      exact ww_iret C ⟨rfl, rfl⟩ dX8_leastMultiple_35
    · replace hf := ifF c_2 hf
      refine ww_iload_n C dX8_leastMultiple_14 rfl 0 rfl ?_
      refine ww_iload_n C dX8_leastMultiple_15 rfl 2 rfl ?_
      refine ww_imul C dX8_leastMultiple_16 ?_
      refine ww_iload_n C dX8_leastMultiple_17 rfl 1 rfl ?_
      obtain ⟨g_3, hf⟩ := gdE hf
      refine ww_irem C dX8_leastMultiple_18 (nz_ne g_3) ?_
      refine ww_if_ne (tgt := 26) C dX8_leastMultiple_19 (by decide) (fun c_4 => ?_) (fun c_4 => ?_)
      · replace hf := ifF c_4 hf
        obtain ⟨x2_26, e_x2_26⟩ : ∃ y : Int32, y = x2 + 1 := ⟨_, rfl⟩
        replace hf := ltE e_x2_26 hf
        refine ww_iinc (v := x2_26) (lv' := [(2, .int x2_26), (0, .int x0), (1, .int x1)]) C dX8_leastMultiple_26 2 rfl (by rw [e_x2_26]; rfl) (by decide) rfl ?_
        refine ww_goto (tgt := 9) C dX8_leastMultiple_29 (by decide) ?_
        refine ww_sub C (lv' := [(0, .int x0), (1, .int x1), (2, .int x2_26)]) [1, 2, 0] rfl ?_
        exact ih _ hf
      · replace hf := ifT c_4 hf
        refine ww_iload_n C dX8_leastMultiple_22 rfl 0 rfl ?_
        refine ww_iload_n C dX8_leastMultiple_23 rfl 2 rfl ?_
        refine ww_imul C dX8_leastMultiple_24 ?_
        obtain rfl := Option.some.inj hf
        exact ww_iret C ⟨rfl, rfl⟩ dX8_leastMultiple_25

set_option maxHeartbeats 4000000 in
set_option maxRecDepth 100000 in
theorem c_X8_leastMultiple {E : Ex}  {x0 : Int32} {x1 : Int32} {r : Int32} (hf : GW_leastMultiple x0 x1 = some r) : Ct E yX8_leastMultiple wsX8_leastMultiple rmX8_leastMultiple [.int x0, .int x1] [] (fun rv g => rv = some (.int r) ∧ g = []) := by
  refine ct_of (own := RX8) (by decide +kernel) rfl rfl (Nat.le_of_ble_eq_true rfl) (fun K C => ?_)
  refine ww_sub C (lv' := [(0, .int x0), (1, .int x1)]) [0, 1] rfl ?_
  rw [GW_leastMultiple] at hf
  refine ww_iload_n C dX8_leastMultiple_0 rfl 1 rfl ?_
  refine ww_iconst (v := 1) C dX8_leastMultiple_1 (by decide) ?_
  refine ww_icmp_ge (tgt := 7) C dX8_leastMultiple_2 (by decide) (fun c_1 => ?_) (fun c_1 => ?_)
  · replace hf := ifT c_1 hf
    refine ww_iconst (v := 1) C dX8_leastMultiple_7 (by decide) ?_
    refine ww_istore_n (lv' := [(2, .int 1), (0, .int x0), (1, .int x1)]) C dX8_leastMultiple_8 rfl (by decide) rfl ?_
    refine ww_sub C (lv' := [(0, .int x0), (1, .int x1), (2, .int 1)]) [1, 2, 0] rfl ?_
    exact w_X8_leastMultiple_9 C FU _ hf
  · replace hf := ifF c_1 hf
    refine ww_iload_n C dX8_leastMultiple_5 rfl 0 rfl ?_
    obtain rfl := Option.some.inj hf
    exact ww_iret C ⟨rfl, rfl⟩ dX8_leastMultiple_6

theorem ysk_X8_leastMultiple : yX8_leastMultiple.cls ≠ "java/lang/invoke/MethodHandle" ∧ yX8_leastMultiple.cls ≠ "java/lang/invoke/VarHandle" ∧ (parseMethodDescriptor yX8_leastMultiple.desc).map (fun d => d.parameters.length) = some 2 := by decide +kernel
