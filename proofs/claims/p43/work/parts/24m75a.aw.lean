abbrev rmL_most : Room := { frames := 0, cells := 0, slots := 0, locals := 0 }
set_option maxHeartbeats 4000000 in
set_option maxRecDepth 100000 in
theorem c_L_most {E : Ex}  {x0 : Int32} {x1 : Int32} {r : Int32} (hf : L_most x0 x1 = some r) : Ct E yL_most wsL_most rmL_most [.int x0, .int x1] [] (fun rv g => rv = some (.int r) ∧ g = []) := by
  refine ct_of (own := RL) (by decide +kernel) rfl rfl (Nat.le_of_ble_eq_true rfl) (fun K C => ?_)
  refine ww_sub C (lv' := [(0, .int x0), (1, .int x1)]) [0, 1] rfl ?_
  rw [L_most] at hf
  refine ww_iload_n C dL_most_0 rfl 0 rfl ?_
  refine ww_ldc (v := 2147483647) C (by decide +kernel) dL_most_1 ?_
  refine ww_iand C dL_most_3 ?_
  refine ww_iload_n C dL_most_4 rfl 1 rfl ?_
  obtain ⟨g_1, hf⟩ := gdE hf
  refine ww_irem C dL_most_5 (nz_ne g_1) ?_
  obtain rfl := Option.some.inj hf
  exact ww_iret C ⟨rfl, rfl⟩ dL_most_6

theorem ysk_L_most : yL_most.cls ≠ "java/lang/invoke/MethodHandle" ∧ yL_most.cls ≠ "java/lang/invoke/VarHandle" ∧ (parseMethodDescriptor yL_most.desc).map (fun d => d.parameters.length) = some 2 := by decide +kernel
abbrev rmX9_open : Room := { frames := 0, cells := 0, slots := 0, locals := 0 }
set_option maxRecDepth 20000 in
theorem in_X9_open_X9 : ∀ w ∈ u_ws RX9 TX9 8, w ∈ wsX9_open := by decide +kernel
set_option maxHeartbeats 4000000 in
set_option maxRecDepth 100000 in
theorem w_X9_open_54 {E : Ex} {K : Kx} (C : Cx E K cX9_open 5 (some .int) RX9 wsX9_open rmX9_open) {a0 : Nat → Nat} {q1 : Nat} {a2 : Nat → Nat} {h0_1 h0_2 h0_3 : Nat} {x1 : Int32} {x2 : Int32} {v0 : OwnV} {v1 : Nat} {v2 : RowsT}   {x4 : Int32} {s0 : Int32} {k5 : Int32 → Int32 → Option Int32} {r : Int32} (hk5 : ∀  (x3 : Int32) (x4 : Int32), k5 x3 x4 = some r → WW E K 0 0 (QQ E K (fun rv g => rv = some (.int r) ∧ g = [wOwn E a0 (rf4 q1 h0_1 h0_2 h0_3) v0, wRO E q1 20 a2 v1, wRR E a2 v2]) 0 0) 5 [(0, .ref (a0 0)), (1, .int x1), (2, .int x2), (3, .int x3), (4, .int x4)] [] [wOwn E a0 (rf4 q1 h0_1 h0_2 h0_3) v0, wRO E q1 20 a2 v1, wRR E a2 v2]) (hf : Own_open_54 x1 x2 v0 v1 v2 k5 x4 s0 = some r) : WW E K 0 0 (QQ E K (fun rv g => rv = some (.int r) ∧ g = [wOwn E a0 (rf4 q1 h0_1 h0_2 h0_3) v0, wRO E q1 20 a2 v1, wRR E a2 v2]) 0 0) 54 [(0, .ref (a0 0)), (1, .int x1), (2, .int x2), (4, .int x4)] [.int s0] [wOwn E a0 (rf4 q1 h0_1 h0_2 h0_3) v0, wRO E q1 20 a2 v1, wRR E a2 v2] := by
  rw [Own_open_54] at hf
  refine ww_aload_n C dX9_open_54 rfl 0 rfl ?_
  refine ww_get C clOK9 in_X9_open_X9 (w := wOwn E a0 (rf4 q1 h0_1 h0_2 h0_3) v0) (fs := fsOwn a0 (rf4 q1 h0_1 h0_2 h0_3) v0) (v := .ref q1) 0 0 4 rfl q_Own (by decide) (by decide +kernel) g_Own_door dX9_open_55 ?_
  refine ww_iload C dX9_open_58 3 rfl ?_
  obtain ⟨g_13, hf⟩ := gdE hf
  obtain ⟨g_14, hf⟩ := gdE hf
  refine ww_aldR C (f := roF a2 v1) (w := wRO E q1 20 a2 v1) 1 0 rfl q_RO (inB_vp g_13) (roF_at (of_decide_eq_true g_14)) dX9_open_60 ?_
  refine ww_iconst (v := 0) C dX9_open_61 (by decide) ?_
  obtain ⟨g_15, hf⟩ := gdE hf
  obtain ⟨g_16, hf⟩ := gdE hf
  refine ww_iald C (f := v2.2.2 (Int32.toNatClampNeg x4)) (w := wRR E a2 v2) 2 (Int32.toNatClampNeg x4) rfl (q_RR (of_decide_eq_true g_15)) (inB_vp g_16) dX9_open_62 ?_
  refine ww_iload_n C dX9_open_63 rfl 2 rfl ?_
  refine ww_icmp_ne (tgt := 84) C dX9_open_64 (by decide) (fun c_17 => ?_) (fun c_17 => ?_)
  · replace hf := ifF c_17 hf
    refine ww_iconst (v := 0) C dX9_open_84 (by decide) ?_
    refine ww_iadd C dX9_open_85 ?_
    refine ww_topi (fun x3_86 e_x3_86 => ?_)
    replace hf := ltE e_x3_86 hf
    refine ww_istore_n (lv' := [(3, .int x3_86), (0, .ref (a0 0)), (1, .int x1), (2, .int x2), (4, .int x4)]) C dX9_open_86 rfl (by decide) rfl ?_
    obtain ⟨x4_87, e_x4_87⟩ : ∃ y : Int32, y = x4 + 1 := ⟨_, rfl⟩
    replace hf := ltE e_x4_87 hf
    refine ww_iinc (v := x4_87) (lv' := [(4, .int x4_87), (3, .int x3_86), (0, .ref (a0 0)), (1, .int x1), (2, .int x2)]) C dX9_open_87 4 rfl (by rw [e_x4_87]; rfl) (by decide) rfl ?_
    refine ww_goto (tgt := 5) C dX9_open_90 (by decide) ?_
    refine ww_sub C (lv' := [(0, .ref (a0 0)), (1, .int x1), (2, .int x2), (3, .int x3_86), (4, .int x4_87)]) [2, 3, 4, 1, 0] rfl ?_
    exact hk5 _ _ hf
  · replace hf := ifT c_17 hf
    refine ww_aload_n C dX9_open_67 rfl 0 rfl ?_
    refine ww_get C clOK9 in_X9_open_X9 (w := wOwn E a0 (rf4 q1 h0_1 h0_2 h0_3) v0) (fs := fsOwn a0 (rf4 q1 h0_1 h0_2 h0_3) v0) (v := .ref q1) 0 0 4 rfl q_Own (by decide) (by decide +kernel) g_Own_door dX9_open_68 ?_
    refine ww_iload C dX9_open_71 3 rfl ?_
    refine ww_aldR C (f := roF a2 v1) (w := wRO E q1 20 a2 v1) 1 0 rfl q_RO (inB_vp g_13) (roF_at (of_decide_eq_true g_14)) dX9_open_73 ?_
    refine ww_iconst (v := 1) C dX9_open_74 (by decide) ?_
    obtain ⟨g_19, hf⟩ := gdE hf
    refine ww_iald C (f := v2.2.2 (Int32.toNatClampNeg x4)) (w := wRR E a2 v2) 2 (Int32.toNatClampNeg x4) rfl (q_RR (of_decide_eq_true g_15)) (inB_vp g_19) dX9_open_75 ?_
    refine ww_iload_n C dX9_open_76 rfl 1 rfl ?_
    refine ww_icmp_ne (tgt := 84) C dX9_open_77 (by decide) (fun c_20 => ?_) (fun c_20 => ?_)
    · replace hf := ifF c_20 hf
      refine ww_iconst (v := 0) C dX9_open_84 (by decide) ?_
      refine ww_iadd C dX9_open_85 ?_
      refine ww_topi (fun x3_86 e_x3_86 => ?_)
      replace hf := ltE e_x3_86 hf
      refine ww_istore_n (lv' := [(3, .int x3_86), (0, .ref (a0 0)), (1, .int x1), (2, .int x2), (4, .int x4)]) C dX9_open_86 rfl (by decide) rfl ?_
      obtain ⟨x4_87, e_x4_87⟩ : ∃ y : Int32, y = x4 + 1 := ⟨_, rfl⟩
      replace hf := ltE e_x4_87 hf
      refine ww_iinc (v := x4_87) (lv' := [(4, .int x4_87), (3, .int x3_86), (0, .ref (a0 0)), (1, .int x1), (2, .int x2)]) C dX9_open_87 4 rfl (by rw [e_x4_87]; rfl) (by decide) rfl ?_
      refine ww_goto (tgt := 5) C dX9_open_90 (by decide) ?_
      refine ww_sub C (lv' := [(0, .ref (a0 0)), (1, .int x1), (2, .int x2), (3, .int x3_86), (4, .int x4_87)]) [2, 3, 4, 1, 0] rfl ?_
      exact hk5 _ _ hf
    · replace hf := ifT c_20 hf
      refine ww_iconst (v := 1) C dX9_open_80 (by decide) ?_
      refine ww_goto (tgt := 85) C dX9_open_81 (by decide) ?_
      refine ww_iadd C dX9_open_85 ?_
      refine ww_topi (fun x3_86 e_x3_86 => ?_)
      replace hf := ltE e_x3_86 hf
      refine ww_istore_n (lv' := [(3, .int x3_86), (0, .ref (a0 0)), (1, .int x1), (2, .int x2), (4, .int x4)]) C dX9_open_86 rfl (by decide) rfl ?_
      obtain ⟨x4_87, e_x4_87⟩ : ∃ y : Int32, y = x4 + 1 := ⟨_, rfl⟩
      replace hf := ltE e_x4_87 hf
      refine ww_iinc (v := x4_87) (lv' := [(4, .int x4_87), (3, .int x3_86), (0, .ref (a0 0)), (1, .int x1), (2, .int x2)]) C dX9_open_87 4 rfl (by rw [e_x4_87]; rfl) (by decide) rfl ?_
      refine ww_goto (tgt := 5) C dX9_open_90 (by decide) ?_
      refine ww_sub C (lv' := [(0, .ref (a0 0)), (1, .int x1), (2, .int x2), (3, .int x3_86), (4, .int x4_87)]) [2, 3, 4, 1, 0] rfl ?_
      exact hk5 _ _ hf

set_option maxHeartbeats 4000000 in
set_option maxRecDepth 100000 in
theorem w_X9_open_5 {E : Ex} {K : Kx} (C : Cx E K cX9_open 5 (some .int) RX9 wsX9_open rmX9_open) {a0 : Nat → Nat} {q1 : Nat} {a2 : Nat → Nat} {h0_1 h0_2 h0_3 : Nat} {x1 : Int32} {x2 : Int32} {v0 : OwnV} {v1 : Nat} {v2 : RowsT}  {r : Int32} : ∀ (n : Nat)  (x3 : Int32) (x4 : Int32), Own_open_5 x1 x2 v0 v1 v2 n x3 x4 = some r → WW E K 0 0 (QQ E K (fun rv g => rv = some (.int r) ∧ g = [wOwn E a0 (rf4 q1 h0_1 h0_2 h0_3) v0, wRO E q1 20 a2 v1, wRR E a2 v2]) 0 0) 5 [(0, .ref (a0 0)), (1, .int x1), (2, .int x2), (3, .int x3), (4, .int x4)] [] [wOwn E a0 (rf4 q1 h0_1 h0_2 h0_3) v0, wRO E q1 20 a2 v1, wRR E a2 v2] := by
  intro n
  induction n with
  | zero =>
    intro  x3 x4 hf
    simp [Own_open_5] at hf
  | succ n ih =>
    intro  x3 x4 hf
    rw [Own_open_5] at hf
    refine ww_iload C dX9_open_5 4 rfl ?_
    refine ww_aload_n C dX9_open_7 rfl 0 rfl ?_
    refine ww_get C clOK9 in_X9_open_X9 (w := wOwn E a0 (rf4 q1 h0_1 h0_2 h0_3) v0) (fs := fsOwn a0 (rf4 q1 h0_1 h0_2 h0_3) v0) (v := .int (Own_doors v0)) 0 0 1 rfl q_Own (by decide) (by decide +kernel) g_Own_doors dX9_open_8 ?_
    refine ww_icmp_ge (tgt := 93) C dX9_open_11 (by decide) (fun c_1 => ?_) (fun c_1 => ?_)
    · replace hf := ifT c_1 hf
      refine ww_iload_n C dX9_open_93 rfl 3 rfl ?_
      obtain rfl := Option.some.inj hf
      exact ww_iret C ⟨rfl, rfl⟩ dX9_open_94
    · replace hf := ifF c_1 hf
      refine ww_iload_n C dX9_open_14 rfl 3 rfl ?_
      refine ww_aload_n C dX9_open_15 rfl 0 rfl ?_
      refine ww_get C clOK9 in_X9_open_X9 (w := wOwn E a0 (rf4 q1 h0_1 h0_2 h0_3) v0) (fs := fsOwn a0 (rf4 q1 h0_1 h0_2 h0_3) v0) (v := .ref q1) 0 0 4 rfl q_Own (by decide) (by decide +kernel) g_Own_door dX9_open_16 ?_
      refine ww_iload C dX9_open_19 4 rfl ?_
      obtain ⟨g_2, hf⟩ := gdE hf
      obtain ⟨g_3, hf⟩ := gdE hf
      refine ww_aldR C (f := roF a2 v1) (w := wRO E q1 20 a2 v1) 1 0 rfl q_RO (inB_vp g_2) (roF_at (of_decide_eq_true g_3)) dX9_open_21 ?_
      refine ww_iconst (v := 2) C dX9_open_22 (by decide) ?_
      obtain ⟨g_4, hf⟩ := gdE hf
      obtain ⟨g_5, hf⟩ := gdE hf
      refine ww_iald C (f := v2.2.2 (Int32.toNatClampNeg x4)) (w := wRR E a2 v2) 2 (Int32.toNatClampNeg x4) rfl (q_RR (of_decide_eq_true g_4)) (inB_vp g_5) dX9_open_23 ?_
      refine ww_iconst (v := 1) C dX9_open_24 (by decide) ?_
      refine ww_icmp_ne (tgt := 84) C dX9_open_25 (by decide) (fun c_6 => ?_) (fun c_6 => ?_)
      · replace hf := ifF c_6 hf
        refine ww_iconst (v := 0) C dX9_open_84 (by decide) ?_
        refine ww_iadd C dX9_open_85 ?_
        refine ww_topi (fun x3_86 e_x3_86 => ?_)
        replace hf := ltE e_x3_86 hf
        refine ww_istore_n (lv' := [(3, .int x3_86), (0, .ref (a0 0)), (1, .int x1), (2, .int x2), (4, .int x4)]) C dX9_open_86 rfl (by decide) rfl ?_
        obtain ⟨x4_87, e_x4_87⟩ : ∃ y : Int32, y = x4 + 1 := ⟨_, rfl⟩
        replace hf := ltE e_x4_87 hf
        refine ww_iinc (v := x4_87) (lv' := [(4, .int x4_87), (3, .int x3_86), (0, .ref (a0 0)), (1, .int x1), (2, .int x2)]) C dX9_open_87 4 rfl (by rw [e_x4_87]; rfl) (by decide) rfl ?_
        refine ww_goto (tgt := 5) C dX9_open_90 (by decide) ?_
        refine ww_sub C (lv' := [(0, .ref (a0 0)), (1, .int x1), (2, .int x2), (3, .int x3_86), (4, .int x4_87)]) [2, 3, 4, 1, 0] rfl ?_
        exact ih _ _ hf
      · replace hf := ifT c_6 hf
        refine ww_aload_n C dX9_open_28 rfl 0 rfl ?_
        refine ww_get C clOK9 in_X9_open_X9 (w := wOwn E a0 (rf4 q1 h0_1 h0_2 h0_3) v0) (fs := fsOwn a0 (rf4 q1 h0_1 h0_2 h0_3) v0) (v := .ref q1) 0 0 4 rfl q_Own (by decide) (by decide +kernel) g_Own_door dX9_open_29 ?_
        refine ww_iload C dX9_open_32 4 rfl ?_
        refine ww_aldR C (f := roF a2 v1) (w := wRO E q1 20 a2 v1) 1 0 rfl q_RO (inB_vp g_2) (roF_at (of_decide_eq_true g_3)) dX9_open_34 ?_
        refine ww_iconst (v := 0) C dX9_open_35 (by decide) ?_
        obtain ⟨g_8, hf⟩ := gdE hf
        refine ww_iald C (f := v2.2.2 (Int32.toNatClampNeg x4)) (w := wRR E a2 v2) 2 (Int32.toNatClampNeg x4) rfl (q_RR (of_decide_eq_true g_4)) (inB_vp g_8) dX9_open_36 ?_
        refine ww_iload_n C dX9_open_37 rfl 1 rfl ?_
        refine ww_icmp_ne (tgt := 54) C dX9_open_38 (by decide) (fun c_9 => ?_) (fun c_9 => ?_)
        · replace hf := ifF c_9 hf
          refine ww_sub C (lv' := [(0, .ref (a0 0)), (1, .int x1), (2, .int x2), (4, .int x4)]) [0, 1, 2, 4] rfl ?_
          exact w_X9_open_54 C (k5 := (fun (x3 : Int32) (x4 : Int32) => Own_open_5 x1 x2 v0 v1 v2 n x3 x4)) ih hf
        · replace hf := ifT c_9 hf
          refine ww_aload_n C dX9_open_41 rfl 0 rfl ?_
          refine ww_get C clOK9 in_X9_open_X9 (w := wOwn E a0 (rf4 q1 h0_1 h0_2 h0_3) v0) (fs := fsOwn a0 (rf4 q1 h0_1 h0_2 h0_3) v0) (v := .ref q1) 0 0 4 rfl q_Own (by decide) (by decide +kernel) g_Own_door dX9_open_42 ?_
          refine ww_iload C dX9_open_45 4 rfl ?_
          refine ww_aldR C (f := roF a2 v1) (w := wRO E q1 20 a2 v1) 1 0 rfl q_RO (inB_vp g_2) (roF_at (of_decide_eq_true g_3)) dX9_open_47 ?_
          refine ww_iconst (v := 1) C dX9_open_48 (by decide) ?_
          obtain ⟨g_10, hf⟩ := gdE hf
          refine ww_iald C (f := v2.2.2 (Int32.toNatClampNeg x4)) (w := wRR E a2 v2) 2 (Int32.toNatClampNeg x4) rfl (q_RR (of_decide_eq_true g_4)) (inB_vp g_10) dX9_open_49 ?_
          refine ww_iload_n C dX9_open_50 rfl 2 rfl ?_
          refine ww_icmp_eq (tgt := 80) C dX9_open_51 (by decide) (fun c_11 => ?_) (fun c_11 => ?_)
          · replace hf := ifT c_11 hf
            refine ww_iconst (v := 1) C dX9_open_80 (by decide) ?_
            refine ww_goto (tgt := 85) C dX9_open_81 (by decide) ?_
            refine ww_iadd C dX9_open_85 ?_
            refine ww_topi (fun x3_86 e_x3_86 => ?_)
            replace hf := ltE e_x3_86 hf
            refine ww_istore_n (lv' := [(3, .int x3_86), (0, .ref (a0 0)), (1, .int x1), (2, .int x2), (4, .int x4)]) C dX9_open_86 rfl (by decide) rfl ?_
            obtain ⟨x4_87, e_x4_87⟩ : ∃ y : Int32, y = x4 + 1 := ⟨_, rfl⟩
            replace hf := ltE e_x4_87 hf
            refine ww_iinc (v := x4_87) (lv' := [(4, .int x4_87), (3, .int x3_86), (0, .ref (a0 0)), (1, .int x1), (2, .int x2)]) C dX9_open_87 4 rfl (by rw [e_x4_87]; rfl) (by decide) rfl ?_
            refine ww_goto (tgt := 5) C dX9_open_90 (by decide) ?_
            refine ww_sub C (lv' := [(0, .ref (a0 0)), (1, .int x1), (2, .int x2), (3, .int x3_86), (4, .int x4_87)]) [2, 3, 4, 1, 0] rfl ?_
            exact ih _ _ hf
          · replace hf := ifF c_11 hf
            refine ww_sub C (lv' := [(0, .ref (a0 0)), (1, .int x1), (2, .int x2), (4, .int x4)]) [0, 1, 2, 4] rfl ?_
            exact w_X9_open_54 C (k5 := (fun (x3 : Int32) (x4 : Int32) => Own_open_5 x1 x2 v0 v1 v2 n x3 x4)) ih hf

set_option maxHeartbeats 4000000 in
set_option maxRecDepth 100000 in
theorem c_X9_open {E : Ex} {a0 : Nat → Nat} {q1 : Nat} {a2 : Nat → Nat} {h0_1 h0_2 h0_3 : Nat} {x1 : Int32} {x2 : Int32} {v0 : OwnV} {v1 : Nat} {v2 : RowsT} {r : Int32} (hf : Own_open x1 x2 v0 v1 v2 = some r) : Ct E yX9_open wsX9_open rmX9_open [.ref (a0 0), .int x1, .int x2] [wOwn E a0 (rf4 q1 h0_1 h0_2 h0_3) v0, wRO E q1 20 a2 v1, wRR E a2 v2] (fun rv g => rv = some (.int r) ∧ g = [wOwn E a0 (rf4 q1 h0_1 h0_2 h0_3) v0, wRO E q1 20 a2 v1, wRR E a2 v2]) := by
  refine ct_of (own := RX9) (by decide +kernel) rfl rfl (Nat.le_of_ble_eq_true rfl) (fun K C => ?_)
  refine ww_sub C (lv' := [(0, .ref (a0 0)), (1, .int x1), (2, .int x2)]) [0, 1, 2] rfl ?_
  rw [Own_open] at hf
  refine ww_iconst (v := 0) C dX9_open_0 (by decide) ?_
  refine ww_istore_n (lv' := [(3, .int 0), (0, .ref (a0 0)), (1, .int x1), (2, .int x2)]) C dX9_open_1 rfl (by decide) rfl ?_
  refine ww_iconst (v := 0) C dX9_open_2 (by decide) ?_
  refine ww_istore (lv' := [(4, .int 0), (3, .int 0), (0, .ref (a0 0)), (1, .int x1), (2, .int x2)]) C dX9_open_3 (by decide) rfl ?_
  refine ww_sub C (lv' := [(0, .ref (a0 0)), (1, .int x1), (2, .int x2), (3, .int 0), (4, .int 0)]) [2, 3, 4, 1, 0] rfl ?_
  exact w_X9_open_5 C FU _ _ hf

theorem yk_X9_open : yX9_open.cls = RX9 ∧ yX9_open.cls ≠ "java/lang/invoke/MethodHandle" ∧ yX9_open.cls ≠ "java/lang/invoke/VarHandle" ∧ (parseMethodDescriptor yX9_open.desc).map (fun d => d.parameters.length) = some 2 := by decide +kernel
abbrev rmX9_opens : Room := { frames := 0, cells := 0, slots := 0, locals := 0 }
set_option maxRecDepth 20000 in
theorem in_X9_opens_X9 : ∀ w ∈ u_ws RX9 TX9 8, w ∈ wsX9_opens := by decide +kernel
set_option maxHeartbeats 4000000 in
set_option maxRecDepth 100000 in
theorem w_X9_opens_41 {E : Ex} {K : Kx} (C : Cx E K cX9_opens 4 (some .int) RX9 wsX9_opens rmX9_opens) {a0 : Nat → Nat} {q1 : Nat} {a2 : Nat → Nat} {h0_1 h0_2 h0_3 : Nat} {x1 : Int32} {v0 : OwnV} {v1 : Nat} {v2 : RowsT}   {x3 : Int32} {s0 : Int32} {k4 : Int32 → Int32 → Option Int32} {r : Int32} (hk4 : ∀  (x2 : Int32) (x3 : Int32), k4 x2 x3 = some r → WW E K 0 0 (QQ E K (fun rv g => rv = some (.int r) ∧ g = [wOwn E a0 (rf4 q1 h0_1 h0_2 h0_3) v0, wRO E q1 20 a2 v1, wRR E a2 v2]) 0 0) 4 [(0, .ref (a0 0)), (1, .int x1), (2, .int x2), (3, .int x3)] [] [wOwn E a0 (rf4 q1 h0_1 h0_2 h0_3) v0, wRO E q1 20 a2 v1, wRR E a2 v2]) (hf : Own_opens_41 x1 v0 v1 v2 k4 x3 s0 = some r) : WW E K 0 0 (QQ E K (fun rv g => rv = some (.int r) ∧ g = [wOwn E a0 (rf4 q1 h0_1 h0_2 h0_3) v0, wRO E q1 20 a2 v1, wRR E a2 v2]) 0 0) 41 [(0, .ref (a0 0)), (1, .int x1), (3, .int x3)] [.int s0] [wOwn E a0 (rf4 q1 h0_1 h0_2 h0_3) v0, wRO E q1 20 a2 v1, wRR E a2 v2] := by
  rw [Own_opens_41] at hf
  refine ww_aload_n C dX9_opens_41 rfl 0 rfl ?_
  refine ww_get C clOK9 in_X9_opens_X9 (w := wOwn E a0 (rf4 q1 h0_1 h0_2 h0_3) v0) (fs := fsOwn a0 (rf4 q1 h0_1 h0_2 h0_3) v0) (v := .ref q1) 0 0 4 rfl q_Own (by decide) (by decide +kernel) g_Own_door dX9_opens_42 ?_
  refine ww_iload_n C dX9_opens_45 rfl 2 rfl ?_
  obtain ⟨g_11, hf⟩ := gdE hf
  obtain ⟨g_12, hf⟩ := gdE hf
  refine ww_aldR C (f := roF a2 v1) (w := wRO E q1 20 a2 v1) 1 0 rfl q_RO (inB_vp g_11) (roF_at (of_decide_eq_true g_12)) dX9_opens_46 ?_
  refine ww_iconst (v := 2) C dX9_opens_47 (by decide) ?_
  obtain ⟨g_13, hf⟩ := gdE hf
  obtain ⟨g_14, hf⟩ := gdE hf
  refine ww_iald C (f := v2.2.2 (Int32.toNatClampNeg x3)) (w := wRR E a2 v2) 2 (Int32.toNatClampNeg x3) rfl (q_RR (of_decide_eq_true g_13)) (inB_vp g_14) dX9_opens_48 ?_
  refine ww_goto (tgt := 53) C dX9_opens_49 (by decide) ?_
  refine ww_iadd C dX9_opens_53 ?_
  refine ww_topi (fun x2_54 e_x2_54 => ?_)
  replace hf := ltE e_x2_54 hf
  refine ww_istore_n (lv' := [(2, .int x2_54), (0, .ref (a0 0)), (1, .int x1), (3, .int x3)]) C dX9_opens_54 rfl (by decide) rfl ?_
  obtain ⟨x3_55, e_x3_55⟩ : ∃ y : Int32, y = x3 + 1 := ⟨_, rfl⟩
  replace hf := ltE e_x3_55 hf
  refine ww_iinc (v := x3_55) (lv' := [(3, .int x3_55), (2, .int x2_54), (0, .ref (a0 0)), (1, .int x1)]) C dX9_opens_55 3 rfl (by rw [e_x3_55]; rfl) (by decide) rfl ?_
  refine ww_goto (tgt := 4) C dX9_opens_58 (by decide) ?_
  refine ww_sub C (lv' := [(0, .ref (a0 0)), (1, .int x1), (2, .int x2_54), (3, .int x3_55)]) [2, 3, 1, 0] rfl ?_
  exact hk4 _ _ hf

set_option maxHeartbeats 4000000 in
set_option maxRecDepth 100000 in
theorem w_X9_opens_4 {E : Ex} {K : Kx} (C : Cx E K cX9_opens 4 (some .int) RX9 wsX9_opens rmX9_opens) {a0 : Nat → Nat} {q1 : Nat} {a2 : Nat → Nat} {h0_1 h0_2 h0_3 : Nat} {x1 : Int32} {v0 : OwnV} {v1 : Nat} {v2 : RowsT}  {r : Int32} : ∀ (n : Nat)  (x2 : Int32) (x3 : Int32), Own_opens_4 x1 v0 v1 v2 n x2 x3 = some r → WW E K 0 0 (QQ E K (fun rv g => rv = some (.int r) ∧ g = [wOwn E a0 (rf4 q1 h0_1 h0_2 h0_3) v0, wRO E q1 20 a2 v1, wRR E a2 v2]) 0 0) 4 [(0, .ref (a0 0)), (1, .int x1), (2, .int x2), (3, .int x3)] [] [wOwn E a0 (rf4 q1 h0_1 h0_2 h0_3) v0, wRO E q1 20 a2 v1, wRR E a2 v2] := by
  intro n
  induction n with
  | zero =>
    intro  x2 x3 hf
    simp [Own_opens_4] at hf
  | succ n ih =>
    intro  x2 x3 hf
    rw [Own_opens_4] at hf
    refine ww_iload_n C dX9_opens_4 rfl 3 rfl ?_
    refine ww_aload_n C dX9_opens_5 rfl 0 rfl ?_
    refine ww_get C clOK9 in_X9_opens_X9 (w := wOwn E a0 (rf4 q1 h0_1 h0_2 h0_3) v0) (fs := fsOwn a0 (rf4 q1 h0_1 h0_2 h0_3) v0) (v := .int (Own_doors v0)) 0 0 1 rfl q_Own (by decide) (by decide +kernel) g_Own_doors dX9_opens_6 ?_
    refine ww_icmp_ge (tgt := 61) C dX9_opens_9 (by decide) (fun c_1 => ?_) (fun c_1 => ?_)
    · replace hf := ifT c_1 hf
      refine ww_iload_n C dX9_opens_61 rfl 2 rfl ?_
      obtain rfl := Option.some.inj hf
      exact ww_iret C ⟨rfl, rfl⟩ dX9_opens_62
    · replace hf := ifF c_1 hf
      refine ww_iload_n C dX9_opens_12 rfl 2 rfl ?_
      refine ww_iload_n C dX9_opens_13 rfl 1 rfl ?_
      refine ww_if_lt (tgt := 41) C dX9_opens_14 (by decide) (fun c_2 => ?_) (fun c_2 => ?_)
      · replace hf := ifT c_2 hf
        refine ww_sub C (lv' := [(0, .ref (a0 0)), (1, .int x1), (3, .int x3)]) [0, 1, 3] rfl ?_
        exact w_X9_opens_41 C (k4 := (fun (x2 : Int32) (x3 : Int32) => Own_opens_4 x1 v0 v1 v2 n x2 x3)) ih hf
      · replace hf := ifF c_2 hf
        refine ww_aload_n C dX9_opens_17 rfl 0 rfl ?_
        refine ww_get C clOK9 in_X9_opens_X9 (w := wOwn E a0 (rf4 q1 h0_1 h0_2 h0_3) v0) (fs := fsOwn a0 (rf4 q1 h0_1 h0_2 h0_3) v0) (v := .ref q1) 0 0 4 rfl q_Own (by decide) (by decide +kernel) g_Own_door dX9_opens_18 ?_
        refine ww_iload_n C dX9_opens_21 rfl 3 rfl ?_
        obtain ⟨g_3, hf⟩ := gdE hf
        obtain ⟨g_4, hf⟩ := gdE hf
        refine ww_aldR C (f := roF a2 v1) (w := wRO E q1 20 a2 v1) 1 0 rfl q_RO (inB_vp g_3) (roF_at (of_decide_eq_true g_4)) dX9_opens_22 ?_
        refine ww_iconst (v := 0) C dX9_opens_23 (by decide) ?_
        obtain ⟨g_5, hf⟩ := gdE hf
        obtain ⟨g_6, hf⟩ := gdE hf
        refine ww_iald C (f := v2.2.2 (Int32.toNatClampNeg x3)) (w := wRR E a2 v2) 2 (Int32.toNatClampNeg x3) rfl (q_RR (of_decide_eq_true g_5)) (inB_vp g_6) dX9_opens_24 ?_
        refine ww_iload_n C dX9_opens_25 rfl 1 rfl ?_
        refine ww_icmp_eq (tgt := 41) C dX9_opens_26 (by decide) (fun c_7 => ?_) (fun c_7 => ?_)
        · replace hf := ifT c_7 hf
          refine ww_sub C (lv' := [(0, .ref (a0 0)), (1, .int x1), (3, .int x3)]) [0, 1, 3] rfl ?_
          exact w_X9_opens_41 C (k4 := (fun (x2 : Int32) (x3 : Int32) => Own_opens_4 x1 v0 v1 v2 n x2 x3)) ih hf
        · replace hf := ifF c_7 hf
          refine ww_aload_n C dX9_opens_29 rfl 0 rfl ?_
          refine ww_get C clOK9 in_X9_opens_X9 (w := wOwn E a0 (rf4 q1 h0_1 h0_2 h0_3) v0) (fs := fsOwn a0 (rf4 q1 h0_1 h0_2 h0_3) v0) (v := .ref q1) 0 0 4 rfl q_Own (by decide) (by decide +kernel) g_Own_door dX9_opens_30 ?_
          refine ww_iload_n C dX9_opens_33 rfl 3 rfl ?_
          refine ww_aldR C (f := roF a2 v1) (w := wRO E q1 20 a2 v1) 1 0 rfl q_RO (inB_vp g_3) (roF_at (of_decide_eq_true g_4)) dX9_opens_34 ?_
          refine ww_iconst (v := 1) C dX9_opens_35 (by decide) ?_
          obtain ⟨g_8, hf⟩ := gdE hf
          refine ww_iald C (f := v2.2.2 (Int32.toNatClampNeg x3)) (w := wRR E a2 v2) 2 (Int32.toNatClampNeg x3) rfl (q_RR (of_decide_eq_true g_5)) (inB_vp g_8) dX9_opens_36 ?_
          refine ww_iload_n C dX9_opens_37 rfl 1 rfl ?_
          refine ww_icmp_ne (tgt := 52) C dX9_opens_38 (by decide) (fun c_9 => ?_) (fun c_9 => ?_)
          · replace hf := ifF c_9 hf
            refine ww_iconst (v := 0) C dX9_opens_52 (by decide) ?_
            refine ww_iadd C dX9_opens_53 ?_
            refine ww_topi (fun x2_54 e_x2_54 => ?_)
            replace hf := ltE e_x2_54 hf
            refine ww_istore_n (lv' := [(2, .int x2_54), (0, .ref (a0 0)), (1, .int x1), (3, .int x3)]) C dX9_opens_54 rfl (by decide) rfl ?_
            obtain ⟨x3_55, e_x3_55⟩ : ∃ y : Int32, y = x3 + 1 := ⟨_, rfl⟩
            replace hf := ltE e_x3_55 hf
            refine ww_iinc (v := x3_55) (lv' := [(3, .int x3_55), (2, .int x2_54), (0, .ref (a0 0)), (1, .int x1)]) C dX9_opens_55 3 rfl (by rw [e_x3_55]; rfl) (by decide) rfl ?_
            refine ww_goto (tgt := 4) C dX9_opens_58 (by decide) ?_
            refine ww_sub C (lv' := [(0, .ref (a0 0)), (1, .int x1), (2, .int x2_54), (3, .int x3_55)]) [2, 3, 1, 0] rfl ?_
            exact ih _ _ hf
          · replace hf := ifT c_9 hf
            refine ww_sub C (lv' := [(0, .ref (a0 0)), (1, .int x1), (3, .int x3)]) [0, 1, 3] rfl ?_
            exact w_X9_opens_41 C (k4 := (fun (x2 : Int32) (x3 : Int32) => Own_opens_4 x1 v0 v1 v2 n x2 x3)) ih hf

set_option maxHeartbeats 4000000 in
set_option maxRecDepth 100000 in
theorem c_X9_opens {E : Ex} {a0 : Nat → Nat} {q1 : Nat} {a2 : Nat → Nat} {h0_1 h0_2 h0_3 : Nat} {x1 : Int32} {v0 : OwnV} {v1 : Nat} {v2 : RowsT} {r : Int32} (hf : Own_opens x1 v0 v1 v2 = some r) : Ct E yX9_opens wsX9_opens rmX9_opens [.ref (a0 0), .int x1] [wOwn E a0 (rf4 q1 h0_1 h0_2 h0_3) v0, wRO E q1 20 a2 v1, wRR E a2 v2] (fun rv g => rv = some (.int r) ∧ g = [wOwn E a0 (rf4 q1 h0_1 h0_2 h0_3) v0, wRO E q1 20 a2 v1, wRR E a2 v2]) := by
  refine ct_of (own := RX9) (by decide +kernel) rfl rfl (Nat.le_of_ble_eq_true rfl) (fun K C => ?_)
  refine ww_sub C (lv' := [(0, .ref (a0 0)), (1, .int x1)]) [0, 1] rfl ?_
  rw [Own_opens] at hf
  refine ww_iconst (v := 0) C dX9_opens_0 (by decide) ?_
  refine ww_istore_n (lv' := [(2, .int 0), (0, .ref (a0 0)), (1, .int x1)]) C dX9_opens_1 rfl (by decide) rfl ?_
  refine ww_iconst (v := 0) C dX9_opens_2 (by decide) ?_
  refine ww_istore_n (lv' := [(3, .int 0), (2, .int 0), (0, .ref (a0 0)), (1, .int x1)]) C dX9_opens_3 rfl (by decide) rfl ?_
  refine ww_sub C (lv' := [(0, .ref (a0 0)), (1, .int x1), (2, .int 0), (3, .int 0)]) [2, 3, 1, 0] rfl ?_
  exact w_X9_opens_4 C FU _ _ hf

theorem yk_X9_opens : yX9_opens.cls = RX9 ∧ yX9_opens.cls ≠ "java/lang/invoke/MethodHandle" ∧ yX9_opens.cls ≠ "java/lang/invoke/VarHandle" ∧ (parseMethodDescriptor yX9_opens.desc).map (fun d => d.parameters.length) = some 1 := by decide +kernel
abbrev rmX9_cycle : Room := { frames := 0, cells := 0, slots := 0, locals := 0 }
set_option maxRecDepth 20000 in
theorem in_X9_cycle_X9 : ∀ w ∈ u_ws RX9 TX9 8, w ∈ wsX9_cycle := by decide +kernel
set_option maxHeartbeats 4000000 in
set_option maxRecDepth 100000 in
theorem w_X9_cycle_6 {E : Ex} {K : Kx} (C : Cx E K cX9_cycle 4 (some .int) RX9 wsX9_cycle rmX9_cycle) {a0 : Nat → Nat} {q1 : Nat} {a2 : Nat → Nat} {h0_0 h0_1 h0_3 : Nat} {v0 : OwnV} {v1 : Nat} {v2 : RowsT} {x1 : Int32} {k2 : Int32 → Option Int32} {r : Int32} (hk2 : ∀  (x1 : Int32), k2 x1 = some r → WW E K 0 0 (QQ E K (fun rv g => rv = some (.int r) ∧ g = [wOwn E a0 (rf4 h0_0 h0_1 q1 h0_3) v0, wRO E q1 4 a2 v1, wRR E a2 v2]) 0 0) 2 [(0, .ref (a0 0)), (1, .int x1)] [] [wOwn E a0 (rf4 h0_0 h0_1 q1 h0_3) v0, wRO E q1 4 a2 v1, wRR E a2 v2]) : ∀ (n : Nat)  (x2 : Int32) (x3 : Int32), Own_cycle_6 v0 v1 v2 x1 k2 n x2 x3 = some r → WW E K 0 0 (QQ E K (fun rv g => rv = some (.int r) ∧ g = [wOwn E a0 (rf4 h0_0 h0_1 q1 h0_3) v0, wRO E q1 4 a2 v1, wRR E a2 v2]) 0 0) 6 [(0, .ref (a0 0)), (1, .int x1), (2, .int x2), (3, .int x3)] [] [wOwn E a0 (rf4 h0_0 h0_1 q1 h0_3) v0, wRO E q1 4 a2 v1, wRR E a2 v2] := by
  intro n
  induction n with
  | zero =>
    intro  x2 x3 hf
    simp [Own_cycle_6] at hf
  | succ n ih =>
    intro  x2 x3 hf
    rw [Own_cycle_6] at hf
    refine ww_iload_n C dX9_cycle_6 rfl 3 rfl ?_
    refine ww_aload_n C dX9_cycle_7 rfl 0 rfl ?_
    refine ww_get C clOK9 in_X9_cycle_X9 (w := wOwn E a0 (rf4 h0_0 h0_1 q1 h0_3) v0) (fs := fsOwn a0 (rf4 h0_0 h0_1 q1 h0_3) v0) (v := .int (Own_guards v0)) 0 0 2 rfl q_Own (by decide) (by decide +kernel) g_Own_guards dX9_cycle_8 ?_
    refine ww_icmp_ge (tgt := 40) C dX9_cycle_11 (by decide) (fun c_1 => ?_) (fun c_1 => ?_)
    · replace hf := ifT c_1 hf
      refine ww_iload_n C dX9_cycle_40 rfl 2 rfl ?_
      refine ww_if_eq (tgt := 46) C dX9_cycle_41 (by decide) (fun c_2 => ?_) (fun c_2 => ?_)
      · replace hf := ifT c_2 hf
        obtain ⟨x1_46, e_x1_46⟩ : ∃ y : Int32, y = x1 + 1 := ⟨_, rfl⟩
        replace hf := ltE e_x1_46 hf
        refine ww_iinc (v := x1_46) (lv' := [(1, .int x1_46), (0, .ref (a0 0)), (2, .int x2), (3, .int x3)]) C dX9_cycle_46 1 rfl (by rw [e_x1_46]; rfl) (by decide) rfl ?_
        refine ww_goto (tgt := 2) C dX9_cycle_49 (by decide) ?_
        refine ww_sub C (lv' := [(0, .ref (a0 0)), (1, .int x1_46)]) [1, 0] rfl ?_
        exact hk2 _ hf
      · replace hf := ifF c_2 hf
        refine ww_iload_n C dX9_cycle_44 rfl 1 rfl ?_
        obtain rfl := Option.some.inj hf
        exact ww_iret C ⟨rfl, rfl⟩ dX9_cycle_45
    · replace hf := ifF c_1 hf
      refine ww_iload_n C dX9_cycle_14 rfl 2 rfl ?_
      refine ww_iload_n C dX9_cycle_15 rfl 1 rfl ?_
      refine ww_aload_n C dX9_cycle_16 rfl 0 rfl ?_
      refine ww_get C clOK9 in_X9_cycle_X9 (w := wOwn E a0 (rf4 h0_0 h0_1 q1 h0_3) v0) (fs := fsOwn a0 (rf4 h0_0 h0_1 q1 h0_3) v0) (v := .ref q1) 0 0 6 rfl q_Own (by decide) (by decide +kernel) g_Own_walk dX9_cycle_17 ?_
      refine ww_iload_n C dX9_cycle_20 rfl 3 rfl ?_
      obtain ⟨g_3, hf⟩ := gdE hf
      obtain ⟨g_4, hf⟩ := gdE hf
      refine ww_aldR C (f := roF a2 v1) (w := wRO E q1 4 a2 v1) 1 0 rfl q_RO (inB_vp g_3) (roF_at (of_decide_eq_true g_4)) dX9_cycle_21 ?_
      obtain ⟨g_5, hf⟩ := gdE hf
      refine ww_alen C (v := nI (v2.2.1 (Int32.toNatClampNeg x3))) (w := wRR E a2 v2) 2 (Int32.toNatClampNeg x3) rfl (q_RR (of_decide_eq_true g_5)) rfl dX9_cycle_22 ?_
      obtain ⟨g_6, hf⟩ := gdE hf
      refine ww_irem C dX9_cycle_23 (nz_ne g_6) ?_
      refine ww_if_ne (tgt := 31) C dX9_cycle_24 (by decide) (fun c_7 => ?_) (fun c_7 => ?_)
      · replace hf := ifF c_7 hf
        refine ww_iconst (v := 0) C dX9_cycle_31 (by decide) ?_
        refine ww_iand C dX9_cycle_32 ?_
        refine ww_topi (fun x2_33 e_x2_33 => ?_)
        replace hf := ltE e_x2_33 hf
        refine ww_istore_n (lv' := [(2, .int x2_33), (0, .ref (a0 0)), (1, .int x1), (3, .int x3)]) C dX9_cycle_33 rfl (by decide) rfl ?_
        obtain ⟨x3_34, e_x3_34⟩ : ∃ y : Int32, y = x3 + 1 := ⟨_, rfl⟩
        replace hf := ltE e_x3_34 hf
        refine ww_iinc (v := x3_34) (lv' := [(3, .int x3_34), (2, .int x2_33), (0, .ref (a0 0)), (1, .int x1)]) C dX9_cycle_34 3 rfl (by rw [e_x3_34]; rfl) (by decide) rfl ?_
        refine ww_goto (tgt := 6) C dX9_cycle_37 (by decide) ?_
        refine ww_sub C (lv' := [(0, .ref (a0 0)), (1, .int x1), (2, .int x2_33), (3, .int x3_34)]) [2, 3, 1, 0] rfl ?_
        exact ih _ _ hf
      · replace hf := ifT c_7 hf
        refine ww_iconst (v := 1) C dX9_cycle_27 (by decide) ?_
        refine ww_goto (tgt := 32) C dX9_cycle_28 (by decide) ?_
        refine ww_iand C dX9_cycle_32 ?_
        refine ww_topi (fun x2_33 e_x2_33 => ?_)
        replace hf := ltE e_x2_33 hf
        refine ww_istore_n (lv' := [(2, .int x2_33), (0, .ref (a0 0)), (1, .int x1), (3, .int x3)]) C dX9_cycle_33 rfl (by decide) rfl ?_
        obtain ⟨x3_34, e_x3_34⟩ : ∃ y : Int32, y = x3 + 1 := ⟨_, rfl⟩
        replace hf := ltE e_x3_34 hf
        refine ww_iinc (v := x3_34) (lv' := [(3, .int x3_34), (2, .int x2_33), (0, .ref (a0 0)), (1, .int x1)]) C dX9_cycle_34 3 rfl (by rw [e_x3_34]; rfl) (by decide) rfl ?_
        refine ww_goto (tgt := 6) C dX9_cycle_37 (by decide) ?_
        refine ww_sub C (lv' := [(0, .ref (a0 0)), (1, .int x1), (2, .int x2_33), (3, .int x3_34)]) [2, 3, 1, 0] rfl ?_
        exact ih _ _ hf

set_option maxHeartbeats 4000000 in
set_option maxRecDepth 100000 in
theorem w_X9_cycle_2 {E : Ex} {K : Kx} (C : Cx E K cX9_cycle 4 (some .int) RX9 wsX9_cycle rmX9_cycle) {a0 : Nat → Nat} {q1 : Nat} {a2 : Nat → Nat} {h0_0 h0_1 h0_3 : Nat} {v0 : OwnV} {v1 : Nat} {v2 : RowsT}  {r : Int32} : ∀ (n : Nat)  (x1 : Int32), Own_cycle_2 v0 v1 v2 n x1 = some r → WW E K 0 0 (QQ E K (fun rv g => rv = some (.int r) ∧ g = [wOwn E a0 (rf4 h0_0 h0_1 q1 h0_3) v0, wRO E q1 4 a2 v1, wRR E a2 v2]) 0 0) 2 [(0, .ref (a0 0)), (1, .int x1)] [] [wOwn E a0 (rf4 h0_0 h0_1 q1 h0_3) v0, wRO E q1 4 a2 v1, wRR E a2 v2] := by
  intro n
  induction n with
  | zero =>
    intro  x1 hf
    simp [Own_cycle_2] at hf
  | succ n ih =>
    intro  x1 hf
    rw [Own_cycle_2] at hf
    refine ww_iconst (v := 1) C dX9_cycle_2 (by decide) ?_
    refine ww_istore_n (lv' := [(2, .int 1), (0, .ref (a0 0)), (1, .int x1)]) C dX9_cycle_3 rfl (by decide) rfl ?_
    refine ww_iconst (v := 0) C dX9_cycle_4 (by decide) ?_
    refine ww_istore_n (lv' := [(3, .int 0), (2, .int 1), (0, .ref (a0 0)), (1, .int x1)]) C dX9_cycle_5 rfl (by decide) rfl ?_
    refine ww_sub C (lv' := [(0, .ref (a0 0)), (1, .int x1), (2, .int 1), (3, .int 0)]) [2, 3, 1, 0] rfl ?_
    exact w_X9_cycle_6 C (k2 := (fun (x1 : Int32) => Own_cycle_2 v0 v1 v2 n x1)) ih FU _ _ hf

set_option maxHeartbeats 4000000 in
set_option maxRecDepth 100000 in
theorem c_X9_cycle {E : Ex} {a0 : Nat → Nat} {q1 : Nat} {a2 : Nat → Nat} {h0_0 h0_1 h0_3 : Nat} {v0 : OwnV} {v1 : Nat} {v2 : RowsT} {r : Int32} (hf : Own_cycle v0 v1 v2 = some r) : Ct E yX9_cycle wsX9_cycle rmX9_cycle [.ref (a0 0)] [wOwn E a0 (rf4 h0_0 h0_1 q1 h0_3) v0, wRO E q1 4 a2 v1, wRR E a2 v2] (fun rv g => rv = some (.int r) ∧ g = [wOwn E a0 (rf4 h0_0 h0_1 q1 h0_3) v0, wRO E q1 4 a2 v1, wRR E a2 v2]) := by
  refine ct_of (own := RX9) (by decide +kernel) rfl rfl (Nat.le_of_ble_eq_true rfl) (fun K C => ?_)
  refine ww_sub C (lv' := [(0, .ref (a0 0))]) [0] rfl ?_
  rw [Own_cycle] at hf
  refine ww_iconst (v := 1) C dX9_cycle_0 (by decide) ?_
  refine ww_istore_n (lv' := [(1, .int 1), (0, .ref (a0 0))]) C dX9_cycle_1 rfl (by decide) rfl ?_
  refine ww_sub C (lv' := [(0, .ref (a0 0)), (1, .int 1)]) [1, 0] rfl ?_
  exact w_X9_cycle_2 C FU _ hf

theorem yk_X9_cycle : yX9_cycle.cls = RX9 ∧ yX9_cycle.cls ≠ "java/lang/invoke/MethodHandle" ∧ yX9_cycle.cls ≠ "java/lang/invoke/VarHandle" ∧ (parseMethodDescriptor yX9_cycle.desc).map (fun d => d.parameters.length) = some 0 := by decide +kernel
abbrev rmX9_at : Room := { frames := 0, cells := 0, slots := 0, locals := 0 }
set_option maxRecDepth 20000 in
theorem in_X9_at_X9 : ∀ w ∈ u_ws RX9 TX9 8, w ∈ wsX9_at := by decide +kernel
set_option maxHeartbeats 4000000 in
set_option maxRecDepth 100000 in
theorem c_X9_at {E : Ex} {a0 : Nat → Nat} {q1 : Nat} {a2 : Nat → Nat} {q3 : Nat} {h0_0 h0_1 : Nat} {x1 : Int32} {x2 : Int64} {v0 : OwnV} {v1 : Nat} {v2 : RowsT} {v3 : Nat → Int32} {r : Int32} (hf : Own_at x1 x2 v0 v1 v2 v3 = some r) : Ct E yX9_at wsX9_at rmX9_at [.ref (a0 0), .int x1, .long x2] [wOwn E a0 (rf4 h0_0 h0_1 q1 q3) v0, wRO E q1 4 a2 v1, wRR E a2 v2, wArr E q3 4 v3] (fun rv g => rv = some (.int r) ∧ g = [wOwn E a0 (rf4 h0_0 h0_1 q1 q3) v0, wRO E q1 4 a2 v1, wRR E a2 v2, wArr E q3 4 v3]) := by
  refine ct_of (own := RX9) (by decide +kernel) rfl rfl (Nat.le_of_ble_eq_true rfl) (fun K C => ?_)
  refine ww_sub C (lv' := [(0, .ref (a0 0)), (1, .int x1), (2, .long x2)]) [0, 1, 2] rfl ?_
  rw [Own_at] at hf
  refine ww_aload_n C dX9_at_0 rfl 0 rfl ?_
  refine ww_get C clOK9 in_X9_at_X9 (w := wOwn E a0 (rf4 h0_0 h0_1 q1 q3) v0) (fs := fsOwn a0 (rf4 h0_0 h0_1 q1 q3) v0) (v := .ref q1) 0 0 6 rfl q_Own (by decide) (by decide +kernel) g_Own_walk dX9_at_1 ?_
  refine ww_iload_n C dX9_at_4 rfl 1 rfl ?_
  obtain ⟨g_1, hf⟩ := gdE hf
  obtain ⟨g_2, hf⟩ := gdE hf
  refine ww_aldR C (f := roF a2 v1) (w := wRO E q1 4 a2 v1) 1 0 rfl q_RO (inB_vp g_1) (roF_at (of_decide_eq_true g_2)) dX9_at_5 ?_
  refine ww_lload_n C dX9_at_6 rfl 2 rfl ?_
  refine ww_aload_n C dX9_at_7 rfl 0 rfl ?_
  refine ww_get C clOK9 in_X9_at_X9 (w := wOwn E a0 (rf4 h0_0 h0_1 q1 q3) v0) (fs := fsOwn a0 (rf4 h0_0 h0_1 q1 q3) v0) (v := .ref q3) 0 0 7 rfl q_Own (by decide) (by decide +kernel) g_Own_phase dX9_at_8 ?_
  refine ww_iload_n C dX9_at_11 rfl 1 rfl ?_
  refine ww_iald C (f := v3) (w := wArr E q3 4 v3) 3 0 rfl q_Arr (inB_vp g_1) dX9_at_12 ?_
  refine ww_i2l C dX9_at_13 ?_
  refine ww_ladd C dX9_at_14 ?_
  refine ww_aload_n C dX9_at_15 rfl 0 rfl ?_
  refine ww_get C clOK9 in_X9_at_X9 (w := wOwn E a0 (rf4 h0_0 h0_1 q1 q3) v0) (fs := fsOwn a0 (rf4 h0_0 h0_1 q1 q3) v0) (v := .ref q1) 0 0 6 rfl q_Own (by decide) (by decide +kernel) g_Own_walk dX9_at_16 ?_
  refine ww_iload_n C dX9_at_19 rfl 1 rfl ?_
  refine ww_aldR C (f := roF a2 v1) (w := wRO E q1 4 a2 v1) 1 0 rfl q_RO (inB_vp g_1) (roF_at (of_decide_eq_true g_2)) dX9_at_20 ?_
  obtain ⟨g_3, hf⟩ := gdE hf
  refine ww_alen C (v := nI (v2.2.1 (Int32.toNatClampNeg x1))) (w := wRR E a2 v2) 2 (Int32.toNatClampNeg x1) rfl (q_RR (of_decide_eq_true g_3)) rfl dX9_at_21 ?_
  refine ww_i2l C dX9_at_22 ?_
  obtain ⟨g_4, hf⟩ := gdE hf
  refine ww_lrem C dX9_at_23 (nzl_ne g_4) ?_
  refine ww_l2i C dX9_at_24 ?_
  obtain ⟨g_5, hf⟩ := gdE hf
  refine ww_iald C (f := v2.2.2 (Int32.toNatClampNeg x1)) (w := wRR E a2 v2) 2 (Int32.toNatClampNeg x1) rfl (q_RR (of_decide_eq_true g_3)) (inB_vp g_5) dX9_at_25 ?_
  obtain rfl := Option.some.inj hf
  exact ww_iret C ⟨rfl, rfl⟩ dX9_at_26

theorem yk_X9_at : yX9_at.cls = RX9 ∧ yX9_at.cls ≠ "java/lang/invoke/MethodHandle" ∧ yX9_at.cls ≠ "java/lang/invoke/VarHandle" ∧ (parseMethodDescriptor yX9_at.desc).map (fun d => d.parameters.length) = some 2 := by decide +kernel
abbrev rmX9_in : Room := { frames := 1, cells := 0, slots := 0, locals := 23 }
set_option maxRecDepth 20000 in
theorem in_X9_in_X9 : ∀ w ∈ u_ws RX9 TX9 8, w ∈ wsX9_in := by decide +kernel
set_option maxHeartbeats 4000000 in
set_option maxRecDepth 100000 in
theorem w_X9_in_6 {E : Ex} {K : Kx} (C : Cx E K cX9_in 6 (some .int) RX9 wsX9_in rmX9_in) {a0 : Nat → Nat} {q1 : Nat} {a2 : Nat → Nat} {q3 : Nat} {h0_0 h0_1 : Nat} {x1 : Int32} {x2 : Int64} {v0 : OwnV} {v1 : Nat} {v2 : RowsT} {v3 : Nat → Int32}  {r : Int32} : ∀ (n : Nat)  (x4 : Int32) (x5 : Int32), Own_in_6 x1 x2 v0 v1 v2 v3 n x4 x5 = some r → WW E K 0 0 (QQ E K (fun rv g => rv = some (.int r) ∧ g = [wOwn E a0 (rf4 h0_0 h0_1 q1 q3) v0, wRO E q1 4 a2 v1, wRR E a2 v2, wArr E q3 4 v3]) 0 0) 6 [(0, .ref (a0 0)), (1, .int x1), (2, .long x2), (4, .int x4), (5, .int x5)] [] [wOwn E a0 (rf4 h0_0 h0_1 q1 q3) v0, wRO E q1 4 a2 v1, wRR E a2 v2, wArr E q3 4 v3] := by
  intro n
  induction n with
  | zero =>
    intro  x4 x5 hf
    simp [Own_in_6] at hf
  | succ n ih =>
    intro  x4 x5 hf
    rw [Own_in_6] at hf
    refine ww_iload C dX9_in_6 4 rfl ?_
    refine ww_aload_n C dX9_in_8 rfl 0 rfl ?_
    refine ww_get C clOK9 in_X9_in_X9 (w := wOwn E a0 (rf4 h0_0 h0_1 q1 q3) v0) (fs := fsOwn a0 (rf4 h0_0 h0_1 q1 q3) v0) (v := .int (Own_guards v0)) 0 0 2 rfl q_Own (by decide) (by decide +kernel) g_Own_guards dX9_in_9 ?_
    refine ww_icmp_ge (tgt := 45) C dX9_in_12 (by decide) (fun c_1 => ?_) (fun c_1 => ?_)
    · replace hf := ifT c_1 hf
      refine ww_iload C dX9_in_45 3 rfl ?_
      obtain rfl := Option.some.inj hf
      exact ww_iret C ⟨rfl, rfl⟩ dX9_in_47
    · replace hf := ifF c_1 hf
      refine ww_iload C dX9_in_15 3 rfl ?_
      refine ww_aload_n C dX9_in_17 rfl 0 rfl ?_
      refine ww_iload C dX9_in_18 4 rfl ?_
      refine ww_lload_n C dX9_in_20 rfl 2 rfl ?_
      obtain ⟨p21, hp21, hf⟩ := bdE hf
      refine ww_callV C (As := [.int x5, .long x2]) (st := [.int x4]) (gr := []) (c_X9_at (E := E) (a0 := a0) (h0_0 := h0_0) (h0_1 := h0_1) (q1 := q1) (a2 := a2) (q3 := q3) hp21) gX9_in_X9_at rfl yk_X9_at ⟨by decide, Nat.le_of_ble_eq_true rfl⟩ ⟨by decide, by decide⟩ clOK9 0 0 rfl rfl [0, 1, 2, 3] [] 4 rfl (by decide) rfl rfl (Nat.le_of_ble_eq_true rfl) dX9_in_21 ?_
      rintro _ _ ⟨rfl, rfl⟩
      refine ww_perm (gs' := [wOwn E a0 (rf4 h0_0 h0_1 q1 q3) v0, wRO E q1 4 a2 v1, wRR E a2 v2, wArr E q3 4 v3]) [0, 1, 2, 3] 4 rfl (by decide) rfl ?_
      refine ww_iload_n C dX9_in_24 rfl 1 rfl ?_
      refine ww_icmp_ne (tgt := 35) C dX9_in_25 (by decide) (fun c_2 => ?_) (fun c_2 => ?_)
      · replace hf := ifF c_2 hf
        refine ww_iconst (v := 0) C dX9_in_35 (by decide) ?_
        refine ww_ior C dX9_in_36 ?_
        refine ww_topi (fun x4_37 e_x4_37 => ?_)
        replace hf := ltE e_x4_37 hf
        refine ww_istore (lv' := [(4, .int x4_37), (0, .ref (a0 0)), (1, .int x1), (2, .long x2), (5, .int x5)]) C dX9_in_37 (by decide) rfl ?_
        obtain ⟨x5_39, e_x5_39⟩ : ∃ y : Int32, y = x5 + 1 := ⟨_, rfl⟩
        replace hf := ltE e_x5_39 hf
        refine ww_iinc (v := x5_39) (lv' := [(5, .int x5_39), (4, .int x4_37), (0, .ref (a0 0)), (1, .int x1), (2, .long x2)]) C dX9_in_39 4 rfl (by rw [e_x5_39]; rfl) (by decide) rfl ?_
        refine ww_goto (tgt := 6) C dX9_in_42 (by decide) ?_
        refine ww_sub C (lv' := [(0, .ref (a0 0)), (1, .int x1), (2, .long x2), (4, .int x4_37), (5, .int x5_39)]) [2, 3, 4, 1, 0] rfl ?_
        exact ih _ _ hf
      · replace hf := ifT c_2 hf
        refine ww_iconst (v := 1) C dX9_in_28 (by decide) ?_
        refine ww_iload C dX9_in_29 4 rfl ?_
        refine ww_ishl C dX9_in_31 ?_
        refine ww_goto (tgt := 36) C dX9_in_32 (by decide) ?_
        refine ww_ior C dX9_in_36 ?_
        refine ww_topi (fun x4_37 e_x4_37 => ?_)
        replace hf := ltE e_x4_37 hf
        refine ww_istore (lv' := [(4, .int x4_37), (0, .ref (a0 0)), (1, .int x1), (2, .long x2), (5, .int x5)]) C dX9_in_37 (by decide) rfl ?_
        obtain ⟨x5_39, e_x5_39⟩ : ∃ y : Int32, y = x5 + 1 := ⟨_, rfl⟩
        replace hf := ltE e_x5_39 hf
        refine ww_iinc (v := x5_39) (lv' := [(5, .int x5_39), (4, .int x4_37), (0, .ref (a0 0)), (1, .int x1), (2, .long x2)]) C dX9_in_39 4 rfl (by rw [e_x5_39]; rfl) (by decide) rfl ?_
        refine ww_goto (tgt := 6) C dX9_in_42 (by decide) ?_
        refine ww_sub C (lv' := [(0, .ref (a0 0)), (1, .int x1), (2, .long x2), (4, .int x4_37), (5, .int x5_39)]) [2, 3, 4, 1, 0] rfl ?_
        exact ih _ _ hf

set_option maxHeartbeats 4000000 in
set_option maxRecDepth 100000 in
theorem c_X9_in {E : Ex} {a0 : Nat → Nat} {q1 : Nat} {a2 : Nat → Nat} {q3 : Nat} {h0_0 h0_1 : Nat} {x1 : Int32} {x2 : Int64} {v0 : OwnV} {v1 : Nat} {v2 : RowsT} {v3 : Nat → Int32} {r : Int32} (hf : Own_in x1 x2 v0 v1 v2 v3 = some r) : Ct E yX9_in wsX9_in rmX9_in [.ref (a0 0), .int x1, .long x2] [wOwn E a0 (rf4 h0_0 h0_1 q1 q3) v0, wRO E q1 4 a2 v1, wRR E a2 v2, wArr E q3 4 v3] (fun rv g => rv = some (.int r) ∧ g = [wOwn E a0 (rf4 h0_0 h0_1 q1 q3) v0, wRO E q1 4 a2 v1, wRR E a2 v2, wArr E q3 4 v3]) := by
  refine ct_of (own := RX9) (by decide +kernel) rfl rfl (Nat.le_of_ble_eq_true rfl) (fun K C => ?_)
  refine ww_sub C (lv' := [(0, .ref (a0 0)), (1, .int x1), (2, .long x2)]) [0, 1, 2] rfl ?_
  rw [Own_in] at hf
  refine ww_iconst (v := 0) C dX9_in_0 (by decide) ?_
  refine ww_istore (lv' := [(4, .int 0), (0, .ref (a0 0)), (1, .int x1), (2, .long x2)]) C dX9_in_1 (by decide) rfl ?_
  refine ww_iconst (v := 0) C dX9_in_3 (by decide) ?_
  refine ww_istore (lv' := [(5, .int 0), (4, .int 0), (0, .ref (a0 0)), (1, .int x1), (2, .long x2)]) C dX9_in_4 (by decide) rfl ?_
  refine ww_sub C (lv' := [(0, .ref (a0 0)), (1, .int x1), (2, .long x2), (4, .int 0), (5, .int 0)]) [2, 3, 4, 1, 0] rfl ?_
  exact w_X9_in_6 C FU _ _ hf

theorem yk_X9_in : yX9_in.cls = RX9 ∧ yX9_in.cls ≠ "java/lang/invoke/MethodHandle" ∧ yX9_in.cls ≠ "java/lang/invoke/VarHandle" ∧ (parseMethodDescriptor yX9_in.desc).map (fun d => d.parameters.length) = some 2 := by decide +kernel
abbrev rmX9_seen : Room := { frames := 2, cells := 0, slots := 0, locals := 48 }
set_option maxHeartbeats 4000000 in
set_option maxRecDepth 100000 in
theorem w_X9_seen_10 {E : Ex} {K : Kx} (C : Cx E K cX9_seen 5 (some .int) RX9 wsX9_seen rmX9_seen) {a0 : Nat → Nat} {q1 : Nat} {a2 : Nat → Nat} {q3 : Nat} {h0_0 h0_1 : Nat} {x1 : Int32} {v0 : OwnV} {v1 : Nat} {v2 : RowsT} {v3 : Nat → Int32} {x3 : Int32} {r : Int32} : ∀ (n : Nat)  (x2 : Int32) (x4 : Int32), Own_seen_10 x1 v0 v1 v2 v3 x3 n x2 x4 = some r → WW E K 0 0 (QQ E K (fun rv g => rv = some (.int r) ∧ g = [wOwn E a0 (rf4 h0_0 h0_1 q1 q3) v0, wRO E q1 4 a2 v1, wRR E a2 v2, wArr E q3 4 v3]) 0 0) 10 [(0, .ref (a0 0)), (1, .int x1), (2, .int x2), (3, .int x3), (4, .int x4)] [] [wOwn E a0 (rf4 h0_0 h0_1 q1 q3) v0, wRO E q1 4 a2 v1, wRR E a2 v2, wArr E q3 4 v3] := by
  intro n
  induction n with
  | zero =>
    intro  x2 x4 hf
    simp [Own_seen_10] at hf
  | succ n ih =>
    intro  x2 x4 hf
    rw [Own_seen_10] at hf
    refine ww_iload C dX9_seen_10 4 rfl ?_
    refine ww_iload_n C dX9_seen_12 rfl 3 rfl ?_
    refine ww_icmp_ge (tgt := 41) C dX9_seen_13 (by decide) (fun c_1 => ?_) (fun c_1 => ?_)
    · replace hf := ifT c_1 hf
      refine ww_iload_n C dX9_seen_41 rfl 2 rfl ?_
      obtain rfl := Option.some.inj hf
      exact ww_iret C ⟨rfl, rfl⟩ dX9_seen_42
    · replace hf := ifF c_1 hf
      refine ww_iload_n C dX9_seen_16 rfl 2 rfl ?_
      refine ww_aload_n C dX9_seen_17 rfl 0 rfl ?_
      refine ww_iload_n C dX9_seen_18 rfl 1 rfl ?_
      refine ww_iload C dX9_seen_19 4 rfl ?_
      refine ww_i2l C dX9_seen_21 ?_
      obtain ⟨p22, hp22, hf⟩ := bdE hf
      refine ww_callV C (As := [.int x1, .long (Int32.toInt64 x4)]) (st := [.int x2]) (gr := []) (c_X9_in (E := E) (a0 := a0) (h0_0 := h0_0) (h0_1 := h0_1) (q1 := q1) (a2 := a2) (q3 := q3) hp22) gX9_seen_X9_in rfl yk_X9_in ⟨by decide, Nat.le_of_ble_eq_true rfl⟩ ⟨by decide, by decide⟩ clOK9 0 0 rfl rfl [0, 1, 2, 3] [] 4 rfl (by decide) rfl rfl (Nat.le_of_ble_eq_true rfl) dX9_seen_22 ?_
      rintro _ _ ⟨rfl, rfl⟩
      refine ww_perm (gs' := [wOwn E a0 (rf4 h0_0 h0_1 q1 q3) v0, wRO E q1 4 a2 v1, wRR E a2 v2, wArr E q3 4 v3]) [0, 1, 2, 3] 4 rfl (by decide) rfl ?_
      refine ww_if_ne (tgt := 32) C dX9_seen_25 (by decide) (fun c_2 => ?_) (fun c_2 => ?_)
      · replace hf := ifF c_2 hf
        refine ww_iconst (v := 1) C dX9_seen_32 (by decide) ?_
        refine ww_iadd C dX9_seen_33 ?_
        refine ww_topi (fun x2_34 e_x2_34 => ?_)
        replace hf := ltE e_x2_34 hf
        refine ww_istore_n (lv' := [(2, .int x2_34), (0, .ref (a0 0)), (1, .int x1), (3, .int x3), (4, .int x4)]) C dX9_seen_34 rfl (by decide) rfl ?_
        obtain ⟨x4_35, e_x4_35⟩ : ∃ y : Int32, y = x4 + 1 := ⟨_, rfl⟩
        replace hf := ltE e_x4_35 hf
        refine ww_iinc (v := x4_35) (lv' := [(4, .int x4_35), (2, .int x2_34), (0, .ref (a0 0)), (1, .int x1), (3, .int x3)]) C dX9_seen_35 4 rfl (by rw [e_x4_35]; rfl) (by decide) rfl ?_
        refine ww_goto (tgt := 10) C dX9_seen_38 (by decide) ?_
        refine ww_sub C (lv' := [(0, .ref (a0 0)), (1, .int x1), (2, .int x2_34), (3, .int x3), (4, .int x4_35)]) [2, 3, 1, 4, 0] rfl ?_
        exact ih _ _ hf
      · replace hf := ifT c_2 hf
        refine ww_iconst (v := 0) C dX9_seen_28 (by decide) ?_
        refine ww_goto (tgt := 33) C dX9_seen_29 (by decide) ?_
        refine ww_iadd C dX9_seen_33 ?_
        refine ww_topi (fun x2_34 e_x2_34 => ?_)
        replace hf := ltE e_x2_34 hf
        refine ww_istore_n (lv' := [(2, .int x2_34), (0, .ref (a0 0)), (1, .int x1), (3, .int x3), (4, .int x4)]) C dX9_seen_34 rfl (by decide) rfl ?_
        obtain ⟨x4_35, e_x4_35⟩ : ∃ y : Int32, y = x4 + 1 := ⟨_, rfl⟩
        replace hf := ltE e_x4_35 hf
        refine ww_iinc (v := x4_35) (lv' := [(4, .int x4_35), (2, .int x2_34), (0, .ref (a0 0)), (1, .int x1), (3, .int x3)]) C dX9_seen_35 4 rfl (by rw [e_x4_35]; rfl) (by decide) rfl ?_
        refine ww_goto (tgt := 10) C dX9_seen_38 (by decide) ?_
        refine ww_sub C (lv' := [(0, .ref (a0 0)), (1, .int x1), (2, .int x2_34), (3, .int x3), (4, .int x4_35)]) [2, 3, 1, 4, 0] rfl ?_
        exact ih _ _ hf

set_option maxHeartbeats 4000000 in
set_option maxRecDepth 100000 in
theorem c_X9_seen {E : Ex} {a0 : Nat → Nat} {q1 : Nat} {a2 : Nat → Nat} {q3 : Nat} {h0_0 h0_1 : Nat} {x1 : Int32} {v0 : OwnV} {v1 : Nat} {v2 : RowsT} {v3 : Nat → Int32} {r : Int32} (hf : Own_seen x1 v0 v1 v2 v3 = some r) : Ct E yX9_seen wsX9_seen rmX9_seen [.ref (a0 0), .int x1] [wOwn E a0 (rf4 h0_0 h0_1 q1 q3) v0, wRO E q1 4 a2 v1, wRR E a2 v2, wArr E q3 4 v3] (fun rv g => rv = some (.int r) ∧ g = [wOwn E a0 (rf4 h0_0 h0_1 q1 q3) v0, wRO E q1 4 a2 v1, wRR E a2 v2, wArr E q3 4 v3]) := by
  refine ct_of (own := RX9) (by decide +kernel) rfl rfl (Nat.le_of_ble_eq_true rfl) (fun K C => ?_)
  refine ww_sub C (lv' := [(0, .ref (a0 0)), (1, .int x1)]) [0, 1] rfl ?_
  rw [Own_seen] at hf
  refine ww_iconst (v := 0) C dX9_seen_0 (by decide) ?_
  refine ww_istore_n (lv' := [(2, .int 0), (0, .ref (a0 0)), (1, .int x1)]) C dX9_seen_1 rfl (by decide) rfl ?_
  refine ww_aload_n C dX9_seen_2 rfl 1 rfl ?_
  obtain ⟨p3, hp3, hf⟩ := bdE hf
  refine ww_callV C (As := []) (st := []) (gr := [wArr E q3 4 v3]) (c_X9_cycle (E := E) (a0 := a0) (h0_0 := h0_0) (h0_1 := h0_1) (h0_3 := q3) (q1 := q1) (a2 := a2) hp3) gX9_seen_X9_cycle rfl yk_X9_cycle ⟨by decide, Nat.le_of_ble_eq_true rfl⟩ ⟨by decide, by decide⟩ clOK9 0 0 rfl rfl [0, 1, 2] [3] 4 rfl (by decide) rfl rfl (Nat.le_of_ble_eq_true rfl) dX9_seen_3 ?_
  rintro _ _ ⟨rfl, rfl⟩
  refine ww_perm (gs' := [wOwn E a0 (rf4 h0_0 h0_1 q1 q3) v0, wRO E q1 4 a2 v1, wRR E a2 v2, wArr E q3 4 v3]) [0, 1, 2, 3] 4 rfl (by decide) rfl ?_
  refine ww_istore_n (lv' := [(3, .int p3), (2, .int 0), (0, .ref (a0 0)), (1, .int x1)]) C dX9_seen_6 rfl (by decide) rfl ?_
  refine ww_iconst (v := 0) C dX9_seen_7 (by decide) ?_
  refine ww_istore (lv' := [(4, .int 0), (3, .int p3), (2, .int 0), (0, .ref (a0 0)), (1, .int x1)]) C dX9_seen_8 (by decide) rfl ?_
  refine ww_sub C (lv' := [(0, .ref (a0 0)), (1, .int x1), (2, .int 0), (3, .int p3), (4, .int 0)]) [3, 4, 2, 1, 0] rfl ?_
  exact w_X9_seen_10 C FU _ _ hf

theorem yk_X9_seen : yX9_seen.cls = RX9 ∧ yX9_seen.cls ≠ "java/lang/invoke/MethodHandle" ∧ yX9_seen.cls ≠ "java/lang/invoke/VarHandle" ∧ (parseMethodDescriptor yX9_seen.desc).map (fun d => d.parameters.length) = some 1 := by decide +kernel
abbrev rmX9_gap : Room := { frames := 3, cells := 13, slots := 26, locals := 72 }
set_option maxHeartbeats 4000000 in
set_option maxRecDepth 100000 in
theorem w_X9_gap_72 {E : Ex} {K : Kx} (C : Cx E K cX9_gap 6 (some (.array .int)) RX9 wsX9_gap rmX9_gap) {a0 : Nat → Nat} {q1 : Nat} {a2 : Nat → Nat} {q3 : Nat} {h0_0 h0_1 : Nat} {x1 : Int32} {v0 : OwnV} {v1 : Nat} {v2 : RowsT} {v3 : Nat → Int32} {x2 : Int32} {x4 : Int32} {k34 : Int32 → (Nat → Int32) → Nat → Nat → Option (Nat → Int32)} {r : (Nat → Int32)} (hk34 : ∀ (d0 : Nat) (x4 : Int32) (w0 : Nat → Int32) (c : Nat) (s : Nat), c ≤ 13 ∧ s ≤ 26 → k34 x4 w0 c s = some r → WW E K c s (QQ E K (fun rv g => ∃ (y0 : Nat), rv = some (.ref y0) ∧ g = [wOwn E a0 (rf4 h0_0 h0_1 q1 q3) v0, wRO E q1 4 a2 v1, wRR E a2 v2, wArr E q3 4 v3, wArr E y0 2 r]) 13 26) 34 [(0, .ref (a0 0)), (1, .int x1), (2, .int x2), (3, .ref d0), (4, .int x4)] [] [wOwn E a0 (rf4 h0_0 h0_1 q1 q3) v0, wRO E q1 4 a2 v1, wRR E a2 v2, wArr E q3 4 v3, wArr E d0 2 w0]) : ∀ (n : Nat) (d0 : Nat) (x5 : Int32) (w0 : Nat → Int32) (c : Nat) (s : Nat), c ≤ 13 ∧ s ≤ 26 → Own_gap_72 x1 v0 v1 v2 v3 x2 x4 k34 n x5 w0 c s = some r → WW E K c s (QQ E K (fun rv g => ∃ (y0 : Nat), rv = some (.ref y0) ∧ g = [wOwn E a0 (rf4 h0_0 h0_1 q1 q3) v0, wRO E q1 4 a2 v1, wRR E a2 v2, wArr E q3 4 v3, wArr E y0 2 r]) 13 26) 72 [(0, .ref (a0 0)), (1, .int x1), (2, .int x2), (3, .ref d0), (4, .int x4), (5, .int x5)] [] [wOwn E a0 (rf4 h0_0 h0_1 q1 q3) v0, wRO E q1 4 a2 v1, wRR E a2 v2, wArr E q3 4 v3, wArr E d0 2 w0] := by
  intro n
  induction n with
  | zero =>
    intro d0 x5 w0 c s hcs hf
    simp [Own_gap_72] at hf
  | succ n ih =>
    intro d0 x5 w0 c s hcs hf
    rw [Own_gap_72] at hf
    refine ww_aload_n C dX9_gap_72 rfl 0 rfl ?_
    refine ww_iload_n C dX9_gap_73 rfl 1 rfl ?_
    refine ww_iload C dX9_gap_74 4 rfl ?_
    refine ww_iload C dX9_gap_76 5 rfl ?_
    refine ww_iadd C dX9_gap_78 ?_
    refine ww_i2l C dX9_gap_79 ?_
    obtain ⟨p80, hp80, hf⟩ := bdE hf
    refine ww_callV C (As := [.int x1, .long (Int32.toInt64 (x4 + x5))]) (st := []) (gr := [wArr E d0 2 w0]) (c_X9_in (E := E) (a0 := a0) (h0_0 := h0_0) (h0_1 := h0_1) (q1 := q1) (a2 := a2) (q3 := q3) hp80) gX9_gap_X9_in rfl yk_X9_in ⟨by decide, Nat.le_of_ble_eq_true rfl⟩ hcs clOK9 0 0 rfl rfl [0, 1, 2, 3] [4] 5 rfl (by decide) rfl rfl (Nat.le_of_ble_eq_true rfl) dX9_gap_80 ?_
    rintro _ _ ⟨rfl, rfl⟩
    refine ww_perm (gs' := [wOwn E a0 (rf4 h0_0 h0_1 q1 q3) v0, wRO E q1 4 a2 v1, wRR E a2 v2, wArr E q3 4 v3, wArr E d0 2 w0]) [0, 1, 2, 3, 4] 5 rfl (by decide) rfl ?_
    refine ww_if_ne (tgt := 92) C dX9_gap_83 (by decide) (fun c_8 => ?_) (fun c_8 => ?_)
    · replace hf := ifF c_8 hf
      refine ww_iload C dX9_gap_92 5 rfl ?_
      refine ww_aload_n C dX9_gap_94 rfl 3 rfl ?_
      refine ww_iconst (v := 0) C dX9_gap_95 (by decide) ?_
      obtain ⟨g_9, hf⟩ := gdE hf
      refine ww_iald C (f := w0) (w := wArr E d0 2 w0) 4 0 rfl q_Arr (inB_vp g_9) dX9_gap_96 ?_
      refine ww_icmp_le (tgt := 114) C dX9_gap_97 (by decide) (fun c_10 => ?_) (fun c_10 => ?_)
      · replace hf := ifT c_10 hf
        obtain ⟨x4_114, e_x4_114⟩ : ∃ y : Int32, y = x4 + 1 := ⟨_, rfl⟩
        replace hf := ltE e_x4_114 hf
        refine ww_iinc (v := x4_114) (lv' := [(4, .int x4_114), (0, .ref (a0 0)), (1, .int x1), (2, .int x2), (3, .ref d0), (5, .int x5)]) C dX9_gap_114 4 rfl (by rw [e_x4_114]; rfl) (by decide) rfl ?_
        refine ww_goto (tgt := 34) C dX9_gap_117 (by decide) ?_
        refine ww_sub C (lv' := [(0, .ref (a0 0)), (1, .int x1), (2, .int x2), (3, .ref d0), (4, .int x4_114)]) [1, 2, 3, 4, 0] rfl ?_
        exact hk34 _ _ _ _ _ hcs hf
      · replace hf := ifF c_10 hf
        refine ww_iconst (v := 2) C dX9_gap_100 (by decide) ?_
        obtain ⟨g_11, hf⟩ := gdE hf
        refine ww_newi C (by decide +kernel) 2 (by decide) (by decide) (by decide) (of_decide_eq_true g_11) dX9_gap_101 (fun q101 => ?_)
        refine ww_eq (gs' := [wOwn E a0 (rf4 h0_0 h0_1 q1 q3) v0, wRO E q1 4 a2 v1, wRR E a2 v2, wArr E q3 4 v3, wArr E d0 2 w0, wArr E q101 2 (fun _ => 0)]) rfl ?_
        refine ww_dup C dX9_gap_103 rfl ?_
        refine ww_iconst (v := 0) C dX9_gap_104 (by decide) ?_
        refine ww_iload C dX9_gap_105 5 rfl ?_
        obtain ⟨v5_107, e_v5_107⟩ : ∃ y : Nat → Int32, y = upd (fun _ => 0) (Int32.toNatClampNeg 0) x5 := ⟨_, rfl⟩
        replace hf := ltE e_v5_107 hf
        refine ww_iast C (f := (fun _ => 0)) (w := wArr E q101 2 (fun _ => 0)) (w' := wArr E q101 2 v5_107) (gs' := [wOwn E a0 (rf4 h0_0 h0_1 q1 q3) v0, wRO E q1 4 a2 v1, wRR E a2 v2, wArr E q3 4 v3, wArr E d0 2 w0, wArr E q101 2 v5_107]) 5 0 rfl q_Arr (inB_vp g_9) (by rw [e_v5_107]; exact s_Arr) rfl dX9_gap_107 ?_
        refine ww_dup C dX9_gap_108 rfl ?_
        refine ww_iconst (v := 1) C dX9_gap_109 (by decide) ?_
        refine ww_iload C dX9_gap_110 4 rfl ?_
        obtain ⟨g_12, hf⟩ := gdE hf
        obtain ⟨v5_112, e_v5_112⟩ : ∃ y : Nat → Int32, y = upd v5_107 (Int32.toNatClampNeg 1) x4 := ⟨_, rfl⟩
        replace hf := ltE e_v5_112 hf
        refine ww_iast C (f := v5_107) (w := wArr E q101 2 v5_107) (w' := wArr E q101 2 v5_112) (gs' := [wOwn E a0 (rf4 h0_0 h0_1 q1 q3) v0, wRO E q1 4 a2 v1, wRR E a2 v2, wArr E q3 4 v3, wArr E d0 2 w0, wArr E q101 2 v5_112]) 5 0 rfl q_Arr (inB_vp g_12) (by rw [e_v5_112]; exact s_Arr) rfl dX9_gap_112 ?_
        refine ww_astore_n (lv' := [(3, .ref q101), (0, .ref (a0 0)), (1, .int x1), (2, .int x2), (4, .int x4), (5, .int x5)]) C dX9_gap_113 rfl (by decide) rfl ?_
        obtain ⟨x4_114, e_x4_114⟩ : ∃ y : Int32, y = x4 + 1 := ⟨_, rfl⟩
        replace hf := ltE e_x4_114 hf
        refine ww_iinc (v := x4_114) (lv' := [(4, .int x4_114), (3, .ref q101), (0, .ref (a0 0)), (1, .int x1), (2, .int x2), (5, .int x5)]) C dX9_gap_114 4 rfl (by rw [e_x4_114]; rfl) (by decide) rfl ?_
        refine ww_goto (tgt := 34) C dX9_gap_117 (by decide) ?_
        refine ww_drop (gs' := [wOwn E a0 (rf4 h0_0 h0_1 q1 q3) v0, wRO E q1 4 a2 v1, wRR E a2 v2, wArr E q3 4 v3, wArr E q101 2 v5_112]) [0, 1, 2, 3, 5] [4] 6 rfl (by decide) rfl ?_
        refine ww_sub C (lv' := [(0, .ref (a0 0)), (1, .int x1), (2, .int x2), (3, .ref q101), (4, .int x4_114)]) [2, 3, 4, 1, 0] rfl ?_
        exact hk34 _ _ _ _ _ (of_decide_eq_true g_11) hf
    · replace hf := ifT c_8 hf
      obtain ⟨x5_86, e_x5_86⟩ : ∃ y : Int32, y = x5 + 1 := ⟨_, rfl⟩
      replace hf := ltE e_x5_86 hf
      refine ww_iinc (v := x5_86) (lv' := [(5, .int x5_86), (0, .ref (a0 0)), (1, .int x1), (2, .int x2), (3, .ref d0), (4, .int x4)]) C dX9_gap_86 5 rfl (by rw [e_x5_86]; rfl) (by decide) rfl ?_
      refine ww_goto (tgt := 72) C dX9_gap_89 (by decide) ?_
      refine ww_sub C (lv' := [(0, .ref (a0 0)), (1, .int x1), (2, .int x2), (3, .ref d0), (4, .int x4), (5, .int x5_86)]) [1, 2, 3, 4, 5, 0] rfl ?_
      exact ih _ _ _ _ _ hcs hf

set_option maxHeartbeats 4000000 in
set_option maxRecDepth 100000 in
theorem w_X9_gap_34 {E : Ex} {K : Kx} (C : Cx E K cX9_gap 6 (some (.array .int)) RX9 wsX9_gap rmX9_gap) {a0 : Nat → Nat} {q1 : Nat} {a2 : Nat → Nat} {q3 : Nat} {h0_0 h0_1 : Nat} {x1 : Int32} {v0 : OwnV} {v1 : Nat} {v2 : RowsT} {v3 : Nat → Int32} {x2 : Int32} {r : (Nat → Int32)} : ∀ (n : Nat) (d0 : Nat) (x4 : Int32) (w0 : Nat → Int32) (c : Nat) (s : Nat), c ≤ 13 ∧ s ≤ 26 → Own_gap_34 x1 v0 v1 v2 v3 x2 n x4 w0 c s = some r → WW E K c s (QQ E K (fun rv g => ∃ (y0 : Nat), rv = some (.ref y0) ∧ g = [wOwn E a0 (rf4 h0_0 h0_1 q1 q3) v0, wRO E q1 4 a2 v1, wRR E a2 v2, wArr E q3 4 v3, wArr E y0 2 r]) 13 26) 34 [(0, .ref (a0 0)), (1, .int x1), (2, .int x2), (3, .ref d0), (4, .int x4)] [] [wOwn E a0 (rf4 h0_0 h0_1 q1 q3) v0, wRO E q1 4 a2 v1, wRR E a2 v2, wArr E q3 4 v3, wArr E d0 2 w0] := by
  intro n
  induction n with
  | zero =>
    intro d0 x4 w0 c s hcs hf
    simp [Own_gap_34] at hf
  | succ n ih =>
    intro d0 x4 w0 c s hcs hf
    rw [Own_gap_34] at hf
    refine ww_iload C dX9_gap_34 4 rfl ?_
    refine ww_iload_n C dX9_gap_36 rfl 2 rfl ?_
    refine ww_icmp_ge (tgt := 120) C dX9_gap_37 (by decide) (fun c_5 => ?_) (fun c_5 => ?_)
    · replace hf := ifT c_5 hf
      refine ww_aload_n C dX9_gap_120 rfl 3 rfl ?_
      obtain rfl := Option.some.inj hf
      refine ww_widen (k := 13) (n := 26) hcs.1 hcs.2 ?_
      exact ww_aret C (Or.inr ⟨_, rfl⟩) ⟨_, rfl, rfl⟩ dX9_gap_121
    · replace hf := ifF c_5 hf
      refine ww_aload_n C dX9_gap_40 rfl 0 rfl ?_
      refine ww_iload_n C dX9_gap_41 rfl 1 rfl ?_
      refine ww_iload C dX9_gap_42 4 rfl ?_
      refine ww_i2l C dX9_gap_44 ?_
      obtain ⟨p45, hp45, hf⟩ := bdE hf
      refine ww_callV C (As := [.int x1, .long (Int32.toInt64 x4)]) (st := []) (gr := [wArr E d0 2 w0]) (c_X9_in (E := E) (a0 := a0) (h0_0 := h0_0) (h0_1 := h0_1) (q1 := q1) (a2 := a2) (q3 := q3) hp45) gX9_gap_X9_in rfl yk_X9_in ⟨by decide, Nat.le_of_ble_eq_true rfl⟩ hcs clOK9 0 0 rfl rfl [0, 1, 2, 3] [4] 5 rfl (by decide) rfl rfl (Nat.le_of_ble_eq_true rfl) dX9_gap_45 ?_
      rintro _ _ ⟨rfl, rfl⟩
      refine ww_perm (gs' := [wOwn E a0 (rf4 h0_0 h0_1 q1 q3) v0, wRO E q1 4 a2 v1, wRR E a2 v2, wArr E q3 4 v3, wArr E d0 2 w0]) [0, 1, 2, 3, 4] 5 rfl (by decide) rfl ?_
      refine ww_if_ne (tgt := 114) C dX9_gap_48 (by decide) (fun c_6 => ?_) (fun c_6 => ?_)
      · replace hf := ifF c_6 hf
        obtain ⟨x4_114, e_x4_114⟩ : ∃ y : Int32, y = x4 + 1 := ⟨_, rfl⟩
        replace hf := ltE e_x4_114 hf
        refine ww_iinc (v := x4_114) (lv' := [(4, .int x4_114), (0, .ref (a0 0)), (1, .int x1), (2, .int x2), (3, .ref d0)]) C dX9_gap_114 4 rfl (by rw [e_x4_114]; rfl) (by decide) rfl ?_
        refine ww_goto (tgt := 34) C dX9_gap_117 (by decide) ?_
        refine ww_sub C (lv' := [(0, .ref (a0 0)), (1, .int x1), (2, .int x2), (3, .ref d0), (4, .int x4_114)]) [1, 2, 3, 4, 0] rfl ?_
        exact ih _ _ _ _ _ hcs hf
      · replace hf := ifT c_6 hf
        refine ww_aload_n C dX9_gap_51 rfl 0 rfl ?_
        refine ww_iload_n C dX9_gap_52 rfl 1 rfl ?_
        refine ww_iload C dX9_gap_53 4 rfl ?_
        refine ww_iload_n C dX9_gap_55 rfl 2 rfl ?_
        refine ww_iadd C dX9_gap_56 ?_
        refine ww_iconst (v := 1) C dX9_gap_57 (by decide) ?_
        refine ww_isub C dX9_gap_58 ?_
        refine ww_i2l C dX9_gap_59 ?_
        obtain ⟨p60, hp60, hf⟩ := bdE hf
        refine ww_callV C (As := [.int x1, .long (Int32.toInt64 ((x4 + x2) - 1))]) (st := []) (gr := [wArr E d0 2 w0]) (c_X9_in (E := E) (a0 := a0) (h0_0 := h0_0) (h0_1 := h0_1) (q1 := q1) (a2 := a2) (q3 := q3) hp60) gX9_gap_X9_in rfl yk_X9_in ⟨by decide, Nat.le_of_ble_eq_true rfl⟩ hcs clOK9 0 0 rfl rfl [0, 1, 2, 3] [4] 5 rfl (by decide) rfl rfl (Nat.le_of_ble_eq_true rfl) dX9_gap_60 ?_
        rintro _ _ ⟨rfl, rfl⟩
        refine ww_perm (gs' := [wOwn E a0 (rf4 h0_0 h0_1 q1 q3) v0, wRO E q1 4 a2 v1, wRR E a2 v2, wArr E q3 4 v3, wArr E d0 2 w0]) [0, 1, 2, 3, 4] 5 rfl (by decide) rfl ?_
        refine ww_if_ne (tgt := 69) C dX9_gap_63 (by decide) (fun c_7 => ?_) (fun c_7 => ?_)
        · replace hf := ifF c_7 hf
          refine ww_iconst (v := 0) C dX9_gap_69 (by decide) ?_
          refine ww_istore (lv' := [(5, .int 0), (0, .ref (a0 0)), (1, .int x1), (2, .int x2), (3, .ref d0), (4, .int x4)]) C dX9_gap_70 (by decide) rfl ?_
          refine ww_sub C (lv' := [(0, .ref (a0 0)), (1, .int x1), (2, .int x2), (3, .ref d0), (4, .int x4), (5, .int 0)]) [1, 2, 3, 4, 5, 0] rfl ?_
          exact w_X9_gap_72 C (k34 := (fun (x4 : Int32) (w0 : Nat → Int32) (c : Nat) (s : Nat) => Own_gap_34 x1 v0 v1 v2 v3 x2 n x4 w0 c s)) ih FU _ _ _ _ _ hcs hf
        · replace hf := ifT c_7 hf
          refine ww_goto (tgt := 114) C dX9_gap_66 (by decide) ?_
          obtain ⟨x4_114, e_x4_114⟩ : ∃ y : Int32, y = x4 + 1 := ⟨_, rfl⟩
          replace hf := ltE e_x4_114 hf
          refine ww_iinc (v := x4_114) (lv' := [(4, .int x4_114), (0, .ref (a0 0)), (1, .int x1), (2, .int x2), (3, .ref d0)]) C dX9_gap_114 4 rfl (by rw [e_x4_114]; rfl) (by decide) rfl ?_
          refine ww_goto (tgt := 34) C dX9_gap_117 (by decide) ?_
          refine ww_sub C (lv' := [(0, .ref (a0 0)), (1, .int x1), (2, .int x2), (3, .ref d0), (4, .int x4_114)]) [1, 2, 3, 4, 0] rfl ?_
          exact ih _ _ _ _ _ hcs hf

set_option maxHeartbeats 4000000 in
set_option maxRecDepth 100000 in
theorem c_X9_gap {E : Ex} {a0 : Nat → Nat} {q1 : Nat} {a2 : Nat → Nat} {q3 : Nat} {h0_0 h0_1 : Nat} {x1 : Int32} {v0 : OwnV} {v1 : Nat} {v2 : RowsT} {v3 : Nat → Int32} {r : (Nat → Int32)} (hf : Own_gap x1 v0 v1 v2 v3 = some r) : Ct E yX9_gap wsX9_gap rmX9_gap [.ref (a0 0), .int x1] [wOwn E a0 (rf4 h0_0 h0_1 q1 q3) v0, wRO E q1 4 a2 v1, wRR E a2 v2, wArr E q3 4 v3] (fun rv g => ∃ (y0 : Nat), rv = some (.ref y0) ∧ g = [wOwn E a0 (rf4 h0_0 h0_1 q1 q3) v0, wRO E q1 4 a2 v1, wRR E a2 v2, wArr E q3 4 v3, wArr E y0 2 r]) := by
  refine ct_of (own := RX9) (by decide +kernel) rfl rfl (Nat.le_of_ble_eq_true rfl) (fun K C => ?_)
  refine ww_sub C (lv' := [(0, .ref (a0 0)), (1, .int x1)]) [0, 1] rfl ?_
  rw [Own_gap] at hf
  refine ww_aload_n C dX9_gap_0 rfl 0 rfl ?_
  obtain ⟨p1, hp1, hf⟩ := bdE hf
  refine ww_callV C (As := []) (st := []) (gr := [wArr E q3 4 v3]) (c_X9_cycle (E := E) (a0 := a0) (h0_0 := h0_0) (h0_1 := h0_1) (h0_3 := q3) (q1 := q1) (a2 := a2) hp1) gX9_gap_X9_cycle rfl yk_X9_cycle ⟨by decide, Nat.le_of_ble_eq_true rfl⟩ ⟨Nat.zero_le _, Nat.zero_le _⟩ clOK9 0 0 rfl rfl [0, 1, 2] [3] 4 rfl (by decide) rfl rfl (Nat.le_of_ble_eq_true rfl) dX9_gap_1 ?_
  rintro _ _ ⟨rfl, rfl⟩
  refine ww_perm (gs' := [wOwn E a0 (rf4 h0_0 h0_1 q1 q3) v0, wRO E q1 4 a2 v1, wRR E a2 v2, wArr E q3 4 v3]) [0, 1, 2, 3] 4 rfl (by decide) rfl ?_
  refine ww_istore_n (lv' := [(2, .int p1), (0, .ref (a0 0)), (1, .int x1)]) C dX9_gap_4 rfl (by decide) rfl ?_
  refine ww_iconst (v := 2) C dX9_gap_5 (by decide) ?_
  obtain ⟨g_1, hf⟩ := gdE hf
  refine ww_newi C (by decide +kernel) 2 (by decide) (by decide) (by decide) (of_decide_eq_true g_1) dX9_gap_6 (fun q6 => ?_)
  refine ww_eq (gs' := [wOwn E a0 (rf4 h0_0 h0_1 q1 q3) v0, wRO E q1 4 a2 v1, wRR E a2 v2, wArr E q3 4 v3, wArr E q6 2 (fun _ => 0)]) rfl ?_
  refine ww_dup C dX9_gap_8 rfl ?_
  refine ww_iconst (v := 0) C dX9_gap_9 (by decide) ?_
  refine ww_iconst (v := (-1)) C dX9_gap_10 (by decide) ?_
  obtain ⟨g_2, hf⟩ := gdE hf
  obtain ⟨v4_11, e_v4_11⟩ : ∃ y : Nat → Int32, y = upd (fun _ => 0) (Int32.toNatClampNeg 0) (-1) := ⟨_, rfl⟩
  replace hf := ltE e_v4_11 hf
  refine ww_iast C (f := (fun _ => 0)) (w := wArr E q6 2 (fun _ => 0)) (w' := wArr E q6 2 v4_11) (gs' := [wOwn E a0 (rf4 h0_0 h0_1 q1 q3) v0, wRO E q1 4 a2 v1, wRR E a2 v2, wArr E q3 4 v3, wArr E q6 2 v4_11]) 4 0 rfl q_Arr (inB_vp g_2) (by rw [e_v4_11]; exact s_Arr) rfl dX9_gap_11 ?_
  refine ww_dup C dX9_gap_12 rfl ?_
  refine ww_iconst (v := 1) C dX9_gap_13 (by decide) ?_
  refine ww_iconst (v := (-1)) C dX9_gap_14 (by decide) ?_
  obtain ⟨g_3, hf⟩ := gdE hf
  obtain ⟨v4_15, e_v4_15⟩ : ∃ y : Nat → Int32, y = upd v4_11 (Int32.toNatClampNeg 1) (-1) := ⟨_, rfl⟩
  replace hf := ltE e_v4_15 hf
  refine ww_iast C (f := v4_11) (w := wArr E q6 2 v4_11) (w' := wArr E q6 2 v4_15) (gs' := [wOwn E a0 (rf4 h0_0 h0_1 q1 q3) v0, wRO E q1 4 a2 v1, wRR E a2 v2, wArr E q3 4 v3, wArr E q6 2 v4_15]) 4 0 rfl q_Arr (inB_vp g_3) (by rw [e_v4_15]; exact s_Arr) rfl dX9_gap_15 ?_
  refine ww_astore_n (lv' := [(3, .ref q6), (2, .int p1), (0, .ref (a0 0)), (1, .int x1)]) C dX9_gap_16 rfl (by decide) rfl ?_
  refine ww_aload_n C dX9_gap_17 rfl 2 rfl ?_
  refine ww_iload_n C dX9_gap_18 rfl 3 rfl ?_
  obtain ⟨p19, hp19, hf⟩ := bdE hf
  refine ww_callV C (As := [.int x1]) (st := []) (gr := [wArr E q6 2 v4_15]) (c_X9_seen (E := E) (a0 := a0) (h0_0 := h0_0) (h0_1 := h0_1) (q1 := q1) (a2 := a2) (q3 := q3) hp19) gX9_gap_X9_seen rfl yk_X9_seen ⟨by decide, Nat.le_of_ble_eq_true rfl⟩ (of_decide_eq_true g_1) clOK9 0 0 rfl rfl [0, 1, 2, 3] [4] 5 rfl (by decide) rfl rfl (Nat.le_of_ble_eq_true rfl) dX9_gap_19 ?_
  rintro _ _ ⟨rfl, rfl⟩
  refine ww_perm (gs' := [wOwn E a0 (rf4 h0_0 h0_1 q1 q3) v0, wRO E q1 4 a2 v1, wRR E a2 v2, wArr E q3 4 v3, wArr E q6 2 v4_15]) [0, 1, 2, 3, 4] 5 rfl (by decide) rfl ?_
  refine ww_if_ne (tgt := 27) C dX9_gap_22 (by decide) (fun c_4 => ?_) (fun c_4 => ?_)
  · replace hf := ifF c_4 hf
    refine ww_aload_n C dX9_gap_27 rfl 0 rfl ?_
    refine ww_iconst (v := 0) C dX9_gap_28 (by decide) ?_
    refine ww_iconst (v := 0) C dX9_gap_29 (by decide) ?_
    obtain ⟨v4_30, e_v4_30⟩ : ∃ y : Nat → Int32, y = upd v4_15 (Int32.toNatClampNeg 0) 0 := ⟨_, rfl⟩
    replace hf := ltE e_v4_30 hf
    refine ww_iast C (f := v4_15) (w := wArr E q6 2 v4_15) (w' := wArr E q6 2 v4_30) (gs' := [wOwn E a0 (rf4 h0_0 h0_1 q1 q3) v0, wRO E q1 4 a2 v1, wRR E a2 v2, wArr E q3 4 v3, wArr E q6 2 v4_30]) 4 0 rfl q_Arr (inB_vp g_2) (by rw [e_v4_30]; exact s_Arr) rfl dX9_gap_30 ?_
    refine ww_iconst (v := 0) C dX9_gap_31 (by decide) ?_
    refine ww_istore (lv' := [(4, .int 0), (3, .ref q6), (2, .int p1), (0, .ref (a0 0)), (1, .int x1)]) C dX9_gap_32 (by decide) rfl ?_
    refine ww_sub C (lv' := [(0, .ref (a0 0)), (1, .int x1), (2, .int p1), (3, .ref q6), (4, .int 0)]) [3, 4, 2, 1, 0] rfl ?_
    exact w_X9_gap_34 C FU _ _ _ _ _ (of_decide_eq_true g_1) hf
  · replace hf := ifT c_4 hf
    refine ww_aload_n C dX9_gap_25 rfl 0 rfl ?_
    obtain rfl := Option.some.inj hf
    refine ww_widen (k := 13) (n := 26) (of_decide_eq_true g_1).1 (of_decide_eq_true g_1).2 ?_
    exact ww_aret C (Or.inr ⟨_, rfl⟩) ⟨_, rfl, rfl⟩ dX9_gap_26

theorem yk_X9_gap : yX9_gap.cls = RX9 ∧ yX9_gap.cls ≠ "java/lang/invoke/MethodHandle" ∧ yX9_gap.cls ≠ "java/lang/invoke/VarHandle" ∧ (parseMethodDescriptor yX9_gap.desc).map (fun d => d.parameters.length) = some 1 := by decide +kernel
abbrev rmX9_late : Room := { frames := 4, cells := 26, slots := 52, locals := 97 }
set_option maxRecDepth 20000 in
theorem in_X9_late_X9 : ∀ w ∈ u_ws RX9 TX9 8, w ∈ wsX9_late := by decide +kernel
set_option maxHeartbeats 4000000 in
set_option maxRecDepth 100000 in
theorem c_X9_late {E : Ex} {a0 : Nat → Nat} {q1 : Nat} {a2 : Nat → Nat} {q3 : Nat} {a4 : Nat → Nat} {q5 : Nat} {h0_0 : Nat} {x1 : Int32} {v0 : OwnV} {v1 : Nat} {v2 : RowsT} {v3 : Nat} {v4 : RowsT} {v5 : Nat → Int32} {r : Bool} (hf : Own_late x1 v0 v1 v2 v3 v4 v5 = some r) : Ct E yX9_late wsX9_late rmX9_late [.ref (a0 0), .int x1] [wOwn E a0 (rf4 h0_0 q1 q3 q5) v0, wRO E q1 12 a2 v1, wRR E a2 v2, wRO E q3 4 a4 v3, wRR E a4 v4, wArr E q5 4 v5] (fun rv g => rv = some (.int (b2i r)) ∧ g = [wOwn E a0 (rf4 h0_0 q1 q3 q5) v0, wRO E q1 12 a2 v1, wRR E a2 v2, wRO E q3 4 a4 v3, wRR E a4 v4, wArr E q5 4 v5]) := by
  refine ct_of (own := RX9) (by decide +kernel) rfl rfl (Nat.le_of_ble_eq_true rfl) (fun K C => ?_)
  refine ww_sub C (lv' := [(0, .ref (a0 0)), (1, .int x1)]) [0, 1] rfl ?_
  rw [Own_late] at hf
  refine ww_aload_n C dX9_late_0 rfl 0 rfl ?_
  refine ww_iload_n C dX9_late_1 rfl 1 rfl ?_
  obtain ⟨g_1, hf⟩ := gdE hf
  obtain ⟨p2, hp2, hf⟩ := bdE hf
  refine ww_callV C (As := [.int x1]) (st := []) (gr := [wRO E q1 12 a2 v1, wRR E a2 v2]) (c_X9_gap (E := E) (a0 := a0) (h0_0 := h0_0) (h0_1 := q1) (q1 := q3) (a2 := a4) (q3 := q5) hp2) gX9_late_X9_gap rfl yk_X9_gap ⟨by decide, Nat.le_of_ble_eq_true rfl⟩ (of_decide_eq_true g_1) clOK9 0 0 rfl rfl [0, 3, 4, 5] [1, 2] 6 rfl (by decide) rfl rfl (Nat.le_of_ble_eq_true rfl) dX9_late_2 ?_
  rintro _ _ ⟨y2_0, rfl, rfl⟩
  refine ww_perm (gs' := [wOwn E a0 (rf4 h0_0 q1 q3 q5) v0, wRO E q1 12 a2 v1, wRR E a2 v2, wRO E q3 4 a4 v3, wRR E a4 v4, wArr E q5 4 v5, wArr E y2_0 2 p2]) [0, 5, 6, 1, 2, 3, 4] 7 rfl (by decide) rfl ?_
  refine ww_iconst (v := 0) C dX9_late_5 (by decide) ?_
  obtain ⟨g_2, hf⟩ := gdE hf
  refine ww_iald C (f := p2) (w := wArr E y2_0 2 p2) 6 0 rfl q_Arr (inB_vp g_2) dX9_late_6 ?_
  refine ww_if_lt (tgt := 28) C dX9_late_7 (by decide) (fun c_3 => ?_) (fun c_3 => ?_)
  · replace hf := ifT c_3 hf
    refine ww_iconst (v := 1) C dX9_late_28 (by decide) ?_
    refine ww_goto (tgt := 33) C dX9_late_29 (by decide) ?_
    obtain rfl := Option.some.inj hf
    refine ww_drop (gs' := [wOwn E a0 (rf4 h0_0 q1 q3 q5) v0, wRO E q1 12 a2 v1, wRR E a2 v2, wRO E q3 4 a4 v3, wRR E a4 v4, wArr E q5 4 v5]) [0, 1, 2, 3, 4, 5] [6] 7 rfl (by decide) rfl ?_
    refine ww_widen (k := 26) (n := 52) (of_decide_eq_true g_1).1 (of_decide_eq_true g_1).2 ?_
    exact ww_zret C (nar_b true) ⟨rfl, rfl⟩ dX9_late_33
  · replace hf := ifF c_3 hf
    refine ww_aload_n C dX9_late_10 rfl 0 rfl ?_
    refine ww_iload_n C dX9_late_11 rfl 1 rfl ?_
    obtain ⟨g_4, hf⟩ := gdE hf
    obtain ⟨p12, hp12, hf⟩ := bdE hf
    refine ww_callV C (As := [.int x1]) (st := []) (gr := [wRO E q1 12 a2 v1, wRR E a2 v2, wArr E y2_0 2 p2]) (c_X9_gap (E := E) (a0 := a0) (h0_0 := h0_0) (h0_1 := q1) (q1 := q3) (a2 := a4) (q3 := q5) hp12) gX9_late_X9_gap rfl yk_X9_gap ⟨by decide, Nat.le_of_ble_eq_true rfl⟩ (of_decide_eq_true g_4) clOK9 0 0 rfl rfl [0, 3, 4, 5] [1, 2, 6] 7 rfl (by decide) rfl rfl (Nat.le_of_ble_eq_true rfl) dX9_late_12 ?_
    rintro _ _ ⟨y12_0, rfl, rfl⟩
    refine ww_perm (gs' := [wOwn E a0 (rf4 h0_0 q1 q3 q5) v0, wRO E q1 12 a2 v1, wRR E a2 v2, wRO E q3 4 a4 v3, wRR E a4 v4, wArr E q5 4 v5, wArr E y2_0 2 p2, wArr E y12_0 2 p12]) [0, 5, 6, 1, 2, 3, 7, 4] 8 rfl (by decide) rfl ?_
    refine ww_iconst (v := 0) C dX9_late_15 (by decide) ?_
    refine ww_iald C (f := p12) (w := wArr E y12_0 2 p12) 7 0 rfl q_Arr (inB_vp g_2) dX9_late_16 ?_
    refine ww_aload_n C dX9_late_17 rfl 0 rfl ?_
    refine ww_get C clOK9 in_X9_late_X9 (w := wOwn E a0 (rf4 h0_0 q1 q3 q5) v0) (fs := fsOwn a0 (rf4 h0_0 q1 q3 q5) v0) (v := .ref q1) 0 0 5 rfl q_Own (by decide) (by decide +kernel) g_Own_room dX9_late_18 ?_
    refine ww_iload_n C dX9_late_21 rfl 1 rfl ?_
    obtain ⟨g_5, hf⟩ := gdE hf
    obtain ⟨g_6, hf⟩ := gdE hf
    refine ww_aldR C (f := roF a2 v1) (w := wRO E q1 12 a2 v1) 1 0 rfl q_RO (inB_vp g_5) (roF_at (of_decide_eq_true g_6)) dX9_late_22 ?_
    refine ww_iconst (v := 0) C dX9_late_23 (by decide) ?_
    obtain ⟨g_7, hf⟩ := gdE hf
    obtain ⟨g_8, hf⟩ := gdE hf
    refine ww_iald C (f := v2.2.2 (Int32.toNatClampNeg x1)) (w := wRR E a2 v2) 2 (Int32.toNatClampNeg x1) rfl (q_RR (of_decide_eq_true g_7)) (inB_vp g_8) dX9_late_24 ?_
    refine ww_icmp_le (tgt := 32) C dX9_late_25 (by decide) (fun c_9 => ?_) (fun c_9 => ?_)
    · replace hf := ifT c_9 hf
      refine ww_iconst (v := 0) C dX9_late_32 (by decide) ?_
      obtain rfl := Option.some.inj hf
      refine ww_drop (gs' := [wOwn E a0 (rf4 h0_0 q1 q3 q5) v0, wRO E q1 12 a2 v1, wRR E a2 v2, wRO E q3 4 a4 v3, wRR E a4 v4, wArr E q5 4 v5]) [0, 1, 2, 3, 4, 5] [6, 7] 8 rfl (by decide) rfl ?_
      refine ww_widen (k := 26) (n := 52) (of_decide_eq_true g_4).1 (of_decide_eq_true g_4).2 ?_
      exact ww_zret C (nar_b false) ⟨rfl, rfl⟩ dX9_late_33
    · replace hf := ifF c_9 hf
      refine ww_iconst (v := 1) C dX9_late_28 (by decide) ?_
      refine ww_goto (tgt := 33) C dX9_late_29 (by decide) ?_
      obtain rfl := Option.some.inj hf
      refine ww_drop (gs' := [wOwn E a0 (rf4 h0_0 q1 q3 q5) v0, wRO E q1 12 a2 v1, wRR E a2 v2, wRO E q3 4 a4 v3, wRR E a4 v4, wArr E q5 4 v5]) [0, 1, 2, 3, 4, 5] [6, 7] 8 rfl (by decide) rfl ?_
      refine ww_widen (k := 26) (n := 52) (of_decide_eq_true g_4).1 (of_decide_eq_true g_4).2 ?_
      exact ww_zret C (nar_b true) ⟨rfl, rfl⟩ dX9_late_33

theorem yk_X9_late : yX9_late.cls = RX9 ∧ yX9_late.cls ≠ "java/lang/invoke/MethodHandle" ∧ yX9_late.cls ≠ "java/lang/invoke/VarHandle" ∧ (parseMethodDescriptor yX9_late.desc).map (fun d => d.parameters.length) = some 1 := by decide +kernel
abbrev rmX9_worst : Room := { frames := 4, cells := 78, slots := 156, locals := 97 }
set_option maxRecDepth 20000 in
theorem in_X9_worst_X9 : ∀ w ∈ u_ws RX9 TX9 8, w ∈ wsX9_worst := by decide +kernel
set_option maxHeartbeats 4000000 in
set_option maxRecDepth 100000 in
theorem w_X9_worst_4 {E : Ex} {K : Kx} (C : Cx E K cX9_worst 3 (some .int) RX9 wsX9_worst rmX9_worst) {a0 : Nat → Nat} {q1 : Nat} {a2 : Nat → Nat} {q3 : Nat} {h0_0 h0_1 : Nat} {v0 : OwnV} {v1 : Nat} {v2 : RowsT} {v3 : Nat → Int32}  {r : Int32} : ∀ (n : Nat)  (x1 : Int32) (x2 : Int32) (c : Nat) (s : Nat), c ≤ 78 ∧ s ≤ 156 → Own_worst_4 v0 v1 v2 v3 n x1 x2 c s = some r → WW E K c s (QQ E K (fun rv g => rv = some (.int r) ∧ g = [wOwn E a0 (rf4 h0_0 h0_1 q1 q3) v0, wRO E q1 4 a2 v1, wRR E a2 v2, wArr E q3 4 v3]) 78 156) 4 [(0, .ref (a0 0)), (1, .int x1), (2, .int x2)] [] [wOwn E a0 (rf4 h0_0 h0_1 q1 q3) v0, wRO E q1 4 a2 v1, wRR E a2 v2, wArr E q3 4 v3] := by
  intro n
  induction n with
  | zero =>
    intro  x1 x2 c s hcs hf
    simp [Own_worst_4] at hf
  | succ n ih =>
    intro  x1 x2 c s hcs hf
    rw [Own_worst_4] at hf
    refine ww_iload_n C dX9_worst_4 rfl 2 rfl ?_
    refine ww_aload_n C dX9_worst_5 rfl 0 rfl ?_
    refine ww_get C clOK9 in_X9_worst_X9 (w := wOwn E a0 (rf4 h0_0 h0_1 q1 q3) v0) (fs := fsOwn a0 (rf4 h0_0 h0_1 q1 q3) v0) (v := .int (Own_rooms v0)) 0 0 0 rfl q_Own (by decide) (by decide +kernel) g_Own_rooms dX9_worst_6 ?_
    refine ww_icmp_ge (tgt := 30) C dX9_worst_9 (by decide) (fun c_1 => ?_) (fun c_1 => ?_)
    · replace hf := ifT c_1 hf
      refine ww_iload_n C dX9_worst_30 rfl 1 rfl ?_
      obtain rfl := Option.some.inj hf
      refine ww_widen (k := 78) (n := 156) hcs.1 hcs.2 ?_
      exact ww_iret C ⟨rfl, rfl⟩ dX9_worst_31
    · replace hf := ifF c_1 hf
      refine ww_iload_n C dX9_worst_12 rfl 1 rfl ?_
      refine ww_aload_n C dX9_worst_13 rfl 0 rfl ?_
      refine ww_iload_n C dX9_worst_14 rfl 2 rfl ?_
      obtain ⟨g_2, hf⟩ := gdE hf
      obtain ⟨p15, hp15, hf⟩ := bdE hf
      refine ww_callV C (As := [.int x2]) (st := [.int x1]) (gr := []) (c_X9_gap (E := E) (a0 := a0) (h0_0 := h0_0) (h0_1 := h0_1) (q1 := q1) (a2 := a2) (q3 := q3) hp15) gX9_worst_X9_gap rfl yk_X9_gap ⟨by decide, Nat.le_of_ble_eq_true rfl⟩ (of_decide_eq_true g_2) clOK9 0 0 rfl rfl [0, 1, 2, 3] [] 4 rfl (by decide) rfl rfl (Nat.le_of_ble_eq_true rfl) dX9_worst_15 ?_
      rintro _ _ ⟨y15_0, rfl, rfl⟩
      refine ww_perm (gs' := [wOwn E a0 (rf4 h0_0 h0_1 q1 q3) v0, wRO E q1 4 a2 v1, wRR E a2 v2, wArr E q3 4 v3, wArr E y15_0 2 p15]) [0, 1, 2, 3, 4] 5 rfl (by decide) rfl ?_
      refine ww_iconst (v := 0) C dX9_worst_18 (by decide) ?_
      obtain ⟨g_3, hf⟩ := gdE hf
      refine ww_iald C (f := p15) (w := wArr E y15_0 2 p15) 4 0 rfl q_Arr (inB_vp g_3) dX9_worst_19 ?_
      refine ww_max C (by decide +kernel) (by decide +kernel) (by decide +kernel) (by decide +kernel) (by decide) (Nat.le_of_ble_eq_true rfl) (of_decide_eq_true g_2).1 (of_decide_eq_true g_2).2 dX9_worst_20 ?_
      refine ww_topi (fun x1_23 e_x1_23 => ?_)
      replace hf := ltE e_x1_23 hf
      refine ww_istore_n (lv' := [(1, .int x1_23), (0, .ref (a0 0)), (2, .int x2)]) C dX9_worst_23 rfl (by decide) rfl ?_
      obtain ⟨x2_24, e_x2_24⟩ : ∃ y : Int32, y = x2 + 1 := ⟨_, rfl⟩
      replace hf := ltE e_x2_24 hf
      refine ww_iinc (v := x2_24) (lv' := [(2, .int x2_24), (1, .int x1_23), (0, .ref (a0 0))]) C dX9_worst_24 2 rfl (by rw [e_x2_24]; rfl) (by decide) rfl ?_
      refine ww_goto (tgt := 4) C dX9_worst_27 (by decide) ?_
      refine ww_drop (gs' := [wOwn E a0 (rf4 h0_0 h0_1 q1 q3) v0, wRO E q1 4 a2 v1, wRR E a2 v2, wArr E q3 4 v3]) [0, 1, 2, 3] [4] 5 rfl (by decide) rfl ?_
      refine ww_sub C (lv' := [(0, .ref (a0 0)), (1, .int x1_23), (2, .int x2_24)]) [2, 1, 0] rfl ?_
      exact ih _ _ _ _ (of_decide_eq_true g_2) hf

set_option maxHeartbeats 4000000 in
set_option maxRecDepth 100000 in
theorem c_X9_worst {E : Ex} {a0 : Nat → Nat} {q1 : Nat} {a2 : Nat → Nat} {q3 : Nat} {h0_0 h0_1 : Nat} {v0 : OwnV} {v1 : Nat} {v2 : RowsT} {v3 : Nat → Int32} {r : Int32} (hf : Own_worst v0 v1 v2 v3 = some r) : Ct E yX9_worst wsX9_worst rmX9_worst [.ref (a0 0)] [wOwn E a0 (rf4 h0_0 h0_1 q1 q3) v0, wRO E q1 4 a2 v1, wRR E a2 v2, wArr E q3 4 v3] (fun rv g => rv = some (.int r) ∧ g = [wOwn E a0 (rf4 h0_0 h0_1 q1 q3) v0, wRO E q1 4 a2 v1, wRR E a2 v2, wArr E q3 4 v3]) := by
  refine ct_of (own := RX9) (by decide +kernel) rfl rfl (Nat.le_of_ble_eq_true rfl) (fun K C => ?_)
  refine ww_sub C (lv' := [(0, .ref (a0 0))]) [0] rfl ?_
  rw [Own_worst] at hf
  refine ww_iconst (v := 0) C dX9_worst_0 (by decide) ?_
  refine ww_istore_n (lv' := [(1, .int 0), (0, .ref (a0 0))]) C dX9_worst_1 rfl (by decide) rfl ?_
  refine ww_iconst (v := 0) C dX9_worst_2 (by decide) ?_
  refine ww_istore_n (lv' := [(2, .int 0), (1, .int 0), (0, .ref (a0 0))]) C dX9_worst_3 rfl (by decide) rfl ?_
  refine ww_sub C (lv' := [(0, .ref (a0 0)), (1, .int 0), (2, .int 0)]) [2, 1, 0] rfl ?_
  exact w_X9_worst_4 C FU _ _ _ _ ⟨Nat.zero_le _, Nat.zero_le _⟩ hf

theorem yk_X9_worst : yX9_worst.cls = RX9 ∧ yX9_worst.cls ≠ "java/lang/invoke/MethodHandle" ∧ yX9_worst.cls ≠ "java/lang/invoke/VarHandle" ∧ (parseMethodDescriptor yX9_worst.desc).map (fun d => d.parameters.length) = some 0 := by decide +kernel
abbrev rmX9_lates : Room := { frames := 5, cells := 156, slots := 312, locals := 118 }
set_option maxRecDepth 20000 in
theorem in_X9_lates_X9 : ∀ w ∈ u_ws RX9 TX9 8, w ∈ wsX9_lates := by decide +kernel
set_option maxHeartbeats 4000000 in
set_option maxRecDepth 100000 in
theorem w_X9_lates_4 {E : Ex} {K : Kx} (C : Cx E K cX9_lates 3 (some .int) RX9 wsX9_lates rmX9_lates) {a0 : Nat → Nat} {q1 : Nat} {a2 : Nat → Nat} {q3 : Nat} {a4 : Nat → Nat} {q5 : Nat} {h0_0 : Nat} {v0 : OwnV} {v1 : Nat} {v2 : RowsT} {v3 : Nat} {v4 : RowsT} {v5 : Nat → Int32}  {r : Int32} : ∀ (n : Nat)  (x1 : Int32) (x2 : Int32) (c : Nat) (s : Nat), c ≤ 156 ∧ s ≤ 312 → Own_lates_4 v0 v1 v2 v3 v4 v5 n x1 x2 c s = some r → WW E K c s (QQ E K (fun rv g => rv = some (.int r) ∧ g = [wOwn E a0 (rf4 h0_0 q1 q3 q5) v0, wRO E q1 12 a2 v1, wRR E a2 v2, wRO E q3 4 a4 v3, wRR E a4 v4, wArr E q5 4 v5]) 156 312) 4 [(0, .ref (a0 0)), (1, .int x1), (2, .int x2)] [] [wOwn E a0 (rf4 h0_0 q1 q3 q5) v0, wRO E q1 12 a2 v1, wRR E a2 v2, wRO E q3 4 a4 v3, wRR E a4 v4, wArr E q5 4 v5] := by
  intro n
  induction n with
  | zero =>
    intro  x1 x2 c s hcs hf
    simp [Own_lates_4] at hf
  | succ n ih =>
    intro  x1 x2 c s hcs hf
    rw [Own_lates_4] at hf
    refine ww_iload_n C dX9_lates_4 rfl 2 rfl ?_
    refine ww_aload_n C dX9_lates_5 rfl 0 rfl ?_
    refine ww_get C clOK9 in_X9_lates_X9 (w := wOwn E a0 (rf4 h0_0 q1 q3 q5) v0) (fs := fsOwn a0 (rf4 h0_0 q1 q3 q5) v0) (v := .int (Own_rooms v0)) 0 0 0 rfl q_Own (by decide) (by decide +kernel) g_Own_rooms dX9_lates_6 ?_
    refine ww_icmp_ge (tgt := 34) C dX9_lates_9 (by decide) (fun c_1 => ?_) (fun c_1 => ?_)
    · replace hf := ifT c_1 hf
      refine ww_iload_n C dX9_lates_34 rfl 1 rfl ?_
      obtain rfl := Option.some.inj hf
      refine ww_widen (k := 156) (n := 312) hcs.1 hcs.2 ?_
      exact ww_iret C ⟨rfl, rfl⟩ dX9_lates_35
    · replace hf := ifF c_1 hf
      refine ww_iload_n C dX9_lates_12 rfl 1 rfl ?_
      refine ww_aload_n C dX9_lates_13 rfl 0 rfl ?_
      refine ww_iload_n C dX9_lates_14 rfl 2 rfl ?_
      obtain ⟨g_2, hf⟩ := gdE hf
      obtain ⟨p15, hp15, hf⟩ := bdE hf
      refine ww_callV C (As := [.int x2]) (st := [.int x1]) (gr := []) (c_X9_late (E := E) (a0 := a0) (h0_0 := h0_0) (q1 := q1) (a2 := a2) (q3 := q3) (a4 := a4) (q5 := q5) hp15) gX9_lates_X9_late rfl yk_X9_late ⟨by decide, Nat.le_of_ble_eq_true rfl⟩ (of_decide_eq_true g_2) clOK9 0 0 rfl rfl [0, 1, 2, 3, 4, 5] [] 6 rfl (by decide) rfl rfl (Nat.le_of_ble_eq_true rfl) dX9_lates_15 ?_
      rintro _ _ ⟨rfl, rfl⟩
      refine ww_perm (gs' := [wOwn E a0 (rf4 h0_0 q1 q3 q5) v0, wRO E q1 12 a2 v1, wRR E a2 v2, wRO E q3 4 a4 v3, wRR E a4 v4, wArr E q5 4 v5]) [0, 1, 2, 3, 4, 5] 6 rfl (by decide) rfl ?_
      refine ww_if_eqB (tgt := 25) C dX9_lates_18 (by decide) (fun c_3 => ?_) (fun c_3 => ?_)
      · replace hf := bfE c_3 hf
        refine ww_iconst (v := 0) C dX9_lates_25 (by decide) ?_
        refine ww_iadd C dX9_lates_26 ?_
        refine ww_topi (fun x1_27 e_x1_27 => ?_)
        replace hf := ltE e_x1_27 hf
        refine ww_istore_n (lv' := [(1, .int x1_27), (0, .ref (a0 0)), (2, .int x2)]) C dX9_lates_27 rfl (by decide) rfl ?_
        obtain ⟨x2_28, e_x2_28⟩ : ∃ y : Int32, y = x2 + 1 := ⟨_, rfl⟩
        replace hf := ltE e_x2_28 hf
        refine ww_iinc (v := x2_28) (lv' := [(2, .int x2_28), (1, .int x1_27), (0, .ref (a0 0))]) C dX9_lates_28 2 rfl (by rw [e_x2_28]; rfl) (by decide) rfl ?_
        refine ww_goto (tgt := 4) C dX9_lates_31 (by decide) ?_
        refine ww_sub C (lv' := [(0, .ref (a0 0)), (1, .int x1_27), (2, .int x2_28)]) [2, 1, 0] rfl ?_
        exact ih _ _ _ _ (of_decide_eq_true g_2) hf
      · replace hf := btE c_3 hf
        refine ww_iconst (v := 1) C dX9_lates_21 (by decide) ?_
        refine ww_goto (tgt := 26) C dX9_lates_22 (by decide) ?_
        refine ww_iadd C dX9_lates_26 ?_
        refine ww_topi (fun x1_27 e_x1_27 => ?_)
        replace hf := ltE e_x1_27 hf
        refine ww_istore_n (lv' := [(1, .int x1_27), (0, .ref (a0 0)), (2, .int x2)]) C dX9_lates_27 rfl (by decide) rfl ?_
        obtain ⟨x2_28, e_x2_28⟩ : ∃ y : Int32, y = x2 + 1 := ⟨_, rfl⟩
        replace hf := ltE e_x2_28 hf
        refine ww_iinc (v := x2_28) (lv' := [(2, .int x2_28), (1, .int x1_27), (0, .ref (a0 0))]) C dX9_lates_28 2 rfl (by rw [e_x2_28]; rfl) (by decide) rfl ?_
        refine ww_goto (tgt := 4) C dX9_lates_31 (by decide) ?_
        refine ww_sub C (lv' := [(0, .ref (a0 0)), (1, .int x1_27), (2, .int x2_28)]) [2, 1, 0] rfl ?_
        exact ih _ _ _ _ (of_decide_eq_true g_2) hf

set_option maxHeartbeats 4000000 in
set_option maxRecDepth 100000 in
theorem c_X9_lates {E : Ex} {a0 : Nat → Nat} {q1 : Nat} {a2 : Nat → Nat} {q3 : Nat} {a4 : Nat → Nat} {q5 : Nat} {h0_0 : Nat} {v0 : OwnV} {v1 : Nat} {v2 : RowsT} {v3 : Nat} {v4 : RowsT} {v5 : Nat → Int32} {r : Int32} (hf : Own_lates v0 v1 v2 v3 v4 v5 = some r) : Ct E yX9_lates wsX9_lates rmX9_lates [.ref (a0 0)] [wOwn E a0 (rf4 h0_0 q1 q3 q5) v0, wRO E q1 12 a2 v1, wRR E a2 v2, wRO E q3 4 a4 v3, wRR E a4 v4, wArr E q5 4 v5] (fun rv g => rv = some (.int r) ∧ g = [wOwn E a0 (rf4 h0_0 q1 q3 q5) v0, wRO E q1 12 a2 v1, wRR E a2 v2, wRO E q3 4 a4 v3, wRR E a4 v4, wArr E q5 4 v5]) := by
  refine ct_of (own := RX9) (by decide +kernel) rfl rfl (Nat.le_of_ble_eq_true rfl) (fun K C => ?_)
  refine ww_sub C (lv' := [(0, .ref (a0 0))]) [0] rfl ?_
  rw [Own_lates] at hf
  refine ww_iconst (v := 0) C dX9_lates_0 (by decide) ?_
  refine ww_istore_n (lv' := [(1, .int 0), (0, .ref (a0 0))]) C dX9_lates_1 rfl (by decide) rfl ?_
  refine ww_iconst (v := 0) C dX9_lates_2 (by decide) ?_
  refine ww_istore_n (lv' := [(2, .int 0), (1, .int 0), (0, .ref (a0 0))]) C dX9_lates_3 rfl (by decide) rfl ?_
  refine ww_sub C (lv' := [(0, .ref (a0 0)), (1, .int 0), (2, .int 0)]) [2, 1, 0] rfl ?_
  exact w_X9_lates_4 C FU _ _ _ _ ⟨Nat.zero_le _, Nat.zero_le _⟩ hf

theorem yk_X9_lates : yX9_lates.cls = RX9 ∧ yX9_lates.cls ≠ "java/lang/invoke/MethodHandle" ∧ yX9_lates.cls ≠ "java/lang/invoke/VarHandle" ∧ (parseMethodDescriptor yX9_lates.desc).map (fun d => d.parameters.length) = some 0 := by decide +kernel
abbrev rmX9_meets : Room := { frames := 1, cells := 0, slots := 0, locals := 23 }
set_option maxHeartbeats 4000000 in
set_option maxRecDepth 100000 in
theorem w_X9_meets_11 {E : Ex} {K : Kx} (C : Cx E K cX9_meets 6 (some .int) RX9 wsX9_meets rmX9_meets) {a0 : Nat → Nat} {q1 : Nat} {a2 : Nat → Nat} {q3 : Nat} {h0_0 h0_1 : Nat} {x1 : Int32} {x2 : Int32} {v0 : OwnV} {v1 : Nat} {v2 : RowsT} {v3 : Nat → Int32} {x4 : Int32} {r : Int32} : ∀ (n : Nat)  (x3 : Int32) (x5 : Int32), Own_meets_11 x1 x2 v0 v1 v2 v3 x4 n x3 x5 = some r → WW E K 0 0 (QQ E K (fun rv g => rv = some (.int r) ∧ g = [wOwn E a0 (rf4 h0_0 h0_1 q1 q3) v0, wRO E q1 4 a2 v1, wRR E a2 v2, wArr E q3 4 v3]) 0 0) 11 [(0, .ref (a0 0)), (1, .int x1), (2, .int x2), (3, .int x3), (4, .int x4), (5, .int x5)] [] [wOwn E a0 (rf4 h0_0 h0_1 q1 q3) v0, wRO E q1 4 a2 v1, wRR E a2 v2, wArr E q3 4 v3] := by
  intro n
  induction n with
  | zero =>
    intro  x3 x5 hf
    simp [Own_meets_11] at hf
  | succ n ih =>
    intro  x3 x5 hf
    rw [Own_meets_11] at hf
    refine ww_iload C dX9_meets_11 5 rfl ?_
    refine ww_iload C dX9_meets_13 4 rfl ?_
    refine ww_icmp_ge (tgt := 51) C dX9_meets_15 (by decide) (fun c_1 => ?_) (fun c_1 => ?_)
    · replace hf := ifT c_1 hf
      refine ww_iload_n C dX9_meets_51 rfl 3 rfl ?_
      obtain rfl := Option.some.inj hf
      exact ww_iret C ⟨rfl, rfl⟩ dX9_meets_52
    · replace hf := ifF c_1 hf
      refine ww_iload_n C dX9_meets_18 rfl 3 rfl ?_
      refine ww_aload_n C dX9_meets_19 rfl 0 rfl ?_
      refine ww_iload_n C dX9_meets_20 rfl 1 rfl ?_
      refine ww_iload C dX9_meets_21 5 rfl ?_
      refine ww_i2l C dX9_meets_23 ?_
      obtain ⟨p24, hp24, hf⟩ := bdE hf
      refine ww_callV C (As := [.int x1, .long (Int32.toInt64 x5)]) (st := [.int x3]) (gr := []) (c_X9_at (E := E) (a0 := a0) (h0_0 := h0_0) (h0_1 := h0_1) (q1 := q1) (a2 := a2) (q3 := q3) hp24) gX9_meets_X9_at rfl yk_X9_at ⟨by decide, Nat.le_of_ble_eq_true rfl⟩ ⟨by decide, by decide⟩ clOK9 0 0 rfl rfl [0, 1, 2, 3] [] 4 rfl (by decide) rfl rfl (Nat.le_of_ble_eq_true rfl) dX9_meets_24 ?_
      rintro _ _ ⟨rfl, rfl⟩
      refine ww_perm (gs' := [wOwn E a0 (rf4 h0_0 h0_1 q1 q3) v0, wRO E q1 4 a2 v1, wRR E a2 v2, wArr E q3 4 v3]) [0, 1, 2, 3] 4 rfl (by decide) rfl ?_
      refine ww_aload_n C dX9_meets_27 rfl 0 rfl ?_
      refine ww_iload_n C dX9_meets_28 rfl 2 rfl ?_
      refine ww_iload C dX9_meets_29 5 rfl ?_
      refine ww_i2l C dX9_meets_31 ?_
      obtain ⟨p32, hp32, hf⟩ := bdE hf
      refine ww_callV C (As := [.int x2, .long (Int32.toInt64 x5)]) (st := [.int p24, .int x3]) (gr := []) (c_X9_at (E := E) (a0 := a0) (h0_0 := h0_0) (h0_1 := h0_1) (q1 := q1) (a2 := a2) (q3 := q3) hp32) gX9_meets_X9_at rfl yk_X9_at ⟨by decide, Nat.le_of_ble_eq_true rfl⟩ ⟨by decide, by decide⟩ clOK9 0 0 rfl rfl [0, 1, 2, 3] [] 4 rfl (by decide) rfl rfl (Nat.le_of_ble_eq_true rfl) dX9_meets_32 ?_
      rintro _ _ ⟨rfl, rfl⟩
      refine ww_perm (gs' := [wOwn E a0 (rf4 h0_0 h0_1 q1 q3) v0, wRO E q1 4 a2 v1, wRR E a2 v2, wArr E q3 4 v3]) [0, 1, 2, 3] 4 rfl (by decide) rfl ?_
      refine ww_icmp_ne (tgt := 42) C dX9_meets_35 (by decide) (fun c_2 => ?_) (fun c_2 => ?_)
      · replace hf := ifF c_2 hf
        refine ww_iconst (v := 0) C dX9_meets_42 (by decide) ?_
        refine ww_iadd C dX9_meets_43 ?_
        refine ww_topi (fun x3_44 e_x3_44 => ?_)
        replace hf := ltE e_x3_44 hf
        refine ww_istore_n (lv' := [(3, .int x3_44), (0, .ref (a0 0)), (1, .int x1), (2, .int x2), (4, .int x4), (5, .int x5)]) C dX9_meets_44 rfl (by decide) rfl ?_
        obtain ⟨x5_45, e_x5_45⟩ : ∃ y : Int32, y = x5 + 1 := ⟨_, rfl⟩
        replace hf := ltE e_x5_45 hf
        refine ww_iinc (v := x5_45) (lv' := [(5, .int x5_45), (3, .int x3_44), (0, .ref (a0 0)), (1, .int x1), (2, .int x2), (4, .int x4)]) C dX9_meets_45 5 rfl (by rw [e_x5_45]; rfl) (by decide) rfl ?_
        refine ww_goto (tgt := 11) C dX9_meets_48 (by decide) ?_
        refine ww_sub C (lv' := [(0, .ref (a0 0)), (1, .int x1), (2, .int x2), (3, .int x3_44), (4, .int x4), (5, .int x5_45)]) [2, 3, 4, 1, 5, 0] rfl ?_
        exact ih _ _ hf
      · replace hf := ifT c_2 hf
        refine ww_iconst (v := 1) C dX9_meets_38 (by decide) ?_
        refine ww_goto (tgt := 43) C dX9_meets_39 (by decide) ?_
        refine ww_iadd C dX9_meets_43 ?_
        refine ww_topi (fun x3_44 e_x3_44 => ?_)
        replace hf := ltE e_x3_44 hf
        refine ww_istore_n (lv' := [(3, .int x3_44), (0, .ref (a0 0)), (1, .int x1), (2, .int x2), (4, .int x4), (5, .int x5)]) C dX9_meets_44 rfl (by decide) rfl ?_
        obtain ⟨x5_45, e_x5_45⟩ : ∃ y : Int32, y = x5 + 1 := ⟨_, rfl⟩
        replace hf := ltE e_x5_45 hf
        refine ww_iinc (v := x5_45) (lv' := [(5, .int x5_45), (3, .int x3_44), (0, .ref (a0 0)), (1, .int x1), (2, .int x2), (4, .int x4)]) C dX9_meets_45 5 rfl (by rw [e_x5_45]; rfl) (by decide) rfl ?_
        refine ww_goto (tgt := 11) C dX9_meets_48 (by decide) ?_
        refine ww_sub C (lv' := [(0, .ref (a0 0)), (1, .int x1), (2, .int x2), (3, .int x3_44), (4, .int x4), (5, .int x5_45)]) [2, 3, 4, 1, 5, 0] rfl ?_
        exact ih _ _ hf

set_option maxHeartbeats 4000000 in
set_option maxRecDepth 100000 in
theorem c_X9_meets {E : Ex} {a0 : Nat → Nat} {q1 : Nat} {a2 : Nat → Nat} {q3 : Nat} {h0_0 h0_1 : Nat} {x1 : Int32} {x2 : Int32} {v0 : OwnV} {v1 : Nat} {v2 : RowsT} {v3 : Nat → Int32} {r : Int32} (hf : Own_meets x1 x2 v0 v1 v2 v3 = some r) : Ct E yX9_meets wsX9_meets rmX9_meets [.ref (a0 0), .int x1, .int x2] [wOwn E a0 (rf4 h0_0 h0_1 q1 q3) v0, wRO E q1 4 a2 v1, wRR E a2 v2, wArr E q3 4 v3] (fun rv g => rv = some (.int r) ∧ g = [wOwn E a0 (rf4 h0_0 h0_1 q1 q3) v0, wRO E q1 4 a2 v1, wRR E a2 v2, wArr E q3 4 v3]) := by
  refine ct_of (own := RX9) (by decide +kernel) rfl rfl (Nat.le_of_ble_eq_true rfl) (fun K C => ?_)
  refine ww_sub C (lv' := [(0, .ref (a0 0)), (1, .int x1), (2, .int x2)]) [0, 1, 2] rfl ?_
  rw [Own_meets] at hf
  refine ww_iconst (v := 0) C dX9_meets_0 (by decide) ?_
  refine ww_istore_n (lv' := [(3, .int 0), (0, .ref (a0 0)), (1, .int x1), (2, .int x2)]) C dX9_meets_1 rfl (by decide) rfl ?_
  refine ww_aload_n C dX9_meets_2 rfl 1 rfl ?_
  obtain ⟨p3, hp3, hf⟩ := bdE hf
  refine ww_callV C (As := []) (st := []) (gr := [wArr E q3 4 v3]) (c_X9_cycle (E := E) (a0 := a0) (h0_0 := h0_0) (h0_1 := h0_1) (h0_3 := q3) (q1 := q1) (a2 := a2) hp3) gX9_meets_X9_cycle rfl yk_X9_cycle ⟨by decide, Nat.le_of_ble_eq_true rfl⟩ ⟨by decide, by decide⟩ clOK9 0 0 rfl rfl [0, 1, 2] [3] 4 rfl (by decide) rfl rfl (Nat.le_of_ble_eq_true rfl) dX9_meets_3 ?_
  rintro _ _ ⟨rfl, rfl⟩
  refine ww_perm (gs' := [wOwn E a0 (rf4 h0_0 h0_1 q1 q3) v0, wRO E q1 4 a2 v1, wRR E a2 v2, wArr E q3 4 v3]) [0, 1, 2, 3] 4 rfl (by decide) rfl ?_
  refine ww_istore (lv' := [(4, .int p3), (3, .int 0), (0, .ref (a0 0)), (1, .int x1), (2, .int x2)]) C dX9_meets_6 (by decide) rfl ?_
  refine ww_iconst (v := 0) C dX9_meets_8 (by decide) ?_
  refine ww_istore (lv' := [(5, .int 0), (4, .int p3), (3, .int 0), (0, .ref (a0 0)), (1, .int x1), (2, .int x2)]) C dX9_meets_9 (by decide) rfl ?_
  refine ww_sub C (lv' := [(0, .ref (a0 0)), (1, .int x1), (2, .int x2), (3, .int 0), (4, .int p3), (5, .int 0)]) [3, 4, 5, 2, 1, 0] rfl ?_
  exact w_X9_meets_11 C FU _ _ hf

theorem yk_X9_meets : yX9_meets.cls = RX9 ∧ yX9_meets.cls ≠ "java/lang/invoke/MethodHandle" ∧ yX9_meets.cls ≠ "java/lang/invoke/VarHandle" ∧ (parseMethodDescriptor yX9_meets.desc).map (fun d => d.parameters.length) = some 2 := by decide +kernel
abbrev rmX9_passes : Room := { frames := 1, cells := 0, slots := 0, locals := 23 }
set_option maxHeartbeats 4000000 in
set_option maxRecDepth 100000 in
theorem w_X9_passes_11 {E : Ex} {K : Kx} (C : Cx E K cX9_passes 6 (some .int) RX9 wsX9_passes rmX9_passes) {a0 : Nat → Nat} {q1 : Nat} {a2 : Nat → Nat} {q3 : Nat} {h0_0 h0_1 : Nat} {x1 : Int32} {x2 : Int32} {v0 : OwnV} {v1 : Nat} {v2 : RowsT} {v3 : Nat → Int32} {x4 : Int32} {r : Int32} : ∀ (n : Nat)  (x3 : Int32) (x5 : Int32), Own_passes_11 x1 x2 v0 v1 v2 v3 x4 n x3 x5 = some r → WW E K 0 0 (QQ E K (fun rv g => rv = some (.int r) ∧ g = [wOwn E a0 (rf4 h0_0 h0_1 q1 q3) v0, wRO E q1 4 a2 v1, wRR E a2 v2, wArr E q3 4 v3]) 0 0) 11 [(0, .ref (a0 0)), (1, .int x1), (2, .int x2), (3, .int x3), (4, .int x4), (5, .int x5)] [] [wOwn E a0 (rf4 h0_0 h0_1 q1 q3) v0, wRO E q1 4 a2 v1, wRR E a2 v2, wArr E q3 4 v3] := by
  intro n
  induction n with
  | zero =>
    intro  x3 x5 hf
    simp [Own_passes_11] at hf
  | succ n ih =>
    intro  x3 x5 hf
    rw [Own_passes_11] at hf
    refine ww_iload C dX9_passes_11 5 rfl ?_
    refine ww_iload C dX9_passes_13 4 rfl ?_
    refine ww_icmp_ge (tgt := 93) C dX9_passes_15 (by decide) (fun c_1 => ?_) (fun c_1 => ?_)
    · replace hf := ifT c_1 hf
      refine ww_iload_n C dX9_passes_93 rfl 3 rfl ?_
      obtain rfl := Option.some.inj hf
      exact ww_iret C ⟨rfl, rfl⟩ dX9_passes_94
    · replace hf := ifF c_1 hf
      refine ww_iload_n C dX9_passes_18 rfl 3 rfl ?_
      refine ww_aload_n C dX9_passes_19 rfl 0 rfl ?_
      refine ww_iload_n C dX9_passes_20 rfl 1 rfl ?_
      refine ww_iload C dX9_passes_21 5 rfl ?_
      refine ww_i2l C dX9_passes_23 ?_
      obtain ⟨p24, hp24, hf⟩ := bdE hf
      refine ww_callV C (As := [.int x1, .long (Int32.toInt64 x5)]) (st := [.int x3]) (gr := []) (c_X9_at (E := E) (a0 := a0) (h0_0 := h0_0) (h0_1 := h0_1) (q1 := q1) (a2 := a2) (q3 := q3) hp24) gX9_passes_X9_at rfl yk_X9_at ⟨by decide, Nat.le_of_ble_eq_true rfl⟩ ⟨by decide, by decide⟩ clOK9 0 0 rfl rfl [0, 1, 2, 3] [] 4 rfl (by decide) rfl rfl (Nat.le_of_ble_eq_true rfl) dX9_passes_24 ?_
      rintro _ _ ⟨rfl, rfl⟩
      refine ww_perm (gs' := [wOwn E a0 (rf4 h0_0 h0_1 q1 q3) v0, wRO E q1 4 a2 v1, wRR E a2 v2, wArr E q3 4 v3]) [0, 1, 2, 3] 4 rfl (by decide) rfl ?_
      refine ww_aload_n C dX9_passes_27 rfl 0 rfl ?_
      refine ww_iload_n C dX9_passes_28 rfl 2 rfl ?_
      refine ww_iload C dX9_passes_29 5 rfl ?_
      refine ww_i2l C dX9_passes_31 ?_
      obtain ⟨p32, hp32, hf⟩ := bdE hf
      refine ww_callV C (As := [.int x2, .long (Int32.toInt64 x5)]) (st := [.int p24, .int x3]) (gr := []) (c_X9_at (E := E) (a0 := a0) (h0_0 := h0_0) (h0_1 := h0_1) (q1 := q1) (a2 := a2) (q3 := q3) hp32) gX9_passes_X9_at rfl yk_X9_at ⟨by decide, Nat.le_of_ble_eq_true rfl⟩ ⟨by decide, by decide⟩ clOK9 0 0 rfl rfl [0, 1, 2, 3] [] 4 rfl (by decide) rfl rfl (Nat.le_of_ble_eq_true rfl) dX9_passes_32 ?_
      rintro _ _ ⟨rfl, rfl⟩
      refine ww_perm (gs' := [wOwn E a0 (rf4 h0_0 h0_1 q1 q3) v0, wRO E q1 4 a2 v1, wRR E a2 v2, wArr E q3 4 v3]) [0, 1, 2, 3] 4 rfl (by decide) rfl ?_
      refine ww_icmp_eq (tgt := 84) C dX9_passes_35 (by decide) (fun c_2 => ?_) (fun c_2 => ?_)
      · replace hf := ifT c_2 hf
        refine ww_iconst (v := 0) C dX9_passes_84 (by decide) ?_
        refine ww_iadd C dX9_passes_85 ?_
        refine ww_topi (fun x3_86 e_x3_86 => ?_)
        replace hf := ltE e_x3_86 hf
        refine ww_istore_n (lv' := [(3, .int x3_86), (0, .ref (a0 0)), (1, .int x1), (2, .int x2), (4, .int x4), (5, .int x5)]) C dX9_passes_86 rfl (by decide) rfl ?_
        obtain ⟨x5_87, e_x5_87⟩ : ∃ y : Int32, y = x5 + 1 := ⟨_, rfl⟩
        replace hf := ltE e_x5_87 hf
        refine ww_iinc (v := x5_87) (lv' := [(5, .int x5_87), (3, .int x3_86), (0, .ref (a0 0)), (1, .int x1), (2, .int x2), (4, .int x4)]) C dX9_passes_87 5 rfl (by rw [e_x5_87]; rfl) (by decide) rfl ?_
        refine ww_goto (tgt := 11) C dX9_passes_90 (by decide) ?_
        refine ww_sub C (lv' := [(0, .ref (a0 0)), (1, .int x1), (2, .int x2), (3, .int x3_86), (4, .int x4), (5, .int x5_87)]) [2, 3, 4, 1, 5, 0] rfl ?_
        exact ih _ _ hf
      · replace hf := ifF c_2 hf
        refine ww_aload_n C dX9_passes_38 rfl 0 rfl ?_
        refine ww_iload_n C dX9_passes_39 rfl 1 rfl ?_
        refine ww_iload C dX9_passes_40 5 rfl ?_
        refine ww_i2l C dX9_passes_42 ?_
        obtain ⟨p43, hp43, hf⟩ := bdE hf
        refine ww_callV C (As := [.int x1, .long (Int32.toInt64 x5)]) (st := [.int x3]) (gr := []) (c_X9_at (E := E) (a0 := a0) (h0_0 := h0_0) (h0_1 := h0_1) (q1 := q1) (a2 := a2) (q3 := q3) hp43) gX9_passes_X9_at rfl yk_X9_at ⟨by decide, Nat.le_of_ble_eq_true rfl⟩ ⟨by decide, by decide⟩ clOK9 0 0 rfl rfl [0, 1, 2, 3] [] 4 rfl (by decide) rfl rfl (Nat.le_of_ble_eq_true rfl) dX9_passes_43 ?_
        rintro _ _ ⟨rfl, rfl⟩
        refine ww_perm (gs' := [wOwn E a0 (rf4 h0_0 h0_1 q1 q3) v0, wRO E q1 4 a2 v1, wRR E a2 v2, wArr E q3 4 v3]) [0, 1, 2, 3] 4 rfl (by decide) rfl ?_
        refine ww_aload_n C dX9_passes_46 rfl 0 rfl ?_
        refine ww_iload_n C dX9_passes_47 rfl 2 rfl ?_
        refine ww_iload C dX9_passes_48 5 rfl ?_
        refine ww_iconst (v := 1) C dX9_passes_50 (by decide) ?_
        refine ww_iadd C dX9_passes_51 ?_
        refine ww_i2l C dX9_passes_52 ?_
        obtain ⟨p53, hp53, hf⟩ := bdE hf
        refine ww_callV C (As := [.int x2, .long (Int32.toInt64 (x5 + 1))]) (st := [.int p43, .int x3]) (gr := []) (c_X9_at (E := E) (a0 := a0) (h0_0 := h0_0) (h0_1 := h0_1) (q1 := q1) (a2 := a2) (q3 := q3) hp53) gX9_passes_X9_at rfl yk_X9_at ⟨by decide, Nat.le_of_ble_eq_true rfl⟩ ⟨by decide, by decide⟩ clOK9 0 0 rfl rfl [0, 1, 2, 3] [] 4 rfl (by decide) rfl rfl (Nat.le_of_ble_eq_true rfl) dX9_passes_53 ?_
        rintro _ _ ⟨rfl, rfl⟩
        refine ww_perm (gs' := [wOwn E a0 (rf4 h0_0 h0_1 q1 q3) v0, wRO E q1 4 a2 v1, wRR E a2 v2, wArr E q3 4 v3]) [0, 1, 2, 3] 4 rfl (by decide) rfl ?_
        refine ww_icmp_ne (tgt := 84) C dX9_passes_56 (by decide) (fun c_4 => ?_) (fun c_4 => ?_)
        · replace hf := ifF c_4 hf
          refine ww_iconst (v := 0) C dX9_passes_84 (by decide) ?_
          refine ww_iadd C dX9_passes_85 ?_
          refine ww_topi (fun x3_86 e_x3_86 => ?_)
          replace hf := ltE e_x3_86 hf
          refine ww_istore_n (lv' := [(3, .int x3_86), (0, .ref (a0 0)), (1, .int x1), (2, .int x2), (4, .int x4), (5, .int x5)]) C dX9_passes_86 rfl (by decide) rfl ?_
          obtain ⟨x5_87, e_x5_87⟩ : ∃ y : Int32, y = x5 + 1 := ⟨_, rfl⟩
          replace hf := ltE e_x5_87 hf
          refine ww_iinc (v := x5_87) (lv' := [(5, .int x5_87), (3, .int x3_86), (0, .ref (a0 0)), (1, .int x1), (2, .int x2), (4, .int x4)]) C dX9_passes_87 5 rfl (by rw [e_x5_87]; rfl) (by decide) rfl ?_
          refine ww_goto (tgt := 11) C dX9_passes_90 (by decide) ?_
          refine ww_sub C (lv' := [(0, .ref (a0 0)), (1, .int x1), (2, .int x2), (3, .int x3_86), (4, .int x4), (5, .int x5_87)]) [2, 3, 4, 1, 5, 0] rfl ?_
          exact ih _ _ hf
        · replace hf := ifT c_4 hf
          refine ww_aload_n C dX9_passes_59 rfl 0 rfl ?_
          refine ww_iload_n C dX9_passes_60 rfl 2 rfl ?_
          refine ww_iload C dX9_passes_61 5 rfl ?_
          refine ww_i2l C dX9_passes_63 ?_
          obtain ⟨p64, hp64, hf⟩ := bdE hf
          refine ww_callV C (As := [.int x2, .long (Int32.toInt64 x5)]) (st := [.int x3]) (gr := []) (c_X9_at (E := E) (a0 := a0) (h0_0 := h0_0) (h0_1 := h0_1) (q1 := q1) (a2 := a2) (q3 := q3) hp64) gX9_passes_X9_at rfl yk_X9_at ⟨by decide, Nat.le_of_ble_eq_true rfl⟩ ⟨by decide, by decide⟩ clOK9 0 0 rfl rfl [0, 1, 2, 3] [] 4 rfl (by decide) rfl rfl (Nat.le_of_ble_eq_true rfl) dX9_passes_64 ?_
          rintro _ _ ⟨rfl, rfl⟩
          refine ww_perm (gs' := [wOwn E a0 (rf4 h0_0 h0_1 q1 q3) v0, wRO E q1 4 a2 v1, wRR E a2 v2, wArr E q3 4 v3]) [0, 1, 2, 3] 4 rfl (by decide) rfl ?_
          refine ww_aload_n C dX9_passes_67 rfl 0 rfl ?_
          refine ww_iload_n C dX9_passes_68 rfl 1 rfl ?_
          refine ww_iload C dX9_passes_69 5 rfl ?_
          refine ww_iconst (v := 1) C dX9_passes_71 (by decide) ?_
          refine ww_iadd C dX9_passes_72 ?_
          refine ww_i2l C dX9_passes_73 ?_
          obtain ⟨p74, hp74, hf⟩ := bdE hf
          refine ww_callV C (As := [.int x1, .long (Int32.toInt64 (x5 + 1))]) (st := [.int p64, .int x3]) (gr := []) (c_X9_at (E := E) (a0 := a0) (h0_0 := h0_0) (h0_1 := h0_1) (q1 := q1) (a2 := a2) (q3 := q3) hp74) gX9_passes_X9_at rfl yk_X9_at ⟨by decide, Nat.le_of_ble_eq_true rfl⟩ ⟨by decide, by decide⟩ clOK9 0 0 rfl rfl [0, 1, 2, 3] [] 4 rfl (by decide) rfl rfl (Nat.le_of_ble_eq_true rfl) dX9_passes_74 ?_
          rintro _ _ ⟨rfl, rfl⟩
          refine ww_perm (gs' := [wOwn E a0 (rf4 h0_0 h0_1 q1 q3) v0, wRO E q1 4 a2 v1, wRR E a2 v2, wArr E q3 4 v3]) [0, 1, 2, 3] 4 rfl (by decide) rfl ?_
          refine ww_icmp_ne (tgt := 84) C dX9_passes_77 (by decide) (fun c_6 => ?_) (fun c_6 => ?_)
          · replace hf := ifF c_6 hf
            refine ww_iconst (v := 0) C dX9_passes_84 (by decide) ?_
            refine ww_iadd C dX9_passes_85 ?_
            refine ww_topi (fun x3_86 e_x3_86 => ?_)
            replace hf := ltE e_x3_86 hf
            refine ww_istore_n (lv' := [(3, .int x3_86), (0, .ref (a0 0)), (1, .int x1), (2, .int x2), (4, .int x4), (5, .int x5)]) C dX9_passes_86 rfl (by decide) rfl ?_
            obtain ⟨x5_87, e_x5_87⟩ : ∃ y : Int32, y = x5 + 1 := ⟨_, rfl⟩
            replace hf := ltE e_x5_87 hf
            refine ww_iinc (v := x5_87) (lv' := [(5, .int x5_87), (3, .int x3_86), (0, .ref (a0 0)), (1, .int x1), (2, .int x2), (4, .int x4)]) C dX9_passes_87 5 rfl (by rw [e_x5_87]; rfl) (by decide) rfl ?_
            refine ww_goto (tgt := 11) C dX9_passes_90 (by decide) ?_
            refine ww_sub C (lv' := [(0, .ref (a0 0)), (1, .int x1), (2, .int x2), (3, .int x3_86), (4, .int x4), (5, .int x5_87)]) [2, 3, 4, 1, 5, 0] rfl ?_
            exact ih _ _ hf
          · replace hf := ifT c_6 hf
            refine ww_iconst (v := 1) C dX9_passes_80 (by decide) ?_
            refine ww_goto (tgt := 85) C dX9_passes_81 (by decide) ?_
            refine ww_iadd C dX9_passes_85 ?_
            refine ww_topi (fun x3_86 e_x3_86 => ?_)
            replace hf := ltE e_x3_86 hf
            refine ww_istore_n (lv' := [(3, .int x3_86), (0, .ref (a0 0)), (1, .int x1), (2, .int x2), (4, .int x4), (5, .int x5)]) C dX9_passes_86 rfl (by decide) rfl ?_
            obtain ⟨x5_87, e_x5_87⟩ : ∃ y : Int32, y = x5 + 1 := ⟨_, rfl⟩
            replace hf := ltE e_x5_87 hf
            refine ww_iinc (v := x5_87) (lv' := [(5, .int x5_87), (3, .int x3_86), (0, .ref (a0 0)), (1, .int x1), (2, .int x2), (4, .int x4)]) C dX9_passes_87 5 rfl (by rw [e_x5_87]; rfl) (by decide) rfl ?_
            refine ww_goto (tgt := 11) C dX9_passes_90 (by decide) ?_
            refine ww_sub C (lv' := [(0, .ref (a0 0)), (1, .int x1), (2, .int x2), (3, .int x3_86), (4, .int x4), (5, .int x5_87)]) [2, 3, 4, 1, 5, 0] rfl ?_
            exact ih _ _ hf

set_option maxHeartbeats 4000000 in
set_option maxRecDepth 100000 in
theorem c_X9_passes {E : Ex} {a0 : Nat → Nat} {q1 : Nat} {a2 : Nat → Nat} {q3 : Nat} {h0_0 h0_1 : Nat} {x1 : Int32} {x2 : Int32} {v0 : OwnV} {v1 : Nat} {v2 : RowsT} {v3 : Nat → Int32} {r : Int32} (hf : Own_passes x1 x2 v0 v1 v2 v3 = some r) : Ct E yX9_passes wsX9_passes rmX9_passes [.ref (a0 0), .int x1, .int x2] [wOwn E a0 (rf4 h0_0 h0_1 q1 q3) v0, wRO E q1 4 a2 v1, wRR E a2 v2, wArr E q3 4 v3] (fun rv g => rv = some (.int r) ∧ g = [wOwn E a0 (rf4 h0_0 h0_1 q1 q3) v0, wRO E q1 4 a2 v1, wRR E a2 v2, wArr E q3 4 v3]) := by
  refine ct_of (own := RX9) (by decide +kernel) rfl rfl (Nat.le_of_ble_eq_true rfl) (fun K C => ?_)
  refine ww_sub C (lv' := [(0, .ref (a0 0)), (1, .int x1), (2, .int x2)]) [0, 1, 2] rfl ?_
  rw [Own_passes] at hf
  refine ww_iconst (v := 0) C dX9_passes_0 (by decide) ?_
  refine ww_istore_n (lv' := [(3, .int 0), (0, .ref (a0 0)), (1, .int x1), (2, .int x2)]) C dX9_passes_1 rfl (by decide) rfl ?_
  refine ww_aload_n C dX9_passes_2 rfl 1 rfl ?_
  obtain ⟨p3, hp3, hf⟩ := bdE hf
  refine ww_callV C (As := []) (st := []) (gr := [wArr E q3 4 v3]) (c_X9_cycle (E := E) (a0 := a0) (h0_0 := h0_0) (h0_1 := h0_1) (h0_3 := q3) (q1 := q1) (a2 := a2) hp3) gX9_passes_X9_cycle rfl yk_X9_cycle ⟨by decide, Nat.le_of_ble_eq_true rfl⟩ ⟨by decide, by decide⟩ clOK9 0 0 rfl rfl [0, 1, 2] [3] 4 rfl (by decide) rfl rfl (Nat.le_of_ble_eq_true rfl) dX9_passes_3 ?_
  rintro _ _ ⟨rfl, rfl⟩
  refine ww_perm (gs' := [wOwn E a0 (rf4 h0_0 h0_1 q1 q3) v0, wRO E q1 4 a2 v1, wRR E a2 v2, wArr E q3 4 v3]) [0, 1, 2, 3] 4 rfl (by decide) rfl ?_
  refine ww_istore (lv' := [(4, .int p3), (3, .int 0), (0, .ref (a0 0)), (1, .int x1), (2, .int x2)]) C dX9_passes_6 (by decide) rfl ?_
  refine ww_iconst (v := 0) C dX9_passes_8 (by decide) ?_
  refine ww_istore (lv' := [(5, .int 0), (4, .int p3), (3, .int 0), (0, .ref (a0 0)), (1, .int x1), (2, .int x2)]) C dX9_passes_9 (by decide) rfl ?_
  refine ww_sub C (lv' := [(0, .ref (a0 0)), (1, .int x1), (2, .int x2), (3, .int 0), (4, .int p3), (5, .int 0)]) [3, 4, 5, 2, 1, 0] rfl ?_
  exact w_X9_passes_11 C FU _ _ hf

theorem yk_X9_passes : yX9_passes.cls = RX9 ∧ yX9_passes.cls ≠ "java/lang/invoke/MethodHandle" ∧ yX9_passes.cls ≠ "java/lang/invoke/VarHandle" ∧ (parseMethodDescriptor yX9_passes.desc).map (fun d => d.parameters.length) = some 2 := by decide +kernel
abbrev rmX9_crossings : Room := { frames := 2, cells := 0, slots := 0, locals := 48 }
set_option maxRecDepth 20000 in
theorem in_X9_crossings_X9 : ∀ w ∈ u_ws RX9 TX9 8, w ∈ wsX9_crossings := by decide +kernel
set_option maxHeartbeats 4000000 in
set_option maxRecDepth 100000 in
theorem w_X9_crossings_16 {E : Ex} {K : Kx} (C : Cx E K cX9_crossings 4 (some .int) RX9 wsX9_crossings rmX9_crossings) {a0 : Nat → Nat} {q1 : Nat} {a2 : Nat → Nat} {q3 : Nat} {h0_0 h0_1 : Nat} {v0 : OwnV} {v1 : Nat} {v2 : RowsT} {v3 : Nat → Int32} {x2 : Int32} {k4 : Int32 → Int32 → Option Int32} {r : Int32} (hk4 : ∀  (x1 : Int32) (x2 : Int32), k4 x1 x2 = some r → WW E K 0 0 (QQ E K (fun rv g => rv = some (.int r) ∧ g = [wOwn E a0 (rf4 h0_0 h0_1 q1 q3) v0, wRO E q1 4 a2 v1, wRR E a2 v2, wArr E q3 4 v3]) 0 0) 4 [(0, .ref (a0 0)), (1, .int x1), (2, .int x2)] [] [wOwn E a0 (rf4 h0_0 h0_1 q1 q3) v0, wRO E q1 4 a2 v1, wRR E a2 v2, wArr E q3 4 v3]) : ∀ (n : Nat)  (x1 : Int32) (x3 : Int32), Own_crossings_16 v0 v1 v2 v3 x2 k4 n x1 x3 = some r → WW E K 0 0 (QQ E K (fun rv g => rv = some (.int r) ∧ g = [wOwn E a0 (rf4 h0_0 h0_1 q1 q3) v0, wRO E q1 4 a2 v1, wRR E a2 v2, wArr E q3 4 v3]) 0 0) 16 [(0, .ref (a0 0)), (1, .int x1), (2, .int x2), (3, .int x3)] [] [wOwn E a0 (rf4 h0_0 h0_1 q1 q3) v0, wRO E q1 4 a2 v1, wRR E a2 v2, wArr E q3 4 v3] := by
  intro n
  induction n with
  | zero =>
    intro  x1 x3 hf
    simp [Own_crossings_16] at hf
  | succ n ih =>
    intro  x1 x3 hf
    rw [Own_crossings_16] at hf
    refine ww_iload_n C dX9_crossings_16 rfl 3 rfl ?_
    refine ww_aload_n C dX9_crossings_17 rfl 0 rfl ?_
    refine ww_get C clOK9 in_X9_crossings_X9 (w := wOwn E a0 (rf4 h0_0 h0_1 q1 q3) v0) (fs := fsOwn a0 (rf4 h0_0 h0_1 q1 q3) v0) (v := .int (Own_guards v0)) 0 0 2 rfl q_Own (by decide) (by decide +kernel) g_Own_guards dX9_crossings_18 ?_
    refine ww_icmp_ge (tgt := 46) C dX9_crossings_21 (by decide) (fun c_3 => ?_) (fun c_3 => ?_)
    · replace hf := ifT c_3 hf
      obtain ⟨x2_46, e_x2_46⟩ : ∃ y : Int32, y = x2 + 1 := ⟨_, rfl⟩
      replace hf := ltE e_x2_46 hf
      refine ww_iinc (v := x2_46) (lv' := [(2, .int x2_46), (0, .ref (a0 0)), (1, .int x1), (3, .int x3)]) C dX9_crossings_46 2 rfl (by rw [e_x2_46]; rfl) (by decide) rfl ?_
      refine ww_goto (tgt := 4) C dX9_crossings_49 (by decide) ?_
      refine ww_sub C (lv' := [(0, .ref (a0 0)), (1, .int x1), (2, .int x2_46)]) [1, 2, 0] rfl ?_
      exact hk4 _ _ hf
    · replace hf := ifF c_3 hf
      refine ww_iload_n C dX9_crossings_24 rfl 1 rfl ?_
      refine ww_aload_n C dX9_crossings_25 rfl 0 rfl ?_
      refine ww_iload_n C dX9_crossings_26 rfl 2 rfl ?_
      refine ww_iload_n C dX9_crossings_27 rfl 3 rfl ?_
      obtain ⟨p28, hp28, hf⟩ := bdE hf
      refine ww_callV C (As := [.int x2, .int x3]) (st := [.int x1]) (gr := []) (c_X9_meets (E := E) (a0 := a0) (h0_0 := h0_0) (h0_1 := h0_1) (q1 := q1) (a2 := a2) (q3 := q3) hp28) gX9_crossings_X9_meets rfl yk_X9_meets ⟨by decide, Nat.le_of_ble_eq_true rfl⟩ ⟨by decide, by decide⟩ clOK9 0 0 rfl rfl [0, 1, 2, 3] [] 4 rfl (by decide) rfl rfl (Nat.le_of_ble_eq_true rfl) dX9_crossings_28 ?_
      rintro _ _ ⟨rfl, rfl⟩
      refine ww_perm (gs' := [wOwn E a0 (rf4 h0_0 h0_1 q1 q3) v0, wRO E q1 4 a2 v1, wRR E a2 v2, wArr E q3 4 v3]) [0, 1, 2, 3] 4 rfl (by decide) rfl ?_
      refine ww_aload_n C dX9_crossings_31 rfl 0 rfl ?_
      refine ww_iload_n C dX9_crossings_32 rfl 2 rfl ?_
      refine ww_iload_n C dX9_crossings_33 rfl 3 rfl ?_
      obtain ⟨p34, hp34, hf⟩ := bdE hf
      refine ww_callV C (As := [.int x2, .int x3]) (st := [.int p28, .int x1]) (gr := []) (c_X9_passes (E := E) (a0 := a0) (h0_0 := h0_0) (h0_1 := h0_1) (q1 := q1) (a2 := a2) (q3 := q3) hp34) gX9_crossings_X9_passes rfl yk_X9_passes ⟨by decide, Nat.le_of_ble_eq_true rfl⟩ ⟨by decide, by decide⟩ clOK9 0 0 rfl rfl [0, 1, 2, 3] [] 4 rfl (by decide) rfl rfl (Nat.le_of_ble_eq_true rfl) dX9_crossings_34 ?_
      rintro _ _ ⟨rfl, rfl⟩
      refine ww_perm (gs' := [wOwn E a0 (rf4 h0_0 h0_1 q1 q3) v0, wRO E q1 4 a2 v1, wRR E a2 v2, wArr E q3 4 v3]) [0, 1, 2, 3] 4 rfl (by decide) rfl ?_
      refine ww_iadd C dX9_crossings_37 ?_
      refine ww_iadd C dX9_crossings_38 ?_
      refine ww_topi (fun x1_39 e_x1_39 => ?_)
      replace hf := ltE e_x1_39 hf
      refine ww_istore_n (lv' := [(1, .int x1_39), (0, .ref (a0 0)), (2, .int x2), (3, .int x3)]) C dX9_crossings_39 rfl (by decide) rfl ?_
      obtain ⟨x3_40, e_x3_40⟩ : ∃ y : Int32, y = x3 + 1 := ⟨_, rfl⟩
      replace hf := ltE e_x3_40 hf
      refine ww_iinc (v := x3_40) (lv' := [(3, .int x3_40), (1, .int x1_39), (0, .ref (a0 0)), (2, .int x2)]) C dX9_crossings_40 3 rfl (by rw [e_x3_40]; rfl) (by decide) rfl ?_
      refine ww_goto (tgt := 16) C dX9_crossings_43 (by decide) ?_
      refine ww_sub C (lv' := [(0, .ref (a0 0)), (1, .int x1_39), (2, .int x2), (3, .int x3_40)]) [2, 1, 3, 0] rfl ?_
      exact ih _ _ hf

set_option maxHeartbeats 4000000 in
set_option maxRecDepth 100000 in
theorem w_X9_crossings_4 {E : Ex} {K : Kx} (C : Cx E K cX9_crossings 4 (some .int) RX9 wsX9_crossings rmX9_crossings) {a0 : Nat → Nat} {q1 : Nat} {a2 : Nat → Nat} {q3 : Nat} {h0_0 h0_1 : Nat} {v0 : OwnV} {v1 : Nat} {v2 : RowsT} {v3 : Nat → Int32}  {r : Int32} : ∀ (n : Nat)  (x1 : Int32) (x2 : Int32), Own_crossings_4 v0 v1 v2 v3 n x1 x2 = some r → WW E K 0 0 (QQ E K (fun rv g => rv = some (.int r) ∧ g = [wOwn E a0 (rf4 h0_0 h0_1 q1 q3) v0, wRO E q1 4 a2 v1, wRR E a2 v2, wArr E q3 4 v3]) 0 0) 4 [(0, .ref (a0 0)), (1, .int x1), (2, .int x2)] [] [wOwn E a0 (rf4 h0_0 h0_1 q1 q3) v0, wRO E q1 4 a2 v1, wRR E a2 v2, wArr E q3 4 v3] := by
  intro n
  induction n with
  | zero =>
    intro  x1 x2 hf
    simp [Own_crossings_4] at hf
  | succ n ih =>
    intro  x1 x2 hf
    rw [Own_crossings_4] at hf
    refine ww_iload_n C dX9_crossings_4 rfl 2 rfl ?_
    refine ww_aload_n C dX9_crossings_5 rfl 0 rfl ?_
    refine ww_get C clOK9 in_X9_crossings_X9 (w := wOwn E a0 (rf4 h0_0 h0_1 q1 q3) v0) (fs := fsOwn a0 (rf4 h0_0 h0_1 q1 q3) v0) (v := .int (Own_guards v0)) 0 0 2 rfl q_Own (by decide) (by decide +kernel) g_Own_guards dX9_crossings_6 ?_
    refine ww_icmp_ge (tgt := 52) C dX9_crossings_9 (by decide) (fun c_1 => ?_) (fun c_1 => ?_)
    · replace hf := ifT c_1 hf
      refine ww_iload_n C dX9_crossings_52 rfl 1 rfl ?_
      obtain rfl := Option.some.inj hf
      exact ww_iret C ⟨rfl, rfl⟩ dX9_crossings_53
    · replace hf := ifF c_1 hf
      refine ww_iload_n C dX9_crossings_12 rfl 2 rfl ?_
      refine ww_iconst (v := 1) C dX9_crossings_13 (by decide) ?_
      refine ww_iadd C dX9_crossings_14 ?_
      refine ww_topi (fun x3_15 e_x3_15 => ?_)
      replace hf := ltE e_x3_15 hf
      refine ww_istore_n (lv' := [(3, .int x3_15), (0, .ref (a0 0)), (1, .int x1), (2, .int x2)]) C dX9_crossings_15 rfl (by decide) rfl ?_
      refine ww_sub C (lv' := [(0, .ref (a0 0)), (1, .int x1), (2, .int x2), (3, .int x3_15)]) [1, 2, 3, 0] rfl ?_
      exact w_X9_crossings_16 C (k4 := (fun (x1 : Int32) (x2 : Int32) => Own_crossings_4 v0 v1 v2 v3 n x1 x2)) ih FU _ _ hf

set_option maxHeartbeats 4000000 in
set_option maxRecDepth 100000 in
theorem c_X9_crossings {E : Ex} {a0 : Nat → Nat} {q1 : Nat} {a2 : Nat → Nat} {q3 : Nat} {h0_0 h0_1 : Nat} {v0 : OwnV} {v1 : Nat} {v2 : RowsT} {v3 : Nat → Int32} {r : Int32} (hf : Own_crossings v0 v1 v2 v3 = some r) : Ct E yX9_crossings wsX9_crossings rmX9_crossings [.ref (a0 0)] [wOwn E a0 (rf4 h0_0 h0_1 q1 q3) v0, wRO E q1 4 a2 v1, wRR E a2 v2, wArr E q3 4 v3] (fun rv g => rv = some (.int r) ∧ g = [wOwn E a0 (rf4 h0_0 h0_1 q1 q3) v0, wRO E q1 4 a2 v1, wRR E a2 v2, wArr E q3 4 v3]) := by
  refine ct_of (own := RX9) (by decide +kernel) rfl rfl (Nat.le_of_ble_eq_true rfl) (fun K C => ?_)
  refine ww_sub C (lv' := [(0, .ref (a0 0))]) [0] rfl ?_
  rw [Own_crossings] at hf
  refine ww_iconst (v := 0) C dX9_crossings_0 (by decide) ?_
  refine ww_istore_n (lv' := [(1, .int 0), (0, .ref (a0 0))]) C dX9_crossings_1 rfl (by decide) rfl ?_
  refine ww_iconst (v := 0) C dX9_crossings_2 (by decide) ?_
  refine ww_istore_n (lv' := [(2, .int 0), (1, .int 0), (0, .ref (a0 0))]) C dX9_crossings_3 rfl (by decide) rfl ?_
  refine ww_sub C (lv' := [(0, .ref (a0 0)), (1, .int 0), (2, .int 0)]) [2, 1, 0] rfl ?_
  exact w_X9_crossings_4 C FU _ _ hf

theorem yk_X9_crossings : yX9_crossings.cls = RX9 ∧ yX9_crossings.cls ≠ "java/lang/invoke/MethodHandle" ∧ yX9_crossings.cls ≠ "java/lang/invoke/VarHandle" ∧ (parseMethodDescriptor yX9_crossings.desc).map (fun d => d.parameters.length) = some 0 := by decide +kernel
abbrev rmX9_pass : Room := { frames := 2, cells := 0, slots := 0, locals := 48 }
set_option maxRecDepth 20000 in
theorem in_X9_pass_X9 : ∀ w ∈ u_ws RX9 TX9 8, w ∈ wsX9_pass := by decide +kernel
set_option maxHeartbeats 4000000 in
set_option maxRecDepth 100000 in
theorem w_X9_pass_12 {E : Ex} {K : Kx} (C : Cx E K cX9_pass 5 (some .int) RX9 wsX9_pass rmX9_pass) {a0 : Nat → Nat} {q1 : Nat} {a2 : Nat → Nat} {q3 : Nat} {a4 : Nat → Nat} {q5 : Nat} {h0_0 : Nat} {x1 : Int32} {v1 : Nat} {v3 : Nat} {v4 : RowsT} {v5 : Nat → Int32} {x3 : Int32} {k4 : Int32 → Int32 → OwnV → RowsT → Option (Int32 × OwnV × RowsT)} {r : (Int32 × OwnV × RowsT)} (hk4 : ∀  (x2 : Int32) (x3 : Int32) (v0 : OwnV) (v2 : RowsT), k4 x2 x3 v0 v2 = some r → WW E K 0 0 (QQ E K (fun rv g => rv = some (.int r.1) ∧ g = [wOwn E a0 (rf4 h0_0 q1 q3 q5) r.2.1, wRO E q1 12 a2 v1, wRR E a2 r.2.2, wRO E q3 4 a4 v3, wRR E a4 v4, wArr E q5 4 v5]) 0 0) 4 [(0, .ref (a0 0)), (1, .int x1), (2, .int x2), (3, .int x3)] [] [wOwn E a0 (rf4 h0_0 q1 q3 q5) v0, wRO E q1 12 a2 v1, wRR E a2 v2, wRO E q3 4 a4 v3, wRR E a4 v4, wArr E q5 4 v5]) : ∀ (n : Nat)  (x2 : Int32) (x4 : Int32) (v0 : OwnV) (v2 : RowsT), Own_pass_12 x1 v1 v3 v4 v5 x3 k4 n x2 x4 v0 v2 = some r → WW E K 0 0 (QQ E K (fun rv g => rv = some (.int r.1) ∧ g = [wOwn E a0 (rf4 h0_0 q1 q3 q5) r.2.1, wRO E q1 12 a2 v1, wRR E a2 r.2.2, wRO E q3 4 a4 v3, wRR E a4 v4, wArr E q5 4 v5]) 0 0) 12 [(0, .ref (a0 0)), (1, .int x1), (2, .int x2), (3, .int x3), (4, .int x4)] [] [wOwn E a0 (rf4 h0_0 q1 q3 q5) v0, wRO E q1 12 a2 v1, wRR E a2 v2, wRO E q3 4 a4 v3, wRR E a4 v4, wArr E q5 4 v5] := by
  intro n
  induction n with
  | zero =>
    intro  x2 x4 v0 v2 hf
    simp [Own_pass_12] at hf
  | succ n ih =>
    intro  x2 x4 v0 v2 hf
    rw [Own_pass_12] at hf
    refine ww_iload C dX9_pass_12 4 rfl ?_
    refine ww_aload_n C dX9_pass_14 rfl 0 rfl ?_
    refine ww_get C clOK9 in_X9_pass_X9 (w := wOwn E a0 (rf4 h0_0 q1 q3 q5) v0) (fs := fsOwn a0 (rf4 h0_0 q1 q3 q5) v0) (v := .int (Own_rooms v0)) 0 0 0 rfl q_Own (by decide) (by decide +kernel) g_Own_rooms dX9_pass_15 ?_
    refine ww_icmp_ge (tgt := 126) C dX9_pass_18 (by decide) (fun c_2 => ?_) (fun c_2 => ?_)
    · replace hf := ifT c_2 hf
      refine ww_aload_n C dX9_pass_126 rfl 0 rfl ?_
      refine ww_dup C dX9_pass_127 rfl ?_
      refine ww_get C clOK9 in_X9_pass_X9 (w := wOwn E a0 (rf4 h0_0 q1 q3 q5) v0) (fs := fsOwn a0 (rf4 h0_0 q1 q3 q5) v0) (v := .int (Own_minute v0)) 0 0 3 rfl q_Own (by decide) (by decide +kernel) g_Own_minute dX9_pass_128 ?_
      refine ww_iconst (v := 1) C dX9_pass_131 (by decide) ?_
      refine ww_iadd C dX9_pass_132 ?_
      obtain ⟨v0_133, e_v0_133⟩ : ∃ y : OwnV, y = Own_set_minute v0 ((Own_minute v0) + 1) := ⟨_, rfl⟩
      replace hf := ltE e_v0_133 hf
      refine ww_put C clOK9 in_X9_pass_X9 (w := wOwn E a0 (rf4 h0_0 q1 q3 q5) v0) (fs := fsOwn a0 (rf4 h0_0 q1 q3 q5) v0) (w' := wOwn E a0 (rf4 h0_0 q1 q3 q5) v0_133) (gs' := [wOwn E a0 (rf4 h0_0 q1 q3 q5) v0_133, wRO E q1 12 a2 v1, wRR E a2 v2, wRO E q3 4 a4 v3, wRR E a4 v4, wArr E q5 4 v5]) 0 0 3 rfl q_Own (by decide) (by decide +kernel) rfl rfl rfl rfl l_Own (by rw [e_v0_133]; exact p_Own_minute) rfl dX9_pass_133 ?_
      obtain ⟨x3_136, e_x3_136⟩ : ∃ y : Int32, y = x3 + 1 := ⟨_, rfl⟩
      replace hf := ltE e_x3_136 hf
      refine ww_iinc (v := x3_136) (lv' := [(3, .int x3_136), (0, .ref (a0 0)), (1, .int x1), (2, .int x2), (4, .int x4)]) C dX9_pass_136 3 rfl (by rw [e_x3_136]; rfl) (by decide) rfl ?_
      refine ww_goto (tgt := 4) C dX9_pass_139 (by decide) ?_
      refine ww_sub C (lv' := [(0, .ref (a0 0)), (1, .int x1), (2, .int x2), (3, .int x3_136)]) [1, 2, 3, 0] rfl ?_
      exact hk4 _ _ _ _ hf
    · replace hf := ifF c_2 hf
      refine ww_aload_n C dX9_pass_21 rfl 0 rfl ?_
      refine ww_iload C dX9_pass_22 4 rfl ?_
      refine ww_aload_n C dX9_pass_24 rfl 0 rfl ?_
      refine ww_get C clOK9 in_X9_pass_X9 (w := wOwn E a0 (rf4 h0_0 q1 q3 q5) v0) (fs := fsOwn a0 (rf4 h0_0 q1 q3 q5) v0) (v := .int (Own_minute v0)) 0 0 3 rfl q_Own (by decide) (by decide +kernel) g_Own_minute dX9_pass_25 ?_
      refine ww_i2l C dX9_pass_28 ?_
      obtain ⟨p29, hp29, hf⟩ := bdE hf
      refine ww_callV C (As := [.int x4, .long (Int32.toInt64 (Own_minute v0))]) (st := []) (gr := [wRO E q1 12 a2 v1, wRR E a2 v2]) (c_X9_in (E := E) (a0 := a0) (h0_0 := h0_0) (h0_1 := q1) (q1 := q3) (a2 := a4) (q3 := q5) hp29) gX9_pass_X9_in rfl yk_X9_in ⟨by decide, Nat.le_of_ble_eq_true rfl⟩ ⟨by decide, by decide⟩ clOK9 0 0 rfl rfl [0, 3, 4, 5] [1, 2] 6 rfl (by decide) rfl rfl (Nat.le_of_ble_eq_true rfl) dX9_pass_29 ?_
      rintro _ _ ⟨rfl, rfl⟩
      refine ww_perm (gs' := [wOwn E a0 (rf4 h0_0 q1 q3 q5) v0, wRO E q1 12 a2 v1, wRR E a2 v2, wRO E q3 4 a4 v3, wRR E a4 v4, wArr E q5 4 v5]) [0, 4, 5, 1, 2, 3] 6 rfl (by decide) rfl ?_
      refine ww_if_eq (tgt := 77) C dX9_pass_32 (by decide) (fun c_3 => ?_) (fun c_3 => ?_)
      · replace hf := ifT c_3 hf
        refine ww_aload_n C dX9_pass_77 rfl 0 rfl ?_
        refine ww_get C clOK9 in_X9_pass_X9 (w := wOwn E a0 (rf4 h0_0 q1 q3 q5) v0) (fs := fsOwn a0 (rf4 h0_0 q1 q3 q5) v0) (v := .ref q1) 0 0 5 rfl q_Own (by decide) (by decide +kernel) g_Own_room dX9_pass_78 ?_
        refine ww_iload C dX9_pass_81 4 rfl ?_
        obtain ⟨g_4, hf⟩ := gdE hf
        obtain ⟨g_5, hf⟩ := gdE hf
        refine ww_aldR C (f := roF a2 v1) (w := wRO E q1 12 a2 v1) 1 0 rfl q_RO (inB_vp g_4) (roF_at (of_decide_eq_true g_5)) dX9_pass_83 ?_
        refine ww_iconst (v := 3) C dX9_pass_84 (by decide) ?_
        refine ww_dup2 C dX9_pass_85 rfl rfl ?_
        obtain ⟨g_6, hf⟩ := gdE hf
        obtain ⟨g_7, hf⟩ := gdE hf
        refine ww_iald C (f := v2.2.2 (Int32.toNatClampNeg x4)) (w := wRR E a2 v2) 2 (Int32.toNatClampNeg x4) rfl (q_RR (of_decide_eq_true g_6)) (inB_vp g_7) dX9_pass_86 ?_
        refine ww_iconst (v := 1) C dX9_pass_87 (by decide) ?_
        refine ww_iadd C dX9_pass_88 ?_
        obtain ⟨v2_89, e_v2_89⟩ : ∃ y : RowsT, y = rrSet v2 (Int32.toNatClampNeg x4) (upd (v2.2.2 (Int32.toNatClampNeg x4)) (Int32.toNatClampNeg 3) ((v2.2.2 (Int32.toNatClampNeg x4) (Int32.toNatClampNeg 3)) + 1)) := ⟨_, rfl⟩
        replace hf := ltE e_v2_89 hf
        refine ww_iast C (f := v2.2.2 (Int32.toNatClampNeg x4)) (w := wRR E a2 v2) (w' := wRR E a2 v2_89) (gs' := [wOwn E a0 (rf4 h0_0 q1 q3 q5) v0, wRO E q1 12 a2 v1, wRR E a2 v2_89, wRO E q3 4 a4 v3, wRR E a4 v4, wArr E q5 4 v5]) 2 (Int32.toNatClampNeg x4) rfl (q_RR (of_decide_eq_true g_6)) (inB_vp g_7) (by rw [e_v2_89]; exact s_RR (of_decide_eq_true g_6)) rfl dX9_pass_89 ?_
        refine ww_aload_n C dX9_pass_90 rfl 0 rfl ?_
        refine ww_get C clOK9 in_X9_pass_X9 (w := wOwn E a0 (rf4 h0_0 q1 q3 q5) v0) (fs := fsOwn a0 (rf4 h0_0 q1 q3 q5) v0) (v := .ref q1) 0 0 5 rfl q_Own (by decide) (by decide +kernel) g_Own_room dX9_pass_91 ?_
        refine ww_iload C dX9_pass_94 4 rfl ?_
        refine ww_aldR C (f := roF a2 v1) (w := wRO E q1 12 a2 v1) 1 0 rfl q_RO (inB_vp g_4) (roF_at (of_decide_eq_true g_5)) dX9_pass_96 ?_
        refine ww_iconst (v := 4) C dX9_pass_97 (by decide) ?_
        refine ww_aload_n C dX9_pass_98 rfl 0 rfl ?_
        refine ww_get C clOK9 in_X9_pass_X9 (w := wOwn E a0 (rf4 h0_0 q1 q3 q5) v0) (fs := fsOwn a0 (rf4 h0_0 q1 q3 q5) v0) (v := .ref q1) 0 0 5 rfl q_Own (by decide) (by decide +kernel) g_Own_room dX9_pass_99 ?_
        refine ww_iload C dX9_pass_102 4 rfl ?_
        refine ww_aldR C (f := roF a2 v1) (w := wRO E q1 12 a2 v1) 1 0 rfl q_RO (inB_vp g_4) (roF_at (of_decide_eq_true g_5)) dX9_pass_104 ?_
        refine ww_iconst (v := 4) C dX9_pass_105 (by decide) ?_
        obtain ⟨g_8, hf⟩ := gdE hf
        obtain ⟨g_9, hf⟩ := gdE hf
        refine ww_iald C (f := v2_89.2.2 (Int32.toNatClampNeg x4)) (w := wRR E a2 v2_89) 2 (Int32.toNatClampNeg x4) rfl (q_RR (of_decide_eq_true g_8)) (inB_vp g_9) dX9_pass_106 ?_
        refine ww_aload_n C dX9_pass_107 rfl 0 rfl ?_
        refine ww_get C clOK9 in_X9_pass_X9 (w := wOwn E a0 (rf4 h0_0 q1 q3 q5) v0) (fs := fsOwn a0 (rf4 h0_0 q1 q3 q5) v0) (v := .ref q1) 0 0 5 rfl q_Own (by decide) (by decide +kernel) g_Own_room dX9_pass_108 ?_
        refine ww_iload C dX9_pass_111 4 rfl ?_
        refine ww_aldR C (f := roF a2 v1) (w := wRO E q1 12 a2 v1) 1 0 rfl q_RO (inB_vp g_4) (roF_at (of_decide_eq_true g_5)) dX9_pass_113 ?_
        refine ww_iconst (v := 3) C dX9_pass_114 (by decide) ?_
        obtain ⟨g_10, hf⟩ := gdE hf
        refine ww_iald C (f := v2_89.2.2 (Int32.toNatClampNeg x4)) (w := wRR E a2 v2_89) 2 (Int32.toNatClampNeg x4) rfl (q_RR (of_decide_eq_true g_8)) (inB_vp g_10) dX9_pass_115 ?_
        refine ww_max C (by decide +kernel) (by decide +kernel) (by decide +kernel) (by decide +kernel) (by decide) (Nat.le_of_ble_eq_true rfl) (by decide) (by decide) dX9_pass_116 ?_
        obtain ⟨v2_119, e_v2_119⟩ : ∃ y : RowsT, y = rrSet v2_89 (Int32.toNatClampNeg x4) (upd (v2_89.2.2 (Int32.toNatClampNeg x4)) (Int32.toNatClampNeg 4) (imax (v2_89.2.2 (Int32.toNatClampNeg x4) (Int32.toNatClampNeg 4)) (v2_89.2.2 (Int32.toNatClampNeg x4) (Int32.toNatClampNeg 3)))) := ⟨_, rfl⟩
        replace hf := ltE e_v2_119 hf
        refine ww_iast C (f := v2_89.2.2 (Int32.toNatClampNeg x4)) (w := wRR E a2 v2_89) (w' := wRR E a2 v2_119) (gs' := [wOwn E a0 (rf4 h0_0 q1 q3 q5) v0, wRO E q1 12 a2 v1, wRR E a2 v2_119, wRO E q3 4 a4 v3, wRR E a4 v4, wArr E q5 4 v5]) 2 (Int32.toNatClampNeg x4) rfl (q_RR (of_decide_eq_true g_8)) (inB_vp g_9) (by rw [e_v2_119]; exact s_RR (of_decide_eq_true g_8)) rfl dX9_pass_119 ?_
        obtain ⟨x4_120, e_x4_120⟩ : ∃ y : Int32, y = x4 + 1 := ⟨_, rfl⟩
        replace hf := ltE e_x4_120 hf
        refine ww_iinc (v := x4_120) (lv' := [(4, .int x4_120), (0, .ref (a0 0)), (1, .int x1), (2, .int x2), (3, .int x3)]) C dX9_pass_120 4 rfl (by rw [e_x4_120]; rfl) (by decide) rfl ?_
        refine ww_goto (tgt := 12) C dX9_pass_123 (by decide) ?_
        refine ww_sub C (lv' := [(0, .ref (a0 0)), (1, .int x1), (2, .int x2), (3, .int x3), (4, .int x4_120)]) [1, 2, 3, 4, 0] rfl ?_
        exact ih _ _ _ _ hf
      · replace hf := ifF c_3 hf
        refine ww_aload_n C dX9_pass_35 rfl 0 rfl ?_
        refine ww_get C clOK9 in_X9_pass_X9 (w := wOwn E a0 (rf4 h0_0 q1 q3 q5) v0) (fs := fsOwn a0 (rf4 h0_0 q1 q3 q5) v0) (v := .ref q1) 0 0 5 rfl q_Own (by decide) (by decide +kernel) g_Own_room dX9_pass_36 ?_
        refine ww_iload C dX9_pass_39 4 rfl ?_
        obtain ⟨g_11, hf⟩ := gdE hf
        obtain ⟨g_12, hf⟩ := gdE hf
        refine ww_aldR C (f := roF a2 v1) (w := wRO E q1 12 a2 v1) 1 0 rfl q_RO (inB_vp g_11) (roF_at (of_decide_eq_true g_12)) dX9_pass_41 ?_
        refine ww_iconst (v := 1) C dX9_pass_42 (by decide) ?_
        refine ww_dup2 C dX9_pass_43 rfl rfl ?_
        obtain ⟨g_13, hf⟩ := gdE hf
        obtain ⟨g_14, hf⟩ := gdE hf
        refine ww_iald C (f := v2.2.2 (Int32.toNatClampNeg x4)) (w := wRR E a2 v2) 2 (Int32.toNatClampNeg x4) rfl (q_RR (of_decide_eq_true g_13)) (inB_vp g_14) dX9_pass_44 ?_
        refine ww_iconst (v := 1) C dX9_pass_45 (by decide) ?_
        refine ww_iadd C dX9_pass_46 ?_
        obtain ⟨v2_47, e_v2_47⟩ : ∃ y : RowsT, y = rrSet v2 (Int32.toNatClampNeg x4) (upd (v2.2.2 (Int32.toNatClampNeg x4)) (Int32.toNatClampNeg 1) ((v2.2.2 (Int32.toNatClampNeg x4) (Int32.toNatClampNeg 1)) + 1)) := ⟨_, rfl⟩
        replace hf := ltE e_v2_47 hf
        refine ww_iast C (f := v2.2.2 (Int32.toNatClampNeg x4)) (w := wRR E a2 v2) (w' := wRR E a2 v2_47) (gs' := [wOwn E a0 (rf4 h0_0 q1 q3 q5) v0, wRO E q1 12 a2 v1, wRR E a2 v2_47, wRO E q3 4 a4 v3, wRR E a4 v4, wArr E q5 4 v5]) 2 (Int32.toNatClampNeg x4) rfl (q_RR (of_decide_eq_true g_13)) (inB_vp g_14) (by rw [e_v2_47]; exact s_RR (of_decide_eq_true g_13)) rfl dX9_pass_47 ?_
        refine ww_aload_n C dX9_pass_48 rfl 0 rfl ?_
        refine ww_get C clOK9 in_X9_pass_X9 (w := wOwn E a0 (rf4 h0_0 q1 q3 q5) v0) (fs := fsOwn a0 (rf4 h0_0 q1 q3 q5) v0) (v := .ref q1) 0 0 5 rfl q_Own (by decide) (by decide +kernel) g_Own_room dX9_pass_49 ?_
        refine ww_iload C dX9_pass_52 4 rfl ?_
        refine ww_aldR C (f := roF a2 v1) (w := wRO E q1 12 a2 v1) 1 0 rfl q_RO (inB_vp g_11) (roF_at (of_decide_eq_true g_12)) dX9_pass_54 ?_
        refine ww_iconst (v := 2) C dX9_pass_55 (by decide) ?_
        refine ww_aload_n C dX9_pass_56 rfl 0 rfl ?_
        refine ww_get C clOK9 in_X9_pass_X9 (w := wOwn E a0 (rf4 h0_0 q1 q3 q5) v0) (fs := fsOwn a0 (rf4 h0_0 q1 q3 q5) v0) (v := .int (Own_minute v0)) 0 0 3 rfl q_Own (by decide) (by decide +kernel) g_Own_minute dX9_pass_57 ?_
        obtain ⟨g_15, hf⟩ := gdE hf
        obtain ⟨g_16, hf⟩ := gdE hf
        obtain ⟨v2_60, e_v2_60⟩ : ∃ y : RowsT, y = rrSet v2_47 (Int32.toNatClampNeg x4) (upd (v2_47.2.2 (Int32.toNatClampNeg x4)) (Int32.toNatClampNeg 2) (Own_minute v0)) := ⟨_, rfl⟩
        replace hf := ltE e_v2_60 hf
        refine ww_iast C (f := v2_47.2.2 (Int32.toNatClampNeg x4)) (w := wRR E a2 v2_47) (w' := wRR E a2 v2_60) (gs' := [wOwn E a0 (rf4 h0_0 q1 q3 q5) v0, wRO E q1 12 a2 v1, wRR E a2 v2_60, wRO E q3 4 a4 v3, wRR E a4 v4, wArr E q5 4 v5]) 2 (Int32.toNatClampNeg x4) rfl (q_RR (of_decide_eq_true g_15)) (inB_vp g_16) (by rw [e_v2_60]; exact s_RR (of_decide_eq_true g_15)) rfl dX9_pass_60 ?_
        refine ww_aload_n C dX9_pass_61 rfl 0 rfl ?_
        refine ww_get C clOK9 in_X9_pass_X9 (w := wOwn E a0 (rf4 h0_0 q1 q3 q5) v0) (fs := fsOwn a0 (rf4 h0_0 q1 q3 q5) v0) (v := .ref q1) 0 0 5 rfl q_Own (by decide) (by decide +kernel) g_Own_room dX9_pass_62 ?_
        refine ww_iload C dX9_pass_65 4 rfl ?_
        refine ww_aldR C (f := roF a2 v1) (w := wRO E q1 12 a2 v1) 1 0 rfl q_RO (inB_vp g_11) (roF_at (of_decide_eq_true g_12)) dX9_pass_67 ?_
        refine ww_iconst (v := 3) C dX9_pass_68 (by decide) ?_
        refine ww_iconst (v := 0) C dX9_pass_69 (by decide) ?_
        obtain ⟨g_17, hf⟩ := gdE hf
        obtain ⟨g_18, hf⟩ := gdE hf
        obtain ⟨v2_70, e_v2_70⟩ : ∃ y : RowsT, y = rrSet v2_60 (Int32.toNatClampNeg x4) (upd (v2_60.2.2 (Int32.toNatClampNeg x4)) (Int32.toNatClampNeg 3) 0) := ⟨_, rfl⟩
        replace hf := ltE e_v2_70 hf
        refine ww_iast C (f := v2_60.2.2 (Int32.toNatClampNeg x4)) (w := wRR E a2 v2_60) (w' := wRR E a2 v2_70) (gs' := [wOwn E a0 (rf4 h0_0 q1 q3 q5) v0, wRO E q1 12 a2 v1, wRR E a2 v2_70, wRO E q3 4 a4 v3, wRR E a4 v4, wArr E q5 4 v5]) 2 (Int32.toNatClampNeg x4) rfl (q_RR (of_decide_eq_true g_17)) (inB_vp g_18) (by rw [e_v2_70]; exact s_RR (of_decide_eq_true g_17)) rfl dX9_pass_70 ?_
        obtain ⟨x2_71, e_x2_71⟩ : ∃ y : Int32, y = x2 + 1 := ⟨_, rfl⟩
        replace hf := ltE e_x2_71 hf
        refine ww_iinc (v := x2_71) (lv' := [(2, .int x2_71), (0, .ref (a0 0)), (1, .int x1), (3, .int x3), (4, .int x4)]) C dX9_pass_71 2 rfl (by rw [e_x2_71]; rfl) (by decide) rfl ?_
        refine ww_goto (tgt := 120) C dX9_pass_74 (by decide) ?_
        obtain ⟨x4_120, e_x4_120⟩ : ∃ y : Int32, y = x4 + 1 := ⟨_, rfl⟩
        replace hf := ltE e_x4_120 hf
        refine ww_iinc (v := x4_120) (lv' := [(4, .int x4_120), (2, .int x2_71), (0, .ref (a0 0)), (1, .int x1), (3, .int x3)]) C dX9_pass_120 4 rfl (by rw [e_x4_120]; rfl) (by decide) rfl ?_
        refine ww_goto (tgt := 12) C dX9_pass_123 (by decide) ?_
        refine ww_sub C (lv' := [(0, .ref (a0 0)), (1, .int x1), (2, .int x2_71), (3, .int x3), (4, .int x4_120)]) [2, 3, 1, 4, 0] rfl ?_
        exact ih _ _ _ _ hf

set_option maxHeartbeats 4000000 in
set_option maxRecDepth 100000 in
theorem w_X9_pass_4 {E : Ex} {K : Kx} (C : Cx E K cX9_pass 5 (some .int) RX9 wsX9_pass rmX9_pass) {a0 : Nat → Nat} {q1 : Nat} {a2 : Nat → Nat} {q3 : Nat} {a4 : Nat → Nat} {q5 : Nat} {h0_0 : Nat} {x1 : Int32} {v1 : Nat} {v3 : Nat} {v4 : RowsT} {v5 : Nat → Int32}  {r : (Int32 × OwnV × RowsT)} : ∀ (n : Nat)  (x2 : Int32) (x3 : Int32) (v0 : OwnV) (v2 : RowsT), Own_pass_4 x1 v1 v3 v4 v5 n x2 x3 v0 v2 = some r → WW E K 0 0 (QQ E K (fun rv g => rv = some (.int r.1) ∧ g = [wOwn E a0 (rf4 h0_0 q1 q3 q5) r.2.1, wRO E q1 12 a2 v1, wRR E a2 r.2.2, wRO E q3 4 a4 v3, wRR E a4 v4, wArr E q5 4 v5]) 0 0) 4 [(0, .ref (a0 0)), (1, .int x1), (2, .int x2), (3, .int x3)] [] [wOwn E a0 (rf4 h0_0 q1 q3 q5) v0, wRO E q1 12 a2 v1, wRR E a2 v2, wRO E q3 4 a4 v3, wRR E a4 v4, wArr E q5 4 v5] := by
  intro n
  induction n with
  | zero =>
    intro  x2 x3 v0 v2 hf
    simp [Own_pass_4] at hf
  | succ n ih =>
    intro  x2 x3 v0 v2 hf
    rw [Own_pass_4] at hf
    refine ww_iload_n C dX9_pass_4 rfl 3 rfl ?_
    refine ww_iload_n C dX9_pass_5 rfl 1 rfl ?_
    refine ww_icmp_ge (tgt := 142) C dX9_pass_6 (by decide) (fun c_1 => ?_) (fun c_1 => ?_)
    · replace hf := ifT c_1 hf
      refine ww_iload_n C dX9_pass_142 rfl 2 rfl ?_
      obtain rfl := Option.some.inj hf
      exact ww_iret C ⟨rfl, rfl⟩ dX9_pass_143
    · replace hf := ifF c_1 hf
      refine ww_iconst (v := 0) C dX9_pass_9 (by decide) ?_
      refine ww_istore (lv' := [(4, .int 0), (0, .ref (a0 0)), (1, .int x1), (2, .int x2), (3, .int x3)]) C dX9_pass_10 (by decide) rfl ?_
      refine ww_sub C (lv' := [(0, .ref (a0 0)), (1, .int x1), (2, .int x2), (3, .int x3), (4, .int 0)]) [1, 2, 3, 4, 0] rfl ?_
      exact w_X9_pass_12 C (k4 := (fun (x2 : Int32) (x3 : Int32) (v0 : OwnV) (v2 : RowsT) => Own_pass_4 x1 v1 v3 v4 v5 n x2 x3 v0 v2)) ih FU _ _ _ _ hf

set_option maxHeartbeats 4000000 in
set_option maxRecDepth 100000 in
theorem c_X9_pass {E : Ex} {a0 : Nat → Nat} {q1 : Nat} {a2 : Nat → Nat} {q3 : Nat} {a4 : Nat → Nat} {q5 : Nat} {h0_0 : Nat} {x1 : Int32} {v0 : OwnV} {v1 : Nat} {v2 : RowsT} {v3 : Nat} {v4 : RowsT} {v5 : Nat → Int32} {r : (Int32 × OwnV × RowsT)} (hf : Own_pass x1 v0 v1 v2 v3 v4 v5 = some r) : Ct E yX9_pass wsX9_pass rmX9_pass [.ref (a0 0), .int x1] [wOwn E a0 (rf4 h0_0 q1 q3 q5) v0, wRO E q1 12 a2 v1, wRR E a2 v2, wRO E q3 4 a4 v3, wRR E a4 v4, wArr E q5 4 v5] (fun rv g => rv = some (.int r.1) ∧ g = [wOwn E a0 (rf4 h0_0 q1 q3 q5) r.2.1, wRO E q1 12 a2 v1, wRR E a2 r.2.2, wRO E q3 4 a4 v3, wRR E a4 v4, wArr E q5 4 v5]) := by
  refine ct_of (own := RX9) (by decide +kernel) rfl rfl (Nat.le_of_ble_eq_true rfl) (fun K C => ?_)
  refine ww_sub C (lv' := [(0, .ref (a0 0)), (1, .int x1)]) [0, 1] rfl ?_
  rw [Own_pass] at hf
  refine ww_iconst (v := 0) C dX9_pass_0 (by decide) ?_
  refine ww_istore_n (lv' := [(2, .int 0), (0, .ref (a0 0)), (1, .int x1)]) C dX9_pass_1 rfl (by decide) rfl ?_
  refine ww_iconst (v := 0) C dX9_pass_2 (by decide) ?_
  refine ww_istore_n (lv' := [(3, .int 0), (2, .int 0), (0, .ref (a0 0)), (1, .int x1)]) C dX9_pass_3 rfl (by decide) rfl ?_
  refine ww_sub C (lv' := [(0, .ref (a0 0)), (1, .int x1), (2, .int 0), (3, .int 0)]) [2, 3, 1, 0] rfl ?_
  exact w_X9_pass_4 C FU _ _ _ _ hf

theorem yk_X9_pass : yX9_pass.cls = RX9 ∧ yX9_pass.cls ≠ "java/lang/invoke/MethodHandle" ∧ yX9_pass.cls ≠ "java/lang/invoke/VarHandle" ∧ (parseMethodDescriptor yX9_pass.desc).map (fun d => d.parameters.length) = some 1 := by decide +kernel
abbrev rmX9_through : Room := { frames := 0, cells := 0, slots := 0, locals := 0 }
set_option maxRecDepth 20000 in
theorem in_X9_through_X9 : ∀ w ∈ u_ws RX9 TX9 8, w ∈ wsX9_through := by decide +kernel
set_option maxHeartbeats 4000000 in
set_option maxRecDepth 100000 in
theorem w_X9_through_90 {E : Ex} {K : Kx} (C : Cx E K cX9_through 8 (some .int) RX9 wsX9_through rmX9_through) {a0 : Nat → Nat} {q1 : Nat} {a2 : Nat → Nat} {q3 : Nat} {a4 : Nat → Nat} {h0_1 h0_3 : Nat} {x1 : Int32} {v0 : OwnV} {v1 : Nat} {v2 : RowsT} {v3 : Nat} {v4 : RowsT}   {x2 : Int32} {x3 : Int32} {x5 : Int32} {x6 : Int32} {x7 : Int32} {s0 : Int32} {k4 : Int32 → Int32 → Option Int32} {k18 : Int32 → Int32 → Option Int32} {r : Int32} (hk4 : ∀  (x2 : Int32) (x3 : Int32), k4 x2 x3 = some r → WW E K 0 0 (QQ E K (fun rv g => rv = some (.int r) ∧ g = [wOwn E a0 (rf4 q1 h0_1 q3 h0_3) v0, wRO E q1 20 a2 v1, wRR E a2 v2, wRO E q3 4 a4 v3, wRR E a4 v4]) 0 0) 4 [(0, .ref (a0 0)), (1, .int x1), (2, .int x2), (3, .int x3)] [] [wOwn E a0 (rf4 q1 h0_1 q3 h0_3) v0, wRO E q1 20 a2 v1, wRR E a2 v2, wRO E q3 4 a4 v3, wRR E a4 v4]) (hk18 : ∀  (x4 : Int32) (x5 : Int32), k18 x4 x5 = some r → WW E K 0 0 (QQ E K (fun rv g => rv = some (.int r) ∧ g = [wOwn E a0 (rf4 q1 h0_1 q3 h0_3) v0, wRO E q1 20 a2 v1, wRR E a2 v2, wRO E q3 4 a4 v3, wRR E a4 v4]) 0 0) 18 [(0, .ref (a0 0)), (1, .int x1), (2, .int x2), (3, .int x3), (4, .int x4), (5, .int x5)] [] [wOwn E a0 (rf4 q1 h0_1 q3 h0_3) v0, wRO E q1 20 a2 v1, wRR E a2 v2, wRO E q3 4 a4 v3, wRR E a4 v4]) (hf : Own_through_90 x1 v0 v1 v2 v3 v4 k4 k18 x2 x3 x5 x6 x7 s0 = some r) : WW E K 0 0 (QQ E K (fun rv g => rv = some (.int r) ∧ g = [wOwn E a0 (rf4 q1 h0_1 q3 h0_3) v0, wRO E q1 20 a2 v1, wRR E a2 v2, wRO E q3 4 a4 v3, wRR E a4 v4]) 0 0) 90 [(0, .ref (a0 0)), (1, .int x1), (2, .int x2), (3, .int x3), (5, .int x5), (6, .int x6), (7, .int x7)] [.int s0] [wOwn E a0 (rf4 q1 h0_1 q3 h0_3) v0, wRO E q1 20 a2 v1, wRR E a2 v2, wRO E q3 4 a4 v3, wRR E a4 v4] := by
  rw [Own_through_90] at hf
  refine ww_iload C dX9_through_90 6 rfl ?_
  refine ww_aload_n C dX9_through_92 rfl 0 rfl ?_
  refine ww_get C clOK9 in_X9_through_X9 (w := wOwn E a0 (rf4 q1 h0_1 q3 h0_3) v0) (fs := fsOwn a0 (rf4 q1 h0_1 q3 h0_3) v0) (v := .ref q1) 0 0 4 rfl q_Own (by decide) (by decide +kernel) g_Own_door dX9_through_93 ?_
  refine ww_iload_n C dX9_through_96 rfl 1 rfl ?_
  obtain ⟨g_22, hf⟩ := gdE hf
  obtain ⟨g_23, hf⟩ := gdE hf
  refine ww_aldR C (f := roF a2 v1) (w := wRO E q1 20 a2 v1) 1 0 rfl q_RO (inB_vp g_22) (roF_at (of_decide_eq_true g_23)) dX9_through_97 ?_
  refine ww_iconst (v := 0) C dX9_through_98 (by decide) ?_
  obtain ⟨g_24, hf⟩ := gdE hf
  obtain ⟨g_25, hf⟩ := gdE hf
  refine ww_iald C (f := v2.2.2 (Int32.toNatClampNeg x1)) (w := wRR E a2 v2) 2 (Int32.toNatClampNeg x1) rfl (q_RR (of_decide_eq_true g_24)) (inB_vp g_25) dX9_through_99 ?_
  refine ww_icmp_ne (tgt := 120) C dX9_through_100 (by decide) (fun c_26 => ?_) (fun c_26 => ?_)
  · replace hf := ifF c_26 hf
    refine ww_iconst (v := 0) C dX9_through_120 (by decide) ?_
    refine ww_ior C dX9_through_121 ?_
    refine ww_topi (fun x4_122 e_x4_122 => ?_)
    replace hf := ltE e_x4_122 hf
    refine ww_istore (lv' := [(4, .int x4_122), (0, .ref (a0 0)), (1, .int x1), (2, .int x2), (3, .int x3), (5, .int x5), (6, .int x6), (7, .int x7)]) C dX9_through_122 (by decide) rfl ?_
    obtain ⟨x5_124, e_x5_124⟩ : ∃ y : Int32, y = x5 + 1 := ⟨_, rfl⟩
    replace hf := ltE e_x5_124 hf
    refine ww_iinc (v := x5_124) (lv' := [(5, .int x5_124), (4, .int x4_122), (0, .ref (a0 0)), (1, .int x1), (2, .int x2), (3, .int x3), (6, .int x6), (7, .int x7)]) C dX9_through_124 5 rfl (by rw [e_x5_124]; rfl) (by decide) rfl ?_
    refine ww_goto (tgt := 18) C dX9_through_127 (by decide) ?_
    refine ww_sub C (lv' := [(0, .ref (a0 0)), (1, .int x1), (2, .int x2), (3, .int x3), (4, .int x4_122), (5, .int x5_124)]) [2, 3, 4, 5, 1, 0] rfl ?_
    exact hk18 _ _ hf
  · replace hf := ifT c_26 hf
    refine ww_iload C dX9_through_103 5 rfl ?_
    refine ww_aload_n C dX9_through_105 rfl 0 rfl ?_
    refine ww_get C clOK9 in_X9_through_X9 (w := wOwn E a0 (rf4 q1 h0_1 q3 h0_3) v0) (fs := fsOwn a0 (rf4 q1 h0_1 q3 h0_3) v0) (v := .ref q1) 0 0 4 rfl q_Own (by decide) (by decide +kernel) g_Own_door dX9_through_106 ?_
    refine ww_iload_n C dX9_through_109 rfl 1 rfl ?_
    refine ww_aldR C (f := roF a2 v1) (w := wRO E q1 20 a2 v1) 1 0 rfl q_RO (inB_vp g_22) (roF_at (of_decide_eq_true g_23)) dX9_through_110 ?_
    refine ww_iconst (v := 1) C dX9_through_111 (by decide) ?_
    obtain ⟨g_28, hf⟩ := gdE hf
    refine ww_iald C (f := v2.2.2 (Int32.toNatClampNeg x1)) (w := wRR E a2 v2) 2 (Int32.toNatClampNeg x1) rfl (q_RR (of_decide_eq_true g_24)) (inB_vp g_28) dX9_through_112 ?_
    refine ww_icmp_ne (tgt := 120) C dX9_through_113 (by decide) (fun c_29 => ?_) (fun c_29 => ?_)
    · replace hf := ifF c_29 hf
      refine ww_iconst (v := 0) C dX9_through_120 (by decide) ?_
      refine ww_ior C dX9_through_121 ?_
      refine ww_topi (fun x4_122 e_x4_122 => ?_)
      replace hf := ltE e_x4_122 hf
      refine ww_istore (lv' := [(4, .int x4_122), (0, .ref (a0 0)), (1, .int x1), (2, .int x2), (3, .int x3), (5, .int x5), (6, .int x6), (7, .int x7)]) C dX9_through_122 (by decide) rfl ?_
      obtain ⟨x5_124, e_x5_124⟩ : ∃ y : Int32, y = x5 + 1 := ⟨_, rfl⟩
      replace hf := ltE e_x5_124 hf
      refine ww_iinc (v := x5_124) (lv' := [(5, .int x5_124), (4, .int x4_122), (0, .ref (a0 0)), (1, .int x1), (2, .int x2), (3, .int x3), (6, .int x6), (7, .int x7)]) C dX9_through_124 5 rfl (by rw [e_x5_124]; rfl) (by decide) rfl ?_
      refine ww_goto (tgt := 18) C dX9_through_127 (by decide) ?_
      refine ww_sub C (lv' := [(0, .ref (a0 0)), (1, .int x1), (2, .int x2), (3, .int x3), (4, .int x4_122), (5, .int x5_124)]) [2, 3, 4, 5, 1, 0] rfl ?_
      exact hk18 _ _ hf
    · replace hf := ifT c_29 hf
      refine ww_iconst (v := 1) C dX9_through_116 (by decide) ?_
      refine ww_goto (tgt := 121) C dX9_through_117 (by decide) ?_
      refine ww_ior C dX9_through_121 ?_
      refine ww_topi (fun x4_122 e_x4_122 => ?_)
      replace hf := ltE e_x4_122 hf
      refine ww_istore (lv' := [(4, .int x4_122), (0, .ref (a0 0)), (1, .int x1), (2, .int x2), (3, .int x3), (5, .int x5), (6, .int x6), (7, .int x7)]) C dX9_through_122 (by decide) rfl ?_
      obtain ⟨x5_124, e_x5_124⟩ : ∃ y : Int32, y = x5 + 1 := ⟨_, rfl⟩
      replace hf := ltE e_x5_124 hf
      refine ww_iinc (v := x5_124) (lv' := [(5, .int x5_124), (4, .int x4_122), (0, .ref (a0 0)), (1, .int x1), (2, .int x2), (3, .int x3), (6, .int x6), (7, .int x7)]) C dX9_through_124 5 rfl (by rw [e_x5_124]; rfl) (by decide) rfl ?_
      refine ww_goto (tgt := 18) C dX9_through_127 (by decide) ?_
      refine ww_sub C (lv' := [(0, .ref (a0 0)), (1, .int x1), (2, .int x2), (3, .int x3), (4, .int x4_122), (5, .int x5_124)]) [2, 3, 4, 5, 1, 0] rfl ?_
      exact hk18 _ _ hf

set_option maxHeartbeats 4000000 in
set_option maxRecDepth 100000 in
theorem w_X9_through_18 {E : Ex} {K : Kx} (C : Cx E K cX9_through 8 (some .int) RX9 wsX9_through rmX9_through) {a0 : Nat → Nat} {q1 : Nat} {a2 : Nat → Nat} {q3 : Nat} {a4 : Nat → Nat} {h0_1 h0_3 : Nat} {x1 : Int32} {v0 : OwnV} {v1 : Nat} {v2 : RowsT} {v3 : Nat} {v4 : RowsT} {x2 : Int32} {x3 : Int32} {k4 : Int32 → Int32 → Option Int32} {r : Int32} (hk4 : ∀  (x2 : Int32) (x3 : Int32), k4 x2 x3 = some r → WW E K 0 0 (QQ E K (fun rv g => rv = some (.int r) ∧ g = [wOwn E a0 (rf4 q1 h0_1 q3 h0_3) v0, wRO E q1 20 a2 v1, wRR E a2 v2, wRO E q3 4 a4 v3, wRR E a4 v4]) 0 0) 4 [(0, .ref (a0 0)), (1, .int x1), (2, .int x2), (3, .int x3)] [] [wOwn E a0 (rf4 q1 h0_1 q3 h0_3) v0, wRO E q1 20 a2 v1, wRR E a2 v2, wRO E q3 4 a4 v3, wRR E a4 v4]) : ∀ (n : Nat)  (x4 : Int32) (x5 : Int32), Own_through_18 x1 v0 v1 v2 v3 v4 x2 x3 k4 n x4 x5 = some r → WW E K 0 0 (QQ E K (fun rv g => rv = some (.int r) ∧ g = [wOwn E a0 (rf4 q1 h0_1 q3 h0_3) v0, wRO E q1 20 a2 v1, wRR E a2 v2, wRO E q3 4 a4 v3, wRR E a4 v4]) 0 0) 18 [(0, .ref (a0 0)), (1, .int x1), (2, .int x2), (3, .int x3), (4, .int x4), (5, .int x5)] [] [wOwn E a0 (rf4 q1 h0_1 q3 h0_3) v0, wRO E q1 20 a2 v1, wRR E a2 v2, wRO E q3 4 a4 v3, wRR E a4 v4] := by
  intro n
  induction n with
  | zero =>
    intro  x4 x5 hf
    simp [Own_through_18] at hf
  | succ n ih =>
    intro  x4 x5 hf
    rw [Own_through_18] at hf
    refine ww_iload C dX9_through_18 5 rfl ?_
    refine ww_aload_n C dX9_through_20 rfl 0 rfl ?_
    refine ww_get C clOK9 in_X9_through_X9 (w := wOwn E a0 (rf4 q1 h0_1 q3 h0_3) v0) (fs := fsOwn a0 (rf4 q1 h0_1 q3 h0_3) v0) (v := .ref q3) 0 0 6 rfl q_Own (by decide) (by decide +kernel) g_Own_walk dX9_through_21 ?_
    refine ww_iload_n C dX9_through_24 rfl 3 rfl ?_
    obtain ⟨g_2, hf⟩ := gdE hf
    obtain ⟨g_3, hf⟩ := gdE hf
    refine ww_aldR C (f := roF a4 v3) (w := wRO E q3 4 a4 v3) 3 0 rfl q_RO (inB_vp g_2) (roF_at (of_decide_eq_true g_3)) dX9_through_25 ?_
    obtain ⟨g_4, hf⟩ := gdE hf
    refine ww_alen C (v := nI (v4.2.1 (Int32.toNatClampNeg x3))) (w := wRR E a4 v4) 4 (Int32.toNatClampNeg x3) rfl (q_RR (of_decide_eq_true g_4)) rfl dX9_through_26 ?_
    refine ww_icmp_ge (tgt := 130) C dX9_through_27 (by decide) (fun c_5 => ?_) (fun c_5 => ?_)
    · replace hf := ifT c_5 hf
      refine ww_iload_n C dX9_through_130 rfl 2 rfl ?_
      refine ww_iload C dX9_through_131 4 rfl ?_
      refine ww_if_eq (tgt := 140) C dX9_through_133 (by decide) (fun c_6 => ?_) (fun c_6 => ?_)
      · replace hf := ifT c_6 hf
        refine ww_iconst (v := 0) C dX9_through_140 (by decide) ?_
        refine ww_iadd C dX9_through_141 ?_
        refine ww_topi (fun x2_142 e_x2_142 => ?_)
        replace hf := ltE e_x2_142 hf
        refine ww_istore_n (lv' := [(2, .int x2_142), (0, .ref (a0 0)), (1, .int x1), (3, .int x3), (4, .int x4), (5, .int x5)]) C dX9_through_142 rfl (by decide) rfl ?_
        obtain ⟨x3_143, e_x3_143⟩ : ∃ y : Int32, y = x3 + 1 := ⟨_, rfl⟩
        replace hf := ltE e_x3_143 hf
        refine ww_iinc (v := x3_143) (lv' := [(3, .int x3_143), (2, .int x2_142), (0, .ref (a0 0)), (1, .int x1), (4, .int x4), (5, .int x5)]) C dX9_through_143 3 rfl (by rw [e_x3_143]; rfl) (by decide) rfl ?_
        refine ww_goto (tgt := 4) C dX9_through_146 (by decide) ?_
        refine ww_sub C (lv' := [(0, .ref (a0 0)), (1, .int x1), (2, .int x2_142), (3, .int x3_143)]) [2, 3, 1, 0] rfl ?_
        exact hk4 _ _ hf
      · replace hf := ifF c_6 hf
        refine ww_iconst (v := 1) C dX9_through_136 (by decide) ?_
        refine ww_goto (tgt := 141) C dX9_through_137 (by decide) ?_
        refine ww_iadd C dX9_through_141 ?_
        refine ww_topi (fun x2_142 e_x2_142 => ?_)
        replace hf := ltE e_x2_142 hf
        refine ww_istore_n (lv' := [(2, .int x2_142), (0, .ref (a0 0)), (1, .int x1), (3, .int x3), (4, .int x4), (5, .int x5)]) C dX9_through_142 rfl (by decide) rfl ?_
        obtain ⟨x3_143, e_x3_143⟩ : ∃ y : Int32, y = x3 + 1 := ⟨_, rfl⟩
        replace hf := ltE e_x3_143 hf
        refine ww_iinc (v := x3_143) (lv' := [(3, .int x3_143), (2, .int x2_142), (0, .ref (a0 0)), (1, .int x1), (4, .int x4), (5, .int x5)]) C dX9_through_143 3 rfl (by rw [e_x3_143]; rfl) (by decide) rfl ?_
        refine ww_goto (tgt := 4) C dX9_through_146 (by decide) ?_
        refine ww_sub C (lv' := [(0, .ref (a0 0)), (1, .int x1), (2, .int x2_142), (3, .int x3_143)]) [2, 3, 1, 0] rfl ?_
        exact hk4 _ _ hf
    · replace hf := ifF c_5 hf
      refine ww_aload_n C dX9_through_30 rfl 0 rfl ?_
      refine ww_get C clOK9 in_X9_through_X9 (w := wOwn E a0 (rf4 q1 h0_1 q3 h0_3) v0) (fs := fsOwn a0 (rf4 q1 h0_1 q3 h0_3) v0) (v := .ref q3) 0 0 6 rfl q_Own (by decide) (by decide +kernel) g_Own_walk dX9_through_31 ?_
      refine ww_iload_n C dX9_through_34 rfl 3 rfl ?_
      refine ww_aldR C (f := roF a4 v3) (w := wRO E q3 4 a4 v3) 3 0 rfl q_RO (inB_vp g_2) (roF_at (of_decide_eq_true g_3)) dX9_through_35 ?_
      refine ww_iload C dX9_through_36 5 rfl ?_
      obtain ⟨g_9, hf⟩ := gdE hf
      refine ww_iald C (f := v4.2.2 (Int32.toNatClampNeg x3)) (w := wRR E a4 v4) 4 (Int32.toNatClampNeg x3) rfl (q_RR (of_decide_eq_true g_4)) (inB_vp g_9) dX9_through_38 ?_
      refine ww_topi (fun x6_39 e_x6_39 => ?_)
      replace hf := ltE e_x6_39 hf
      refine ww_istore (lv' := [(6, .int x6_39), (0, .ref (a0 0)), (1, .int x1), (2, .int x2), (3, .int x3), (4, .int x4), (5, .int x5)]) C dX9_through_39 (by decide) rfl ?_
      refine ww_aload_n C dX9_through_41 rfl 1 rfl ?_
      refine ww_get C clOK9 in_X9_through_X9 (w := wOwn E a0 (rf4 q1 h0_1 q3 h0_3) v0) (fs := fsOwn a0 (rf4 q1 h0_1 q3 h0_3) v0) (v := .ref q3) 0 0 6 rfl q_Own (by decide) (by decide +kernel) g_Own_walk dX9_through_42 ?_
      refine ww_iload_n C dX9_through_45 rfl 4 rfl ?_
      refine ww_aldR C (f := roF a4 v3) (w := wRO E q3 4 a4 v3) 3 0 rfl q_RO (inB_vp g_2) (roF_at (of_decide_eq_true g_3)) dX9_through_46 ?_
      refine ww_iload C dX9_through_47 6 rfl ?_
      refine ww_iconst (v := 1) C dX9_through_49 (by decide) ?_
      refine ww_iadd C dX9_through_50 ?_
      refine ww_aload_n C dX9_through_51 rfl 1 rfl ?_
      refine ww_get C clOK9 in_X9_through_X9 (w := wOwn E a0 (rf4 q1 h0_1 q3 h0_3) v0) (fs := fsOwn a0 (rf4 q1 h0_1 q3 h0_3) v0) (v := .ref q3) 0 0 6 rfl q_Own (by decide) (by decide +kernel) g_Own_walk dX9_through_52 ?_
      refine ww_iload_n C dX9_through_55 rfl 4 rfl ?_
      refine ww_aldR C (f := roF a4 v3) (w := wRO E q3 4 a4 v3) 3 0 rfl q_RO (inB_vp g_2) (roF_at (of_decide_eq_true g_3)) dX9_through_56 ?_
      refine ww_alen C (v := nI (v4.2.1 (Int32.toNatClampNeg x3))) (w := wRR E a4 v4) 4 (Int32.toNatClampNeg x3) rfl (q_RR (of_decide_eq_true g_4)) rfl dX9_through_57 ?_
      obtain ⟨g_11, hf⟩ := gdE hf
      refine ww_irem C dX9_through_58 (nz_ne g_11) ?_
      obtain ⟨g_12, hf⟩ := gdE hf
      refine ww_iald C (f := v4.2.2 (Int32.toNatClampNeg x3)) (w := wRR E a4 v4) 4 (Int32.toNatClampNeg x3) rfl (q_RR (of_decide_eq_true g_4)) (inB_vp g_12) dX9_through_59 ?_
      refine ww_topi (fun x7_60 e_x7_60 => ?_)
      replace hf := ltE e_x7_60 hf
      refine ww_istore (lv' := [(7, .int x7_60), (6, .int x6_39), (0, .ref (a0 0)), (1, .int x1), (2, .int x2), (3, .int x3), (4, .int x4), (5, .int x5)]) C dX9_through_60 (by decide) rfl ?_
      refine ww_iload C dX9_through_62 6 rfl ?_
      refine ww_iload C dX9_through_64 1 rfl ?_
      refine ww_aload_n C dX9_through_66 rfl 2 rfl ?_
      refine ww_get C clOK9 in_X9_through_X9 (w := wOwn E a0 (rf4 q1 h0_1 q3 h0_3) v0) (fs := fsOwn a0 (rf4 q1 h0_1 q3 h0_3) v0) (v := .ref q1) 0 0 4 rfl q_Own (by decide) (by decide +kernel) g_Own_door dX9_through_67 ?_
      refine ww_iload_n C dX9_through_70 rfl 3 rfl ?_
      obtain ⟨g_14, hf⟩ := gdE hf
      obtain ⟨g_15, hf⟩ := gdE hf
      refine ww_aldR C (f := roF a2 v1) (w := wRO E q1 20 a2 v1) 1 0 rfl q_RO (inB_vp g_14) (roF_at (of_decide_eq_true g_15)) dX9_through_71 ?_
      refine ww_iconst (v := 0) C dX9_through_72 (by decide) ?_
      obtain ⟨g_16, hf⟩ := gdE hf
      obtain ⟨g_17, hf⟩ := gdE hf
      refine ww_iald C (f := v2.2.2 (Int32.toNatClampNeg x1)) (w := wRR E a2 v2) 2 (Int32.toNatClampNeg x1) rfl (q_RR (of_decide_eq_true g_16)) (inB_vp g_17) dX9_through_73 ?_
      refine ww_icmp_ne (tgt := 90) C dX9_through_74 (by decide) (fun c_18 => ?_) (fun c_18 => ?_)
      · replace hf := ifF c_18 hf
        refine ww_sub C (lv' := [(0, .ref (a0 0)), (1, .int x1), (2, .int x2), (3, .int x3), (5, .int x5), (6, .int x6_39), (7, .int x7_60)]) [2, 3, 4, 5, 7, 1, 0] rfl ?_
        exact w_X9_through_90 C (k4 := k4) hk4 (k18 := (fun (x4 : Int32) (x5 : Int32) => Own_through_18 x1 v0 v1 v2 v3 v4 x2 x3 k4 n x4 x5)) ih hf
      · replace hf := ifT c_18 hf
        refine ww_iload C dX9_through_77 0 rfl ?_
        refine ww_aload_n C dX9_through_79 rfl 2 rfl ?_
        refine ww_get C clOK9 in_X9_through_X9 (w := wOwn E a0 (rf4 q1 h0_1 q3 h0_3) v0) (fs := fsOwn a0 (rf4 q1 h0_1 q3 h0_3) v0) (v := .ref q1) 0 0 4 rfl q_Own (by decide) (by decide +kernel) g_Own_door dX9_through_80 ?_
        refine ww_iload_n C dX9_through_83 rfl 3 rfl ?_
        refine ww_aldR C (f := roF a2 v1) (w := wRO E q1 20 a2 v1) 1 0 rfl q_RO (inB_vp g_14) (roF_at (of_decide_eq_true g_15)) dX9_through_84 ?_
        refine ww_iconst (v := 1) C dX9_through_85 (by decide) ?_
        obtain ⟨g_19, hf⟩ := gdE hf
        refine ww_iald C (f := v2.2.2 (Int32.toNatClampNeg x1)) (w := wRR E a2 v2) 2 (Int32.toNatClampNeg x1) rfl (q_RR (of_decide_eq_true g_16)) (inB_vp g_19) dX9_through_86 ?_
        refine ww_icmp_eq (tgt := 116) C dX9_through_87 (by decide) (fun c_20 => ?_) (fun c_20 => ?_)
        · replace hf := ifT c_20 hf
          refine ww_iconst (v := 1) C dX9_through_116 (by decide) ?_
          refine ww_goto (tgt := 121) C dX9_through_117 (by decide) ?_
          refine ww_ior C dX9_through_121 ?_
          refine ww_topi (fun x4_122 e_x4_122 => ?_)
          replace hf := ltE e_x4_122 hf
          refine ww_istore (lv' := [(4, .int x4_122), (7, .int x7_60), (6, .int x6_39), (0, .ref (a0 0)), (1, .int x1), (2, .int x2), (3, .int x3), (5, .int x5)]) C dX9_through_122 (by decide) rfl ?_
          obtain ⟨x5_124, e_x5_124⟩ : ∃ y : Int32, y = x5 + 1 := ⟨_, rfl⟩
          replace hf := ltE e_x5_124 hf
          refine ww_iinc (v := x5_124) (lv' := [(5, .int x5_124), (4, .int x4_122), (7, .int x7_60), (6, .int x6_39), (0, .ref (a0 0)), (1, .int x1), (2, .int x2), (3, .int x3)]) C dX9_through_124 7 rfl (by rw [e_x5_124]; rfl) (by decide) rfl ?_
          refine ww_goto (tgt := 18) C dX9_through_127 (by decide) ?_
          refine ww_sub C (lv' := [(0, .ref (a0 0)), (1, .int x1), (2, .int x2), (3, .int x3), (4, .int x4_122), (5, .int x5_124)]) [4, 5, 6, 7, 1, 0] rfl ?_
          exact ih _ _ hf
        · replace hf := ifF c_20 hf
          refine ww_sub C (lv' := [(0, .ref (a0 0)), (1, .int x1), (2, .int x2), (3, .int x3), (5, .int x5), (6, .int x6_39), (7, .int x7_60)]) [2, 3, 4, 5, 7, 1, 0] rfl ?_
          exact w_X9_through_90 C (k4 := k4) hk4 (k18 := (fun (x4 : Int32) (x5 : Int32) => Own_through_18 x1 v0 v1 v2 v3 v4 x2 x3 k4 n x4 x5)) ih hf

set_option maxHeartbeats 4000000 in
set_option maxRecDepth 100000 in
theorem w_X9_through_4 {E : Ex} {K : Kx} (C : Cx E K cX9_through 8 (some .int) RX9 wsX9_through rmX9_through) {a0 : Nat → Nat} {q1 : Nat} {a2 : Nat → Nat} {q3 : Nat} {a4 : Nat → Nat} {h0_1 h0_3 : Nat} {x1 : Int32} {v0 : OwnV} {v1 : Nat} {v2 : RowsT} {v3 : Nat} {v4 : RowsT}  {r : Int32} : ∀ (n : Nat)  (x2 : Int32) (x3 : Int32), Own_through_4 x1 v0 v1 v2 v3 v4 n x2 x3 = some r → WW E K 0 0 (QQ E K (fun rv g => rv = some (.int r) ∧ g = [wOwn E a0 (rf4 q1 h0_1 q3 h0_3) v0, wRO E q1 20 a2 v1, wRR E a2 v2, wRO E q3 4 a4 v3, wRR E a4 v4]) 0 0) 4 [(0, .ref (a0 0)), (1, .int x1), (2, .int x2), (3, .int x3)] [] [wOwn E a0 (rf4 q1 h0_1 q3 h0_3) v0, wRO E q1 20 a2 v1, wRR E a2 v2, wRO E q3 4 a4 v3, wRR E a4 v4] := by
  intro n
  induction n with
  | zero =>
    intro  x2 x3 hf
    simp [Own_through_4] at hf
  | succ n ih =>
    intro  x2 x3 hf
    rw [Own_through_4] at hf
    refine ww_iload_n C dX9_through_4 rfl 3 rfl ?_
    refine ww_aload_n C dX9_through_5 rfl 0 rfl ?_
    refine ww_get C clOK9 in_X9_through_X9 (w := wOwn E a0 (rf4 q1 h0_1 q3 h0_3) v0) (fs := fsOwn a0 (rf4 q1 h0_1 q3 h0_3) v0) (v := .int (Own_guards v0)) 0 0 2 rfl q_Own (by decide) (by decide +kernel) g_Own_guards dX9_through_6 ?_
    refine ww_icmp_ge (tgt := 149) C dX9_through_9 (by decide) (fun c_1 => ?_) (fun c_1 => ?_)
    · replace hf := ifT c_1 hf
      refine ww_iload_n C dX9_through_149 rfl 2 rfl ?_
      obtain rfl := Option.some.inj hf
      exact ww_iret C ⟨rfl, rfl⟩ dX9_through_150
    · replace hf := ifF c_1 hf
      refine ww_iconst (v := 0) C dX9_through_12 (by decide) ?_
      refine ww_istore (lv' := [(4, .int 0), (0, .ref (a0 0)), (1, .int x1), (2, .int x2), (3, .int x3)]) C dX9_through_13 (by decide) rfl ?_
      refine ww_iconst (v := 0) C dX9_through_15 (by decide) ?_
      refine ww_istore (lv' := [(5, .int 0), (4, .int 0), (0, .ref (a0 0)), (1, .int x1), (2, .int x2), (3, .int x3)]) C dX9_through_16 (by decide) rfl ?_
      refine ww_sub C (lv' := [(0, .ref (a0 0)), (1, .int x1), (2, .int x2), (3, .int x3), (4, .int 0), (5, .int 0)]) [2, 3, 4, 5, 1, 0] rfl ?_
      exact w_X9_through_18 C (k4 := (fun (x2 : Int32) (x3 : Int32) => Own_through_4 x1 v0 v1 v2 v3 v4 n x2 x3)) ih FU _ _ hf

set_option maxHeartbeats 4000000 in
set_option maxRecDepth 100000 in
theorem c_X9_through {E : Ex} {a0 : Nat → Nat} {q1 : Nat} {a2 : Nat → Nat} {q3 : Nat} {a4 : Nat → Nat} {h0_1 h0_3 : Nat} {x1 : Int32} {v0 : OwnV} {v1 : Nat} {v2 : RowsT} {v3 : Nat} {v4 : RowsT} {r : Int32} (hf : Own_through x1 v0 v1 v2 v3 v4 = some r) : Ct E yX9_through wsX9_through rmX9_through [.ref (a0 0), .int x1] [wOwn E a0 (rf4 q1 h0_1 q3 h0_3) v0, wRO E q1 20 a2 v1, wRR E a2 v2, wRO E q3 4 a4 v3, wRR E a4 v4] (fun rv g => rv = some (.int r) ∧ g = [wOwn E a0 (rf4 q1 h0_1 q3 h0_3) v0, wRO E q1 20 a2 v1, wRR E a2 v2, wRO E q3 4 a4 v3, wRR E a4 v4]) := by
  refine ct_of (own := RX9) (by decide +kernel) rfl rfl (Nat.le_of_ble_eq_true rfl) (fun K C => ?_)
  refine ww_sub C (lv' := [(0, .ref (a0 0)), (1, .int x1)]) [0, 1] rfl ?_
  rw [Own_through] at hf
  refine ww_iconst (v := 0) C dX9_through_0 (by decide) ?_
  refine ww_istore_n (lv' := [(2, .int 0), (0, .ref (a0 0)), (1, .int x1)]) C dX9_through_1 rfl (by decide) rfl ?_
  refine ww_iconst (v := 0) C dX9_through_2 (by decide) ?_
  refine ww_istore_n (lv' := [(3, .int 0), (2, .int 0), (0, .ref (a0 0)), (1, .int x1)]) C dX9_through_3 rfl (by decide) rfl ?_
  refine ww_sub C (lv' := [(0, .ref (a0 0)), (1, .int x1), (2, .int 0), (3, .int 0)]) [2, 3, 1, 0] rfl ?_
  exact w_X9_through_4 C FU _ _ hf

theorem yk_X9_through : yX9_through.cls = RX9 ∧ yX9_through.cls ≠ "java/lang/invoke/MethodHandle" ∧ yX9_through.cls ≠ "java/lang/invoke/VarHandle" ∧ (parseMethodDescriptor yX9_through.desc).map (fun d => d.parameters.length) = some 1 := by decide +kernel
abbrev rmX9_walkBy : Room := { frames := 1, cells := 2, slots := 20, locals := 24 }
set_option maxRecDepth 20000 in
theorem in_X9_walkBy_X9 : ∀ w ∈ u_ws RX9 TX9 8, w ∈ wsX9_walkBy := by decide +kernel
set_option maxHeartbeats 4000000 in
set_option maxRecDepth 100000 in
theorem w_X9_walkBy_130 {E : Ex} {K : Kx} (C : Cx E K cX9_walkBy 6 (some (.array .int)) RX9 wsX9_walkBy rmX9_walkBy) {a0 : Nat → Nat} {q1 : Nat} {a2 : Nat → Nat} {h0_1 h0_2 h0_3 : Nat} {x1 : Int32} {v0 : OwnV} {v1 : Nat} {v2 : RowsT} {x2 : Int32} {r : (Nat × (Nat → Int32))} : ∀ (n : Nat) (d0 : Nat) (d1 : Nat) (x5 : Int32) (l0 : Nat) (w0 : Nat → Int32) (l1 : Nat) (w1 : Nat → Int32) (c : Nat) (s : Nat), c ≤ 2 ∧ s ≤ 20 → Own_walkBy_130 x1 v0 v1 v2 x2 n x5 l0 w0 l1 w1 c s = some r → WW E K c s (QQ E K (fun rv g => ∃ (y0 : Nat), rv = some (.ref y0) ∧ g = [wOwn E a0 (rf4 q1 h0_1 h0_2 h0_3) v0, wRO E q1 20 a2 v1, wRR E a2 v2, wArr E y0 r.1 r.2]) 2 20) 130 [(2, .int x2), (3, .ref d0), (4, .ref d1), (5, .int x5)] [] [wOwn E a0 (rf4 q1 h0_1 h0_2 h0_3) v0, wRO E q1 20 a2 v1, wRR E a2 v2, wArr E d0 l0 w0, wArr E d1 l1 w1] := by
  intro n
  induction n with
  | zero =>
    intro d0 d1 x5 l0 w0 l1 w1 c s hcs hf
    simp [Own_walkBy_130] at hf
  | succ n ih =>
    intro d0 d1 x5 l0 w0 l1 w1 c s hcs hf
    rw [Own_walkBy_130] at hf
    refine ww_iload C dX9_walkBy_130 3 rfl ?_
    refine ww_iload_n C dX9_walkBy_132 rfl 0 rfl ?_
    refine ww_icmp_ge (tgt := 151) C dX9_walkBy_133 (by decide) (fun c_21 => ?_) (fun c_21 => ?_)
    · replace hf := ifT c_21 hf
      refine ww_aload C dX9_walkBy_151 2 rfl ?_
      obtain rfl := Option.some.inj hf
      refine ww_drop (gs' := [wOwn E a0 (rf4 q1 h0_1 h0_2 h0_3) v0, wRO E q1 20 a2 v1, wRR E a2 v2, wArr E d1 l1 w1]) [0, 1, 2, 4] [3] 5 rfl (by decide) rfl ?_
      refine ww_widen (k := 2) (n := 20) hcs.1 hcs.2 ?_
      exact ww_aret C (Or.inr ⟨_, rfl⟩) ⟨_, rfl, rfl⟩ dX9_walkBy_153
    · replace hf := ifF c_21 hf
      refine ww_aload C dX9_walkBy_136 2 rfl ?_
      refine ww_iload C dX9_walkBy_138 3 rfl ?_
      refine ww_aload_n C dX9_walkBy_140 rfl 1 rfl ?_
      refine ww_iload C dX9_walkBy_141 3 rfl ?_
      obtain ⟨g_22, hf⟩ := gdE hf
      refine ww_iald C (f := w0) (w := wArr E d0 l0 w0) 3 0 rfl q_Arr (inB_vp g_22) dX9_walkBy_143 ?_
      obtain ⟨g_23, hf⟩ := gdE hf
      obtain ⟨v4_144, e_v4_144⟩ : ∃ y : Nat → Int32, y = upd w1 (Int32.toNatClampNeg x5) (w0 (Int32.toNatClampNeg x5)) := ⟨_, rfl⟩
      replace hf := ltE e_v4_144 hf
      refine ww_iast C (f := w1) (w := wArr E d1 l1 w1) (w' := wArr E d1 l1 v4_144) (gs' := [wOwn E a0 (rf4 q1 h0_1 h0_2 h0_3) v0, wRO E q1 20 a2 v1, wRR E a2 v2, wArr E d0 l0 w0, wArr E d1 l1 v4_144]) 4 0 rfl q_Arr (inB_vp g_23) (by rw [e_v4_144]; exact s_Arr) rfl dX9_walkBy_144 ?_
      obtain ⟨x5_145, e_x5_145⟩ : ∃ y : Int32, y = x5 + 1 := ⟨_, rfl⟩
      replace hf := ltE e_x5_145 hf
      refine ww_iinc (v := x5_145) (lv' := [(5, .int x5_145), (2, .int x2), (3, .ref d0), (4, .ref d1)]) C dX9_walkBy_145 3 rfl (by rw [e_x5_145]; rfl) (by decide) rfl ?_
      refine ww_goto (tgt := 130) C dX9_walkBy_148 (by decide) ?_
      refine ww_sub C (lv' := [(2, .int x2), (3, .ref d0), (4, .ref d1), (5, .int x5_145)]) [1, 2, 3, 0] rfl ?_
      exact ih _ _ _ _ _ _ _ _ _ hcs hf

set_option maxHeartbeats 4000000 in
set_option maxRecDepth 100000 in
theorem w_X9_walkBy_85 {E : Ex} {K : Kx} (C : Cx E K cX9_walkBy 6 (some (.array .int)) RX9 wsX9_walkBy rmX9_walkBy) {a0 : Nat → Nat} {q1 : Nat} {a2 : Nat → Nat} {h0_1 h0_2 h0_3 : Nat} {x1 : Int32} {v0 : OwnV} {v1 : Nat} {v2 : RowsT}  {r : (Nat × (Nat → Int32))} : ∀ (n : Nat) (d0 : Nat) (x2 : Int32) (l0 : Nat) (w0 : Nat → Int32) (c : Nat) (s : Nat), c ≤ 2 ∧ s ≤ 20 → Own_walkBy_85 x1 v0 v1 v2 n x2 l0 w0 c s = some r → WW E K c s (QQ E K (fun rv g => ∃ (y0 : Nat), rv = some (.ref y0) ∧ g = [wOwn E a0 (rf4 q1 h0_1 h0_2 h0_3) v0, wRO E q1 20 a2 v1, wRR E a2 v2, wArr E y0 r.1 r.2]) 2 20) 85 [(0, .ref (a0 0)), (2, .int x2), (3, .ref d0)] [] [wOwn E a0 (rf4 q1 h0_1 h0_2 h0_3) v0, wRO E q1 20 a2 v1, wRR E a2 v2, wArr E d0 l0 w0] := by
  intro n
  induction n with
  | zero =>
    intro d0 x2 l0 w0 c s hcs hf
    simp [Own_walkBy_85] at hf
  | succ n ih =>
    intro d0 x2 l0 w0 c s hcs hf
    rw [Own_walkBy_85] at hf
    refine ww_iload_n C dX9_walkBy_85 rfl 1 rfl ?_
    refine ww_iconst (v := 1) C dX9_walkBy_86 (by decide) ?_
    refine ww_icmp_le (tgt := 122) C dX9_walkBy_87 (by decide) (fun c_10 => ?_) (fun c_10 => ?_)
    · replace hf := ifT c_10 hf
      refine ww_iload_n C dX9_walkBy_122 rfl 1 rfl ?_
      obtain ⟨g_11, hf⟩ := gdE hf
      obtain ⟨g_12, hf⟩ := gdE hf
      refine ww_newi C (by decide +kernel) (Int32.toNatClampNeg x2) (inB_pos g_11) rfl (inB_by g_11) (of_decide_eq_true g_12) dX9_walkBy_123 (fun q123 => ?_)
      refine ww_eq (gs' := [wOwn E a0 (rf4 q1 h0_1 h0_2 h0_3) v0, wRO E q1 20 a2 v1, wRR E a2 v2, wArr E d0 l0 w0, wArr E q123 (Int32.toNatClampNeg x2) (fun _ => 0)]) rfl ?_
      refine ww_astore (lv' := [(4, .ref q123), (0, .ref (a0 0)), (2, .int x2), (3, .ref d0)]) C dX9_walkBy_125 (by decide) rfl ?_
      refine ww_iconst (v := 0) C dX9_walkBy_127 (by decide) ?_
      refine ww_istore (lv' := [(5, .int 0), (4, .ref q123), (0, .ref (a0 0)), (2, .int x2), (3, .ref d0)]) C dX9_walkBy_128 (by decide) rfl ?_
      refine ww_sub C (lv' := [(2, .int x2), (3, .ref d0), (4, .ref q123), (5, .int 0)]) [3, 4, 1, 0] rfl ?_
      exact w_X9_walkBy_130 C FU _ _ _ _ _ _ _ _ _ (of_decide_eq_true g_12) hf
    · replace hf := ifF c_10 hf
      refine ww_aload_n C dX9_walkBy_90 rfl 2 rfl ?_
      refine ww_iload_n C dX9_walkBy_91 rfl 1 rfl ?_
      refine ww_iconst (v := 1) C dX9_walkBy_92 (by decide) ?_
      refine ww_isub C dX9_walkBy_93 ?_
      obtain ⟨g_13, hf⟩ := gdE hf
      refine ww_iald C (f := w0) (w := wArr E d0 l0 w0) 3 0 rfl q_Arr (inB_vp g_13) dX9_walkBy_94 ?_
      refine ww_aload_n C dX9_walkBy_95 rfl 2 rfl ?_
      refine ww_iconst (v := 0) C dX9_walkBy_96 (by decide) ?_
      obtain ⟨g_14, hf⟩ := gdE hf
      refine ww_iald C (f := w0) (w := wArr E d0 l0 w0) 3 0 rfl q_Arr (inB_vp g_14) dX9_walkBy_97 ?_
      refine ww_icmp_eq (tgt := 122) C dX9_walkBy_98 (by decide) (fun c_15 => ?_) (fun c_15 => ?_)
      · replace hf := ifT c_15 hf
        refine ww_iload_n C dX9_walkBy_122 rfl 1 rfl ?_
        obtain ⟨g_16, hf⟩ := gdE hf
        obtain ⟨g_17, hf⟩ := gdE hf
        refine ww_newi C (by decide +kernel) (Int32.toNatClampNeg x2) (inB_pos g_16) rfl (inB_by g_16) (of_decide_eq_true g_17) dX9_walkBy_123 (fun q123 => ?_)
        refine ww_eq (gs' := [wOwn E a0 (rf4 q1 h0_1 h0_2 h0_3) v0, wRO E q1 20 a2 v1, wRR E a2 v2, wArr E d0 l0 w0, wArr E q123 (Int32.toNatClampNeg x2) (fun _ => 0)]) rfl ?_
        refine ww_astore (lv' := [(4, .ref q123), (0, .ref (a0 0)), (2, .int x2), (3, .ref d0)]) C dX9_walkBy_125 (by decide) rfl ?_
        refine ww_iconst (v := 0) C dX9_walkBy_127 (by decide) ?_
        refine ww_istore (lv' := [(5, .int 0), (4, .ref q123), (0, .ref (a0 0)), (2, .int x2), (3, .ref d0)]) C dX9_walkBy_128 (by decide) rfl ?_
        refine ww_sub C (lv' := [(2, .int x2), (3, .ref d0), (4, .ref q123), (5, .int 0)]) [3, 4, 1, 0] rfl ?_
        exact w_X9_walkBy_130 C FU _ _ _ _ _ _ _ _ _ (of_decide_eq_true g_17) hf
      · replace hf := ifF c_15 hf
        refine ww_aload_n C dX9_walkBy_101 rfl 0 rfl ?_
        refine ww_aload_n C dX9_walkBy_102 rfl 2 rfl ?_
        refine ww_iload_n C dX9_walkBy_103 rfl 1 rfl ?_
        refine ww_iconst (v := 1) C dX9_walkBy_104 (by decide) ?_
        refine ww_isub C dX9_walkBy_105 ?_
        refine ww_iald C (f := w0) (w := wArr E d0 l0 w0) 3 0 rfl q_Arr (inB_vp g_13) dX9_walkBy_106 ?_
        refine ww_aload_n C dX9_walkBy_107 rfl 2 rfl ?_
        refine ww_iconst (v := 0) C dX9_walkBy_108 (by decide) ?_
        refine ww_iald C (f := w0) (w := wArr E d0 l0 w0) 3 0 rfl q_Arr (inB_vp g_14) dX9_walkBy_109 ?_
        obtain ⟨p110, hp110, hf⟩ := bdE hf
        refine ww_callV C (As := [.int (w0 (Int32.toNatClampNeg (x2 - 1))), .int (w0 (Int32.toNatClampNeg 0))]) (st := []) (gr := [wArr E d0 l0 w0]) (c_X9_open (E := E) (a0 := a0) (h0_1 := h0_1) (h0_2 := h0_2) (h0_3 := h0_3) (q1 := q1) (a2 := a2) hp110) gX9_walkBy_X9_open rfl yk_X9_open ⟨by decide, Nat.le_of_ble_eq_true rfl⟩ hcs clOK9 0 0 rfl rfl [0, 1, 2] [3] 4 rfl (by decide) rfl rfl (Nat.le_of_ble_eq_true rfl) dX9_walkBy_110 ?_
        rintro _ _ ⟨rfl, rfl⟩
        refine ww_perm (gs' := [wOwn E a0 (rf4 q1 h0_1 h0_2 h0_3) v0, wRO E q1 20 a2 v1, wRR E a2 v2, wArr E d0 l0 w0]) [0, 1, 2, 3] 4 rfl (by decide) rfl ?_
        refine ww_if_ne (tgt := 122) C dX9_walkBy_113 (by decide) (fun c_18 => ?_) (fun c_18 => ?_)
        · replace hf := ifF c_18 hf
          refine ww_iload_n C dX9_walkBy_122 rfl 1 rfl ?_
          obtain ⟨g_19, hf⟩ := gdE hf
          obtain ⟨g_20, hf⟩ := gdE hf
          refine ww_newi C (by decide +kernel) (Int32.toNatClampNeg x2) (inB_pos g_19) rfl (inB_by g_19) (of_decide_eq_true g_20) dX9_walkBy_123 (fun q123 => ?_)
          refine ww_eq (gs' := [wOwn E a0 (rf4 q1 h0_1 h0_2 h0_3) v0, wRO E q1 20 a2 v1, wRR E a2 v2, wArr E d0 l0 w0, wArr E q123 (Int32.toNatClampNeg x2) (fun _ => 0)]) rfl ?_
          refine ww_astore (lv' := [(4, .ref q123), (0, .ref (a0 0)), (2, .int x2), (3, .ref d0)]) C dX9_walkBy_125 (by decide) rfl ?_
          refine ww_iconst (v := 0) C dX9_walkBy_127 (by decide) ?_
          refine ww_istore (lv' := [(5, .int 0), (4, .ref q123), (0, .ref (a0 0)), (2, .int x2), (3, .ref d0)]) C dX9_walkBy_128 (by decide) rfl ?_
          refine ww_sub C (lv' := [(2, .int x2), (3, .ref d0), (4, .ref q123), (5, .int 0)]) [3, 4, 1, 0] rfl ?_
          exact w_X9_walkBy_130 C FU _ _ _ _ _ _ _ _ _ (of_decide_eq_true g_20) hf
        · replace hf := ifT c_18 hf
          obtain ⟨x2_116, e_x2_116⟩ : ∃ y : Int32, y = x2 + (-1) := ⟨_, rfl⟩
          replace hf := ltE e_x2_116 hf
          refine ww_iinc (v := x2_116) (lv' := [(2, .int x2_116), (0, .ref (a0 0)), (3, .ref d0)]) C dX9_walkBy_116 1 rfl (by rw [e_x2_116]; rfl) (by decide) rfl ?_
          refine ww_goto (tgt := 85) C dX9_walkBy_119 (by decide) ?_
          refine ww_sub C (lv' := [(0, .ref (a0 0)), (2, .int x2_116), (3, .ref d0)]) [1, 0, 2] rfl ?_
          exact ih _ _ _ _ _ _ hcs hf

set_option maxHeartbeats 4000000 in
set_option maxRecDepth 100000 in
theorem w_X9_walkBy_28 {E : Ex} {K : Kx} (C : Cx E K cX9_walkBy 6 (some (.array .int)) RX9 wsX9_walkBy rmX9_walkBy) {a0 : Nat → Nat} {q1 : Nat} {a2 : Nat → Nat} {h0_1 h0_2 h0_3 : Nat} {x1 : Int32} {v0 : OwnV} {v1 : Nat} {v2 : RowsT} {x2 : Int32} {r : (Nat × (Nat → Int32))} : ∀ (n : Nat) (d0 : Nat) (x4 : Int32) (l0 : Nat) (w0 : Nat → Int32) (c : Nat) (s : Nat), c ≤ 2 ∧ s ≤ 20 → Own_walkBy_28 x1 v0 v1 v2 x2 n x4 l0 w0 c s = some r → WW E K c s (QQ E K (fun rv g => ∃ (y0 : Nat), rv = some (.ref y0) ∧ g = [wOwn E a0 (rf4 q1 h0_1 h0_2 h0_3) v0, wRO E q1 20 a2 v1, wRR E a2 v2, wArr E y0 r.1 r.2]) 2 20) 28 [(0, .ref (a0 0)), (1, .int x1), (2, .int x2), (3, .ref d0), (4, .int x4)] [] [wOwn E a0 (rf4 q1 h0_1 h0_2 h0_3) v0, wRO E q1 20 a2 v1, wRR E a2 v2, wArr E d0 l0 w0] := by
  intro n
  induction n with
  | zero =>
    intro d0 x4 l0 w0 c s hcs hf
    simp [Own_walkBy_28] at hf
  | succ n ih =>
    intro d0 x4 l0 w0 c s hcs hf
    rw [Own_walkBy_28] at hf
    refine ww_iload C dX9_walkBy_28 4 rfl ?_
    refine ww_iload_n C dX9_walkBy_30 rfl 2 rfl ?_
    refine ww_icmp_ge (tgt := 85) C dX9_walkBy_31 (by decide) (fun c_5 => ?_) (fun c_5 => ?_)
    · replace hf := ifT c_5 hf
      refine ww_sub C (lv' := [(0, .ref (a0 0)), (2, .int x2), (3, .ref d0)]) [0, 2, 3] rfl ?_
      exact w_X9_walkBy_85 C FU _ _ _ _ _ _ hcs hf
    · replace hf := ifF c_5 hf
      refine ww_iload_n C dX9_walkBy_34 rfl 1 rfl ?_
      refine ww_iload C dX9_walkBy_35 4 rfl ?_
      refine ww_iconst (v := 4) C dX9_walkBy_37 (by decide) ?_
      refine ww_iadd C dX9_walkBy_38 ?_
      refine ww_ishr C dX9_walkBy_39 ?_
      refine ww_aload_n C dX9_walkBy_40 rfl 0 rfl ?_
      refine ww_get C clOK9 in_X9_walkBy_X9 (w := wOwn E a0 (rf4 q1 h0_1 h0_2 h0_3) v0) (fs := fsOwn a0 (rf4 q1 h0_1 h0_2 h0_3) v0) (v := .int (Own_rooms v0)) 0 0 0 rfl q_Own (by decide) (by decide +kernel) g_Own_rooms dX9_walkBy_41 ?_
      obtain ⟨p44, hp44, hf⟩ := bdE hf
      refine ww_callSN C (As := [.int (x1 >>> ((x4 + 4) &&& 31)), .int (Own_rooms v0)]) (st := []) (gr := [wOwn E a0 (rf4 q1 h0_1 h0_2 h0_3) v0, wRO E q1 20 a2 v1, wRR E a2 v2, wArr E d0 l0 w0]) (host := RL) (c_L_most (E := E)  hp44) gX9_walkBy_L_most_n94 rfl (by decide +kernel) (by decide +kernel) (by decide +kernel) ysk_L_most ⟨by decide, Nat.le_of_ble_eq_true rfl⟩ hcs [] [0, 1, 2, 3] 4 rfl (by decide) rfl rfl (Nat.le_of_ble_eq_true rfl) dX9_walkBy_44 ?_
      rintro _ _ ⟨rfl, rfl⟩
      refine ww_perm (gs' := [wOwn E a0 (rf4 q1 h0_1 h0_2 h0_3) v0, wRO E q1 20 a2 v1, wRR E a2 v2, wArr E d0 l0 w0]) [0, 1, 2, 3] 4 rfl (by decide) rfl ?_
      refine ww_istore (lv' := [(5, .int p44), (0, .ref (a0 0)), (1, .int x1), (2, .int x2), (3, .ref d0), (4, .int x4)]) C dX9_walkBy_47 (by decide) rfl ?_
      refine ww_aload_n C dX9_walkBy_49 rfl 4 rfl ?_
      refine ww_iload C dX9_walkBy_50 5 rfl ?_
      refine ww_aload_n C dX9_walkBy_52 rfl 1 rfl ?_
      refine ww_aload_n C dX9_walkBy_53 rfl 4 rfl ?_
      refine ww_iload C dX9_walkBy_54 5 rfl ?_
      refine ww_iconst (v := 1) C dX9_walkBy_56 (by decide) ?_
      refine ww_isub C dX9_walkBy_57 ?_
      obtain ⟨g_6, hf⟩ := gdE hf
      refine ww_iald C (f := w0) (w := wArr E d0 l0 w0) 3 0 rfl q_Arr (inB_vp g_6) dX9_walkBy_58 ?_
      refine ww_iload C dX9_walkBy_59 0 rfl ?_
      obtain ⟨p61, hp61, hf⟩ := bdE hf
      refine ww_callV C (As := [.int (w0 (Int32.toNatClampNeg (x4 - 1))), .int p44]) (st := [.int x4, .ref d0]) (gr := [wArr E d0 l0 w0]) (c_X9_open (E := E) (a0 := a0) (h0_1 := h0_1) (h0_2 := h0_2) (h0_3 := h0_3) (q1 := q1) (a2 := a2) hp61) gX9_walkBy_X9_open rfl yk_X9_open ⟨by decide, Nat.le_of_ble_eq_true rfl⟩ hcs clOK9 0 0 rfl rfl [0, 1, 2] [3] 4 rfl (by decide) rfl rfl (Nat.le_of_ble_eq_true rfl) dX9_walkBy_61 ?_
      rintro _ _ ⟨rfl, rfl⟩
      refine ww_perm (gs' := [wOwn E a0 (rf4 q1 h0_1 h0_2 h0_3) v0, wRO E q1 20 a2 v1, wRR E a2 v2, wArr E d0 l0 w0]) [0, 1, 2, 3] 4 rfl (by decide) rfl ?_
      refine ww_if_le (tgt := 72) C dX9_walkBy_64 (by decide) (fun c_7 => ?_) (fun c_7 => ?_)
      · replace hf := ifT c_7 hf
        refine ww_aload_n C dX9_walkBy_72 rfl 4 rfl ?_
        refine ww_iload C dX9_walkBy_73 5 rfl ?_
        refine ww_iconst (v := 1) C dX9_walkBy_75 (by decide) ?_
        refine ww_isub C dX9_walkBy_76 ?_
        refine ww_iald C (f := w0) (w := wArr E d0 l0 w0) 3 0 rfl q_Arr (inB_vp g_6) dX9_walkBy_77 ?_
        obtain ⟨g_8, hf⟩ := gdE hf
        obtain ⟨v3_78, e_v3_78⟩ : ∃ y : Nat → Int32, y = upd w0 (Int32.toNatClampNeg x4) (w0 (Int32.toNatClampNeg (x4 - 1))) := ⟨_, rfl⟩
        replace hf := ltE e_v3_78 hf
        refine ww_iast C (f := w0) (w := wArr E d0 l0 w0) (w' := wArr E d0 l0 v3_78) (gs' := [wOwn E a0 (rf4 q1 h0_1 h0_2 h0_3) v0, wRO E q1 20 a2 v1, wRR E a2 v2, wArr E d0 l0 v3_78]) 3 0 rfl q_Arr (inB_vp g_8) (by rw [e_v3_78]; exact s_Arr) rfl dX9_walkBy_78 ?_
        obtain ⟨x4_79, e_x4_79⟩ : ∃ y : Int32, y = x4 + 1 := ⟨_, rfl⟩
        replace hf := ltE e_x4_79 hf
        refine ww_iinc (v := x4_79) (lv' := [(4, .int x4_79), (5, .int p44), (0, .ref (a0 0)), (1, .int x1), (2, .int x2), (3, .ref d0)]) C dX9_walkBy_79 5 rfl (by rw [e_x4_79]; rfl) (by decide) rfl ?_
        refine ww_goto (tgt := 28) C dX9_walkBy_82 (by decide) ?_
        refine ww_sub C (lv' := [(0, .ref (a0 0)), (1, .int x1), (2, .int x2), (3, .ref d0), (4, .int x4_79)]) [2, 3, 4, 5, 0] rfl ?_
        exact ih _ _ _ _ _ _ hcs hf
      · replace hf := ifF c_7 hf
        refine ww_iload C dX9_walkBy_67 0 rfl ?_
        refine ww_goto (tgt := 78) C dX9_walkBy_69 (by decide) ?_
        obtain ⟨g_9, hf⟩ := gdE hf
        obtain ⟨v3_78, e_v3_78⟩ : ∃ y : Nat → Int32, y = upd w0 (Int32.toNatClampNeg x4) p44 := ⟨_, rfl⟩
        replace hf := ltE e_v3_78 hf
        refine ww_iast C (f := w0) (w := wArr E d0 l0 w0) (w' := wArr E d0 l0 v3_78) (gs' := [wOwn E a0 (rf4 q1 h0_1 h0_2 h0_3) v0, wRO E q1 20 a2 v1, wRR E a2 v2, wArr E d0 l0 v3_78]) 3 0 rfl q_Arr (inB_vp g_9) (by rw [e_v3_78]; exact s_Arr) rfl dX9_walkBy_78 ?_
        obtain ⟨x4_79, e_x4_79⟩ : ∃ y : Int32, y = x4 + 1 := ⟨_, rfl⟩
        replace hf := ltE e_x4_79 hf
        refine ww_iinc (v := x4_79) (lv' := [(4, .int x4_79), (5, .int p44), (0, .ref (a0 0)), (1, .int x1), (2, .int x2), (3, .ref d0)]) C dX9_walkBy_79 5 rfl (by rw [e_x4_79]; rfl) (by decide) rfl ?_
        refine ww_goto (tgt := 28) C dX9_walkBy_82 (by decide) ?_
        refine ww_sub C (lv' := [(0, .ref (a0 0)), (1, .int x1), (2, .int x2), (3, .ref d0), (4, .int x4_79)]) [2, 3, 4, 5, 0] rfl ?_
        exact ih _ _ _ _ _ _ hcs hf

set_option maxHeartbeats 4000000 in
set_option maxRecDepth 100000 in
theorem c_X9_walkBy {E : Ex} {a0 : Nat → Nat} {q1 : Nat} {a2 : Nat → Nat} {h0_1 h0_2 h0_3 : Nat} {x1 : Int32} {v0 : OwnV} {v1 : Nat} {v2 : RowsT} {r : (Nat × (Nat → Int32))} (hf : Own_walkBy x1 v0 v1 v2 = some r) : Ct E yX9_walkBy wsX9_walkBy rmX9_walkBy [.ref (a0 0), .int x1] [wOwn E a0 (rf4 q1 h0_1 h0_2 h0_3) v0, wRO E q1 20 a2 v1, wRR E a2 v2] (fun rv g => ∃ (y0 : Nat), rv = some (.ref y0) ∧ g = [wOwn E a0 (rf4 q1 h0_1 h0_2 h0_3) v0, wRO E q1 20 a2 v1, wRR E a2 v2, wArr E y0 r.1 r.2]) := by
  refine ct_of (own := RX9) (by decide +kernel) rfl rfl (Nat.le_of_ble_eq_true rfl) (fun K C => ?_)
  refine ww_sub C (lv' := [(0, .ref (a0 0)), (1, .int x1)]) [0, 1] rfl ?_
  rw [Own_walkBy] at hf
  refine ww_iconst (v := 1) C dX9_walkBy_0 (by decide) ?_
  refine ww_iload_n C dX9_walkBy_1 rfl 1 rfl ?_
  refine ww_iconst (v := 4) C dX9_walkBy_2 (by decide) ?_
  obtain ⟨p3, hp3, hf⟩ := bdE hf
  refine ww_callSN C (As := [.int x1, .int 4]) (st := [.int 1]) (gr := [wOwn E a0 (rf4 q1 h0_1 h0_2 h0_3) v0, wRO E q1 20 a2 v1, wRR E a2 v2]) (host := RL) (c_L_most (E := E)  hp3) gX9_walkBy_L_most_n94 rfl (by decide +kernel) (by decide +kernel) (by decide +kernel) ysk_L_most ⟨by decide, Nat.le_of_ble_eq_true rfl⟩ ⟨Nat.zero_le _, Nat.zero_le _⟩ [] [0, 1, 2] 3 rfl (by decide) rfl rfl (Nat.le_of_ble_eq_true rfl) dX9_walkBy_3 ?_
  rintro _ _ ⟨rfl, rfl⟩
  refine ww_perm (gs' := [wOwn E a0 (rf4 q1 h0_1 h0_2 h0_3) v0, wRO E q1 20 a2 v1, wRR E a2 v2]) [0, 1, 2] 3 rfl (by decide) rfl ?_
  refine ww_iadd C dX9_walkBy_6 ?_
  refine ww_topi (fun x2_7 e_x2_7 => ?_)
  replace hf := ltE e_x2_7 hf
  refine ww_istore_n (lv' := [(2, .int x2_7), (0, .ref (a0 0)), (1, .int x1)]) C dX9_walkBy_7 rfl (by decide) rfl ?_
  refine ww_iload_n C dX9_walkBy_8 rfl 0 rfl ?_
  obtain ⟨g_2, hf⟩ := gdE hf
  obtain ⟨g_3, hf⟩ := gdE hf
  refine ww_newi C (by decide +kernel) (Int32.toNatClampNeg x2_7) (inB_pos g_2) rfl (inB_by g_2) (of_decide_eq_true g_3) dX9_walkBy_9 (fun q9 => ?_)
  refine ww_eq (gs' := [wOwn E a0 (rf4 q1 h0_1 h0_2 h0_3) v0, wRO E q1 20 a2 v1, wRR E a2 v2, wArr E q9 (Int32.toNatClampNeg x2_7) (fun _ => 0)]) rfl ?_
  refine ww_astore_n (lv' := [(3, .ref q9), (2, .int x2_7), (0, .ref (a0 0)), (1, .int x1)]) C dX9_walkBy_11 rfl (by decide) rfl ?_
  refine ww_aload_n C dX9_walkBy_12 rfl 0 rfl ?_
  refine ww_iconst (v := 0) C dX9_walkBy_13 (by decide) ?_
  refine ww_iload_n C dX9_walkBy_14 rfl 3 rfl ?_
  refine ww_iconst (v := 3) C dX9_walkBy_15 (by decide) ?_
  refine ww_ishr C dX9_walkBy_16 ?_
  refine ww_aload_n C dX9_walkBy_17 rfl 2 rfl ?_
  refine ww_get C clOK9 in_X9_walkBy_X9 (w := wOwn E a0 (rf4 q1 h0_1 h0_2 h0_3) v0) (fs := fsOwn a0 (rf4 q1 h0_1 h0_2 h0_3) v0) (v := .int (Own_rooms v0)) 0 0 0 rfl q_Own (by decide) (by decide +kernel) g_Own_rooms dX9_walkBy_18 ?_
  obtain ⟨p21, hp21, hf⟩ := bdE hf
  refine ww_callSN C (As := [.int (x1 >>> (3 &&& 31)), .int (Own_rooms v0)]) (st := [.int 0, .ref q9]) (gr := [wOwn E a0 (rf4 q1 h0_1 h0_2 h0_3) v0, wRO E q1 20 a2 v1, wRR E a2 v2, wArr E q9 (Int32.toNatClampNeg x2_7) (fun _ => 0)]) (host := RL) (c_L_most (E := E)  hp21) gX9_walkBy_L_most_n94 rfl (by decide +kernel) (by decide +kernel) (by decide +kernel) ysk_L_most ⟨by decide, Nat.le_of_ble_eq_true rfl⟩ (of_decide_eq_true g_3) [] [0, 1, 2, 3] 4 rfl (by decide) rfl rfl (Nat.le_of_ble_eq_true rfl) dX9_walkBy_21 ?_
  rintro _ _ ⟨rfl, rfl⟩
  refine ww_perm (gs' := [wOwn E a0 (rf4 q1 h0_1 h0_2 h0_3) v0, wRO E q1 20 a2 v1, wRR E a2 v2, wArr E q9 (Int32.toNatClampNeg x2_7) (fun _ => 0)]) [0, 1, 2, 3] 4 rfl (by decide) rfl ?_
  obtain ⟨g_4, hf⟩ := gdE hf
  obtain ⟨v3_24, e_v3_24⟩ : ∃ y : Nat → Int32, y = upd (fun _ => 0) (Int32.toNatClampNeg 0) p21 := ⟨_, rfl⟩
  replace hf := ltE e_v3_24 hf
  refine ww_iast C (f := (fun _ => 0)) (w := wArr E q9 (Int32.toNatClampNeg x2_7) (fun _ => 0)) (w' := wArr E q9 (Int32.toNatClampNeg x2_7) v3_24) (gs' := [wOwn E a0 (rf4 q1 h0_1 h0_2 h0_3) v0, wRO E q1 20 a2 v1, wRR E a2 v2, wArr E q9 (Int32.toNatClampNeg x2_7) v3_24]) 3 0 rfl q_Arr (inB_vp g_4) (by rw [e_v3_24]; exact s_Arr) rfl dX9_walkBy_24 ?_
  refine ww_iconst (v := 1) C dX9_walkBy_25 (by decide) ?_
  refine ww_istore (lv' := [(4, .int 1), (3, .ref q9), (2, .int x2_7), (0, .ref (a0 0)), (1, .int x1)]) C dX9_walkBy_26 (by decide) rfl ?_
  refine ww_sub C (lv' := [(0, .ref (a0 0)), (1, .int x1), (2, .int x2_7), (3, .ref q9), (4, .int 1)]) [3, 4, 2, 1, 0] rfl ?_
  exact w_X9_walkBy_28 C FU _ _ _ _ _ _ (of_decide_eq_true g_3) hf

theorem yk_X9_walkBy : yX9_walkBy.cls = RX9 ∧ yX9_walkBy.cls ≠ "java/lang/invoke/MethodHandle" ∧ yX9_walkBy.cls ≠ "java/lang/invoke/VarHandle" ∧ (parseMethodDescriptor yX9_walkBy.desc).map (fun d => d.parameters.length) = some 1 := by decide +kernel
abbrev rmX9_copy : Room := { frames := 2, cells := 64, slots := 600, locals := 40 }
set_option maxRecDepth 20000 in
theorem in_X9_copy_X9 : ∀ w ∈ u_ws RX9 TX9 8, w ∈ wsX9_copy := by decide +kernel
set_option maxHeartbeats 4000000 in
set_option maxRecDepth 100000 in
theorem w_X9_copy_110 {E : Ex} {K : Kx} (C : Cx E K cX9_copy 3 (some (.object "GuardWalksLaw$Own")) RX9 wsX9_copy rmX9_copy) {a0 : Nat → Nat} {q1 : Nat} {a2 : Nat → Nat} {q3 : Nat} {a4 : Nat → Nat} {q5 : Nat} {a6 : Nat → Nat} {q7 : Nat} {v0 : OwnV} {v1 : Nat} {v2 : RowsT} {v3 : Nat} {v4 : RowsT} {v5 : Nat} {v6 : RowsT} {v7 : Nat → Int32}  {r : (OwnV × Nat × RowsT × Nat × RowsT × Nat × (Nat → Int32))} : ∀ (n : Nat) (d0 : Nat → Nat) (d1 : Nat) (d2 : Nat → Nat) (d3 : Nat) (d4 : Nat) (d5 : Nat → Nat) (d6 : Nat) (x2 : Int32) (w0 : OwnV) (w1 : Nat) (w2 : RowsT) (w3 : Nat → Int32) (w4 : Nat) (w5 : RowsT) (w6 : Nat) (c : Nat) (s : Nat), c ≤ 64 ∧ s ≤ 600 → Own_copy_110 v0 v1 v2 v3 v4 v5 v6 v7 n x2 w0 w1 w2 w3 w4 w5 w6 c s = some r → WW E K c s (QQ E K (fun rv g => ∃ (y0 : Nat → Nat) (y1 : Nat) (y2 : Nat → Nat) (y3 : Nat) (y4 : Nat → Nat) (y5 : Nat) (y6 : Nat), rv = some (.ref (y0 0)) ∧ g = [wOwn E a0 (rf4 q1 q3 q5 q7) v0, wRO E q1 20 a2 v1, wRR E a2 v2, wRO E q3 12 a4 v3, wRR E a4 v4, wRO E q5 4 a6 v5, wRR E a6 v6, wArr E q7 4 v7, wOwn E y0 (rf4 y1 y3 y5 y6) r.1, wRO E y1 20 y2 r.2.1, wRR E y2 r.2.2.1, wRO E y3 12 y4 r.2.2.2.1, wRR E y4 r.2.2.2.2.1, wRO E y5 4 a6 r.2.2.2.2.2.1, wArr E y6 4 r.2.2.2.2.2.2]) 64 600) 110 [(0, .ref (a0 0)), (1, .ref (d0 0)), (2, .int x2)] [] [wOwn E a0 (rf4 q1 q3 q5 q7) v0, wRO E q1 20 a2 v1, wRR E a2 v2, wRO E q3 12 a4 v3, wRR E a4 v4, wRO E q5 4 a6 v5, wRR E a6 v6, wArr E q7 4 v7, wOwn E d0 (rf4 d1 d4 d6 d3) w0, wRO E d1 20 d2 w1, wRR E d2 w2, wArr E d3 4 w3, wRO E d4 12 d5 w4, wRR E d5 w5, wRO E d6 4 a6 w6] := by
  intro n
  induction n with
  | zero =>
    intro d0 d1 d2 d3 d4 d5 d6 x2 w0 w1 w2 w3 w4 w5 w6 c s hcs hf
    simp [Own_copy_110] at hf
  | succ n ih =>
    intro d0 d1 d2 d3 d4 d5 d6 x2 w0 w1 w2 w3 w4 w5 w6 c s hcs hf
    rw [Own_copy_110] at hf
    refine ww_iload_n C dX9_copy_110 rfl 2 rfl ?_
    refine ww_aload_n C dX9_copy_111 rfl 0 rfl ?_
    refine ww_get C clOK9 in_X9_copy_X9 (w := wOwn E a0 (rf4 q1 q3 q5 q7) v0) (fs := fsOwn a0 (rf4 q1 q3 q5 q7) v0) (v := .int (Own_guards v0)) 0 0 2 rfl q_Own (by decide) (by decide +kernel) g_Own_guards dX9_copy_112 ?_
    refine ww_icmp_ge (tgt := 136) C dX9_copy_115 (by decide) (fun c_15 => ?_) (fun c_15 => ?_)
    · replace hf := ifT c_15 hf
      refine ww_aload_n C dX9_copy_136 rfl 1 rfl ?_
      refine ww_aload_n C dX9_copy_137 rfl 0 rfl ?_
      refine ww_get C clOK9 in_X9_copy_X9 (w := wOwn E a0 (rf4 q1 q3 q5 q7) v0) (fs := fsOwn a0 (rf4 q1 q3 q5 q7) v0) (v := .ref q7) 0 0 7 rfl q_Own (by decide) (by decide +kernel) g_Own_phase dX9_copy_138 ?_
      obtain ⟨g_16, hf⟩ := gdE hf
      refine ww_clone C (f := v7) (n := 4) (w := wArr E q7 4 v7) 7 0 rfl q_Arr (by decide +kernel) (by decide +kernel) (by decide +kernel) (by decide +kernel) (by decide +kernel) (by decide) (Nat.le_of_ble_eq_true rfl) (of_decide_eq_true g_16) dX9_copy_141 (fun q141 => ?_)
      refine ww_eq (gs' := [wOwn E a0 (rf4 q1 q3 q5 q7) v0, wRO E q1 20 a2 v1, wRR E a2 v2, wRO E q3 12 a4 v3, wRR E a4 v4, wRO E q5 4 a6 v5, wRR E a6 v6, wArr E q7 4 v7, wOwn E d0 (rf4 d1 d4 d6 d3) w0, wRO E d1 20 d2 w1, wRR E d2 w2, wArr E d3 4 w3, wRO E d4 12 d5 w4, wRR E d5 w5, wRO E d6 4 a6 w6, wArr E q141 4 (v7)]) rfl ?_
      refine ww_castI C (w := wArr E q141 4 (v7)) 15 0 rfl q_Arr (by decide +kernel) dX9_copy_144 ?_
      refine ww_put C clOK9 in_X9_copy_X9 (w := wOwn E d0 (rf4 d1 d4 d6 d3) w0) (fs := fsOwn d0 (rf4 d1 d4 d6 d3) w0) (w' := wOwn E d0 (rf4 d1 d4 d6 q141) w0) (gs' := [wOwn E a0 (rf4 q1 q3 q5 q7) v0, wRO E q1 20 a2 v1, wRR E a2 v2, wRO E q3 12 a4 v3, wRR E a4 v4, wRO E q5 4 a6 v5, wRR E a6 v6, wArr E q7 4 v7, wOwn E d0 (rf4 d1 d4 d6 q141) w0, wRO E d1 20 d2 w1, wRR E d2 w2, wArr E d3 4 w3, wRO E d4 12 d5 w4, wRR E d5 w5, wRO E d6 4 a6 w6, wArr E q141 4 (v7)]) 8 0 7 rfl q_Own (by decide) (by decide +kernel) rfl rfl rfl rfl l_Own pr_Own_phase rfl dX9_copy_147 ?_
      refine ww_aload_n C dX9_copy_150 rfl 1 rfl ?_
      obtain rfl := Option.some.inj hf
      refine ww_drop (gs' := [wOwn E a0 (rf4 q1 q3 q5 q7) v0, wRO E q1 20 a2 v1, wRR E a2 v2, wRO E q3 12 a4 v3, wRR E a4 v4, wRO E q5 4 a6 v5, wRR E a6 v6, wArr E q7 4 v7, wOwn E d0 (rf4 d1 d4 d6 q141) w0, wRO E d1 20 d2 w1, wRR E d2 w2, wRO E d4 12 d5 w4, wRR E d5 w5, wRO E d6 4 a6 w6, wArr E q141 4 (v7)]) [0, 1, 2, 3, 4, 5, 6, 7, 8, 9, 10, 12, 13, 14, 15] [11] 16 rfl (by decide) rfl ?_
      refine ww_widen (k := 64) (n := 600) (of_decide_eq_true g_16).1 (of_decide_eq_true g_16).2 ?_
      exact ww_aret C (Or.inl ⟨_, rfl⟩) ⟨_, _, _, _, _, _, _, rfl, rfl⟩ dX9_copy_151
    · replace hf := ifF c_15 hf
      refine ww_aload_n C dX9_copy_118 rfl 1 rfl ?_
      refine ww_get C clOK9 in_X9_copy_X9 (w := wOwn E d0 (rf4 d1 d4 d6 d3) w0) (fs := fsOwn d0 (rf4 d1 d4 d6 d3) w0) (v := .ref d6) 8 0 6 rfl q_Own (by decide) (by decide +kernel) g_Own_walk dX9_copy_119 ?_
      refine ww_iload_n C dX9_copy_122 rfl 2 rfl ?_
      refine ww_aload_n C dX9_copy_123 rfl 0 rfl ?_
      refine ww_get C clOK9 in_X9_copy_X9 (w := wOwn E a0 (rf4 q1 q3 q5 q7) v0) (fs := fsOwn a0 (rf4 q1 q3 q5 q7) v0) (v := .ref q5) 0 0 6 rfl q_Own (by decide) (by decide +kernel) g_Own_walk dX9_copy_124 ?_
      refine ww_iload_n C dX9_copy_127 rfl 2 rfl ?_
      obtain ⟨g_17, hf⟩ := gdE hf
      obtain ⟨g_18, hf⟩ := gdE hf
      refine ww_aldR C (f := roF a6 v5) (w := wRO E q5 4 a6 v5) 5 0 rfl q_RO (inB_vp g_17) (roF_at (of_decide_eq_true g_18)) dX9_copy_128 ?_
      obtain ⟨g_19, hf⟩ := gdE hf
      obtain ⟨g_20, hf⟩ := gdE hf
      obtain ⟨v14_129, e_v14_129⟩ : ∃ y : Nat, y = w6 + 1 := ⟨_, rfl⟩
      replace hf := ltE e_v14_129 hf
      refine ww_astR C (b := a6 (Int32.toNatClampNeg x2)) (f := roF a6 w6) (w := wRO E d6 4 a6 w6) (w' := wRO E d6 4 a6 v14_129) (wv := wRR E a6 v6) (gs' := [wOwn E a0 (rf4 q1 q3 q5 q7) v0, wRO E q1 20 a2 v1, wRR E a2 v2, wRO E q3 12 a4 v3, wRR E a4 v4, wRO E q5 4 a6 v5, wRR E a6 v6, wArr E q7 4 v7, wOwn E d0 (rf4 d1 d4 d6 d3) w0, wRO E d1 20 d2 w1, wRR E d2 w2, wArr E d3 4 w3, wRO E d4 12 d5 w4, wRR E d5 w5, wRO E d6 4 a6 v14_129]) 14 0 6 (Int32.toNatClampNeg x2) rfl q_RO rfl (q_RR (of_decide_eq_true g_20)) (inB_vp g_17) (by rw [e_v14_129]; exact ro_share (of_decide_eq_true g_19)) rfl dX9_copy_129 ?_
      obtain ⟨x2_130, e_x2_130⟩ : ∃ y : Int32, y = x2 + 1 := ⟨_, rfl⟩
      replace hf := ltE e_x2_130 hf
      refine ww_iinc (v := x2_130) (lv' := [(2, .int x2_130), (0, .ref (a0 0)), (1, .ref (d0 0))]) C dX9_copy_130 2 rfl (by rw [e_x2_130]; rfl) (by decide) rfl ?_
      refine ww_goto (tgt := 110) C dX9_copy_133 (by decide) ?_
      refine ww_sub C (lv' := [(0, .ref (a0 0)), (1, .ref (d0 0)), (2, .int x2_130)]) [1, 2, 0] rfl ?_
      exact ih _ _ _ _ _ _ _ _ _ _ _ _ _ _ _ _ _ hcs hf

set_option maxHeartbeats 4000000 in
set_option maxRecDepth 100000 in
theorem w_X9_copy_76 {E : Ex} {K : Kx} (C : Cx E K cX9_copy 3 (some (.object "GuardWalksLaw$Own")) RX9 wsX9_copy rmX9_copy) {a0 : Nat → Nat} {q1 : Nat} {a2 : Nat → Nat} {q3 : Nat} {a4 : Nat → Nat} {q5 : Nat} {a6 : Nat → Nat} {q7 : Nat} {v0 : OwnV} {v1 : Nat} {v2 : RowsT} {v3 : Nat} {v4 : RowsT} {v5 : Nat} {v6 : RowsT} {v7 : Nat → Int32}  {r : (OwnV × Nat × RowsT × Nat × RowsT × Nat × (Nat → Int32))} : ∀ (n : Nat) (d0 : Nat → Nat) (d1 : Nat) (d2 : Nat → Nat) (d3 : Nat) (d4 : Nat) (d5 : Nat → Nat) (d6 : Nat) (x2 : Int32) (w0 : OwnV) (w1 : Nat) (w2 : RowsT) (w3 : Nat → Int32) (w4 : Nat) (w5 : RowsT) (w6 : Nat) (c : Nat) (s : Nat), c ≤ 64 ∧ s ≤ 600 → Own_copy_76 v0 v1 v2 v3 v4 v5 v6 v7 n x2 w0 w1 w2 w3 w4 w5 w6 c s = some r → WW E K c s (QQ E K (fun rv g => ∃ (y0 : Nat → Nat) (y1 : Nat) (y2 : Nat → Nat) (y3 : Nat) (y4 : Nat → Nat) (y5 : Nat) (y6 : Nat), rv = some (.ref (y0 0)) ∧ g = [wOwn E a0 (rf4 q1 q3 q5 q7) v0, wRO E q1 20 a2 v1, wRR E a2 v2, wRO E q3 12 a4 v3, wRR E a4 v4, wRO E q5 4 a6 v5, wRR E a6 v6, wArr E q7 4 v7, wOwn E y0 (rf4 y1 y3 y5 y6) r.1, wRO E y1 20 y2 r.2.1, wRR E y2 r.2.2.1, wRO E y3 12 y4 r.2.2.2.1, wRR E y4 r.2.2.2.2.1, wRO E y5 4 a6 r.2.2.2.2.2.1, wArr E y6 4 r.2.2.2.2.2.2]) 64 600) 76 [(0, .ref (a0 0)), (1, .ref (d0 0)), (2, .int x2)] [] [wOwn E a0 (rf4 q1 q3 q5 q7) v0, wRO E q1 20 a2 v1, wRR E a2 v2, wRO E q3 12 a4 v3, wRR E a4 v4, wRO E q5 4 a6 v5, wRR E a6 v6, wArr E q7 4 v7, wOwn E d0 (rf4 d1 d4 d6 d3) w0, wRO E d1 20 d2 w1, wRR E d2 w2, wArr E d3 4 w3, wRO E d4 12 d5 w4, wRR E d5 w5, wRO E d6 4 a6 w6] := by
  intro n
  induction n with
  | zero =>
    intro d0 d1 d2 d3 d4 d5 d6 x2 w0 w1 w2 w3 w4 w5 w6 c s hcs hf
    simp [Own_copy_76] at hf
  | succ n ih =>
    intro d0 d1 d2 d3 d4 d5 d6 x2 w0 w1 w2 w3 w4 w5 w6 c s hcs hf
    rw [Own_copy_76] at hf
    refine ww_iload_n C dX9_copy_76 rfl 2 rfl ?_
    refine ww_aload_n C dX9_copy_77 rfl 0 rfl ?_
    refine ww_get C clOK9 in_X9_copy_X9 (w := wOwn E a0 (rf4 q1 q3 q5 q7) v0) (fs := fsOwn a0 (rf4 q1 q3 q5 q7) v0) (v := .int (Own_rooms v0)) 0 0 0 rfl q_Own (by decide) (by decide +kernel) g_Own_rooms dX9_copy_78 ?_
    refine ww_icmp_ge (tgt := 108) C dX9_copy_81 (by decide) (fun c_9 => ?_) (fun c_9 => ?_)
    · replace hf := ifT c_9 hf
      refine ww_iconst (v := 0) C dX9_copy_108 (by decide) ?_
      refine ww_istore_n (lv' := [(2, .int 0), (0, .ref (a0 0)), (1, .ref (d0 0))]) C dX9_copy_109 rfl (by decide) rfl ?_
      refine ww_sub C (lv' := [(0, .ref (a0 0)), (1, .ref (d0 0)), (2, .int 0)]) [1, 2, 0] rfl ?_
      exact w_X9_copy_110 C FU _ _ _ _ _ _ _ _ _ _ _ _ _ _ _ _ _ hcs hf
    · replace hf := ifF c_9 hf
      refine ww_aload_n C dX9_copy_84 rfl 1 rfl ?_
      refine ww_get C clOK9 in_X9_copy_X9 (w := wOwn E d0 (rf4 d1 d4 d6 d3) w0) (fs := fsOwn d0 (rf4 d1 d4 d6 d3) w0) (v := .ref d4) 8 0 5 rfl q_Own (by decide) (by decide +kernel) g_Own_room dX9_copy_85 ?_
      refine ww_iload_n C dX9_copy_88 rfl 2 rfl ?_
      refine ww_aload_n C dX9_copy_89 rfl 0 rfl ?_
      refine ww_get C clOK9 in_X9_copy_X9 (w := wOwn E a0 (rf4 q1 q3 q5 q7) v0) (fs := fsOwn a0 (rf4 q1 q3 q5 q7) v0) (v := .ref q3) 0 0 5 rfl q_Own (by decide) (by decide +kernel) g_Own_room dX9_copy_90 ?_
      refine ww_iload_n C dX9_copy_93 rfl 2 rfl ?_
      obtain ⟨g_10, hf⟩ := gdE hf
      obtain ⟨g_11, hf⟩ := gdE hf
      refine ww_aldR C (f := roF a4 v3) (w := wRO E q3 12 a4 v3) 3 0 rfl q_RO (inB_vp g_10) (roF_at (of_decide_eq_true g_11)) dX9_copy_94 ?_
      obtain ⟨g_12, hf⟩ := gdE hf
      obtain ⟨g_13, hf⟩ := gdE hf
      refine ww_clone C (f := v4.2.2 (Int32.toNatClampNeg x2)) (n := (v4.2.1 (Int32.toNatClampNeg x2))) (w := wRR E a4 v4) 4 (Int32.toNatClampNeg x2) rfl (q_RR (of_decide_eq_true g_12)) (by decide +kernel) (by decide +kernel) (by decide +kernel) (by decide +kernel) (by decide +kernel) (by decide) (Nat.le_of_ble_eq_true rfl) (of_decide_eq_true g_13) dX9_copy_95 (fun q95 => ?_)
      refine ww_eq (gs' := [wOwn E a0 (rf4 q1 q3 q5 q7) v0, wRO E q1 20 a2 v1, wRR E a2 v2, wRO E q3 12 a4 v3, wRR E a4 v4, wRO E q5 4 a6 v5, wRR E a6 v6, wArr E q7 4 v7, wOwn E d0 (rf4 d1 d4 d6 d3) w0, wRO E d1 20 d2 w1, wRR E d2 w2, wArr E d3 4 w3, wRO E d4 12 d5 w4, wRR E d5 w5, wRO E d6 4 a6 w6, wArr E q95 (v4.2.1 (Int32.toNatClampNeg x2)) (v4.2.2 (Int32.toNatClampNeg x2))]) rfl ?_
      refine ww_castI C (w := wArr E q95 (v4.2.1 (Int32.toNatClampNeg x2)) (v4.2.2 (Int32.toNatClampNeg x2))) 15 0 rfl q_Arr (by decide +kernel) dX9_copy_98 ?_
      obtain ⟨g_14, hf⟩ := gdE hf
      obtain ⟨v12_101, e_v12_101⟩ : ∃ y : Nat, y = w4 + 1 := ⟨_, rfl⟩
      replace hf := ltE e_v12_101 hf
      refine ww_astR C (b := q95) (f := roF d5 w4) (w := wRO E d4 12 d5 w4) (w' := wRO E d4 12 (upA d5 w4 q95) v12_101) (wv := wArr E q95 (v4.2.1 (Int32.toNatClampNeg x2)) (v4.2.2 (Int32.toNatClampNeg x2))) (gs' := [wOwn E a0 (rf4 q1 q3 q5 q7) v0, wRO E q1 20 a2 v1, wRR E a2 v2, wRO E q3 12 a4 v3, wRR E a4 v4, wRO E q5 4 a6 v5, wRR E a6 v6, wArr E q7 4 v7, wOwn E d0 (rf4 d1 d4 d6 d3) w0, wRO E d1 20 d2 w1, wRR E d2 w2, wArr E d3 4 w3, wRO E d4 12 (upA d5 w4 q95) v12_101, wRR E d5 w5, wRO E d6 4 a6 w6, wArr E q95 (v4.2.1 (Int32.toNatClampNeg x2)) (v4.2.2 (Int32.toNatClampNeg x2))]) 12 0 15 0 rfl q_RO rfl q_Arr (inB_vp g_10) (by rw [e_v12_101]; exact ro_app (of_decide_eq_true g_14).1) rfl dX9_copy_101 ?_
      obtain ⟨v13_101, e_v13_101⟩ : ∃ y : RowsT, y = rrApp w5 (v4.2.1 (Int32.toNatClampNeg x2)) (v4.2.2 (Int32.toNatClampNeg x2)) := ⟨_, rfl⟩
      replace hf := ltE e_v13_101 hf
      refine ww_perm (gs' := [wOwn E a0 (rf4 q1 q3 q5 q7) v0, wRO E q1 20 a2 v1, wRR E a2 v2, wRO E q3 12 a4 v3, wRR E a4 v4, wRO E q5 4 a6 v5, wRR E a6 v6, wArr E q7 4 v7, wOwn E d0 (rf4 d1 d4 d6 d3) w0, wRO E d1 20 d2 w1, wRR E d2 w2, wArr E d3 4 w3, wRO E d4 12 (upA d5 w4 q95) v12_101, wRR E d5 w5, wArr E q95 (v4.2.1 (Int32.toNatClampNeg x2)) (v4.2.2 (Int32.toNatClampNeg x2)), wRO E d6 4 a6 w6]) [0, 1, 2, 3, 4, 5, 6, 7, 8, 9, 10, 11, 12, 13, 15, 14] 16 rfl (by decide) rfl ?_
      refine ww_regr (gs' := [wOwn E a0 (rf4 q1 q3 q5 q7) v0, wRO E q1 20 a2 v1, wRR E a2 v2, wRO E q3 12 a4 v3, wRR E a4 v4, wRO E q5 4 a6 v5, wRR E a6 v6, wArr E q7 4 v7, wOwn E d0 (rf4 d1 d4 d6 d3) w0, wRO E d1 20 d2 w1, wRR E d2 w2, wArr E d3 4 w3, wRO E d4 12 (upA d5 w4 q95) v12_101, wRR E (upA d5 w4 q95) v13_101, wRO E d6 4 a6 w6]) (by rw [e_v13_101, rr_app (of_decide_eq_true g_14).2]; simp only [List.flatten_cons, List.flatten_nil, List.append_assoc]) ?_
      obtain ⟨x2_102, e_x2_102⟩ : ∃ y : Int32, y = x2 + 1 := ⟨_, rfl⟩
      replace hf := ltE e_x2_102 hf
      refine ww_iinc (v := x2_102) (lv' := [(2, .int x2_102), (0, .ref (a0 0)), (1, .ref (d0 0))]) C dX9_copy_102 2 rfl (by rw [e_x2_102]; rfl) (by decide) rfl ?_
      refine ww_goto (tgt := 76) C dX9_copy_105 (by decide) ?_
      refine ww_sub C (lv' := [(0, .ref (a0 0)), (1, .ref (d0 0)), (2, .int x2_102)]) [1, 2, 0] rfl ?_
      exact ih _ _ _ _ _ _ _ _ _ _ _ _ _ _ _ _ _ (of_decide_eq_true g_13) hf

set_option maxHeartbeats 4000000 in
set_option maxRecDepth 100000 in
theorem w_X9_copy_42 {E : Ex} {K : Kx} (C : Cx E K cX9_copy 3 (some (.object "GuardWalksLaw$Own")) RX9 wsX9_copy rmX9_copy) {a0 : Nat → Nat} {q1 : Nat} {a2 : Nat → Nat} {q3 : Nat} {a4 : Nat → Nat} {q5 : Nat} {a6 : Nat → Nat} {q7 : Nat} {v0 : OwnV} {v1 : Nat} {v2 : RowsT} {v3 : Nat} {v4 : RowsT} {v5 : Nat} {v6 : RowsT} {v7 : Nat → Int32}  {r : (OwnV × Nat × RowsT × Nat × RowsT × Nat × (Nat → Int32))} : ∀ (n : Nat) (d0 : Nat → Nat) (d1 : Nat) (d2 : Nat → Nat) (d3 : Nat) (d4 : Nat) (d5 : Nat → Nat) (d6 : Nat) (x2 : Int32) (w0 : OwnV) (w1 : Nat) (w2 : RowsT) (w3 : Nat → Int32) (w4 : Nat) (w5 : RowsT) (w6 : Nat) (c : Nat) (s : Nat), c ≤ 64 ∧ s ≤ 600 → Own_copy_42 v0 v1 v2 v3 v4 v5 v6 v7 n x2 w0 w1 w2 w3 w4 w5 w6 c s = some r → WW E K c s (QQ E K (fun rv g => ∃ (y0 : Nat → Nat) (y1 : Nat) (y2 : Nat → Nat) (y3 : Nat) (y4 : Nat → Nat) (y5 : Nat) (y6 : Nat), rv = some (.ref (y0 0)) ∧ g = [wOwn E a0 (rf4 q1 q3 q5 q7) v0, wRO E q1 20 a2 v1, wRR E a2 v2, wRO E q3 12 a4 v3, wRR E a4 v4, wRO E q5 4 a6 v5, wRR E a6 v6, wArr E q7 4 v7, wOwn E y0 (rf4 y1 y3 y5 y6) r.1, wRO E y1 20 y2 r.2.1, wRR E y2 r.2.2.1, wRO E y3 12 y4 r.2.2.2.1, wRR E y4 r.2.2.2.2.1, wRO E y5 4 a6 r.2.2.2.2.2.1, wArr E y6 4 r.2.2.2.2.2.2]) 64 600) 42 [(0, .ref (a0 0)), (1, .ref (d0 0)), (2, .int x2)] [] [wOwn E a0 (rf4 q1 q3 q5 q7) v0, wRO E q1 20 a2 v1, wRR E a2 v2, wRO E q3 12 a4 v3, wRR E a4 v4, wRO E q5 4 a6 v5, wRR E a6 v6, wArr E q7 4 v7, wOwn E d0 (rf4 d1 d4 d6 d3) w0, wRO E d1 20 d2 w1, wRR E d2 w2, wArr E d3 4 w3, wRO E d4 12 d5 w4, wRR E d5 w5, wRO E d6 4 a6 w6] := by
  intro n
  induction n with
  | zero =>
    intro d0 d1 d2 d3 d4 d5 d6 x2 w0 w1 w2 w3 w4 w5 w6 c s hcs hf
    simp [Own_copy_42] at hf
  | succ n ih =>
    intro d0 d1 d2 d3 d4 d5 d6 x2 w0 w1 w2 w3 w4 w5 w6 c s hcs hf
    rw [Own_copy_42] at hf
    refine ww_iload_n C dX9_copy_42 rfl 2 rfl ?_
    refine ww_aload_n C dX9_copy_43 rfl 0 rfl ?_
    refine ww_get C clOK9 in_X9_copy_X9 (w := wOwn E a0 (rf4 q1 q3 q5 q7) v0) (fs := fsOwn a0 (rf4 q1 q3 q5 q7) v0) (v := .int (Own_doors v0)) 0 0 1 rfl q_Own (by decide) (by decide +kernel) g_Own_doors dX9_copy_44 ?_
    refine ww_icmp_ge (tgt := 74) C dX9_copy_47 (by decide) (fun c_3 => ?_) (fun c_3 => ?_)
    · replace hf := ifT c_3 hf
      refine ww_iconst (v := 0) C dX9_copy_74 (by decide) ?_
      refine ww_istore_n (lv' := [(2, .int 0), (0, .ref (a0 0)), (1, .ref (d0 0))]) C dX9_copy_75 rfl (by decide) rfl ?_
      refine ww_sub C (lv' := [(0, .ref (a0 0)), (1, .ref (d0 0)), (2, .int 0)]) [1, 2, 0] rfl ?_
      exact w_X9_copy_76 C FU _ _ _ _ _ _ _ _ _ _ _ _ _ _ _ _ _ hcs hf
    · replace hf := ifF c_3 hf
      refine ww_aload_n C dX9_copy_50 rfl 1 rfl ?_
      refine ww_get C clOK9 in_X9_copy_X9 (w := wOwn E d0 (rf4 d1 d4 d6 d3) w0) (fs := fsOwn d0 (rf4 d1 d4 d6 d3) w0) (v := .ref d1) 8 0 4 rfl q_Own (by decide) (by decide +kernel) g_Own_door dX9_copy_51 ?_
      refine ww_iload_n C dX9_copy_54 rfl 2 rfl ?_
      refine ww_aload_n C dX9_copy_55 rfl 0 rfl ?_
      refine ww_get C clOK9 in_X9_copy_X9 (w := wOwn E a0 (rf4 q1 q3 q5 q7) v0) (fs := fsOwn a0 (rf4 q1 q3 q5 q7) v0) (v := .ref q1) 0 0 4 rfl q_Own (by decide) (by decide +kernel) g_Own_door dX9_copy_56 ?_
      refine ww_iload_n C dX9_copy_59 rfl 2 rfl ?_
      obtain ⟨g_4, hf⟩ := gdE hf
      obtain ⟨g_5, hf⟩ := gdE hf
      refine ww_aldR C (f := roF a2 v1) (w := wRO E q1 20 a2 v1) 1 0 rfl q_RO (inB_vp g_4) (roF_at (of_decide_eq_true g_5)) dX9_copy_60 ?_
      obtain ⟨g_6, hf⟩ := gdE hf
      obtain ⟨g_7, hf⟩ := gdE hf
      refine ww_clone C (f := v2.2.2 (Int32.toNatClampNeg x2)) (n := (v2.2.1 (Int32.toNatClampNeg x2))) (w := wRR E a2 v2) 2 (Int32.toNatClampNeg x2) rfl (q_RR (of_decide_eq_true g_6)) (by decide +kernel) (by decide +kernel) (by decide +kernel) (by decide +kernel) (by decide +kernel) (by decide) (Nat.le_of_ble_eq_true rfl) (of_decide_eq_true g_7) dX9_copy_61 (fun q61 => ?_)
      refine ww_eq (gs' := [wOwn E a0 (rf4 q1 q3 q5 q7) v0, wRO E q1 20 a2 v1, wRR E a2 v2, wRO E q3 12 a4 v3, wRR E a4 v4, wRO E q5 4 a6 v5, wRR E a6 v6, wArr E q7 4 v7, wOwn E d0 (rf4 d1 d4 d6 d3) w0, wRO E d1 20 d2 w1, wRR E d2 w2, wArr E d3 4 w3, wRO E d4 12 d5 w4, wRR E d5 w5, wRO E d6 4 a6 w6, wArr E q61 (v2.2.1 (Int32.toNatClampNeg x2)) (v2.2.2 (Int32.toNatClampNeg x2))]) rfl ?_
      refine ww_castI C (w := wArr E q61 (v2.2.1 (Int32.toNatClampNeg x2)) (v2.2.2 (Int32.toNatClampNeg x2))) 15 0 rfl q_Arr (by decide +kernel) dX9_copy_64 ?_
      obtain ⟨g_8, hf⟩ := gdE hf
      obtain ⟨v9_67, e_v9_67⟩ : ∃ y : Nat, y = w1 + 1 := ⟨_, rfl⟩
      replace hf := ltE e_v9_67 hf
      refine ww_astR C (b := q61) (f := roF d2 w1) (w := wRO E d1 20 d2 w1) (w' := wRO E d1 20 (upA d2 w1 q61) v9_67) (wv := wArr E q61 (v2.2.1 (Int32.toNatClampNeg x2)) (v2.2.2 (Int32.toNatClampNeg x2))) (gs' := [wOwn E a0 (rf4 q1 q3 q5 q7) v0, wRO E q1 20 a2 v1, wRR E a2 v2, wRO E q3 12 a4 v3, wRR E a4 v4, wRO E q5 4 a6 v5, wRR E a6 v6, wArr E q7 4 v7, wOwn E d0 (rf4 d1 d4 d6 d3) w0, wRO E d1 20 (upA d2 w1 q61) v9_67, wRR E d2 w2, wArr E d3 4 w3, wRO E d4 12 d5 w4, wRR E d5 w5, wRO E d6 4 a6 w6, wArr E q61 (v2.2.1 (Int32.toNatClampNeg x2)) (v2.2.2 (Int32.toNatClampNeg x2))]) 9 0 15 0 rfl q_RO rfl q_Arr (inB_vp g_4) (by rw [e_v9_67]; exact ro_app (of_decide_eq_true g_8).1) rfl dX9_copy_67 ?_
      obtain ⟨v10_67, e_v10_67⟩ : ∃ y : RowsT, y = rrApp w2 (v2.2.1 (Int32.toNatClampNeg x2)) (v2.2.2 (Int32.toNatClampNeg x2)) := ⟨_, rfl⟩
      replace hf := ltE e_v10_67 hf
      refine ww_perm (gs' := [wOwn E a0 (rf4 q1 q3 q5 q7) v0, wRO E q1 20 a2 v1, wRR E a2 v2, wRO E q3 12 a4 v3, wRR E a4 v4, wRO E q5 4 a6 v5, wRR E a6 v6, wArr E q7 4 v7, wOwn E d0 (rf4 d1 d4 d6 d3) w0, wRO E d1 20 (upA d2 w1 q61) v9_67, wRR E d2 w2, wArr E q61 (v2.2.1 (Int32.toNatClampNeg x2)) (v2.2.2 (Int32.toNatClampNeg x2)), wArr E d3 4 w3, wRO E d4 12 d5 w4, wRR E d5 w5, wRO E d6 4 a6 w6]) [0, 1, 2, 3, 4, 5, 6, 7, 8, 9, 10, 15, 11, 12, 13, 14] 16 rfl (by decide) rfl ?_
      refine ww_regr (gs' := [wOwn E a0 (rf4 q1 q3 q5 q7) v0, wRO E q1 20 a2 v1, wRR E a2 v2, wRO E q3 12 a4 v3, wRR E a4 v4, wRO E q5 4 a6 v5, wRR E a6 v6, wArr E q7 4 v7, wOwn E d0 (rf4 d1 d4 d6 d3) w0, wRO E d1 20 (upA d2 w1 q61) v9_67, wRR E (upA d2 w1 q61) v10_67, wArr E d3 4 w3, wRO E d4 12 d5 w4, wRR E d5 w5, wRO E d6 4 a6 w6]) (by rw [e_v10_67, rr_app (of_decide_eq_true g_8).2]; simp only [List.flatten_cons, List.flatten_nil, List.append_assoc]) ?_
      obtain ⟨x2_68, e_x2_68⟩ : ∃ y : Int32, y = x2 + 1 := ⟨_, rfl⟩
      replace hf := ltE e_x2_68 hf
      refine ww_iinc (v := x2_68) (lv' := [(2, .int x2_68), (0, .ref (a0 0)), (1, .ref (d0 0))]) C dX9_copy_68 2 rfl (by rw [e_x2_68]; rfl) (by decide) rfl ?_
      refine ww_goto (tgt := 42) C dX9_copy_71 (by decide) ?_
      refine ww_sub C (lv' := [(0, .ref (a0 0)), (1, .ref (d0 0)), (2, .int x2_68)]) [1, 2, 0] rfl ?_
      exact ih _ _ _ _ _ _ _ _ _ _ _ _ _ _ _ _ _ (of_decide_eq_true g_7) hf

set_option maxHeartbeats 4000000 in
set_option maxRecDepth 100000 in
theorem c_X9_copy {E : Ex} {a0 : Nat → Nat} {q1 : Nat} {a2 : Nat → Nat} {q3 : Nat} {a4 : Nat → Nat} {q5 : Nat} {a6 : Nat → Nat} {q7 : Nat} {v0 : OwnV} {v1 : Nat} {v2 : RowsT} {v3 : Nat} {v4 : RowsT} {v5 : Nat} {v6 : RowsT} {v7 : Nat → Int32} {r : (OwnV × Nat × RowsT × Nat × RowsT × Nat × (Nat → Int32))} (hf : Own_copy v0 v1 v2 v3 v4 v5 v6 v7 = some r) : Ct E yX9_copy wsX9_copy rmX9_copy [.ref (a0 0)] [wOwn E a0 (rf4 q1 q3 q5 q7) v0, wRO E q1 20 a2 v1, wRR E a2 v2, wRO E q3 12 a4 v3, wRR E a4 v4, wRO E q5 4 a6 v5, wRR E a6 v6, wArr E q7 4 v7] (fun rv g => ∃ (y0 : Nat → Nat) (y1 : Nat) (y2 : Nat → Nat) (y3 : Nat) (y4 : Nat → Nat) (y5 : Nat) (y6 : Nat), rv = some (.ref (y0 0)) ∧ g = [wOwn E a0 (rf4 q1 q3 q5 q7) v0, wRO E q1 20 a2 v1, wRR E a2 v2, wRO E q3 12 a4 v3, wRR E a4 v4, wRO E q5 4 a6 v5, wRR E a6 v6, wArr E q7 4 v7, wOwn E y0 (rf4 y1 y3 y5 y6) r.1, wRO E y1 20 y2 r.2.1, wRR E y2 r.2.2.1, wRO E y3 12 y4 r.2.2.2.1, wRR E y4 r.2.2.2.2.1, wRO E y5 4 a6 r.2.2.2.2.2.1, wArr E y6 4 r.2.2.2.2.2.2]) := by
  refine ct_of (own := RX9) (by decide +kernel) rfl rfl (Nat.le_of_ble_eq_true rfl) (fun K C => ?_)
  refine ww_sub C (lv' := [(0, .ref (a0 0))]) [0] rfl ?_
  rw [Own_copy] at hf
  obtain ⟨g_1, hf⟩ := gdE hf
  refine ww_new C [.int 0, .int 0, .int 0, .int 0, .null, .null, .null, .null] clOK9 in_X9_copy_X9 (by decide +kernel) (by decide +kernel) (by decide +kernel) hfs_X9 (of_decide_eq_true g_1) dX9_copy_0 (fun q0 => ?_)
  refine ww_eq (gs' := [wOwn E a0 (rf4 q1 q3 q5 q7) v0, wRO E q1 20 a2 v1, wRR E a2 v2, wRO E q3 12 a4 v3, wRR E a4 v4, wRO E q5 4 a6 v5, wRR E a6 v6, wArr E q7 4 v7, [(q0, .inr (9, [.int 0, .int 0, .int 0, .int 0, .null, .null, .null, .null]))]]) rfl ?_
  refine ww_dup C dX9_copy_3 rfl ?_
  obtain ⟨g_2, hf⟩ := gdE hf
  refine ww_callI C (As := []) (st := [.ref q0]) (gr := [wOwn E a0 (rf4 q1 q3 q5 q7) v0, wRO E q1 20 a2 v1, wRR E a2 v2, wRO E q3 12 a4 v3, wRR E a4 v4, wRO E q5 4 a6 v5, wRR E a6 v6, wArr E q7 4 v7]) (c_X9_init (E := E) (b0 := q0) (da := (fun _ => 0)) (ra := (fun _ => 0)) (wa := a6)) gX9_copy_X9_init rfl (by decide +kernel) (by decide +kernel) (by decide +kernel) yi_X9_init ⟨by decide, Nat.le_of_ble_eq_true rfl⟩ (of_decide_eq_true g_2) [8] [0, 1, 2, 3, 4, 5, 6, 7] 9 rfl (by decide) rfl rfl (Nat.le_of_ble_eq_true rfl) dX9_copy_4 ?_
  rintro _ _ ⟨rfl, o4, q4_d, q4_r, q4_w, q4_f, rfl, rfl⟩
  refine ww_perm (gs' := [wOwn E a0 (rf4 q1 q3 q5 q7) v0, wRO E q1 20 a2 v1, wRR E a2 v2, wRO E q3 12 a4 v3, wRR E a4 v4, wRO E q5 4 a6 v5, wRR E a6 v6, wArr E q7 4 v7, wOwn E o4 (rf4 q4_d q4_r q4_w q4_f) Own0, wRO E q4_d 20 (fun _ => 0) 0, wRO E q4_r 12 (fun _ => 0) 0, wRO E q4_w 4 a6 0, wArr E q4_f 4 (fun _ => 0)]) [5, 6, 7, 8, 9, 10, 11, 12, 0, 1, 2, 3, 4] 13 rfl (by decide) rfl ?_
  refine ww_regr (gs' := [wOwn E a0 (rf4 q1 q3 q5 q7) v0, wRO E q1 20 a2 v1, wRR E a2 v2, wRO E q3 12 a4 v3, wRR E a4 v4, wRO E q5 4 a6 v5, wRR E a6 v6, wArr E q7 4 v7, wOwn E o4 (rf4 q4_d q4_r q4_w q4_f) Own0, wRO E q4_d 20 (fun _ => 0) 0, wRO E q4_r 12 (fun _ => 0) 0, wRO E q4_w 4 a6 0, wArr E q4_f 4 (fun _ => 0), wRR E (fun _ => 0) rr0, wRR E (fun _ => 0) rr0]) (by simp only [rr_zero, List.flatten_cons, List.flatten_nil, List.nil_append]) ?_
  refine ww_astore_n (lv' := [(1, .ref (o4 0)), (0, .ref (a0 0))]) C dX9_copy_7 rfl (by decide) rfl ?_
  refine ww_aload_n C dX9_copy_8 rfl 0 rfl ?_
  refine ww_aload_n C dX9_copy_9 rfl 1 rfl ?_
  refine ww_get C clOK9 in_X9_copy_X9 (w := wOwn E a0 (rf4 q1 q3 q5 q7) v0) (fs := fsOwn a0 (rf4 q1 q3 q5 q7) v0) (v := .int (Own_rooms v0)) 0 0 0 rfl q_Own (by decide) (by decide +kernel) g_Own_rooms dX9_copy_10 ?_
  obtain ⟨v8_13, e_v8_13⟩ : ∃ y : OwnV, y = Own_set_rooms Own0 (Own_rooms v0) := ⟨_, rfl⟩
  replace hf := ltE e_v8_13 hf
  refine ww_put C clOK9 in_X9_copy_X9 (w := wOwn E o4 (rf4 q4_d q4_r q4_w q4_f) Own0) (fs := fsOwn o4 (rf4 q4_d q4_r q4_w q4_f) Own0) (w' := wOwn E o4 (rf4 q4_d q4_r q4_w q4_f) v8_13) (gs' := [wOwn E a0 (rf4 q1 q3 q5 q7) v0, wRO E q1 20 a2 v1, wRR E a2 v2, wRO E q3 12 a4 v3, wRR E a4 v4, wRO E q5 4 a6 v5, wRR E a6 v6, wArr E q7 4 v7, wOwn E o4 (rf4 q4_d q4_r q4_w q4_f) v8_13, wRO E q4_d 20 (fun _ => 0) 0, wRO E q4_r 12 (fun _ => 0) 0, wRO E q4_w 4 a6 0, wArr E q4_f 4 (fun _ => 0), wRR E (fun _ => 0) rr0, wRR E (fun _ => 0) rr0]) 8 0 0 rfl q_Own (by decide) (by decide +kernel) rfl rfl rfl rfl l_Own (by rw [e_v8_13]; exact p_Own_rooms) rfl dX9_copy_13 ?_
  refine ww_aload_n C dX9_copy_16 rfl 0 rfl ?_
  refine ww_aload_n C dX9_copy_17 rfl 1 rfl ?_
  refine ww_get C clOK9 in_X9_copy_X9 (w := wOwn E a0 (rf4 q1 q3 q5 q7) v0) (fs := fsOwn a0 (rf4 q1 q3 q5 q7) v0) (v := .int (Own_doors v0)) 0 0 1 rfl q_Own (by decide) (by decide +kernel) g_Own_doors dX9_copy_18 ?_
  obtain ⟨v8_21, e_v8_21⟩ : ∃ y : OwnV, y = Own_set_doors v8_13 (Own_doors v0) := ⟨_, rfl⟩
  replace hf := ltE e_v8_21 hf
  refine ww_put C clOK9 in_X9_copy_X9 (w := wOwn E o4 (rf4 q4_d q4_r q4_w q4_f) v8_13) (fs := fsOwn o4 (rf4 q4_d q4_r q4_w q4_f) v8_13) (w' := wOwn E o4 (rf4 q4_d q4_r q4_w q4_f) v8_21) (gs' := [wOwn E a0 (rf4 q1 q3 q5 q7) v0, wRO E q1 20 a2 v1, wRR E a2 v2, wRO E q3 12 a4 v3, wRR E a4 v4, wRO E q5 4 a6 v5, wRR E a6 v6, wArr E q7 4 v7, wOwn E o4 (rf4 q4_d q4_r q4_w q4_f) v8_21, wRO E q4_d 20 (fun _ => 0) 0, wRO E q4_r 12 (fun _ => 0) 0, wRO E q4_w 4 a6 0, wArr E q4_f 4 (fun _ => 0), wRR E (fun _ => 0) rr0, wRR E (fun _ => 0) rr0]) 8 0 1 rfl q_Own (by decide) (by decide +kernel) rfl rfl rfl rfl l_Own (by rw [e_v8_21]; exact p_Own_doors) rfl dX9_copy_21 ?_
  refine ww_aload_n C dX9_copy_24 rfl 0 rfl ?_
  refine ww_aload_n C dX9_copy_25 rfl 1 rfl ?_
  refine ww_get C clOK9 in_X9_copy_X9 (w := wOwn E a0 (rf4 q1 q3 q5 q7) v0) (fs := fsOwn a0 (rf4 q1 q3 q5 q7) v0) (v := .int (Own_guards v0)) 0 0 2 rfl q_Own (by decide) (by decide +kernel) g_Own_guards dX9_copy_26 ?_
  obtain ⟨v8_29, e_v8_29⟩ : ∃ y : OwnV, y = Own_set_guards v8_21 (Own_guards v0) := ⟨_, rfl⟩
  replace hf := ltE e_v8_29 hf
  refine ww_put C clOK9 in_X9_copy_X9 (w := wOwn E o4 (rf4 q4_d q4_r q4_w q4_f) v8_21) (fs := fsOwn o4 (rf4 q4_d q4_r q4_w q4_f) v8_21) (w' := wOwn E o4 (rf4 q4_d q4_r q4_w q4_f) v8_29) (gs' := [wOwn E a0 (rf4 q1 q3 q5 q7) v0, wRO E q1 20 a2 v1, wRR E a2 v2, wRO E q3 12 a4 v3, wRR E a4 v4, wRO E q5 4 a6 v5, wRR E a6 v6, wArr E q7 4 v7, wOwn E o4 (rf4 q4_d q4_r q4_w q4_f) v8_29, wRO E q4_d 20 (fun _ => 0) 0, wRO E q4_r 12 (fun _ => 0) 0, wRO E q4_w 4 a6 0, wArr E q4_f 4 (fun _ => 0), wRR E (fun _ => 0) rr0, wRR E (fun _ => 0) rr0]) 8 0 2 rfl q_Own (by decide) (by decide +kernel) rfl rfl rfl rfl l_Own (by rw [e_v8_29]; exact p_Own_guards) rfl dX9_copy_29 ?_
  refine ww_aload_n C dX9_copy_32 rfl 0 rfl ?_
  refine ww_aload_n C dX9_copy_33 rfl 1 rfl ?_
  refine ww_get C clOK9 in_X9_copy_X9 (w := wOwn E a0 (rf4 q1 q3 q5 q7) v0) (fs := fsOwn a0 (rf4 q1 q3 q5 q7) v0) (v := .int (Own_minute v0)) 0 0 3 rfl q_Own (by decide) (by decide +kernel) g_Own_minute dX9_copy_34 ?_
  obtain ⟨v8_37, e_v8_37⟩ : ∃ y : OwnV, y = Own_set_minute v8_29 (Own_minute v0) := ⟨_, rfl⟩
  replace hf := ltE e_v8_37 hf
  refine ww_put C clOK9 in_X9_copy_X9 (w := wOwn E o4 (rf4 q4_d q4_r q4_w q4_f) v8_29) (fs := fsOwn o4 (rf4 q4_d q4_r q4_w q4_f) v8_29) (w' := wOwn E o4 (rf4 q4_d q4_r q4_w q4_f) v8_37) (gs' := [wOwn E a0 (rf4 q1 q3 q5 q7) v0, wRO E q1 20 a2 v1, wRR E a2 v2, wRO E q3 12 a4 v3, wRR E a4 v4, wRO E q5 4 a6 v5, wRR E a6 v6, wArr E q7 4 v7, wOwn E o4 (rf4 q4_d q4_r q4_w q4_f) v8_37, wRO E q4_d 20 (fun _ => 0) 0, wRO E q4_r 12 (fun _ => 0) 0, wRO E q4_w 4 a6 0, wArr E q4_f 4 (fun _ => 0), wRR E (fun _ => 0) rr0, wRR E (fun _ => 0) rr0]) 8 0 3 rfl q_Own (by decide) (by decide +kernel) rfl rfl rfl rfl l_Own (by rw [e_v8_37]; exact p_Own_minute) rfl dX9_copy_37 ?_
  refine ww_iconst (v := 0) C dX9_copy_40 (by decide) ?_
  refine ww_istore_n (lv' := [(2, .int 0), (1, .ref (o4 0)), (0, .ref (a0 0))]) C dX9_copy_41 rfl (by decide) rfl ?_
  refine ww_perm (gs' := [wOwn E a0 (rf4 q1 q3 q5 q7) v0, wRO E q1 20 a2 v1, wRR E a2 v2, wRO E q3 12 a4 v3, wRR E a4 v4, wRO E q5 4 a6 v5, wRR E a6 v6, wArr E q7 4 v7, wOwn E o4 (rf4 q4_d q4_r q4_w q4_f) v8_37, wRO E q4_d 20 (fun _ => 0) 0, wRR E (fun _ => 0) rr0, wArr E q4_f 4 (fun _ => 0), wRO E q4_r 12 (fun _ => 0) 0, wRR E (fun _ => 0) rr0, wRO E q4_w 4 a6 0]) [0, 1, 2, 3, 4, 5, 6, 7, 8, 9, 13, 12, 10, 14, 11] 15 rfl (by decide) rfl ?_
  refine ww_sub C (lv' := [(0, .ref (a0 0)), (1, .ref (o4 0)), (2, .int 0)]) [2, 1, 0] rfl ?_
  exact w_X9_copy_42 C FU _ _ _ _ _ _ _ _ _ _ _ _ _ _ _ _ _ (of_decide_eq_true g_2) hf

theorem yk_X9_copy : yX9_copy.cls = RX9 ∧ yX9_copy.cls ≠ "java/lang/invoke/MethodHandle" ∧ yX9_copy.cls ≠ "java/lang/invoke/VarHandle" ∧ (parseMethodDescriptor yX9_copy.desc).map (fun d => d.parameters.length) = some 0 := by decide +kernel
abbrev rmX9_best : Room := { frames := 5, cells := 20600, slots := 43000, locals := 119 }
set_option maxRecDepth 20000 in
theorem in_X9_best_X9 : ∀ w ∈ u_ws RX9 TX9 8, w ∈ wsX9_best := by decide +kernel
set_option maxHeartbeats 4000000 in
set_option maxRecDepth 100000 in
theorem w_X9_best_148 {E : Ex} {K : Kx} (C : Cx E K cX9_best 8 (some (.array .int)) RX9 wsX9_best rmX9_best) {a0 : Nat → Nat} {q1 : Nat} {a2 : Nat → Nat} {q3 : Nat} {a4 : Nat → Nat} {q5 : Nat} {a6 : Nat → Nat} {q7 : Nat} {v0 : OwnV} {v1 : Nat} {v2 : RowsT} {v3 : Nat} {v4 : RowsT} {v5 : Nat} {v6 : RowsT} {v7 : Nat → Int32}  {d0 : Nat → Nat} {d1 : Nat} {d2 : Nat → Nat} {d3 : Nat} {d4 : Nat} {d5 : Nat → Nat} {d6 : Nat} {x3 : Int32} {x4 : Int32} {x6 : Int32} {x7 : Int32} {w0 : OwnV} {w1 : Nat} {w2 : RowsT} {w3 : Nat → Int32} {w4 : Nat} {w5 : RowsT} {w6 : Nat} {c : Nat} {s : Nat} {k41 : Int32 → OwnV → Nat → RowsT → (Nat → Int32) → Nat → RowsT → Nat → (Nat → Int32) → Nat → Nat → Option (Nat → Int32)} {r : (Nat → Int32)} (hk41 : ∀ (d0 : Nat → Nat) (d1 : Nat) (d2 : Nat → Nat) (d3 : Nat) (d4 : Nat) (d5 : Nat → Nat) (d6 : Nat) (d7 : Nat) (x4 : Int32) (w0 : OwnV) (w1 : Nat) (w2 : RowsT) (w3 : Nat → Int32) (w4 : Nat) (w5 : RowsT) (w6 : Nat) (w7 : Nat → Int32) (c : Nat) (s : Nat), c ≤ 20600 ∧ s ≤ 43000 → k41 x4 w0 w1 w2 w3 w4 w5 w6 w7 c s = some r → WW E K c s (QQ E K (fun rv g => ∃ (y0 : Nat), rv = some (.ref y0) ∧ g = [wOwn E a0 (rf4 q1 q3 q5 q7) v0, wRO E q1 20 a2 v1, wRR E a2 v2, wRO E q3 12 a4 v3, wRR E a4 v4, wRO E q5 4 a6 v5, wRR E a6 v6, wArr E q7 4 v7, wArr E y0 6 r]) 20600 43000) 41 [(0, .ref (a0 0)), (1, .ref (d0 0)), (2, .ref d7), (3, .int x3), (4, .int x4)] [] [wOwn E a0 (rf4 q1 q3 q5 q7) v0, wRO E q1 20 a2 v1, wRR E a2 v2, wRO E q3 12 a4 v3, wRR E a4 v4, wRO E q5 4 a6 v5, wRR E a6 v6, wArr E q7 4 v7, wOwn E d0 (rf4 d1 d4 d6 d3) w0, wRO E d1 20 d2 w1, wRR E d2 w2, wArr E d3 4 w3, wRO E d4 12 d5 w4, wRR E d5 w5, wRO E d6 4 a6 w6, wArr E d7 6 w7]) (hcs : c ≤ 20600 ∧ s ≤ 43000) (hf : Own_best_148 v0 v1 v2 v3 v4 v5 v6 v7 k41 x3 x4 x6 x7 w0 w1 w2 w3 w4 w5 w6 c s = some r) : WW E K c s (QQ E K (fun rv g => ∃ (y0 : Nat), rv = some (.ref y0) ∧ g = [wOwn E a0 (rf4 q1 q3 q5 q7) v0, wRO E q1 20 a2 v1, wRR E a2 v2, wRO E q3 12 a4 v3, wRR E a4 v4, wRO E q5 4 a6 v5, wRR E a6 v6, wArr E q7 4 v7, wArr E y0 6 r]) 20600 43000) 148 [(0, .ref (a0 0)), (1, .ref (d0 0)), (3, .int x3), (4, .int x4), (6, .int x6), (7, .int x7)] [] [wOwn E a0 (rf4 q1 q3 q5 q7) v0, wRO E q1 20 a2 v1, wRR E a2 v2, wRO E q3 12 a4 v3, wRR E a4 v4, wRO E q5 4 a6 v5, wRR E a6 v6, wArr E q7 4 v7, wOwn E d0 (rf4 d1 d4 d6 d3) w0, wRO E d1 20 d2 w1, wRR E d2 w2, wArr E d3 4 w3, wRO E d4 12 d5 w4, wRR E d5 w5, wRO E d6 4 a6 w6] := by
  rw [Own_best_148] at hf
  refine ww_bipush (v := 6) C dX9_best_148 (by decide) ?_
  obtain ⟨g_42, hf⟩ := gdE hf
  refine ww_newi C (by decide +kernel) 6 (by decide) (by decide) (by decide) (of_decide_eq_true g_42) dX9_best_150 (fun q150 => ?_)
  refine ww_eq (gs' := [wOwn E a0 (rf4 q1 q3 q5 q7) v0, wRO E q1 20 a2 v1, wRR E a2 v2, wRO E q3 12 a4 v3, wRR E a4 v4, wRO E q5 4 a6 v5, wRR E a6 v6, wArr E q7 4 v7, wOwn E d0 (rf4 d1 d4 d6 d3) w0, wRO E d1 20 d2 w1, wRR E d2 w2, wArr E d3 4 w3, wRO E d4 12 d5 w4, wRR E d5 w5, wRO E d6 4 a6 w6, wArr E q150 6 (fun _ => 0)]) rfl ?_
  refine ww_dup C dX9_best_152 rfl ?_
  refine ww_iconst (v := 0) C dX9_best_153 (by decide) ?_
  refine ww_iload C dX9_best_154 4 rfl ?_
  obtain ⟨g_43, hf⟩ := gdE hf
  obtain ⟨v15_156, e_v15_156⟩ : ∃ y : Nat → Int32, y = upd (fun _ => 0) (Int32.toNatClampNeg 0) x6 := ⟨_, rfl⟩
  replace hf := ltE e_v15_156 hf
  refine ww_iast C (f := (fun _ => 0)) (w := wArr E q150 6 (fun _ => 0)) (w' := wArr E q150 6 v15_156) (gs' := [wOwn E a0 (rf4 q1 q3 q5 q7) v0, wRO E q1 20 a2 v1, wRR E a2 v2, wRO E q3 12 a4 v3, wRR E a4 v4, wRO E q5 4 a6 v5, wRR E a6 v6, wArr E q7 4 v7, wOwn E d0 (rf4 d1 d4 d6 d3) w0, wRO E d1 20 d2 w1, wRR E d2 w2, wArr E d3 4 w3, wRO E d4 12 d5 w4, wRR E d5 w5, wRO E d6 4 a6 w6, wArr E q150 6 v15_156]) 15 0 rfl q_Arr (inB_vp g_43) (by rw [e_v15_156]; exact s_Arr) rfl dX9_best_156 ?_
  refine ww_dup C dX9_best_157 rfl ?_
  refine ww_iconst (v := 1) C dX9_best_158 (by decide) ?_
  refine ww_iload C dX9_best_159 5 rfl ?_
  obtain ⟨g_44, hf⟩ := gdE hf
  obtain ⟨v15_161, e_v15_161⟩ : ∃ y : Nat → Int32, y = upd v15_156 (Int32.toNatClampNeg 1) x7 := ⟨_, rfl⟩
  replace hf := ltE e_v15_161 hf
  refine ww_iast C (f := v15_156) (w := wArr E q150 6 v15_156) (w' := wArr E q150 6 v15_161) (gs' := [wOwn E a0 (rf4 q1 q3 q5 q7) v0, wRO E q1 20 a2 v1, wRR E a2 v2, wRO E q3 12 a4 v3, wRR E a4 v4, wRO E q5 4 a6 v5, wRR E a6 v6, wArr E q7 4 v7, wOwn E d0 (rf4 d1 d4 d6 d3) w0, wRO E d1 20 d2 w1, wRR E d2 w2, wArr E d3 4 w3, wRO E d4 12 d5 w4, wRR E d5 w5, wRO E d6 4 a6 w6, wArr E q150 6 v15_161]) 15 0 rfl q_Arr (inB_vp g_44) (by rw [e_v15_161]; exact s_Arr) rfl dX9_best_161 ?_
  refine ww_dup C dX9_best_162 rfl ?_
  refine ww_iconst (v := 2) C dX9_best_163 (by decide) ?_
  refine ww_aload_n C dX9_best_164 rfl 1 rfl ?_
  refine ww_get C clOK9 in_X9_best_X9 (w := wOwn E d0 (rf4 d1 d4 d6 d3) w0) (fs := fsOwn d0 (rf4 d1 d4 d6 d3) w0) (v := .ref d3) 8 0 7 rfl q_Own (by decide) (by decide +kernel) g_Own_phase dX9_best_165 ?_
  refine ww_iconst (v := 0) C dX9_best_168 (by decide) ?_
  obtain ⟨g_45, hf⟩ := gdE hf
  refine ww_iald C (f := w3) (w := wArr E d3 4 w3) 11 0 rfl q_Arr (inB_vp g_45) dX9_best_169 ?_
  obtain ⟨g_46, hf⟩ := gdE hf
  obtain ⟨v15_170, e_v15_170⟩ : ∃ y : Nat → Int32, y = upd v15_161 (Int32.toNatClampNeg 2) (w3 (Int32.toNatClampNeg 0)) := ⟨_, rfl⟩
  replace hf := ltE e_v15_170 hf
  refine ww_iast C (f := v15_161) (w := wArr E q150 6 v15_161) (w' := wArr E q150 6 v15_170) (gs' := [wOwn E a0 (rf4 q1 q3 q5 q7) v0, wRO E q1 20 a2 v1, wRR E a2 v2, wRO E q3 12 a4 v3, wRR E a4 v4, wRO E q5 4 a6 v5, wRR E a6 v6, wArr E q7 4 v7, wOwn E d0 (rf4 d1 d4 d6 d3) w0, wRO E d1 20 d2 w1, wRR E d2 w2, wArr E d3 4 w3, wRO E d4 12 d5 w4, wRR E d5 w5, wRO E d6 4 a6 w6, wArr E q150 6 v15_170]) 15 0 rfl q_Arr (inB_vp g_46) (by rw [e_v15_170]; exact s_Arr) rfl dX9_best_170 ?_
  refine ww_dup C dX9_best_171 rfl ?_
  refine ww_iconst (v := 3) C dX9_best_172 (by decide) ?_
  refine ww_aload_n C dX9_best_173 rfl 1 rfl ?_
  refine ww_get C clOK9 in_X9_best_X9 (w := wOwn E d0 (rf4 d1 d4 d6 d3) w0) (fs := fsOwn d0 (rf4 d1 d4 d6 d3) w0) (v := .ref d3) 8 0 7 rfl q_Own (by decide) (by decide +kernel) g_Own_phase dX9_best_174 ?_
  refine ww_iconst (v := 1) C dX9_best_177 (by decide) ?_
  obtain ⟨g_47, hf⟩ := gdE hf
  refine ww_iald C (f := w3) (w := wArr E d3 4 w3) 11 0 rfl q_Arr (inB_vp g_47) dX9_best_178 ?_
  obtain ⟨g_48, hf⟩ := gdE hf
  obtain ⟨v15_179, e_v15_179⟩ : ∃ y : Nat → Int32, y = upd v15_170 (Int32.toNatClampNeg 3) (w3 (Int32.toNatClampNeg 1)) := ⟨_, rfl⟩
  replace hf := ltE e_v15_179 hf
  refine ww_iast C (f := v15_170) (w := wArr E q150 6 v15_170) (w' := wArr E q150 6 v15_179) (gs' := [wOwn E a0 (rf4 q1 q3 q5 q7) v0, wRO E q1 20 a2 v1, wRR E a2 v2, wRO E q3 12 a4 v3, wRR E a4 v4, wRO E q5 4 a6 v5, wRR E a6 v6, wArr E q7 4 v7, wOwn E d0 (rf4 d1 d4 d6 d3) w0, wRO E d1 20 d2 w1, wRR E d2 w2, wArr E d3 4 w3, wRO E d4 12 d5 w4, wRR E d5 w5, wRO E d6 4 a6 w6, wArr E q150 6 v15_179]) 15 0 rfl q_Arr (inB_vp g_48) (by rw [e_v15_179]; exact s_Arr) rfl dX9_best_179 ?_
  refine ww_dup C dX9_best_180 rfl ?_
  refine ww_iconst (v := 4) C dX9_best_181 (by decide) ?_
  refine ww_aload_n C dX9_best_182 rfl 1 rfl ?_
  refine ww_get C clOK9 in_X9_best_X9 (w := wOwn E d0 (rf4 d1 d4 d6 d3) w0) (fs := fsOwn d0 (rf4 d1 d4 d6 d3) w0) (v := .ref d3) 8 0 7 rfl q_Own (by decide) (by decide +kernel) g_Own_phase dX9_best_183 ?_
  refine ww_iconst (v := 2) C dX9_best_186 (by decide) ?_
  obtain ⟨g_49, hf⟩ := gdE hf
  refine ww_iald C (f := w3) (w := wArr E d3 4 w3) 11 0 rfl q_Arr (inB_vp g_49) dX9_best_187 ?_
  obtain ⟨g_50, hf⟩ := gdE hf
  obtain ⟨v15_188, e_v15_188⟩ : ∃ y : Nat → Int32, y = upd v15_179 (Int32.toNatClampNeg 4) (w3 (Int32.toNatClampNeg 2)) := ⟨_, rfl⟩
  replace hf := ltE e_v15_188 hf
  refine ww_iast C (f := v15_179) (w := wArr E q150 6 v15_179) (w' := wArr E q150 6 v15_188) (gs' := [wOwn E a0 (rf4 q1 q3 q5 q7) v0, wRO E q1 20 a2 v1, wRR E a2 v2, wRO E q3 12 a4 v3, wRR E a4 v4, wRO E q5 4 a6 v5, wRR E a6 v6, wArr E q7 4 v7, wOwn E d0 (rf4 d1 d4 d6 d3) w0, wRO E d1 20 d2 w1, wRR E d2 w2, wArr E d3 4 w3, wRO E d4 12 d5 w4, wRR E d5 w5, wRO E d6 4 a6 w6, wArr E q150 6 v15_188]) 15 0 rfl q_Arr (inB_vp g_50) (by rw [e_v15_188]; exact s_Arr) rfl dX9_best_188 ?_
  refine ww_dup C dX9_best_189 rfl ?_
  refine ww_iconst (v := 5) C dX9_best_190 (by decide) ?_
  refine ww_aload_n C dX9_best_191 rfl 1 rfl ?_
  refine ww_get C clOK9 in_X9_best_X9 (w := wOwn E d0 (rf4 d1 d4 d6 d3) w0) (fs := fsOwn d0 (rf4 d1 d4 d6 d3) w0) (v := .ref d3) 8 0 7 rfl q_Own (by decide) (by decide +kernel) g_Own_phase dX9_best_192 ?_
  refine ww_iconst (v := 3) C dX9_best_195 (by decide) ?_
  obtain ⟨g_51, hf⟩ := gdE hf
  refine ww_iald C (f := w3) (w := wArr E d3 4 w3) 11 0 rfl q_Arr (inB_vp g_51) dX9_best_196 ?_
  obtain ⟨g_52, hf⟩ := gdE hf
  obtain ⟨v15_197, e_v15_197⟩ : ∃ y : Nat → Int32, y = upd v15_188 (Int32.toNatClampNeg 5) (w3 (Int32.toNatClampNeg 3)) := ⟨_, rfl⟩
  replace hf := ltE e_v15_197 hf
  refine ww_iast C (f := v15_188) (w := wArr E q150 6 v15_188) (w' := wArr E q150 6 v15_197) (gs' := [wOwn E a0 (rf4 q1 q3 q5 q7) v0, wRO E q1 20 a2 v1, wRR E a2 v2, wRO E q3 12 a4 v3, wRR E a4 v4, wRO E q5 4 a6 v5, wRR E a6 v6, wArr E q7 4 v7, wOwn E d0 (rf4 d1 d4 d6 d3) w0, wRO E d1 20 d2 w1, wRR E d2 w2, wArr E d3 4 w3, wRO E d4 12 d5 w4, wRR E d5 w5, wRO E d6 4 a6 w6, wArr E q150 6 v15_197]) 15 0 rfl q_Arr (inB_vp g_52) (by rw [e_v15_197]; exact s_Arr) rfl dX9_best_197 ?_
  refine ww_astore_n (lv' := [(2, .ref q150), (0, .ref (a0 0)), (1, .ref (d0 0)), (3, .int x3), (4, .int x4), (6, .int x6), (7, .int x7)]) C dX9_best_198 rfl (by decide) rfl ?_
  obtain ⟨x4_199, e_x4_199⟩ : ∃ y : Int32, y = x4 + 1 := ⟨_, rfl⟩
  replace hf := ltE e_x4_199 hf
  refine ww_iinc (v := x4_199) (lv' := [(4, .int x4_199), (2, .ref q150), (0, .ref (a0 0)), (1, .ref (d0 0)), (3, .int x3), (6, .int x6), (7, .int x7)]) C dX9_best_199 4 rfl (by rw [e_x4_199]; rfl) (by decide) rfl ?_
  refine ww_goto (tgt := 41) C dX9_best_202 (by decide) ?_
  refine ww_sub C (lv' := [(0, .ref (a0 0)), (1, .ref (d0 0)), (2, .ref q150), (3, .int x3), (4, .int x4_199)]) [2, 3, 1, 4, 0] rfl ?_
  exact hk41 _ _ _ _ _ _ _ _ _ _ _ _ _ _ _ _ _ _ _ (of_decide_eq_true g_42) hf

set_option maxHeartbeats 4000000 in
set_option maxRecDepth 100000 in
theorem w_X9_best_122 {E : Ex} {K : Kx} (C : Cx E K cX9_best 8 (some (.array .int)) RX9 wsX9_best rmX9_best) {a0 : Nat → Nat} {q1 : Nat} {a2 : Nat → Nat} {q3 : Nat} {a4 : Nat → Nat} {q5 : Nat} {a6 : Nat → Nat} {q7 : Nat} {v0 : OwnV} {v1 : Nat} {v2 : RowsT} {v3 : Nat} {v4 : RowsT} {v5 : Nat} {v6 : RowsT} {v7 : Nat → Int32}  {d0 : Nat → Nat} {d1 : Nat} {d2 : Nat → Nat} {d3 : Nat} {d4 : Nat} {d5 : Nat → Nat} {d6 : Nat} {d7 : Nat} {x3 : Int32} {x4 : Int32} {x6 : Int32} {w0 : OwnV} {w1 : Nat} {w2 : RowsT} {w3 : Nat → Int32} {w4 : Nat} {w5 : RowsT} {w6 : Nat} {w7 : Nat → Int32} {c : Nat} {s : Nat} {k41 : Int32 → OwnV → Nat → RowsT → (Nat → Int32) → Nat → RowsT → Nat → (Nat → Int32) → Nat → Nat → Option (Nat → Int32)} {r : (Nat → Int32)} (hk41 : ∀ (d0 : Nat → Nat) (d1 : Nat) (d2 : Nat → Nat) (d3 : Nat) (d4 : Nat) (d5 : Nat → Nat) (d6 : Nat) (d7 : Nat) (x4 : Int32) (w0 : OwnV) (w1 : Nat) (w2 : RowsT) (w3 : Nat → Int32) (w4 : Nat) (w5 : RowsT) (w6 : Nat) (w7 : Nat → Int32) (c : Nat) (s : Nat), c ≤ 20600 ∧ s ≤ 43000 → k41 x4 w0 w1 w2 w3 w4 w5 w6 w7 c s = some r → WW E K c s (QQ E K (fun rv g => ∃ (y0 : Nat), rv = some (.ref y0) ∧ g = [wOwn E a0 (rf4 q1 q3 q5 q7) v0, wRO E q1 20 a2 v1, wRR E a2 v2, wRO E q3 12 a4 v3, wRR E a4 v4, wRO E q5 4 a6 v5, wRR E a6 v6, wArr E q7 4 v7, wArr E y0 6 r]) 20600 43000) 41 [(0, .ref (a0 0)), (1, .ref (d0 0)), (2, .ref d7), (3, .int x3), (4, .int x4)] [] [wOwn E a0 (rf4 q1 q3 q5 q7) v0, wRO E q1 20 a2 v1, wRR E a2 v2, wRO E q3 12 a4 v3, wRR E a4 v4, wRO E q5 4 a6 v5, wRR E a6 v6, wArr E q7 4 v7, wOwn E d0 (rf4 d1 d4 d6 d3) w0, wRO E d1 20 d2 w1, wRR E d2 w2, wArr E d3 4 w3, wRO E d4 12 d5 w4, wRR E d5 w5, wRO E d6 4 a6 w6, wArr E d7 6 w7]) (hcs : c ≤ 20600 ∧ s ≤ 43000) (hf : Own_best_122 v0 v1 v2 v3 v4 v5 v6 v7 k41 x3 x4 x6 w0 w1 w2 w3 w4 w5 w6 w7 c s = some r) : WW E K c s (QQ E K (fun rv g => ∃ (y0 : Nat), rv = some (.ref y0) ∧ g = [wOwn E a0 (rf4 q1 q3 q5 q7) v0, wRO E q1 20 a2 v1, wRR E a2 v2, wRO E q3 12 a4 v3, wRR E a4 v4, wRO E q5 4 a6 v5, wRR E a6 v6, wArr E q7 4 v7, wArr E y0 6 r]) 20600 43000) 122 [(0, .ref (a0 0)), (1, .ref (d0 0)), (2, .ref d7), (3, .int x3), (4, .int x4), (6, .int x6)] [] [wOwn E a0 (rf4 q1 q3 q5 q7) v0, wRO E q1 20 a2 v1, wRR E a2 v2, wRO E q3 12 a4 v3, wRR E a4 v4, wRO E q5 4 a6 v5, wRR E a6 v6, wArr E q7 4 v7, wOwn E d0 (rf4 d1 d4 d6 d3) w0, wRO E d1 20 d2 w1, wRR E d2 w2, wArr E d3 4 w3, wRO E d4 12 d5 w4, wRR E d5 w5, wRO E d6 4 a6 w6, wArr E d7 6 w7] := by
  rw [Own_best_122] at hf
  refine ww_aload_n C dX9_best_122 rfl 1 rfl ?_
  obtain ⟨p123, hp123, hf⟩ := bdE hf
  refine ww_callV C (As := []) (st := []) (gr := [wOwn E a0 (rf4 q1 q3 q5 q7) v0, wRO E q1 20 a2 v1, wRR E a2 v2, wRO E q3 12 a4 v3, wRR E a4 v4, wRO E q5 4 a6 v5, wArr E q7 4 v7, wRO E d1 20 d2 w1, wRR E d2 w2, wRO E d4 12 d5 w4, wRR E d5 w5, wArr E d7 6 w7]) (c_X9_crossings (E := E) (a0 := d0) (h0_0 := d1) (h0_1 := d4) (q1 := d6) (a2 := a6) (q3 := d3) hp123) gX9_best_X9_crossings rfl yk_X9_crossings ⟨by decide, Nat.le_of_ble_eq_true rfl⟩ hcs clOK9 0 0 rfl rfl [8, 14, 6, 11] [0, 1, 2, 3, 4, 5, 7, 9, 10, 12, 13, 15] 16 rfl (by decide) rfl rfl (Nat.le_of_ble_eq_true rfl) dX9_best_123 ?_
  rintro _ _ ⟨rfl, rfl⟩
  refine ww_perm (gs' := [wOwn E a0 (rf4 q1 q3 q5 q7) v0, wRO E q1 20 a2 v1, wRR E a2 v2, wRO E q3 12 a4 v3, wRR E a4 v4, wRO E q5 4 a6 v5, wRR E a6 v6, wArr E q7 4 v7, wOwn E d0 (rf4 d1 d4 d6 d3) w0, wRO E d1 20 d2 w1, wRR E d2 w2, wArr E d3 4 w3, wRO E d4 12 d5 w4, wRR E d5 w5, wRO E d6 4 a6 w6, wArr E d7 6 w7]) [4, 5, 6, 7, 8, 9, 2, 10, 0, 11, 12, 3, 13, 14, 1, 15] 16 rfl (by decide) rfl ?_
  refine ww_istore (lv' := [(7, .int p123), (0, .ref (a0 0)), (1, .ref (d0 0)), (2, .ref d7), (3, .int x3), (4, .int x4), (6, .int x6)]) C dX9_best_126 (by decide) rfl ?_
  refine ww_aload_n C dX9_best_128 rfl 3 rfl ?_
  refine ww_null C dX9_best_129 ?_
  refine ww_iload C dX9_best_132 6 rfl ?_
  refine ww_aload_n C dX9_best_134 rfl 3 rfl ?_
  refine ww_iconst (v := 0) C dX9_best_135 (by decide) ?_
  obtain ⟨g_38, hf⟩ := gdE hf
  refine ww_iald C (f := w7) (w := wArr E d7 6 w7) 15 0 rfl q_Arr (inB_vp g_38) dX9_best_136 ?_
  refine ww_icmp_lt (tgt := 148) C dX9_best_137 (by decide) (fun c_39 => ?_) (fun c_39 => ?_)
  · replace hf := ifT c_39 hf
    refine ww_drop (gs' := [wOwn E a0 (rf4 q1 q3 q5 q7) v0, wRO E q1 20 a2 v1, wRR E a2 v2, wRO E q3 12 a4 v3, wRR E a4 v4, wRO E q5 4 a6 v5, wRR E a6 v6, wArr E q7 4 v7, wOwn E d0 (rf4 d1 d4 d6 d3) w0, wRO E d1 20 d2 w1, wRR E d2 w2, wArr E d3 4 w3, wRO E d4 12 d5 w4, wRR E d5 w5, wRO E d6 4 a6 w6]) [0, 1, 2, 3, 4, 5, 6, 7, 8, 9, 10, 11, 12, 13, 14] [15] 16 rfl (by decide) rfl ?_
    refine ww_sub C (lv' := [(0, .ref (a0 0)), (1, .ref (d0 0)), (3, .int x3), (4, .int x4), (6, .int x6), (7, .int p123)]) [1, 2, 4, 5, 6, 0] rfl ?_
    exact w_X9_best_148 C (k41 := k41) hk41 hcs hf
  · replace hf := ifF c_39 hf
    refine ww_iload C dX9_best_140 0 rfl ?_
    refine ww_aload_n C dX9_best_142 rfl 3 rfl ?_
    refine ww_iconst (v := 1) C dX9_best_143 (by decide) ?_
    obtain ⟨g_40, hf⟩ := gdE hf
    refine ww_iald C (f := w7) (w := wArr E d7 6 w7) 15 0 rfl q_Arr (inB_vp g_40) dX9_best_144 ?_
    refine ww_icmp_ge (tgt := 199) C dX9_best_145 (by decide) (fun c_41 => ?_) (fun c_41 => ?_)
    · replace hf := ifT c_41 hf
      obtain ⟨x4_199, e_x4_199⟩ : ∃ y : Int32, y = x4 + 1 := ⟨_, rfl⟩
      replace hf := ltE e_x4_199 hf
      refine ww_iinc (v := x4_199) (lv' := [(4, .int x4_199), (7, .int p123), (0, .ref (a0 0)), (1, .ref (d0 0)), (2, .ref d7), (3, .int x3), (6, .int x6)]) C dX9_best_199 5 rfl (by rw [e_x4_199]; rfl) (by decide) rfl ?_
      refine ww_goto (tgt := 41) C dX9_best_202 (by decide) ?_
      refine ww_sub C (lv' := [(0, .ref (a0 0)), (1, .ref (d0 0)), (2, .ref d7), (3, .int x3), (4, .int x4_199)]) [2, 3, 4, 5, 0] rfl ?_
      exact hk41 _ _ _ _ _ _ _ _ _ _ _ _ _ _ _ _ _ _ _ hcs hf
    · replace hf := ifF c_41 hf
      refine ww_drop (gs' := [wOwn E a0 (rf4 q1 q3 q5 q7) v0, wRO E q1 20 a2 v1, wRR E a2 v2, wRO E q3 12 a4 v3, wRR E a4 v4, wRO E q5 4 a6 v5, wRR E a6 v6, wArr E q7 4 v7, wOwn E d0 (rf4 d1 d4 d6 d3) w0, wRO E d1 20 d2 w1, wRR E d2 w2, wArr E d3 4 w3, wRO E d4 12 d5 w4, wRR E d5 w5, wRO E d6 4 a6 w6]) [0, 1, 2, 3, 4, 5, 6, 7, 8, 9, 10, 11, 12, 13, 14] [15] 16 rfl (by decide) rfl ?_
      refine ww_sub C (lv' := [(0, .ref (a0 0)), (1, .ref (d0 0)), (3, .int x3), (4, .int x4), (6, .int x6), (7, .int p123)]) [1, 2, 4, 5, 6, 0] rfl ?_
      exact w_X9_best_148 C (k41 := k41) hk41 hcs hf

set_option maxHeartbeats 4000000 in
set_option maxRecDepth 100000 in
theorem w_X9_best_59 {E : Ex} {K : Kx} (C : Cx E K cX9_best 8 (some (.array .int)) RX9 wsX9_best rmX9_best) {a0 : Nat → Nat} {q1 : Nat} {a2 : Nat → Nat} {q3 : Nat} {a4 : Nat → Nat} {q5 : Nat} {a6 : Nat → Nat} {q7 : Nat} {v0 : OwnV} {v1 : Nat} {v2 : RowsT} {v3 : Nat} {v4 : RowsT} {v5 : Nat} {v6 : RowsT} {v7 : Nat → Int32} {x3 : Int32} {x4 : Int32} {k41 : Int32 → OwnV → Nat → RowsT → (Nat → Int32) → Nat → RowsT → Nat → (Nat → Int32) → Nat → Nat → Option (Nat → Int32)} {r : (Nat → Int32)} (hk41 : ∀ (d0 : Nat → Nat) (d1 : Nat) (d2 : Nat → Nat) (d3 : Nat) (d4 : Nat) (d5 : Nat → Nat) (d6 : Nat) (d7 : Nat) (x4 : Int32) (w0 : OwnV) (w1 : Nat) (w2 : RowsT) (w3 : Nat → Int32) (w4 : Nat) (w5 : RowsT) (w6 : Nat) (w7 : Nat → Int32) (c : Nat) (s : Nat), c ≤ 20600 ∧ s ≤ 43000 → k41 x4 w0 w1 w2 w3 w4 w5 w6 w7 c s = some r → WW E K c s (QQ E K (fun rv g => ∃ (y0 : Nat), rv = some (.ref y0) ∧ g = [wOwn E a0 (rf4 q1 q3 q5 q7) v0, wRO E q1 20 a2 v1, wRR E a2 v2, wRO E q3 12 a4 v3, wRR E a4 v4, wRO E q5 4 a6 v5, wRR E a6 v6, wArr E q7 4 v7, wArr E y0 6 r]) 20600 43000) 41 [(0, .ref (a0 0)), (1, .ref (d0 0)), (2, .ref d7), (3, .int x3), (4, .int x4)] [] [wOwn E a0 (rf4 q1 q3 q5 q7) v0, wRO E q1 20 a2 v1, wRR E a2 v2, wRO E q3 12 a4 v3, wRR E a4 v4, wRO E q5 4 a6 v5, wRR E a6 v6, wArr E q7 4 v7, wOwn E d0 (rf4 d1 d4 d6 d3) w0, wRO E d1 20 d2 w1, wRR E d2 w2, wArr E d3 4 w3, wRO E d4 12 d5 w4, wRR E d5 w5, wRO E d6 4 a6 w6, wArr E d7 6 w7]) : ∀ (n : Nat) (d0 : Nat → Nat) (d1 : Nat) (d2 : Nat → Nat) (d3 : Nat) (d4 : Nat) (d5 : Nat → Nat) (d6 : Nat) (d7 : Nat) (x5 : Int32) (x6 : Int32) (w0 : OwnV) (w1 : Nat) (w2 : RowsT) (w3 : Nat → Int32) (w4 : Nat) (w5 : RowsT) (w6 : Nat) (w7 : Nat → Int32) (c : Nat) (s : Nat), c ≤ 20600 ∧ s ≤ 43000 → Own_best_59 v0 v1 v2 v3 v4 v5 v6 v7 x3 x4 k41 n x5 x6 w0 w1 w2 w3 w4 w5 w6 w7 c s = some r → WW E K c s (QQ E K (fun rv g => ∃ (y0 : Nat), rv = some (.ref y0) ∧ g = [wOwn E a0 (rf4 q1 q3 q5 q7) v0, wRO E q1 20 a2 v1, wRR E a2 v2, wRO E q3 12 a4 v3, wRR E a4 v4, wRO E q5 4 a6 v5, wRR E a6 v6, wArr E q7 4 v7, wArr E y0 6 r]) 20600 43000) 59 [(0, .ref (a0 0)), (1, .ref (d0 0)), (2, .ref d7), (3, .int x3), (4, .int x4), (5, .int x5), (6, .int x6)] [] [wOwn E a0 (rf4 q1 q3 q5 q7) v0, wRO E q1 20 a2 v1, wRR E a2 v2, wRO E q3 12 a4 v3, wRR E a4 v4, wRO E q5 4 a6 v5, wRR E a6 v6, wArr E q7 4 v7, wOwn E d0 (rf4 d1 d4 d6 d3) w0, wRO E d1 20 d2 w1, wRR E d2 w2, wArr E d3 4 w3, wRO E d4 12 d5 w4, wRR E d5 w5, wRO E d6 4 a6 w6, wArr E d7 6 w7] := by
  intro n
  induction n with
  | zero =>
    intro d0 d1 d2 d3 d4 d5 d6 d7 x5 x6 w0 w1 w2 w3 w4 w5 w6 w7 c s hcs hf
    simp [Own_best_59] at hf
  | succ n ih =>
    intro d0 d1 d2 d3 d4 d5 d6 d7 x5 x6 w0 w1 w2 w3 w4 w5 w6 w7 c s hcs hf
    rw [Own_best_59] at hf
    refine ww_iload C dX9_best_59 6 rfl ?_
    refine ww_if_lt (tgt := 101) C dX9_best_61 (by decide) (fun c_29 => ?_) (fun c_29 => ?_)
    · replace hf := ifT c_29 hf
      refine ww_aload_n C dX9_best_101 rfl 1 rfl ?_
      obtain ⟨g_30, hf⟩ := gdE hf
      obtain ⟨p102, hp102, hf⟩ := bdE hf
      refine ww_callV C (As := []) (st := []) (gr := [wOwn E a0 (rf4 q1 q3 q5 q7) v0, wRO E q1 20 a2 v1, wRR E a2 v2, wRO E q3 12 a4 v3, wRR E a4 v4, wRO E q5 4 a6 v5, wArr E q7 4 v7, wRO E d1 20 d2 w1, wRR E d2 w2, wRO E d4 12 d5 w4, wRR E d5 w5, wArr E d7 6 w7]) (c_X9_worst (E := E) (a0 := d0) (h0_0 := d1) (h0_1 := d4) (q1 := d6) (a2 := a6) (q3 := d3) hp102) gX9_best_X9_worst rfl yk_X9_worst ⟨by decide, Nat.le_of_ble_eq_true rfl⟩ (of_decide_eq_true g_30) clOK9 0 0 rfl rfl [8, 14, 6, 11] [0, 1, 2, 3, 4, 5, 7, 9, 10, 12, 13, 15] 16 rfl (by decide) rfl rfl (Nat.le_of_ble_eq_true rfl) dX9_best_102 ?_
      rintro _ _ ⟨rfl, rfl⟩
      refine ww_perm (gs' := [wOwn E a0 (rf4 q1 q3 q5 q7) v0, wRO E q1 20 a2 v1, wRR E a2 v2, wRO E q3 12 a4 v3, wRR E a4 v4, wRO E q5 4 a6 v5, wRR E a6 v6, wArr E q7 4 v7, wOwn E d0 (rf4 d1 d4 d6 d3) w0, wRO E d1 20 d2 w1, wRR E d2 w2, wArr E d3 4 w3, wRO E d4 12 d5 w4, wRR E d5 w5, wRO E d6 4 a6 w6, wArr E d7 6 w7]) [4, 5, 6, 7, 8, 9, 2, 10, 0, 11, 12, 3, 13, 14, 1, 15] 16 rfl (by decide) rfl ?_
      refine ww_istore (lv' := [(6, .int p102), (0, .ref (a0 0)), (1, .ref (d0 0)), (2, .ref d7), (3, .int x3), (4, .int x4), (5, .int x5)]) C dX9_best_105 (by decide) rfl ?_
      refine ww_aload_n C dX9_best_107 rfl 3 rfl ?_
      refine ww_null C dX9_best_108 ?_
      refine ww_iload C dX9_best_111 0 rfl ?_
      refine ww_aload_n C dX9_best_113 rfl 3 rfl ?_
      refine ww_iconst (v := 0) C dX9_best_114 (by decide) ?_
      obtain ⟨g_31, hf⟩ := gdE hf
      refine ww_iald C (f := w7) (w := wArr E d7 6 w7) 15 0 rfl q_Arr (inB_vp g_31) dX9_best_115 ?_
      refine ww_icmp_le (tgt := 122) C dX9_best_116 (by decide) (fun c_32 => ?_) (fun c_32 => ?_)
      · replace hf := ifT c_32 hf
        refine ww_sub C (lv' := [(0, .ref (a0 0)), (1, .ref (d0 0)), (2, .ref d7), (3, .int x3), (4, .int x4), (6, .int p102)]) [1, 2, 3, 4, 5, 0] rfl ?_
        exact w_X9_best_122 C (k41 := k41) hk41 (of_decide_eq_true g_30) hf
      · replace hf := ifF c_32 hf
        refine ww_goto (tgt := 199) C dX9_best_119 (by decide) ?_
        obtain ⟨x4_199, e_x4_199⟩ : ∃ y : Int32, y = x4 + 1 := ⟨_, rfl⟩
        replace hf := ltE e_x4_199 hf
        refine ww_iinc (v := x4_199) (lv' := [(4, .int x4_199), (6, .int p102), (0, .ref (a0 0)), (1, .ref (d0 0)), (2, .ref d7), (3, .int x3), (5, .int x5)]) C dX9_best_199 5 rfl (by rw [e_x4_199]; rfl) (by decide) rfl ?_
        refine ww_goto (tgt := 41) C dX9_best_202 (by decide) ?_
        refine ww_sub C (lv' := [(0, .ref (a0 0)), (1, .ref (d0 0)), (2, .ref d7), (3, .int x3), (4, .int x4_199)]) [2, 3, 4, 5, 0] rfl ?_
        exact hk41 _ _ _ _ _ _ _ _ _ _ _ _ _ _ _ _ _ _ _ (of_decide_eq_true g_30) hf
    · replace hf := ifF c_29 hf
      refine ww_aload_n C dX9_best_64 rfl 1 rfl ?_
      refine ww_get C clOK9 in_X9_best_X9 (w := wOwn E d0 (rf4 d1 d4 d6 d3) w0) (fs := fsOwn d0 (rf4 d1 d4 d6 d3) w0) (v := .ref d3) 8 0 7 rfl q_Own (by decide) (by decide +kernel) g_Own_phase dX9_best_65 ?_
      refine ww_iload C dX9_best_68 6 rfl ?_
      refine ww_iload C dX9_best_70 5 rfl ?_
      refine ww_aload_n C dX9_best_72 rfl 0 rfl ?_
      refine ww_get C clOK9 in_X9_best_X9 (w := wOwn E a0 (rf4 q1 q3 q5 q7) v0) (fs := fsOwn a0 (rf4 q1 q3 q5 q7) v0) (v := .ref q5) 0 0 6 rfl q_Own (by decide) (by decide +kernel) g_Own_walk dX9_best_73 ?_
      refine ww_iload C dX9_best_76 6 rfl ?_
      obtain ⟨g_33, hf⟩ := gdE hf
      obtain ⟨g_34, hf⟩ := gdE hf
      refine ww_aldR C (f := roF a6 v5) (w := wRO E q5 4 a6 v5) 5 0 rfl q_RO (inB_vp g_33) (roF_at (of_decide_eq_true g_34)) dX9_best_78 ?_
      obtain ⟨g_35, hf⟩ := gdE hf
      refine ww_alen C (v := nI (v6.2.1 (Int32.toNatClampNeg x6))) (w := wRR E a6 v6) 6 (Int32.toNatClampNeg x6) rfl (q_RR (of_decide_eq_true g_35)) rfl dX9_best_79 ?_
      obtain ⟨g_36, hf⟩ := gdE hf
      refine ww_irem C dX9_best_80 (nz_ne g_36) ?_
      obtain ⟨v11_81, e_v11_81⟩ : ∃ y : Nat → Int32, y = upd w3 (Int32.toNatClampNeg x6) (x5 - x5 / (nI (v6.2.1 (Int32.toNatClampNeg x6))) * (nI (v6.2.1 (Int32.toNatClampNeg x6)))) := ⟨_, rfl⟩
      replace hf := ltE e_v11_81 hf
      refine ww_iast C (f := w3) (w := wArr E d3 4 w3) (w' := wArr E d3 4 v11_81) (gs' := [wOwn E a0 (rf4 q1 q3 q5 q7) v0, wRO E q1 20 a2 v1, wRR E a2 v2, wRO E q3 12 a4 v3, wRR E a4 v4, wRO E q5 4 a6 v5, wRR E a6 v6, wArr E q7 4 v7, wOwn E d0 (rf4 d1 d4 d6 d3) w0, wRO E d1 20 d2 w1, wRR E d2 w2, wArr E d3 4 v11_81, wRO E d4 12 d5 w4, wRR E d5 w5, wRO E d6 4 a6 w6, wArr E d7 6 w7]) 11 0 rfl q_Arr (inB_vp g_33) (by rw [e_v11_81]; exact s_Arr) rfl dX9_best_81 ?_
      refine ww_iload C dX9_best_82 5 rfl ?_
      refine ww_aload_n C dX9_best_84 rfl 0 rfl ?_
      refine ww_get C clOK9 in_X9_best_X9 (w := wOwn E a0 (rf4 q1 q3 q5 q7) v0) (fs := fsOwn a0 (rf4 q1 q3 q5 q7) v0) (v := .ref q5) 0 0 6 rfl q_Own (by decide) (by decide +kernel) g_Own_walk dX9_best_85 ?_
      refine ww_iload C dX9_best_88 6 rfl ?_
      refine ww_aldR C (f := roF a6 v5) (w := wRO E q5 4 a6 v5) 5 0 rfl q_RO (inB_vp g_33) (roF_at (of_decide_eq_true g_34)) dX9_best_90 ?_
      refine ww_alen C (v := nI (v6.2.1 (Int32.toNatClampNeg x6))) (w := wRR E a6 v6) 6 (Int32.toNatClampNeg x6) rfl (q_RR (of_decide_eq_true g_35)) rfl dX9_best_91 ?_
      refine ww_idiv C dX9_best_92 (nz_ne g_36) ?_
      refine ww_topi (fun x5_93 e_x5_93 => ?_)
      replace hf := ltE e_x5_93 hf
      refine ww_istore (lv' := [(5, .int x5_93), (0, .ref (a0 0)), (1, .ref (d0 0)), (2, .ref d7), (3, .int x3), (4, .int x4), (6, .int x6)]) C dX9_best_93 (by decide) rfl ?_
      obtain ⟨x6_95, e_x6_95⟩ : ∃ y : Int32, y = x6 + (-1) := ⟨_, rfl⟩
      replace hf := ltE e_x6_95 hf
      refine ww_iinc (v := x6_95) (lv' := [(6, .int x6_95), (5, .int x5_93), (0, .ref (a0 0)), (1, .ref (d0 0)), (2, .ref d7), (3, .int x3), (4, .int x4)]) C dX9_best_95 6 rfl (by rw [e_x6_95]; rfl) (by decide) rfl ?_
      refine ww_goto (tgt := 59) C dX9_best_98 (by decide) ?_
      refine ww_sub C (lv' := [(0, .ref (a0 0)), (1, .ref (d0 0)), (2, .ref d7), (3, .int x3), (4, .int x4), (5, .int x5_93), (6, .int x6_95)]) [2, 3, 4, 5, 6, 1, 0] rfl ?_
      exact ih _ _ _ _ _ _ _ _ _ _ _ _ _ _ _ _ _ _ _ _ hcs hf

set_option maxHeartbeats 4000000 in
set_option maxRecDepth 100000 in
theorem w_X9_best_41 {E : Ex} {K : Kx} (C : Cx E K cX9_best 8 (some (.array .int)) RX9 wsX9_best rmX9_best) {a0 : Nat → Nat} {q1 : Nat} {a2 : Nat → Nat} {q3 : Nat} {a4 : Nat → Nat} {q5 : Nat} {a6 : Nat → Nat} {q7 : Nat} {v0 : OwnV} {v1 : Nat} {v2 : RowsT} {v3 : Nat} {v4 : RowsT} {v5 : Nat} {v6 : RowsT} {v7 : Nat → Int32} {x3 : Int32} {r : (Nat → Int32)} : ∀ (n : Nat) (d0 : Nat → Nat) (d1 : Nat) (d2 : Nat → Nat) (d3 : Nat) (d4 : Nat) (d5 : Nat → Nat) (d6 : Nat) (d7 : Nat) (x4 : Int32) (w0 : OwnV) (w1 : Nat) (w2 : RowsT) (w3 : Nat → Int32) (w4 : Nat) (w5 : RowsT) (w6 : Nat) (w7 : Nat → Int32) (c : Nat) (s : Nat), c ≤ 20600 ∧ s ≤ 43000 → Own_best_41 v0 v1 v2 v3 v4 v5 v6 v7 x3 n x4 w0 w1 w2 w3 w4 w5 w6 w7 c s = some r → WW E K c s (QQ E K (fun rv g => ∃ (y0 : Nat), rv = some (.ref y0) ∧ g = [wOwn E a0 (rf4 q1 q3 q5 q7) v0, wRO E q1 20 a2 v1, wRR E a2 v2, wRO E q3 12 a4 v3, wRR E a4 v4, wRO E q5 4 a6 v5, wRR E a6 v6, wArr E q7 4 v7, wArr E y0 6 r]) 20600 43000) 41 [(0, .ref (a0 0)), (1, .ref (d0 0)), (2, .ref d7), (3, .int x3), (4, .int x4)] [] [wOwn E a0 (rf4 q1 q3 q5 q7) v0, wRO E q1 20 a2 v1, wRR E a2 v2, wRO E q3 12 a4 v3, wRR E a4 v4, wRO E q5 4 a6 v5, wRR E a6 v6, wArr E q7 4 v7, wOwn E d0 (rf4 d1 d4 d6 d3) w0, wRO E d1 20 d2 w1, wRR E d2 w2, wArr E d3 4 w3, wRO E d4 12 d5 w4, wRR E d5 w5, wRO E d6 4 a6 w6, wArr E d7 6 w7] := by
  intro n
  induction n with
  | zero =>
    intro d0 d1 d2 d3 d4 d5 d6 d7 x4 w0 w1 w2 w3 w4 w5 w6 w7 c s hcs hf
    simp [Own_best_41] at hf
  | succ n ih =>
    intro d0 d1 d2 d3 d4 d5 d6 d7 x4 w0 w1 w2 w3 w4 w5 w6 w7 c s hcs hf
    rw [Own_best_41] at hf
    refine ww_iload C dX9_best_41 4 rfl ?_
    refine ww_iload_n C dX9_best_43 rfl 3 rfl ?_
    refine ww_icmp_ge (tgt := 205) C dX9_best_44 (by decide) (fun c_27 => ?_) (fun c_27 => ?_)
    · replace hf := ifT c_27 hf
      refine ww_aload_n C dX9_best_205 rfl 2 rfl ?_
      obtain rfl := Option.some.inj hf
      refine ww_drop (gs' := [wOwn E a0 (rf4 q1 q3 q5 q7) v0, wRO E q1 20 a2 v1, wRR E a2 v2, wRO E q3 12 a4 v3, wRR E a4 v4, wRO E q5 4 a6 v5, wRR E a6 v6, wArr E q7 4 v7, wArr E d7 6 w7]) [0, 1, 2, 3, 4, 5, 6, 7, 15] [8, 9, 10, 11, 12, 13, 14] 16 rfl (by decide) rfl ?_
      refine ww_widen (k := 20600) (n := 43000) hcs.1 hcs.2 ?_
      exact ww_aret C (Or.inr ⟨_, rfl⟩) ⟨_, rfl, rfl⟩ dX9_best_206
    · replace hf := ifF c_27 hf
      refine ww_iload C dX9_best_47 4 rfl ?_
      refine ww_istore (lv' := [(5, .int x4), (0, .ref (a0 0)), (1, .ref (d0 0)), (2, .ref d7), (3, .int x3), (4, .int x4)]) C dX9_best_49 (by decide) rfl ?_
      refine ww_aload_n C dX9_best_51 rfl 1 rfl ?_
      refine ww_get C clOK9 in_X9_best_X9 (w := wOwn E a0 (rf4 q1 q3 q5 q7) v0) (fs := fsOwn a0 (rf4 q1 q3 q5 q7) v0) (v := .int (Own_guards v0)) 0 0 2 rfl q_Own (by decide) (by decide +kernel) g_Own_guards dX9_best_52 ?_
      refine ww_iconst (v := 1) C dX9_best_55 (by decide) ?_
      refine ww_isub C dX9_best_56 ?_
      refine ww_topi (fun x6_57 e_x6_57 => ?_)
      replace hf := ltE e_x6_57 hf
      refine ww_istore (lv' := [(6, .int x6_57), (5, .int x4), (0, .ref (a0 0)), (1, .ref (d0 0)), (2, .ref d7), (3, .int x3), (4, .int x4)]) C dX9_best_57 (by decide) rfl ?_
      refine ww_sub C (lv' := [(0, .ref (a0 0)), (1, .ref (d0 0)), (2, .ref d7), (3, .int x3), (4, .int x4), (5, .int x4), (6, .int x6_57)]) [2, 3, 4, 5, 6, 1, 0] rfl ?_
      exact w_X9_best_59 C (k41 := (fun (x4 : Int32) (w0 : OwnV) (w1 : Nat) (w2 : RowsT) (w3 : Nat → Int32) (w4 : Nat) (w5 : RowsT) (w6 : Nat) (w7 : Nat → Int32) (c : Nat) (s : Nat) => Own_best_41 v0 v1 v2 v3 v4 v5 v6 v7 x3 n x4 w0 w1 w2 w3 w4 w5 w6 w7 c s)) ih FU _ _ _ _ _ _ _ _ _ _ _ _ _ _ _ _ _ _ _ _ hcs hf

set_option maxHeartbeats 4000000 in
set_option maxRecDepth 100000 in
theorem w_X9_best_148c41z2 {E : Ex} {K : Kx} (C : Cx E K cX9_best 8 (some (.array .int)) RX9 wsX9_best rmX9_best) {a0 : Nat → Nat} {q1 : Nat} {a2 : Nat → Nat} {q3 : Nat} {a4 : Nat → Nat} {q5 : Nat} {a6 : Nat → Nat} {q7 : Nat} {v0 : OwnV} {v1 : Nat} {v2 : RowsT} {v3 : Nat} {v4 : RowsT} {v5 : Nat} {v6 : RowsT} {v7 : Nat → Int32}  {d0 : Nat → Nat} {d1 : Nat} {d2 : Nat → Nat} {d3 : Nat} {d4 : Nat} {d5 : Nat → Nat} {d6 : Nat} {x3 : Int32} {x4 : Int32} {x6 : Int32} {x7 : Int32} {w0 : OwnV} {w1 : Nat} {w2 : RowsT} {w3 : Nat → Int32} {w4 : Nat} {w5 : RowsT} {w6 : Nat} {c : Nat} {s : Nat} {k41z2 : Int32 → OwnV → Nat → RowsT → (Nat → Int32) → Nat → RowsT → Nat → Nat → Nat → Option (Nat → Int32)} {r : (Nat → Int32)} (hk41z2 : ∀ (d0 : Nat → Nat) (d1 : Nat) (d2 : Nat → Nat) (d3 : Nat) (d4 : Nat) (d5 : Nat → Nat) (d6 : Nat) (x4 : Int32) (w0 : OwnV) (w1 : Nat) (w2 : RowsT) (w3 : Nat → Int32) (w4 : Nat) (w5 : RowsT) (w6 : Nat) (c : Nat) (s : Nat), c ≤ 20600 ∧ s ≤ 43000 → k41z2 x4 w0 w1 w2 w3 w4 w5 w6 c s = some r → WW E K c s (QQ E K (fun rv g => ∃ (y0 : Nat), rv = some (.ref y0) ∧ g = [wOwn E a0 (rf4 q1 q3 q5 q7) v0, wRO E q1 20 a2 v1, wRR E a2 v2, wRO E q3 12 a4 v3, wRR E a4 v4, wRO E q5 4 a6 v5, wRR E a6 v6, wArr E q7 4 v7, wArr E y0 6 r]) 20600 43000) 41 [(0, .ref (a0 0)), (1, .ref (d0 0)), (2, .null), (3, .int x3), (4, .int x4)] [] [wOwn E a0 (rf4 q1 q3 q5 q7) v0, wRO E q1 20 a2 v1, wRR E a2 v2, wRO E q3 12 a4 v3, wRR E a4 v4, wRO E q5 4 a6 v5, wRR E a6 v6, wArr E q7 4 v7, wOwn E d0 (rf4 d1 d4 d6 d3) w0, wRO E d1 20 d2 w1, wRR E d2 w2, wArr E d3 4 w3, wRO E d4 12 d5 w4, wRR E d5 w5, wRO E d6 4 a6 w6]) (hcs : c ≤ 20600 ∧ s ≤ 43000) (hf : Own_best_148c41z2 v0 v1 v2 v3 v4 v5 v6 v7 k41z2 x3 x4 x6 x7 w0 w1 w2 w3 w4 w5 w6 c s = some r) : WW E K c s (QQ E K (fun rv g => ∃ (y0 : Nat), rv = some (.ref y0) ∧ g = [wOwn E a0 (rf4 q1 q3 q5 q7) v0, wRO E q1 20 a2 v1, wRR E a2 v2, wRO E q3 12 a4 v3, wRR E a4 v4, wRO E q5 4 a6 v5, wRR E a6 v6, wArr E q7 4 v7, wArr E y0 6 r]) 20600 43000) 148 [(0, .ref (a0 0)), (1, .ref (d0 0)), (3, .int x3), (4, .int x4), (6, .int x6), (7, .int x7)] [] [wOwn E a0 (rf4 q1 q3 q5 q7) v0, wRO E q1 20 a2 v1, wRR E a2 v2, wRO E q3 12 a4 v3, wRR E a4 v4, wRO E q5 4 a6 v5, wRR E a6 v6, wArr E q7 4 v7, wOwn E d0 (rf4 d1 d4 d6 d3) w0, wRO E d1 20 d2 w1, wRR E d2 w2, wArr E d3 4 w3, wRO E d4 12 d5 w4, wRR E d5 w5, wRO E d6 4 a6 w6] := by
  rw [Own_best_148c41z2] at hf
  refine ww_bipush (v := 6) C dX9_best_148 (by decide) ?_
  obtain ⟨g_16, hf⟩ := gdE hf
  refine ww_newi C (by decide +kernel) 6 (by decide) (by decide) (by decide) (of_decide_eq_true g_16) dX9_best_150 (fun q150 => ?_)
  refine ww_eq (gs' := [wOwn E a0 (rf4 q1 q3 q5 q7) v0, wRO E q1 20 a2 v1, wRR E a2 v2, wRO E q3 12 a4 v3, wRR E a4 v4, wRO E q5 4 a6 v5, wRR E a6 v6, wArr E q7 4 v7, wOwn E d0 (rf4 d1 d4 d6 d3) w0, wRO E d1 20 d2 w1, wRR E d2 w2, wArr E d3 4 w3, wRO E d4 12 d5 w4, wRR E d5 w5, wRO E d6 4 a6 w6, wArr E q150 6 (fun _ => 0)]) rfl ?_
  refine ww_dup C dX9_best_152 rfl ?_
  refine ww_iconst (v := 0) C dX9_best_153 (by decide) ?_
  refine ww_iload C dX9_best_154 4 rfl ?_
  obtain ⟨g_17, hf⟩ := gdE hf
  obtain ⟨v15_156, e_v15_156⟩ : ∃ y : Nat → Int32, y = upd (fun _ => 0) (Int32.toNatClampNeg 0) x6 := ⟨_, rfl⟩
  replace hf := ltE e_v15_156 hf
  refine ww_iast C (f := (fun _ => 0)) (w := wArr E q150 6 (fun _ => 0)) (w' := wArr E q150 6 v15_156) (gs' := [wOwn E a0 (rf4 q1 q3 q5 q7) v0, wRO E q1 20 a2 v1, wRR E a2 v2, wRO E q3 12 a4 v3, wRR E a4 v4, wRO E q5 4 a6 v5, wRR E a6 v6, wArr E q7 4 v7, wOwn E d0 (rf4 d1 d4 d6 d3) w0, wRO E d1 20 d2 w1, wRR E d2 w2, wArr E d3 4 w3, wRO E d4 12 d5 w4, wRR E d5 w5, wRO E d6 4 a6 w6, wArr E q150 6 v15_156]) 15 0 rfl q_Arr (inB_vp g_17) (by rw [e_v15_156]; exact s_Arr) rfl dX9_best_156 ?_
  refine ww_dup C dX9_best_157 rfl ?_
  refine ww_iconst (v := 1) C dX9_best_158 (by decide) ?_
  refine ww_iload C dX9_best_159 5 rfl ?_
  obtain ⟨g_18, hf⟩ := gdE hf
  obtain ⟨v15_161, e_v15_161⟩ : ∃ y : Nat → Int32, y = upd v15_156 (Int32.toNatClampNeg 1) x7 := ⟨_, rfl⟩
  replace hf := ltE e_v15_161 hf
  refine ww_iast C (f := v15_156) (w := wArr E q150 6 v15_156) (w' := wArr E q150 6 v15_161) (gs' := [wOwn E a0 (rf4 q1 q3 q5 q7) v0, wRO E q1 20 a2 v1, wRR E a2 v2, wRO E q3 12 a4 v3, wRR E a4 v4, wRO E q5 4 a6 v5, wRR E a6 v6, wArr E q7 4 v7, wOwn E d0 (rf4 d1 d4 d6 d3) w0, wRO E d1 20 d2 w1, wRR E d2 w2, wArr E d3 4 w3, wRO E d4 12 d5 w4, wRR E d5 w5, wRO E d6 4 a6 w6, wArr E q150 6 v15_161]) 15 0 rfl q_Arr (inB_vp g_18) (by rw [e_v15_161]; exact s_Arr) rfl dX9_best_161 ?_
  refine ww_dup C dX9_best_162 rfl ?_
  refine ww_iconst (v := 2) C dX9_best_163 (by decide) ?_
  refine ww_aload_n C dX9_best_164 rfl 1 rfl ?_
  refine ww_get C clOK9 in_X9_best_X9 (w := wOwn E d0 (rf4 d1 d4 d6 d3) w0) (fs := fsOwn d0 (rf4 d1 d4 d6 d3) w0) (v := .ref d3) 8 0 7 rfl q_Own (by decide) (by decide +kernel) g_Own_phase dX9_best_165 ?_
  refine ww_iconst (v := 0) C dX9_best_168 (by decide) ?_
  obtain ⟨g_19, hf⟩ := gdE hf
  refine ww_iald C (f := w3) (w := wArr E d3 4 w3) 11 0 rfl q_Arr (inB_vp g_19) dX9_best_169 ?_
  obtain ⟨g_20, hf⟩ := gdE hf
  obtain ⟨v15_170, e_v15_170⟩ : ∃ y : Nat → Int32, y = upd v15_161 (Int32.toNatClampNeg 2) (w3 (Int32.toNatClampNeg 0)) := ⟨_, rfl⟩
  replace hf := ltE e_v15_170 hf
  refine ww_iast C (f := v15_161) (w := wArr E q150 6 v15_161) (w' := wArr E q150 6 v15_170) (gs' := [wOwn E a0 (rf4 q1 q3 q5 q7) v0, wRO E q1 20 a2 v1, wRR E a2 v2, wRO E q3 12 a4 v3, wRR E a4 v4, wRO E q5 4 a6 v5, wRR E a6 v6, wArr E q7 4 v7, wOwn E d0 (rf4 d1 d4 d6 d3) w0, wRO E d1 20 d2 w1, wRR E d2 w2, wArr E d3 4 w3, wRO E d4 12 d5 w4, wRR E d5 w5, wRO E d6 4 a6 w6, wArr E q150 6 v15_170]) 15 0 rfl q_Arr (inB_vp g_20) (by rw [e_v15_170]; exact s_Arr) rfl dX9_best_170 ?_
  refine ww_dup C dX9_best_171 rfl ?_
  refine ww_iconst (v := 3) C dX9_best_172 (by decide) ?_
  refine ww_aload_n C dX9_best_173 rfl 1 rfl ?_
  refine ww_get C clOK9 in_X9_best_X9 (w := wOwn E d0 (rf4 d1 d4 d6 d3) w0) (fs := fsOwn d0 (rf4 d1 d4 d6 d3) w0) (v := .ref d3) 8 0 7 rfl q_Own (by decide) (by decide +kernel) g_Own_phase dX9_best_174 ?_
  refine ww_iconst (v := 1) C dX9_best_177 (by decide) ?_
  obtain ⟨g_21, hf⟩ := gdE hf
  refine ww_iald C (f := w3) (w := wArr E d3 4 w3) 11 0 rfl q_Arr (inB_vp g_21) dX9_best_178 ?_
  obtain ⟨g_22, hf⟩ := gdE hf
  obtain ⟨v15_179, e_v15_179⟩ : ∃ y : Nat → Int32, y = upd v15_170 (Int32.toNatClampNeg 3) (w3 (Int32.toNatClampNeg 1)) := ⟨_, rfl⟩
  replace hf := ltE e_v15_179 hf
  refine ww_iast C (f := v15_170) (w := wArr E q150 6 v15_170) (w' := wArr E q150 6 v15_179) (gs' := [wOwn E a0 (rf4 q1 q3 q5 q7) v0, wRO E q1 20 a2 v1, wRR E a2 v2, wRO E q3 12 a4 v3, wRR E a4 v4, wRO E q5 4 a6 v5, wRR E a6 v6, wArr E q7 4 v7, wOwn E d0 (rf4 d1 d4 d6 d3) w0, wRO E d1 20 d2 w1, wRR E d2 w2, wArr E d3 4 w3, wRO E d4 12 d5 w4, wRR E d5 w5, wRO E d6 4 a6 w6, wArr E q150 6 v15_179]) 15 0 rfl q_Arr (inB_vp g_22) (by rw [e_v15_179]; exact s_Arr) rfl dX9_best_179 ?_
  refine ww_dup C dX9_best_180 rfl ?_
  refine ww_iconst (v := 4) C dX9_best_181 (by decide) ?_
  refine ww_aload_n C dX9_best_182 rfl 1 rfl ?_
  refine ww_get C clOK9 in_X9_best_X9 (w := wOwn E d0 (rf4 d1 d4 d6 d3) w0) (fs := fsOwn d0 (rf4 d1 d4 d6 d3) w0) (v := .ref d3) 8 0 7 rfl q_Own (by decide) (by decide +kernel) g_Own_phase dX9_best_183 ?_
  refine ww_iconst (v := 2) C dX9_best_186 (by decide) ?_
  obtain ⟨g_23, hf⟩ := gdE hf
  refine ww_iald C (f := w3) (w := wArr E d3 4 w3) 11 0 rfl q_Arr (inB_vp g_23) dX9_best_187 ?_
  obtain ⟨g_24, hf⟩ := gdE hf
  obtain ⟨v15_188, e_v15_188⟩ : ∃ y : Nat → Int32, y = upd v15_179 (Int32.toNatClampNeg 4) (w3 (Int32.toNatClampNeg 2)) := ⟨_, rfl⟩
  replace hf := ltE e_v15_188 hf
  refine ww_iast C (f := v15_179) (w := wArr E q150 6 v15_179) (w' := wArr E q150 6 v15_188) (gs' := [wOwn E a0 (rf4 q1 q3 q5 q7) v0, wRO E q1 20 a2 v1, wRR E a2 v2, wRO E q3 12 a4 v3, wRR E a4 v4, wRO E q5 4 a6 v5, wRR E a6 v6, wArr E q7 4 v7, wOwn E d0 (rf4 d1 d4 d6 d3) w0, wRO E d1 20 d2 w1, wRR E d2 w2, wArr E d3 4 w3, wRO E d4 12 d5 w4, wRR E d5 w5, wRO E d6 4 a6 w6, wArr E q150 6 v15_188]) 15 0 rfl q_Arr (inB_vp g_24) (by rw [e_v15_188]; exact s_Arr) rfl dX9_best_188 ?_
  refine ww_dup C dX9_best_189 rfl ?_
  refine ww_iconst (v := 5) C dX9_best_190 (by decide) ?_
  refine ww_aload_n C dX9_best_191 rfl 1 rfl ?_
  refine ww_get C clOK9 in_X9_best_X9 (w := wOwn E d0 (rf4 d1 d4 d6 d3) w0) (fs := fsOwn d0 (rf4 d1 d4 d6 d3) w0) (v := .ref d3) 8 0 7 rfl q_Own (by decide) (by decide +kernel) g_Own_phase dX9_best_192 ?_
  refine ww_iconst (v := 3) C dX9_best_195 (by decide) ?_
  obtain ⟨g_25, hf⟩ := gdE hf
  refine ww_iald C (f := w3) (w := wArr E d3 4 w3) 11 0 rfl q_Arr (inB_vp g_25) dX9_best_196 ?_
  obtain ⟨g_26, hf⟩ := gdE hf
  obtain ⟨v15_197, e_v15_197⟩ : ∃ y : Nat → Int32, y = upd v15_188 (Int32.toNatClampNeg 5) (w3 (Int32.toNatClampNeg 3)) := ⟨_, rfl⟩
  replace hf := ltE e_v15_197 hf
  refine ww_iast C (f := v15_188) (w := wArr E q150 6 v15_188) (w' := wArr E q150 6 v15_197) (gs' := [wOwn E a0 (rf4 q1 q3 q5 q7) v0, wRO E q1 20 a2 v1, wRR E a2 v2, wRO E q3 12 a4 v3, wRR E a4 v4, wRO E q5 4 a6 v5, wRR E a6 v6, wArr E q7 4 v7, wOwn E d0 (rf4 d1 d4 d6 d3) w0, wRO E d1 20 d2 w1, wRR E d2 w2, wArr E d3 4 w3, wRO E d4 12 d5 w4, wRR E d5 w5, wRO E d6 4 a6 w6, wArr E q150 6 v15_197]) 15 0 rfl q_Arr (inB_vp g_26) (by rw [e_v15_197]; exact s_Arr) rfl dX9_best_197 ?_
  refine ww_astore_n (lv' := [(2, .ref q150), (0, .ref (a0 0)), (1, .ref (d0 0)), (3, .int x3), (4, .int x4), (6, .int x6), (7, .int x7)]) C dX9_best_198 rfl (by decide) rfl ?_
  obtain ⟨x4_199, e_x4_199⟩ : ∃ y : Int32, y = x4 + 1 := ⟨_, rfl⟩
  replace hf := ltE e_x4_199 hf
  refine ww_iinc (v := x4_199) (lv' := [(4, .int x4_199), (2, .ref q150), (0, .ref (a0 0)), (1, .ref (d0 0)), (3, .int x3), (6, .int x6), (7, .int x7)]) C dX9_best_199 4 rfl (by rw [e_x4_199]; rfl) (by decide) rfl ?_
  refine ww_goto (tgt := 41) C dX9_best_202 (by decide) ?_
  refine ww_sub C (lv' := [(0, .ref (a0 0)), (1, .ref (d0 0)), (2, .ref q150), (3, .int x3), (4, .int x4_199)]) [2, 3, 1, 4, 0] rfl ?_
  exact w_X9_best_41 C FU _ _ _ _ _ _ _ _ _ _ _ _ _ _ _ _ _ _ _ (of_decide_eq_true g_16) hf

set_option maxHeartbeats 4000000 in
set_option maxRecDepth 100000 in
theorem w_X9_best_122z2c41z2 {E : Ex} {K : Kx} (C : Cx E K cX9_best 8 (some (.array .int)) RX9 wsX9_best rmX9_best) {a0 : Nat → Nat} {q1 : Nat} {a2 : Nat → Nat} {q3 : Nat} {a4 : Nat → Nat} {q5 : Nat} {a6 : Nat → Nat} {q7 : Nat} {v0 : OwnV} {v1 : Nat} {v2 : RowsT} {v3 : Nat} {v4 : RowsT} {v5 : Nat} {v6 : RowsT} {v7 : Nat → Int32}  {d0 : Nat → Nat} {d1 : Nat} {d2 : Nat → Nat} {d3 : Nat} {d4 : Nat} {d5 : Nat → Nat} {d6 : Nat} {x3 : Int32} {x4 : Int32} {x6 : Int32} {w0 : OwnV} {w1 : Nat} {w2 : RowsT} {w3 : Nat → Int32} {w4 : Nat} {w5 : RowsT} {w6 : Nat} {c : Nat} {s : Nat} {k41z2 : Int32 → OwnV → Nat → RowsT → (Nat → Int32) → Nat → RowsT → Nat → Nat → Nat → Option (Nat → Int32)} {r : (Nat → Int32)} (hk41z2 : ∀ (d0 : Nat → Nat) (d1 : Nat) (d2 : Nat → Nat) (d3 : Nat) (d4 : Nat) (d5 : Nat → Nat) (d6 : Nat) (x4 : Int32) (w0 : OwnV) (w1 : Nat) (w2 : RowsT) (w3 : Nat → Int32) (w4 : Nat) (w5 : RowsT) (w6 : Nat) (c : Nat) (s : Nat), c ≤ 20600 ∧ s ≤ 43000 → k41z2 x4 w0 w1 w2 w3 w4 w5 w6 c s = some r → WW E K c s (QQ E K (fun rv g => ∃ (y0 : Nat), rv = some (.ref y0) ∧ g = [wOwn E a0 (rf4 q1 q3 q5 q7) v0, wRO E q1 20 a2 v1, wRR E a2 v2, wRO E q3 12 a4 v3, wRR E a4 v4, wRO E q5 4 a6 v5, wRR E a6 v6, wArr E q7 4 v7, wArr E y0 6 r]) 20600 43000) 41 [(0, .ref (a0 0)), (1, .ref (d0 0)), (2, .null), (3, .int x3), (4, .int x4)] [] [wOwn E a0 (rf4 q1 q3 q5 q7) v0, wRO E q1 20 a2 v1, wRR E a2 v2, wRO E q3 12 a4 v3, wRR E a4 v4, wRO E q5 4 a6 v5, wRR E a6 v6, wArr E q7 4 v7, wOwn E d0 (rf4 d1 d4 d6 d3) w0, wRO E d1 20 d2 w1, wRR E d2 w2, wArr E d3 4 w3, wRO E d4 12 d5 w4, wRR E d5 w5, wRO E d6 4 a6 w6]) (hcs : c ≤ 20600 ∧ s ≤ 43000) (hf : Own_best_122z2c41z2 v0 v1 v2 v3 v4 v5 v6 v7 k41z2 x3 x4 x6 w0 w1 w2 w3 w4 w5 w6 c s = some r) : WW E K c s (QQ E K (fun rv g => ∃ (y0 : Nat), rv = some (.ref y0) ∧ g = [wOwn E a0 (rf4 q1 q3 q5 q7) v0, wRO E q1 20 a2 v1, wRR E a2 v2, wRO E q3 12 a4 v3, wRR E a4 v4, wRO E q5 4 a6 v5, wRR E a6 v6, wArr E q7 4 v7, wArr E y0 6 r]) 20600 43000) 122 [(0, .ref (a0 0)), (1, .ref (d0 0)), (2, .null), (3, .int x3), (4, .int x4), (6, .int x6)] [] [wOwn E a0 (rf4 q1 q3 q5 q7) v0, wRO E q1 20 a2 v1, wRR E a2 v2, wRO E q3 12 a4 v3, wRR E a4 v4, wRO E q5 4 a6 v5, wRR E a6 v6, wArr E q7 4 v7, wOwn E d0 (rf4 d1 d4 d6 d3) w0, wRO E d1 20 d2 w1, wRR E d2 w2, wArr E d3 4 w3, wRO E d4 12 d5 w4, wRR E d5 w5, wRO E d6 4 a6 w6] := by
  rw [Own_best_122z2c41z2] at hf
  refine ww_aload_n C dX9_best_122 rfl 1 rfl ?_
  obtain ⟨p123, hp123, hf⟩ := bdE hf
  refine ww_callV C (As := []) (st := []) (gr := [wOwn E a0 (rf4 q1 q3 q5 q7) v0, wRO E q1 20 a2 v1, wRR E a2 v2, wRO E q3 12 a4 v3, wRR E a4 v4, wRO E q5 4 a6 v5, wArr E q7 4 v7, wRO E d1 20 d2 w1, wRR E d2 w2, wRO E d4 12 d5 w4, wRR E d5 w5]) (c_X9_crossings (E := E) (a0 := d0) (h0_0 := d1) (h0_1 := d4) (q1 := d6) (a2 := a6) (q3 := d3) hp123) gX9_best_X9_crossings rfl yk_X9_crossings ⟨by decide, Nat.le_of_ble_eq_true rfl⟩ hcs clOK9 0 0 rfl rfl [8, 14, 6, 11] [0, 1, 2, 3, 4, 5, 7, 9, 10, 12, 13] 15 rfl (by decide) rfl rfl (Nat.le_of_ble_eq_true rfl) dX9_best_123 ?_
  rintro _ _ ⟨rfl, rfl⟩
  refine ww_perm (gs' := [wOwn E a0 (rf4 q1 q3 q5 q7) v0, wRO E q1 20 a2 v1, wRR E a2 v2, wRO E q3 12 a4 v3, wRR E a4 v4, wRO E q5 4 a6 v5, wRR E a6 v6, wArr E q7 4 v7, wOwn E d0 (rf4 d1 d4 d6 d3) w0, wRO E d1 20 d2 w1, wRR E d2 w2, wArr E d3 4 w3, wRO E d4 12 d5 w4, wRR E d5 w5, wRO E d6 4 a6 w6]) [4, 5, 6, 7, 8, 9, 2, 10, 0, 11, 12, 3, 13, 14, 1] 15 rfl (by decide) rfl ?_
  refine ww_istore (lv' := [(7, .int p123), (0, .ref (a0 0)), (1, .ref (d0 0)), (2, .null), (3, .int x3), (4, .int x4), (6, .int x6)]) C dX9_best_126 (by decide) rfl ?_
  refine ww_nload_n C dX9_best_128 rfl 3 rfl ?_
  refine ww_isnull (tgt := 148) C dX9_best_129 (by decide) ?_
  refine ww_sub C (lv' := [(0, .ref (a0 0)), (1, .ref (d0 0)), (3, .int x3), (4, .int x4), (6, .int x6), (7, .int p123)]) [1, 2, 4, 5, 6, 0] rfl ?_
  exact w_X9_best_148c41z2 C (k41z2 := k41z2) hk41z2 hcs hf

set_option maxHeartbeats 4000000 in
set_option maxRecDepth 100000 in
theorem w_X9_best_59z2c41z2 {E : Ex} {K : Kx} (C : Cx E K cX9_best 8 (some (.array .int)) RX9 wsX9_best rmX9_best) {a0 : Nat → Nat} {q1 : Nat} {a2 : Nat → Nat} {q3 : Nat} {a4 : Nat → Nat} {q5 : Nat} {a6 : Nat → Nat} {q7 : Nat} {v0 : OwnV} {v1 : Nat} {v2 : RowsT} {v3 : Nat} {v4 : RowsT} {v5 : Nat} {v6 : RowsT} {v7 : Nat → Int32} {x3 : Int32} {x4 : Int32} {k41z2 : Int32 → OwnV → Nat → RowsT → (Nat → Int32) → Nat → RowsT → Nat → Nat → Nat → Option (Nat → Int32)} {r : (Nat → Int32)} (hk41z2 : ∀ (d0 : Nat → Nat) (d1 : Nat) (d2 : Nat → Nat) (d3 : Nat) (d4 : Nat) (d5 : Nat → Nat) (d6 : Nat) (x4 : Int32) (w0 : OwnV) (w1 : Nat) (w2 : RowsT) (w3 : Nat → Int32) (w4 : Nat) (w5 : RowsT) (w6 : Nat) (c : Nat) (s : Nat), c ≤ 20600 ∧ s ≤ 43000 → k41z2 x4 w0 w1 w2 w3 w4 w5 w6 c s = some r → WW E K c s (QQ E K (fun rv g => ∃ (y0 : Nat), rv = some (.ref y0) ∧ g = [wOwn E a0 (rf4 q1 q3 q5 q7) v0, wRO E q1 20 a2 v1, wRR E a2 v2, wRO E q3 12 a4 v3, wRR E a4 v4, wRO E q5 4 a6 v5, wRR E a6 v6, wArr E q7 4 v7, wArr E y0 6 r]) 20600 43000) 41 [(0, .ref (a0 0)), (1, .ref (d0 0)), (2, .null), (3, .int x3), (4, .int x4)] [] [wOwn E a0 (rf4 q1 q3 q5 q7) v0, wRO E q1 20 a2 v1, wRR E a2 v2, wRO E q3 12 a4 v3, wRR E a4 v4, wRO E q5 4 a6 v5, wRR E a6 v6, wArr E q7 4 v7, wOwn E d0 (rf4 d1 d4 d6 d3) w0, wRO E d1 20 d2 w1, wRR E d2 w2, wArr E d3 4 w3, wRO E d4 12 d5 w4, wRR E d5 w5, wRO E d6 4 a6 w6]) : ∀ (n : Nat) (d0 : Nat → Nat) (d1 : Nat) (d2 : Nat → Nat) (d3 : Nat) (d4 : Nat) (d5 : Nat → Nat) (d6 : Nat) (x5 : Int32) (x6 : Int32) (w0 : OwnV) (w1 : Nat) (w2 : RowsT) (w3 : Nat → Int32) (w4 : Nat) (w5 : RowsT) (w6 : Nat) (c : Nat) (s : Nat), c ≤ 20600 ∧ s ≤ 43000 → Own_best_59z2c41z2 v0 v1 v2 v3 v4 v5 v6 v7 x3 x4 k41z2 n x5 x6 w0 w1 w2 w3 w4 w5 w6 c s = some r → WW E K c s (QQ E K (fun rv g => ∃ (y0 : Nat), rv = some (.ref y0) ∧ g = [wOwn E a0 (rf4 q1 q3 q5 q7) v0, wRO E q1 20 a2 v1, wRR E a2 v2, wRO E q3 12 a4 v3, wRR E a4 v4, wRO E q5 4 a6 v5, wRR E a6 v6, wArr E q7 4 v7, wArr E y0 6 r]) 20600 43000) 59 [(0, .ref (a0 0)), (1, .ref (d0 0)), (2, .null), (3, .int x3), (4, .int x4), (5, .int x5), (6, .int x6)] [] [wOwn E a0 (rf4 q1 q3 q5 q7) v0, wRO E q1 20 a2 v1, wRR E a2 v2, wRO E q3 12 a4 v3, wRR E a4 v4, wRO E q5 4 a6 v5, wRR E a6 v6, wArr E q7 4 v7, wOwn E d0 (rf4 d1 d4 d6 d3) w0, wRO E d1 20 d2 w1, wRR E d2 w2, wArr E d3 4 w3, wRO E d4 12 d5 w4, wRR E d5 w5, wRO E d6 4 a6 w6] := by
  intro n
  induction n with
  | zero =>
    intro d0 d1 d2 d3 d4 d5 d6 x5 x6 w0 w1 w2 w3 w4 w5 w6 c s hcs hf
    simp [Own_best_59z2c41z2] at hf
  | succ n ih =>
    intro d0 d1 d2 d3 d4 d5 d6 x5 x6 w0 w1 w2 w3 w4 w5 w6 c s hcs hf
    rw [Own_best_59z2c41z2] at hf
    refine ww_iload C dX9_best_59 6 rfl ?_
    refine ww_if_lt (tgt := 101) C dX9_best_61 (by decide) (fun c_9 => ?_) (fun c_9 => ?_)
    · replace hf := ifT c_9 hf
      refine ww_aload_n C dX9_best_101 rfl 1 rfl ?_
      obtain ⟨g_10, hf⟩ := gdE hf
      obtain ⟨p102, hp102, hf⟩ := bdE hf
      refine ww_callV C (As := []) (st := []) (gr := [wOwn E a0 (rf4 q1 q3 q5 q7) v0, wRO E q1 20 a2 v1, wRR E a2 v2, wRO E q3 12 a4 v3, wRR E a4 v4, wRO E q5 4 a6 v5, wArr E q7 4 v7, wRO E d1 20 d2 w1, wRR E d2 w2, wRO E d4 12 d5 w4, wRR E d5 w5]) (c_X9_worst (E := E) (a0 := d0) (h0_0 := d1) (h0_1 := d4) (q1 := d6) (a2 := a6) (q3 := d3) hp102) gX9_best_X9_worst rfl yk_X9_worst ⟨by decide, Nat.le_of_ble_eq_true rfl⟩ (of_decide_eq_true g_10) clOK9 0 0 rfl rfl [8, 14, 6, 11] [0, 1, 2, 3, 4, 5, 7, 9, 10, 12, 13] 15 rfl (by decide) rfl rfl (Nat.le_of_ble_eq_true rfl) dX9_best_102 ?_
      rintro _ _ ⟨rfl, rfl⟩
      refine ww_perm (gs' := [wOwn E a0 (rf4 q1 q3 q5 q7) v0, wRO E q1 20 a2 v1, wRR E a2 v2, wRO E q3 12 a4 v3, wRR E a4 v4, wRO E q5 4 a6 v5, wRR E a6 v6, wArr E q7 4 v7, wOwn E d0 (rf4 d1 d4 d6 d3) w0, wRO E d1 20 d2 w1, wRR E d2 w2, wArr E d3 4 w3, wRO E d4 12 d5 w4, wRR E d5 w5, wRO E d6 4 a6 w6]) [4, 5, 6, 7, 8, 9, 2, 10, 0, 11, 12, 3, 13, 14, 1] 15 rfl (by decide) rfl ?_
      refine ww_istore (lv' := [(6, .int p102), (0, .ref (a0 0)), (1, .ref (d0 0)), (2, .null), (3, .int x3), (4, .int x4), (5, .int x5)]) C dX9_best_105 (by decide) rfl ?_
      refine ww_nload_n C dX9_best_107 rfl 3 rfl ?_
      refine ww_isnull (tgt := 122) C dX9_best_108 (by decide) ?_
      refine ww_sub C (lv' := [(0, .ref (a0 0)), (1, .ref (d0 0)), (2, .null), (3, .int x3), (4, .int x4), (6, .int p102)]) [1, 2, 3, 4, 5, 0] rfl ?_
      exact w_X9_best_122z2c41z2 C (k41z2 := k41z2) hk41z2 (of_decide_eq_true g_10) hf
    · replace hf := ifF c_9 hf
      refine ww_aload_n C dX9_best_64 rfl 1 rfl ?_
      refine ww_get C clOK9 in_X9_best_X9 (w := wOwn E d0 (rf4 d1 d4 d6 d3) w0) (fs := fsOwn d0 (rf4 d1 d4 d6 d3) w0) (v := .ref d3) 8 0 7 rfl q_Own (by decide) (by decide +kernel) g_Own_phase dX9_best_65 ?_
      refine ww_iload C dX9_best_68 6 rfl ?_
      refine ww_iload C dX9_best_70 5 rfl ?_
      refine ww_aload_n C dX9_best_72 rfl 0 rfl ?_
      refine ww_get C clOK9 in_X9_best_X9 (w := wOwn E a0 (rf4 q1 q3 q5 q7) v0) (fs := fsOwn a0 (rf4 q1 q3 q5 q7) v0) (v := .ref q5) 0 0 6 rfl q_Own (by decide) (by decide +kernel) g_Own_walk dX9_best_73 ?_
      refine ww_iload C dX9_best_76 6 rfl ?_
      obtain ⟨g_11, hf⟩ := gdE hf
      obtain ⟨g_12, hf⟩ := gdE hf
      refine ww_aldR C (f := roF a6 v5) (w := wRO E q5 4 a6 v5) 5 0 rfl q_RO (inB_vp g_11) (roF_at (of_decide_eq_true g_12)) dX9_best_78 ?_
      obtain ⟨g_13, hf⟩ := gdE hf
      refine ww_alen C (v := nI (v6.2.1 (Int32.toNatClampNeg x6))) (w := wRR E a6 v6) 6 (Int32.toNatClampNeg x6) rfl (q_RR (of_decide_eq_true g_13)) rfl dX9_best_79 ?_
      obtain ⟨g_14, hf⟩ := gdE hf
      refine ww_irem C dX9_best_80 (nz_ne g_14) ?_
      obtain ⟨v11_81, e_v11_81⟩ : ∃ y : Nat → Int32, y = upd w3 (Int32.toNatClampNeg x6) (x5 - x5 / (nI (v6.2.1 (Int32.toNatClampNeg x6))) * (nI (v6.2.1 (Int32.toNatClampNeg x6)))) := ⟨_, rfl⟩
      replace hf := ltE e_v11_81 hf
      refine ww_iast C (f := w3) (w := wArr E d3 4 w3) (w' := wArr E d3 4 v11_81) (gs' := [wOwn E a0 (rf4 q1 q3 q5 q7) v0, wRO E q1 20 a2 v1, wRR E a2 v2, wRO E q3 12 a4 v3, wRR E a4 v4, wRO E q5 4 a6 v5, wRR E a6 v6, wArr E q7 4 v7, wOwn E d0 (rf4 d1 d4 d6 d3) w0, wRO E d1 20 d2 w1, wRR E d2 w2, wArr E d3 4 v11_81, wRO E d4 12 d5 w4, wRR E d5 w5, wRO E d6 4 a6 w6]) 11 0 rfl q_Arr (inB_vp g_11) (by rw [e_v11_81]; exact s_Arr) rfl dX9_best_81 ?_
      refine ww_iload C dX9_best_82 5 rfl ?_
      refine ww_aload_n C dX9_best_84 rfl 0 rfl ?_
      refine ww_get C clOK9 in_X9_best_X9 (w := wOwn E a0 (rf4 q1 q3 q5 q7) v0) (fs := fsOwn a0 (rf4 q1 q3 q5 q7) v0) (v := .ref q5) 0 0 6 rfl q_Own (by decide) (by decide +kernel) g_Own_walk dX9_best_85 ?_
      refine ww_iload C dX9_best_88 6 rfl ?_
      refine ww_aldR C (f := roF a6 v5) (w := wRO E q5 4 a6 v5) 5 0 rfl q_RO (inB_vp g_11) (roF_at (of_decide_eq_true g_12)) dX9_best_90 ?_
      refine ww_alen C (v := nI (v6.2.1 (Int32.toNatClampNeg x6))) (w := wRR E a6 v6) 6 (Int32.toNatClampNeg x6) rfl (q_RR (of_decide_eq_true g_13)) rfl dX9_best_91 ?_
      refine ww_idiv C dX9_best_92 (nz_ne g_14) ?_
      refine ww_topi (fun x5_93 e_x5_93 => ?_)
      replace hf := ltE e_x5_93 hf
      refine ww_istore (lv' := [(5, .int x5_93), (0, .ref (a0 0)), (1, .ref (d0 0)), (2, .null), (3, .int x3), (4, .int x4), (6, .int x6)]) C dX9_best_93 (by decide) rfl ?_
      obtain ⟨x6_95, e_x6_95⟩ : ∃ y : Int32, y = x6 + (-1) := ⟨_, rfl⟩
      replace hf := ltE e_x6_95 hf
      refine ww_iinc (v := x6_95) (lv' := [(6, .int x6_95), (5, .int x5_93), (0, .ref (a0 0)), (1, .ref (d0 0)), (2, .null), (3, .int x3), (4, .int x4)]) C dX9_best_95 6 rfl (by rw [e_x6_95]; rfl) (by decide) rfl ?_
      refine ww_goto (tgt := 59) C dX9_best_98 (by decide) ?_
      refine ww_sub C (lv' := [(0, .ref (a0 0)), (1, .ref (d0 0)), (2, .null), (3, .int x3), (4, .int x4), (5, .int x5_93), (6, .int x6_95)]) [2, 3, 4, 5, 6, 1, 0] rfl ?_
      exact ih _ _ _ _ _ _ _ _ _ _ _ _ _ _ _ _ _ _ hcs hf

set_option maxHeartbeats 4000000 in
set_option maxRecDepth 100000 in
theorem w_X9_best_41z2 {E : Ex} {K : Kx} (C : Cx E K cX9_best 8 (some (.array .int)) RX9 wsX9_best rmX9_best) {a0 : Nat → Nat} {q1 : Nat} {a2 : Nat → Nat} {q3 : Nat} {a4 : Nat → Nat} {q5 : Nat} {a6 : Nat → Nat} {q7 : Nat} {v0 : OwnV} {v1 : Nat} {v2 : RowsT} {v3 : Nat} {v4 : RowsT} {v5 : Nat} {v6 : RowsT} {v7 : Nat → Int32} {x3 : Int32} {r : (Nat → Int32)} : ∀ (n : Nat) (d0 : Nat → Nat) (d1 : Nat) (d2 : Nat → Nat) (d3 : Nat) (d4 : Nat) (d5 : Nat → Nat) (d6 : Nat) (x4 : Int32) (w0 : OwnV) (w1 : Nat) (w2 : RowsT) (w3 : Nat → Int32) (w4 : Nat) (w5 : RowsT) (w6 : Nat) (c : Nat) (s : Nat), c ≤ 20600 ∧ s ≤ 43000 → Own_best_41z2 v0 v1 v2 v3 v4 v5 v6 v7 x3 n x4 w0 w1 w2 w3 w4 w5 w6 c s = some r → WW E K c s (QQ E K (fun rv g => ∃ (y0 : Nat), rv = some (.ref y0) ∧ g = [wOwn E a0 (rf4 q1 q3 q5 q7) v0, wRO E q1 20 a2 v1, wRR E a2 v2, wRO E q3 12 a4 v3, wRR E a4 v4, wRO E q5 4 a6 v5, wRR E a6 v6, wArr E q7 4 v7, wArr E y0 6 r]) 20600 43000) 41 [(0, .ref (a0 0)), (1, .ref (d0 0)), (2, .null), (3, .int x3), (4, .int x4)] [] [wOwn E a0 (rf4 q1 q3 q5 q7) v0, wRO E q1 20 a2 v1, wRR E a2 v2, wRO E q3 12 a4 v3, wRR E a4 v4, wRO E q5 4 a6 v5, wRR E a6 v6, wArr E q7 4 v7, wOwn E d0 (rf4 d1 d4 d6 d3) w0, wRO E d1 20 d2 w1, wRR E d2 w2, wArr E d3 4 w3, wRO E d4 12 d5 w4, wRR E d5 w5, wRO E d6 4 a6 w6] := by
  intro n
  induction n with
  | zero =>
    intro d0 d1 d2 d3 d4 d5 d6 x4 w0 w1 w2 w3 w4 w5 w6 c s hcs hf
    simp [Own_best_41z2] at hf
  | succ n ih =>
    intro d0 d1 d2 d3 d4 d5 d6 x4 w0 w1 w2 w3 w4 w5 w6 c s hcs hf
    rw [Own_best_41z2] at hf
    refine ww_iload C dX9_best_41 4 rfl ?_
    refine ww_iload_n C dX9_best_43 rfl 3 rfl ?_
    refine ww_icmp_ge (tgt := 205) C dX9_best_44 (by decide) (fun c_7 => ?_) (fun c_7 => ?_)
    · replace hf := ifT c_7 hf
      refine ww_nload_n C dX9_best_205 rfl 2 rfl ?_
      cases hf
    · replace hf := ifF c_7 hf
      refine ww_iload C dX9_best_47 4 rfl ?_
      refine ww_istore (lv' := [(5, .int x4), (0, .ref (a0 0)), (1, .ref (d0 0)), (2, .null), (3, .int x3), (4, .int x4)]) C dX9_best_49 (by decide) rfl ?_
      refine ww_aload_n C dX9_best_51 rfl 1 rfl ?_
      refine ww_get C clOK9 in_X9_best_X9 (w := wOwn E a0 (rf4 q1 q3 q5 q7) v0) (fs := fsOwn a0 (rf4 q1 q3 q5 q7) v0) (v := .int (Own_guards v0)) 0 0 2 rfl q_Own (by decide) (by decide +kernel) g_Own_guards dX9_best_52 ?_
      refine ww_iconst (v := 1) C dX9_best_55 (by decide) ?_
      refine ww_isub C dX9_best_56 ?_
      refine ww_topi (fun x6_57 e_x6_57 => ?_)
      replace hf := ltE e_x6_57 hf
      refine ww_istore (lv' := [(6, .int x6_57), (5, .int x4), (0, .ref (a0 0)), (1, .ref (d0 0)), (2, .null), (3, .int x3), (4, .int x4)]) C dX9_best_57 (by decide) rfl ?_
      refine ww_sub C (lv' := [(0, .ref (a0 0)), (1, .ref (d0 0)), (2, .null), (3, .int x3), (4, .int x4), (5, .int x4), (6, .int x6_57)]) [2, 3, 4, 5, 6, 1, 0] rfl ?_
      exact w_X9_best_59z2c41z2 C (k41z2 := (fun (x4 : Int32) (w0 : OwnV) (w1 : Nat) (w2 : RowsT) (w3 : Nat → Int32) (w4 : Nat) (w5 : RowsT) (w6 : Nat) (c : Nat) (s : Nat) => Own_best_41z2 v0 v1 v2 v3 v4 v5 v6 v7 x3 n x4 w0 w1 w2 w3 w4 w5 w6 c s)) ih FU _ _ _ _ _ _ _ _ _ _ _ _ _ _ _ _ _ _ hcs hf

set_option maxHeartbeats 4000000 in
set_option maxRecDepth 100000 in
theorem w_X9_best_12z2 {E : Ex} {K : Kx} (C : Cx E K cX9_best 8 (some (.array .int)) RX9 wsX9_best rmX9_best) {a0 : Nat → Nat} {q1 : Nat} {a2 : Nat → Nat} {q3 : Nat} {a4 : Nat → Nat} {q5 : Nat} {a6 : Nat → Nat} {q7 : Nat} {v0 : OwnV} {v1 : Nat} {v2 : RowsT} {v3 : Nat} {v4 : RowsT} {v5 : Nat} {v6 : RowsT} {v7 : Nat → Int32}  {r : (Nat → Int32)} : ∀ (n : Nat) (d0 : Nat → Nat) (d1 : Nat) (d2 : Nat → Nat) (d3 : Nat) (d4 : Nat) (d5 : Nat → Nat) (d6 : Nat) (x3 : Int32) (x4 : Int32) (w0 : OwnV) (w1 : Nat) (w2 : RowsT) (w3 : Nat → Int32) (w4 : Nat) (w5 : RowsT) (w6 : Nat) (c : Nat) (s : Nat), c ≤ 20600 ∧ s ≤ 43000 → Own_best_12z2 v0 v1 v2 v3 v4 v5 v6 v7 n x3 x4 w0 w1 w2 w3 w4 w5 w6 c s = some r → WW E K c s (QQ E K (fun rv g => ∃ (y0 : Nat), rv = some (.ref y0) ∧ g = [wOwn E a0 (rf4 q1 q3 q5 q7) v0, wRO E q1 20 a2 v1, wRR E a2 v2, wRO E q3 12 a4 v3, wRR E a4 v4, wRO E q5 4 a6 v5, wRR E a6 v6, wArr E q7 4 v7, wArr E y0 6 r]) 20600 43000) 12 [(0, .ref (a0 0)), (1, .ref (d0 0)), (2, .null), (3, .int x3), (4, .int x4)] [] [wOwn E a0 (rf4 q1 q3 q5 q7) v0, wRO E q1 20 a2 v1, wRR E a2 v2, wRO E q3 12 a4 v3, wRR E a4 v4, wRO E q5 4 a6 v5, wRR E a6 v6, wArr E q7 4 v7, wOwn E d0 (rf4 d1 d4 d6 d3) w0, wRO E d1 20 d2 w1, wRR E d2 w2, wArr E d3 4 w3, wRO E d4 12 d5 w4, wRR E d5 w5, wRO E d6 4 a6 w6] := by
  intro n
  induction n with
  | zero =>
    intro d0 d1 d2 d3 d4 d5 d6 x3 x4 w0 w1 w2 w3 w4 w5 w6 c s hcs hf
    simp [Own_best_12z2] at hf
  | succ n ih =>
    intro d0 d1 d2 d3 d4 d5 d6 x3 x4 w0 w1 w2 w3 w4 w5 w6 c s hcs hf
    rw [Own_best_12z2] at hf
    refine ww_iload C dX9_best_12 4 rfl ?_
    refine ww_aload_n C dX9_best_14 rfl 0 rfl ?_
    refine ww_get C clOK9 in_X9_best_X9 (w := wOwn E a0 (rf4 q1 q3 q5 q7) v0) (fs := fsOwn a0 (rf4 q1 q3 q5 q7) v0) (v := .int (Own_guards v0)) 0 0 2 rfl q_Own (by decide) (by decide +kernel) g_Own_guards dX9_best_15 ?_
    refine ww_icmp_ge (tgt := 38) C dX9_best_18 (by decide) (fun c_2 => ?_) (fun c_2 => ?_)
    · replace hf := ifT c_2 hf
      refine ww_iconst (v := 0) C dX9_best_38 (by decide) ?_
      refine ww_istore (lv' := [(4, .int 0), (0, .ref (a0 0)), (1, .ref (d0 0)), (2, .null), (3, .int x3)]) C dX9_best_39 (by decide) rfl ?_
      refine ww_sub C (lv' := [(0, .ref (a0 0)), (1, .ref (d0 0)), (2, .null), (3, .int x3), (4, .int 0)]) [1, 2, 3, 4, 0] rfl ?_
      exact w_X9_best_41z2 C FU _ _ _ _ _ _ _ _ _ _ _ _ _ _ _ _ _ hcs hf
    · replace hf := ifF c_2 hf
      refine ww_iload_n C dX9_best_21 rfl 3 rfl ?_
      refine ww_aload_n C dX9_best_22 rfl 0 rfl ?_
      refine ww_get C clOK9 in_X9_best_X9 (w := wOwn E a0 (rf4 q1 q3 q5 q7) v0) (fs := fsOwn a0 (rf4 q1 q3 q5 q7) v0) (v := .ref q5) 0 0 6 rfl q_Own (by decide) (by decide +kernel) g_Own_walk dX9_best_23 ?_
      refine ww_iload C dX9_best_26 4 rfl ?_
      obtain ⟨g_3, hf⟩ := gdE hf
      obtain ⟨g_4, hf⟩ := gdE hf
      refine ww_aldR C (f := roF a6 v5) (w := wRO E q5 4 a6 v5) 5 0 rfl q_RO (inB_vp g_3) (roF_at (of_decide_eq_true g_4)) dX9_best_28 ?_
      obtain ⟨g_5, hf⟩ := gdE hf
      refine ww_alen C (v := nI (v6.2.1 (Int32.toNatClampNeg x4))) (w := wRR E a6 v6) 6 (Int32.toNatClampNeg x4) rfl (q_RR (of_decide_eq_true g_5)) rfl dX9_best_29 ?_
      refine ww_imul C dX9_best_30 ?_
      refine ww_topi (fun x3_31 e_x3_31 => ?_)
      replace hf := ltE e_x3_31 hf
      refine ww_istore_n (lv' := [(3, .int x3_31), (0, .ref (a0 0)), (1, .ref (d0 0)), (2, .null), (4, .int x4)]) C dX9_best_31 rfl (by decide) rfl ?_
      obtain ⟨x4_32, e_x4_32⟩ : ∃ y : Int32, y = x4 + 1 := ⟨_, rfl⟩
      replace hf := ltE e_x4_32 hf
      refine ww_iinc (v := x4_32) (lv' := [(4, .int x4_32), (3, .int x3_31), (0, .ref (a0 0)), (1, .ref (d0 0)), (2, .null)]) C dX9_best_32 4 rfl (by rw [e_x4_32]; rfl) (by decide) rfl ?_
      refine ww_goto (tgt := 12) C dX9_best_35 (by decide) ?_
      refine ww_sub C (lv' := [(0, .ref (a0 0)), (1, .ref (d0 0)), (2, .null), (3, .int x3_31), (4, .int x4_32)]) [2, 3, 4, 1, 0] rfl ?_
      exact ih _ _ _ _ _ _ _ _ _ _ _ _ _ _ _ _ _ _ hcs hf

set_option maxHeartbeats 4000000 in
set_option maxRecDepth 100000 in
theorem c_X9_best {E : Ex} {a0 : Nat → Nat} {q1 : Nat} {a2 : Nat → Nat} {q3 : Nat} {a4 : Nat → Nat} {q5 : Nat} {a6 : Nat → Nat} {q7 : Nat} {v0 : OwnV} {v1 : Nat} {v2 : RowsT} {v3 : Nat} {v4 : RowsT} {v5 : Nat} {v6 : RowsT} {v7 : Nat → Int32} {r : (Nat → Int32)} (hf : Own_best v0 v1 v2 v3 v4 v5 v6 v7 = some r) : Ct E yX9_best wsX9_best rmX9_best [.ref (a0 0)] [wOwn E a0 (rf4 q1 q3 q5 q7) v0, wRO E q1 20 a2 v1, wRR E a2 v2, wRO E q3 12 a4 v3, wRR E a4 v4, wRO E q5 4 a6 v5, wRR E a6 v6, wArr E q7 4 v7] (fun rv g => ∃ (y0 : Nat), rv = some (.ref y0) ∧ g = [wOwn E a0 (rf4 q1 q3 q5 q7) v0, wRO E q1 20 a2 v1, wRR E a2 v2, wRO E q3 12 a4 v3, wRR E a4 v4, wRO E q5 4 a6 v5, wRR E a6 v6, wArr E q7 4 v7, wArr E y0 6 r]) := by
  refine ct_of (own := RX9) (by decide +kernel) rfl rfl (Nat.le_of_ble_eq_true rfl) (fun K C => ?_)
  refine ww_sub C (lv' := [(0, .ref (a0 0))]) [0] rfl ?_
  rw [Own_best] at hf
  refine ww_aload_n C dX9_best_0 rfl 0 rfl ?_
  obtain ⟨g_1, hf⟩ := gdE hf
  obtain ⟨p1, hp1, hf⟩ := bdE hf
  refine ww_callV C (As := []) (st := []) (gr := []) (c_X9_copy (E := E) (a0 := a0) (q1 := q1) (a2 := a2) (q3 := q3) (a4 := a4) (q5 := q5) (a6 := a6) (q7 := q7) hp1) gX9_best_X9_copy rfl yk_X9_copy ⟨by decide, Nat.le_of_ble_eq_true rfl⟩ (of_decide_eq_true g_1) clOK9 0 0 rfl rfl [0, 1, 2, 3, 4, 5, 6, 7] [] 8 rfl (by decide) rfl rfl (Nat.le_of_ble_eq_true rfl) dX9_best_1 ?_
  rintro _ _ ⟨y1_0, y1_1, y1_2, y1_3, y1_4, y1_5, y1_6, rfl, rfl⟩
  refine ww_perm (gs' := [wOwn E a0 (rf4 q1 q3 q5 q7) v0, wRO E q1 20 a2 v1, wRR E a2 v2, wRO E q3 12 a4 v3, wRR E a4 v4, wRO E q5 4 a6 v5, wRR E a6 v6, wArr E q7 4 v7, wOwn E y1_0 (rf4 y1_1 y1_3 y1_5 y1_6) p1.1, wRO E y1_1 20 y1_2 p1.2.1, wRR E y1_2 p1.2.2.1, wRO E y1_3 12 y1_4 p1.2.2.2.1, wRR E y1_4 p1.2.2.2.2.1, wRO E y1_5 4 a6 p1.2.2.2.2.2.1, wArr E y1_6 4 p1.2.2.2.2.2.2]) [0, 1, 2, 3, 4, 5, 6, 7, 8, 9, 10, 11, 12, 13, 14] 15 rfl (by decide) rfl ?_
  refine ww_astore_n (lv' := [(1, .ref (y1_0 0)), (0, .ref (a0 0))]) C dX9_best_4 rfl (by decide) rfl ?_
  refine ww_anull C dX9_best_5 ?_
  refine ww_nstore_n (lv' := [(2, .null), (1, .ref (y1_0 0)), (0, .ref (a0 0))]) C dX9_best_6 rfl (by decide) rfl ?_
  refine ww_iconst (v := 1) C dX9_best_7 (by decide) ?_
  refine ww_istore_n (lv' := [(3, .int 1), (2, .null), (1, .ref (y1_0 0)), (0, .ref (a0 0))]) C dX9_best_8 rfl (by decide) rfl ?_
  refine ww_iconst (v := 0) C dX9_best_9 (by decide) ?_
  refine ww_istore (lv' := [(4, .int 0), (3, .int 1), (2, .null), (1, .ref (y1_0 0)), (0, .ref (a0 0))]) C dX9_best_10 (by decide) rfl ?_
  refine ww_perm (gs' := [wOwn E a0 (rf4 q1 q3 q5 q7) v0, wRO E q1 20 a2 v1, wRR E a2 v2, wRO E q3 12 a4 v3, wRR E a4 v4, wRO E q5 4 a6 v5, wRR E a6 v6, wArr E q7 4 v7, wOwn E y1_0 (rf4 y1_1 y1_3 y1_5 y1_6) p1.1, wRO E y1_1 20 y1_2 p1.2.1, wRR E y1_2 p1.2.2.1, wArr E y1_6 4 p1.2.2.2.2.2.2, wRO E y1_3 12 y1_4 p1.2.2.2.1, wRR E y1_4 p1.2.2.2.2.1, wRO E y1_5 4 a6 p1.2.2.2.2.2.1]) [0, 1, 2, 3, 4, 5, 6, 7, 8, 9, 10, 14, 11, 12, 13] 15 rfl (by decide) rfl ?_
  refine ww_sub C (lv' := [(0, .ref (a0 0)), (1, .ref (y1_0 0)), (2, .null), (3, .int 1), (4, .int 0)]) [4, 3, 2, 1, 0] rfl ?_
  exact w_X9_best_12z2 C FU _ _ _ _ _ _ _ _ _ _ _ _ _ _ _ _ _ _ (of_decide_eq_true g_1) hf

theorem yk_X9_best : yX9_best.cls = RX9 ∧ yX9_best.cls ≠ "java/lang/invoke/MethodHandle" ∧ yX9_best.cls ≠ "java/lang/invoke/VarHandle" ∧ (parseMethodDescriptor yX9_best.desc).map (fun d => d.parameters.length) = some 0 := by decide +kernel
abbrev rmL_cell : Room := { frames := 0, cells := 0, slots := 0, locals := 0 }
set_option maxHeartbeats 4000000 in
set_option maxRecDepth 100000 in
theorem c_L_cell {E : Ex}  {L : Nat} {xs : Nat → Int32} {x1 : Int32} {r : Int32} (S0 : SXE E L xs) (hf : L_cell L xs x1 = some r) : Ct E yL_cell wsL_cell rmL_cell [.ref (eB E), .int x1] [] (fun rv g => rv = some (.int r) ∧ g = []) := by
  refine ct_of (own := RL) (by decide +kernel) rfl rfl (Nat.le_of_ble_eq_true rfl) (fun K C => ?_)
  refine ww_sub C (lv' := [(0, .ref (eB E)), (1, .int x1)]) [0, 1] rfl ?_
  rw [L_cell] at hf
  refine ww_iload_n C dL_cell_0 rfl 1 rfl ?_
  refine ww_aload_n C dL_cell_1 rfl 0 rfl ?_
  refine ww_slenX C S0 dL_cell_2 ?_
  refine ww_icmp_ge (tgt := 12) C dL_cell_3 (by decide) (fun c_1 => ?_) (fun c_1 => ?_)
  · replace hf := ifT c_1 hf
    refine ww_bipush (v := 37) C dL_cell_12 (by decide) ?_
    refine ww_iload_n C dL_cell_14 rfl 1 rfl ?_
    refine ww_imul C dL_cell_15 ?_
    obtain rfl := Option.some.inj hf
    exact ww_iret C ⟨rfl, rfl⟩ dL_cell_16
  · replace hf := ifF c_1 hf
    refine ww_aload_n C dL_cell_6 rfl 0 rfl ?_
    refine ww_iload_n C dL_cell_7 rfl 1 rfl ?_
    obtain ⟨g_2, hf⟩ := gdE hf
    refine ww_sldX C S0 (inB_vp g_2) dL_cell_8 ?_
    refine ww_goto (tgt := 16) C dL_cell_9 (by decide) ?_
    obtain rfl := Option.some.inj hf
    exact ww_iret C ⟨rfl, rfl⟩ dL_cell_16

theorem ysk_L_cell : yL_cell.cls ≠ "java/lang/invoke/MethodHandle" ∧ yL_cell.cls ≠ "java/lang/invoke/VarHandle" ∧ (parseMethodDescriptor yL_cell.desc).map (fun d => d.parameters.length) = some 2 := by decide +kernel
