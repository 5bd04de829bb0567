abbrev rmL_add : Room := { frames := 2, cells := 0, slots := 0, locals := 47 }
set_option maxHeartbeats 4000000 in
set_option maxRecDepth 100000 in
theorem w_L_add_65 {E : Ex} {K : Kx} (C : Cx E K cL_add 4 none RL wsL_add rmL_add) {a0 : Nat → Nat} {a1 : Nat → Nat} {q2 : Nat} {h0_0 h0_1 h0_2 h0_3 h0_4 h0_5 h0_6 h0_8 h0_9 : Nat} {x2 : Int32} {v0 : GWV}  {r : (ToksV × (Nat → Int32))} : ∀ (n : Nat)  (x3 : Int32) (v1 : ToksV) (v2 : Nat → Int32), L_add_65 x2 v0 n x3 v1 v2 = some r → WW E K 0 0 (QQ E K (fun rv g => rv = none ∧ g = [wGW E a0 (rf10 h0_0 h0_1 h0_2 h0_3 h0_4 h0_5 h0_6 (a1 0) h0_8 h0_9) v0, wToks E a1 r.1, wArr E q2 6 r.2]) 0 0) 65 [(1, .ref q2), (3, .int x3)] [] [wGW E a0 (rf10 h0_0 h0_1 h0_2 h0_3 h0_4 h0_5 h0_6 (a1 0) h0_8 h0_9) v0, wToks E a1 v1, wArr E q2 6 v2] := by
  intro n
  induction n with
  | zero =>
    intro  x3 v1 v2 hf
    simp [L_add_65] at hf
  | succ n ih =>
    intro  x3 v1 v2 hf
    rw [L_add_65] at hf
    refine ww_iload_n C dL_add_65 rfl 1 rfl ?_
    refine ww_iconst (v := 5) C dL_add_66 (by decide) ?_
    refine ww_icmp_ge (tgt := 80) C dL_add_67 (by decide) (fun c_11 => ?_) (fun c_11 => ?_)
    · replace hf := ifT c_11 hf
      obtain rfl := Option.some.inj hf
      exact ww_vret C ⟨rfl, rfl⟩ dL_add_80
    · replace hf := ifF c_11 hf
      refine ww_aload_n C dL_add_70 rfl 0 rfl ?_
      refine ww_iload_n C dL_add_71 rfl 1 rfl ?_
      refine ww_iconst (v := 0) C dL_add_72 (by decide) ?_
      obtain ⟨g_12, hf⟩ := gdE hf
      obtain ⟨v2_73, e_v2_73⟩ : ∃ y : Nat → Int32, y = upd v2 (Int32.toNatClampNeg x3) 0 := ⟨_, rfl⟩
      replace hf := ltE e_v2_73 hf
      refine ww_iast C (f := v2) (w := wArr E q2 6 v2) (w' := wArr E q2 6 v2_73) (gs' := [wGW E a0 (rf10 h0_0 h0_1 h0_2 h0_3 h0_4 h0_5 h0_6 (a1 0) h0_8 h0_9) v0, wToks E a1 v1, wArr E q2 6 v2_73]) 2 0 rfl q_Arr (inB_vp g_12) (by rw [e_v2_73]; exact s_Arr) rfl dL_add_73 ?_
      obtain ⟨x3_74, e_x3_74⟩ : ∃ y : Int32, y = x3 + 1 := ⟨_, rfl⟩
      replace hf := ltE e_x3_74 hf
      refine ww_iinc (v := x3_74) (lv' := [(3, .int x3_74), (1, .ref q2)]) C dL_add_74 1 rfl (by rw [e_x3_74]; rfl) (by decide) rfl ?_
      refine ww_goto (tgt := 65) C dL_add_77 (by decide) ?_
      refine ww_sub C (lv' := [(1, .ref q2), (3, .int x3_74)]) [1, 0] rfl ?_
      exact ih _ _ _ hf

set_option maxHeartbeats 4000000 in
set_option maxRecDepth 100000 in
theorem c_L_add {E : Ex} {a0 : Nat → Nat} {a1 : Nat → Nat} {q2 : Nat} {h0_0 h0_1 h0_2 h0_3 h0_4 h0_5 h0_6 h0_8 h0_9 : Nat} {x2 : Int32} {v0 : GWV} {v1 : ToksV} {v2 : Nat → Int32} {r : (ToksV × (Nat → Int32))} (hf : L_add x2 v0 v1 v2 = some r) : Ct E yL_add wsL_add rmL_add [.ref (a0 0), .ref q2, .int x2] [wGW E a0 (rf10 h0_0 h0_1 h0_2 h0_3 h0_4 h0_5 h0_6 (a1 0) h0_8 h0_9) v0, wToks E a1 v1, wArr E q2 6 v2] (fun rv g => rv = none ∧ g = [wGW E a0 (rf10 h0_0 h0_1 h0_2 h0_3 h0_4 h0_5 h0_6 (a1 0) h0_8 h0_9) v0, wToks E a1 r.1, wArr E q2 6 r.2]) := by
  refine ct_of (own := RL) (by decide +kernel) rfl rfl (Nat.le_of_ble_eq_true rfl) (fun K C => ?_)
  refine ww_sub C (lv' := [(0, .ref (a0 0)), (1, .ref q2), (2, .int x2)]) [0, 1, 2] rfl ?_
  rw [L_add] at hf
  refine ww_aload_n C dL_add_0 rfl 1 rfl ?_
  refine ww_aload_n C dL_add_1 rfl 1 rfl ?_
  refine ww_iconst (v := 5) C dL_add_2 (by decide) ?_
  obtain ⟨g_1, hf⟩ := gdE hf
  refine ww_iald C (f := v2) (w := wArr E q2 6 v2) 2 0 rfl q_Arr (inB_vp g_1) dL_add_3 ?_
  refine ww_bipush (v := 20) C dL_add_4 (by decide) ?_
  obtain ⟨g_2, hf⟩ := gdE hf
  refine ww_irem C dL_add_6 (nz_ne g_2) ?_
  refine ww_iconst (v := 4) C dL_add_7 (by decide) ?_
  obtain ⟨g_3, hf⟩ := gdE hf
  refine ww_idiv C dL_add_8 (nz_ne g_3) ?_
  refine ww_dup2 C dL_add_9 rfl rfl ?_
  obtain ⟨g_4, hf⟩ := gdE hf
  refine ww_iald C (f := v2) (w := wArr E q2 6 v2) 2 0 rfl q_Arr (inB_vp g_4) dL_add_10 ?_
  refine ww_iload_n C dL_add_11 rfl 2 rfl ?_
  refine ww_bipush (v := 24) C dL_add_12 (by decide) ?_
  refine ww_bipush (v := 8) C dL_add_14 (by decide) ?_
  refine ww_aload_n C dL_add_16 rfl 1 rfl ?_
  refine ww_iconst (v := 5) C dL_add_17 (by decide) ?_
  refine ww_iald C (f := v2) (w := wArr E q2 6 v2) 2 0 rfl q_Arr (inB_vp g_1) dL_add_18 ?_
  refine ww_iconst (v := 4) C dL_add_19 (by decide) ?_
  refine ww_irem C dL_add_20 (nz_ne g_3) ?_
  refine ww_imul C dL_add_21 ?_
  refine ww_isub C dL_add_22 ?_
  refine ww_ishl C dL_add_23 ?_
  refine ww_ior C dL_add_24 ?_
  obtain ⟨v2_25, e_v2_25⟩ : ∃ y : Nat → Int32, y = upd v2 (Int32.toNatClampNeg (((v2 (Int32.toNatClampNeg 5)) - (v2 (Int32.toNatClampNeg 5)) / 20 * 20) / 4)) ((v2 (Int32.toNatClampNeg (((v2 (Int32.toNatClampNeg 5)) - (v2 (Int32.toNatClampNeg 5)) / 20 * 20) / 4))) ||| (x2 <<< ((24 - (8 * ((v2 (Int32.toNatClampNeg 5)) - (v2 (Int32.toNatClampNeg 5)) / 4 * 4))) &&& 31))) := ⟨_, rfl⟩
  replace hf := ltE e_v2_25 hf
  refine ww_iast C (f := v2) (w := wArr E q2 6 v2) (w' := wArr E q2 6 v2_25) (gs' := [wGW E a0 (rf10 h0_0 h0_1 h0_2 h0_3 h0_4 h0_5 h0_6 (a1 0) h0_8 h0_9) v0, wToks E a1 v1, wArr E q2 6 v2_25]) 2 0 rfl q_Arr (inB_vp g_4) (by rw [e_v2_25]; exact s_Arr) rfl dL_add_25 ?_
  refine ww_aload_n C dL_add_26 rfl 1 rfl ?_
  refine ww_iconst (v := 5) C dL_add_27 (by decide) ?_
  refine ww_dup2 C dL_add_28 rfl rfl ?_
  refine ww_iald C (f := v2_25) (w := wArr E q2 6 v2_25) 2 0 rfl q_Arr (inB_vp g_1) dL_add_29 ?_
  refine ww_iconst (v := 1) C dL_add_30 (by decide) ?_
  refine ww_iadd C dL_add_31 ?_
  obtain ⟨v2_32, e_v2_32⟩ : ∃ y : Nat → Int32, y = upd v2_25 (Int32.toNatClampNeg 5) ((v2_25 (Int32.toNatClampNeg 5)) + 1) := ⟨_, rfl⟩
  replace hf := ltE e_v2_32 hf
  refine ww_iast C (f := v2_25) (w := wArr E q2 6 v2_25) (w' := wArr E q2 6 v2_32) (gs' := [wGW E a0 (rf10 h0_0 h0_1 h0_2 h0_3 h0_4 h0_5 h0_6 (a1 0) h0_8 h0_9) v0, wToks E a1 v1, wArr E q2 6 v2_32]) 2 0 rfl q_Arr (inB_vp g_1) (by rw [e_v2_32]; exact s_Arr) rfl dL_add_32 ?_
  refine ww_aload_n C dL_add_33 rfl 1 rfl ?_
  refine ww_iconst (v := 5) C dL_add_34 (by decide) ?_
  refine ww_iald C (f := v2_32) (w := wArr E q2 6 v2_32) 2 0 rfl q_Arr (inB_vp g_1) dL_add_35 ?_
  refine ww_bipush (v := 20) C dL_add_36 (by decide) ?_
  refine ww_irem C dL_add_38 (nz_ne g_2) ?_
  refine ww_if_eq (tgt := 43) C dL_add_39 (by decide) (fun c_5 => ?_) (fun c_5 => ?_)
  · replace hf := ifT c_5 hf
    refine ww_aload_n C dL_add_43 rfl 0 rfl ?_
    refine ww_aload_n C dL_add_44 rfl 1 rfl ?_
    refine ww_iconst (v := 0) C dL_add_45 (by decide) ?_
    obtain ⟨g_6, hf⟩ := gdE hf
    refine ww_iald C (f := v2_32) (w := wArr E q2 6 v2_32) 2 0 rfl q_Arr (inB_vp g_6) dL_add_46 ?_
    refine ww_aload_n C dL_add_47 rfl 1 rfl ?_
    refine ww_iconst (v := 1) C dL_add_48 (by decide) ?_
    obtain ⟨g_7, hf⟩ := gdE hf
    refine ww_iald C (f := v2_32) (w := wArr E q2 6 v2_32) 2 0 rfl q_Arr (inB_vp g_7) dL_add_49 ?_
    refine ww_aload_n C dL_add_50 rfl 1 rfl ?_
    refine ww_iconst (v := 2) C dL_add_51 (by decide) ?_
    obtain ⟨g_8, hf⟩ := gdE hf
    refine ww_iald C (f := v2_32) (w := wArr E q2 6 v2_32) 2 0 rfl q_Arr (inB_vp g_8) dL_add_52 ?_
    refine ww_aload_n C dL_add_53 rfl 1 rfl ?_
    refine ww_iconst (v := 3) C dL_add_54 (by decide) ?_
    obtain ⟨g_9, hf⟩ := gdE hf
    refine ww_iald C (f := v2_32) (w := wArr E q2 6 v2_32) 2 0 rfl q_Arr (inB_vp g_9) dL_add_55 ?_
    refine ww_aload_n C dL_add_56 rfl 1 rfl ?_
    refine ww_iconst (v := 4) C dL_add_57 (by decide) ?_
    obtain ⟨g_10, hf⟩ := gdE hf
    refine ww_iald C (f := v2_32) (w := wArr E q2 6 v2_32) 2 0 rfl q_Arr (inB_vp g_10) dL_add_58 ?_
    obtain ⟨p59, hp59, hf⟩ := bdE hf
    refine ww_callV C (As := [.int (v2_32 (Int32.toNatClampNeg 0)), .int (v2_32 (Int32.toNatClampNeg 1)), .int (v2_32 (Int32.toNatClampNeg 2)), .int (v2_32 (Int32.toNatClampNeg 3)), .int (v2_32 (Int32.toNatClampNeg 4))]) (st := []) (gr := [wArr E q2 6 v2_32]) (c_X8_feed (E := E) (a0 := a0) (h0_0 := h0_0) (h0_1 := h0_1) (h0_2 := h0_2) (h0_3 := h0_3) (h0_4 := h0_4) (h0_5 := h0_5) (h0_6 := h0_6) (h0_8 := h0_8) (h0_9 := h0_9) (a1 := a1) hp59) gL_add_X8_feed rfl yk_X8_feed ⟨by decide, Nat.le_of_ble_eq_true rfl⟩ ⟨by decide, by decide⟩ clOK8 0 0 rfl rfl [0, 1] [2] 3 rfl (by decide) rfl rfl (Nat.le_of_ble_eq_true rfl) dL_add_59 ?_
    rintro _ _ ⟨rfl, rfl⟩
    refine ww_perm (gs' := [wGW E a0 (rf10 h0_0 h0_1 h0_2 h0_3 h0_4 h0_5 h0_6 (a1 0) h0_8 h0_9) v0, wToks E a1 p59.2, wArr E q2 6 v2_32]) [0, 1, 2] 3 rfl (by decide) rfl ?_
    refine ww_pop C dL_add_62 rfl ?_
    refine ww_iconst (v := 0) C dL_add_63 (by decide) ?_
    refine ww_istore_n (lv' := [(3, .int 0), (0, .ref (a0 0)), (1, .ref q2), (2, .int x2)]) C dL_add_64 rfl (by decide) rfl ?_
    refine ww_sub C (lv' := [(1, .ref q2), (3, .int 0)]) [2, 0] rfl ?_
    exact w_L_add_65 C FU _ _ _ hf
  · replace hf := ifF c_5 hf
    obtain rfl := Option.some.inj hf
    exact ww_vret C ⟨rfl, rfl⟩ dL_add_42

theorem ysk_L_add : yL_add.cls ≠ "java/lang/invoke/MethodHandle" ∧ yL_add.cls ≠ "java/lang/invoke/VarHandle" ∧ (parseMethodDescriptor yL_add.desc).map (fun d => d.parameters.length) = some 3 := by decide +kernel
abbrev rmL_number : Room := { frames := 3, cells := 0, slots := 0, locals := 70 }
set_option maxHeartbeats 4000000 in
set_option maxRecDepth 100000 in
theorem w_L_number_18 {E : Ex} {K : Kx} (C : Cx E K cL_number 4 none RL wsL_number rmL_number) {a0 : Nat → Nat} {a1 : Nat → Nat} {q2 : Nat} {h0_0 h0_1 h0_2 h0_3 h0_4 h0_5 h0_6 h0_8 h0_9 : Nat} {x2 : Int32} {v0 : GWV}  {r : (ToksV × (Nat → Int32))} : ∀ (n : Nat)  (x3 : Int32) (v1 : ToksV) (v2 : Nat → Int32), L_number_18 x2 v0 n x3 v1 v2 = some r → WW E K 0 0 (QQ E K (fun rv g => rv = none ∧ g = [wGW E a0 (rf10 h0_0 h0_1 h0_2 h0_3 h0_4 h0_5 h0_6 (a1 0) h0_8 h0_9) v0, wToks E a1 r.1, wArr E q2 6 r.2]) 0 0) 18 [(0, .ref (a0 0)), (1, .ref q2), (2, .int x2), (3, .int x3)] [] [wGW E a0 (rf10 h0_0 h0_1 h0_2 h0_3 h0_4 h0_5 h0_6 (a1 0) h0_8 h0_9) v0, wToks E a1 v1, wArr E q2 6 v2] := by
  intro n
  induction n with
  | zero =>
    intro  x3 v1 v2 hf
    simp [L_number_18] at hf
  | succ n ih =>
    intro  x3 v1 v2 hf
    rw [L_number_18] at hf
    refine ww_iload_n C dL_number_18 rfl 3 rfl ?_
    refine ww_if_le (tgt := 44) C dL_number_19 (by decide) (fun c_4 => ?_) (fun c_4 => ?_)
    · replace hf := ifT c_4 hf
      obtain rfl := Option.some.inj hf
      exact ww_vret C ⟨rfl, rfl⟩ dL_number_44
    · replace hf := ifF c_4 hf
      refine ww_aload_n C dL_number_22 rfl 0 rfl ?_
      refine ww_aload_n C dL_number_23 rfl 1 rfl ?_
      refine ww_bipush (v := 48) C dL_number_24 (by decide) ?_
      refine ww_iload_n C dL_number_26 rfl 2 rfl ?_
      refine ww_iload_n C dL_number_27 rfl 3 rfl ?_
      obtain ⟨g_5, hf⟩ := gdE hf
      refine ww_idiv C dL_number_28 (nz_ne g_5) ?_
      refine ww_bipush (v := 10) C dL_number_29 (by decide) ?_
      obtain ⟨g_6, hf⟩ := gdE hf
      refine ww_irem C dL_number_31 (nz_ne g_6) ?_
      refine ww_iadd C dL_number_32 ?_
      obtain ⟨p33, hp33, hf⟩ := bdE hf
      refine ww_callS C (As := [.ref (a0 0), .ref q2, .int (48 + ((x2 / x3) - (x2 / x3) / 10 * 10))]) (st := []) (gr := []) (c_L_add (E := E) (a0 := a0) (h0_0 := h0_0) (h0_1 := h0_1) (h0_2 := h0_2) (h0_3 := h0_3) (h0_4 := h0_4) (h0_5 := h0_5) (h0_6 := h0_6) (h0_8 := h0_8) (h0_9 := h0_9) (a1 := a1) (q2 := q2) hp33) gL_number_L_add rfl ysk_L_add ⟨by decide, Nat.le_of_ble_eq_true rfl⟩ ⟨by decide, by decide⟩ [0, 1, 2] [] 3 rfl (by decide) rfl rfl (Nat.le_of_ble_eq_true rfl) dL_number_33 ?_
      rintro _ _ ⟨rfl, rfl⟩
      refine ww_perm (gs' := [wGW E a0 (rf10 h0_0 h0_1 h0_2 h0_3 h0_4 h0_5 h0_6 (a1 0) h0_8 h0_9) v0, wToks E a1 p33.1, wArr E q2 6 p33.2]) [0, 1, 2] 3 rfl (by decide) rfl ?_
      refine ww_iload_n C dL_number_36 rfl 3 rfl ?_
      refine ww_bipush (v := 10) C dL_number_37 (by decide) ?_
      refine ww_idiv C dL_number_39 (nz_ne g_6) ?_
      refine ww_topi (fun x3_40 e_x3_40 => ?_)
      replace hf := ltE e_x3_40 hf
      refine ww_istore_n (lv' := [(3, .int x3_40), (0, .ref (a0 0)), (1, .ref q2), (2, .int x2)]) C dL_number_40 rfl (by decide) rfl ?_
      refine ww_goto (tgt := 18) C dL_number_41 (by decide) ?_
      refine ww_sub C (lv' := [(0, .ref (a0 0)), (1, .ref q2), (2, .int x2), (3, .int x3_40)]) [1, 2, 3, 0] rfl ?_
      exact ih _ _ _ hf

set_option maxHeartbeats 4000000 in
set_option maxRecDepth 100000 in
theorem w_L_number_2 {E : Ex} {K : Kx} (C : Cx E K cL_number 4 none RL wsL_number rmL_number) {a0 : Nat → Nat} {a1 : Nat → Nat} {q2 : Nat} {h0_0 h0_1 h0_2 h0_3 h0_4 h0_5 h0_6 h0_8 h0_9 : Nat} {x2 : Int32} {v0 : GWV}  {r : (ToksV × (Nat → Int32))} : ∀ (n : Nat)  (x3 : Int32) (v1 : ToksV) (v2 : Nat → Int32), L_number_2 x2 v0 n x3 v1 v2 = some r → WW E K 0 0 (QQ E K (fun rv g => rv = none ∧ g = [wGW E a0 (rf10 h0_0 h0_1 h0_2 h0_3 h0_4 h0_5 h0_6 (a1 0) h0_8 h0_9) v0, wToks E a1 r.1, wArr E q2 6 r.2]) 0 0) 2 [(0, .ref (a0 0)), (1, .ref q2), (2, .int x2), (3, .int x3)] [] [wGW E a0 (rf10 h0_0 h0_1 h0_2 h0_3 h0_4 h0_5 h0_6 (a1 0) h0_8 h0_9) v0, wToks E a1 v1, wArr E q2 6 v2] := by
  intro n
  induction n with
  | zero =>
    intro  x3 v1 v2 hf
    simp [L_number_2] at hf
  | succ n ih =>
    intro  x3 v1 v2 hf
    rw [L_number_2] at hf
    refine ww_iload_n C dL_number_2 rfl 3 rfl ?_
    refine ww_iload_n C dL_number_3 rfl 2 rfl ?_
    refine ww_bipush (v := 10) C dL_number_4 (by decide) ?_
    obtain ⟨g_1, hf⟩ := gdE hf
    refine ww_idiv C dL_number_6 (nz_ne g_1) ?_
    refine ww_icmp_gt (tgt := 18) C dL_number_7 (by decide) (fun c_2 => ?_) (fun c_2 => ?_)
    · replace hf := ifT c_2 hf
      refine ww_sub C (lv' := [(0, .ref (a0 0)), (1, .ref q2), (2, .int x2), (3, .int x3)]) [0, 1, 2, 3] rfl ?_
      exact w_L_number_18 C FU _ _ _ hf
    · replace hf := ifF c_2 hf
      refine ww_iload_n C dL_number_10 rfl 3 rfl ?_
      refine ww_bipush (v := 10) C dL_number_11 (by decide) ?_
      refine ww_imul C dL_number_13 ?_
      refine ww_topi (fun x3_14 e_x3_14 => ?_)
      replace hf := ltE e_x3_14 hf
      refine ww_istore_n (lv' := [(3, .int x3_14), (0, .ref (a0 0)), (1, .ref q2), (2, .int x2)]) C dL_number_14 rfl (by decide) rfl ?_
      refine ww_goto (tgt := 2) C dL_number_15 (by decide) ?_
      refine ww_sub C (lv' := [(0, .ref (a0 0)), (1, .ref q2), (2, .int x2), (3, .int x3_14)]) [1, 2, 3, 0] rfl ?_
      exact ih _ _ _ hf

set_option maxHeartbeats 4000000 in
set_option maxRecDepth 100000 in
theorem c_L_number {E : Ex} {a0 : Nat → Nat} {a1 : Nat → Nat} {q2 : Nat} {h0_0 h0_1 h0_2 h0_3 h0_4 h0_5 h0_6 h0_8 h0_9 : Nat} {x2 : Int32} {v0 : GWV} {v1 : ToksV} {v2 : Nat → Int32} {r : (ToksV × (Nat → Int32))} (hf : L_number x2 v0 v1 v2 = some r) : Ct E yL_number wsL_number rmL_number [.ref (a0 0), .ref q2, .int x2] [wGW E a0 (rf10 h0_0 h0_1 h0_2 h0_3 h0_4 h0_5 h0_6 (a1 0) h0_8 h0_9) v0, wToks E a1 v1, wArr E q2 6 v2] (fun rv g => rv = none ∧ g = [wGW E a0 (rf10 h0_0 h0_1 h0_2 h0_3 h0_4 h0_5 h0_6 (a1 0) h0_8 h0_9) v0, wToks E a1 r.1, wArr E q2 6 r.2]) := by
  refine ct_of (own := RL) (by decide +kernel) rfl rfl (Nat.le_of_ble_eq_true rfl) (fun K C => ?_)
  refine ww_sub C (lv' := [(0, .ref (a0 0)), (1, .ref q2), (2, .int x2)]) [0, 1, 2] rfl ?_
  rw [L_number] at hf
  refine ww_iconst (v := 1) C dL_number_0 (by decide) ?_
  refine ww_istore_n (lv' := [(3, .int 1), (0, .ref (a0 0)), (1, .ref q2), (2, .int x2)]) C dL_number_1 rfl (by decide) rfl ?_
  refine ww_sub C (lv' := [(0, .ref (a0 0)), (1, .ref q2), (2, .int x2), (3, .int 1)]) [1, 2, 3, 0] rfl ?_
  exact w_L_number_2 C FU _ _ _ hf

theorem ysk_L_number : yL_number.cls ≠ "java/lang/invoke/MethodHandle" ∧ yL_number.cls ≠ "java/lang/invoke/VarHandle" ∧ (parseMethodDescriptor yL_number.desc).map (fun d => d.parameters.length) = some 3 := by decide +kernel
abbrev rmL_end : Room := { frames := 3, cells := 0, slots := 0, locals := 70 }
set_option maxHeartbeats 4000000 in
set_option maxRecDepth 100000 in
theorem w_L_end_4 {E : Ex} {K : Kx} (C : Cx E K cL_end 3 (some .int) RL wsL_end rmL_end) {a0 : Nat → Nat} {a1 : Nat → Nat} {q2 : Nat} {h0_0 h0_1 h0_2 h0_3 h0_4 h0_5 h0_6 h0_8 h0_9 : Nat} {v0 : GWV} {x2 : Int32} {r : (Int32 × ToksV × (Nat → Int32))} : ∀ (n : Nat)  (v1 : ToksV) (v2 : Nat → Int32), L_end_4 v0 x2 n v1 v2 = some r → WW E K 0 0 (QQ E K (fun rv g => rv = some (.int r.1) ∧ g = [wGW E a0 (rf10 h0_0 h0_1 h0_2 h0_3 h0_4 h0_5 h0_6 (a1 0) h0_8 h0_9) v0, wToks E a1 r.2.1, wArr E q2 6 r.2.2]) 0 0) 4 [(0, .ref (a0 0)), (1, .ref q2), (2, .int x2)] [] [wGW E a0 (rf10 h0_0 h0_1 h0_2 h0_3 h0_4 h0_5 h0_6 (a1 0) h0_8 h0_9) v0, wToks E a1 v1, wArr E q2 6 v2] := by
  intro n
  induction n with
  | zero =>
    intro  v1 v2 hf
    simp [L_end_4] at hf
  | succ n ih =>
    intro  v1 v2 hf
    rw [L_end_4] at hf
    refine ww_aload_n C dL_end_4 rfl 1 rfl ?_
    refine ww_iconst (v := 5) C dL_end_5 (by decide) ?_
    obtain ⟨g_3, hf⟩ := gdE hf
    refine ww_iald C (f := v2) (w := wArr E q2 6 v2) 2 0 rfl q_Arr (inB_vp g_3) dL_end_6 ?_
    refine ww_bipush (v := 20) C dL_end_7 (by decide) ?_
    obtain ⟨g_4, hf⟩ := gdE hf
    refine ww_irem C dL_end_9 (nz_ne g_4) ?_
    refine ww_if_eq (tgt := 23) C dL_end_10 (by decide) (fun c_5 => ?_) (fun c_5 => ?_)
    · replace hf := ifT c_5 hf
      refine ww_aload_n C dL_end_23 rfl 1 rfl ?_
      refine ww_iconst (v := 5) C dL_end_24 (by decide) ?_
      refine ww_iconst (v := 0) C dL_end_25 (by decide) ?_
      obtain ⟨v2_26, e_v2_26⟩ : ∃ y : Nat → Int32, y = upd v2 (Int32.toNatClampNeg 5) 0 := ⟨_, rfl⟩
      replace hf := ltE e_v2_26 hf
      refine ww_iast C (f := v2) (w := wArr E q2 6 v2) (w' := wArr E q2 6 v2_26) (gs' := [wGW E a0 (rf10 h0_0 h0_1 h0_2 h0_3 h0_4 h0_5 h0_6 (a1 0) h0_8 h0_9) v0, wToks E a1 v1, wArr E q2 6 v2_26]) 2 0 rfl q_Arr (inB_vp g_3) (by rw [e_v2_26]; exact s_Arr) rfl dL_end_26 ?_
      refine ww_iload_n C dL_end_27 rfl 2 rfl ?_
      obtain rfl := Option.some.inj hf
      exact ww_iret C ⟨rfl, rfl⟩ dL_end_28
    · replace hf := ifF c_5 hf
      refine ww_aload_n C dL_end_13 rfl 0 rfl ?_
      refine ww_aload_n C dL_end_14 rfl 1 rfl ?_
      refine ww_bipush (v := 32) C dL_end_15 (by decide) ?_
      obtain ⟨p17, hp17, hf⟩ := bdE hf
      refine ww_callS C (As := [.ref (a0 0), .ref q2, .int 32]) (st := []) (gr := []) (c_L_add (E := E) (a0 := a0) (h0_0 := h0_0) (h0_1 := h0_1) (h0_2 := h0_2) (h0_3 := h0_3) (h0_4 := h0_4) (h0_5 := h0_5) (h0_6 := h0_6) (h0_8 := h0_8) (h0_9 := h0_9) (a1 := a1) (q2 := q2) hp17) gL_end_L_add rfl ysk_L_add ⟨by decide, Nat.le_of_ble_eq_true rfl⟩ ⟨by decide, by decide⟩ [0, 1, 2] [] 3 rfl (by decide) rfl rfl (Nat.le_of_ble_eq_true rfl) dL_end_17 ?_
      rintro _ _ ⟨rfl, rfl⟩
      refine ww_perm (gs' := [wGW E a0 (rf10 h0_0 h0_1 h0_2 h0_3 h0_4 h0_5 h0_6 (a1 0) h0_8 h0_9) v0, wToks E a1 p17.1, wArr E q2 6 p17.2]) [0, 1, 2] 3 rfl (by decide) rfl ?_
      refine ww_goto (tgt := 4) C dL_end_20 (by decide) ?_
      refine ww_sub C (lv' := [(0, .ref (a0 0)), (1, .ref q2), (2, .int x2)]) [0, 1, 2] rfl ?_
      exact ih _ _ hf

set_option maxHeartbeats 4000000 in
set_option maxRecDepth 100000 in
theorem c_L_end {E : Ex} {a0 : Nat → Nat} {a1 : Nat → Nat} {q2 : Nat} {h0_0 h0_1 h0_2 h0_3 h0_4 h0_5 h0_6 h0_8 h0_9 : Nat} {v0 : GWV} {v1 : ToksV} {v2 : Nat → Int32} {r : (Int32 × ToksV × (Nat → Int32))} (hf : L_end v0 v1 v2 = some r) : Ct E yL_end wsL_end rmL_end [.ref (a0 0), .ref q2] [wGW E a0 (rf10 h0_0 h0_1 h0_2 h0_3 h0_4 h0_5 h0_6 (a1 0) h0_8 h0_9) v0, wToks E a1 v1, wArr E q2 6 v2] (fun rv g => rv = some (.int r.1) ∧ g = [wGW E a0 (rf10 h0_0 h0_1 h0_2 h0_3 h0_4 h0_5 h0_6 (a1 0) h0_8 h0_9) v0, wToks E a1 r.2.1, wArr E q2 6 r.2.2]) := by
  refine ct_of (own := RL) (by decide +kernel) rfl rfl (Nat.le_of_ble_eq_true rfl) (fun K C => ?_)
  refine ww_sub C (lv' := [(0, .ref (a0 0)), (1, .ref q2)]) [0, 1] rfl ?_
  rw [L_end] at hf
  refine ww_aload_n C dL_end_0 rfl 1 rfl ?_
  refine ww_iconst (v := 5) C dL_end_1 (by decide) ?_
  obtain ⟨g_1, hf⟩ := gdE hf
  refine ww_iald C (f := v2) (w := wArr E q2 6 v2) 2 0 rfl q_Arr (inB_vp g_1) dL_end_2 ?_
  refine ww_topi (fun x2_3 e_x2_3 => ?_)
  replace hf := ltE e_x2_3 hf
  refine ww_istore_n (lv' := [(2, .int x2_3), (0, .ref (a0 0)), (1, .ref q2)]) C dL_end_3 rfl (by decide) rfl ?_
  refine ww_sub C (lv' := [(0, .ref (a0 0)), (1, .ref q2), (2, .int x2_3)]) [1, 2, 0] rfl ?_
  exact w_L_end_4 C FU _ _ hf

theorem ysk_L_end : yL_end.cls ≠ "java/lang/invoke/MethodHandle" ∧ yL_end.cls ≠ "java/lang/invoke/VarHandle" ∧ (parseMethodDescriptor yL_end.desc).map (fun d => d.parameters.length) = some 2 := by decide +kernel
abbrev rmL_word : Room := { frames := 5, cells := 0, slots := 0, locals := 200 }
set_option maxHeartbeats 4000000 in
set_option maxRecDepth 100000 in
theorem w_L_word_2 {E : Ex} {K : Kx} (C : Cx E K cL_word 4 none RL wsL_word rmL_word) {a0 : Nat → Nat} {a1 : Nat → Nat} {q2 : Nat} {h0_0 h0_1 h0_2 h0_3 h0_4 h0_5 h0_6 h0_8 h0_9 : Nat} {x2 : Nat} {v0 : GWV}  {r : (ToksV × (Nat → Int32))} : ∀ (n : Nat)  (x3 : Int32) (v1 : ToksV) (v2 : Nat → Int32), L_word_2 x2 v0 n x3 v1 v2 = some r → WW E K 0 0 (QQ E K (fun rv g => rv = none ∧ g = [wGW E a0 (rf10 h0_0 h0_1 h0_2 h0_3 h0_4 h0_5 h0_6 (a1 0) h0_8 h0_9) v0, wToks E a1 r.1, wArr E q2 6 r.2]) 0 0) 2 [(0, .ref (a0 0)), (1, .ref q2), (2, .ref (eK E x2)), (3, .int x3)] [] [wGW E a0 (rf10 h0_0 h0_1 h0_2 h0_3 h0_4 h0_5 h0_6 (a1 0) h0_8 h0_9) v0, wToks E a1 v1, wArr E q2 6 v2] := by
  intro n
  induction n with
  | zero =>
    intro  x3 v1 v2 hf
    simp [L_word_2] at hf
  | succ n ih =>
    intro  x3 v1 v2 hf
    rw [L_word_2] at hf
    refine ww_iload_n C dL_word_2 rfl 3 rfl ?_
    refine ww_aload_n C dL_word_3 rfl 2 rfl ?_
    obtain ⟨g_1, hf⟩ := gdE hf
    refine ww_strlen C g_1 gL_word_J0_length_8abf5 (by decide) (by decide) ⟨by decide, by decide⟩ (Nat.le_of_ble_eq_true rfl) dL_word_4 ?_
    refine ww_icmp_ge (tgt := 26) C dL_word_7 (by decide) (fun c_2 => ?_) (fun c_2 => ?_)
    · replace hf := ifT c_2 hf
      obtain rfl := Option.some.inj hf
      exact ww_vret C ⟨rfl, rfl⟩ dL_word_26
    · replace hf := ifF c_2 hf
      refine ww_aload_n C dL_word_10 rfl 0 rfl ?_
      refine ww_aload_n C dL_word_11 rfl 1 rfl ?_
      refine ww_aload_n C dL_word_12 rfl 2 rfl ?_
      refine ww_iload_n C dL_word_13 rfl 3 rfl ?_
      obtain ⟨g_3, hf⟩ := gdE hf
      refine ww_strchar C g_1 g_3 gL_word_J0_charAt_5068e (by decide) (by decide) ⟨by decide, by decide⟩ (Nat.le_of_ble_eq_true rfl) dL_word_14 ?_
      obtain ⟨p17, hp17, hf⟩ := bdE hf
      refine ww_callS C (As := [.ref (a0 0), .ref q2, .int (stCh x2 x3)]) (st := []) (gr := []) (c_L_add (E := E) (a0 := a0) (h0_0 := h0_0) (h0_1 := h0_1) (h0_2 := h0_2) (h0_3 := h0_3) (h0_4 := h0_4) (h0_5 := h0_5) (h0_6 := h0_6) (h0_8 := h0_8) (h0_9 := h0_9) (a1 := a1) (q2 := q2) hp17) gL_word_L_add rfl ysk_L_add ⟨by decide, Nat.le_of_ble_eq_true rfl⟩ ⟨by decide, by decide⟩ [0, 1, 2] [] 3 rfl (by decide) rfl rfl (Nat.le_of_ble_eq_true rfl) dL_word_17 ?_
      rintro _ _ ⟨rfl, rfl⟩
      refine ww_perm (gs' := [wGW E a0 (rf10 h0_0 h0_1 h0_2 h0_3 h0_4 h0_5 h0_6 (a1 0) h0_8 h0_9) v0, wToks E a1 p17.1, wArr E q2 6 p17.2]) [0, 1, 2] 3 rfl (by decide) rfl ?_
      obtain ⟨x3_20, e_x3_20⟩ : ∃ y : Int32, y = x3 + 1 := ⟨_, rfl⟩
      replace hf := ltE e_x3_20 hf
      refine ww_iinc (v := x3_20) (lv' := [(3, .int x3_20), (0, .ref (a0 0)), (1, .ref q2), (2, .ref (eK E x2))]) C dL_word_20 3 rfl (by rw [e_x3_20]; rfl) (by decide) rfl ?_
      refine ww_goto (tgt := 2) C dL_word_23 (by decide) ?_
      refine ww_sub C (lv' := [(0, .ref (a0 0)), (1, .ref q2), (2, .ref (eK E x2)), (3, .int x3_20)]) [1, 2, 3, 0] rfl ?_
      exact ih _ _ _ hf

set_option maxHeartbeats 4000000 in
set_option maxRecDepth 100000 in
theorem c_L_word {E : Ex} {a0 : Nat → Nat} {a1 : Nat → Nat} {q2 : Nat} {h0_0 h0_1 h0_2 h0_3 h0_4 h0_5 h0_6 h0_8 h0_9 : Nat} {x2 : Nat} {v0 : GWV} {v1 : ToksV} {v2 : Nat → Int32} {r : (ToksV × (Nat → Int32))} (hf : L_word x2 v0 v1 v2 = some r) : Ct E yL_word wsL_word rmL_word [.ref (a0 0), .ref q2, .ref (eK E x2)] [wGW E a0 (rf10 h0_0 h0_1 h0_2 h0_3 h0_4 h0_5 h0_6 (a1 0) h0_8 h0_9) v0, wToks E a1 v1, wArr E q2 6 v2] (fun rv g => rv = none ∧ g = [wGW E a0 (rf10 h0_0 h0_1 h0_2 h0_3 h0_4 h0_5 h0_6 (a1 0) h0_8 h0_9) v0, wToks E a1 r.1, wArr E q2 6 r.2]) := by
  refine ct_of (own := RL) (by decide +kernel) rfl rfl (Nat.le_of_ble_eq_true rfl) (fun K C => ?_)
  refine ww_sub C (lv' := [(0, .ref (a0 0)), (1, .ref q2), (2, .ref (eK E x2))]) [0, 1, 2] rfl ?_
  rw [L_word] at hf
  refine ww_iconst (v := 0) C dL_word_0 (by decide) ?_
  refine ww_istore_n (lv' := [(3, .int 0), (0, .ref (a0 0)), (1, .ref q2), (2, .ref (eK E x2))]) C dL_word_1 rfl (by decide) rfl ?_
  refine ww_sub C (lv' := [(0, .ref (a0 0)), (1, .ref q2), (2, .ref (eK E x2)), (3, .int 0)]) [1, 2, 3, 0] rfl ?_
  exact w_L_word_2 C FU _ _ _ hf

theorem ysk_L_word : yL_word.cls ≠ "java/lang/invoke/MethodHandle" ∧ yL_word.cls ≠ "java/lang/invoke/VarHandle" ∧ (parseMethodDescriptor yL_word.desc).map (fun d => d.parameters.length) = some 3 := by decide +kernel
abbrev rmL_with : Room := { frames := 6, cells := 0, slots := 0, locals := 223 }
set_option maxHeartbeats 4000000 in
set_option maxRecDepth 100000 in
theorem c_L_with {E : Ex} {a0 : Nat → Nat} {a1 : Nat → Nat} {q2 : Nat} {h0_0 h0_1 h0_2 h0_3 h0_4 h0_5 h0_6 h0_8 h0_9 : Nat} {x2 : Nat} {x3 : Int32} {v0 : GWV} {v1 : ToksV} {v2 : Nat → Int32} {r : (ToksV × (Nat → Int32))} (hf : L_with x2 x3 v0 v1 v2 = some r) : Ct E yL_with wsL_with rmL_with [.ref (a0 0), .ref q2, .ref (eK E x2), .int x3] [wGW E a0 (rf10 h0_0 h0_1 h0_2 h0_3 h0_4 h0_5 h0_6 (a1 0) h0_8 h0_9) v0, wToks E a1 v1, wArr E q2 6 v2] (fun rv g => rv = none ∧ g = [wGW E a0 (rf10 h0_0 h0_1 h0_2 h0_3 h0_4 h0_5 h0_6 (a1 0) h0_8 h0_9) v0, wToks E a1 r.1, wArr E q2 6 r.2]) := by
  refine ct_of (own := RL) (by decide +kernel) rfl rfl (Nat.le_of_ble_eq_true rfl) (fun K C => ?_)
  refine ww_sub C (lv' := [(0, .ref (a0 0)), (1, .ref q2), (2, .ref (eK E x2)), (3, .int x3)]) [0, 1, 2, 3] rfl ?_
  rw [L_with] at hf
  refine ww_aload_n C dL_with_0 rfl 0 rfl ?_
  refine ww_aload_n C dL_with_1 rfl 1 rfl ?_
  refine ww_aload_n C dL_with_2 rfl 2 rfl ?_
  obtain ⟨p3, hp3, hf⟩ := bdE hf
  refine ww_callS C (As := [.ref (a0 0), .ref q2, .ref (eK E x2)]) (st := []) (gr := []) (c_L_word (E := E) (a0 := a0) (h0_0 := h0_0) (h0_1 := h0_1) (h0_2 := h0_2) (h0_3 := h0_3) (h0_4 := h0_4) (h0_5 := h0_5) (h0_6 := h0_6) (h0_8 := h0_8) (h0_9 := h0_9) (a1 := a1) (q2 := q2) hp3) gL_with_L_word rfl ysk_L_word ⟨by decide, Nat.le_of_ble_eq_true rfl⟩ ⟨by decide, by decide⟩ [0, 1, 2] [] 3 rfl (by decide) rfl rfl (Nat.le_of_ble_eq_true rfl) dL_with_3 ?_
  rintro _ _ ⟨rfl, rfl⟩
  refine ww_perm (gs' := [wGW E a0 (rf10 h0_0 h0_1 h0_2 h0_3 h0_4 h0_5 h0_6 (a1 0) h0_8 h0_9) v0, wToks E a1 p3.1, wArr E q2 6 p3.2]) [0, 1, 2] 3 rfl (by decide) rfl ?_
  refine ww_aload_n C dL_with_6 rfl 0 rfl ?_
  refine ww_aload_n C dL_with_7 rfl 1 rfl ?_
  refine ww_iload_n C dL_with_8 rfl 3 rfl ?_
  obtain ⟨p9, hp9, hf⟩ := bdE hf
  refine ww_callS C (As := [.ref (a0 0), .ref q2, .int x3]) (st := []) (gr := []) (c_L_number (E := E) (a0 := a0) (h0_0 := h0_0) (h0_1 := h0_1) (h0_2 := h0_2) (h0_3 := h0_3) (h0_4 := h0_4) (h0_5 := h0_5) (h0_6 := h0_6) (h0_8 := h0_8) (h0_9 := h0_9) (a1 := a1) (q2 := q2) hp9) gL_with_L_number rfl ysk_L_number ⟨by decide, Nat.le_of_ble_eq_true rfl⟩ ⟨by decide, by decide⟩ [0, 1, 2] [] 3 rfl (by decide) rfl rfl (Nat.le_of_ble_eq_true rfl) dL_with_9 ?_
  rintro _ _ ⟨rfl, rfl⟩
  refine ww_perm (gs' := [wGW E a0 (rf10 h0_0 h0_1 h0_2 h0_3 h0_4 h0_5 h0_6 (a1 0) h0_8 h0_9) v0, wToks E a1 p9.1, wArr E q2 6 p9.2]) [0, 1, 2] 3 rfl (by decide) rfl ?_
  obtain rfl := Option.some.inj hf
  exact ww_vret C ⟨rfl, rfl⟩ dL_with_12

theorem ysk_L_with : yL_with.cls ≠ "java/lang/invoke/MethodHandle" ∧ yL_with.cls ≠ "java/lang/invoke/VarHandle" ∧ (parseMethodDescriptor yL_with.desc).map (fun d => d.parameters.length) = some 4 := by decide +kernel
abbrev rmL_walkOf : Room := { frames := 7, cells := 0, slots := 0, locals := 246 }
set_option maxHeartbeats 4000000 in
set_option maxRecDepth 100000 in
theorem w_L_walkOf_11 {E : Ex} {K : Kx} (C : Cx E K cL_walkOf 8 none RL wsL_walkOf rmL_walkOf) {a0 : Nat → Nat} {a1 : Nat → Nat} {q2 : Nat} {q3 : Nat} {h0_0 h0_1 h0_2 h0_3 h0_4 h0_5 h0_6 h0_8 h0_9 : Nat} {x3 : Int32} {v0 : GWV} {v3 : Nat → Int32} {n3 : Nat} {x5 : Int32} {r : (ToksV × (Nat → Int32))} : ∀ (n : Nat)  (x6 : Int32) (v1 : ToksV) (v2 : Nat → Int32), L_walkOf_11 x3 v0 v3 n3 x5 n x6 v1 v2 = some r → WW E K 0 0 (QQ E K (fun rv g => rv = none ∧ g = [wGW E a0 (rf10 h0_0 h0_1 h0_2 h0_3 h0_4 h0_5 h0_6 (a1 0) h0_8 h0_9) v0, wToks E a1 r.1, wArr E q2 6 r.2, wArr E q3 n3 v3]) 0 0) 11 [(0, .ref (a0 0)), (1, .ref q2), (3, .int x3), (4, .ref q3), (5, .int x5), (6, .int x6)] [] [wGW E a0 (rf10 h0_0 h0_1 h0_2 h0_3 h0_4 h0_5 h0_6 (a1 0) h0_8 h0_9) v0, wToks E a1 v1, wArr E q2 6 v2, wArr E q3 n3 v3] := by
  intro n
  induction n with
  | zero =>
    intro  x6 v1 v2 hf
    simp [L_walkOf_11] at hf
  | succ n ih =>
    intro  x6 v1 v2 hf
    rw [L_walkOf_11] at hf
    refine ww_iload C dL_walkOf_11 5 rfl ?_
    refine ww_iload C dL_walkOf_13 4 rfl ?_
    refine ww_icmp_ge (tgt := 40) C dL_walkOf_15 (by decide) (fun c_2 => ?_) (fun c_2 => ?_)
    · replace hf := ifT c_2 hf
      refine ww_iload_n C dL_walkOf_40 rfl 2 rfl ?_
      refine ww_if_le (tgt := 52) C dL_walkOf_41 (by decide) (fun c_3 => ?_) (fun c_3 => ?_)
      · replace hf := ifT c_3 hf
        obtain rfl := Option.some.inj hf
        exact ww_vret C ⟨rfl, rfl⟩ dL_walkOf_52
      · replace hf := ifF c_3 hf
        refine ww_aload_n C dL_walkOf_44 rfl 0 rfl ?_
        refine ww_aload_n C dL_walkOf_45 rfl 1 rfl ?_
        refine ww_ldcS C (i := 22) rfl dL_walkOf_46 ?_
        refine ww_iload_n C dL_walkOf_48 rfl 2 rfl ?_
        obtain ⟨p49, hp49, hf⟩ := bdE hf
        refine ww_callS C (As := [.ref (a0 0), .ref q2, .ref (eK E 22), .int x3]) (st := []) (gr := [wArr E q3 n3 v3]) (c_L_with (E := E) (a0 := a0) (h0_0 := h0_0) (h0_1 := h0_1) (h0_2 := h0_2) (h0_3 := h0_3) (h0_4 := h0_4) (h0_5 := h0_5) (h0_6 := h0_6) (h0_8 := h0_8) (h0_9 := h0_9) (a1 := a1) (q2 := q2) hp49) gL_walkOf_L_with rfl ysk_L_with ⟨by decide, Nat.le_of_ble_eq_true rfl⟩ ⟨by decide, by decide⟩ [0, 1, 2] [3] 4 rfl (by decide) rfl rfl (Nat.le_of_ble_eq_true rfl) dL_walkOf_49 ?_
        rintro _ _ ⟨rfl, rfl⟩
        refine ww_perm (gs' := [wGW E a0 (rf10 h0_0 h0_1 h0_2 h0_3 h0_4 h0_5 h0_6 (a1 0) h0_8 h0_9) v0, wToks E a1 p49.1, wArr E q2 6 p49.2, wArr E q3 n3 v3]) [0, 1, 2, 3] 4 rfl (by decide) rfl ?_
        obtain rfl := Option.some.inj hf
        exact ww_vret C ⟨rfl, rfl⟩ dL_walkOf_52
    · replace hf := ifF c_2 hf
      refine ww_aload C dL_walkOf_18 3 rfl ?_
      refine ww_iload C dL_walkOf_20 5 rfl ?_
      obtain ⟨g_4, hf⟩ := gdE hf
      refine ww_iald C (f := v3) (w := wArr E q3 n3 v3) 3 0 rfl q_Arr (inB_vp g_4) dL_walkOf_22 ?_
      refine ww_topi (fun x7_23 e_x7_23 => ?_)
      replace hf := ltE e_x7_23 hf
      refine ww_istore (lv' := [(7, .int x7_23), (0, .ref (a0 0)), (1, .ref q2), (3, .int x3), (4, .ref q3), (5, .int x5), (6, .int x6)]) C dL_walkOf_23 (by decide) rfl ?_
      refine ww_aload_n C dL_walkOf_25 rfl 1 rfl ?_
      refine ww_aload_n C dL_walkOf_26 rfl 2 rfl ?_
      refine ww_ldcS C (i := 18) rfl dL_walkOf_27 ?_
      refine ww_iload C dL_walkOf_29 0 rfl ?_
      obtain ⟨p31, hp31, hf⟩ := bdE hf
      refine ww_callS C (As := [.ref (a0 0), .ref q2, .ref (eK E 18), .int x7_23]) (st := []) (gr := [wArr E q3 n3 v3]) (c_L_with (E := E) (a0 := a0) (h0_0 := h0_0) (h0_1 := h0_1) (h0_2 := h0_2) (h0_3 := h0_3) (h0_4 := h0_4) (h0_5 := h0_5) (h0_6 := h0_6) (h0_8 := h0_8) (h0_9 := h0_9) (a1 := a1) (q2 := q2) hp31) gL_walkOf_L_with rfl ysk_L_with ⟨by decide, Nat.le_of_ble_eq_true rfl⟩ ⟨by decide, by decide⟩ [0, 1, 2] [3] 4 rfl (by decide) rfl rfl (Nat.le_of_ble_eq_true rfl) dL_walkOf_31 ?_
      rintro _ _ ⟨rfl, rfl⟩
      refine ww_perm (gs' := [wGW E a0 (rf10 h0_0 h0_1 h0_2 h0_3 h0_4 h0_5 h0_6 (a1 0) h0_8 h0_9) v0, wToks E a1 p31.1, wArr E q2 6 p31.2, wArr E q3 n3 v3]) [0, 1, 2, 3] 4 rfl (by decide) rfl ?_
      obtain ⟨x6_34, e_x6_34⟩ : ∃ y : Int32, y = x6 + 1 := ⟨_, rfl⟩
      replace hf := ltE e_x6_34 hf
      refine ww_iinc (v := x6_34) (lv' := [(6, .int x6_34), (7, .int x7_23), (0, .ref (a0 0)), (1, .ref q2), (3, .int x3), (4, .ref q3), (5, .int x5)]) C dL_walkOf_34 6 rfl (by rw [e_x6_34]; rfl) (by decide) rfl ?_
      refine ww_goto (tgt := 11) C dL_walkOf_37 (by decide) ?_
      refine ww_sub C (lv' := [(0, .ref (a0 0)), (1, .ref q2), (3, .int x3), (4, .ref q3), (5, .int x5), (6, .int x6_34)]) [2, 3, 4, 5, 6, 0] rfl ?_
      exact ih _ _ _ hf

set_option maxHeartbeats 4000000 in
set_option maxRecDepth 100000 in
theorem c_L_walkOf {E : Ex} {a0 : Nat → Nat} {a1 : Nat → Nat} {q2 : Nat} {q3 : Nat} {h0_0 h0_1 h0_2 h0_3 h0_4 h0_5 h0_6 h0_8 h0_9 : Nat} {x3 : Int32} {v0 : GWV} {v1 : ToksV} {v2 : Nat → Int32} {n3 : Nat} {v3 : Nat → Int32} {r : (ToksV × (Nat → Int32))} (hf : L_walkOf x3 v0 v1 v2 n3 v3 = some r) : Ct E yL_walkOf wsL_walkOf rmL_walkOf [.ref (a0 0), .ref q2, .ref q3, .int x3] [wGW E a0 (rf10 h0_0 h0_1 h0_2 h0_3 h0_4 h0_5 h0_6 (a1 0) h0_8 h0_9) v0, wToks E a1 v1, wArr E q2 6 v2, wArr E q3 n3 v3] (fun rv g => rv = none ∧ g = [wGW E a0 (rf10 h0_0 h0_1 h0_2 h0_3 h0_4 h0_5 h0_6 (a1 0) h0_8 h0_9) v0, wToks E a1 r.1, wArr E q2 6 r.2, wArr E q3 n3 v3]) := by
  refine ct_of (own := RL) (by decide +kernel) rfl rfl (Nat.le_of_ble_eq_true rfl) (fun K C => ?_)
  refine ww_sub C (lv' := [(0, .ref (a0 0)), (1, .ref q2), (2, .ref q3), (3, .int x3)]) [0, 1, 2, 3] rfl ?_
  rw [L_walkOf] at hf
  refine ww_aload_n C dL_walkOf_0 rfl 2 rfl ?_
  refine ww_astore (lv' := [(4, .ref q3), (0, .ref (a0 0)), (1, .ref q2), (2, .ref q3), (3, .int x3)]) C dL_walkOf_1 (by decide) rfl ?_
  refine ww_aload C dL_walkOf_3 0 rfl ?_
  refine ww_alen C (v := nI n3) (w := wArr E q3 n3 v3) 3 0 rfl q_Arr rfl dL_walkOf_5 ?_
  refine ww_topi (fun x5_6 e_x5_6 => ?_)
  replace hf := ltE e_x5_6 hf
  refine ww_istore (lv' := [(5, .int x5_6), (4, .ref q3), (0, .ref (a0 0)), (1, .ref q2), (2, .ref q3), (3, .int x3)]) C dL_walkOf_6 (by decide) rfl ?_
  refine ww_iconst (v := 0) C dL_walkOf_8 (by decide) ?_
  refine ww_istore (lv' := [(6, .int 0), (5, .int x5_6), (4, .ref q3), (0, .ref (a0 0)), (1, .ref q2), (2, .ref q3), (3, .int x3)]) C dL_walkOf_9 (by decide) rfl ?_
  refine ww_sub C (lv' := [(0, .ref (a0 0)), (1, .ref q2), (3, .int x3), (4, .ref q3), (5, .int x5_6), (6, .int 0)]) [3, 4, 6, 2, 1, 0] rfl ?_
  exact w_L_walkOf_11 C FU _ _ _ hf

theorem ysk_L_walkOf : yL_walkOf.cls ≠ "java/lang/invoke/MethodHandle" ∧ yL_walkOf.cls ≠ "java/lang/invoke/VarHandle" ∧ (parseMethodDescriptor yL_walkOf.desc).map (fun d => d.parameters.length) = some 4 := by decide +kernel
abbrev rmL_tell : Room := { frames := 12, cells := 0, slots := 0, locals := 360 }
set_option maxRecDepth 20000 in
theorem in_L_tell_X9 : ∀ w ∈ u_ws RX9 TX9 8, w ∈ wsL_tell := by decide +kernel
set_option maxHeartbeats 4000000 in
set_option maxRecDepth 100000 in
theorem w_L_tell_137 {E : Ex} {K : Kx} (C : Cx E K cL_tell 4 (some .int) RL wsL_tell rmL_tell) {a0 : Nat → Nat} {a1 : Nat → Nat} {a2 : Nat → Nat} {a3 : Nat → Nat} {a4 : Nat → Nat} {a5 : Nat → Nat} {q6 : Nat} {a7 : Nat → Nat} {q8 : Nat} {a9 : Nat → Nat} {q10 : Nat} {a11 : Nat → Nat} {q12 : Nat} {a13 : Nat → Nat} {q14 : Nat} {h0_3 h0_4 h0_5 h0_6 h0_9 h3_0 h3_1 : Nat} {v7 : OwnV} {v8 : Nat} {v9 : RowsT} {v10 : Nat} {v11 : RowsT} {v12 : Nat} {v13 : RowsT} {v14 : Nat → Int32}  {r : (Int32 × GWV × HouseV × HouseV × HistV × ToksV × (Nat → Int32))} : ∀ (n : Nat)  (x3 : Int32) (v0 : GWV) (v1 : HouseV) (v2 : HouseV) (v3 : HistV) (v4 : ToksV) (v6 : Nat → Int32), L_tell_137 v7 v8 v9 v10 v11 v12 v13 v14 n x3 v0 v1 v2 v3 v4 v6 = some r → WW E K 0 0 (QQ E K (fun rv g => rv = some (.int r.1) ∧ g = [wGW E a0 (rf10 (a1 0) (a2 0) (a3 0) h0_3 h0_4 h0_5 h0_6 (a4 0) (a5 0) h0_9) r.2.1, wHouse E a1 r.2.2.1, wHouse E a2 r.2.2.2.1, wHist E a3 (rf2 h3_0 h3_1) r.2.2.2.2.1, wToks E a4 r.2.2.2.2.2.1, wHRead E a5 (rf1 (a4 0)), wArr E q6 6 r.2.2.2.2.2.2, wOwn E a7 (rf4 q8 q10 q12 q14) v7, wRO E q8 20 a9 v8, wRR E a9 v9, wRO E q10 12 a11 v10, wRR E a11 v11, wRO E q12 4 a13 v12, wRR E a13 v13, wArr E q14 4 v14]) 0 0) 137 [(0, .ref (a0 0)), (1, .ref q6), (2, .ref (a7 0)), (3, .int x3)] [] [wGW E a0 (rf10 (a1 0) (a2 0) (a3 0) h0_3 h0_4 h0_5 h0_6 (a4 0) (a5 0) h0_9) v0, wHouse E a1 v1, wHouse E a2 v2, wHist E a3 (rf2 h3_0 h3_1) v3, wToks E a4 v4, wHRead E a5 (rf1 (a4 0)), wArr E q6 6 v6, wOwn E a7 (rf4 q8 q10 q12 q14) v7, wRO E q8 20 a9 v8, wRR E a9 v9, wRO E q10 12 a11 v10, wRR E a11 v11, wRO E q12 4 a13 v12, wRR E a13 v13, wArr E q14 4 v14] := by
  intro n
  induction n with
  | zero =>
    intro  x3 v0 v1 v2 v3 v4 v6 hf
    simp [L_tell_137] at hf
  | succ n ih =>
    intro  x3 v0 v1 v2 v3 v4 v6 hf
    rw [L_tell_137] at hf
    refine ww_iload_n C dL_tell_137 rfl 3 rfl ?_
    refine ww_aload_n C dL_tell_138 rfl 2 rfl ?_
    refine ww_getN C clOK9 in_L_tell_X9 (w := wOwn E a7 (rf4 q8 q10 q12 q14) v7) (fs := fsOwn a7 (rf4 q8 q10 q12 q14) v7) (v := .int (Own_rooms v7)) 7 0 0 rfl q_Own (by decide) (by decide +kernel) g_Own_rooms dL_tell_139 ?_
    refine ww_icmp_ge (tgt := 197) C dL_tell_142 (by decide) (fun c_13 => ?_) (fun c_13 => ?_)
    · replace hf := ifT c_13 hf
      refine ww_aload_n C dL_tell_197 rfl 0 rfl ?_
      refine ww_aload_n C dL_tell_198 rfl 0 rfl ?_
      refine ww_aload_n C dL_tell_199 rfl 1 rfl ?_
      obtain ⟨p200, hp200, hf⟩ := bdE hf
      refine ww_callS C (As := [.ref (a0 0), .ref q6]) (st := [.ref (a0 0)]) (gr := [wHouse E a1 v1, wHouse E a2 v2, wHist E a3 (rf2 h3_0 h3_1) v3, wHRead E a5 (rf1 (a4 0)), wOwn E a7 (rf4 q8 q10 q12 q14) v7, wRO E q8 20 a9 v8, wRR E a9 v9, wRO E q10 12 a11 v10, wRR E a11 v11, wRO E q12 4 a13 v12, wRR E a13 v13, wArr E q14 4 v14]) (c_L_end (E := E) (a0 := a0) (h0_0 := a1 0) (h0_1 := a2 0) (h0_2 := a3 0) (h0_3 := h0_3) (h0_4 := h0_4) (h0_5 := h0_5) (h0_6 := h0_6) (h0_8 := a5 0) (h0_9 := h0_9) (a1 := a4) (q2 := q6) hp200) gL_tell_L_end rfl ysk_L_end ⟨by decide, Nat.le_of_ble_eq_true rfl⟩ ⟨by decide, by decide⟩ [0, 4, 6] [1, 2, 3, 5, 7, 8, 9, 10, 11, 12, 13, 14] 15 rfl (by decide) rfl rfl (Nat.le_of_ble_eq_true rfl) dL_tell_200 ?_
      rintro _ _ ⟨rfl, rfl⟩
      refine ww_perm (gs' := [wGW E a0 (rf10 (a1 0) (a2 0) (a3 0) h0_3 h0_4 h0_5 h0_6 (a4 0) (a5 0) h0_9) v0, wHouse E a1 v1, wHouse E a2 v2, wHist E a3 (rf2 h3_0 h3_1) v3, wToks E a4 p200.2.1, wHRead E a5 (rf1 (a4 0)), wArr E q6 6 p200.2.2, wOwn E a7 (rf4 q8 q10 q12 q14) v7, wRO E q8 20 a9 v8, wRR E a9 v9, wRO E q10 12 a11 v10, wRR E a11 v11, wRO E q12 4 a13 v12, wRR E a13 v13, wArr E q14 4 v14]) [0, 3, 4, 5, 1, 6, 2, 7, 8, 9, 10, 11, 12, 13, 14] 15 rfl (by decide) rfl ?_
      obtain ⟨p203, hp203, hf⟩ := bdE hf
      refine ww_callV C (As := [.int p200.1]) (st := []) (gr := [wArr E q6 6 p200.2.2, wOwn E a7 (rf4 q8 q10 q12 q14) v7, wRO E q8 20 a9 v8, wRR E a9 v9, wRO E q10 12 a11 v10, wRR E a11 v11, wRO E q12 4 a13 v12, wRR E a13 v13, wArr E q14 4 v14]) (c_X8_load (E := E) (a0 := a0) (h0_3 := h0_3) (h0_4 := h0_4) (h0_5 := h0_5) (h0_6 := h0_6) (h0_9 := h0_9) (a1 := a1) (a2 := a2) (a3 := a3) (h3_0 := h3_0) (h3_1 := h3_1) (a4 := a4) (a5 := a5) hp203) gL_tell_X8_load rfl yk_X8_load ⟨by decide, Nat.le_of_ble_eq_true rfl⟩ ⟨by decide, by decide⟩ clOK8 0 0 rfl rfl [0, 1, 2, 3, 4, 5] [6, 7, 8, 9, 10, 11, 12, 13, 14] 15 rfl (by decide) rfl rfl (Nat.le_of_ble_eq_true rfl) dL_tell_203 ?_
      rintro _ _ ⟨rfl, rfl⟩
      refine ww_perm (gs' := [wGW E a0 (rf10 (a1 0) (a2 0) (a3 0) h0_3 h0_4 h0_5 h0_6 (a4 0) (a5 0) h0_9) p203.2.1, wHouse E a1 p203.2.2.1, wHouse E a2 p203.2.2.2.1, wHist E a3 (rf2 h3_0 h3_1) p203.2.2.2.2.1, wToks E a4 p203.2.2.2.2.2, wHRead E a5 (rf1 (a4 0)), wArr E q6 6 p200.2.2, wOwn E a7 (rf4 q8 q10 q12 q14) v7, wRO E q8 20 a9 v8, wRR E a9 v9, wRO E q10 12 a11 v10, wRR E a11 v11, wRO E q12 4 a13 v12, wRR E a13 v13, wArr E q14 4 v14]) [0, 1, 2, 3, 4, 5, 6, 7, 8, 9, 10, 11, 12, 13, 14] 15 rfl (by decide) rfl ?_
      obtain rfl := Option.some.inj hf
      exact ww_iret C ⟨rfl, rfl⟩ dL_tell_206
    · replace hf := ifF c_13 hf
      refine ww_aload_n C dL_tell_145 rfl 2 rfl ?_
      refine ww_getN C clOK9 in_L_tell_X9 (w := wOwn E a7 (rf4 q8 q10 q12 q14) v7) (fs := fsOwn a7 (rf4 q8 q10 q12 q14) v7) (v := .ref q10) 7 0 5 rfl q_Own (by decide) (by decide +kernel) g_Own_room dL_tell_146 ?_
      refine ww_iload_n C dL_tell_149 rfl 3 rfl ?_
      obtain ⟨g_14, hf⟩ := gdE hf
      obtain ⟨g_15, hf⟩ := gdE hf
      refine ww_aldR C (f := roF a11 v10) (w := wRO E q10 12 a11 v10) 10 0 rfl q_RO (inB_vp g_14) (roF_at (of_decide_eq_true g_15)) dL_tell_150 ?_
      refine ww_iconst (v := 0) C dL_tell_151 (by decide) ?_
      obtain ⟨g_16, hf⟩ := gdE hf
      obtain ⟨g_17, hf⟩ := gdE hf
      refine ww_iald C (f := v11.2.2 (Int32.toNatClampNeg x3)) (w := wRR E a11 v11) 11 (Int32.toNatClampNeg x3) rfl (q_RR (of_decide_eq_true g_16)) (inB_vp g_17) dL_tell_152 ?_
      refine ww_bipush (v := 99) C dL_tell_153 (by decide) ?_
      refine ww_icmp_ne (tgt := 161) C dL_tell_155 (by decide) (fun c_18 => ?_) (fun c_18 => ?_)
      · replace hf := ifF c_18 hf
        refine ww_aload_n C dL_tell_161 rfl 0 rfl ?_
        refine ww_aload_n C dL_tell_162 rfl 1 rfl ?_
        refine ww_ldcS C (i := 23) rfl dL_tell_163 ?_
        refine ww_iload_n C dL_tell_165 rfl 3 rfl ?_
        obtain ⟨p166, hp166, hf⟩ := bdE hf
        refine ww_callS C (As := [.ref (a0 0), .ref q6, .ref (eK E 23), .int x3]) (st := []) (gr := [wHouse E a1 v1, wHouse E a2 v2, wHist E a3 (rf2 h3_0 h3_1) v3, wHRead E a5 (rf1 (a4 0)), wOwn E a7 (rf4 q8 q10 q12 q14) v7, wRO E q8 20 a9 v8, wRR E a9 v9, wRO E q10 12 a11 v10, wRR E a11 v11, wRO E q12 4 a13 v12, wRR E a13 v13, wArr E q14 4 v14]) (c_L_with (E := E) (a0 := a0) (h0_0 := a1 0) (h0_1 := a2 0) (h0_2 := a3 0) (h0_3 := h0_3) (h0_4 := h0_4) (h0_5 := h0_5) (h0_6 := h0_6) (h0_8 := a5 0) (h0_9 := h0_9) (a1 := a4) (q2 := q6) hp166) gL_tell_L_with rfl ysk_L_with ⟨by decide, Nat.le_of_ble_eq_true rfl⟩ ⟨by decide, by decide⟩ [0, 4, 6] [1, 2, 3, 5, 7, 8, 9, 10, 11, 12, 13, 14] 15 rfl (by decide) rfl rfl (Nat.le_of_ble_eq_true rfl) dL_tell_166 ?_
        rintro _ _ ⟨rfl, rfl⟩
        refine ww_perm (gs' := [wGW E a0 (rf10 (a1 0) (a2 0) (a3 0) h0_3 h0_4 h0_5 h0_6 (a4 0) (a5 0) h0_9) v0, wHouse E a1 v1, wHouse E a2 v2, wHist E a3 (rf2 h3_0 h3_1) v3, wToks E a4 p166.1, wHRead E a5 (rf1 (a4 0)), wArr E q6 6 p166.2, wOwn E a7 (rf4 q8 q10 q12 q14) v7, wRO E q8 20 a9 v8, wRR E a9 v9, wRO E q10 12 a11 v10, wRR E a11 v11, wRO E q12 4 a13 v12, wRR E a13 v13, wArr E q14 4 v14]) [0, 3, 4, 5, 1, 6, 2, 7, 8, 9, 10, 11, 12, 13, 14] 15 rfl (by decide) rfl ?_
        refine ww_aload_n C dL_tell_169 rfl 0 rfl ?_
        refine ww_aload_n C dL_tell_170 rfl 1 rfl ?_
        refine ww_ldcS C (i := 18) rfl dL_tell_171 ?_
        refine ww_aload_n C dL_tell_173 rfl 2 rfl ?_
        refine ww_getN C clOK9 in_L_tell_X9 (w := wOwn E a7 (rf4 q8 q10 q12 q14) v7) (fs := fsOwn a7 (rf4 q8 q10 q12 q14) v7) (v := .ref q10) 7 0 5 rfl q_Own (by decide) (by decide +kernel) g_Own_room dL_tell_174 ?_
        refine ww_iload_n C dL_tell_177 rfl 3 rfl ?_
        refine ww_aldR C (f := roF a11 v10) (w := wRO E q10 12 a11 v10) 10 0 rfl q_RO (inB_vp g_14) (roF_at (of_decide_eq_true g_15)) dL_tell_178 ?_
        refine ww_iconst (v := 0) C dL_tell_179 (by decide) ?_
        refine ww_iald C (f := v11.2.2 (Int32.toNatClampNeg x3)) (w := wRR E a11 v11) 11 (Int32.toNatClampNeg x3) rfl (q_RR (of_decide_eq_true g_16)) (inB_vp g_17) dL_tell_180 ?_
        obtain ⟨p181, hp181, hf⟩ := bdE hf
        refine ww_callS C (As := [.ref (a0 0), .ref q6, .ref (eK E 18), .int (v11.2.2 (Int32.toNatClampNeg x3) (Int32.toNatClampNeg 0))]) (st := []) (gr := [wHouse E a1 v1, wHouse E a2 v2, wHist E a3 (rf2 h3_0 h3_1) v3, wHRead E a5 (rf1 (a4 0)), wOwn E a7 (rf4 q8 q10 q12 q14) v7, wRO E q8 20 a9 v8, wRR E a9 v9, wRO E q10 12 a11 v10, wRR E a11 v11, wRO E q12 4 a13 v12, wRR E a13 v13, wArr E q14 4 v14]) (c_L_with (E := E) (a0 := a0) (h0_0 := a1 0) (h0_1 := a2 0) (h0_2 := a3 0) (h0_3 := h0_3) (h0_4 := h0_4) (h0_5 := h0_5) (h0_6 := h0_6) (h0_8 := a5 0) (h0_9 := h0_9) (a1 := a4) (q2 := q6) hp181) gL_tell_L_with rfl ysk_L_with ⟨by decide, Nat.le_of_ble_eq_true rfl⟩ ⟨by decide, by decide⟩ [0, 4, 6] [1, 2, 3, 5, 7, 8, 9, 10, 11, 12, 13, 14] 15 rfl (by decide) rfl rfl (Nat.le_of_ble_eq_true rfl) dL_tell_181 ?_
        rintro _ _ ⟨rfl, rfl⟩
        refine ww_perm (gs' := [wGW E a0 (rf10 (a1 0) (a2 0) (a3 0) h0_3 h0_4 h0_5 h0_6 (a4 0) (a5 0) h0_9) v0, wHouse E a1 v1, wHouse E a2 v2, wHist E a3 (rf2 h3_0 h3_1) v3, wToks E a4 p181.1, wHRead E a5 (rf1 (a4 0)), wArr E q6 6 p181.2, wOwn E a7 (rf4 q8 q10 q12 q14) v7, wRO E q8 20 a9 v8, wRR E a9 v9, wRO E q10 12 a11 v10, wRR E a11 v11, wRO E q12 4 a13 v12, wRR E a13 v13, wArr E q14 4 v14]) [0, 3, 4, 5, 1, 6, 2, 7, 8, 9, 10, 11, 12, 13, 14] 15 rfl (by decide) rfl ?_
        refine ww_aload_n C dL_tell_184 rfl 0 rfl ?_
        refine ww_aload_n C dL_tell_185 rfl 1 rfl ?_
        refine ww_bipush (v := 59) C dL_tell_186 (by decide) ?_
        obtain ⟨p188, hp188, hf⟩ := bdE hf
        refine ww_callS C (As := [.ref (a0 0), .ref q6, .int 59]) (st := []) (gr := [wHouse E a1 v1, wHouse E a2 v2, wHist E a3 (rf2 h3_0 h3_1) v3, wHRead E a5 (rf1 (a4 0)), wOwn E a7 (rf4 q8 q10 q12 q14) v7, wRO E q8 20 a9 v8, wRR E a9 v9, wRO E q10 12 a11 v10, wRR E a11 v11, wRO E q12 4 a13 v12, wRR E a13 v13, wArr E q14 4 v14]) (c_L_add (E := E) (a0 := a0) (h0_0 := a1 0) (h0_1 := a2 0) (h0_2 := a3 0) (h0_3 := h0_3) (h0_4 := h0_4) (h0_5 := h0_5) (h0_6 := h0_6) (h0_8 := a5 0) (h0_9 := h0_9) (a1 := a4) (q2 := q6) hp188) gL_tell_L_add rfl ysk_L_add ⟨by decide, Nat.le_of_ble_eq_true rfl⟩ ⟨by decide, by decide⟩ [0, 4, 6] [1, 2, 3, 5, 7, 8, 9, 10, 11, 12, 13, 14] 15 rfl (by decide) rfl rfl (Nat.le_of_ble_eq_true rfl) dL_tell_188 ?_
        rintro _ _ ⟨rfl, rfl⟩
        refine ww_perm (gs' := [wGW E a0 (rf10 (a1 0) (a2 0) (a3 0) h0_3 h0_4 h0_5 h0_6 (a4 0) (a5 0) h0_9) v0, wHouse E a1 v1, wHouse E a2 v2, wHist E a3 (rf2 h3_0 h3_1) v3, wToks E a4 p188.1, wHRead E a5 (rf1 (a4 0)), wArr E q6 6 p188.2, wOwn E a7 (rf4 q8 q10 q12 q14) v7, wRO E q8 20 a9 v8, wRR E a9 v9, wRO E q10 12 a11 v10, wRR E a11 v11, wRO E q12 4 a13 v12, wRR E a13 v13, wArr E q14 4 v14]) [0, 3, 4, 5, 1, 6, 2, 7, 8, 9, 10, 11, 12, 13, 14] 15 rfl (by decide) rfl ?_
        obtain ⟨x3_191, e_x3_191⟩ : ∃ y : Int32, y = x3 + 1 := ⟨_, rfl⟩
        replace hf := ltE e_x3_191 hf
        refine ww_iinc (v := x3_191) (lv' := [(3, .int x3_191), (0, .ref (a0 0)), (1, .ref q6), (2, .ref (a7 0))]) C dL_tell_191 3 rfl (by rw [e_x3_191]; rfl) (by decide) rfl ?_
        refine ww_goto (tgt := 137) C dL_tell_194 (by decide) ?_
        refine ww_sub C (lv' := [(0, .ref (a0 0)), (1, .ref q6), (2, .ref (a7 0)), (3, .int x3_191)]) [1, 2, 3, 0] rfl ?_
        exact ih _ _ _ _ _ _ _ hf
      · replace hf := ifT c_18 hf
        refine ww_goto (tgt := 191) C dL_tell_158 (by decide) ?_
        obtain ⟨x3_191, e_x3_191⟩ : ∃ y : Int32, y = x3 + 1 := ⟨_, rfl⟩
        replace hf := ltE e_x3_191 hf
        refine ww_iinc (v := x3_191) (lv' := [(3, .int x3_191), (0, .ref (a0 0)), (1, .ref q6), (2, .ref (a7 0))]) C dL_tell_191 3 rfl (by rw [e_x3_191]; rfl) (by decide) rfl ?_
        refine ww_goto (tgt := 137) C dL_tell_194 (by decide) ?_
        refine ww_sub C (lv' := [(0, .ref (a0 0)), (1, .ref q6), (2, .ref (a7 0)), (3, .int x3_191)]) [1, 2, 3, 0] rfl ?_
        exact ih _ _ _ _ _ _ _ hf

set_option maxHeartbeats 4000000 in
set_option maxRecDepth 100000 in
theorem w_L_tell_79 {E : Ex} {K : Kx} (C : Cx E K cL_tell 4 (some .int) RL wsL_tell rmL_tell) {a0 : Nat → Nat} {a1 : Nat → Nat} {a2 : Nat → Nat} {a3 : Nat → Nat} {a4 : Nat → Nat} {a5 : Nat → Nat} {q6 : Nat} {a7 : Nat → Nat} {q8 : Nat} {a9 : Nat → Nat} {q10 : Nat} {a11 : Nat → Nat} {q12 : Nat} {a13 : Nat → Nat} {q14 : Nat} {h0_3 h0_4 h0_5 h0_6 h0_9 h3_0 h3_1 : Nat} {v7 : OwnV} {v8 : Nat} {v9 : RowsT} {v10 : Nat} {v11 : RowsT} {v12 : Nat} {v13 : RowsT} {v14 : Nat → Int32}   {x3 : Int32} {s0 : Nat} {v0 : GWV} {v1 : HouseV} {v2 : HouseV} {v3 : HistV} {v4 : ToksV} {v6 : Nat → Int32} {k20 : Int32 → GWV → HouseV → HouseV → HistV → ToksV → (Nat → Int32) → Option (Int32 × GWV × HouseV × HouseV × HistV × ToksV × (Nat → Int32))} {r : (Int32 × GWV × HouseV × HouseV × HistV × ToksV × (Nat → Int32))} (hk20 : ∀  (x3 : Int32) (v0 : GWV) (v1 : HouseV) (v2 : HouseV) (v3 : HistV) (v4 : ToksV) (v6 : Nat → Int32), k20 x3 v0 v1 v2 v3 v4 v6 = some r → WW E K 0 0 (QQ E K (fun rv g => rv = some (.int r.1) ∧ g = [wGW E a0 (rf10 (a1 0) (a2 0) (a3 0) h0_3 h0_4 h0_5 h0_6 (a4 0) (a5 0) h0_9) r.2.1, wHouse E a1 r.2.2.1, wHouse E a2 r.2.2.2.1, wHist E a3 (rf2 h3_0 h3_1) r.2.2.2.2.1, wToks E a4 r.2.2.2.2.2.1, wHRead E a5 (rf1 (a4 0)), wArr E q6 6 r.2.2.2.2.2.2, wOwn E a7 (rf4 q8 q10 q12 q14) v7, wRO E q8 20 a9 v8, wRR E a9 v9, wRO E q10 12 a11 v10, wRR E a11 v11, wRO E q12 4 a13 v12, wRR E a13 v13, wArr E q14 4 v14]) 0 0) 20 [(0, .ref (a0 0)), (1, .ref q6), (2, .ref (a7 0)), (3, .int x3)] [] [wGW E a0 (rf10 (a1 0) (a2 0) (a3 0) h0_3 h0_4 h0_5 h0_6 (a4 0) (a5 0) h0_9) v0, wHouse E a1 v1, wHouse E a2 v2, wHist E a3 (rf2 h3_0 h3_1) v3, wToks E a4 v4, wHRead E a5 (rf1 (a4 0)), wArr E q6 6 v6, wOwn E a7 (rf4 q8 q10 q12 q14) v7, wRO E q8 20 a9 v8, wRR E a9 v9, wRO E q10 12 a11 v10, wRR E a11 v11, wRO E q12 4 a13 v12, wRR E a13 v13, wArr E q14 4 v14]) (hf : L_tell_79 v7 v8 v9 v10 v11 v12 v13 v14 k20 x3 s0 v0 v1 v2 v3 v4 v6 = some r) : WW E K 0 0 (QQ E K (fun rv g => rv = some (.int r.1) ∧ g = [wGW E a0 (rf10 (a1 0) (a2 0) (a3 0) h0_3 h0_4 h0_5 h0_6 (a4 0) (a5 0) h0_9) r.2.1, wHouse E a1 r.2.2.1, wHouse E a2 r.2.2.2.1, wHist E a3 (rf2 h3_0 h3_1) r.2.2.2.2.1, wToks E a4 r.2.2.2.2.2.1, wHRead E a5 (rf1 (a4 0)), wArr E q6 6 r.2.2.2.2.2.2, wOwn E a7 (rf4 q8 q10 q12 q14) v7, wRO E q8 20 a9 v8, wRR E a9 v9, wRO E q10 12 a11 v10, wRR E a11 v11, wRO E q12 4 a13 v12, wRR E a13 v13, wArr E q14 4 v14]) 0 0) 79 [(0, .ref (a0 0)), (1, .ref q6), (2, .ref (a7 0)), (3, .int x3)] [.ref (eK E s0), .ref q6, .ref (a0 0)] [wGW E a0 (rf10 (a1 0) (a2 0) (a3 0) h0_3 h0_4 h0_5 h0_6 (a4 0) (a5 0) h0_9) v0, wHouse E a1 v1, wHouse E a2 v2, wHist E a3 (rf2 h3_0 h3_1) v3, wToks E a4 v4, wHRead E a5 (rf1 (a4 0)), wArr E q6 6 v6, wOwn E a7 (rf4 q8 q10 q12 q14) v7, wRO E q8 20 a9 v8, wRR E a9 v9, wRO E q10 12 a11 v10, wRR E a11 v11, wRO E q12 4 a13 v12, wRR E a13 v13, wArr E q14 4 v14] := by
  rw [L_tell_79] at hf
  obtain ⟨p79, hp79, hf⟩ := bdE hf
  refine ww_callS C (As := [.ref (a0 0), .ref q6, .ref (eK E s0)]) (st := []) (gr := [wHouse E a1 v1, wHouse E a2 v2, wHist E a3 (rf2 h3_0 h3_1) v3, wHRead E a5 (rf1 (a4 0)), wOwn E a7 (rf4 q8 q10 q12 q14) v7, wRO E q8 20 a9 v8, wRR E a9 v9, wRO E q10 12 a11 v10, wRR E a11 v11, wRO E q12 4 a13 v12, wRR E a13 v13, wArr E q14 4 v14]) (c_L_word (E := E) (a0 := a0) (h0_0 := a1 0) (h0_1 := a2 0) (h0_2 := a3 0) (h0_3 := h0_3) (h0_4 := h0_4) (h0_5 := h0_5) (h0_6 := h0_6) (h0_8 := a5 0) (h0_9 := h0_9) (a1 := a4) (q2 := q6) hp79) gL_tell_L_word rfl ysk_L_word ⟨by decide, Nat.le_of_ble_eq_true rfl⟩ ⟨by decide, by decide⟩ [0, 4, 6] [1, 2, 3, 5, 7, 8, 9, 10, 11, 12, 13, 14] 15 rfl (by decide) rfl rfl (Nat.le_of_ble_eq_true rfl) dL_tell_79 ?_
  rintro _ _ ⟨rfl, rfl⟩
  refine ww_perm (gs' := [wGW E a0 (rf10 (a1 0) (a2 0) (a3 0) h0_3 h0_4 h0_5 h0_6 (a4 0) (a5 0) h0_9) v0, wHouse E a1 v1, wHouse E a2 v2, wHist E a3 (rf2 h3_0 h3_1) v3, wToks E a4 p79.1, wHRead E a5 (rf1 (a4 0)), wArr E q6 6 p79.2, wOwn E a7 (rf4 q8 q10 q12 q14) v7, wRO E q8 20 a9 v8, wRR E a9 v9, wRO E q10 12 a11 v10, wRR E a11 v11, wRO E q12 4 a13 v12, wRR E a13 v13, wArr E q14 4 v14]) [0, 3, 4, 5, 1, 6, 2, 7, 8, 9, 10, 11, 12, 13, 14] 15 rfl (by decide) rfl ?_
  obtain ⟨x3_82, e_x3_82⟩ : ∃ y : Int32, y = x3 + 1 := ⟨_, rfl⟩
  replace hf := ltE e_x3_82 hf
  refine ww_iinc (v := x3_82) (lv' := [(3, .int x3_82), (0, .ref (a0 0)), (1, .ref q6), (2, .ref (a7 0))]) C dL_tell_82 3 rfl (by rw [e_x3_82]; rfl) (by decide) rfl ?_
  refine ww_goto (tgt := 20) C dL_tell_85 (by decide) ?_
  refine ww_sub C (lv' := [(0, .ref (a0 0)), (1, .ref q6), (2, .ref (a7 0)), (3, .int x3_82)]) [1, 2, 3, 0] rfl ?_
  exact hk20 _ _ _ _ _ _ _ hf

set_option maxHeartbeats 4000000 in
set_option maxRecDepth 100000 in
theorem w_L_tell_90 {E : Ex} {K : Kx} (C : Cx E K cL_tell 4 (some .int) RL wsL_tell rmL_tell) {a0 : Nat → Nat} {a1 : Nat → Nat} {a2 : Nat → Nat} {a3 : Nat → Nat} {a4 : Nat → Nat} {a5 : Nat → Nat} {q6 : Nat} {a7 : Nat → Nat} {q8 : Nat} {a9 : Nat → Nat} {q10 : Nat} {a11 : Nat → Nat} {q12 : Nat} {a13 : Nat → Nat} {q14 : Nat} {h0_3 h0_4 h0_5 h0_6 h0_9 h3_0 h3_1 : Nat} {v7 : OwnV} {v8 : Nat} {v9 : RowsT} {v10 : Nat} {v11 : RowsT} {v12 : Nat} {v13 : RowsT} {v14 : Nat → Int32}  {r : (Int32 × GWV × HouseV × HouseV × HistV × ToksV × (Nat → Int32))} : ∀ (n : Nat)  (x3 : Int32) (v0 : GWV) (v1 : HouseV) (v2 : HouseV) (v3 : HistV) (v4 : ToksV) (v6 : Nat → Int32), L_tell_90 v7 v8 v9 v10 v11 v12 v13 v14 n x3 v0 v1 v2 v3 v4 v6 = some r → WW E K 0 0 (QQ E K (fun rv g => rv = some (.int r.1) ∧ g = [wGW E a0 (rf10 (a1 0) (a2 0) (a3 0) h0_3 h0_4 h0_5 h0_6 (a4 0) (a5 0) h0_9) r.2.1, wHouse E a1 r.2.2.1, wHouse E a2 r.2.2.2.1, wHist E a3 (rf2 h3_0 h3_1) r.2.2.2.2.1, wToks E a4 r.2.2.2.2.2.1, wHRead E a5 (rf1 (a4 0)), wArr E q6 6 r.2.2.2.2.2.2, wOwn E a7 (rf4 q8 q10 q12 q14) v7, wRO E q8 20 a9 v8, wRR E a9 v9, wRO E q10 12 a11 v10, wRR E a11 v11, wRO E q12 4 a13 v12, wRR E a13 v13, wArr E q14 4 v14]) 0 0) 90 [(0, .ref (a0 0)), (1, .ref q6), (2, .ref (a7 0)), (3, .int x3)] [] [wGW E a0 (rf10 (a1 0) (a2 0) (a3 0) h0_3 h0_4 h0_5 h0_6 (a4 0) (a5 0) h0_9) v0, wHouse E a1 v1, wHouse E a2 v2, wHist E a3 (rf2 h3_0 h3_1) v3, wToks E a4 v4, wHRead E a5 (rf1 (a4 0)), wArr E q6 6 v6, wOwn E a7 (rf4 q8 q10 q12 q14) v7, wRO E q8 20 a9 v8, wRR E a9 v9, wRO E q10 12 a11 v10, wRR E a11 v11, wRO E q12 4 a13 v12, wRR E a13 v13, wArr E q14 4 v14] := by
  intro n
  induction n with
  | zero =>
    intro  x3 v0 v1 v2 v3 v4 v6 hf
    simp [L_tell_90] at hf
  | succ n ih =>
    intro  x3 v0 v1 v2 v3 v4 v6 hf
    rw [L_tell_90] at hf
    refine ww_iload_n C dL_tell_90 rfl 3 rfl ?_
    refine ww_aload_n C dL_tell_91 rfl 2 rfl ?_
    refine ww_getN C clOK9 in_L_tell_X9 (w := wOwn E a7 (rf4 q8 q10 q12 q14) v7) (fs := fsOwn a7 (rf4 q8 q10 q12 q14) v7) (v := .int (Own_guards v7)) 7 0 2 rfl q_Own (by decide) (by decide +kernel) g_Own_guards dL_tell_92 ?_
    refine ww_icmp_ge (tgt := 135) C dL_tell_95 (by decide) (fun c_9 => ?_) (fun c_9 => ?_)
    · replace hf := ifT c_9 hf
      refine ww_iconst (v := 0) C dL_tell_135 (by decide) ?_
      refine ww_istore_n (lv' := [(3, .int 0), (0, .ref (a0 0)), (1, .ref q6), (2, .ref (a7 0))]) C dL_tell_136 rfl (by decide) rfl ?_
      refine ww_sub C (lv' := [(0, .ref (a0 0)), (1, .ref q6), (2, .ref (a7 0)), (3, .int 0)]) [1, 2, 3, 0] rfl ?_
      exact w_L_tell_137 C FU _ _ _ _ _ _ _ hf
    · replace hf := ifF c_9 hf
      refine ww_aload_n C dL_tell_98 rfl 0 rfl ?_
      refine ww_aload_n C dL_tell_99 rfl 1 rfl ?_
      refine ww_ldcS C (i := 21) rfl dL_tell_100 ?_
      obtain ⟨p102, hp102, hf⟩ := bdE hf
      refine ww_callS C (As := [.ref (a0 0), .ref q6, .ref (eK E 21)]) (st := []) (gr := [wHouse E a1 v1, wHouse E a2 v2, wHist E a3 (rf2 h3_0 h3_1) v3, wHRead E a5 (rf1 (a4 0)), wOwn E a7 (rf4 q8 q10 q12 q14) v7, wRO E q8 20 a9 v8, wRR E a9 v9, wRO E q10 12 a11 v10, wRR E a11 v11, wRO E q12 4 a13 v12, wRR E a13 v13, wArr E q14 4 v14]) (c_L_word (E := E) (a0 := a0) (h0_0 := a1 0) (h0_1 := a2 0) (h0_2 := a3 0) (h0_3 := h0_3) (h0_4 := h0_4) (h0_5 := h0_5) (h0_6 := h0_6) (h0_8 := a5 0) (h0_9 := h0_9) (a1 := a4) (q2 := q6) hp102) gL_tell_L_word rfl ysk_L_word ⟨by decide, Nat.le_of_ble_eq_true rfl⟩ ⟨by decide, by decide⟩ [0, 4, 6] [1, 2, 3, 5, 7, 8, 9, 10, 11, 12, 13, 14] 15 rfl (by decide) rfl rfl (Nat.le_of_ble_eq_true rfl) dL_tell_102 ?_
      rintro _ _ ⟨rfl, rfl⟩
      refine ww_perm (gs' := [wGW E a0 (rf10 (a1 0) (a2 0) (a3 0) h0_3 h0_4 h0_5 h0_6 (a4 0) (a5 0) h0_9) v0, wHouse E a1 v1, wHouse E a2 v2, wHist E a3 (rf2 h3_0 h3_1) v3, wToks E a4 p102.1, wHRead E a5 (rf1 (a4 0)), wArr E q6 6 p102.2, wOwn E a7 (rf4 q8 q10 q12 q14) v7, wRO E q8 20 a9 v8, wRR E a9 v9, wRO E q10 12 a11 v10, wRR E a11 v11, wRO E q12 4 a13 v12, wRR E a13 v13, wArr E q14 4 v14]) [0, 3, 4, 5, 1, 6, 2, 7, 8, 9, 10, 11, 12, 13, 14] 15 rfl (by decide) rfl ?_
      refine ww_aload_n C dL_tell_105 rfl 0 rfl ?_
      refine ww_aload_n C dL_tell_106 rfl 1 rfl ?_
      refine ww_aload_n C dL_tell_107 rfl 2 rfl ?_
      refine ww_getN C clOK9 in_L_tell_X9 (w := wOwn E a7 (rf4 q8 q10 q12 q14) v7) (fs := fsOwn a7 (rf4 q8 q10 q12 q14) v7) (v := .ref q12) 7 0 6 rfl q_Own (by decide) (by decide +kernel) g_Own_walk dL_tell_108 ?_
      refine ww_iload_n C dL_tell_111 rfl 3 rfl ?_
      obtain ⟨g_10, hf⟩ := gdE hf
      obtain ⟨g_11, hf⟩ := gdE hf
      refine ww_aldR C (f := roF a13 v12) (w := wRO E q12 4 a13 v12) 12 0 rfl q_RO (inB_vp g_10) (roF_at (of_decide_eq_true g_11)) dL_tell_112 ?_
      refine ww_aload_n C dL_tell_113 rfl 2 rfl ?_
      refine ww_getN C clOK9 in_L_tell_X9 (w := wOwn E a7 (rf4 q8 q10 q12 q14) v7) (fs := fsOwn a7 (rf4 q8 q10 q12 q14) v7) (v := .ref q14) 7 0 7 rfl q_Own (by decide) (by decide +kernel) g_Own_phase dL_tell_114 ?_
      refine ww_iload_n C dL_tell_117 rfl 3 rfl ?_
      refine ww_iald C (f := v14) (w := wArr E q14 4 v14) 14 0 rfl q_Arr (inB_vp g_10) dL_tell_118 ?_
      obtain ⟨g_12, hf⟩ := gdE hf
      obtain ⟨p119, hp119, hf⟩ := bdE hf
      refine ww_regr (gs' := [wGW E a0 (rf10 (a1 0) (a2 0) (a3 0) h0_3 h0_4 h0_5 h0_6 (a4 0) (a5 0) h0_9) v0, wHouse E a1 v1, wHouse E a2 v2, wHist E a3 (rf2 h3_0 h3_1) v3, wToks E a4 p102.1, wHRead E a5 (rf1 (a4 0)), wArr E q6 6 p102.2, wOwn E a7 (rf4 q8 q10 q12 q14) v7, wRO E q8 20 a9 v8, wRR E a9 v9, wRO E q10 12 a11 v10, wRR E a11 v11, wRO E q12 4 a13 v12, wRRa E a13 v13 (Int32.toNatClampNeg x3), wArr E (a13 (Int32.toNatClampNeg x3)) (v13.2.1 (Int32.toNatClampNeg x3)) (v13.2.2 (Int32.toNatClampNeg x3)), wRRb E a13 v13 (Int32.toNatClampNeg x3), wArr E q14 4 v14]) (by rw [rr_cut (of_decide_eq_true g_12)]; simp only [List.flatten_cons, List.flatten_nil, List.append_assoc]) ?_
      refine ww_callS C (As := [.ref (a0 0), .ref q6, .ref (a13 (Int32.toNatClampNeg x3)), .int (v14 (Int32.toNatClampNeg x3))]) (st := []) (gr := [wHouse E a1 v1, wHouse E a2 v2, wHist E a3 (rf2 h3_0 h3_1) v3, wHRead E a5 (rf1 (a4 0)), wOwn E a7 (rf4 q8 q10 q12 q14) v7, wRO E q8 20 a9 v8, wRR E a9 v9, wRO E q10 12 a11 v10, wRR E a11 v11, wRO E q12 4 a13 v12, wRRa E a13 v13 (Int32.toNatClampNeg x3), wRRb E a13 v13 (Int32.toNatClampNeg x3), wArr E q14 4 v14]) (c_L_walkOf (E := E) (a0 := a0) (h0_0 := a1 0) (h0_1 := a2 0) (h0_2 := a3 0) (h0_3 := h0_3) (h0_4 := h0_4) (h0_5 := h0_5) (h0_6 := h0_6) (h0_8 := a5 0) (h0_9 := h0_9) (a1 := a4) (q2 := q6) (q3 := a13 (Int32.toNatClampNeg x3)) (n3 := (v13.2.1 (Int32.toNatClampNeg x3))) hp119) gL_tell_L_walkOf rfl ysk_L_walkOf ⟨by decide, Nat.le_of_ble_eq_true rfl⟩ ⟨by decide, by decide⟩ [0, 4, 6, 14] [1, 2, 3, 5, 7, 8, 9, 10, 11, 12, 13, 15, 16] 17 rfl (by decide) rfl rfl (Nat.le_of_ble_eq_true rfl) dL_tell_119 ?_
      rintro _ _ ⟨rfl, rfl⟩
      refine ww_perm (gs' := [wGW E a0 (rf10 (a1 0) (a2 0) (a3 0) h0_3 h0_4 h0_5 h0_6 (a4 0) (a5 0) h0_9) v0, wHouse E a1 v1, wHouse E a2 v2, wHist E a3 (rf2 h3_0 h3_1) v3, wToks E a4 p119.1, wHRead E a5 (rf1 (a4 0)), wArr E q6 6 p119.2, wOwn E a7 (rf4 q8 q10 q12 q14) v7, wRO E q8 20 a9 v8, wRR E a9 v9, wRO E q10 12 a11 v10, wRR E a11 v11, wRO E q12 4 a13 v12, wRRa E a13 v13 (Int32.toNatClampNeg x3), wArr E (a13 (Int32.toNatClampNeg x3)) (v13.2.1 (Int32.toNatClampNeg x3)) (v13.2.2 (Int32.toNatClampNeg x3)), wRRb E a13 v13 (Int32.toNatClampNeg x3), wArr E q14 4 v14]) [0, 4, 5, 6, 1, 7, 2, 8, 9, 10, 11, 12, 13, 14, 3, 15, 16] 17 rfl (by decide) rfl ?_
      refine ww_regr (gs' := [wGW E a0 (rf10 (a1 0) (a2 0) (a3 0) h0_3 h0_4 h0_5 h0_6 (a4 0) (a5 0) h0_9) v0, wHouse E a1 v1, wHouse E a2 v2, wHist E a3 (rf2 h3_0 h3_1) v3, wToks E a4 p119.1, wHRead E a5 (rf1 (a4 0)), wArr E q6 6 p119.2, wOwn E a7 (rf4 q8 q10 q12 q14) v7, wRO E q8 20 a9 v8, wRR E a9 v9, wRO E q10 12 a11 v10, wRR E a11 v11, wRO E q12 4 a13 v12, wRR E a13 v13, wArr E q14 4 v14]) (by rw [rr_cut (of_decide_eq_true g_12)]; simp only [List.flatten_cons, List.flatten_nil, List.append_assoc]) ?_
      refine ww_aload_n C dL_tell_122 rfl 0 rfl ?_
      refine ww_aload_n C dL_tell_123 rfl 1 rfl ?_
      refine ww_bipush (v := 59) C dL_tell_124 (by decide) ?_
      obtain ⟨p126, hp126, hf⟩ := bdE hf
      refine ww_callS C (As := [.ref (a0 0), .ref q6, .int 59]) (st := []) (gr := [wHouse E a1 v1, wHouse E a2 v2, wHist E a3 (rf2 h3_0 h3_1) v3, wHRead E a5 (rf1 (a4 0)), wOwn E a7 (rf4 q8 q10 q12 q14) v7, wRO E q8 20 a9 v8, wRR E a9 v9, wRO E q10 12 a11 v10, wRR E a11 v11, wRO E q12 4 a13 v12, wRR E a13 v13, wArr E q14 4 v14]) (c_L_add (E := E) (a0 := a0) (h0_0 := a1 0) (h0_1 := a2 0) (h0_2 := a3 0) (h0_3 := h0_3) (h0_4 := h0_4) (h0_5 := h0_5) (h0_6 := h0_6) (h0_8 := a5 0) (h0_9 := h0_9) (a1 := a4) (q2 := q6) hp126) gL_tell_L_add rfl ysk_L_add ⟨by decide, Nat.le_of_ble_eq_true rfl⟩ ⟨by decide, by decide⟩ [0, 4, 6] [1, 2, 3, 5, 7, 8, 9, 10, 11, 12, 13, 14] 15 rfl (by decide) rfl rfl (Nat.le_of_ble_eq_true rfl) dL_tell_126 ?_
      rintro _ _ ⟨rfl, rfl⟩
      refine ww_perm (gs' := [wGW E a0 (rf10 (a1 0) (a2 0) (a3 0) h0_3 h0_4 h0_5 h0_6 (a4 0) (a5 0) h0_9) v0, wHouse E a1 v1, wHouse E a2 v2, wHist E a3 (rf2 h3_0 h3_1) v3, wToks E a4 p126.1, wHRead E a5 (rf1 (a4 0)), wArr E q6 6 p126.2, wOwn E a7 (rf4 q8 q10 q12 q14) v7, wRO E q8 20 a9 v8, wRR E a9 v9, wRO E q10 12 a11 v10, wRR E a11 v11, wRO E q12 4 a13 v12, wRR E a13 v13, wArr E q14 4 v14]) [0, 3, 4, 5, 1, 6, 2, 7, 8, 9, 10, 11, 12, 13, 14] 15 rfl (by decide) rfl ?_
      obtain ⟨x3_129, e_x3_129⟩ : ∃ y : Int32, y = x3 + 1 := ⟨_, rfl⟩
      replace hf := ltE e_x3_129 hf
      refine ww_iinc (v := x3_129) (lv' := [(3, .int x3_129), (0, .ref (a0 0)), (1, .ref q6), (2, .ref (a7 0))]) C dL_tell_129 3 rfl (by rw [e_x3_129]; rfl) (by decide) rfl ?_
      refine ww_goto (tgt := 90) C dL_tell_132 (by decide) ?_
      refine ww_sub C (lv' := [(0, .ref (a0 0)), (1, .ref q6), (2, .ref (a7 0)), (3, .int x3_129)]) [1, 2, 3, 0] rfl ?_
      exact ih _ _ _ _ _ _ _ hf

set_option maxHeartbeats 4000000 in
set_option maxRecDepth 100000 in
theorem w_L_tell_20 {E : Ex} {K : Kx} (C : Cx E K cL_tell 4 (some .int) RL wsL_tell rmL_tell) {a0 : Nat → Nat} {a1 : Nat → Nat} {a2 : Nat → Nat} {a3 : Nat → Nat} {a4 : Nat → Nat} {a5 : Nat → Nat} {q6 : Nat} {a7 : Nat → Nat} {q8 : Nat} {a9 : Nat → Nat} {q10 : Nat} {a11 : Nat → Nat} {q12 : Nat} {a13 : Nat → Nat} {q14 : Nat} {h0_3 h0_4 h0_5 h0_6 h0_9 h3_0 h3_1 : Nat} {v7 : OwnV} {v8 : Nat} {v9 : RowsT} {v10 : Nat} {v11 : RowsT} {v12 : Nat} {v13 : RowsT} {v14 : Nat → Int32}  {r : (Int32 × GWV × HouseV × HouseV × HistV × ToksV × (Nat → Int32))} : ∀ (n : Nat)  (x3 : Int32) (v0 : GWV) (v1 : HouseV) (v2 : HouseV) (v3 : HistV) (v4 : ToksV) (v6 : Nat → Int32), L_tell_20 v7 v8 v9 v10 v11 v12 v13 v14 n x3 v0 v1 v2 v3 v4 v6 = some r → WW E K 0 0 (QQ E K (fun rv g => rv = some (.int r.1) ∧ g = [wGW E a0 (rf10 (a1 0) (a2 0) (a3 0) h0_3 h0_4 h0_5 h0_6 (a4 0) (a5 0) h0_9) r.2.1, wHouse E a1 r.2.2.1, wHouse E a2 r.2.2.2.1, wHist E a3 (rf2 h3_0 h3_1) r.2.2.2.2.1, wToks E a4 r.2.2.2.2.2.1, wHRead E a5 (rf1 (a4 0)), wArr E q6 6 r.2.2.2.2.2.2, wOwn E a7 (rf4 q8 q10 q12 q14) v7, wRO E q8 20 a9 v8, wRR E a9 v9, wRO E q10 12 a11 v10, wRR E a11 v11, wRO E q12 4 a13 v12, wRR E a13 v13, wArr E q14 4 v14]) 0 0) 20 [(0, .ref (a0 0)), (1, .ref q6), (2, .ref (a7 0)), (3, .int x3)] [] [wGW E a0 (rf10 (a1 0) (a2 0) (a3 0) h0_3 h0_4 h0_5 h0_6 (a4 0) (a5 0) h0_9) v0, wHouse E a1 v1, wHouse E a2 v2, wHist E a3 (rf2 h3_0 h3_1) v3, wToks E a4 v4, wHRead E a5 (rf1 (a4 0)), wArr E q6 6 v6, wOwn E a7 (rf4 q8 q10 q12 q14) v7, wRO E q8 20 a9 v8, wRR E a9 v9, wRO E q10 12 a11 v10, wRR E a11 v11, wRO E q12 4 a13 v12, wRR E a13 v13, wArr E q14 4 v14] := by
  intro n
  induction n with
  | zero =>
    intro  x3 v0 v1 v2 v3 v4 v6 hf
    simp [L_tell_20] at hf
  | succ n ih =>
    intro  x3 v0 v1 v2 v3 v4 v6 hf
    rw [L_tell_20] at hf
    refine ww_iload_n C dL_tell_20 rfl 3 rfl ?_
    refine ww_aload_n C dL_tell_21 rfl 2 rfl ?_
    refine ww_getN C clOK9 in_L_tell_X9 (w := wOwn E a7 (rf4 q8 q10 q12 q14) v7) (fs := fsOwn a7 (rf4 q8 q10 q12 q14) v7) (v := .int (Own_doors v7)) 7 0 1 rfl q_Own (by decide) (by decide +kernel) g_Own_doors dL_tell_22 ?_
    refine ww_icmp_ge (tgt := 88) C dL_tell_25 (by decide) (fun c_1 => ?_) (fun c_1 => ?_)
    · replace hf := ifT c_1 hf
      refine ww_iconst (v := 0) C dL_tell_88 (by decide) ?_
      refine ww_istore_n (lv' := [(3, .int 0), (0, .ref (a0 0)), (1, .ref q6), (2, .ref (a7 0))]) C dL_tell_89 rfl (by decide) rfl ?_
      refine ww_sub C (lv' := [(0, .ref (a0 0)), (1, .ref q6), (2, .ref (a7 0)), (3, .int 0)]) [1, 2, 3, 0] rfl ?_
      exact w_L_tell_90 C FU _ _ _ _ _ _ _ hf
    · replace hf := ifF c_1 hf
      refine ww_aload_n C dL_tell_28 rfl 0 rfl ?_
      refine ww_aload_n C dL_tell_29 rfl 1 rfl ?_
      refine ww_ldcS C (i := 17) rfl dL_tell_30 ?_
      refine ww_aload_n C dL_tell_32 rfl 2 rfl ?_
      refine ww_getN C clOK9 in_L_tell_X9 (w := wOwn E a7 (rf4 q8 q10 q12 q14) v7) (fs := fsOwn a7 (rf4 q8 q10 q12 q14) v7) (v := .ref q8) 7 0 4 rfl q_Own (by decide) (by decide +kernel) g_Own_door dL_tell_33 ?_
      refine ww_iload_n C dL_tell_36 rfl 3 rfl ?_
      obtain ⟨g_2, hf⟩ := gdE hf
      obtain ⟨g_3, hf⟩ := gdE hf
      refine ww_aldR C (f := roF a9 v8) (w := wRO E q8 20 a9 v8) 8 0 rfl q_RO (inB_vp g_2) (roF_at (of_decide_eq_true g_3)) dL_tell_37 ?_
      refine ww_iconst (v := 0) C dL_tell_38 (by decide) ?_
      obtain ⟨g_4, hf⟩ := gdE hf
      obtain ⟨g_5, hf⟩ := gdE hf
      refine ww_iald C (f := v9.2.2 (Int32.toNatClampNeg x3)) (w := wRR E a9 v9) 9 (Int32.toNatClampNeg x3) rfl (q_RR (of_decide_eq_true g_4)) (inB_vp g_5) dL_tell_39 ?_
      obtain ⟨p40, hp40, hf⟩ := bdE hf
      refine ww_callS C (As := [.ref (a0 0), .ref q6, .ref (eK E 17), .int (v9.2.2 (Int32.toNatClampNeg x3) (Int32.toNatClampNeg 0))]) (st := []) (gr := [wHouse E a1 v1, wHouse E a2 v2, wHist E a3 (rf2 h3_0 h3_1) v3, wHRead E a5 (rf1 (a4 0)), wOwn E a7 (rf4 q8 q10 q12 q14) v7, wRO E q8 20 a9 v8, wRR E a9 v9, wRO E q10 12 a11 v10, wRR E a11 v11, wRO E q12 4 a13 v12, wRR E a13 v13, wArr E q14 4 v14]) (c_L_with (E := E) (a0 := a0) (h0_0 := a1 0) (h0_1 := a2 0) (h0_2 := a3 0) (h0_3 := h0_3) (h0_4 := h0_4) (h0_5 := h0_5) (h0_6 := h0_6) (h0_8 := a5 0) (h0_9 := h0_9) (a1 := a4) (q2 := q6) hp40) gL_tell_L_with rfl ysk_L_with ⟨by decide, Nat.le_of_ble_eq_true rfl⟩ ⟨by decide, by decide⟩ [0, 4, 6] [1, 2, 3, 5, 7, 8, 9, 10, 11, 12, 13, 14] 15 rfl (by decide) rfl rfl (Nat.le_of_ble_eq_true rfl) dL_tell_40 ?_
      rintro _ _ ⟨rfl, rfl⟩
      refine ww_perm (gs' := [wGW E a0 (rf10 (a1 0) (a2 0) (a3 0) h0_3 h0_4 h0_5 h0_6 (a4 0) (a5 0) h0_9) v0, wHouse E a1 v1, wHouse E a2 v2, wHist E a3 (rf2 h3_0 h3_1) v3, wToks E a4 p40.1, wHRead E a5 (rf1 (a4 0)), wArr E q6 6 p40.2, wOwn E a7 (rf4 q8 q10 q12 q14) v7, wRO E q8 20 a9 v8, wRR E a9 v9, wRO E q10 12 a11 v10, wRR E a11 v11, wRO E q12 4 a13 v12, wRR E a13 v13, wArr E q14 4 v14]) [0, 3, 4, 5, 1, 6, 2, 7, 8, 9, 10, 11, 12, 13, 14] 15 rfl (by decide) rfl ?_
      refine ww_aload_n C dL_tell_43 rfl 0 rfl ?_
      refine ww_aload_n C dL_tell_44 rfl 1 rfl ?_
      refine ww_ldcS C (i := 18) rfl dL_tell_45 ?_
      refine ww_aload_n C dL_tell_47 rfl 2 rfl ?_
      refine ww_getN C clOK9 in_L_tell_X9 (w := wOwn E a7 (rf4 q8 q10 q12 q14) v7) (fs := fsOwn a7 (rf4 q8 q10 q12 q14) v7) (v := .ref q8) 7 0 4 rfl q_Own (by decide) (by decide +kernel) g_Own_door dL_tell_48 ?_
      refine ww_iload_n C dL_tell_51 rfl 3 rfl ?_
      refine ww_aldR C (f := roF a9 v8) (w := wRO E q8 20 a9 v8) 8 0 rfl q_RO (inB_vp g_2) (roF_at (of_decide_eq_true g_3)) dL_tell_52 ?_
      refine ww_iconst (v := 1) C dL_tell_53 (by decide) ?_
      obtain ⟨g_6, hf⟩ := gdE hf
      refine ww_iald C (f := v9.2.2 (Int32.toNatClampNeg x3)) (w := wRR E a9 v9) 9 (Int32.toNatClampNeg x3) rfl (q_RR (of_decide_eq_true g_4)) (inB_vp g_6) dL_tell_54 ?_
      obtain ⟨p55, hp55, hf⟩ := bdE hf
      refine ww_callS C (As := [.ref (a0 0), .ref q6, .ref (eK E 18), .int (v9.2.2 (Int32.toNatClampNeg x3) (Int32.toNatClampNeg 1))]) (st := []) (gr := [wHouse E a1 v1, wHouse E a2 v2, wHist E a3 (rf2 h3_0 h3_1) v3, wHRead E a5 (rf1 (a4 0)), wOwn E a7 (rf4 q8 q10 q12 q14) v7, wRO E q8 20 a9 v8, wRR E a9 v9, wRO E q10 12 a11 v10, wRR E a11 v11, wRO E q12 4 a13 v12, wRR E a13 v13, wArr E q14 4 v14]) (c_L_with (E := E) (a0 := a0) (h0_0 := a1 0) (h0_1 := a2 0) (h0_2 := a3 0) (h0_3 := h0_3) (h0_4 := h0_4) (h0_5 := h0_5) (h0_6 := h0_6) (h0_8 := a5 0) (h0_9 := h0_9) (a1 := a4) (q2 := q6) hp55) gL_tell_L_with rfl ysk_L_with ⟨by decide, Nat.le_of_ble_eq_true rfl⟩ ⟨by decide, by decide⟩ [0, 4, 6] [1, 2, 3, 5, 7, 8, 9, 10, 11, 12, 13, 14] 15 rfl (by decide) rfl rfl (Nat.le_of_ble_eq_true rfl) dL_tell_55 ?_
      rintro _ _ ⟨rfl, rfl⟩
      refine ww_perm (gs' := [wGW E a0 (rf10 (a1 0) (a2 0) (a3 0) h0_3 h0_4 h0_5 h0_6 (a4 0) (a5 0) h0_9) v0, wHouse E a1 v1, wHouse E a2 v2, wHist E a3 (rf2 h3_0 h3_1) v3, wToks E a4 p55.1, wHRead E a5 (rf1 (a4 0)), wArr E q6 6 p55.2, wOwn E a7 (rf4 q8 q10 q12 q14) v7, wRO E q8 20 a9 v8, wRR E a9 v9, wRO E q10 12 a11 v10, wRR E a11 v11, wRO E q12 4 a13 v12, wRR E a13 v13, wArr E q14 4 v14]) [0, 3, 4, 5, 1, 6, 2, 7, 8, 9, 10, 11, 12, 13, 14] 15 rfl (by decide) rfl ?_
      refine ww_aload_n C dL_tell_58 rfl 0 rfl ?_
      refine ww_aload_n C dL_tell_59 rfl 1 rfl ?_
      refine ww_aload_n C dL_tell_60 rfl 2 rfl ?_
      refine ww_getN C clOK9 in_L_tell_X9 (w := wOwn E a7 (rf4 q8 q10 q12 q14) v7) (fs := fsOwn a7 (rf4 q8 q10 q12 q14) v7) (v := .ref q8) 7 0 4 rfl q_Own (by decide) (by decide +kernel) g_Own_door dL_tell_61 ?_
      refine ww_iload_n C dL_tell_64 rfl 3 rfl ?_
      refine ww_aldR C (f := roF a9 v8) (w := wRO E q8 20 a9 v8) 8 0 rfl q_RO (inB_vp g_2) (roF_at (of_decide_eq_true g_3)) dL_tell_65 ?_
      refine ww_iconst (v := 2) C dL_tell_66 (by decide) ?_
      obtain ⟨g_7, hf⟩ := gdE hf
      refine ww_iald C (f := v9.2.2 (Int32.toNatClampNeg x3)) (w := wRR E a9 v9) 9 (Int32.toNatClampNeg x3) rfl (q_RR (of_decide_eq_true g_4)) (inB_vp g_7) dL_tell_67 ?_
      refine ww_iconst (v := 1) C dL_tell_68 (by decide) ?_
      refine ww_icmp_ne (tgt := 77) C dL_tell_69 (by decide) (fun c_8 => ?_) (fun c_8 => ?_)
      · replace hf := ifF c_8 hf
        refine ww_ldcS C (i := 20) rfl dL_tell_77 ?_
        refine ww_sub C (lv' := [(0, .ref (a0 0)), (1, .ref q6), (2, .ref (a7 0)), (3, .int x3)]) [0, 1, 2, 3] rfl ?_
        exact w_L_tell_79 C (k20 := (fun (x3 : Int32) (v0 : GWV) (v1 : HouseV) (v2 : HouseV) (v3 : HistV) (v4 : ToksV) (v6 : Nat → Int32) => L_tell_20 v7 v8 v9 v10 v11 v12 v13 v14 n x3 v0 v1 v2 v3 v4 v6)) ih hf
      · replace hf := ifT c_8 hf
        refine ww_ldcS C (i := 19) rfl dL_tell_72 ?_
        refine ww_goto (tgt := 79) C dL_tell_74 (by decide) ?_
        refine ww_sub C (lv' := [(0, .ref (a0 0)), (1, .ref q6), (2, .ref (a7 0)), (3, .int x3)]) [0, 1, 2, 3] rfl ?_
        exact w_L_tell_79 C (k20 := (fun (x3 : Int32) (v0 : GWV) (v1 : HouseV) (v2 : HouseV) (v3 : HistV) (v4 : ToksV) (v6 : Nat → Int32) => L_tell_20 v7 v8 v9 v10 v11 v12 v13 v14 n x3 v0 v1 v2 v3 v4 v6)) ih hf

set_option maxHeartbeats 4000000 in
set_option maxRecDepth 100000 in
theorem c_L_tell {E : Ex} {a0 : Nat → Nat} {a1 : Nat → Nat} {a2 : Nat → Nat} {a3 : Nat → Nat} {a4 : Nat → Nat} {a5 : Nat → Nat} {q6 : Nat} {a7 : Nat → Nat} {q8 : Nat} {a9 : Nat → Nat} {q10 : Nat} {a11 : Nat → Nat} {q12 : Nat} {a13 : Nat → Nat} {q14 : Nat} {h0_3 h0_4 h0_5 h0_6 h0_9 h3_0 h3_1 : Nat} {v0 : GWV} {v1 : HouseV} {v2 : HouseV} {v3 : HistV} {v4 : ToksV} {v6 : Nat → Int32} {v7 : OwnV} {v8 : Nat} {v9 : RowsT} {v10 : Nat} {v11 : RowsT} {v12 : Nat} {v13 : RowsT} {v14 : Nat → Int32} {r : (Int32 × GWV × HouseV × HouseV × HistV × ToksV × (Nat → Int32))} (hf : L_tell v0 v1 v2 v3 v4 v6 v7 v8 v9 v10 v11 v12 v13 v14 = some r) : Ct E yL_tell wsL_tell rmL_tell [.ref (a0 0), .ref q6, .ref (a7 0)] [wGW E a0 (rf10 (a1 0) (a2 0) (a3 0) h0_3 h0_4 h0_5 h0_6 (a4 0) (a5 0) h0_9) v0, wHouse E a1 v1, wHouse E a2 v2, wHist E a3 (rf2 h3_0 h3_1) v3, wToks E a4 v4, wHRead E a5 (rf1 (a4 0)), wArr E q6 6 v6, wOwn E a7 (rf4 q8 q10 q12 q14) v7, wRO E q8 20 a9 v8, wRR E a9 v9, wRO E q10 12 a11 v10, wRR E a11 v11, wRO E q12 4 a13 v12, wRR E a13 v13, wArr E q14 4 v14] (fun rv g => rv = some (.int r.1) ∧ g = [wGW E a0 (rf10 (a1 0) (a2 0) (a3 0) h0_3 h0_4 h0_5 h0_6 (a4 0) (a5 0) h0_9) r.2.1, wHouse E a1 r.2.2.1, wHouse E a2 r.2.2.2.1, wHist E a3 (rf2 h3_0 h3_1) r.2.2.2.2.1, wToks E a4 r.2.2.2.2.2.1, wHRead E a5 (rf1 (a4 0)), wArr E q6 6 r.2.2.2.2.2.2, wOwn E a7 (rf4 q8 q10 q12 q14) v7, wRO E q8 20 a9 v8, wRR E a9 v9, wRO E q10 12 a11 v10, wRR E a11 v11, wRO E q12 4 a13 v12, wRR E a13 v13, wArr E q14 4 v14]) := by
  refine ct_of (own := RL) (by decide +kernel) rfl rfl (Nat.le_of_ble_eq_true rfl) (fun K C => ?_)
  refine ww_sub C (lv' := [(0, .ref (a0 0)), (1, .ref q6), (2, .ref (a7 0))]) [0, 1, 2] rfl ?_
  rw [L_tell] at hf
  refine ww_aload_n C dL_tell_0 rfl 0 rfl ?_
  refine ww_aload_n C dL_tell_1 rfl 1 rfl ?_
  refine ww_ldcS C (i := 16) rfl dL_tell_2 ?_
  refine ww_aload_n C dL_tell_4 rfl 2 rfl ?_
  refine ww_getN C clOK9 in_L_tell_X9 (w := wOwn E a7 (rf4 q8 q10 q12 q14) v7) (fs := fsOwn a7 (rf4 q8 q10 q12 q14) v7) (v := .int (Own_rooms v7)) 7 0 0 rfl q_Own (by decide) (by decide +kernel) g_Own_rooms dL_tell_5 ?_
  obtain ⟨p8, hp8, hf⟩ := bdE hf
  refine ww_callS C (As := [.ref (a0 0), .ref q6, .ref (eK E 16), .int (Own_rooms v7)]) (st := []) (gr := [wHouse E a1 v1, wHouse E a2 v2, wHist E a3 (rf2 h3_0 h3_1) v3, wHRead E a5 (rf1 (a4 0)), wOwn E a7 (rf4 q8 q10 q12 q14) v7, wRO E q8 20 a9 v8, wRR E a9 v9, wRO E q10 12 a11 v10, wRR E a11 v11, wRO E q12 4 a13 v12, wRR E a13 v13, wArr E q14 4 v14]) (c_L_with (E := E) (a0 := a0) (h0_0 := a1 0) (h0_1 := a2 0) (h0_2 := a3 0) (h0_3 := h0_3) (h0_4 := h0_4) (h0_5 := h0_5) (h0_6 := h0_6) (h0_8 := a5 0) (h0_9 := h0_9) (a1 := a4) (q2 := q6) hp8) gL_tell_L_with rfl ysk_L_with ⟨by decide, Nat.le_of_ble_eq_true rfl⟩ ⟨by decide, by decide⟩ [0, 4, 6] [1, 2, 3, 5, 7, 8, 9, 10, 11, 12, 13, 14] 15 rfl (by decide) rfl rfl (Nat.le_of_ble_eq_true rfl) dL_tell_8 ?_
  rintro _ _ ⟨rfl, rfl⟩
  refine ww_perm (gs' := [wGW E a0 (rf10 (a1 0) (a2 0) (a3 0) h0_3 h0_4 h0_5 h0_6 (a4 0) (a5 0) h0_9) v0, wHouse E a1 v1, wHouse E a2 v2, wHist E a3 (rf2 h3_0 h3_1) v3, wToks E a4 p8.1, wHRead E a5 (rf1 (a4 0)), wArr E q6 6 p8.2, wOwn E a7 (rf4 q8 q10 q12 q14) v7, wRO E q8 20 a9 v8, wRR E a9 v9, wRO E q10 12 a11 v10, wRR E a11 v11, wRO E q12 4 a13 v12, wRR E a13 v13, wArr E q14 4 v14]) [0, 3, 4, 5, 1, 6, 2, 7, 8, 9, 10, 11, 12, 13, 14] 15 rfl (by decide) rfl ?_
  refine ww_aload_n C dL_tell_11 rfl 0 rfl ?_
  refine ww_aload_n C dL_tell_12 rfl 1 rfl ?_
  refine ww_bipush (v := 59) C dL_tell_13 (by decide) ?_
  obtain ⟨p15, hp15, hf⟩ := bdE hf
  refine ww_callS C (As := [.ref (a0 0), .ref q6, .int 59]) (st := []) (gr := [wHouse E a1 v1, wHouse E a2 v2, wHist E a3 (rf2 h3_0 h3_1) v3, wHRead E a5 (rf1 (a4 0)), wOwn E a7 (rf4 q8 q10 q12 q14) v7, wRO E q8 20 a9 v8, wRR E a9 v9, wRO E q10 12 a11 v10, wRR E a11 v11, wRO E q12 4 a13 v12, wRR E a13 v13, wArr E q14 4 v14]) (c_L_add (E := E) (a0 := a0) (h0_0 := a1 0) (h0_1 := a2 0) (h0_2 := a3 0) (h0_3 := h0_3) (h0_4 := h0_4) (h0_5 := h0_5) (h0_6 := h0_6) (h0_8 := a5 0) (h0_9 := h0_9) (a1 := a4) (q2 := q6) hp15) gL_tell_L_add rfl ysk_L_add ⟨by decide, Nat.le_of_ble_eq_true rfl⟩ ⟨by decide, by decide⟩ [0, 4, 6] [1, 2, 3, 5, 7, 8, 9, 10, 11, 12, 13, 14] 15 rfl (by decide) rfl rfl (Nat.le_of_ble_eq_true rfl) dL_tell_15 ?_
  rintro _ _ ⟨rfl, rfl⟩
  refine ww_perm (gs' := [wGW E a0 (rf10 (a1 0) (a2 0) (a3 0) h0_3 h0_4 h0_5 h0_6 (a4 0) (a5 0) h0_9) v0, wHouse E a1 v1, wHouse E a2 v2, wHist E a3 (rf2 h3_0 h3_1) v3, wToks E a4 p15.1, wHRead E a5 (rf1 (a4 0)), wArr E q6 6 p15.2, wOwn E a7 (rf4 q8 q10 q12 q14) v7, wRO E q8 20 a9 v8, wRR E a9 v9, wRO E q10 12 a11 v10, wRR E a11 v11, wRO E q12 4 a13 v12, wRR E a13 v13, wArr E q14 4 v14]) [0, 3, 4, 5, 1, 6, 2, 7, 8, 9, 10, 11, 12, 13, 14] 15 rfl (by decide) rfl ?_
  refine ww_iconst (v := 0) C dL_tell_18 (by decide) ?_
  refine ww_istore_n (lv' := [(3, .int 0), (0, .ref (a0 0)), (1, .ref q6), (2, .ref (a7 0))]) C dL_tell_19 rfl (by decide) rfl ?_
  refine ww_sub C (lv' := [(0, .ref (a0 0)), (1, .ref q6), (2, .ref (a7 0)), (3, .int 0)]) [1, 2, 3, 0] rfl ?_
  exact w_L_tell_20 C FU _ _ _ _ _ _ _ hf

theorem ysk_L_tell : yL_tell.cls ≠ "java/lang/invoke/MethodHandle" ∧ yL_tell.cls ≠ "java/lang/invoke/VarHandle" ∧ (parseMethodDescriptor yL_tell.desc).map (fun d => d.parameters.length) = some 3 := by decide +kernel
abbrev rmL_drawn : Room := { frames := 2, cells := 64, slots := 600, locals := 49 }
set_option maxRecDepth 20000 in
theorem in_L_drawn_X9 : ∀ w ∈ u_ws RX9 TX9 8, w ∈ wsL_drawn := by decide +kernel
set_option maxHeartbeats 4000000 in
set_option maxRecDepth 100000 in
theorem w_L_drawn_255 {E : Ex} {K : Kx} (C : Cx E K cL_drawn 8 (some (.object "GuardWalksLaw$Own")) RL wsL_drawn rmL_drawn)  {L : Nat} {xs : Nat → Int32} {x1 : Int32} {x5 : Int32} {r : (OwnV × Nat × RowsT × Nat × RowsT × Nat × RowsT × (Nat → Int32))} (S0 : SXE E L xs) : ∀ (n : Nat) (d0 : Nat → Nat) (d1 : Nat) (d2 : Nat → Nat) (d3 : Nat) (d4 : Nat) (d5 : Nat → Nat) (d6 : Nat) (d7 : Nat → Nat) (x6 : Int32) (w0 : OwnV) (w1 : Nat) (w2 : RowsT) (w3 : Nat → Int32) (w4 : Nat) (w5 : RowsT) (w6 : Nat) (w7 : RowsT) (c : Nat) (s : Nat), c ≤ 64 ∧ s ≤ 600 → L_drawn_255 L xs x1 x5 n x6 w0 w1 w2 w3 w4 w5 w6 w7 c s = some r → WW E K c s (QQ E K (fun rv g => ∃ (y0 : Nat → Nat) (y1 : Nat) (y2 : Nat → Nat) (y3 : Nat) (y4 : Nat → Nat) (y5 : Nat) (y6 : Nat → Nat) (y7 : Nat), rv = some (.ref (y0 0)) ∧ g = [wOwn E y0 (rf4 y1 y3 y5 y7) r.1, wRO E y1 20 y2 r.2.1, wRR E y2 r.2.2.1, wRO E y3 12 y4 r.2.2.2.1, wRR E y4 r.2.2.2.2.1, wRO E y5 4 y6 r.2.2.2.2.2.1, wRR E y6 r.2.2.2.2.2.2.1, wArr E y7 4 r.2.2.2.2.2.2.2]) 64 600) 255 [(0, .ref (eB E)), (1, .int x1), (2, .ref (d0 0)), (5, .int x5), (6, .int x6)] [] [wOwn E d0 (rf4 d1 d4 d6 d3) w0, wRO E d1 20 d2 w1, wRR E d2 w2, wArr E d3 4 w3, wRO E d4 12 d5 w4, wRR E d5 w5, wRO E d6 4 d7 w6, wRR E d7 w7] := by
  intro n
  induction n with
  | zero =>
    intro d0 d1 d2 d3 d4 d5 d6 d7 x6 w0 w1 w2 w3 w4 w5 w6 w7 c s hcs hf
    simp [L_drawn_255] at hf
  | succ n ih =>
    intro d0 d1 d2 d3 d4 d5 d6 d7 x6 w0 w1 w2 w3 w4 w5 w6 w7 c s hcs hf
    rw [L_drawn_255] at hf
    refine ww_iload C dL_drawn_255 4 rfl ?_
    refine ww_iload C dL_drawn_257 3 rfl ?_
    refine ww_icmp_ge (tgt := 336) C dL_drawn_259 (by decide) (fun c_28 => ?_) (fun c_28 => ?_)
    · replace hf := ifT c_28 hf
      refine ww_aload_n C dL_drawn_336 rfl 2 rfl ?_
      obtain rfl := Option.some.inj hf
      refine ww_perm (gs' := [wOwn E d0 (rf4 d1 d4 d6 d3) w0, wRO E d1 20 d2 w1, wRR E d2 w2, wRO E d4 12 d5 w4, wRR E d5 w5, wRO E d6 4 d7 w6, wRR E d7 w7, wArr E d3 4 w3]) [0, 1, 2, 4, 5, 6, 7, 3] 8 rfl (by decide) rfl ?_
      refine ww_widen (k := 64) (n := 600) hcs.1 hcs.2 ?_
      exact ww_aret C (Or.inl ⟨_, rfl⟩) ⟨_, _, _, _, _, _, _, _, rfl, rfl⟩ dL_drawn_337
    · replace hf := ifF c_28 hf
      refine ww_aload_n C dL_drawn_262 rfl 0 rfl ?_
      refine ww_iload_n C dL_drawn_263 rfl 1 rfl ?_
      refine ww_iconst (v := 3) C dL_drawn_264 (by decide) ?_
      refine ww_iadd C dL_drawn_265 ?_
      refine ww_iload C dL_drawn_266 4 rfl ?_
      refine ww_iconst (v := 2) C dL_drawn_268 (by decide) ?_
      obtain ⟨g_29, hf⟩ := gdE hf
      refine ww_irem C dL_drawn_269 (nz_ne g_29) ?_
      refine ww_iadd C dL_drawn_270 ?_
      obtain ⟨p271, hp271, hf⟩ := bdE hf
      refine ww_callS C (As := [.ref (eB E), .int ((x1 + 3) + (x6 - x6 / 2 * 2))]) (st := []) (gr := [wOwn E d0 (rf4 d1 d4 d6 d3) w0, wRO E d1 20 d2 w1, wRR E d2 w2, wArr E d3 4 w3, wRO E d4 12 d5 w4, wRR E d5 w5, wRO E d6 4 d7 w6, wRR E d7 w7]) (c_L_cell (E := E)  S0 hp271) gL_drawn_L_cell rfl ysk_L_cell ⟨by decide, Nat.le_of_ble_eq_true rfl⟩ hcs [] [0, 1, 2, 3, 4, 5, 6, 7] 8 rfl (by decide) rfl rfl (Nat.le_of_ble_eq_true rfl) dL_drawn_271 ?_
      rintro _ _ ⟨rfl, rfl⟩
      refine ww_perm (gs' := [wOwn E d0 (rf4 d1 d4 d6 d3) w0, wRO E d1 20 d2 w1, wRR E d2 w2, wArr E d3 4 w3, wRO E d4 12 d5 w4, wRR E d5 w5, wRO E d6 4 d7 w6, wRR E d7 w7]) [0, 1, 2, 3, 4, 5, 6, 7] 8 rfl (by decide) rfl ?_
      refine ww_iload C dL_drawn_274 4 rfl ?_
      refine ww_iconst (v := 2) C dL_drawn_276 (by decide) ?_
      refine ww_idiv C dL_drawn_277 (nz_ne g_29) ?_
      refine ww_bipush (v := 6) C dL_drawn_278 (by decide) ?_
      refine ww_imul C dL_drawn_280 ?_
      refine ww_ishr C dL_drawn_281 ?_
      refine ww_topi (fun x7_282 e_x7_282 => ?_)
      replace hf := ltE e_x7_282 hf
      refine ww_istore (lv' := [(7, .int x7_282), (0, .ref (eB E)), (1, .int x1), (2, .ref (d0 0)), (5, .int x5), (6, .int x6)]) C dL_drawn_282 (by decide) rfl ?_
      refine ww_aload_n C dL_drawn_284 rfl 3 rfl ?_
      refine ww_getN C clOK9 in_L_drawn_X9 (w := wOwn E d0 (rf4 d1 d4 d6 d3) w0) (fs := fsOwn d0 (rf4 d1 d4 d6 d3) w0) (v := .ref d6) 0 0 6 rfl q_Own (by decide) (by decide +kernel) g_Own_walk dL_drawn_285 ?_
      refine ww_iload C dL_drawn_288 5 rfl ?_
      refine ww_aload_n C dL_drawn_290 rfl 3 rfl ?_
      refine ww_iload C dL_drawn_291 0 rfl ?_
      obtain ⟨g_31, hf⟩ := gdE hf
      obtain ⟨p293, hp293, hf⟩ := bdE hf
      refine ww_callVN C (As := [.int x7_282]) (st := [.int x6, .ref d6]) (gr := [wArr E d3 4 w3, wRO E d4 12 d5 w4, wRR E d5 w5, wRO E d6 4 d7 w6, wRR E d7 w7]) (host := RL) (c_X9_walkBy (E := E) (a0 := d0) (h0_1 := d4) (h0_2 := d6) (h0_3 := d3) (q1 := d1) (a2 := d2) hp293) gL_drawn_X9_walkBy_n48 rfl (by decide +kernel) (by decide +kernel) (by decide +kernel) (by decide +kernel) yk_X9_walkBy ⟨by decide, Nat.le_of_ble_eq_true rfl⟩ (of_decide_eq_true g_31) clOK9 0 0 rfl rfl [0, 1, 2] [3, 4, 5, 6, 7] 8 rfl (by decide) rfl rfl (Nat.le_of_ble_eq_true rfl) dL_drawn_293 ?_
      rintro _ _ ⟨y293_0, rfl, rfl⟩
      refine ww_perm (gs' := [wOwn E d0 (rf4 d1 d4 d6 d3) w0, wRO E d1 20 d2 w1, wRR E d2 w2, wArr E d3 4 w3, wRO E d4 12 d5 w4, wRR E d5 w5, wRO E d6 4 d7 w6, wRR E d7 w7, wArr E y293_0 p293.1 p293.2]) [0, 1, 2, 4, 5, 6, 7, 8, 3] 9 rfl (by decide) rfl ?_
      obtain ⟨g_32, hf⟩ := gdE hf
      obtain ⟨g_33, hf⟩ := gdE hf
      obtain ⟨v6_296, e_v6_296⟩ : ∃ y : Nat, y = w6 + 1 := ⟨_, rfl⟩
      replace hf := ltE e_v6_296 hf
      refine ww_astR C (b := y293_0) (f := roF d7 w6) (w := wRO E d6 4 d7 w6) (w' := wRO E d6 4 (upA d7 w6 y293_0) v6_296) (wv := wArr E y293_0 p293.1 p293.2) (gs' := [wOwn E d0 (rf4 d1 d4 d6 d3) w0, wRO E d1 20 d2 w1, wRR E d2 w2, wArr E d3 4 w3, wRO E d4 12 d5 w4, wRR E d5 w5, wRO E d6 4 (upA d7 w6 y293_0) v6_296, wRR E d7 w7, wArr E y293_0 p293.1 p293.2]) 6 0 8 0 rfl q_RO rfl q_Arr (inB_vp g_32) (by rw [e_v6_296]; exact ro_app (of_decide_eq_true g_33).1) rfl dL_drawn_296 ?_
      obtain ⟨v7_296, e_v7_296⟩ : ∃ y : RowsT, y = rrApp w7 p293.1 p293.2 := ⟨_, rfl⟩
      replace hf := ltE e_v7_296 hf
      refine ww_regr (gs' := [wOwn E d0 (rf4 d1 d4 d6 d3) w0, wRO E d1 20 d2 w1, wRR E d2 w2, wArr E d3 4 w3, wRO E d4 12 d5 w4, wRR E d5 w5, wRO E d6 4 (upA d7 w6 y293_0) v6_296, wRR E (upA d7 w6 y293_0) v7_296]) (by rw [e_v7_296, rr_app (of_decide_eq_true g_33).2]; simp only [List.flatten_cons, List.flatten_nil, List.append_assoc]) ?_
      refine ww_aload_n C dL_drawn_297 rfl 3 rfl ?_
      refine ww_getN C clOK9 in_L_drawn_X9 (w := wOwn E d0 (rf4 d1 d4 d6 d3) w0) (fs := fsOwn d0 (rf4 d1 d4 d6 d3) w0) (v := .ref d3) 0 0 7 rfl q_Own (by decide) (by decide +kernel) g_Own_phase dL_drawn_298 ?_
      refine ww_iload C dL_drawn_301 5 rfl ?_
      refine ww_iload C dL_drawn_303 0 rfl ?_
      refine ww_bipush (v := 7) C dL_drawn_305 (by decide) ?_
      refine ww_ishr C dL_drawn_307 ?_
      refine ww_aload_n C dL_drawn_308 rfl 3 rfl ?_
      refine ww_getN C clOK9 in_L_drawn_X9 (w := wOwn E d0 (rf4 d1 d4 d6 d3) w0) (fs := fsOwn d0 (rf4 d1 d4 d6 d3) w0) (v := .ref d6) 0 0 6 rfl q_Own (by decide) (by decide +kernel) g_Own_walk dL_drawn_309 ?_
      refine ww_iload C dL_drawn_312 5 rfl ?_
      obtain ⟨g_34, hf⟩ := gdE hf
      refine ww_aldR C (f := roF (upA d7 w6 y293_0) v6_296) (w := wRO E d6 4 (upA d7 w6 y293_0) v6_296) 6 0 rfl q_RO (inB_vp g_32) (roF_at (of_decide_eq_true g_34)) dL_drawn_314 ?_
      obtain ⟨g_35, hf⟩ := gdE hf
      refine ww_alen C (v := nI (v7_296.2.1 (Int32.toNatClampNeg x6))) (w := wRR E (upA d7 w6 y293_0) v7_296) 7 (Int32.toNatClampNeg x6) rfl (q_RR (of_decide_eq_true g_35)) rfl dL_drawn_315 ?_
      obtain ⟨p316, hp316, hf⟩ := bdE hf
      refine ww_callS C (As := [.int (x7_282 >>> (7 &&& 31)), .int (nI (v7_296.2.1 (Int32.toNatClampNeg x6)))]) (st := [.int x6, .ref d3]) (gr := [wOwn E d0 (rf4 d1 d4 d6 d3) w0, wRO E d1 20 d2 w1, wRR E d2 w2, wArr E d3 4 w3, wRO E d4 12 d5 w4, wRR E d5 w5, wRO E d6 4 (upA d7 w6 y293_0) v6_296, wRR E (upA d7 w6 y293_0) v7_296]) (c_L_most (E := E)  hp316) gL_drawn_L_most rfl ysk_L_most ⟨by decide, Nat.le_of_ble_eq_true rfl⟩ (of_decide_eq_true g_31) [] [0, 1, 2, 3, 4, 5, 6, 7] 8 rfl (by decide) rfl rfl (Nat.le_of_ble_eq_true rfl) dL_drawn_316 ?_
      rintro _ _ ⟨rfl, rfl⟩
      refine ww_perm (gs' := [wOwn E d0 (rf4 d1 d4 d6 d3) w0, wRO E d1 20 d2 w1, wRR E d2 w2, wArr E d3 4 w3, wRO E d4 12 d5 w4, wRR E d5 w5, wRO E d6 4 (upA d7 w6 y293_0) v6_296, wRR E (upA d7 w6 y293_0) v7_296]) [0, 1, 2, 3, 4, 5, 6, 7] 8 rfl (by decide) rfl ?_
      obtain ⟨v3_319, e_v3_319⟩ : ∃ y : Nat → Int32, y = upd w3 (Int32.toNatClampNeg x6) p316 := ⟨_, rfl⟩
      replace hf := ltE e_v3_319 hf
      refine ww_iast C (f := w3) (w := wArr E d3 4 w3) (w' := wArr E d3 4 v3_319) (gs' := [wOwn E d0 (rf4 d1 d4 d6 d3) w0, wRO E d1 20 d2 w1, wRR E d2 w2, wArr E d3 4 v3_319, wRO E d4 12 d5 w4, wRR E d5 w5, wRO E d6 4 (upA d7 w6 y293_0) v6_296, wRR E (upA d7 w6 y293_0) v7_296]) 3 0 rfl q_Arr (inB_vp g_32) (by rw [e_v3_319]; exact s_Arr) rfl dL_drawn_319 ?_
      refine ww_aload_n C dL_drawn_320 rfl 3 rfl ?_
      refine ww_dup C dL_drawn_321 rfl ?_
      refine ww_getN C clOK9 in_L_drawn_X9 (w := wOwn E d0 (rf4 d1 d4 d6 d3) w0) (fs := fsOwn d0 (rf4 d1 d4 d6 d3) w0) (v := .int (Own_guards w0)) 0 0 2 rfl q_Own (by decide) (by decide +kernel) g_Own_guards dL_drawn_322 ?_
      refine ww_iconst (v := 1) C dL_drawn_325 (by decide) ?_
      refine ww_iadd C dL_drawn_326 ?_
      obtain ⟨v0_327, e_v0_327⟩ : ∃ y : OwnV, y = Own_set_guards w0 ((Own_guards w0) + 1) := ⟨_, rfl⟩
      replace hf := ltE e_v0_327 hf
      refine ww_putN C clOK9 in_L_drawn_X9 (w := wOwn E d0 (rf4 d1 d4 d6 d3) w0) (fs := fsOwn d0 (rf4 d1 d4 d6 d3) w0) (w' := wOwn E d0 (rf4 d1 d4 d6 d3) v0_327) (gs' := [wOwn E d0 (rf4 d1 d4 d6 d3) v0_327, wRO E d1 20 d2 w1, wRR E d2 w2, wArr E d3 4 v3_319, wRO E d4 12 d5 w4, wRR E d5 w5, wRO E d6 4 (upA d7 w6 y293_0) v6_296, wRR E (upA d7 w6 y293_0) v7_296]) 0 0 2 rfl q_Own (by decide) (by decide +kernel) rfl rfl rfl rfl l_Own (by rw [e_v0_327]; exact p_Own_guards) rfl dL_drawn_327 ?_
      obtain ⟨x6_330, e_x6_330⟩ : ∃ y : Int32, y = x6 + 1 := ⟨_, rfl⟩
      replace hf := ltE e_x6_330 hf
      refine ww_iinc (v := x6_330) (lv' := [(6, .int x6_330), (7, .int x7_282), (0, .ref (eB E)), (1, .int x1), (2, .ref (d0 0)), (5, .int x5)]) C dL_drawn_330 5 rfl (by rw [e_x6_330]; rfl) (by decide) rfl ?_
      refine ww_goto (tgt := 255) C dL_drawn_333 (by decide) ?_
      refine ww_sub C (lv' := [(0, .ref (eB E)), (1, .int x1), (2, .ref (d0 0)), (5, .int x5), (6, .int x6_330)]) [2, 3, 4, 5, 0] rfl ?_
      exact ih _ _ _ _ _ _ _ _ _ _ _ _ _ _ _ _ _ _ _ (of_decide_eq_true g_31) hf

set_option maxHeartbeats 4000000 in
set_option maxRecDepth 100000 in
theorem w_L_drawn_128 {E : Ex} {K : Kx} (C : Cx E K cL_drawn 8 (some (.object "GuardWalksLaw$Own")) RL wsL_drawn rmL_drawn)  {L : Nat} {xs : Nat → Int32} {x1 : Int32} {x3 : Int32} {x4 : Int32} {r : (OwnV × Nat × RowsT × Nat × RowsT × Nat × RowsT × (Nat → Int32))} (S0 : SXE E L xs) : ∀ (n : Nat) (d0 : Nat → Nat) (d1 : Nat) (d2 : Nat → Nat) (d3 : Nat) (d4 : Nat) (d5 : Nat → Nat) (d6 : Nat) (d7 : Nat → Nat) (x5 : Int32) (w0 : OwnV) (w1 : Nat) (w2 : RowsT) (w3 : Nat → Int32) (w4 : Nat) (w5 : RowsT) (w6 : Nat) (w7 : RowsT) (c : Nat) (s : Nat), c ≤ 64 ∧ s ≤ 600 → L_drawn_128 L xs x1 x3 x4 n x5 w0 w1 w2 w3 w4 w5 w6 w7 c s = some r → WW E K c s (QQ E K (fun rv g => ∃ (y0 : Nat → Nat) (y1 : Nat) (y2 : Nat → Nat) (y3 : Nat) (y4 : Nat → Nat) (y5 : Nat) (y6 : Nat → Nat) (y7 : Nat), rv = some (.ref (y0 0)) ∧ g = [wOwn E y0 (rf4 y1 y3 y5 y7) r.1, wRO E y1 20 y2 r.2.1, wRR E y2 r.2.2.1, wRO E y3 12 y4 r.2.2.2.1, wRR E y4 r.2.2.2.2.1, wRO E y5 4 y6 r.2.2.2.2.2.1, wRR E y6 r.2.2.2.2.2.2.1, wArr E y7 4 r.2.2.2.2.2.2.2]) 64 600) 128 [(0, .ref (eB E)), (1, .int x1), (2, .ref (d0 0)), (3, .int x3), (4, .int x4), (5, .int x5)] [] [wOwn E d0 (rf4 d1 d4 d6 d3) w0, wRO E d1 20 d2 w1, wRR E d2 w2, wArr E d3 4 w3, wRO E d4 12 d5 w4, wRR E d5 w5, wRO E d6 4 d7 w6, wRR E d7 w7] := by
  intro n
  induction n with
  | zero =>
    intro d0 d1 d2 d3 d4 d5 d6 d7 x5 w0 w1 w2 w3 w4 w5 w6 w7 c s hcs hf
    simp [L_drawn_128] at hf
  | succ n ih =>
    intro d0 d1 d2 d3 d4 d5 d6 d7 x5 w0 w1 w2 w3 w4 w5 w6 w7 c s hcs hf
    rw [L_drawn_128] at hf
    refine ww_iload C dL_drawn_128 5 rfl ?_
    refine ww_iload C dL_drawn_130 4 rfl ?_
    refine ww_icmp_ge (tgt := 242) C dL_drawn_132 (by decide) (fun c_14 => ?_) (fun c_14 => ?_)
    · replace hf := ifT c_14 hf
      refine ww_iload_n C dL_drawn_242 rfl 3 rfl ?_
      refine ww_bipush (v := 12) C dL_drawn_243 (by decide) ?_
      refine ww_ishr C dL_drawn_245 ?_
      refine ww_iconst (v := 5) C dL_drawn_246 (by decide) ?_
      obtain ⟨p247, hp247, hf⟩ := bdE hf
      refine ww_callS C (As := [.int (x3 >>> (12 &&& 31)), .int 5]) (st := []) (gr := [wOwn E d0 (rf4 d1 d4 d6 d3) w0, wRO E d1 20 d2 w1, wRR E d2 w2, wArr E d3 4 w3, wRO E d4 12 d5 w4, wRR E d5 w5, wRO E d6 4 d7 w6, wRR E d7 w7]) (c_L_most (E := E)  hp247) gL_drawn_L_most rfl ysk_L_most ⟨by decide, Nat.le_of_ble_eq_true rfl⟩ hcs [] [0, 1, 2, 3, 4, 5, 6, 7] 8 rfl (by decide) rfl rfl (Nat.le_of_ble_eq_true rfl) dL_drawn_247 ?_
      rintro _ _ ⟨rfl, rfl⟩
      refine ww_perm (gs' := [wOwn E d0 (rf4 d1 d4 d6 d3) w0, wRO E d1 20 d2 w1, wRR E d2 w2, wArr E d3 4 w3, wRO E d4 12 d5 w4, wRR E d5 w5, wRO E d6 4 d7 w6, wRR E d7 w7]) [0, 1, 2, 3, 4, 5, 6, 7] 8 rfl (by decide) rfl ?_
      refine ww_istore (lv' := [(5, .int p247), (0, .ref (eB E)), (1, .int x1), (2, .ref (d0 0)), (3, .int x3), (4, .int x4)]) C dL_drawn_250 (by decide) rfl ?_
      refine ww_iconst (v := 0) C dL_drawn_252 (by decide) ?_
      refine ww_istore (lv' := [(6, .int 0), (5, .int p247), (0, .ref (eB E)), (1, .int x1), (2, .ref (d0 0)), (3, .int x3), (4, .int x4)]) C dL_drawn_253 (by decide) rfl ?_
      refine ww_sub C (lv' := [(0, .ref (eB E)), (1, .int x1), (2, .ref (d0 0)), (5, .int p247), (6, .int 0)]) [2, 3, 4, 1, 0] rfl ?_
      exact w_L_drawn_255 C S0 FU _ _ _ _ _ _ _ _ _ _ _ _ _ _ _ _ _ _ _ hcs hf
    · replace hf := ifF c_14 hf
      refine ww_aload_n C dL_drawn_135 rfl 0 rfl ?_
      refine ww_iload_n C dL_drawn_136 rfl 1 rfl ?_
      refine ww_iconst (v := 1) C dL_drawn_137 (by decide) ?_
      refine ww_iadd C dL_drawn_138 ?_
      refine ww_iload C dL_drawn_139 5 rfl ?_
      refine ww_iconst (v := 2) C dL_drawn_141 (by decide) ?_
      obtain ⟨g_15, hf⟩ := gdE hf
      refine ww_irem C dL_drawn_142 (nz_ne g_15) ?_
      refine ww_iadd C dL_drawn_143 ?_
      obtain ⟨p144, hp144, hf⟩ := bdE hf
      refine ww_callS C (As := [.ref (eB E), .int ((x1 + 1) + (x5 - x5 / 2 * 2))]) (st := []) (gr := [wOwn E d0 (rf4 d1 d4 d6 d3) w0, wRO E d1 20 d2 w1, wRR E d2 w2, wArr E d3 4 w3, wRO E d4 12 d5 w4, wRR E d5 w5, wRO E d6 4 d7 w6, wRR E d7 w7]) (c_L_cell (E := E)  S0 hp144) gL_drawn_L_cell rfl ysk_L_cell ⟨by decide, Nat.le_of_ble_eq_true rfl⟩ hcs [] [0, 1, 2, 3, 4, 5, 6, 7] 8 rfl (by decide) rfl rfl (Nat.le_of_ble_eq_true rfl) dL_drawn_144 ?_
      rintro _ _ ⟨rfl, rfl⟩
      refine ww_perm (gs' := [wOwn E d0 (rf4 d1 d4 d6 d3) w0, wRO E d1 20 d2 w1, wRR E d2 w2, wArr E d3 4 w3, wRO E d4 12 d5 w4, wRR E d5 w5, wRO E d6 4 d7 w6, wRR E d7 w7]) [0, 1, 2, 3, 4, 5, 6, 7] 8 rfl (by decide) rfl ?_
      refine ww_iload C dL_drawn_147 5 rfl ?_
      refine ww_iconst (v := 2) C dL_drawn_149 (by decide) ?_
      refine ww_idiv C dL_drawn_150 (nz_ne g_15) ?_
      refine ww_iconst (v := 5) C dL_drawn_151 (by decide) ?_
      refine ww_imul C dL_drawn_152 ?_
      refine ww_ishr C dL_drawn_153 ?_
      refine ww_topi (fun x6_154 e_x6_154 => ?_)
      replace hf := ltE e_x6_154 hf
      refine ww_istore (lv' := [(6, .int x6_154), (0, .ref (eB E)), (1, .int x1), (2, .ref (d0 0)), (3, .int x3), (4, .int x4), (5, .int x5)]) C dL_drawn_154 (by decide) rfl ?_
      refine ww_iload C dL_drawn_156 0 rfl ?_
      refine ww_aload_n C dL_drawn_158 rfl 3 rfl ?_
      refine ww_getN C clOK9 in_L_drawn_X9 (w := wOwn E d0 (rf4 d1 d4 d6 d3) w0) (fs := fsOwn d0 (rf4 d1 d4 d6 d3) w0) (v := .int (Own_rooms w0)) 0 0 0 rfl q_Own (by decide) (by decide +kernel) g_Own_rooms dL_drawn_159 ?_
      obtain ⟨p162, hp162, hf⟩ := bdE hf
      refine ww_callS C (As := [.int x6_154, .int (Own_rooms w0)]) (st := []) (gr := [wOwn E d0 (rf4 d1 d4 d6 d3) w0, wRO E d1 20 d2 w1, wRR E d2 w2, wArr E d3 4 w3, wRO E d4 12 d5 w4, wRR E d5 w5, wRO E d6 4 d7 w6, wRR E d7 w7]) (c_L_most (E := E)  hp162) gL_drawn_L_most rfl ysk_L_most ⟨by decide, Nat.le_of_ble_eq_true rfl⟩ hcs [] [0, 1, 2, 3, 4, 5, 6, 7] 8 rfl (by decide) rfl rfl (Nat.le_of_ble_eq_true rfl) dL_drawn_162 ?_
      rintro _ _ ⟨rfl, rfl⟩
      refine ww_perm (gs' := [wOwn E d0 (rf4 d1 d4 d6 d3) w0, wRO E d1 20 d2 w1, wRR E d2 w2, wArr E d3 4 w3, wRO E d4 12 d5 w4, wRR E d5 w5, wRO E d6 4 d7 w6, wRR E d7 w7]) [0, 1, 2, 3, 4, 5, 6, 7] 8 rfl (by decide) rfl ?_
      refine ww_istore (lv' := [(7, .int p162), (6, .int x6_154), (0, .ref (eB E)), (1, .int x1), (2, .ref (d0 0)), (3, .int x3), (4, .int x4), (5, .int x5)]) C dL_drawn_165 (by decide) rfl ?_
      refine ww_aload_n C dL_drawn_167 rfl 4 rfl ?_
      refine ww_getN C clOK9 in_L_drawn_X9 (w := wOwn E d0 (rf4 d1 d4 d6 d3) w0) (fs := fsOwn d0 (rf4 d1 d4 d6 d3) w0) (v := .ref d1) 0 0 4 rfl q_Own (by decide) (by decide +kernel) g_Own_door dL_drawn_168 ?_
      refine ww_aload_n C dL_drawn_171 rfl 4 rfl ?_
      refine ww_dup C dL_drawn_172 rfl ?_
      refine ww_getN C clOK9 in_L_drawn_X9 (w := wOwn E d0 (rf4 d1 d4 d6 d3) w0) (fs := fsOwn d0 (rf4 d1 d4 d6 d3) w0) (v := .int (Own_doors w0)) 0 0 1 rfl q_Own (by decide) (by decide +kernel) g_Own_doors dL_drawn_173 ?_
      refine ww_dup_x1 C dL_drawn_176 rfl rfl ?_
      refine ww_iconst (v := 1) C dL_drawn_177 (by decide) ?_
      refine ww_iadd C dL_drawn_178 ?_
      obtain ⟨v0_179, e_v0_179⟩ : ∃ y : OwnV, y = Own_set_doors w0 ((Own_doors w0) + 1) := ⟨_, rfl⟩
      replace hf := ltE e_v0_179 hf
      refine ww_putN C clOK9 in_L_drawn_X9 (w := wOwn E d0 (rf4 d1 d4 d6 d3) w0) (fs := fsOwn d0 (rf4 d1 d4 d6 d3) w0) (w' := wOwn E d0 (rf4 d1 d4 d6 d3) v0_179) (gs' := [wOwn E d0 (rf4 d1 d4 d6 d3) v0_179, wRO E d1 20 d2 w1, wRR E d2 w2, wArr E d3 4 w3, wRO E d4 12 d5 w4, wRR E d5 w5, wRO E d6 4 d7 w6, wRR E d7 w7]) 0 0 1 rfl q_Own (by decide) (by decide +kernel) rfl rfl rfl rfl l_Own (by rw [e_v0_179]; exact p_Own_doors) rfl dL_drawn_179 ?_
      refine ww_iconst (v := 3) C dL_drawn_182 (by decide) ?_
      obtain ⟨g_17, hf⟩ := gdE hf
      refine ww_newi C (by decide +kernel) 3 (by decide) (by decide) (by decide) (of_decide_eq_true g_17) dL_drawn_183 (fun q183 => ?_)
      refine ww_eq (gs' := [wOwn E d0 (rf4 d1 d4 d6 d3) v0_179, wRO E d1 20 d2 w1, wRR E d2 w2, wArr E d3 4 w3, wRO E d4 12 d5 w4, wRR E d5 w5, wRO E d6 4 d7 w6, wRR E d7 w7, wArr E q183 3 (fun _ => 0)]) rfl ?_
      refine ww_dup C dL_drawn_185 rfl ?_
      refine ww_iconst (v := 0) C dL_drawn_186 (by decide) ?_
      refine ww_iload C dL_drawn_187 0 rfl ?_
      obtain ⟨g_18, hf⟩ := gdE hf
      obtain ⟨v8_189, e_v8_189⟩ : ∃ y : Nat → Int32, y = upd (fun _ => 0) (Int32.toNatClampNeg 0) p162 := ⟨_, rfl⟩
      replace hf := ltE e_v8_189 hf
      refine ww_iast C (f := (fun _ => 0)) (w := wArr E q183 3 (fun _ => 0)) (w' := wArr E q183 3 v8_189) (gs' := [wOwn E d0 (rf4 d1 d4 d6 d3) v0_179, wRO E d1 20 d2 w1, wRR E d2 w2, wArr E d3 4 w3, wRO E d4 12 d5 w4, wRR E d5 w5, wRO E d6 4 d7 w6, wRR E d7 w7, wArr E q183 3 v8_189]) 8 0 rfl q_Arr (inB_vp g_18) (by rw [e_v8_189]; exact s_Arr) rfl dL_drawn_189 ?_
      refine ww_dup C dL_drawn_190 rfl ?_
      refine ww_iconst (v := 1) C dL_drawn_191 (by decide) ?_
      refine ww_iload C dL_drawn_192 0 rfl ?_
      refine ww_iconst (v := 1) C dL_drawn_194 (by decide) ?_
      refine ww_iadd C dL_drawn_195 ?_
      refine ww_iload C dL_drawn_196 1 rfl ?_
      refine ww_iconst (v := 2) C dL_drawn_198 (by decide) ?_
      refine ww_ishr C dL_drawn_199 ?_
      refine ww_aload_n C dL_drawn_200 rfl 4 rfl ?_
      refine ww_getN C clOK9 in_L_drawn_X9 (w := wOwn E d0 (rf4 d1 d4 d6 d3) v0_179) (fs := fsOwn d0 (rf4 d1 d4 d6 d3) v0_179) (v := .int (Own_rooms v0_179)) 0 0 0 rfl q_Own (by decide) (by decide +kernel) g_Own_rooms dL_drawn_201 ?_
      refine ww_iconst (v := 1) C dL_drawn_204 (by decide) ?_
      refine ww_isub C dL_drawn_205 ?_
      obtain ⟨p206, hp206, hf⟩ := bdE hf
      refine ww_callS C (As := [.int (x6_154 >>> (2 &&& 31)), .int ((Own_rooms v0_179) - 1)]) (st := [.int (p162 + 1), .int 1, .ref q183, .ref q183, .int (Own_doors w0), .ref d1]) (gr := [wOwn E d0 (rf4 d1 d4 d6 d3) v0_179, wRO E d1 20 d2 w1, wRR E d2 w2, wArr E d3 4 w3, wRO E d4 12 d5 w4, wRR E d5 w5, wRO E d6 4 d7 w6, wRR E d7 w7, wArr E q183 3 v8_189]) (c_L_most (E := E)  hp206) gL_drawn_L_most rfl ysk_L_most ⟨by decide, Nat.le_of_ble_eq_true rfl⟩ (of_decide_eq_true g_17) [] [0, 1, 2, 3, 4, 5, 6, 7, 8] 9 rfl (by decide) rfl rfl (Nat.le_of_ble_eq_true rfl) dL_drawn_206 ?_
      rintro _ _ ⟨rfl, rfl⟩
      refine ww_perm (gs' := [wOwn E d0 (rf4 d1 d4 d6 d3) v0_179, wRO E d1 20 d2 w1, wRR E d2 w2, wArr E d3 4 w3, wRO E d4 12 d5 w4, wRR E d5 w5, wRO E d6 4 d7 w6, wRR E d7 w7, wArr E q183 3 v8_189]) [0, 1, 2, 3, 4, 5, 6, 7, 8] 9 rfl (by decide) rfl ?_
      refine ww_iadd C dL_drawn_209 ?_
      refine ww_aload_n C dL_drawn_210 rfl 4 rfl ?_
      refine ww_getN C clOK9 in_L_drawn_X9 (w := wOwn E d0 (rf4 d1 d4 d6 d3) v0_179) (fs := fsOwn d0 (rf4 d1 d4 d6 d3) v0_179) (v := .int (Own_rooms v0_179)) 0 0 0 rfl q_Own (by decide) (by decide +kernel) g_Own_rooms dL_drawn_211 ?_
      obtain ⟨g_19, hf⟩ := gdE hf
      refine ww_irem C dL_drawn_214 (nz_ne g_19) ?_
      obtain ⟨g_20, hf⟩ := gdE hf
      obtain ⟨v8_215, e_v8_215⟩ : ∃ y : Nat → Int32, y = upd v8_189 (Int32.toNatClampNeg 1) (((p162 + 1) + p206) - ((p162 + 1) + p206) / (Own_rooms v0_179) * (Own_rooms v0_179)) := ⟨_, rfl⟩
      replace hf := ltE e_v8_215 hf
      refine ww_iast C (f := v8_189) (w := wArr E q183 3 v8_189) (w' := wArr E q183 3 v8_215) (gs' := [wOwn E d0 (rf4 d1 d4 d6 d3) v0_179, wRO E d1 20 d2 w1, wRR E d2 w2, wArr E d3 4 w3, wRO E d4 12 d5 w4, wRR E d5 w5, wRO E d6 4 d7 w6, wRR E d7 w7, wArr E q183 3 v8_215]) 8 0 rfl q_Arr (inB_vp g_20) (by rw [e_v8_215]; exact s_Arr) rfl dL_drawn_215 ?_
      refine ww_dup C dL_drawn_216 rfl ?_
      refine ww_iconst (v := 2) C dL_drawn_217 (by decide) ?_
      refine ww_iload C dL_drawn_218 1 rfl ?_
      refine ww_iconst (v := 4) C dL_drawn_220 (by decide) ?_
      refine ww_ishr C dL_drawn_221 ?_
      refine ww_iconst (v := 5) C dL_drawn_222 (by decide) ?_
      obtain ⟨p223, hp223, hf⟩ := bdE hf
      refine ww_callS C (As := [.int (x6_154 >>> (4 &&& 31)), .int 5]) (st := [.int 2, .ref q183, .ref q183, .int (Own_doors w0), .ref d1]) (gr := [wOwn E d0 (rf4 d1 d4 d6 d3) v0_179, wRO E d1 20 d2 w1, wRR E d2 w2, wArr E d3 4 w3, wRO E d4 12 d5 w4, wRR E d5 w5, wRO E d6 4 d7 w6, wRR E d7 w7, wArr E q183 3 v8_215]) (c_L_most (E := E)  hp223) gL_drawn_L_most rfl ysk_L_most ⟨by decide, Nat.le_of_ble_eq_true rfl⟩ (of_decide_eq_true g_17) [] [0, 1, 2, 3, 4, 5, 6, 7, 8] 9 rfl (by decide) rfl rfl (Nat.le_of_ble_eq_true rfl) dL_drawn_223 ?_
      rintro _ _ ⟨rfl, rfl⟩
      refine ww_perm (gs' := [wOwn E d0 (rf4 d1 d4 d6 d3) v0_179, wRO E d1 20 d2 w1, wRR E d2 w2, wArr E d3 4 w3, wRO E d4 12 d5 w4, wRR E d5 w5, wRO E d6 4 d7 w6, wRR E d7 w7, wArr E q183 3 v8_215]) [0, 1, 2, 3, 4, 5, 6, 7, 8] 9 rfl (by decide) rfl ?_
      refine ww_if_ne (tgt := 233) C dL_drawn_226 (by decide) (fun c_21 => ?_) (fun c_21 => ?_)
      · replace hf := ifF c_21 hf
        refine ww_iconst (v := 1) C dL_drawn_233 (by decide) ?_
        obtain ⟨g_22, hf⟩ := gdE hf
        obtain ⟨v8_234, e_v8_234⟩ : ∃ y : Nat → Int32, y = upd v8_215 (Int32.toNatClampNeg 2) 1 := ⟨_, rfl⟩
        replace hf := ltE e_v8_234 hf
        refine ww_iast C (f := v8_215) (w := wArr E q183 3 v8_215) (w' := wArr E q183 3 v8_234) (gs' := [wOwn E d0 (rf4 d1 d4 d6 d3) v0_179, wRO E d1 20 d2 w1, wRR E d2 w2, wArr E d3 4 w3, wRO E d4 12 d5 w4, wRR E d5 w5, wRO E d6 4 d7 w6, wRR E d7 w7, wArr E q183 3 v8_234]) 8 0 rfl q_Arr (inB_vp g_22) (by rw [e_v8_234]; exact s_Arr) rfl dL_drawn_234 ?_
        obtain ⟨g_23, hf⟩ := gdE hf
        obtain ⟨g_24, hf⟩ := gdE hf
        obtain ⟨v1_235, e_v1_235⟩ : ∃ y : Nat, y = w1 + 1 := ⟨_, rfl⟩
        replace hf := ltE e_v1_235 hf
        refine ww_astR C (b := q183) (f := roF d2 w1) (w := wRO E d1 20 d2 w1) (w' := wRO E d1 20 (upA d2 w1 q183) v1_235) (wv := wArr E q183 3 v8_234) (gs' := [wOwn E d0 (rf4 d1 d4 d6 d3) v0_179, wRO E d1 20 (upA d2 w1 q183) v1_235, wRR E d2 w2, wArr E d3 4 w3, wRO E d4 12 d5 w4, wRR E d5 w5, wRO E d6 4 d7 w6, wRR E d7 w7, wArr E q183 3 v8_234]) 1 0 8 0 rfl q_RO rfl q_Arr (inB_vp g_23) (by rw [e_v1_235]; exact ro_app (of_decide_eq_true g_24).1) rfl dL_drawn_235 ?_
        obtain ⟨v2_235, e_v2_235⟩ : ∃ y : RowsT, y = rrApp w2 3 v8_234 := ⟨_, rfl⟩
        replace hf := ltE e_v2_235 hf
        refine ww_perm (gs' := [wOwn E d0 (rf4 d1 d4 d6 d3) v0_179, wRO E d1 20 (upA d2 w1 q183) v1_235, wRR E d2 w2, wArr E q183 3 v8_234, wArr E d3 4 w3, wRO E d4 12 d5 w4, wRR E d5 w5, wRO E d6 4 d7 w6, wRR E d7 w7]) [0, 1, 2, 8, 3, 4, 5, 6, 7] 9 rfl (by decide) rfl ?_
        refine ww_regr (gs' := [wOwn E d0 (rf4 d1 d4 d6 d3) v0_179, wRO E d1 20 (upA d2 w1 q183) v1_235, wRR E (upA d2 w1 q183) v2_235, wArr E d3 4 w3, wRO E d4 12 d5 w4, wRR E d5 w5, wRO E d6 4 d7 w6, wRR E d7 w7]) (by rw [e_v2_235, rr_app (of_decide_eq_true g_24).2]; simp only [List.flatten_cons, List.flatten_nil, List.append_assoc]) ?_
        obtain ⟨x5_236, e_x5_236⟩ : ∃ y : Int32, y = x5 + 1 := ⟨_, rfl⟩
        replace hf := ltE e_x5_236 hf
        refine ww_iinc (v := x5_236) (lv' := [(5, .int x5_236), (7, .int p162), (6, .int x6_154), (0, .ref (eB E)), (1, .int x1), (2, .ref (d0 0)), (3, .int x3), (4, .int x4)]) C dL_drawn_236 7 rfl (by rw [e_x5_236]; rfl) (by decide) rfl ?_
        refine ww_goto (tgt := 128) C dL_drawn_239 (by decide) ?_
        refine ww_sub C (lv' := [(0, .ref (eB E)), (1, .int x1), (2, .ref (d0 0)), (3, .int x3), (4, .int x4), (5, .int x5_236)]) [3, 4, 5, 6, 7, 0] rfl ?_
        exact ih _ _ _ _ _ _ _ _ _ _ _ _ _ _ _ _ _ _ _ (of_decide_eq_true g_17) hf
      · replace hf := ifT c_21 hf
        refine ww_iconst (v := 0) C dL_drawn_229 (by decide) ?_
        refine ww_goto (tgt := 234) C dL_drawn_230 (by decide) ?_
        obtain ⟨g_25, hf⟩ := gdE hf
        obtain ⟨v8_234, e_v8_234⟩ : ∃ y : Nat → Int32, y = upd v8_215 (Int32.toNatClampNeg 2) 0 := ⟨_, rfl⟩
        replace hf := ltE e_v8_234 hf
        refine ww_iast C (f := v8_215) (w := wArr E q183 3 v8_215) (w' := wArr E q183 3 v8_234) (gs' := [wOwn E d0 (rf4 d1 d4 d6 d3) v0_179, wRO E d1 20 d2 w1, wRR E d2 w2, wArr E d3 4 w3, wRO E d4 12 d5 w4, wRR E d5 w5, wRO E d6 4 d7 w6, wRR E d7 w7, wArr E q183 3 v8_234]) 8 0 rfl q_Arr (inB_vp g_25) (by rw [e_v8_234]; exact s_Arr) rfl dL_drawn_234 ?_
        obtain ⟨g_26, hf⟩ := gdE hf
        obtain ⟨g_27, hf⟩ := gdE hf
        obtain ⟨v1_235, e_v1_235⟩ : ∃ y : Nat, y = w1 + 1 := ⟨_, rfl⟩
        replace hf := ltE e_v1_235 hf
        refine ww_astR C (b := q183) (f := roF d2 w1) (w := wRO E d1 20 d2 w1) (w' := wRO E d1 20 (upA d2 w1 q183) v1_235) (wv := wArr E q183 3 v8_234) (gs' := [wOwn E d0 (rf4 d1 d4 d6 d3) v0_179, wRO E d1 20 (upA d2 w1 q183) v1_235, wRR E d2 w2, wArr E d3 4 w3, wRO E d4 12 d5 w4, wRR E d5 w5, wRO E d6 4 d7 w6, wRR E d7 w7, wArr E q183 3 v8_234]) 1 0 8 0 rfl q_RO rfl q_Arr (inB_vp g_26) (by rw [e_v1_235]; exact ro_app (of_decide_eq_true g_27).1) rfl dL_drawn_235 ?_
        obtain ⟨v2_235, e_v2_235⟩ : ∃ y : RowsT, y = rrApp w2 3 v8_234 := ⟨_, rfl⟩
        replace hf := ltE e_v2_235 hf
        refine ww_perm (gs' := [wOwn E d0 (rf4 d1 d4 d6 d3) v0_179, wRO E d1 20 (upA d2 w1 q183) v1_235, wRR E d2 w2, wArr E q183 3 v8_234, wArr E d3 4 w3, wRO E d4 12 d5 w4, wRR E d5 w5, wRO E d6 4 d7 w6, wRR E d7 w7]) [0, 1, 2, 8, 3, 4, 5, 6, 7] 9 rfl (by decide) rfl ?_
        refine ww_regr (gs' := [wOwn E d0 (rf4 d1 d4 d6 d3) v0_179, wRO E d1 20 (upA d2 w1 q183) v1_235, wRR E (upA d2 w1 q183) v2_235, wArr E d3 4 w3, wRO E d4 12 d5 w4, wRR E d5 w5, wRO E d6 4 d7 w6, wRR E d7 w7]) (by rw [e_v2_235, rr_app (of_decide_eq_true g_27).2]; simp only [List.flatten_cons, List.flatten_nil, List.append_assoc]) ?_
        obtain ⟨x5_236, e_x5_236⟩ : ∃ y : Int32, y = x5 + 1 := ⟨_, rfl⟩
        replace hf := ltE e_x5_236 hf
        refine ww_iinc (v := x5_236) (lv' := [(5, .int x5_236), (7, .int p162), (6, .int x6_154), (0, .ref (eB E)), (1, .int x1), (2, .ref (d0 0)), (3, .int x3), (4, .int x4)]) C dL_drawn_236 7 rfl (by rw [e_x5_236]; rfl) (by decide) rfl ?_
        refine ww_goto (tgt := 128) C dL_drawn_239 (by decide) ?_
        refine ww_sub C (lv' := [(0, .ref (eB E)), (1, .int x1), (2, .ref (d0 0)), (3, .int x3), (4, .int x4), (5, .int x5_236)]) [3, 4, 5, 6, 7, 0] rfl ?_
        exact ih _ _ _ _ _ _ _ _ _ _ _ _ _ _ _ _ _ _ _ (of_decide_eq_true g_17) hf

set_option maxHeartbeats 4000000 in
set_option maxRecDepth 100000 in
theorem w_L_drawn_78 {E : Ex} {K : Kx} (C : Cx E K cL_drawn 8 (some (.object "GuardWalksLaw$Own")) RL wsL_drawn rmL_drawn)  {L : Nat} {xs : Nat → Int32} {x1 : Int32}  {d0 : Nat → Nat} {d1 : Nat} {d2 : Nat → Nat} {d3 : Nat} {d4 : Nat} {d5 : Nat → Nat} {d6 : Nat} {d7 : Nat → Nat} {d8 : Nat} {x3 : Int32} {x4 : Int32} {s0 : Int32} {s1 : Int32} {s4 : Int32} {w0 : OwnV} {w1 : Nat} {w2 : RowsT} {w3 : Nat → Int32} {w4 : Nat} {w5 : RowsT} {w6 : Nat} {w7 : RowsT} {w8 : Nat → Int32} {c : Nat} {s : Nat} {k29 : Int32 → OwnV → Nat → RowsT → (Nat → Int32) → Nat → RowsT → Nat → RowsT → Nat → Nat → Option (OwnV × Nat × RowsT × Nat × RowsT × Nat × RowsT × (Nat → Int32))} {r : (OwnV × Nat × RowsT × Nat × RowsT × Nat × RowsT × (Nat → Int32))} (S0 : SXE E L xs) (hk29 : ∀ (d0 : Nat → Nat) (d1 : Nat) (d2 : Nat → Nat) (d3 : Nat) (d4 : Nat) (d5 : Nat → Nat) (d6 : Nat) (d7 : Nat → Nat) (x4 : Int32) (w0 : OwnV) (w1 : Nat) (w2 : RowsT) (w3 : Nat → Int32) (w4 : Nat) (w5 : RowsT) (w6 : Nat) (w7 : RowsT) (c : Nat) (s : Nat), c ≤ 64 ∧ s ≤ 600 → k29 x4 w0 w1 w2 w3 w4 w5 w6 w7 c s = some r → WW E K c s (QQ E K (fun rv g => ∃ (y0 : Nat → Nat) (y1 : Nat) (y2 : Nat → Nat) (y3 : Nat) (y4 : Nat → Nat) (y5 : Nat) (y6 : Nat → Nat) (y7 : Nat), rv = some (.ref (y0 0)) ∧ g = [wOwn E y0 (rf4 y1 y3 y5 y7) r.1, wRO E y1 20 y2 r.2.1, wRR E y2 r.2.2.1, wRO E y3 12 y4 r.2.2.2.1, wRR E y4 r.2.2.2.2.1, wRO E y5 4 y6 r.2.2.2.2.2.1, wRR E y6 r.2.2.2.2.2.2.1, wArr E y7 4 r.2.2.2.2.2.2.2]) 64 600) 29 [(0, .ref (eB E)), (1, .int x1), (2, .ref (d0 0)), (3, .int x3), (4, .int x4)] [] [wOwn E d0 (rf4 d1 d4 d6 d3) w0, wRO E d1 20 d2 w1, wRR E d2 w2, wArr E d3 4 w3, wRO E d4 12 d5 w4, wRR E d5 w5, wRO E d6 4 d7 w6, wRR E d7 w7]) (hcs : c ≤ 64 ∧ s ≤ 600) (hf : L_drawn_78 L xs x1 k29 x3 x4 s0 s1 s4 w0 w1 w2 w3 w4 w5 w6 w7 w8 c s = some r) : WW E K c s (QQ E K (fun rv g => ∃ (y0 : Nat → Nat) (y1 : Nat) (y2 : Nat → Nat) (y3 : Nat) (y4 : Nat → Nat) (y5 : Nat) (y6 : Nat → Nat) (y7 : Nat), rv = some (.ref (y0 0)) ∧ g = [wOwn E y0 (rf4 y1 y3 y5 y7) r.1, wRO E y1 20 y2 r.2.1, wRR E y2 r.2.2.1, wRO E y3 12 y4 r.2.2.2.1, wRR E y4 r.2.2.2.2.1, wRO E y5 4 y6 r.2.2.2.2.2.1, wRR E y6 r.2.2.2.2.2.2.1, wArr E y7 4 r.2.2.2.2.2.2.2]) 64 600) 78 [(0, .ref (eB E)), (1, .int x1), (2, .ref (d0 0)), (3, .int x3), (4, .int x4)] [.int s0, .int s1, .ref d8, .ref d8, .int s4, .ref d4] [wOwn E d0 (rf4 d1 d4 d6 d3) w0, wRO E d1 20 d2 w1, wRR E d2 w2, wArr E d3 4 w3, wRO E d4 12 d5 w4, wRR E d5 w5, wRO E d6 4 d7 w6, wRR E d7 w7, wArr E d8 5 w8] := by
  rw [L_drawn_78] at hf
  obtain ⟨g_7, hf⟩ := gdE hf
  obtain ⟨v8_78, e_v8_78⟩ : ∃ y : Nat → Int32, y = upd w8 (Int32.toNatClampNeg s1) s0 := ⟨_, rfl⟩
  replace hf := ltE e_v8_78 hf
  refine ww_iast C (f := w8) (w := wArr E d8 5 w8) (w' := wArr E d8 5 v8_78) (gs' := [wOwn E d0 (rf4 d1 d4 d6 d3) w0, wRO E d1 20 d2 w1, wRR E d2 w2, wArr E d3 4 w3, wRO E d4 12 d5 w4, wRR E d5 w5, wRO E d6 4 d7 w6, wRR E d7 w7, wArr E d8 5 v8_78]) 8 0 rfl q_Arr (inB_vp g_7) (by rw [e_v8_78]; exact s_Arr) rfl dL_drawn_78 ?_
  refine ww_dup C dL_drawn_79 rfl ?_
  refine ww_iconst (v := 1) C dL_drawn_80 (by decide) ?_
  refine ww_iconst (v := 0) C dL_drawn_81 (by decide) ?_
  obtain ⟨g_8, hf⟩ := gdE hf
  obtain ⟨v8_82, e_v8_82⟩ : ∃ y : Nat → Int32, y = upd v8_78 (Int32.toNatClampNeg 1) 0 := ⟨_, rfl⟩
  replace hf := ltE e_v8_82 hf
  refine ww_iast C (f := v8_78) (w := wArr E d8 5 v8_78) (w' := wArr E d8 5 v8_82) (gs' := [wOwn E d0 (rf4 d1 d4 d6 d3) w0, wRO E d1 20 d2 w1, wRR E d2 w2, wArr E d3 4 w3, wRO E d4 12 d5 w4, wRR E d5 w5, wRO E d6 4 d7 w6, wRR E d7 w7, wArr E d8 5 v8_82]) 8 0 rfl q_Arr (inB_vp g_8) (by rw [e_v8_82]; exact s_Arr) rfl dL_drawn_82 ?_
  refine ww_dup C dL_drawn_83 rfl ?_
  refine ww_iconst (v := 2) C dL_drawn_84 (by decide) ?_
  refine ww_iconst (v := (-1)) C dL_drawn_85 (by decide) ?_
  obtain ⟨g_9, hf⟩ := gdE hf
  obtain ⟨v8_86, e_v8_86⟩ : ∃ y : Nat → Int32, y = upd v8_82 (Int32.toNatClampNeg 2) (-1) := ⟨_, rfl⟩
  replace hf := ltE e_v8_86 hf
  refine ww_iast C (f := v8_82) (w := wArr E d8 5 v8_82) (w' := wArr E d8 5 v8_86) (gs' := [wOwn E d0 (rf4 d1 d4 d6 d3) w0, wRO E d1 20 d2 w1, wRR E d2 w2, wArr E d3 4 w3, wRO E d4 12 d5 w4, wRR E d5 w5, wRO E d6 4 d7 w6, wRR E d7 w7, wArr E d8 5 v8_86]) 8 0 rfl q_Arr (inB_vp g_9) (by rw [e_v8_86]; exact s_Arr) rfl dL_drawn_86 ?_
  refine ww_dup C dL_drawn_87 rfl ?_
  refine ww_iconst (v := 3) C dL_drawn_88 (by decide) ?_
  refine ww_iconst (v := 0) C dL_drawn_89 (by decide) ?_
  obtain ⟨g_10, hf⟩ := gdE hf
  obtain ⟨v8_90, e_v8_90⟩ : ∃ y : Nat → Int32, y = upd v8_86 (Int32.toNatClampNeg 3) 0 := ⟨_, rfl⟩
  replace hf := ltE e_v8_90 hf
  refine ww_iast C (f := v8_86) (w := wArr E d8 5 v8_86) (w' := wArr E d8 5 v8_90) (gs' := [wOwn E d0 (rf4 d1 d4 d6 d3) w0, wRO E d1 20 d2 w1, wRR E d2 w2, wArr E d3 4 w3, wRO E d4 12 d5 w4, wRR E d5 w5, wRO E d6 4 d7 w6, wRR E d7 w7, wArr E d8 5 v8_90]) 8 0 rfl q_Arr (inB_vp g_10) (by rw [e_v8_90]; exact s_Arr) rfl dL_drawn_90 ?_
  refine ww_dup C dL_drawn_91 rfl ?_
  refine ww_iconst (v := 4) C dL_drawn_92 (by decide) ?_
  refine ww_iconst (v := 0) C dL_drawn_93 (by decide) ?_
  obtain ⟨g_11, hf⟩ := gdE hf
  obtain ⟨v8_94, e_v8_94⟩ : ∃ y : Nat → Int32, y = upd v8_90 (Int32.toNatClampNeg 4) 0 := ⟨_, rfl⟩
  replace hf := ltE e_v8_94 hf
  refine ww_iast C (f := v8_90) (w := wArr E d8 5 v8_90) (w' := wArr E d8 5 v8_94) (gs' := [wOwn E d0 (rf4 d1 d4 d6 d3) w0, wRO E d1 20 d2 w1, wRR E d2 w2, wArr E d3 4 w3, wRO E d4 12 d5 w4, wRR E d5 w5, wRO E d6 4 d7 w6, wRR E d7 w7, wArr E d8 5 v8_94]) 8 0 rfl q_Arr (inB_vp g_11) (by rw [e_v8_94]; exact s_Arr) rfl dL_drawn_94 ?_
  obtain ⟨g_12, hf⟩ := gdE hf
  obtain ⟨g_13, hf⟩ := gdE hf
  obtain ⟨v4_95, e_v4_95⟩ : ∃ y : Nat, y = w4 + 1 := ⟨_, rfl⟩
  replace hf := ltE e_v4_95 hf
  refine ww_astR C (b := d8) (f := roF d5 w4) (w := wRO E d4 12 d5 w4) (w' := wRO E d4 12 (upA d5 w4 d8) v4_95) (wv := wArr E d8 5 v8_94) (gs' := [wOwn E d0 (rf4 d1 d4 d6 d3) w0, wRO E d1 20 d2 w1, wRR E d2 w2, wArr E d3 4 w3, wRO E d4 12 (upA d5 w4 d8) v4_95, wRR E d5 w5, wRO E d6 4 d7 w6, wRR E d7 w7, wArr E d8 5 v8_94]) 4 0 8 0 rfl q_RO rfl q_Arr (inB_vp g_12) (by rw [e_v4_95]; exact ro_app (of_decide_eq_true g_13).1) rfl dL_drawn_95 ?_
  obtain ⟨v5_95, e_v5_95⟩ : ∃ y : RowsT, y = rrApp w5 5 v8_94 := ⟨_, rfl⟩
  replace hf := ltE e_v5_95 hf
  refine ww_perm (gs' := [wOwn E d0 (rf4 d1 d4 d6 d3) w0, wRO E d1 20 d2 w1, wRR E d2 w2, wArr E d3 4 w3, wRO E d4 12 (upA d5 w4 d8) v4_95, wRR E d5 w5, wArr E d8 5 v8_94, wRO E d6 4 d7 w6, wRR E d7 w7]) [0, 1, 2, 3, 4, 5, 8, 6, 7] 9 rfl (by decide) rfl ?_
  refine ww_regr (gs' := [wOwn E d0 (rf4 d1 d4 d6 d3) w0, wRO E d1 20 d2 w1, wRR E d2 w2, wArr E d3 4 w3, wRO E d4 12 (upA d5 w4 d8) v4_95, wRR E (upA d5 w4 d8) v5_95, wRO E d6 4 d7 w6, wRR E d7 w7]) (by rw [e_v5_95, rr_app (of_decide_eq_true g_13).2]; simp only [List.flatten_cons, List.flatten_nil, List.append_assoc]) ?_
  obtain ⟨x4_96, e_x4_96⟩ : ∃ y : Int32, y = x4 + 1 := ⟨_, rfl⟩
  replace hf := ltE e_x4_96 hf
  refine ww_iinc (v := x4_96) (lv' := [(4, .int x4_96), (0, .ref (eB E)), (1, .int x1), (2, .ref (d0 0)), (3, .int x3)]) C dL_drawn_96 4 rfl (by rw [e_x4_96]; rfl) (by decide) rfl ?_
  refine ww_goto (tgt := 29) C dL_drawn_99 (by decide) ?_
  refine ww_sub C (lv' := [(0, .ref (eB E)), (1, .int x1), (2, .ref (d0 0)), (3, .int x3), (4, .int x4_96)]) [1, 2, 3, 4, 0] rfl ?_
  exact hk29 _ _ _ _ _ _ _ _ _ _ _ _ _ _ _ _ _ _ _ hcs hf

set_option maxHeartbeats 4000000 in
set_option maxRecDepth 100000 in
theorem w_L_drawn_29 {E : Ex} {K : Kx} (C : Cx E K cL_drawn 8 (some (.object "GuardWalksLaw$Own")) RL wsL_drawn rmL_drawn)  {L : Nat} {xs : Nat → Int32} {x1 : Int32} {x3 : Int32} {r : (OwnV × Nat × RowsT × Nat × RowsT × Nat × RowsT × (Nat → Int32))} (S0 : SXE E L xs) : ∀ (n : Nat) (d0 : Nat → Nat) (d1 : Nat) (d2 : Nat → Nat) (d3 : Nat) (d4 : Nat) (d5 : Nat → Nat) (d6 : Nat) (d7 : Nat → Nat) (x4 : Int32) (w0 : OwnV) (w1 : Nat) (w2 : RowsT) (w3 : Nat → Int32) (w4 : Nat) (w5 : RowsT) (w6 : Nat) (w7 : RowsT) (c : Nat) (s : Nat), c ≤ 64 ∧ s ≤ 600 → L_drawn_29 L xs x1 x3 n x4 w0 w1 w2 w3 w4 w5 w6 w7 c s = some r → WW E K c s (QQ E K (fun rv g => ∃ (y0 : Nat → Nat) (y1 : Nat) (y2 : Nat → Nat) (y3 : Nat) (y4 : Nat → Nat) (y5 : Nat) (y6 : Nat → Nat) (y7 : Nat), rv = some (.ref (y0 0)) ∧ g = [wOwn E y0 (rf4 y1 y3 y5 y7) r.1, wRO E y1 20 y2 r.2.1, wRR E y2 r.2.2.1, wRO E y3 12 y4 r.2.2.2.1, wRR E y4 r.2.2.2.2.1, wRO E y5 4 y6 r.2.2.2.2.2.1, wRR E y6 r.2.2.2.2.2.2.1, wArr E y7 4 r.2.2.2.2.2.2.2]) 64 600) 29 [(0, .ref (eB E)), (1, .int x1), (2, .ref (d0 0)), (3, .int x3), (4, .int x4)] [] [wOwn E d0 (rf4 d1 d4 d6 d3) w0, wRO E d1 20 d2 w1, wRR E d2 w2, wArr E d3 4 w3, wRO E d4 12 d5 w4, wRR E d5 w5, wRO E d6 4 d7 w6, wRR E d7 w7] := by
  intro n
  induction n with
  | zero =>
    intro d0 d1 d2 d3 d4 d5 d6 d7 x4 w0 w1 w2 w3 w4 w5 w6 w7 c s hcs hf
    simp [L_drawn_29] at hf
  | succ n ih =>
    intro d0 d1 d2 d3 d4 d5 d6 d7 x4 w0 w1 w2 w3 w4 w5 w6 w7 c s hcs hf
    rw [L_drawn_29] at hf
    refine ww_iload C dL_drawn_29 4 rfl ?_
    refine ww_aload_n C dL_drawn_31 rfl 2 rfl ?_
    refine ww_getN C clOK9 in_L_drawn_X9 (w := wOwn E d0 (rf4 d1 d4 d6 d3) w0) (fs := fsOwn d0 (rf4 d1 d4 d6 d3) w0) (v := .int (Own_rooms w0)) 0 0 0 rfl q_Own (by decide) (by decide +kernel) g_Own_rooms dL_drawn_32 ?_
    refine ww_icmp_ge (tgt := 102) C dL_drawn_35 (by decide) (fun c_3 => ?_) (fun c_3 => ?_)
    · replace hf := ifT c_3 hf
      refine ww_aload_n C dL_drawn_102 rfl 2 rfl ?_
      refine ww_getN C clOK9 in_L_drawn_X9 (w := wOwn E d0 (rf4 d1 d4 d6 d3) w0) (fs := fsOwn d0 (rf4 d1 d4 d6 d3) w0) (v := .int (Own_rooms w0)) 0 0 0 rfl q_Own (by decide) (by decide +kernel) g_Own_rooms dL_drawn_103 ?_
      refine ww_iconst (v := 1) C dL_drawn_106 (by decide) ?_
      refine ww_icmp_ne (tgt := 114) C dL_drawn_107 (by decide) (fun c_4 => ?_) (fun c_4 => ?_)
      · replace hf := ifF c_4 hf
        refine ww_iload_n C dL_drawn_114 rfl 3 rfl ?_
        refine ww_bipush (v := 9) C dL_drawn_115 (by decide) ?_
        refine ww_ishr C dL_drawn_117 ?_
        refine ww_bipush (v := 11) C dL_drawn_118 (by decide) ?_
        obtain ⟨p120, hp120, hf⟩ := bdE hf
        refine ww_callS C (As := [.int (x3 >>> (9 &&& 31)), .int 11]) (st := []) (gr := [wOwn E d0 (rf4 d1 d4 d6 d3) w0, wRO E d1 20 d2 w1, wRR E d2 w2, wArr E d3 4 w3, wRO E d4 12 d5 w4, wRR E d5 w5, wRO E d6 4 d7 w6, wRR E d7 w7]) (c_L_most (E := E)  hp120) gL_drawn_L_most rfl ysk_L_most ⟨by decide, Nat.le_of_ble_eq_true rfl⟩ hcs [] [0, 1, 2, 3, 4, 5, 6, 7] 8 rfl (by decide) rfl rfl (Nat.le_of_ble_eq_true rfl) dL_drawn_120 ?_
        rintro _ _ ⟨rfl, rfl⟩
        refine ww_perm (gs' := [wOwn E d0 (rf4 d1 d4 d6 d3) w0, wRO E d1 20 d2 w1, wRR E d2 w2, wArr E d3 4 w3, wRO E d4 12 d5 w4, wRR E d5 w5, wRO E d6 4 d7 w6, wRR E d7 w7]) [0, 1, 2, 3, 4, 5, 6, 7] 8 rfl (by decide) rfl ?_
        refine ww_istore (lv' := [(4, .int p120), (0, .ref (eB E)), (1, .int x1), (2, .ref (d0 0)), (3, .int x3)]) C dL_drawn_123 (by decide) rfl ?_
        refine ww_iconst (v := 0) C dL_drawn_125 (by decide) ?_
        refine ww_istore (lv' := [(5, .int 0), (4, .int p120), (0, .ref (eB E)), (1, .int x1), (2, .ref (d0 0)), (3, .int x3)]) C dL_drawn_126 (by decide) rfl ?_
        refine ww_sub C (lv' := [(0, .ref (eB E)), (1, .int x1), (2, .ref (d0 0)), (3, .int x3), (4, .int p120), (5, .int 0)]) [2, 3, 4, 5, 1, 0] rfl ?_
        exact w_L_drawn_128 C S0 FU _ _ _ _ _ _ _ _ _ _ _ _ _ _ _ _ _ _ _ hcs hf
      · replace hf := ifT c_4 hf
        refine ww_iconst (v := 0) C dL_drawn_110 (by decide) ?_
        refine ww_goto (tgt := 123) C dL_drawn_111 (by decide) ?_
        refine ww_istore (lv' := [(4, .int 0), (0, .ref (eB E)), (1, .int x1), (2, .ref (d0 0)), (3, .int x3)]) C dL_drawn_123 (by decide) rfl ?_
        refine ww_iconst (v := 0) C dL_drawn_125 (by decide) ?_
        refine ww_istore (lv' := [(5, .int 0), (4, .int 0), (0, .ref (eB E)), (1, .int x1), (2, .ref (d0 0)), (3, .int x3)]) C dL_drawn_126 (by decide) rfl ?_
        refine ww_sub C (lv' := [(0, .ref (eB E)), (1, .int x1), (2, .ref (d0 0)), (3, .int x3), (4, .int 0), (5, .int 0)]) [2, 3, 4, 5, 1, 0] rfl ?_
        exact w_L_drawn_128 C S0 FU _ _ _ _ _ _ _ _ _ _ _ _ _ _ _ _ _ _ _ hcs hf
    · replace hf := ifF c_3 hf
      refine ww_aload_n C dL_drawn_38 rfl 2 rfl ?_
      refine ww_getN C clOK9 in_L_drawn_X9 (w := wOwn E d0 (rf4 d1 d4 d6 d3) w0) (fs := fsOwn d0 (rf4 d1 d4 d6 d3) w0) (v := .ref d4) 0 0 5 rfl q_Own (by decide) (by decide +kernel) g_Own_room dL_drawn_39 ?_
      refine ww_iload C dL_drawn_42 4 rfl ?_
      refine ww_iconst (v := 5) C dL_drawn_44 (by decide) ?_
      obtain ⟨g_5, hf⟩ := gdE hf
      refine ww_newi C (by decide +kernel) 5 (by decide) (by decide) (by decide) (of_decide_eq_true g_5) dL_drawn_45 (fun q45 => ?_)
      refine ww_eq (gs' := [wOwn E d0 (rf4 d1 d4 d6 d3) w0, wRO E d1 20 d2 w1, wRR E d2 w2, wArr E d3 4 w3, wRO E d4 12 d5 w4, wRR E d5 w5, wRO E d6 4 d7 w6, wRR E d7 w7, wArr E q45 5 (fun _ => 0)]) rfl ?_
      refine ww_dup C dL_drawn_47 rfl ?_
      refine ww_iconst (v := 0) C dL_drawn_48 (by decide) ?_
      refine ww_iload_n C dL_drawn_49 rfl 3 rfl ?_
      refine ww_iconst (v := 3) C dL_drawn_50 (by decide) ?_
      refine ww_iload C dL_drawn_51 4 rfl ?_
      refine ww_iadd C dL_drawn_53 ?_
      refine ww_ishr C dL_drawn_54 ?_
      refine ww_iconst (v := 3) C dL_drawn_55 (by decide) ?_
      obtain ⟨p56, hp56, hf⟩ := bdE hf
      refine ww_callS C (As := [.int (x3 >>> ((3 + x4) &&& 31)), .int 3]) (st := [.int 0, .ref q45, .ref q45, .int x4, .ref d4]) (gr := [wOwn E d0 (rf4 d1 d4 d6 d3) w0, wRO E d1 20 d2 w1, wRR E d2 w2, wArr E d3 4 w3, wRO E d4 12 d5 w4, wRR E d5 w5, wRO E d6 4 d7 w6, wRR E d7 w7, wArr E q45 5 (fun _ => 0)]) (c_L_most (E := E)  hp56) gL_drawn_L_most rfl ysk_L_most ⟨by decide, Nat.le_of_ble_eq_true rfl⟩ (of_decide_eq_true g_5) [] [0, 1, 2, 3, 4, 5, 6, 7, 8] 9 rfl (by decide) rfl rfl (Nat.le_of_ble_eq_true rfl) dL_drawn_56 ?_
      rintro _ _ ⟨rfl, rfl⟩
      refine ww_perm (gs' := [wOwn E d0 (rf4 d1 d4 d6 d3) w0, wRO E d1 20 d2 w1, wRR E d2 w2, wArr E d3 4 w3, wRO E d4 12 d5 w4, wRR E d5 w5, wRO E d6 4 d7 w6, wRR E d7 w7, wArr E q45 5 (fun _ => 0)]) [0, 1, 2, 3, 4, 5, 6, 7, 8] 9 rfl (by decide) rfl ?_
      refine ww_if_ne (tgt := 67) C dL_drawn_59 (by decide) (fun c_6 => ?_) (fun c_6 => ?_)
      · replace hf := ifF c_6 hf
        refine ww_iload_n C dL_drawn_67 rfl 3 rfl ?_
        refine ww_iconst (v := 2) C dL_drawn_68 (by decide) ?_
        refine ww_iload C dL_drawn_69 4 rfl ?_
        refine ww_imul C dL_drawn_71 ?_
        refine ww_ishr C dL_drawn_72 ?_
        refine ww_bipush (v := 7) C dL_drawn_73 (by decide) ?_
        obtain ⟨p75, hp75, hf⟩ := bdE hf
        refine ww_callS C (As := [.int (x3 >>> ((2 * x4) &&& 31)), .int 7]) (st := [.int 0, .ref q45, .ref q45, .int x4, .ref d4]) (gr := [wOwn E d0 (rf4 d1 d4 d6 d3) w0, wRO E d1 20 d2 w1, wRR E d2 w2, wArr E d3 4 w3, wRO E d4 12 d5 w4, wRR E d5 w5, wRO E d6 4 d7 w6, wRR E d7 w7, wArr E q45 5 (fun _ => 0)]) (c_L_most (E := E)  hp75) gL_drawn_L_most rfl ysk_L_most ⟨by decide, Nat.le_of_ble_eq_true rfl⟩ (of_decide_eq_true g_5) [] [0, 1, 2, 3, 4, 5, 6, 7, 8] 9 rfl (by decide) rfl rfl (Nat.le_of_ble_eq_true rfl) dL_drawn_75 ?_
        rintro _ _ ⟨rfl, rfl⟩
        refine ww_perm (gs' := [wOwn E d0 (rf4 d1 d4 d6 d3) w0, wRO E d1 20 d2 w1, wRR E d2 w2, wArr E d3 4 w3, wRO E d4 12 d5 w4, wRR E d5 w5, wRO E d6 4 d7 w6, wRR E d7 w7, wArr E q45 5 (fun _ => 0)]) [0, 1, 2, 3, 4, 5, 6, 7, 8] 9 rfl (by decide) rfl ?_
        refine ww_sub C (lv' := [(0, .ref (eB E)), (1, .int x1), (2, .ref (d0 0)), (3, .int x3), (4, .int x4)]) [0, 1, 2, 3, 4] rfl ?_
        exact w_L_drawn_78 C S0 (k29 := (fun (x4 : Int32) (w0 : OwnV) (w1 : Nat) (w2 : RowsT) (w3 : Nat → Int32) (w4 : Nat) (w5 : RowsT) (w6 : Nat) (w7 : RowsT) (c : Nat) (s : Nat) => L_drawn_29 L xs x1 x3 n x4 w0 w1 w2 w3 w4 w5 w6 w7 c s)) ih (of_decide_eq_true g_5) hf
      · replace hf := ifT c_6 hf
        refine ww_bipush (v := 99) C dL_drawn_62 (by decide) ?_
        refine ww_goto (tgt := 78) C dL_drawn_64 (by decide) ?_
        refine ww_sub C (lv' := [(0, .ref (eB E)), (1, .int x1), (2, .ref (d0 0)), (3, .int x3), (4, .int x4)]) [0, 1, 2, 3, 4] rfl ?_
        exact w_L_drawn_78 C S0 (k29 := (fun (x4 : Int32) (w0 : OwnV) (w1 : Nat) (w2 : RowsT) (w3 : Nat → Int32) (w4 : Nat) (w5 : RowsT) (w6 : Nat) (w7 : RowsT) (c : Nat) (s : Nat) => L_drawn_29 L xs x1 x3 n x4 w0 w1 w2 w3 w4 w5 w6 w7 c s)) ih (of_decide_eq_true g_5) hf

set_option maxHeartbeats 4000000 in
set_option maxRecDepth 100000 in
theorem c_L_drawn {E : Ex}  {L : Nat} {xs : Nat → Int32} {x1 : Int32} {r : (OwnV × Nat × RowsT × Nat × RowsT × Nat × RowsT × (Nat → Int32))} (S0 : SXE E L xs) (hf : L_drawn L xs x1 = some r) : Ct E yL_drawn wsL_drawn rmL_drawn [.ref (eB E), .int x1] [] (fun rv g => ∃ (y0 : Nat → Nat) (y1 : Nat) (y2 : Nat → Nat) (y3 : Nat) (y4 : Nat → Nat) (y5 : Nat) (y6 : Nat → Nat) (y7 : Nat), rv = some (.ref (y0 0)) ∧ g = [wOwn E y0 (rf4 y1 y3 y5 y7) r.1, wRO E y1 20 y2 r.2.1, wRR E y2 r.2.2.1, wRO E y3 12 y4 r.2.2.2.1, wRR E y4 r.2.2.2.2.1, wRO E y5 4 y6 r.2.2.2.2.2.1, wRR E y6 r.2.2.2.2.2.2.1, wArr E y7 4 r.2.2.2.2.2.2.2]) := by
  refine ct_of (own := RL) (by decide +kernel) rfl rfl (Nat.le_of_ble_eq_true rfl) (fun K C => ?_)
  refine ww_sub C (lv' := [(0, .ref (eB E)), (1, .int x1)]) [0, 1] rfl ?_
  rw [L_drawn] at hf
  obtain ⟨g_1, hf⟩ := gdE hf
  refine ww_new C [.int 0, .int 0, .int 0, .int 0, .null, .null, .null, .null] clOK9 in_L_drawn_X9 (by decide +kernel) (by decide +kernel) (by decide +kernel) hfs_X9 (of_decide_eq_true g_1) dL_drawn_0 (fun q0 => ?_)
  refine ww_eq (gs' := [[(q0, .inr (9, [.int 0, .int 0, .int 0, .int 0, .null, .null, .null, .null]))]]) rfl ?_
  refine ww_dup C dL_drawn_3 rfl ?_
  obtain ⟨g_2, hf⟩ := gdE hf
  refine ww_callIN C (As := []) (st := [.ref q0]) (gr := []) (host := RL) (c_X9_init (E := E) (b0 := q0) (da := (fun _ => 0)) (ra := (fun _ => 0)) (wa := (fun _ => 0))) gL_drawn_X9_init_n22 rfl (by decide +kernel) (by decide +kernel) (by decide +kernel) yi_X9_init ⟨by decide, Nat.le_of_ble_eq_true rfl⟩ (of_decide_eq_true g_2) [0] [] 1 rfl (by decide) rfl rfl (Nat.le_of_ble_eq_true rfl) dL_drawn_4 ?_
  rintro _ _ ⟨rfl, o4, q4_d, q4_r, q4_w, q4_f, rfl, rfl⟩
  refine ww_perm (gs' := [wOwn E o4 (rf4 q4_d q4_r q4_w q4_f) Own0, wRO E q4_d 20 (fun _ => 0) 0, wRO E q4_r 12 (fun _ => 0) 0, wRO E q4_w 4 (fun _ => 0) 0, wArr E q4_f 4 (fun _ => 0)]) [0, 1, 2, 3, 4] 5 rfl (by decide) rfl ?_
  refine ww_regr (gs' := [wOwn E o4 (rf4 q4_d q4_r q4_w q4_f) Own0, wRO E q4_d 20 (fun _ => 0) 0, wRO E q4_r 12 (fun _ => 0) 0, wRO E q4_w 4 (fun _ => 0) 0, wArr E q4_f 4 (fun _ => 0), wRR E (fun _ => 0) rr0, wRR E (fun _ => 0) rr0, wRR E (fun _ => 0) rr0]) (by simp only [rr_zero, List.flatten_cons, List.flatten_nil, List.nil_append]) ?_
  refine ww_astore_n (lv' := [(2, .ref (o4 0)), (0, .ref (eB E)), (1, .int x1)]) C dL_drawn_7 rfl (by decide) rfl ?_
  refine ww_aload_n C dL_drawn_8 rfl 1 rfl ?_
  refine ww_iload_n C dL_drawn_9 rfl 2 rfl ?_
  obtain ⟨p10, hp10, hf⟩ := bdE hf
  refine ww_callS C (As := [.ref (eB E), .int x1]) (st := []) (gr := [wOwn E o4 (rf4 q4_d q4_r q4_w q4_f) Own0, wRO E q4_d 20 (fun _ => 0) 0, wRO E q4_r 12 (fun _ => 0) 0, wRO E q4_w 4 (fun _ => 0) 0, wArr E q4_f 4 (fun _ => 0), wRR E (fun _ => 0) rr0, wRR E (fun _ => 0) rr0, wRR E (fun _ => 0) rr0]) (c_L_cell (E := E)  S0 hp10) gL_drawn_L_cell rfl ysk_L_cell ⟨by decide, Nat.le_of_ble_eq_true rfl⟩ (of_decide_eq_true g_2) [] [0, 1, 2, 3, 4, 5, 6, 7] 8 rfl (by decide) rfl rfl (Nat.le_of_ble_eq_true rfl) dL_drawn_10 ?_
  rintro _ _ ⟨rfl, rfl⟩
  refine ww_perm (gs' := [wOwn E o4 (rf4 q4_d q4_r q4_w q4_f) Own0, wRO E q4_d 20 (fun _ => 0) 0, wRO E q4_r 12 (fun _ => 0) 0, wRO E q4_w 4 (fun _ => 0) 0, wArr E q4_f 4 (fun _ => 0), wRR E (fun _ => 0) rr0, wRR E (fun _ => 0) rr0, wRR E (fun _ => 0) rr0]) [0, 1, 2, 3, 4, 5, 6, 7] 8 rfl (by decide) rfl ?_
  refine ww_istore_n (lv' := [(3, .int p10), (2, .ref (o4 0)), (0, .ref (eB E)), (1, .int x1)]) C dL_drawn_13 rfl (by decide) rfl ?_
  refine ww_aload_n C dL_drawn_14 rfl 1 rfl ?_
  refine ww_iconst (v := 1) C dL_drawn_15 (by decide) ?_
  refine ww_iload_n C dL_drawn_16 rfl 0 rfl ?_
  refine ww_bipush (v := 6) C dL_drawn_17 (by decide) ?_
  obtain ⟨p19, hp19, hf⟩ := bdE hf
  refine ww_callS C (As := [.int p10, .int 6]) (st := [.int 1, .ref (o4 0)]) (gr := [wOwn E o4 (rf4 q4_d q4_r q4_w q4_f) Own0, wRO E q4_d 20 (fun _ => 0) 0, wRO E q4_r 12 (fun _ => 0) 0, wRO E q4_w 4 (fun _ => 0) 0, wArr E q4_f 4 (fun _ => 0), wRR E (fun _ => 0) rr0, wRR E (fun _ => 0) rr0, wRR E (fun _ => 0) rr0]) (c_L_most (E := E)  hp19) gL_drawn_L_most rfl ysk_L_most ⟨by decide, Nat.le_of_ble_eq_true rfl⟩ (of_decide_eq_true g_2) [] [0, 1, 2, 3, 4, 5, 6, 7] 8 rfl (by decide) rfl rfl (Nat.le_of_ble_eq_true rfl) dL_drawn_19 ?_
  rintro _ _ ⟨rfl, rfl⟩
  refine ww_perm (gs' := [wOwn E o4 (rf4 q4_d q4_r q4_w q4_f) Own0, wRO E q4_d 20 (fun _ => 0) 0, wRO E q4_r 12 (fun _ => 0) 0, wRO E q4_w 4 (fun _ => 0) 0, wArr E q4_f 4 (fun _ => 0), wRR E (fun _ => 0) rr0, wRR E (fun _ => 0) rr0, wRR E (fun _ => 0) rr0]) [0, 1, 2, 3, 4, 5, 6, 7] 8 rfl (by decide) rfl ?_
  refine ww_iadd C dL_drawn_22 ?_
  obtain ⟨v0_23, e_v0_23⟩ : ∃ y : OwnV, y = Own_set_rooms Own0 (1 + p19) := ⟨_, rfl⟩
  replace hf := ltE e_v0_23 hf
  refine ww_putN C clOK9 in_L_drawn_X9 (w := wOwn E o4 (rf4 q4_d q4_r q4_w q4_f) Own0) (fs := fsOwn o4 (rf4 q4_d q4_r q4_w q4_f) Own0) (w' := wOwn E o4 (rf4 q4_d q4_r q4_w q4_f) v0_23) (gs' := [wOwn E o4 (rf4 q4_d q4_r q4_w q4_f) v0_23, wRO E q4_d 20 (fun _ => 0) 0, wRO E q4_r 12 (fun _ => 0) 0, wRO E q4_w 4 (fun _ => 0) 0, wArr E q4_f 4 (fun _ => 0), wRR E (fun _ => 0) rr0, wRR E (fun _ => 0) rr0, wRR E (fun _ => 0) rr0]) 0 0 0 rfl q_Own (by decide) (by decide +kernel) rfl rfl rfl rfl l_Own (by rw [e_v0_23]; exact p_Own_rooms) rfl dL_drawn_23 ?_
  refine ww_iconst (v := 0) C dL_drawn_26 (by decide) ?_
  refine ww_istore (lv' := [(4, .int 0), (3, .int p10), (2, .ref (o4 0)), (0, .ref (eB E)), (1, .int x1)]) C dL_drawn_27 (by decide) rfl ?_
  refine ww_perm (gs' := [wOwn E o4 (rf4 q4_d q4_r q4_w q4_f) v0_23, wRO E q4_d 20 (fun _ => 0) 0, wRR E (fun _ => 0) rr0, wArr E q4_f 4 (fun _ => 0), wRO E q4_r 12 (fun _ => 0) 0, wRR E (fun _ => 0) rr0, wRO E q4_w 4 (fun _ => 0) 0, wRR E (fun _ => 0) rr0]) [0, 1, 5, 4, 2, 6, 3, 7] 8 rfl (by decide) rfl ?_
  refine ww_sub C (lv' := [(0, .ref (eB E)), (1, .int x1), (2, .ref (o4 0)), (3, .int p10), (4, .int 0)]) [3, 4, 2, 1, 0] rfl ?_
  exact w_L_drawn_29 C S0 FU _ _ _ _ _ _ _ _ _ _ _ _ _ _ _ _ _ _ _ (of_decide_eq_true g_2) hf

theorem ysk_L_drawn : yL_drawn.cls ≠ "java/lang/invoke/MethodHandle" ∧ yL_drawn.cls ≠ "java/lang/invoke/VarHandle" ∧ (parseMethodDescriptor yL_drawn.desc).map (fun d => d.parameters.length) = some 2 := by decide +kernel
abbrev rmL_all : Room := { frames := 6, cells := 0, slots := 0, locals := 131 }
set_option maxHeartbeats 4000000 in
set_option maxRecDepth 100000 in
theorem w_L_all_168 {E : Ex} {K : Kx} (C : Cx E K cL_all 5 (some .long) RL wsL_all rmL_all) {a0 : Nat → Nat} {a1 : Nat → Nat} {a2 : Nat → Nat} {h0_1 h0_2 h0_4 h0_5 h0_6 h0_7 h0_8 h0_9 : Nat} {v0 : GWV} {v1 : HouseV} {x3 : Int32} {k126 : Int64 → Int32 → SightV → Option (Int64 × SightV)} {r : (Int64 × SightV)} (hk126 : ∀  (x1 : Int64) (x3 : Int32) (v2 : SightV), k126 x1 x3 v2 = some r → WW E K 0 0 (QQ E K (fun rv g => rv = some (.long r.1) ∧ g = [wGW E a0 (rf10 (a1 0) h0_1 h0_2 (a2 0) h0_4 h0_5 h0_6 h0_7 h0_8 h0_9) v0, wHouse E a1 v1, wSight E a2 r.2]) 0 0) 126 [(0, .ref (a0 0)), (1, .long x1), (3, .int x3)] [] [wGW E a0 (rf10 (a1 0) h0_1 h0_2 (a2 0) h0_4 h0_5 h0_6 h0_7 h0_8 h0_9) v0, wHouse E a1 v1, wSight E a2 v2]) : ∀ (n : Nat)  (x1 : Int64) (x4 : Int32) (v2 : SightV), L_all_168 v0 v1 x3 k126 n x1 x4 v2 = some r → WW E K 0 0 (QQ E K (fun rv g => rv = some (.long r.1) ∧ g = [wGW E a0 (rf10 (a1 0) h0_1 h0_2 (a2 0) h0_4 h0_5 h0_6 h0_7 h0_8 h0_9) v0, wHouse E a1 v1, wSight E a2 r.2]) 0 0) 168 [(0, .ref (a0 0)), (1, .long x1), (3, .int x3), (4, .int x4)] [] [wGW E a0 (rf10 (a1 0) h0_1 h0_2 (a2 0) h0_4 h0_5 h0_6 h0_7 h0_8 h0_9) v0, wHouse E a1 v1, wSight E a2 v2] := by
  intro n
  induction n with
  | zero =>
    intro  x1 x4 v2 hf
    simp [L_all_168] at hf
  | succ n ih =>
    intro  x1 x4 v2 hf
    rw [L_all_168] at hf
    refine ww_iload C dL_all_168 3 rfl ?_
    refine ww_aload_n C dL_all_170 rfl 0 rfl ?_
    refine ww_iload_n C dL_all_171 rfl 2 rfl ?_
    refine ww_iconst (v := 0) C dL_all_172 (by decide) ?_
    obtain ⟨p173, hp173, hf⟩ := bdE hf
    refine ww_callV C (As := [.int x3, .int 0]) (st := [.int x4]) (gr := [wSight E a2 v2]) (c_X8_guard (E := E) (a0 := a0) (h0_1 := h0_1) (h0_2 := h0_2) (h0_3 := a2 0) (h0_4 := h0_4) (h0_5 := h0_5) (h0_6 := h0_6) (h0_7 := h0_7) (h0_8 := h0_8) (h0_9 := h0_9) (a1 := a1) hp173) gL_all_X8_guard rfl yk_X8_guard ⟨by decide, Nat.le_of_ble_eq_true rfl⟩ ⟨by decide, by decide⟩ clOK8 0 0 rfl rfl [0, 1] [2] 3 rfl (by decide) rfl rfl (Nat.le_of_ble_eq_true rfl) dL_all_173 ?_
    rintro _ _ ⟨rfl, rfl⟩
    refine ww_perm (gs' := [wGW E a0 (rf10 (a1 0) h0_1 h0_2 (a2 0) h0_4 h0_5 h0_6 h0_7 h0_8 h0_9) v0, wHouse E a1 v1, wSight E a2 v2]) [0, 1, 2] 3 rfl (by decide) rfl ?_
    refine ww_icmp_ge (tgt := 200) C dL_all_176 (by decide) (fun c_8 => ?_) (fun c_8 => ?_)
    · replace hf := ifT c_8 hf
      obtain ⟨x3_200, e_x3_200⟩ : ∃ y : Int32, y = x3 + 1 := ⟨_, rfl⟩
      replace hf := ltE e_x3_200 hf
      refine ww_iinc (v := x3_200) (lv' := [(3, .int x3_200), (0, .ref (a0 0)), (1, .long x1), (4, .int x4)]) C dL_all_200 2 rfl (by rw [e_x3_200]; rfl) (by decide) rfl ?_
      refine ww_goto (tgt := 126) C dL_all_203 (by decide) ?_
      refine ww_sub C (lv' := [(0, .ref (a0 0)), (1, .long x1), (3, .int x3_200)]) [1, 2, 0] rfl ?_
      exact hk126 _ _ _ hf
    · replace hf := ifF c_8 hf
      refine ww_ldc2 (v := 31) C (by decide +kernel) dL_all_179 ?_
      refine ww_lload_n C dL_all_182 rfl 1 rfl ?_
      refine ww_lmul C dL_all_183 ?_
      refine ww_aload_n C dL_all_184 rfl 0 rfl ?_
      refine ww_iload_n C dL_all_185 rfl 2 rfl ?_
      refine ww_iload C dL_all_186 3 rfl ?_
      obtain ⟨p188, hp188, hf⟩ := bdE hf
      refine ww_callV C (As := [.int x3, .int x4]) (st := [.long (31 * x1)]) (gr := [wSight E a2 v2]) (c_X8_walk (E := E) (a0 := a0) (h0_1 := h0_1) (h0_2 := h0_2) (h0_3 := a2 0) (h0_4 := h0_4) (h0_5 := h0_5) (h0_6 := h0_6) (h0_7 := h0_7) (h0_8 := h0_8) (h0_9 := h0_9) (a1 := a1) hp188) gL_all_X8_walk rfl yk_X8_walk ⟨by decide, Nat.le_of_ble_eq_true rfl⟩ ⟨by decide, by decide⟩ clOK8 0 0 rfl rfl [0, 1] [2] 3 rfl (by decide) rfl rfl (Nat.le_of_ble_eq_true rfl) dL_all_188 ?_
      rintro _ _ ⟨rfl, rfl⟩
      refine ww_perm (gs' := [wGW E a0 (rf10 (a1 0) h0_1 h0_2 (a2 0) h0_4 h0_5 h0_6 h0_7 h0_8 h0_9) v0, wHouse E a1 v1, wSight E a2 v2]) [0, 1, 2] 3 rfl (by decide) rfl ?_
      refine ww_i2l C dL_all_191 ?_
      refine ww_ladd C dL_all_192 ?_
      refine ww_lstore_n (lv' := [(1, .long ((31 * x1) + (Int32.toInt64 p188))), (0, .ref (a0 0)), (3, .int x3), (4, .int x4)]) C dL_all_193 rfl (by decide) rfl ?_
      obtain ⟨x4_194, e_x4_194⟩ : ∃ y : Int32, y = x4 + 1 := ⟨_, rfl⟩
      replace hf := ltE e_x4_194 hf
      refine ww_iinc (v := x4_194) (lv' := [(4, .int x4_194), (1, .long ((31 * x1) + (Int32.toInt64 p188))), (0, .ref (a0 0)), (3, .int x3)]) C dL_all_194 3 rfl (by rw [e_x4_194]; rfl) (by decide) rfl ?_
      refine ww_goto (tgt := 168) C dL_all_197 (by decide) ?_
      refine ww_sub C (lv' := [(0, .ref (a0 0)), (1, .long ((31 * x1) + (Int32.toInt64 p188))), (3, .int x3), (4, .int x4_194)]) [2, 1, 3, 0] rfl ?_
      exact ih _ _ _ hf

set_option maxHeartbeats 4000000 in
set_option maxRecDepth 100000 in
theorem w_L_all_138 {E : Ex} {K : Kx} (C : Cx E K cL_all 5 (some .long) RL wsL_all rmL_all) {a0 : Nat → Nat} {a1 : Nat → Nat} {a2 : Nat → Nat} {h0_1 h0_2 h0_4 h0_5 h0_6 h0_7 h0_8 h0_9 : Nat} {v0 : GWV} {v1 : HouseV} {x3 : Int32} {k126 : Int64 → Int32 → SightV → Option (Int64 × SightV)} {r : (Int64 × SightV)} (hk126 : ∀  (x1 : Int64) (x3 : Int32) (v2 : SightV), k126 x1 x3 v2 = some r → WW E K 0 0 (QQ E K (fun rv g => rv = some (.long r.1) ∧ g = [wGW E a0 (rf10 (a1 0) h0_1 h0_2 (a2 0) h0_4 h0_5 h0_6 h0_7 h0_8 h0_9) v0, wHouse E a1 v1, wSight E a2 r.2]) 0 0) 126 [(0, .ref (a0 0)), (1, .long x1), (3, .int x3)] [] [wGW E a0 (rf10 (a1 0) h0_1 h0_2 (a2 0) h0_4 h0_5 h0_6 h0_7 h0_8 h0_9) v0, wHouse E a1 v1, wSight E a2 v2]) : ∀ (n : Nat)  (x1 : Int64) (x4 : Int32) (v2 : SightV), L_all_138 v0 v1 x3 k126 n x1 x4 v2 = some r → WW E K 0 0 (QQ E K (fun rv g => rv = some (.long r.1) ∧ g = [wGW E a0 (rf10 (a1 0) h0_1 h0_2 (a2 0) h0_4 h0_5 h0_6 h0_7 h0_8 h0_9) v0, wHouse E a1 v1, wSight E a2 r.2]) 0 0) 138 [(0, .ref (a0 0)), (1, .long x1), (3, .int x3), (4, .int x4)] [] [wGW E a0 (rf10 (a1 0) h0_1 h0_2 (a2 0) h0_4 h0_5 h0_6 h0_7 h0_8 h0_9) v0, wHouse E a1 v1, wSight E a2 v2] := by
  intro n
  induction n with
  | zero =>
    intro  x1 x4 v2 hf
    simp [L_all_138] at hf
  | succ n ih =>
    intro  x1 x4 v2 hf
    rw [L_all_138] at hf
    refine ww_iload C dL_all_138 3 rfl ?_
    refine ww_iconst (v := 4) C dL_all_140 (by decide) ?_
    refine ww_icmp_ge (tgt := 165) C dL_all_141 (by decide) (fun c_7 => ?_) (fun c_7 => ?_)
    · replace hf := ifT c_7 hf
      refine ww_iconst (v := 0) C dL_all_165 (by decide) ?_
      refine ww_istore (lv' := [(4, .int 0), (0, .ref (a0 0)), (1, .long x1), (3, .int x3)]) C dL_all_166 (by decide) rfl ?_
      refine ww_sub C (lv' := [(0, .ref (a0 0)), (1, .long x1), (3, .int x3), (4, .int 0)]) [1, 2, 3, 0] rfl ?_
      exact w_L_all_168 C (k126 := k126) hk126 FU _ _ _ hf
    · replace hf := ifF c_7 hf
      refine ww_ldc2 (v := 31) C (by decide +kernel) dL_all_144 ?_
      refine ww_lload_n C dL_all_147 rfl 1 rfl ?_
      refine ww_lmul C dL_all_148 ?_
      refine ww_aload_n C dL_all_149 rfl 0 rfl ?_
      refine ww_iload_n C dL_all_150 rfl 2 rfl ?_
      refine ww_iload C dL_all_151 3 rfl ?_
      obtain ⟨p153, hp153, hf⟩ := bdE hf
      refine ww_callV C (As := [.int x3, .int x4]) (st := [.long (31 * x1)]) (gr := [wSight E a2 v2]) (c_X8_guard (E := E) (a0 := a0) (h0_1 := h0_1) (h0_2 := h0_2) (h0_3 := a2 0) (h0_4 := h0_4) (h0_5 := h0_5) (h0_6 := h0_6) (h0_7 := h0_7) (h0_8 := h0_8) (h0_9 := h0_9) (a1 := a1) hp153) gL_all_X8_guard rfl yk_X8_guard ⟨by decide, Nat.le_of_ble_eq_true rfl⟩ ⟨by decide, by decide⟩ clOK8 0 0 rfl rfl [0, 1] [2] 3 rfl (by decide) rfl rfl (Nat.le_of_ble_eq_true rfl) dL_all_153 ?_
      rintro _ _ ⟨rfl, rfl⟩
      refine ww_perm (gs' := [wGW E a0 (rf10 (a1 0) h0_1 h0_2 (a2 0) h0_4 h0_5 h0_6 h0_7 h0_8 h0_9) v0, wHouse E a1 v1, wSight E a2 v2]) [0, 1, 2] 3 rfl (by decide) rfl ?_
      refine ww_i2l C dL_all_156 ?_
      refine ww_ladd C dL_all_157 ?_
      refine ww_lstore_n (lv' := [(1, .long ((31 * x1) + (Int32.toInt64 p153))), (0, .ref (a0 0)), (3, .int x3), (4, .int x4)]) C dL_all_158 rfl (by decide) rfl ?_
      obtain ⟨x4_159, e_x4_159⟩ : ∃ y : Int32, y = x4 + 1 := ⟨_, rfl⟩
      replace hf := ltE e_x4_159 hf
      refine ww_iinc (v := x4_159) (lv' := [(4, .int x4_159), (1, .long ((31 * x1) + (Int32.toInt64 p153))), (0, .ref (a0 0)), (3, .int x3)]) C dL_all_159 3 rfl (by rw [e_x4_159]; rfl) (by decide) rfl ?_
      refine ww_goto (tgt := 138) C dL_all_162 (by decide) ?_
      refine ww_sub C (lv' := [(0, .ref (a0 0)), (1, .long ((31 * x1) + (Int32.toInt64 p153))), (3, .int x3), (4, .int x4_159)]) [2, 1, 3, 0] rfl ?_
      exact ih _ _ _ hf

set_option maxHeartbeats 4000000 in
set_option maxRecDepth 100000 in
theorem w_L_all_126 {E : Ex} {K : Kx} (C : Cx E K cL_all 5 (some .long) RL wsL_all rmL_all) {a0 : Nat → Nat} {a1 : Nat → Nat} {a2 : Nat → Nat} {h0_1 h0_2 h0_4 h0_5 h0_6 h0_7 h0_8 h0_9 : Nat} {v0 : GWV} {v1 : HouseV}  {r : (Int64 × SightV)} : ∀ (n : Nat)  (x1 : Int64) (x3 : Int32) (v2 : SightV), L_all_126 v0 v1 n x1 x3 v2 = some r → WW E K 0 0 (QQ E K (fun rv g => rv = some (.long r.1) ∧ g = [wGW E a0 (rf10 (a1 0) h0_1 h0_2 (a2 0) h0_4 h0_5 h0_6 h0_7 h0_8 h0_9) v0, wHouse E a1 v1, wSight E a2 r.2]) 0 0) 126 [(0, .ref (a0 0)), (1, .long x1), (3, .int x3)] [] [wGW E a0 (rf10 (a1 0) h0_1 h0_2 (a2 0) h0_4 h0_5 h0_6 h0_7 h0_8 h0_9) v0, wHouse E a1 v1, wSight E a2 v2] := by
  intro n
  induction n with
  | zero =>
    intro  x1 x3 v2 hf
    simp [L_all_126] at hf
  | succ n ih =>
    intro  x1 x3 v2 hf
    rw [L_all_126] at hf
    refine ww_iload_n C dL_all_126 rfl 2 rfl ?_
    refine ww_aload_n C dL_all_127 rfl 0 rfl ?_
    refine ww_iconst (v := 2) C dL_all_128 (by decide) ?_
    obtain ⟨p129, hp129, hf⟩ := bdE hf
    refine ww_callV C (As := [.int 2]) (st := [.int x3]) (gr := []) (c_X8_size (E := E) (a0 := a0) (h0_1 := h0_1) (h0_2 := h0_2) (h0_4 := h0_4) (h0_5 := h0_5) (h0_6 := h0_6) (h0_7 := h0_7) (h0_8 := h0_8) (h0_9 := h0_9) (a1 := a1) (a2 := a2) hp129) gL_all_X8_size rfl yk_X8_size ⟨by decide, Nat.le_of_ble_eq_true rfl⟩ ⟨by decide, by decide⟩ clOK8 0 0 rfl rfl [0, 1, 2] [] 3 rfl (by decide) rfl rfl (Nat.le_of_ble_eq_true rfl) dL_all_129 ?_
    rintro _ _ ⟨rfl, rfl⟩
    refine ww_perm (gs' := [wGW E a0 (rf10 (a1 0) h0_1 h0_2 (a2 0) h0_4 h0_5 h0_6 h0_7 h0_8 h0_9) v0, wHouse E a1 v1, wSight E a2 p129.2]) [0, 1, 2] 3 rfl (by decide) rfl ?_
    refine ww_icmp_ge (tgt := 206) C dL_all_132 (by decide) (fun c_6 => ?_) (fun c_6 => ?_)
    · replace hf := ifT c_6 hf
      refine ww_lload_n C dL_all_206 rfl 1 rfl ?_
      obtain rfl := Option.some.inj hf
      exact ww_lret C ⟨rfl, rfl⟩ dL_all_207
    · replace hf := ifF c_6 hf
      refine ww_iconst (v := 0) C dL_all_135 (by decide) ?_
      refine ww_istore (lv' := [(4, .int 0), (0, .ref (a0 0)), (1, .long x1), (3, .int x3)]) C dL_all_136 (by decide) rfl ?_
      refine ww_sub C (lv' := [(0, .ref (a0 0)), (1, .long x1), (3, .int x3), (4, .int 0)]) [1, 2, 3, 0] rfl ?_
      exact w_L_all_138 C (k126 := (fun (x1 : Int64) (x3 : Int32) (v2 : SightV) => L_all_126 v0 v1 n x1 x3 v2)) ih FU _ _ _ hf

set_option maxHeartbeats 4000000 in
set_option maxRecDepth 100000 in
theorem w_L_all_43 {E : Ex} {K : Kx} (C : Cx E K cL_all 5 (some .long) RL wsL_all rmL_all) {a0 : Nat → Nat} {a1 : Nat → Nat} {a2 : Nat → Nat} {h0_1 h0_2 h0_4 h0_5 h0_6 h0_7 h0_8 h0_9 : Nat} {v0 : GWV} {v1 : HouseV} {x3 : Int32} {k31 : Int64 → Int32 → SightV → Option (Int64 × SightV)} {r : (Int64 × SightV)} (hk31 : ∀  (x1 : Int64) (x3 : Int32) (v2 : SightV), k31 x1 x3 v2 = some r → WW E K 0 0 (QQ E K (fun rv g => rv = some (.long r.1) ∧ g = [wGW E a0 (rf10 (a1 0) h0_1 h0_2 (a2 0) h0_4 h0_5 h0_6 h0_7 h0_8 h0_9) v0, wHouse E a1 v1, wSight E a2 r.2]) 0 0) 31 [(0, .ref (a0 0)), (1, .long x1), (3, .int x3)] [] [wGW E a0 (rf10 (a1 0) h0_1 h0_2 (a2 0) h0_4 h0_5 h0_6 h0_7 h0_8 h0_9) v0, wHouse E a1 v1, wSight E a2 v2]) : ∀ (n : Nat)  (x1 : Int64) (x4 : Int32) (v2 : SightV), L_all_43 v0 v1 x3 k31 n x1 x4 v2 = some r → WW E K 0 0 (QQ E K (fun rv g => rv = some (.long r.1) ∧ g = [wGW E a0 (rf10 (a1 0) h0_1 h0_2 (a2 0) h0_4 h0_5 h0_6 h0_7 h0_8 h0_9) v0, wHouse E a1 v1, wSight E a2 r.2]) 0 0) 43 [(0, .ref (a0 0)), (1, .long x1), (3, .int x3), (4, .int x4)] [] [wGW E a0 (rf10 (a1 0) h0_1 h0_2 (a2 0) h0_4 h0_5 h0_6 h0_7 h0_8 h0_9) v0, wHouse E a1 v1, wSight E a2 v2] := by
  intro n
  induction n with
  | zero =>
    intro  x1 x4 v2 hf
    simp [L_all_43] at hf
  | succ n ih =>
    intro  x1 x4 v2 hf
    rw [L_all_43] at hf
    refine ww_iload C dL_all_43 3 rfl ?_
    refine ww_bipush (v := 8) C dL_all_45 (by decide) ?_
    refine ww_icmp_ge (tgt := 71) C dL_all_47 (by decide) (fun c_3 => ?_) (fun c_3 => ?_)
    · replace hf := ifT c_3 hf
      obtain ⟨x3_71, e_x3_71⟩ : ∃ y : Int32, y = x3 + 1 := ⟨_, rfl⟩
      replace hf := ltE e_x3_71 hf
      refine ww_iinc (v := x3_71) (lv' := [(3, .int x3_71), (0, .ref (a0 0)), (1, .long x1), (4, .int x4)]) C dL_all_71 2 rfl (by rw [e_x3_71]; rfl) (by decide) rfl ?_
      refine ww_goto (tgt := 31) C dL_all_74 (by decide) ?_
      refine ww_sub C (lv' := [(0, .ref (a0 0)), (1, .long x1), (3, .int x3_71)]) [1, 2, 0] rfl ?_
      exact hk31 _ _ _ hf
    · replace hf := ifF c_3 hf
      refine ww_ldc2 (v := 31) C (by decide +kernel) dL_all_50 ?_
      refine ww_lload_n C dL_all_53 rfl 1 rfl ?_
      refine ww_lmul C dL_all_54 ?_
      refine ww_aload_n C dL_all_55 rfl 0 rfl ?_
      refine ww_iload_n C dL_all_56 rfl 2 rfl ?_
      refine ww_iload C dL_all_57 3 rfl ?_
      obtain ⟨p59, hp59, hf⟩ := bdE hf
      refine ww_callV C (As := [.int x3, .int x4]) (st := [.long (31 * x1)]) (gr := []) (c_X8_room (E := E) (a0 := a0) (h0_1 := h0_1) (h0_2 := h0_2) (h0_4 := h0_4) (h0_5 := h0_5) (h0_6 := h0_6) (h0_7 := h0_7) (h0_8 := h0_8) (h0_9 := h0_9) (a1 := a1) (a2 := a2) hp59) gL_all_X8_room rfl yk_X8_room ⟨by decide, Nat.le_of_ble_eq_true rfl⟩ ⟨by decide, by decide⟩ clOK8 0 0 rfl rfl [0, 1, 2] [] 3 rfl (by decide) rfl rfl (Nat.le_of_ble_eq_true rfl) dL_all_59 ?_
      rintro _ _ ⟨rfl, rfl⟩
      refine ww_perm (gs' := [wGW E a0 (rf10 (a1 0) h0_1 h0_2 (a2 0) h0_4 h0_5 h0_6 h0_7 h0_8 h0_9) v0, wHouse E a1 v1, wSight E a2 p59.2]) [0, 1, 2] 3 rfl (by decide) rfl ?_
      refine ww_i2l C dL_all_62 ?_
      refine ww_ladd C dL_all_63 ?_
      refine ww_lstore_n (lv' := [(1, .long ((31 * x1) + (Int32.toInt64 p59.1))), (0, .ref (a0 0)), (3, .int x3), (4, .int x4)]) C dL_all_64 rfl (by decide) rfl ?_
      obtain ⟨x4_65, e_x4_65⟩ : ∃ y : Int32, y = x4 + 1 := ⟨_, rfl⟩
      replace hf := ltE e_x4_65 hf
      refine ww_iinc (v := x4_65) (lv' := [(4, .int x4_65), (1, .long ((31 * x1) + (Int32.toInt64 p59.1))), (0, .ref (a0 0)), (3, .int x3)]) C dL_all_65 3 rfl (by rw [e_x4_65]; rfl) (by decide) rfl ?_
      refine ww_goto (tgt := 43) C dL_all_68 (by decide) ?_
      refine ww_sub C (lv' := [(0, .ref (a0 0)), (1, .long ((31 * x1) + (Int32.toInt64 p59.1))), (3, .int x3), (4, .int x4_65)]) [2, 1, 3, 0] rfl ?_
      exact ih _ _ _ hf

set_option maxHeartbeats 4000000 in
set_option maxRecDepth 100000 in
theorem w_L_all_91 {E : Ex} {K : Kx} (C : Cx E K cL_all 5 (some .long) RL wsL_all rmL_all) {a0 : Nat → Nat} {a1 : Nat → Nat} {a2 : Nat → Nat} {h0_1 h0_2 h0_4 h0_5 h0_6 h0_7 h0_8 h0_9 : Nat} {v0 : GWV} {v1 : HouseV} {x3 : Int32} {k79 : Int64 → Int32 → SightV → Option (Int64 × SightV)} {r : (Int64 × SightV)} (hk79 : ∀  (x1 : Int64) (x3 : Int32) (v2 : SightV), k79 x1 x3 v2 = some r → WW E K 0 0 (QQ E K (fun rv g => rv = some (.long r.1) ∧ g = [wGW E a0 (rf10 (a1 0) h0_1 h0_2 (a2 0) h0_4 h0_5 h0_6 h0_7 h0_8 h0_9) v0, wHouse E a1 v1, wSight E a2 r.2]) 0 0) 79 [(0, .ref (a0 0)), (1, .long x1), (3, .int x3)] [] [wGW E a0 (rf10 (a1 0) h0_1 h0_2 (a2 0) h0_4 h0_5 h0_6 h0_7 h0_8 h0_9) v0, wHouse E a1 v1, wSight E a2 v2]) : ∀ (n : Nat)  (x1 : Int64) (x4 : Int32) (v2 : SightV), L_all_91 v0 v1 x3 k79 n x1 x4 v2 = some r → WW E K 0 0 (QQ E K (fun rv g => rv = some (.long r.1) ∧ g = [wGW E a0 (rf10 (a1 0) h0_1 h0_2 (a2 0) h0_4 h0_5 h0_6 h0_7 h0_8 h0_9) v0, wHouse E a1 v1, wSight E a2 r.2]) 0 0) 91 [(0, .ref (a0 0)), (1, .long x1), (3, .int x3), (4, .int x4)] [] [wGW E a0 (rf10 (a1 0) h0_1 h0_2 (a2 0) h0_4 h0_5 h0_6 h0_7 h0_8 h0_9) v0, wHouse E a1 v1, wSight E a2 v2] := by
  intro n
  induction n with
  | zero =>
    intro  x1 x4 v2 hf
    simp [L_all_91] at hf
  | succ n ih =>
    intro  x1 x4 v2 hf
    rw [L_all_91] at hf
    refine ww_iload C dL_all_91 3 rfl ?_
    refine ww_iconst (v := 4) C dL_all_93 (by decide) ?_
    refine ww_icmp_ge (tgt := 118) C dL_all_94 (by decide) (fun c_5 => ?_) (fun c_5 => ?_)
    · replace hf := ifT c_5 hf
      obtain ⟨x3_118, e_x3_118⟩ : ∃ y : Int32, y = x3 + 1 := ⟨_, rfl⟩
      replace hf := ltE e_x3_118 hf
      refine ww_iinc (v := x3_118) (lv' := [(3, .int x3_118), (0, .ref (a0 0)), (1, .long x1), (4, .int x4)]) C dL_all_118 2 rfl (by rw [e_x3_118]; rfl) (by decide) rfl ?_
      refine ww_goto (tgt := 79) C dL_all_121 (by decide) ?_
      refine ww_sub C (lv' := [(0, .ref (a0 0)), (1, .long x1), (3, .int x3_118)]) [1, 2, 0] rfl ?_
      exact hk79 _ _ _ hf
    · replace hf := ifF c_5 hf
      refine ww_ldc2 (v := 31) C (by decide +kernel) dL_all_97 ?_
      refine ww_lload_n C dL_all_100 rfl 1 rfl ?_
      refine ww_lmul C dL_all_101 ?_
      refine ww_aload_n C dL_all_102 rfl 0 rfl ?_
      refine ww_iload_n C dL_all_103 rfl 2 rfl ?_
      refine ww_iload C dL_all_104 3 rfl ?_
      obtain ⟨p106, hp106, hf⟩ := bdE hf
      refine ww_callV C (As := [.int x3, .int x4]) (st := [.long (31 * x1)]) (gr := [wSight E a2 v2]) (c_X8_door (E := E) (a0 := a0) (h0_1 := h0_1) (h0_2 := h0_2) (h0_3 := a2 0) (h0_4 := h0_4) (h0_5 := h0_5) (h0_6 := h0_6) (h0_7 := h0_7) (h0_8 := h0_8) (h0_9 := h0_9) (a1 := a1) hp106) gL_all_X8_door rfl yk_X8_door ⟨by decide, Nat.le_of_ble_eq_true rfl⟩ ⟨by decide, by decide⟩ clOK8 0 0 rfl rfl [0, 1] [2] 3 rfl (by decide) rfl rfl (Nat.le_of_ble_eq_true rfl) dL_all_106 ?_
      rintro _ _ ⟨rfl, rfl⟩
      refine ww_perm (gs' := [wGW E a0 (rf10 (a1 0) h0_1 h0_2 (a2 0) h0_4 h0_5 h0_6 h0_7 h0_8 h0_9) v0, wHouse E a1 v1, wSight E a2 v2]) [0, 1, 2] 3 rfl (by decide) rfl ?_
      refine ww_i2l C dL_all_109 ?_
      refine ww_ladd C dL_all_110 ?_
      refine ww_lstore_n (lv' := [(1, .long ((31 * x1) + (Int32.toInt64 p106))), (0, .ref (a0 0)), (3, .int x3), (4, .int x4)]) C dL_all_111 rfl (by decide) rfl ?_
      obtain ⟨x4_112, e_x4_112⟩ : ∃ y : Int32, y = x4 + 1 := ⟨_, rfl⟩
      replace hf := ltE e_x4_112 hf
      refine ww_iinc (v := x4_112) (lv' := [(4, .int x4_112), (1, .long ((31 * x1) + (Int32.toInt64 p106))), (0, .ref (a0 0)), (3, .int x3)]) C dL_all_112 3 rfl (by rw [e_x4_112]; rfl) (by decide) rfl ?_
      refine ww_goto (tgt := 91) C dL_all_115 (by decide) ?_
      refine ww_sub C (lv' := [(0, .ref (a0 0)), (1, .long ((31 * x1) + (Int32.toInt64 p106))), (3, .int x3), (4, .int x4_112)]) [2, 1, 3, 0] rfl ?_
      exact ih _ _ _ hf

set_option maxHeartbeats 4000000 in
set_option maxRecDepth 100000 in
theorem w_L_all_79 {E : Ex} {K : Kx} (C : Cx E K cL_all 5 (some .long) RL wsL_all rmL_all) {a0 : Nat → Nat} {a1 : Nat → Nat} {a2 : Nat → Nat} {h0_1 h0_2 h0_4 h0_5 h0_6 h0_7 h0_8 h0_9 : Nat} {v0 : GWV} {v1 : HouseV}  {r : (Int64 × SightV)} : ∀ (n : Nat)  (x1 : Int64) (x3 : Int32) (v2 : SightV), L_all_79 v0 v1 n x1 x3 v2 = some r → WW E K 0 0 (QQ E K (fun rv g => rv = some (.long r.1) ∧ g = [wGW E a0 (rf10 (a1 0) h0_1 h0_2 (a2 0) h0_4 h0_5 h0_6 h0_7 h0_8 h0_9) v0, wHouse E a1 v1, wSight E a2 r.2]) 0 0) 79 [(0, .ref (a0 0)), (1, .long x1), (3, .int x3)] [] [wGW E a0 (rf10 (a1 0) h0_1 h0_2 (a2 0) h0_4 h0_5 h0_6 h0_7 h0_8 h0_9) v0, wHouse E a1 v1, wSight E a2 v2] := by
  intro n
  induction n with
  | zero =>
    intro  x1 x3 v2 hf
    simp [L_all_79] at hf
  | succ n ih =>
    intro  x1 x3 v2 hf
    rw [L_all_79] at hf
    refine ww_iload_n C dL_all_79 rfl 2 rfl ?_
    refine ww_aload_n C dL_all_80 rfl 0 rfl ?_
    refine ww_iconst (v := 1) C dL_all_81 (by decide) ?_
    obtain ⟨p82, hp82, hf⟩ := bdE hf
    refine ww_callV C (As := [.int 1]) (st := [.int x3]) (gr := []) (c_X8_size (E := E) (a0 := a0) (h0_1 := h0_1) (h0_2 := h0_2) (h0_4 := h0_4) (h0_5 := h0_5) (h0_6 := h0_6) (h0_7 := h0_7) (h0_8 := h0_8) (h0_9 := h0_9) (a1 := a1) (a2 := a2) hp82) gL_all_X8_size rfl yk_X8_size ⟨by decide, Nat.le_of_ble_eq_true rfl⟩ ⟨by decide, by decide⟩ clOK8 0 0 rfl rfl [0, 1, 2] [] 3 rfl (by decide) rfl rfl (Nat.le_of_ble_eq_true rfl) dL_all_82 ?_
    rintro _ _ ⟨rfl, rfl⟩
    refine ww_perm (gs' := [wGW E a0 (rf10 (a1 0) h0_1 h0_2 (a2 0) h0_4 h0_5 h0_6 h0_7 h0_8 h0_9) v0, wHouse E a1 v1, wSight E a2 p82.2]) [0, 1, 2] 3 rfl (by decide) rfl ?_
    refine ww_icmp_ge (tgt := 124) C dL_all_85 (by decide) (fun c_4 => ?_) (fun c_4 => ?_)
    · replace hf := ifT c_4 hf
      refine ww_iconst (v := 0) C dL_all_124 (by decide) ?_
      refine ww_istore_n (lv' := [(3, .int 0), (0, .ref (a0 0)), (1, .long x1)]) C dL_all_125 rfl (by decide) rfl ?_
      refine ww_sub C (lv' := [(0, .ref (a0 0)), (1, .long x1), (3, .int 0)]) [1, 2, 0] rfl ?_
      exact w_L_all_126 C FU _ _ _ hf
    · replace hf := ifF c_4 hf
      refine ww_iconst (v := 0) C dL_all_88 (by decide) ?_
      refine ww_istore (lv' := [(4, .int 0), (0, .ref (a0 0)), (1, .long x1), (3, .int x3)]) C dL_all_89 (by decide) rfl ?_
      refine ww_sub C (lv' := [(0, .ref (a0 0)), (1, .long x1), (3, .int x3), (4, .int 0)]) [1, 2, 3, 0] rfl ?_
      exact w_L_all_91 C (k79 := (fun (x1 : Int64) (x3 : Int32) (v2 : SightV) => L_all_79 v0 v1 n x1 x3 v2)) ih FU _ _ _ hf

set_option maxHeartbeats 4000000 in
set_option maxRecDepth 100000 in
theorem w_L_all_31 {E : Ex} {K : Kx} (C : Cx E K cL_all 5 (some .long) RL wsL_all rmL_all) {a0 : Nat → Nat} {a1 : Nat → Nat} {a2 : Nat → Nat} {h0_1 h0_2 h0_4 h0_5 h0_6 h0_7 h0_8 h0_9 : Nat} {v0 : GWV} {v1 : HouseV}  {r : (Int64 × SightV)} : ∀ (n : Nat)  (x1 : Int64) (x3 : Int32) (v2 : SightV), L_all_31 v0 v1 n x1 x3 v2 = some r → WW E K 0 0 (QQ E K (fun rv g => rv = some (.long r.1) ∧ g = [wGW E a0 (rf10 (a1 0) h0_1 h0_2 (a2 0) h0_4 h0_5 h0_6 h0_7 h0_8 h0_9) v0, wHouse E a1 v1, wSight E a2 r.2]) 0 0) 31 [(0, .ref (a0 0)), (1, .long x1), (3, .int x3)] [] [wGW E a0 (rf10 (a1 0) h0_1 h0_2 (a2 0) h0_4 h0_5 h0_6 h0_7 h0_8 h0_9) v0, wHouse E a1 v1, wSight E a2 v2] := by
  intro n
  induction n with
  | zero =>
    intro  x1 x3 v2 hf
    simp [L_all_31] at hf
  | succ n ih =>
    intro  x1 x3 v2 hf
    rw [L_all_31] at hf
    refine ww_iload_n C dL_all_31 rfl 2 rfl ?_
    refine ww_aload_n C dL_all_32 rfl 0 rfl ?_
    refine ww_iconst (v := 0) C dL_all_33 (by decide) ?_
    obtain ⟨p34, hp34, hf⟩ := bdE hf
    refine ww_callV C (As := [.int 0]) (st := [.int x3]) (gr := []) (c_X8_size (E := E) (a0 := a0) (h0_1 := h0_1) (h0_2 := h0_2) (h0_4 := h0_4) (h0_5 := h0_5) (h0_6 := h0_6) (h0_7 := h0_7) (h0_8 := h0_8) (h0_9 := h0_9) (a1 := a1) (a2 := a2) hp34) gL_all_X8_size rfl yk_X8_size ⟨by decide, Nat.le_of_ble_eq_true rfl⟩ ⟨by decide, by decide⟩ clOK8 0 0 rfl rfl [0, 1, 2] [] 3 rfl (by decide) rfl rfl (Nat.le_of_ble_eq_true rfl) dL_all_34 ?_
    rintro _ _ ⟨rfl, rfl⟩
    refine ww_perm (gs' := [wGW E a0 (rf10 (a1 0) h0_1 h0_2 (a2 0) h0_4 h0_5 h0_6 h0_7 h0_8 h0_9) v0, wHouse E a1 v1, wSight E a2 p34.2]) [0, 1, 2] 3 rfl (by decide) rfl ?_
    refine ww_icmp_ge (tgt := 77) C dL_all_37 (by decide) (fun c_2 => ?_) (fun c_2 => ?_)
    · replace hf := ifT c_2 hf
      refine ww_iconst (v := 0) C dL_all_77 (by decide) ?_
      refine ww_istore_n (lv' := [(3, .int 0), (0, .ref (a0 0)), (1, .long x1)]) C dL_all_78 rfl (by decide) rfl ?_
      refine ww_sub C (lv' := [(0, .ref (a0 0)), (1, .long x1), (3, .int 0)]) [1, 2, 0] rfl ?_
      exact w_L_all_79 C FU _ _ _ hf
    · replace hf := ifF c_2 hf
      refine ww_iconst (v := 0) C dL_all_40 (by decide) ?_
      refine ww_istore (lv' := [(4, .int 0), (0, .ref (a0 0)), (1, .long x1), (3, .int x3)]) C dL_all_41 (by decide) rfl ?_
      refine ww_sub C (lv' := [(0, .ref (a0 0)), (1, .long x1), (3, .int x3), (4, .int 0)]) [1, 2, 3, 0] rfl ?_
      exact w_L_all_43 C (k31 := (fun (x1 : Int64) (x3 : Int32) (v2 : SightV) => L_all_31 v0 v1 n x1 x3 v2)) ih FU _ _ _ hf

set_option maxHeartbeats 4000000 in
set_option maxRecDepth 100000 in
theorem w_L_all_4 {E : Ex} {K : Kx} (C : Cx E K cL_all 5 (some .long) RL wsL_all rmL_all) {a0 : Nat → Nat} {a1 : Nat → Nat} {a2 : Nat → Nat} {h0_1 h0_2 h0_4 h0_5 h0_6 h0_7 h0_8 h0_9 : Nat} {v0 : GWV} {v1 : HouseV}  {r : (Int64 × SightV)} : ∀ (n : Nat)  (x1 : Int64) (x3 : Int32) (v2 : SightV), L_all_4 v0 v1 n x1 x3 v2 = some r → WW E K 0 0 (QQ E K (fun rv g => rv = some (.long r.1) ∧ g = [wGW E a0 (rf10 (a1 0) h0_1 h0_2 (a2 0) h0_4 h0_5 h0_6 h0_7 h0_8 h0_9) v0, wHouse E a1 v1, wSight E a2 r.2]) 0 0) 4 [(0, .ref (a0 0)), (1, .long x1), (3, .int x3)] [] [wGW E a0 (rf10 (a1 0) h0_1 h0_2 (a2 0) h0_4 h0_5 h0_6 h0_7 h0_8 h0_9) v0, wHouse E a1 v1, wSight E a2 v2] := by
  intro n
  induction n with
  | zero =>
    intro  x1 x3 v2 hf
    simp [L_all_4] at hf
  | succ n ih =>
    intro  x1 x3 v2 hf
    rw [L_all_4] at hf
    refine ww_iload_n C dL_all_4 rfl 2 rfl ?_
    refine ww_bipush (v := 10) C dL_all_5 (by decide) ?_
    refine ww_icmp_ge (tgt := 29) C dL_all_7 (by decide) (fun c_1 => ?_) (fun c_1 => ?_)
    · replace hf := ifT c_1 hf
      refine ww_iconst (v := 0) C dL_all_29 (by decide) ?_
      refine ww_istore_n (lv' := [(3, .int 0), (0, .ref (a0 0)), (1, .long x1)]) C dL_all_30 rfl (by decide) rfl ?_
      refine ww_sub C (lv' := [(0, .ref (a0 0)), (1, .long x1), (3, .int 0)]) [1, 2, 0] rfl ?_
      exact w_L_all_31 C FU _ _ _ hf
    · replace hf := ifF c_1 hf
      refine ww_ldc2 (v := 31) C (by decide +kernel) dL_all_10 ?_
      refine ww_lload_n C dL_all_13 rfl 1 rfl ?_
      refine ww_lmul C dL_all_14 ?_
      refine ww_aload_n C dL_all_15 rfl 0 rfl ?_
      refine ww_iload_n C dL_all_16 rfl 2 rfl ?_
      obtain ⟨p17, hp17, hf⟩ := bdE hf
      refine ww_callV C (As := [.int x3]) (st := [.long (31 * x1)]) (gr := []) (c_X8_size (E := E) (a0 := a0) (h0_1 := h0_1) (h0_2 := h0_2) (h0_4 := h0_4) (h0_5 := h0_5) (h0_6 := h0_6) (h0_7 := h0_7) (h0_8 := h0_8) (h0_9 := h0_9) (a1 := a1) (a2 := a2) hp17) gL_all_X8_size rfl yk_X8_size ⟨by decide, Nat.le_of_ble_eq_true rfl⟩ ⟨by decide, by decide⟩ clOK8 0 0 rfl rfl [0, 1, 2] [] 3 rfl (by decide) rfl rfl (Nat.le_of_ble_eq_true rfl) dL_all_17 ?_
      rintro _ _ ⟨rfl, rfl⟩
      refine ww_perm (gs' := [wGW E a0 (rf10 (a1 0) h0_1 h0_2 (a2 0) h0_4 h0_5 h0_6 h0_7 h0_8 h0_9) v0, wHouse E a1 v1, wSight E a2 p17.2]) [0, 1, 2] 3 rfl (by decide) rfl ?_
      refine ww_i2l C dL_all_20 ?_
      refine ww_ladd C dL_all_21 ?_
      refine ww_lstore_n (lv' := [(1, .long ((31 * x1) + (Int32.toInt64 p17.1))), (0, .ref (a0 0)), (3, .int x3)]) C dL_all_22 rfl (by decide) rfl ?_
      obtain ⟨x3_23, e_x3_23⟩ : ∃ y : Int32, y = x3 + 1 := ⟨_, rfl⟩
      replace hf := ltE e_x3_23 hf
      refine ww_iinc (v := x3_23) (lv' := [(3, .int x3_23), (1, .long ((31 * x1) + (Int32.toInt64 p17.1))), (0, .ref (a0 0))]) C dL_all_23 2 rfl (by rw [e_x3_23]; rfl) (by decide) rfl ?_
      refine ww_goto (tgt := 4) C dL_all_26 (by decide) ?_
      refine ww_sub C (lv' := [(0, .ref (a0 0)), (1, .long ((31 * x1) + (Int32.toInt64 p17.1))), (3, .int x3_23)]) [2, 1, 0] rfl ?_
      exact ih _ _ _ hf

set_option maxHeartbeats 4000000 in
set_option maxRecDepth 100000 in
theorem c_L_all {E : Ex} {a0 : Nat → Nat} {a1 : Nat → Nat} {a2 : Nat → Nat} {h0_1 h0_2 h0_4 h0_5 h0_6 h0_7 h0_8 h0_9 : Nat} {v0 : GWV} {v1 : HouseV} {v2 : SightV} {r : (Int64 × SightV)} (hf : L_all v0 v1 v2 = some r) : Ct E yL_all wsL_all rmL_all [.ref (a0 0)] [wGW E a0 (rf10 (a1 0) h0_1 h0_2 (a2 0) h0_4 h0_5 h0_6 h0_7 h0_8 h0_9) v0, wHouse E a1 v1, wSight E a2 v2] (fun rv g => rv = some (.long r.1) ∧ g = [wGW E a0 (rf10 (a1 0) h0_1 h0_2 (a2 0) h0_4 h0_5 h0_6 h0_7 h0_8 h0_9) v0, wHouse E a1 v1, wSight E a2 r.2]) := by
  refine ct_of (own := RL) (by decide +kernel) rfl rfl (Nat.le_of_ble_eq_true rfl) (fun K C => ?_)
  refine ww_sub C (lv' := [(0, .ref (a0 0))]) [0] rfl ?_
  rw [L_all] at hf
  refine ww_lconst (v := 0) C dL_all_0 (by decide) ?_
  refine ww_lstore_n (lv' := [(1, .long 0), (0, .ref (a0 0))]) C dL_all_1 rfl (by decide) rfl ?_
  refine ww_iconst (v := 0) C dL_all_2 (by decide) ?_
  refine ww_istore_n (lv' := [(3, .int 0), (1, .long 0), (0, .ref (a0 0))]) C dL_all_3 rfl (by decide) rfl ?_
  refine ww_sub C (lv' := [(0, .ref (a0 0)), (1, .long 0), (3, .int 0)]) [2, 1, 0] rfl ?_
  exact w_L_all_4 C FU _ _ _ hf

theorem ysk_L_all : yL_all.cls ≠ "java/lang/invoke/MethodHandle" ∧ yL_all.cls ≠ "java/lang/invoke/VarHandle" ∧ (parseMethodDescriptor yL_all.desc).map (fun d => d.parameters.length) = some 1 := by decide +kernel
abbrev rmL_isQuick : Room := { frames := 6, cells := 0, slots := 0, locals := 145 }
set_option maxHeartbeats 4000000 in
set_option maxRecDepth 100000 in
theorem w_L_isQuick_205 {E : Ex} {K : Kx} (C : Cx E K cL_isQuick 10 (some .boolean) RL wsL_isQuick rmL_isQuick) {a0 : Nat → Nat} {a1 : Nat → Nat} {a2 : Nat → Nat} {a3 : Nat → Nat} {h0_1 h0_2 h0_4 h0_5 h0_7 h0_8 h0_9 : Nat} {x1 : Int32} {v0 : GWV} {v1 : HouseV}   {x2 : Int32} {x3 : Int32} {x4 : Int32} {x5 : Int32} {x6 : Int32} {x7 : Int32} {s0 : Int32} {s1 : Int32} {v2 : SightV} {v3 : IntrV} {k111 : Int32 → SightV → IntrV → Option (Bool × SightV × IntrV)} {r : (Bool × SightV × IntrV)} (hk111 : ∀  (x7 : Int32) (v2 : SightV) (v3 : IntrV), k111 x7 v2 v3 = some r → WW E K 0 0 (QQ E K (fun rv g => rv = some (.int (b2i r.1)) ∧ g = [wGW E a0 (rf10 (a1 0) h0_1 h0_2 (a2 0) h0_4 h0_5 (a3 0) h0_7 h0_8 h0_9) v0, wHouse E a1 v1, wSight E a2 r.2.1, wIntr E a3 r.2.2]) 0 0) 111 [(0, .ref (a0 0)), (2, .int x2), (3, .int x3), (4, .int x4), (5, .int x5), (6, .int x6), (7, .int x7)] [] [wGW E a0 (rf10 (a1 0) h0_1 h0_2 (a2 0) h0_4 h0_5 (a3 0) h0_7 h0_8 h0_9) v0, wHouse E a1 v1, wSight E a2 v2, wIntr E a3 v3]) (hf : L_isQuick_205 x1 v0 v1 k111 x2 x3 x4 x5 x6 x7 s0 s1 v2 v3 = some r) : WW E K 0 0 (QQ E K (fun rv g => rv = some (.int (b2i r.1)) ∧ g = [wGW E a0 (rf10 (a1 0) h0_1 h0_2 (a2 0) h0_4 h0_5 (a3 0) h0_7 h0_8 h0_9) v0, wHouse E a1 v1, wSight E a2 r.2.1, wIntr E a3 r.2.2]) 0 0) 205 [(0, .ref (a0 0)), (2, .int x2), (3, .int x3), (4, .int x4), (5, .int x5), (6, .int x6), (7, .int x7)] [.int s0, .int s1] [wGW E a0 (rf10 (a1 0) h0_1 h0_2 (a2 0) h0_4 h0_5 (a3 0) h0_7 h0_8 h0_9) v0, wHouse E a1 v1, wSight E a2 v2, wIntr E a3 v3] := by
  rw [L_isQuick_205] at hf
  refine ww_icmp_eq (tgt := 210) C dL_isQuick_205 (by decide) (fun c_16 => ?_) (fun c_16 => ?_)
  · replace hf := ifT c_16 hf
    obtain ⟨x7_210, e_x7_210⟩ : ∃ y : Int32, y = x7 + 1 := ⟨_, rfl⟩
    replace hf := ltE e_x7_210 hf
    refine ww_iinc (v := x7_210) (lv' := [(7, .int x7_210), (0, .ref (a0 0)), (2, .int x2), (3, .int x3), (4, .int x4), (5, .int x5), (6, .int x6)]) C dL_isQuick_210 6 rfl (by rw [e_x7_210]; rfl) (by decide) rfl ?_
    refine ww_goto (tgt := 111) C dL_isQuick_213 (by decide) ?_
    refine ww_sub C (lv' := [(0, .ref (a0 0)), (2, .int x2), (3, .int x3), (4, .int x4), (5, .int x5), (6, .int x6), (7, .int x7_210)]) [1, 2, 3, 4, 5, 6, 0] rfl ?_
    exact hk111 _ _ _ hf
  · replace hf := ifF c_16 hf
    refine ww_iconst (v := 0) C dL_isQuick_208 (by decide) ?_
    obtain rfl := Option.some.inj hf
    exact ww_zret C (nar_b false) ⟨rfl, rfl⟩ dL_isQuick_209

set_option maxHeartbeats 4000000 in
set_option maxRecDepth 100000 in
theorem w_L_isQuick_190 {E : Ex} {K : Kx} (C : Cx E K cL_isQuick 10 (some .boolean) RL wsL_isQuick rmL_isQuick) {a0 : Nat → Nat} {a1 : Nat → Nat} {a2 : Nat → Nat} {a3 : Nat → Nat} {h0_1 h0_2 h0_4 h0_5 h0_7 h0_8 h0_9 : Nat} {x1 : Int32} {v0 : GWV} {v1 : HouseV}   {x2 : Int32} {x3 : Int32} {x4 : Int32} {x5 : Int32} {x6 : Int32} {x7 : Int32} {s0 : Int32} {v2 : SightV} {v3 : IntrV} {k111 : Int32 → SightV → IntrV → Option (Bool × SightV × IntrV)} {r : (Bool × SightV × IntrV)} (hk111 : ∀  (x7 : Int32) (v2 : SightV) (v3 : IntrV), k111 x7 v2 v3 = some r → WW E K 0 0 (QQ E K (fun rv g => rv = some (.int (b2i r.1)) ∧ g = [wGW E a0 (rf10 (a1 0) h0_1 h0_2 (a2 0) h0_4 h0_5 (a3 0) h0_7 h0_8 h0_9) v0, wHouse E a1 v1, wSight E a2 r.2.1, wIntr E a3 r.2.2]) 0 0) 111 [(0, .ref (a0 0)), (2, .int x2), (3, .int x3), (4, .int x4), (5, .int x5), (6, .int x6), (7, .int x7)] [] [wGW E a0 (rf10 (a1 0) h0_1 h0_2 (a2 0) h0_4 h0_5 (a3 0) h0_7 h0_8 h0_9) v0, wHouse E a1 v1, wSight E a2 v2, wIntr E a3 v3]) (hf : L_isQuick_190 x1 v0 v1 k111 x2 x3 x4 x5 x6 x7 s0 v2 v3 = some r) : WW E K 0 0 (QQ E K (fun rv g => rv = some (.int (b2i r.1)) ∧ g = [wGW E a0 (rf10 (a1 0) h0_1 h0_2 (a2 0) h0_4 h0_5 (a3 0) h0_7 h0_8 h0_9) v0, wHouse E a1 v1, wSight E a2 r.2.1, wIntr E a3 r.2.2]) 0 0) 190 [(0, .ref (a0 0)), (2, .int x2), (3, .int x3), (4, .int x4), (5, .int x5), (6, .int x6), (7, .int x7)] [.int s0] [wGW E a0 (rf10 (a1 0) h0_1 h0_2 (a2 0) h0_4 h0_5 (a3 0) h0_7 h0_8 h0_9) v0, wHouse E a1 v1, wSight E a2 v2, wIntr E a3 v3] := by
  rw [L_isQuick_190] at hf
  refine ww_iload C dL_isQuick_190 3 rfl ?_
  refine ww_iload C dL_isQuick_192 6 rfl ?_
  refine ww_iadd C dL_isQuick_194 ?_
  refine ww_iload C dL_isQuick_195 4 rfl ?_
  refine ww_icmp_ne (tgt := 204) C dL_isQuick_197 (by decide) (fun c_15 => ?_) (fun c_15 => ?_)
  · replace hf := ifF c_15 hf
    refine ww_iconst (v := 0) C dL_isQuick_204 (by decide) ?_
    refine ww_sub C (lv' := [(0, .ref (a0 0)), (2, .int x2), (3, .int x3), (4, .int x4), (5, .int x5), (6, .int x6), (7, .int x7)]) [0, 1, 2, 3, 4, 5, 6] rfl ?_
    exact w_L_isQuick_205 C (k111 := k111) hk111 hf
  · replace hf := ifT c_15 hf
    refine ww_iconst (v := 1) C dL_isQuick_200 (by decide) ?_
    refine ww_goto (tgt := 205) C dL_isQuick_201 (by decide) ?_
    refine ww_sub C (lv' := [(0, .ref (a0 0)), (2, .int x2), (3, .int x3), (4, .int x4), (5, .int x5), (6, .int x6), (7, .int x7)]) [0, 1, 2, 3, 4, 5, 6] rfl ?_
    exact w_L_isQuick_205 C (k111 := k111) hk111 hf

set_option maxHeartbeats 4000000 in
set_option maxRecDepth 100000 in
theorem w_L_isQuick_132 {E : Ex} {K : Kx} (C : Cx E K cL_isQuick 10 (some .boolean) RL wsL_isQuick rmL_isQuick) {a0 : Nat → Nat} {a1 : Nat → Nat} {a2 : Nat → Nat} {a3 : Nat → Nat} {h0_1 h0_2 h0_4 h0_5 h0_7 h0_8 h0_9 : Nat} {x1 : Int32} {v0 : GWV} {v1 : HouseV} {x2 : Int32} {x3 : Int32} {x4 : Int32} {x5 : Int32} {x6 : Int32} {x7 : Int32} {x8 : Int32} {k111 : Int32 → SightV → IntrV → Option (Bool × SightV × IntrV)} {r : (Bool × SightV × IntrV)} (hk111 : ∀  (x7 : Int32) (v2 : SightV) (v3 : IntrV), k111 x7 v2 v3 = some r → WW E K 0 0 (QQ E K (fun rv g => rv = some (.int (b2i r.1)) ∧ g = [wGW E a0 (rf10 (a1 0) h0_1 h0_2 (a2 0) h0_4 h0_5 (a3 0) h0_7 h0_8 h0_9) v0, wHouse E a1 v1, wSight E a2 r.2.1, wIntr E a3 r.2.2]) 0 0) 111 [(0, .ref (a0 0)), (2, .int x2), (3, .int x3), (4, .int x4), (5, .int x5), (6, .int x6), (7, .int x7)] [] [wGW E a0 (rf10 (a1 0) h0_1 h0_2 (a2 0) h0_4 h0_5 (a3 0) h0_7 h0_8 h0_9) v0, wHouse E a1 v1, wSight E a2 v2, wIntr E a3 v3]) : ∀ (n : Nat)  (x9 : Int32) (v2 : SightV) (v3 : IntrV), L_isQuick_132 x1 v0 v1 x2 x3 x4 x5 x6 x7 x8 k111 n x9 v2 v3 = some r → WW E K 0 0 (QQ E K (fun rv g => rv = some (.int (b2i r.1)) ∧ g = [wGW E a0 (rf10 (a1 0) h0_1 h0_2 (a2 0) h0_4 h0_5 (a3 0) h0_7 h0_8 h0_9) v0, wHouse E a1 v1, wSight E a2 r.2.1, wIntr E a3 r.2.2]) 0 0) 132 [(0, .ref (a0 0)), (2, .int x2), (3, .int x3), (4, .int x4), (5, .int x5), (6, .int x6), (7, .int x7), (8, .int x8), (9, .int x9)] [] [wGW E a0 (rf10 (a1 0) h0_1 h0_2 (a2 0) h0_4 h0_5 (a3 0) h0_7 h0_8 h0_9) v0, wHouse E a1 v1, wSight E a2 v2, wIntr E a3 v3] := by
  intro n
  induction n with
  | zero =>
    intro  x9 v2 v3 hf
    simp [L_isQuick_132] at hf
  | succ n ih =>
    intro  x9 v2 v3 hf
    rw [L_isQuick_132] at hf
    refine ww_iload C dL_isQuick_132 8 rfl ?_
    refine ww_aload_n C dL_isQuick_134 rfl 0 rfl ?_
    refine ww_iconst (v := 0) C dL_isQuick_135 (by decide) ?_
    obtain ⟨p136, hp136, hf⟩ := bdE hf
    refine ww_callV C (As := [.int 0]) (st := [.int x9]) (gr := [wIntr E a3 v3]) (c_X8_size (E := E) (a0 := a0) (h0_1 := h0_1) (h0_2 := h0_2) (h0_4 := h0_4) (h0_5 := h0_5) (h0_6 := a3 0) (h0_7 := h0_7) (h0_8 := h0_8) (h0_9 := h0_9) (a1 := a1) (a2 := a2) hp136) gL_isQuick_X8_size rfl yk_X8_size ⟨by decide, Nat.le_of_ble_eq_true rfl⟩ ⟨by decide, by decide⟩ clOK8 0 0 rfl rfl [0, 1, 2] [3] 4 rfl (by decide) rfl rfl (Nat.le_of_ble_eq_true rfl) dL_isQuick_136 ?_
    rintro _ _ ⟨rfl, rfl⟩
    refine ww_perm (gs' := [wGW E a0 (rf10 (a1 0) h0_1 h0_2 (a2 0) h0_4 h0_5 (a3 0) h0_7 h0_8 h0_9) v0, wHouse E a1 v1, wSight E a2 p136.2, wIntr E a3 v3]) [0, 1, 2, 3] 4 rfl (by decide) rfl ?_
    refine ww_icmp_ge (tgt := 175) C dL_isQuick_139 (by decide) (fun c_11 => ?_) (fun c_11 => ?_)
    · replace hf := ifT c_11 hf
      refine ww_iload C dL_isQuick_175 7 rfl ?_
      refine ww_iload_n C dL_isQuick_177 rfl 2 rfl ?_
      refine ww_ishr C dL_isQuick_178 ?_
      refine ww_iconst (v := 1) C dL_isQuick_179 (by decide) ?_
      refine ww_iand C dL_isQuick_180 ?_
      refine ww_iconst (v := 1) C dL_isQuick_181 (by decide) ?_
      refine ww_icmp_ne (tgt := 189) C dL_isQuick_182 (by decide) (fun c_12 => ?_) (fun c_12 => ?_)
      · replace hf := ifF c_12 hf
        refine ww_iconst (v := 0) C dL_isQuick_189 (by decide) ?_
        refine ww_sub C (lv' := [(0, .ref (a0 0)), (2, .int x2), (3, .int x3), (4, .int x4), (5, .int x5), (6, .int x6), (7, .int x7)]) [0, 1, 2, 3, 4, 5, 6] rfl ?_
        exact w_L_isQuick_190 C (k111 := k111) hk111 hf
      · replace hf := ifT c_12 hf
        refine ww_iconst (v := 1) C dL_isQuick_185 (by decide) ?_
        refine ww_goto (tgt := 190) C dL_isQuick_186 (by decide) ?_
        refine ww_sub C (lv' := [(0, .ref (a0 0)), (2, .int x2), (3, .int x3), (4, .int x4), (5, .int x5), (6, .int x6), (7, .int x7)]) [0, 1, 2, 3, 4, 5, 6] rfl ?_
        exact w_L_isQuick_190 C (k111 := k111) hk111 hf
    · replace hf := ifF c_11 hf
      refine ww_iload C dL_isQuick_142 7 rfl ?_
      refine ww_iload C dL_isQuick_144 8 rfl ?_
      refine ww_ishr C dL_isQuick_146 ?_
      refine ww_iconst (v := 1) C dL_isQuick_147 (by decide) ?_
      refine ww_iand C dL_isQuick_148 ?_
      refine ww_iconst (v := 1) C dL_isQuick_149 (by decide) ?_
      refine ww_icmp_ne (tgt := 169) C dL_isQuick_150 (by decide) (fun c_13 => ?_) (fun c_13 => ?_)
      · replace hf := ifF c_13 hf
        obtain ⟨x9_169, e_x9_169⟩ : ∃ y : Int32, y = x9 + 1 := ⟨_, rfl⟩
        replace hf := ltE e_x9_169 hf
        refine ww_iinc (v := x9_169) (lv' := [(9, .int x9_169), (0, .ref (a0 0)), (2, .int x2), (3, .int x3), (4, .int x4), (5, .int x5), (6, .int x6), (7, .int x7), (8, .int x8)]) C dL_isQuick_169 8 rfl (by rw [e_x9_169]; rfl) (by decide) rfl ?_
        refine ww_goto (tgt := 132) C dL_isQuick_172 (by decide) ?_
        refine ww_sub C (lv' := [(0, .ref (a0 0)), (2, .int x2), (3, .int x3), (4, .int x4), (5, .int x5), (6, .int x6), (7, .int x7), (8, .int x8), (9, .int x9_169)]) [1, 2, 3, 4, 5, 6, 7, 8, 0] rfl ?_
        exact ih _ _ _ hf
      · replace hf := ifT c_13 hf
        refine ww_aload_n C dL_isQuick_153 rfl 0 rfl ?_
        refine ww_iload C dL_isQuick_154 8 rfl ?_
        refine ww_iload C dL_isQuick_156 3 rfl ?_
        refine ww_iload C dL_isQuick_158 6 rfl ?_
        refine ww_iadd C dL_isQuick_160 ?_
        obtain ⟨p161, hp161, hf⟩ := bdE hf
        refine ww_callV C (As := [.int x9, .int (x4 + x7)]) (st := []) (gr := [wSight E a2 p136.2, wIntr E a3 v3]) (c_X8_guardsIn (E := E) (a0 := a0) (h0_1 := h0_1) (h0_2 := h0_2) (h0_3 := a2 0) (h0_4 := h0_4) (h0_5 := h0_5) (h0_6 := a3 0) (h0_7 := h0_7) (h0_8 := h0_8) (h0_9 := h0_9) (a1 := a1) hp161) gL_isQuick_X8_guardsIn rfl yk_X8_guardsIn ⟨by decide, Nat.le_of_ble_eq_true rfl⟩ ⟨by decide, by decide⟩ clOK8 0 0 rfl rfl [0, 1] [2, 3] 4 rfl (by decide) rfl rfl (Nat.le_of_ble_eq_true rfl) dL_isQuick_161 ?_
        rintro _ _ ⟨rfl, rfl⟩
        refine ww_perm (gs' := [wGW E a0 (rf10 (a1 0) h0_1 h0_2 (a2 0) h0_4 h0_5 (a3 0) h0_7 h0_8 h0_9) v0, wHouse E a1 v1, wSight E a2 p136.2, wIntr E a3 v3]) [0, 1, 2, 3] 4 rfl (by decide) rfl ?_
        refine ww_if_eq (tgt := 169) C dL_isQuick_164 (by decide) (fun c_14 => ?_) (fun c_14 => ?_)
        · replace hf := ifT c_14 hf
          obtain ⟨x9_169, e_x9_169⟩ : ∃ y : Int32, y = x9 + 1 := ⟨_, rfl⟩
          replace hf := ltE e_x9_169 hf
          refine ww_iinc (v := x9_169) (lv' := [(9, .int x9_169), (0, .ref (a0 0)), (2, .int x2), (3, .int x3), (4, .int x4), (5, .int x5), (6, .int x6), (7, .int x7), (8, .int x8)]) C dL_isQuick_169 8 rfl (by rw [e_x9_169]; rfl) (by decide) rfl ?_
          refine ww_goto (tgt := 132) C dL_isQuick_172 (by decide) ?_
          refine ww_sub C (lv' := [(0, .ref (a0 0)), (2, .int x2), (3, .int x3), (4, .int x4), (5, .int x5), (6, .int x6), (7, .int x7), (8, .int x8), (9, .int x9_169)]) [1, 2, 3, 4, 5, 6, 7, 8, 0] rfl ?_
          exact ih _ _ _ hf
        · replace hf := ifF c_14 hf
          refine ww_iconst (v := 0) C dL_isQuick_167 (by decide) ?_
          obtain rfl := Option.some.inj hf
          exact ww_zret C (nar_b false) ⟨rfl, rfl⟩ dL_isQuick_168

set_option maxHeartbeats 4000000 in
set_option maxRecDepth 100000 in
theorem w_L_isQuick_111 {E : Ex} {K : Kx} (C : Cx E K cL_isQuick 10 (some .boolean) RL wsL_isQuick rmL_isQuick) {a0 : Nat → Nat} {a1 : Nat → Nat} {a2 : Nat → Nat} {a3 : Nat → Nat} {h0_1 h0_2 h0_4 h0_5 h0_7 h0_8 h0_9 : Nat} {x1 : Int32} {v0 : GWV} {v1 : HouseV} {x2 : Int32} {x3 : Int32} {x4 : Int32} {x5 : Int32} {x6 : Int32} {r : (Bool × SightV × IntrV)} : ∀ (n : Nat)  (x7 : Int32) (v2 : SightV) (v3 : IntrV), L_isQuick_111 x1 v0 v1 x2 x3 x4 x5 x6 n x7 v2 v3 = some r → WW E K 0 0 (QQ E K (fun rv g => rv = some (.int (b2i r.1)) ∧ g = [wGW E a0 (rf10 (a1 0) h0_1 h0_2 (a2 0) h0_4 h0_5 (a3 0) h0_7 h0_8 h0_9) v0, wHouse E a1 v1, wSight E a2 r.2.1, wIntr E a3 r.2.2]) 0 0) 111 [(0, .ref (a0 0)), (2, .int x2), (3, .int x3), (4, .int x4), (5, .int x5), (6, .int x6), (7, .int x7)] [] [wGW E a0 (rf10 (a1 0) h0_1 h0_2 (a2 0) h0_4 h0_5 (a3 0) h0_7 h0_8 h0_9) v0, wHouse E a1 v1, wSight E a2 v2, wIntr E a3 v3] := by
  intro n
  induction n with
  | zero =>
    intro  x7 v2 v3 hf
    simp [L_isQuick_111] at hf
  | succ n ih =>
    intro  x7 v2 v3 hf
    rw [L_isQuick_111] at hf
    refine ww_iload C dL_isQuick_111 6 rfl ?_
    refine ww_iload C dL_isQuick_113 5 rfl ?_
    refine ww_icmp_gt (tgt := 216) C dL_isQuick_115 (by decide) (fun c_7 => ?_) (fun c_7 => ?_)
    · replace hf := ifT c_7 hf
      refine ww_iload C dL_isQuick_216 4 rfl ?_
      refine ww_if_lt (tgt := 244) C dL_isQuick_218 (by decide) (fun c_8 => ?_) (fun c_8 => ?_)
      · replace hf := ifT c_8 hf
        refine ww_iconst (v := 1) C dL_isQuick_244 (by decide) ?_
        refine ww_goto (tgt := 249) C dL_isQuick_245 (by decide) ?_
        obtain rfl := Option.some.inj hf
        exact ww_zret C (nar_b true) ⟨rfl, rfl⟩ dL_isQuick_249
      · replace hf := ifF c_8 hf
        refine ww_aload_n C dL_isQuick_221 rfl 0 rfl ?_
        refine ww_iload_n C dL_isQuick_222 rfl 1 rfl ?_
        refine ww_iload_n C dL_isQuick_223 rfl 2 rfl ?_
        obtain ⟨p224, hp224, hf⟩ := bdE hf
        refine ww_callV C (As := [.int x2, .int x3]) (st := []) (gr := [wSight E a2 v2, wIntr E a3 v3]) (c_X8_distance (E := E) (a0 := a0) (h0_1 := h0_1) (h0_2 := h0_2) (h0_3 := a2 0) (h0_4 := h0_4) (h0_5 := h0_5) (h0_6 := a3 0) (h0_7 := h0_7) (h0_8 := h0_8) (h0_9 := h0_9) (a1 := a1) hp224) gL_isQuick_X8_distance rfl yk_X8_distance ⟨by decide, Nat.le_of_ble_eq_true rfl⟩ ⟨by decide, by decide⟩ clOK8 0 0 rfl rfl [0, 1] [2, 3] 4 rfl (by decide) rfl rfl (Nat.le_of_ble_eq_true rfl) dL_isQuick_224 ?_
        rintro _ _ ⟨rfl, rfl⟩
        refine ww_perm (gs' := [wGW E a0 (rf10 (a1 0) h0_1 h0_2 (a2 0) h0_4 h0_5 (a3 0) h0_7 h0_8 h0_9) v0, wHouse E a1 v1, wSight E a2 v2, wIntr E a3 v3]) [0, 1, 2, 3] 4 rfl (by decide) rfl ?_
        refine ww_if_lt (tgt := 248) C dL_isQuick_227 (by decide) (fun c_9 => ?_) (fun c_9 => ?_)
        · replace hf := ifT c_9 hf
          refine ww_iconst (v := 0) C dL_isQuick_248 (by decide) ?_
          obtain rfl := Option.some.inj hf
          exact ww_zret C (nar_b false) ⟨rfl, rfl⟩ dL_isQuick_249
        · replace hf := ifF c_9 hf
          refine ww_iload C dL_isQuick_230 4 rfl ?_
          refine ww_iload C dL_isQuick_232 3 rfl ?_
          refine ww_isub C dL_isQuick_234 ?_
          refine ww_aload_n C dL_isQuick_235 rfl 0 rfl ?_
          refine ww_iload_n C dL_isQuick_236 rfl 1 rfl ?_
          refine ww_iload_n C dL_isQuick_237 rfl 2 rfl ?_
          obtain ⟨p238, hp238, hf⟩ := bdE hf
          refine ww_callV C (As := [.int x2, .int x3]) (st := [.int (x5 - x4)]) (gr := [wSight E a2 v2, wIntr E a3 v3]) (c_X8_distance (E := E) (a0 := a0) (h0_1 := h0_1) (h0_2 := h0_2) (h0_3 := a2 0) (h0_4 := h0_4) (h0_5 := h0_5) (h0_6 := a3 0) (h0_7 := h0_7) (h0_8 := h0_8) (h0_9 := h0_9) (a1 := a1) hp238) gL_isQuick_X8_distance rfl yk_X8_distance ⟨by decide, Nat.le_of_ble_eq_true rfl⟩ ⟨by decide, by decide⟩ clOK8 0 0 rfl rfl [0, 1] [2, 3] 4 rfl (by decide) rfl rfl (Nat.le_of_ble_eq_true rfl) dL_isQuick_238 ?_
          rintro _ _ ⟨rfl, rfl⟩
          refine ww_perm (gs' := [wGW E a0 (rf10 (a1 0) h0_1 h0_2 (a2 0) h0_4 h0_5 (a3 0) h0_7 h0_8 h0_9) v0, wHouse E a1 v1, wSight E a2 v2, wIntr E a3 v3]) [0, 1, 2, 3] 4 rfl (by decide) rfl ?_
          refine ww_icmp_lt (tgt := 248) C dL_isQuick_241 (by decide) (fun c_10 => ?_) (fun c_10 => ?_)
          · replace hf := ifT c_10 hf
            refine ww_iconst (v := 0) C dL_isQuick_248 (by decide) ?_
            obtain rfl := Option.some.inj hf
            exact ww_zret C (nar_b false) ⟨rfl, rfl⟩ dL_isQuick_249
          · replace hf := ifF c_10 hf
            refine ww_iconst (v := 1) C dL_isQuick_244 (by decide) ?_
            refine ww_goto (tgt := 249) C dL_isQuick_245 (by decide) ?_
            obtain rfl := Option.some.inj hf
            exact ww_zret C (nar_b true) ⟨rfl, rfl⟩ dL_isQuick_249
    · replace hf := ifF c_7 hf
      refine ww_aload_n C dL_isQuick_118 rfl 0 rfl ?_
      refine ww_iload_n C dL_isQuick_119 rfl 1 rfl ?_
      refine ww_iload C dL_isQuick_120 3 rfl ?_
      refine ww_iload C dL_isQuick_122 6 rfl ?_
      obtain ⟨p124, hp124, hf⟩ := bdE hf
      refine ww_callV C (As := [.int x2, .int x4, .int x7]) (st := []) (gr := [wSight E a2 v2]) (c_X8_hiding (E := E) (a0 := a0) (h0_1 := h0_1) (h0_2 := h0_2) (h0_3 := a2 0) (h0_4 := h0_4) (h0_5 := h0_5) (h0_7 := h0_7) (h0_8 := h0_8) (h0_9 := h0_9) (a1 := a1) (a2 := a3) hp124) gL_isQuick_X8_hiding rfl yk_X8_hiding ⟨by decide, Nat.le_of_ble_eq_true rfl⟩ ⟨by decide, by decide⟩ clOK8 0 0 rfl rfl [0, 1, 3] [2] 4 rfl (by decide) rfl rfl (Nat.le_of_ble_eq_true rfl) dL_isQuick_124 ?_
      rintro _ _ ⟨rfl, rfl⟩
      refine ww_perm (gs' := [wGW E a0 (rf10 (a1 0) h0_1 h0_2 (a2 0) h0_4 h0_5 (a3 0) h0_7 h0_8 h0_9) v0, wHouse E a1 v1, wSight E a2 v2, wIntr E a3 p124.2]) [0, 1, 3, 2] 4 rfl (by decide) rfl ?_
      refine ww_istore (lv' := [(8, .int p124.1), (0, .ref (a0 0)), (2, .int x2), (3, .int x3), (4, .int x4), (5, .int x5), (6, .int x6), (7, .int x7)]) C dL_isQuick_127 (by decide) rfl ?_
      refine ww_iconst (v := 0) C dL_isQuick_129 (by decide) ?_
      refine ww_istore (lv' := [(9, .int 0), (8, .int p124.1), (0, .ref (a0 0)), (2, .int x2), (3, .int x3), (4, .int x4), (5, .int x5), (6, .int x6), (7, .int x7)]) C dL_isQuick_130 (by decide) rfl ?_
      refine ww_sub C (lv' := [(0, .ref (a0 0)), (2, .int x2), (3, .int x3), (4, .int x4), (5, .int x5), (6, .int x6), (7, .int x7), (8, .int p124.1), (9, .int 0)]) [2, 3, 4, 5, 6, 7, 8, 1, 0] rfl ?_
      exact w_L_isQuick_132 C (k111 := (fun (x7 : Int32) (v2 : SightV) (v3 : IntrV) => L_isQuick_111 x1 v0 v1 x2 x3 x4 x5 x6 n x7 v2 v3)) ih FU _ _ _ hf

set_option maxHeartbeats 4000000 in
set_option maxRecDepth 100000 in
theorem c_L_isQuick {E : Ex} {a0 : Nat → Nat} {a1 : Nat → Nat} {a2 : Nat → Nat} {a3 : Nat → Nat} {h0_1 h0_2 h0_4 h0_5 h0_7 h0_8 h0_9 : Nat} {x1 : Int32} {v0 : GWV} {v1 : HouseV} {v2 : SightV} {v3 : IntrV} {r : (Bool × SightV × IntrV)} (hf : L_isQuick x1 v0 v1 v2 v3 = some r) : Ct E yL_isQuick wsL_isQuick rmL_isQuick [.ref (a0 0), .int x1] [wGW E a0 (rf10 (a1 0) h0_1 h0_2 (a2 0) h0_4 h0_5 (a3 0) h0_7 h0_8 h0_9) v0, wHouse E a1 v1, wSight E a2 v2, wIntr E a3 v3] (fun rv g => rv = some (.int (b2i r.1)) ∧ g = [wGW E a0 (rf10 (a1 0) h0_1 h0_2 (a2 0) h0_4 h0_5 (a3 0) h0_7 h0_8 h0_9) v0, wHouse E a1 v1, wSight E a2 r.2.1, wIntr E a3 r.2.2]) := by
  refine ct_of (own := RL) (by decide +kernel) rfl rfl (Nat.le_of_ble_eq_true rfl) (fun K C => ?_)
  refine ww_sub C (lv' := [(0, .ref (a0 0)), (1, .int x1)]) [0, 1] rfl ?_
  rw [L_isQuick] at hf
  refine ww_iload_n C dL_isQuick_0 rfl 1 rfl ?_
  refine ww_aload_n C dL_isQuick_1 rfl 0 rfl ?_
  refine ww_iconst (v := 0) C dL_isQuick_2 (by decide) ?_
  obtain ⟨p3, hp3, hf⟩ := bdE hf
  refine ww_callV C (As := [.int 0]) (st := [.int x1]) (gr := [wIntr E a3 v3]) (c_X8_size (E := E) (a0 := a0) (h0_1 := h0_1) (h0_2 := h0_2) (h0_4 := h0_4) (h0_5 := h0_5) (h0_6 := a3 0) (h0_7 := h0_7) (h0_8 := h0_8) (h0_9 := h0_9) (a1 := a1) (a2 := a2) hp3) gL_isQuick_X8_size rfl yk_X8_size ⟨by decide, Nat.le_of_ble_eq_true rfl⟩ ⟨by decide, by decide⟩ clOK8 0 0 rfl rfl [0, 1, 2] [3] 4 rfl (by decide) rfl rfl (Nat.le_of_ble_eq_true rfl) dL_isQuick_3 ?_
  rintro _ _ ⟨rfl, rfl⟩
  refine ww_perm (gs' := [wGW E a0 (rf10 (a1 0) h0_1 h0_2 (a2 0) h0_4 h0_5 (a3 0) h0_7 h0_8 h0_9) v0, wHouse E a1 v1, wSight E a2 p3.2, wIntr E a3 v3]) [0, 1, 2, 3] 4 rfl (by decide) rfl ?_
  obtain ⟨p6, hp6, hf⟩ := bdE hf
  refine ww_callS C (As := [.int x1, .int p3.1]) (st := []) (gr := [wGW E a0 (rf10 (a1 0) h0_1 h0_2 (a2 0) h0_4 h0_5 (a3 0) h0_7 h0_8 h0_9) v0, wHouse E a1 v1, wSight E a2 p3.2, wIntr E a3 v3]) (c_L_most (E := E)  hp6) gL_isQuick_L_most rfl ysk_L_most ⟨by decide, Nat.le_of_ble_eq_true rfl⟩ ⟨by decide, by decide⟩ [] [0, 1, 2, 3] 4 rfl (by decide) rfl rfl (Nat.le_of_ble_eq_true rfl) dL_isQuick_6 ?_
  rintro _ _ ⟨rfl, rfl⟩
  refine ww_perm (gs' := [wGW E a0 (rf10 (a1 0) h0_1 h0_2 (a2 0) h0_4 h0_5 (a3 0) h0_7 h0_8 h0_9) v0, wHouse E a1 v1, wSight E a2 p3.2, wIntr E a3 v3]) [0, 1, 2, 3] 4 rfl (by decide) rfl ?_
  refine ww_istore_n (lv' := [(2, .int p6), (0, .ref (a0 0)), (1, .int x1)]) C dL_isQuick_9 rfl (by decide) rfl ?_
  refine ww_iload_n C dL_isQuick_10 rfl 2 rfl ?_
  refine ww_iconst (v := 3) C dL_isQuick_11 (by decide) ?_
  refine ww_ishr C dL_isQuick_12 ?_
  refine ww_aload_n C dL_isQuick_13 rfl 1 rfl ?_
  refine ww_iconst (v := 0) C dL_isQuick_14 (by decide) ?_
  obtain ⟨p15, hp15, hf⟩ := bdE hf
  refine ww_callV C (As := [.int 0]) (st := [.int (x1 >>> (3 &&& 31))]) (gr := [wIntr E a3 v3]) (c_X8_size (E := E) (a0 := a0) (h0_1 := h0_1) (h0_2 := h0_2) (h0_4 := h0_4) (h0_5 := h0_5) (h0_6 := a3 0) (h0_7 := h0_7) (h0_8 := h0_8) (h0_9 := h0_9) (a1 := a1) (a2 := a2) hp15) gL_isQuick_X8_size rfl yk_X8_size ⟨by decide, Nat.le_of_ble_eq_true rfl⟩ ⟨by decide, by decide⟩ clOK8 0 0 rfl rfl [0, 1, 2] [3] 4 rfl (by decide) rfl rfl (Nat.le_of_ble_eq_true rfl) dL_isQuick_15 ?_
  rintro _ _ ⟨rfl, rfl⟩
  refine ww_perm (gs' := [wGW E a0 (rf10 (a1 0) h0_1 h0_2 (a2 0) h0_4 h0_5 (a3 0) h0_7 h0_8 h0_9) v0, wHouse E a1 v1, wSight E a2 p15.2, wIntr E a3 v3]) [0, 1, 2, 3] 4 rfl (by decide) rfl ?_
  obtain ⟨p18, hp18, hf⟩ := bdE hf
  refine ww_callS C (As := [.int (x1 >>> (3 &&& 31)), .int p15.1]) (st := []) (gr := [wGW E a0 (rf10 (a1 0) h0_1 h0_2 (a2 0) h0_4 h0_5 (a3 0) h0_7 h0_8 h0_9) v0, wHouse E a1 v1, wSight E a2 p15.2, wIntr E a3 v3]) (c_L_most (E := E)  hp18) gL_isQuick_L_most rfl ysk_L_most ⟨by decide, Nat.le_of_ble_eq_true rfl⟩ ⟨by decide, by decide⟩ [] [0, 1, 2, 3] 4 rfl (by decide) rfl rfl (Nat.le_of_ble_eq_true rfl) dL_isQuick_18 ?_
  rintro _ _ ⟨rfl, rfl⟩
  refine ww_perm (gs' := [wGW E a0 (rf10 (a1 0) h0_1 h0_2 (a2 0) h0_4 h0_5 (a3 0) h0_7 h0_8 h0_9) v0, wHouse E a1 v1, wSight E a2 p15.2, wIntr E a3 v3]) [0, 1, 2, 3] 4 rfl (by decide) rfl ?_
  refine ww_istore_n (lv' := [(3, .int p18), (2, .int p6), (0, .ref (a0 0)), (1, .int x1)]) C dL_isQuick_21 rfl (by decide) rfl ?_
  refine ww_iload_n C dL_isQuick_22 rfl 3 rfl ?_
  refine ww_iconst (v := 5) C dL_isQuick_23 (by decide) ?_
  refine ww_ishr C dL_isQuick_24 ?_
  refine ww_bipush (v := 50) C dL_isQuick_25 (by decide) ?_
  obtain ⟨p27, hp27, hf⟩ := bdE hf
  refine ww_callS C (As := [.int (x1 >>> (5 &&& 31)), .int 50]) (st := []) (gr := [wGW E a0 (rf10 (a1 0) h0_1 h0_2 (a2 0) h0_4 h0_5 (a3 0) h0_7 h0_8 h0_9) v0, wHouse E a1 v1, wSight E a2 p15.2, wIntr E a3 v3]) (c_L_most (E := E)  hp27) gL_isQuick_L_most rfl ysk_L_most ⟨by decide, Nat.le_of_ble_eq_true rfl⟩ ⟨by decide, by decide⟩ [] [0, 1, 2, 3] 4 rfl (by decide) rfl rfl (Nat.le_of_ble_eq_true rfl) dL_isQuick_27 ?_
  rintro _ _ ⟨rfl, rfl⟩
  refine ww_perm (gs' := [wGW E a0 (rf10 (a1 0) h0_1 h0_2 (a2 0) h0_4 h0_5 (a3 0) h0_7 h0_8 h0_9) v0, wHouse E a1 v1, wSight E a2 p15.2, wIntr E a3 v3]) [0, 1, 2, 3] 4 rfl (by decide) rfl ?_
  refine ww_istore (lv' := [(4, .int p27), (3, .int p18), (2, .int p6), (0, .ref (a0 0)), (1, .int x1)]) C dL_isQuick_30 (by decide) rfl ?_
  refine ww_aload_n C dL_isQuick_32 rfl 3 rfl ?_
  refine ww_iload_n C dL_isQuick_33 rfl 2 rfl ?_
  refine ww_iload_n C dL_isQuick_34 rfl 1 rfl ?_
  refine ww_iload C dL_isQuick_35 0 rfl ?_
  obtain ⟨p37, hp37, hf⟩ := bdE hf
  refine ww_callV C (As := [.int p6, .int p18, .int p27]) (st := []) (gr := [wSight E a2 p15.2]) (c_X8_arrival (E := E) (a0 := a0) (h0_1 := h0_1) (h0_2 := h0_2) (h0_3 := a2 0) (h0_4 := h0_4) (h0_5 := h0_5) (h0_7 := h0_7) (h0_8 := h0_8) (h0_9 := h0_9) (a1 := a1) (a2 := a3) hp37) gL_isQuick_X8_arrival rfl yk_X8_arrival ⟨by decide, Nat.le_of_ble_eq_true rfl⟩ ⟨by decide, by decide⟩ clOK8 0 0 rfl rfl [0, 1, 3] [2] 4 rfl (by decide) rfl rfl (Nat.le_of_ble_eq_true rfl) dL_isQuick_37 ?_
  rintro _ _ ⟨rfl, rfl⟩
  refine ww_perm (gs' := [wGW E a0 (rf10 (a1 0) h0_1 h0_2 (a2 0) h0_4 h0_5 (a3 0) h0_7 h0_8 h0_9) v0, wHouse E a1 v1, wSight E a2 p15.2, wIntr E a3 p37.2]) [0, 1, 3, 2] 4 rfl (by decide) rfl ?_
  refine ww_istore (lv' := [(5, .int p37.1), (4, .int p27), (3, .int p18), (2, .int p6), (0, .ref (a0 0)), (1, .int x1)]) C dL_isQuick_40 (by decide) rfl ?_
  refine ww_aload_n C dL_isQuick_42 rfl 4 rfl ?_
  refine ww_iload_n C dL_isQuick_43 rfl 3 rfl ?_
  refine ww_iload C dL_isQuick_44 1 rfl ?_
  obtain ⟨p46, hp46, hf⟩ := bdE hf
  refine ww_callV C (As := [.int p6, .int p27]) (st := []) (gr := [wSight E a2 p15.2, wIntr E a3 p37.2]) (c_X8_guardsIn (E := E) (a0 := a0) (h0_1 := h0_1) (h0_2 := h0_2) (h0_3 := a2 0) (h0_4 := h0_4) (h0_5 := h0_5) (h0_6 := a3 0) (h0_7 := h0_7) (h0_8 := h0_8) (h0_9 := h0_9) (a1 := a1) hp46) gL_isQuick_X8_guardsIn rfl yk_X8_guardsIn ⟨by decide, Nat.le_of_ble_eq_true rfl⟩ ⟨by decide, by decide⟩ clOK8 0 0 rfl rfl [0, 1] [2, 3] 4 rfl (by decide) rfl rfl (Nat.le_of_ble_eq_true rfl) dL_isQuick_46 ?_
  rintro _ _ ⟨rfl, rfl⟩
  refine ww_perm (gs' := [wGW E a0 (rf10 (a1 0) h0_1 h0_2 (a2 0) h0_4 h0_5 (a3 0) h0_7 h0_8 h0_9) v0, wHouse E a1 v1, wSight E a2 p15.2, wIntr E a3 p37.2]) [0, 1, 2, 3] 4 rfl (by decide) rfl ?_
  refine ww_if_eq (tgt := 86) C dL_isQuick_49 (by decide) (fun c_1 => ?_) (fun c_1 => ?_)
  · replace hf := ifT c_1 hf
    refine ww_iload C dL_isQuick_86 0 rfl ?_
    refine ww_if_ge (tgt := 96) C dL_isQuick_88 (by decide) (fun c_2 => ?_) (fun c_2 => ?_)
    · replace hf := ifT c_2 hf
      refine ww_bipush (v := 100) C dL_isQuick_96 (by decide) ?_
      refine ww_iload C dL_isQuick_98 0 rfl ?_
      refine ww_iload C dL_isQuick_100 1 rfl ?_
      refine ww_isub C dL_isQuick_102 ?_
      refine ww_min C (by decide +kernel) (by decide +kernel) (by decide +kernel) (by decide +kernel) (by decide) (Nat.le_of_ble_eq_true rfl) (by decide) (by decide) dL_isQuick_103 ?_
      refine ww_topi (fun x6_106 e_x6_106 => ?_)
      replace hf := ltE e_x6_106 hf
      refine ww_istore (lv' := [(6, .int x6_106), (5, .int p37.1), (4, .int p27), (3, .int p18), (2, .int p6), (0, .ref (a0 0)), (1, .int x1)]) C dL_isQuick_106 (by decide) rfl ?_
      refine ww_iconst (v := 0) C dL_isQuick_108 (by decide) ?_
      refine ww_istore (lv' := [(7, .int 0), (6, .int x6_106), (5, .int p37.1), (4, .int p27), (3, .int p18), (2, .int p6), (0, .ref (a0 0)), (1, .int x1)]) C dL_isQuick_109 (by decide) rfl ?_
      refine ww_sub C (lv' := [(0, .ref (a0 0)), (2, .int p6), (3, .int p18), (4, .int p27), (5, .int p37.1), (6, .int x6_106), (7, .int 0)]) [6, 5, 4, 3, 2, 1, 0] rfl ?_
      exact w_L_isQuick_111 C FU _ _ _ hf
    · replace hf := ifF c_2 hf
      refine ww_bipush (v := 40) C dL_isQuick_91 (by decide) ?_
      refine ww_goto (tgt := 106) C dL_isQuick_93 (by decide) ?_
      refine ww_istore (lv' := [(6, .int 40), (5, .int p37.1), (4, .int p27), (3, .int p18), (2, .int p6), (0, .ref (a0 0)), (1, .int x1)]) C dL_isQuick_106 (by decide) rfl ?_
      refine ww_iconst (v := 0) C dL_isQuick_108 (by decide) ?_
      refine ww_istore (lv' := [(7, .int 0), (6, .int 40), (5, .int p37.1), (4, .int p27), (3, .int p18), (2, .int p6), (0, .ref (a0 0)), (1, .int x1)]) C dL_isQuick_109 (by decide) rfl ?_
      refine ww_sub C (lv' := [(0, .ref (a0 0)), (2, .int p6), (3, .int p18), (4, .int p27), (5, .int p37.1), (6, .int 40), (7, .int 0)]) [6, 5, 4, 3, 2, 1, 0] rfl ?_
      exact w_L_isQuick_111 C FU _ _ _ hf
  · replace hf := ifF c_1 hf
    refine ww_iload C dL_isQuick_52 0 rfl ?_
    refine ww_if_ge (tgt := 84) C dL_isQuick_54 (by decide) (fun c_4 => ?_) (fun c_4 => ?_)
    · replace hf := ifT c_4 hf
      refine ww_iconst (v := 0) C dL_isQuick_84 (by decide) ?_
      obtain rfl := Option.some.inj hf
      exact ww_zret C (nar_b false) ⟨rfl, rfl⟩ dL_isQuick_85
    · replace hf := ifF c_4 hf
      refine ww_aload_n C dL_isQuick_57 rfl 4 rfl ?_
      refine ww_iload_n C dL_isQuick_58 rfl 3 rfl ?_
      refine ww_iload C dL_isQuick_59 1 rfl ?_
      refine ww_iconst (v := 0) C dL_isQuick_61 (by decide) ?_
      obtain ⟨p62, hp62, hf⟩ := bdE hf
      refine ww_callV C (As := [.int p6, .int p27, .int 0]) (st := []) (gr := [wSight E a2 p15.2]) (c_X8_hiding (E := E) (a0 := a0) (h0_1 := h0_1) (h0_2 := h0_2) (h0_3 := a2 0) (h0_4 := h0_4) (h0_5 := h0_5) (h0_7 := h0_7) (h0_8 := h0_8) (h0_9 := h0_9) (a1 := a1) (a2 := a3) hp62) gL_isQuick_X8_hiding rfl yk_X8_hiding ⟨by decide, Nat.le_of_ble_eq_true rfl⟩ ⟨by decide, by decide⟩ clOK8 0 0 rfl rfl [0, 1, 3] [2] 4 rfl (by decide) rfl rfl (Nat.le_of_ble_eq_true rfl) dL_isQuick_62 ?_
      rintro _ _ ⟨rfl, rfl⟩
      refine ww_perm (gs' := [wGW E a0 (rf10 (a1 0) h0_1 h0_2 (a2 0) h0_4 h0_5 (a3 0) h0_7 h0_8 h0_9) v0, wHouse E a1 v1, wSight E a2 p15.2, wIntr E a3 p62.2]) [0, 1, 3, 2] 4 rfl (by decide) rfl ?_
      refine ww_if_ne (tgt := 84) C dL_isQuick_65 (by decide) (fun c_5 => ?_) (fun c_5 => ?_)
      · replace hf := ifF c_5 hf
        refine ww_iconst (v := 0) C dL_isQuick_84 (by decide) ?_
        obtain rfl := Option.some.inj hf
        exact ww_zret C (nar_b false) ⟨rfl, rfl⟩ dL_isQuick_85
      · replace hf := ifT c_5 hf
        refine ww_aload_n C dL_isQuick_68 rfl 4 rfl ?_
        refine ww_iload_n C dL_isQuick_69 rfl 3 rfl ?_
        refine ww_iload C dL_isQuick_70 1 rfl ?_
        refine ww_bipush (v := 9) C dL_isQuick_72 (by decide) ?_
        obtain ⟨p74, hp74, hf⟩ := bdE hf
        refine ww_callV C (As := [.int p6, .int p27, .int 9]) (st := []) (gr := [wSight E a2 p15.2]) (c_X8_hiding (E := E) (a0 := a0) (h0_1 := h0_1) (h0_2 := h0_2) (h0_3 := a2 0) (h0_4 := h0_4) (h0_5 := h0_5) (h0_7 := h0_7) (h0_8 := h0_8) (h0_9 := h0_9) (a1 := a1) (a2 := a3) hp74) gL_isQuick_X8_hiding rfl yk_X8_hiding ⟨by decide, Nat.le_of_ble_eq_true rfl⟩ ⟨by decide, by decide⟩ clOK8 0 0 rfl rfl [0, 1, 3] [2] 4 rfl (by decide) rfl rfl (Nat.le_of_ble_eq_true rfl) dL_isQuick_74 ?_
        rintro _ _ ⟨rfl, rfl⟩
        refine ww_perm (gs' := [wGW E a0 (rf10 (a1 0) h0_1 h0_2 (a2 0) h0_4 h0_5 (a3 0) h0_7 h0_8 h0_9) v0, wHouse E a1 v1, wSight E a2 p15.2, wIntr E a3 p74.2]) [0, 1, 3, 2] 4 rfl (by decide) rfl ?_
        refine ww_if_ne (tgt := 84) C dL_isQuick_77 (by decide) (fun c_6 => ?_) (fun c_6 => ?_)
        · replace hf := ifF c_6 hf
          refine ww_iconst (v := 0) C dL_isQuick_84 (by decide) ?_
          obtain rfl := Option.some.inj hf
          exact ww_zret C (nar_b false) ⟨rfl, rfl⟩ dL_isQuick_85
        · replace hf := ifT c_6 hf
          refine ww_iconst (v := 1) C dL_isQuick_80 (by decide) ?_
          refine ww_goto (tgt := 85) C dL_isQuick_81 (by decide) ?_
          obtain rfl := Option.some.inj hf
          exact ww_zret C (nar_b true) ⟨rfl, rfl⟩ dL_isQuick_85

theorem ysk_L_isQuick : yL_isQuick.cls ≠ "java/lang/invoke/MethodHandle" ∧ yL_isQuick.cls ≠ "java/lang/invoke/VarHandle" ∧ (parseMethodDescriptor yL_isQuick.desc).map (fun d => d.parameters.length) = some 2 := by decide +kernel
abbrev rmL_isSound : Room := { frames := 7, cells := 0, slots := 0, locals := 174 }
set_option maxHeartbeats 4000000 in
set_option maxRecDepth 100000 in
theorem w_L_isSound_231 {E : Ex} {K : Kx} (C : Cx E K cL_isSound 10 (some .boolean) RL wsL_isSound rmL_isSound) {a0 : Nat → Nat} {a1 : Nat → Nat} {a2 : Nat → Nat} {a3 : Nat → Nat} {h0_1 h0_2 h0_4 h0_5 h0_7 h0_8 h0_9 : Nat} {x1 : Int32} {v0 : GWV} {v1 : HouseV}   {x2 : Int32} {x3 : Int32} {x4 : Int32} {v2 : SightV} {v3 : IntrV} {k11 : Int32 → Int32 → SightV → IntrV → Option (Bool × SightV × IntrV)} {r : (Bool × SightV × IntrV)} (hk11 : ∀  (x3 : Int32) (x4 : Int32) (v2 : SightV) (v3 : IntrV), k11 x3 x4 v2 v3 = some r → WW E K 0 0 (QQ E K (fun rv g => rv = some (.int (b2i r.1)) ∧ g = [wGW E a0 (rf10 (a1 0) h0_1 h0_2 (a2 0) h0_4 h0_5 (a3 0) h0_7 h0_8 h0_9) v0, wHouse E a1 v1, wSight E a2 r.2.1, wIntr E a3 r.2.2]) 0 0) 11 [(0, .ref (a0 0)), (1, .int x1), (2, .int x2), (3, .int x3), (4, .int x4)] [] [wGW E a0 (rf10 (a1 0) h0_1 h0_2 (a2 0) h0_4 h0_5 (a3 0) h0_7 h0_8 h0_9) v0, wHouse E a1 v1, wSight E a2 v2, wIntr E a3 v3]) (hf : L_isSound_231 x1 v0 v1 k11 x2 x3 x4 v2 v3 = some r) : WW E K 0 0 (QQ E K (fun rv g => rv = some (.int (b2i r.1)) ∧ g = [wGW E a0 (rf10 (a1 0) h0_1 h0_2 (a2 0) h0_4 h0_5 (a3 0) h0_7 h0_8 h0_9) v0, wHouse E a1 v1, wSight E a2 r.2.1, wIntr E a3 r.2.2]) 0 0) 231 [(0, .ref (a0 0)), (1, .int x1), (2, .int x2), (3, .int x3), (4, .int x4)] [] [wGW E a0 (rf10 (a1 0) h0_1 h0_2 (a2 0) h0_4 h0_5 (a3 0) h0_7 h0_8 h0_9) v0, wHouse E a1 v1, wSight E a2 v2, wIntr E a3 v3] := by
  rw [L_isSound_231] at hf
  refine ww_aload_n C dL_isSound_231 rfl 0 rfl ?_
  refine ww_iload C dL_isSound_232 4 rfl ?_
  refine ww_bipush (v := 6) C dL_isSound_234 (by decide) ?_
  obtain ⟨p236, hp236, hf⟩ := bdE hf
  refine ww_callV C (As := [.int x4, .int 6]) (st := []) (gr := [wIntr E a3 v3]) (c_X8_room (E := E) (a0 := a0) (h0_1 := h0_1) (h0_2 := h0_2) (h0_4 := h0_4) (h0_5 := h0_5) (h0_6 := a3 0) (h0_7 := h0_7) (h0_8 := h0_8) (h0_9 := h0_9) (a1 := a1) (a2 := a2) hp236) gL_isSound_X8_room rfl yk_X8_room ⟨by decide, Nat.le_of_ble_eq_true rfl⟩ ⟨by decide, by decide⟩ clOK8 0 0 rfl rfl [0, 1, 2] [3] 4 rfl (by decide) rfl rfl (Nat.le_of_ble_eq_true rfl) dL_isSound_236 ?_
  rintro _ _ ⟨rfl, rfl⟩
  refine ww_perm (gs' := [wGW E a0 (rf10 (a1 0) h0_1 h0_2 (a2 0) h0_4 h0_5 (a3 0) h0_7 h0_8 h0_9) v0, wHouse E a1 v1, wSight E a2 p236.2, wIntr E a3 v3]) [0, 1, 2, 3] 4 rfl (by decide) rfl ?_
  refine ww_aload_n C dL_isSound_239 rfl 0 rfl ?_
  refine ww_iload C dL_isSound_240 4 rfl ?_
  refine ww_bipush (v := 7) C dL_isSound_242 (by decide) ?_
  obtain ⟨p244, hp244, hf⟩ := bdE hf
  refine ww_callV C (As := [.int x4, .int 7]) (st := [.int p236.1]) (gr := [wIntr E a3 v3]) (c_X8_room (E := E) (a0 := a0) (h0_1 := h0_1) (h0_2 := h0_2) (h0_4 := h0_4) (h0_5 := h0_5) (h0_6 := a3 0) (h0_7 := h0_7) (h0_8 := h0_8) (h0_9 := h0_9) (a1 := a1) (a2 := a2) hp244) gL_isSound_X8_room rfl yk_X8_room ⟨by decide, Nat.le_of_ble_eq_true rfl⟩ ⟨by decide, by decide⟩ clOK8 0 0 rfl rfl [0, 1, 2] [3] 4 rfl (by decide) rfl rfl (Nat.le_of_ble_eq_true rfl) dL_isSound_244 ?_
  rintro _ _ ⟨rfl, rfl⟩
  refine ww_perm (gs' := [wGW E a0 (rf10 (a1 0) h0_1 h0_2 (a2 0) h0_4 h0_5 (a3 0) h0_7 h0_8 h0_9) v0, wHouse E a1 v1, wSight E a2 p244.2, wIntr E a3 v3]) [0, 1, 2, 3] 4 rfl (by decide) rfl ?_
  refine ww_icmp_gt (tgt := 265) C dL_isSound_247 (by decide) (fun c_21 => ?_) (fun c_21 => ?_)
  · replace hf := ifT c_21 hf
    refine ww_iconst (v := 0) C dL_isSound_265 (by decide) ?_
    obtain rfl := Option.some.inj hf
    exact ww_zret C (nar_b false) ⟨rfl, rfl⟩ dL_isSound_266
  · replace hf := ifF c_21 hf
    refine ww_aload_n C dL_isSound_250 rfl 0 rfl ?_
    refine ww_iload C dL_isSound_251 4 rfl ?_
    refine ww_iconst (v := 5) C dL_isSound_253 (by decide) ?_
    obtain ⟨p254, hp254, hf⟩ := bdE hf
    refine ww_callV C (As := [.int x4, .int 5]) (st := []) (gr := [wIntr E a3 v3]) (c_X8_room (E := E) (a0 := a0) (h0_1 := h0_1) (h0_2 := h0_2) (h0_4 := h0_4) (h0_5 := h0_5) (h0_6 := a3 0) (h0_7 := h0_7) (h0_8 := h0_8) (h0_9 := h0_9) (a1 := a1) (a2 := a2) hp254) gL_isSound_X8_room rfl yk_X8_room ⟨by decide, Nat.le_of_ble_eq_true rfl⟩ ⟨by decide, by decide⟩ clOK8 0 0 rfl rfl [0, 1, 2] [3] 4 rfl (by decide) rfl rfl (Nat.le_of_ble_eq_true rfl) dL_isSound_254 ?_
    rintro _ _ ⟨rfl, rfl⟩
    refine ww_perm (gs' := [wGW E a0 (rf10 (a1 0) h0_1 h0_2 (a2 0) h0_4 h0_5 (a3 0) h0_7 h0_8 h0_9) v0, wHouse E a1 v1, wSight E a2 p254.2, wIntr E a3 v3]) [0, 1, 2, 3] 4 rfl (by decide) rfl ?_
    refine ww_aload_n C dL_isSound_257 rfl 0 rfl ?_
    refine ww_iconst (v := 4) C dL_isSound_258 (by decide) ?_
    obtain ⟨p259, hp259, hf⟩ := bdE hf
    refine ww_callV C (As := [.int 4]) (st := [.int p254.1]) (gr := [wIntr E a3 v3]) (c_X8_size (E := E) (a0 := a0) (h0_1 := h0_1) (h0_2 := h0_2) (h0_4 := h0_4) (h0_5 := h0_5) (h0_6 := a3 0) (h0_7 := h0_7) (h0_8 := h0_8) (h0_9 := h0_9) (a1 := a1) (a2 := a2) hp259) gL_isSound_X8_size rfl yk_X8_size ⟨by decide, Nat.le_of_ble_eq_true rfl⟩ ⟨by decide, by decide⟩ clOK8 0 0 rfl rfl [0, 1, 2] [3] 4 rfl (by decide) rfl rfl (Nat.le_of_ble_eq_true rfl) dL_isSound_259 ?_
    rintro _ _ ⟨rfl, rfl⟩
    refine ww_perm (gs' := [wGW E a0 (rf10 (a1 0) h0_1 h0_2 (a2 0) h0_4 h0_5 (a3 0) h0_7 h0_8 h0_9) v0, wHouse E a1 v1, wSight E a2 p259.2, wIntr E a3 v3]) [0, 1, 2, 3] 4 rfl (by decide) rfl ?_
    refine ww_icmp_lt (tgt := 267) C dL_isSound_262 (by decide) (fun c_22 => ?_) (fun c_22 => ?_)
    · replace hf := ifT c_22 hf
      obtain ⟨x4_267, e_x4_267⟩ : ∃ y : Int32, y = x4 + 1 := ⟨_, rfl⟩
      replace hf := ltE e_x4_267 hf
      refine ww_iinc (v := x4_267) (lv' := [(4, .int x4_267), (0, .ref (a0 0)), (1, .int x1), (2, .int x2), (3, .int x3)]) C dL_isSound_267 4 rfl (by rw [e_x4_267]; rfl) (by decide) rfl ?_
      refine ww_goto (tgt := 11) C dL_isSound_270 (by decide) ?_
      refine ww_sub C (lv' := [(0, .ref (a0 0)), (1, .int x1), (2, .int x2), (3, .int x3), (4, .int x4_267)]) [1, 2, 3, 4, 0] rfl ?_
      exact hk11 _ _ _ _ hf
    · replace hf := ifF c_22 hf
      refine ww_iconst (v := 0) C dL_isSound_265 (by decide) ?_
      obtain rfl := Option.some.inj hf
      exact ww_zret C (nar_b false) ⟨rfl, rfl⟩ dL_isSound_266

set_option maxHeartbeats 4000000 in
set_option maxRecDepth 100000 in
theorem w_L_isSound_150 {E : Ex} {K : Kx} (C : Cx E K cL_isSound 10 (some .boolean) RL wsL_isSound rmL_isSound) {a0 : Nat → Nat} {a1 : Nat → Nat} {a2 : Nat → Nat} {a3 : Nat → Nat} {h0_1 h0_2 h0_4 h0_5 h0_7 h0_8 h0_9 : Nat} {x1 : Int32} {v0 : GWV} {v1 : HouseV} {x2 : Int32} {x3 : Int32} {x4 : Int32} {x5 : Int32} {x6 : Int32} {k11 : Int32 → Int32 → SightV → IntrV → Option (Bool × SightV × IntrV)} {r : (Bool × SightV × IntrV)} (hk11 : ∀  (x3 : Int32) (x4 : Int32) (v2 : SightV) (v3 : IntrV), k11 x3 x4 v2 v3 = some r → WW E K 0 0 (QQ E K (fun rv g => rv = some (.int (b2i r.1)) ∧ g = [wGW E a0 (rf10 (a1 0) h0_1 h0_2 (a2 0) h0_4 h0_5 (a3 0) h0_7 h0_8 h0_9) v0, wHouse E a1 v1, wSight E a2 r.2.1, wIntr E a3 r.2.2]) 0 0) 11 [(0, .ref (a0 0)), (1, .int x1), (2, .int x2), (3, .int x3), (4, .int x4)] [] [wGW E a0 (rf10 (a1 0) h0_1 h0_2 (a2 0) h0_4 h0_5 (a3 0) h0_7 h0_8 h0_9) v0, wHouse E a1 v1, wSight E a2 v2, wIntr E a3 v3]) : ∀ (n : Nat)  (x7 : Int32) (v2 : SightV) (v3 : IntrV), L_isSound_150 x1 v0 v1 x2 x3 x4 x5 x6 k11 n x7 v2 v3 = some r → WW E K 0 0 (QQ E K (fun rv g => rv = some (.int (b2i r.1)) ∧ g = [wGW E a0 (rf10 (a1 0) h0_1 h0_2 (a2 0) h0_4 h0_5 (a3 0) h0_7 h0_8 h0_9) v0, wHouse E a1 v1, wSight E a2 r.2.1, wIntr E a3 r.2.2]) 0 0) 150 [(0, .ref (a0 0)), (1, .int x1), (2, .int x2), (3, .int x3), (4, .int x4), (5, .int x5), (6, .int x6), (7, .int x7)] [] [wGW E a0 (rf10 (a1 0) h0_1 h0_2 (a2 0) h0_4 h0_5 (a3 0) h0_7 h0_8 h0_9) v0, wHouse E a1 v1, wSight E a2 v2, wIntr E a3 v3] := by
  intro n
  induction n with
  | zero =>
    intro  x7 v2 v3 hf
    simp [L_isSound_150] at hf
  | succ n ih =>
    intro  x7 v2 v3 hf
    rw [L_isSound_150] at hf
    refine ww_iload C dL_isSound_150 7 rfl ?_
    refine ww_iload C dL_isSound_152 5 rfl ?_
    refine ww_icmp_ge (tgt := 179) C dL_isSound_154 (by decide) (fun c_15 => ?_) (fun c_15 => ?_)
    · replace hf := ifT c_15 hf
      refine ww_iload C dL_isSound_179 5 rfl ?_
      refine ww_if_le (tgt := 231) C dL_isSound_181 (by decide) (fun c_16 => ?_) (fun c_16 => ?_)
      · replace hf := ifT c_16 hf
        refine ww_sub C (lv' := [(0, .ref (a0 0)), (1, .int x1), (2, .int x2), (3, .int x3), (4, .int x4)]) [0, 1, 2, 3, 4] rfl ?_
        exact w_L_isSound_231 C (k11 := k11) hk11 hf
      · replace hf := ifF c_16 hf
        refine ww_aload_n C dL_isSound_184 rfl 0 rfl ?_
        refine ww_iload C dL_isSound_185 4 rfl ?_
        refine ww_iload C dL_isSound_187 6 rfl ?_
        refine ww_iload C dL_isSound_189 5 rfl ?_
        refine ww_iadd C dL_isSound_191 ?_
        obtain ⟨p192, hp192, hf⟩ := bdE hf
        refine ww_callV C (As := [.int x4, .int (x6 + x5)]) (st := []) (gr := [wSight E a2 v2, wIntr E a3 v3]) (c_X8_guardsIn (E := E) (a0 := a0) (h0_1 := h0_1) (h0_2 := h0_2) (h0_3 := a2 0) (h0_4 := h0_4) (h0_5 := h0_5) (h0_6 := a3 0) (h0_7 := h0_7) (h0_8 := h0_8) (h0_9 := h0_9) (a1 := a1) hp192) gL_isSound_X8_guardsIn rfl yk_X8_guardsIn ⟨by decide, Nat.le_of_ble_eq_true rfl⟩ ⟨by decide, by decide⟩ clOK8 0 0 rfl rfl [0, 1] [2, 3] 4 rfl (by decide) rfl rfl (Nat.le_of_ble_eq_true rfl) dL_isSound_192 ?_
        rintro _ _ ⟨rfl, rfl⟩
        refine ww_perm (gs' := [wGW E a0 (rf10 (a1 0) h0_1 h0_2 (a2 0) h0_4 h0_5 (a3 0) h0_7 h0_8 h0_9) v0, wHouse E a1 v1, wSight E a2 v2, wIntr E a3 v3]) [0, 1, 2, 3] 4 rfl (by decide) rfl ?_
        refine ww_if_eq (tgt := 229) C dL_isSound_195 (by decide) (fun c_17 => ?_) (fun c_17 => ?_)
        · replace hf := ifT c_17 hf
          refine ww_iconst (v := 0) C dL_isSound_229 (by decide) ?_
          obtain rfl := Option.some.inj hf
          exact ww_zret C (nar_b false) ⟨rfl, rfl⟩ dL_isSound_230
        · replace hf := ifF c_17 hf
          refine ww_aload_n C dL_isSound_198 rfl 0 rfl ?_
          refine ww_iload C dL_isSound_199 4 rfl ?_
          refine ww_iload C dL_isSound_201 6 rfl ?_
          refine ww_iload_n C dL_isSound_203 rfl 2 rfl ?_
          refine ww_iadd C dL_isSound_204 ?_
          refine ww_iconst (v := 1) C dL_isSound_205 (by decide) ?_
          refine ww_isub C dL_isSound_206 ?_
          obtain ⟨p207, hp207, hf⟩ := bdE hf
          refine ww_callV C (As := [.int x4, .int ((x6 + x2) - 1)]) (st := []) (gr := [wSight E a2 v2, wIntr E a3 v3]) (c_X8_guardsIn (E := E) (a0 := a0) (h0_1 := h0_1) (h0_2 := h0_2) (h0_3 := a2 0) (h0_4 := h0_4) (h0_5 := h0_5) (h0_6 := a3 0) (h0_7 := h0_7) (h0_8 := h0_8) (h0_9 := h0_9) (a1 := a1) hp207) gL_isSound_X8_guardsIn rfl yk_X8_guardsIn ⟨by decide, Nat.le_of_ble_eq_true rfl⟩ ⟨by decide, by decide⟩ clOK8 0 0 rfl rfl [0, 1] [2, 3] 4 rfl (by decide) rfl rfl (Nat.le_of_ble_eq_true rfl) dL_isSound_207 ?_
          rintro _ _ ⟨rfl, rfl⟩
          refine ww_perm (gs' := [wGW E a0 (rf10 (a1 0) h0_1 h0_2 (a2 0) h0_4 h0_5 (a3 0) h0_7 h0_8 h0_9) v0, wHouse E a1 v1, wSight E a2 v2, wIntr E a3 v3]) [0, 1, 2, 3] 4 rfl (by decide) rfl ?_
          refine ww_if_eq (tgt := 229) C dL_isSound_210 (by decide) (fun c_18 => ?_) (fun c_18 => ?_)
          · replace hf := ifT c_18 hf
            refine ww_iconst (v := 0) C dL_isSound_229 (by decide) ?_
            obtain rfl := Option.some.inj hf
            exact ww_zret C (nar_b false) ⟨rfl, rfl⟩ dL_isSound_230
          · replace hf := ifF c_18 hf
            refine ww_aload_n C dL_isSound_213 rfl 0 rfl ?_
            refine ww_iload C dL_isSound_214 4 rfl ?_
            refine ww_iload C dL_isSound_216 6 rfl ?_
            obtain ⟨p218, hp218, hf⟩ := bdE hf
            refine ww_callV C (As := [.int x4, .int x6]) (st := []) (gr := [wSight E a2 v2, wIntr E a3 v3]) (c_X8_nextSeen (E := E) (a0 := a0) (h0_1 := h0_1) (h0_2 := h0_2) (h0_3 := a2 0) (h0_4 := h0_4) (h0_5 := h0_5) (h0_6 := a3 0) (h0_7 := h0_7) (h0_8 := h0_8) (h0_9 := h0_9) (a1 := a1) hp218) gL_isSound_X8_nextSeen rfl yk_X8_nextSeen ⟨by decide, Nat.le_of_ble_eq_true rfl⟩ ⟨by decide, by decide⟩ clOK8 0 0 rfl rfl [0, 1] [2, 3] 4 rfl (by decide) rfl rfl (Nat.le_of_ble_eq_true rfl) dL_isSound_218 ?_
            rintro _ _ ⟨rfl, rfl⟩
            refine ww_perm (gs' := [wGW E a0 (rf10 (a1 0) h0_1 h0_2 (a2 0) h0_4 h0_5 (a3 0) h0_7 h0_8 h0_9) v0, wHouse E a1 v1, wSight E a2 v2, wIntr E a3 v3]) [0, 1, 2, 3] 4 rfl (by decide) rfl ?_
            refine ww_iload C dL_isSound_221 6 rfl ?_
            refine ww_iload C dL_isSound_223 5 rfl ?_
            refine ww_iadd C dL_isSound_225 ?_
            refine ww_icmp_eq (tgt := 231) C dL_isSound_226 (by decide) (fun c_19 => ?_) (fun c_19 => ?_)
            · replace hf := ifT c_19 hf
              refine ww_sub C (lv' := [(0, .ref (a0 0)), (1, .int x1), (2, .int x2), (3, .int x3), (4, .int x4)]) [0, 1, 2, 3, 4] rfl ?_
              exact w_L_isSound_231 C (k11 := k11) hk11 hf
            · replace hf := ifF c_19 hf
              refine ww_iconst (v := 0) C dL_isSound_229 (by decide) ?_
              obtain rfl := Option.some.inj hf
              exact ww_zret C (nar_b false) ⟨rfl, rfl⟩ dL_isSound_230
    · replace hf := ifF c_15 hf
      refine ww_aload_n C dL_isSound_157 rfl 0 rfl ?_
      refine ww_iload C dL_isSound_158 4 rfl ?_
      refine ww_iload C dL_isSound_160 6 rfl ?_
      refine ww_iload C dL_isSound_162 7 rfl ?_
      refine ww_iadd C dL_isSound_164 ?_
      obtain ⟨p165, hp165, hf⟩ := bdE hf
      refine ww_callV C (As := [.int x4, .int (x6 + x7)]) (st := []) (gr := [wSight E a2 v2, wIntr E a3 v3]) (c_X8_guardsIn (E := E) (a0 := a0) (h0_1 := h0_1) (h0_2 := h0_2) (h0_3 := a2 0) (h0_4 := h0_4) (h0_5 := h0_5) (h0_6 := a3 0) (h0_7 := h0_7) (h0_8 := h0_8) (h0_9 := h0_9) (a1 := a1) hp165) gL_isSound_X8_guardsIn rfl yk_X8_guardsIn ⟨by decide, Nat.le_of_ble_eq_true rfl⟩ ⟨by decide, by decide⟩ clOK8 0 0 rfl rfl [0, 1] [2, 3] 4 rfl (by decide) rfl rfl (Nat.le_of_ble_eq_true rfl) dL_isSound_165 ?_
      rintro _ _ ⟨rfl, rfl⟩
      refine ww_perm (gs' := [wGW E a0 (rf10 (a1 0) h0_1 h0_2 (a2 0) h0_4 h0_5 (a3 0) h0_7 h0_8 h0_9) v0, wHouse E a1 v1, wSight E a2 v2, wIntr E a3 v3]) [0, 1, 2, 3] 4 rfl (by decide) rfl ?_
      refine ww_if_eq (tgt := 173) C dL_isSound_168 (by decide) (fun c_20 => ?_) (fun c_20 => ?_)
      · replace hf := ifT c_20 hf
        obtain ⟨x7_173, e_x7_173⟩ : ∃ y : Int32, y = x7 + 1 := ⟨_, rfl⟩
        replace hf := ltE e_x7_173 hf
        refine ww_iinc (v := x7_173) (lv' := [(7, .int x7_173), (0, .ref (a0 0)), (1, .int x1), (2, .int x2), (3, .int x3), (4, .int x4), (5, .int x5), (6, .int x6)]) C dL_isSound_173 7 rfl (by rw [e_x7_173]; rfl) (by decide) rfl ?_
        refine ww_goto (tgt := 150) C dL_isSound_176 (by decide) ?_
        refine ww_sub C (lv' := [(0, .ref (a0 0)), (1, .int x1), (2, .int x2), (3, .int x3), (4, .int x4), (5, .int x5), (6, .int x6), (7, .int x7_173)]) [1, 2, 3, 4, 5, 6, 7, 0] rfl ?_
        exact ih _ _ _ hf
      · replace hf := ifF c_20 hf
        refine ww_iconst (v := 0) C dL_isSound_171 (by decide) ?_
        obtain rfl := Option.some.inj hf
        exact ww_zret C (nar_b false) ⟨rfl, rfl⟩ dL_isSound_172

set_option maxHeartbeats 4000000 in
set_option maxRecDepth 100000 in
theorem w_L_isSound_142 {E : Ex} {K : Kx} (C : Cx E K cL_isSound 10 (some .boolean) RL wsL_isSound rmL_isSound) {a0 : Nat → Nat} {a1 : Nat → Nat} {a2 : Nat → Nat} {a3 : Nat → Nat} {h0_1 h0_2 h0_4 h0_5 h0_7 h0_8 h0_9 : Nat} {x1 : Int32} {v0 : GWV} {v1 : HouseV}   {x2 : Int32} {x3 : Int32} {x4 : Int32} {x5 : Int32} {x6 : Int32} {s0 : Int32} {s1 : Int32} {v2 : SightV} {v3 : IntrV} {k11 : Int32 → Int32 → SightV → IntrV → Option (Bool × SightV × IntrV)} {r : (Bool × SightV × IntrV)} (hk11 : ∀  (x3 : Int32) (x4 : Int32) (v2 : SightV) (v3 : IntrV), k11 x3 x4 v2 v3 = some r → WW E K 0 0 (QQ E K (fun rv g => rv = some (.int (b2i r.1)) ∧ g = [wGW E a0 (rf10 (a1 0) h0_1 h0_2 (a2 0) h0_4 h0_5 (a3 0) h0_7 h0_8 h0_9) v0, wHouse E a1 v1, wSight E a2 r.2.1, wIntr E a3 r.2.2]) 0 0) 11 [(0, .ref (a0 0)), (1, .int x1), (2, .int x2), (3, .int x3), (4, .int x4)] [] [wGW E a0 (rf10 (a1 0) h0_1 h0_2 (a2 0) h0_4 h0_5 (a3 0) h0_7 h0_8 h0_9) v0, wHouse E a1 v1, wSight E a2 v2, wIntr E a3 v3]) (hf : L_isSound_142 x1 v0 v1 k11 x2 x3 x4 x5 x6 s0 s1 v2 v3 = some r) : WW E K 0 0 (QQ E K (fun rv g => rv = some (.int (b2i r.1)) ∧ g = [wGW E a0 (rf10 (a1 0) h0_1 h0_2 (a2 0) h0_4 h0_5 (a3 0) h0_7 h0_8 h0_9) v0, wHouse E a1 v1, wSight E a2 r.2.1, wIntr E a3 r.2.2]) 0 0) 142 [(0, .ref (a0 0)), (1, .int x1), (2, .int x2), (3, .int x3), (4, .int x4), (5, .int x5), (6, .int x6)] [.int s0, .int s1] [wGW E a0 (rf10 (a1 0) h0_1 h0_2 (a2 0) h0_4 h0_5 (a3 0) h0_7 h0_8 h0_9) v0, wHouse E a1 v1, wSight E a2 v2, wIntr E a3 v3] := by
  rw [L_isSound_142] at hf
  refine ww_icmp_eq (tgt := 147) C dL_isSound_142 (by decide) (fun c_14 => ?_) (fun c_14 => ?_)
  · replace hf := ifT c_14 hf
    refine ww_iconst (v := 0) C dL_isSound_147 (by decide) ?_
    refine ww_istore (lv' := [(7, .int 0), (0, .ref (a0 0)), (1, .int x1), (2, .int x2), (3, .int x3), (4, .int x4), (5, .int x5), (6, .int x6)]) C dL_isSound_148 (by decide) rfl ?_
    refine ww_sub C (lv' := [(0, .ref (a0 0)), (1, .int x1), (2, .int x2), (3, .int x3), (4, .int x4), (5, .int x5), (6, .int x6), (7, .int 0)]) [1, 2, 3, 4, 5, 6, 7, 0] rfl ?_
    exact w_L_isSound_150 C (k11 := k11) hk11 FU _ _ _ hf
  · replace hf := ifF c_14 hf
    refine ww_iconst (v := 0) C dL_isSound_145 (by decide) ?_
    obtain rfl := Option.some.inj hf
    exact ww_zret C (nar_b false) ⟨rfl, rfl⟩ dL_isSound_146

set_option maxHeartbeats 4000000 in
set_option maxRecDepth 100000 in
theorem w_L_isSound_137 {E : Ex} {K : Kx} (C : Cx E K cL_isSound 10 (some .boolean) RL wsL_isSound rmL_isSound) {a0 : Nat → Nat} {a1 : Nat → Nat} {a2 : Nat → Nat} {a3 : Nat → Nat} {h0_1 h0_2 h0_4 h0_5 h0_7 h0_8 h0_9 : Nat} {x1 : Int32} {v0 : GWV} {v1 : HouseV}   {x2 : Int32} {x3 : Int32} {x4 : Int32} {x5 : Int32} {x6 : Int32} {s0 : Int32} {v2 : SightV} {v3 : IntrV} {k11 : Int32 → Int32 → SightV → IntrV → Option (Bool × SightV × IntrV)} {r : (Bool × SightV × IntrV)} (hk11 : ∀  (x3 : Int32) (x4 : Int32) (v2 : SightV) (v3 : IntrV), k11 x3 x4 v2 v3 = some r → WW E K 0 0 (QQ E K (fun rv g => rv = some (.int (b2i r.1)) ∧ g = [wGW E a0 (rf10 (a1 0) h0_1 h0_2 (a2 0) h0_4 h0_5 (a3 0) h0_7 h0_8 h0_9) v0, wHouse E a1 v1, wSight E a2 r.2.1, wIntr E a3 r.2.2]) 0 0) 11 [(0, .ref (a0 0)), (1, .int x1), (2, .int x2), (3, .int x3), (4, .int x4)] [] [wGW E a0 (rf10 (a1 0) h0_1 h0_2 (a2 0) h0_4 h0_5 (a3 0) h0_7 h0_8 h0_9) v0, wHouse E a1 v1, wSight E a2 v2, wIntr E a3 v3]) (hf : L_isSound_137 x1 v0 v1 k11 x2 x3 x4 x5 x6 s0 v2 v3 = some r) : WW E K 0 0 (QQ E K (fun rv g => rv = some (.int (b2i r.1)) ∧ g = [wGW E a0 (rf10 (a1 0) h0_1 h0_2 (a2 0) h0_4 h0_5 (a3 0) h0_7 h0_8 h0_9) v0, wHouse E a1 v1, wSight E a2 r.2.1, wIntr E a3 r.2.2]) 0 0) 137 [(0, .ref (a0 0)), (1, .int x1), (2, .int x2), (3, .int x3), (4, .int x4), (5, .int x5), (6, .int x6)] [.int s0] [wGW E a0 (rf10 (a1 0) h0_1 h0_2 (a2 0) h0_4 h0_5 (a3 0) h0_7 h0_8 h0_9) v0, wHouse E a1 v1, wSight E a2 v2, wIntr E a3 v3] := by
  rw [L_isSound_137] at hf
  refine ww_iconst (v := 1) C dL_isSound_137 (by decide) ?_
  refine ww_goto (tgt := 142) C dL_isSound_138 (by decide) ?_
  refine ww_sub C (lv' := [(0, .ref (a0 0)), (1, .int x1), (2, .int x2), (3, .int x3), (4, .int x4), (5, .int x5), (6, .int x6)]) [0, 1, 2, 3, 4, 5, 6] rfl ?_
  exact w_L_isSound_142 C (k11 := k11) hk11 hf

set_option maxHeartbeats 4000000 in
set_option maxRecDepth 100000 in
theorem w_L_isSound_120 {E : Ex} {K : Kx} (C : Cx E K cL_isSound 10 (some .boolean) RL wsL_isSound rmL_isSound) {a0 : Nat → Nat} {a1 : Nat → Nat} {a2 : Nat → Nat} {a3 : Nat → Nat} {h0_1 h0_2 h0_4 h0_5 h0_7 h0_8 h0_9 : Nat} {x1 : Int32} {v0 : GWV} {v1 : HouseV}   {x2 : Int32} {x3 : Int32} {x4 : Int32} {x5 : Int32} {x6 : Int32} {s0 : Int32} {v2 : SightV} {v3 : IntrV} {k11 : Int32 → Int32 → SightV → IntrV → Option (Bool × SightV × IntrV)} {r : (Bool × SightV × IntrV)} (hk11 : ∀  (x3 : Int32) (x4 : Int32) (v2 : SightV) (v3 : IntrV), k11 x3 x4 v2 v3 = some r → WW E K 0 0 (QQ E K (fun rv g => rv = some (.int (b2i r.1)) ∧ g = [wGW E a0 (rf10 (a1 0) h0_1 h0_2 (a2 0) h0_4 h0_5 (a3 0) h0_7 h0_8 h0_9) v0, wHouse E a1 v1, wSight E a2 r.2.1, wIntr E a3 r.2.2]) 0 0) 11 [(0, .ref (a0 0)), (1, .int x1), (2, .int x2), (3, .int x3), (4, .int x4)] [] [wGW E a0 (rf10 (a1 0) h0_1 h0_2 (a2 0) h0_4 h0_5 (a3 0) h0_7 h0_8 h0_9) v0, wHouse E a1 v1, wSight E a2 v2, wIntr E a3 v3]) (hf : L_isSound_120 x1 v0 v1 k11 x2 x3 x4 x5 x6 s0 v2 v3 = some r) : WW E K 0 0 (QQ E K (fun rv g => rv = some (.int (b2i r.1)) ∧ g = [wGW E a0 (rf10 (a1 0) h0_1 h0_2 (a2 0) h0_4 h0_5 (a3 0) h0_7 h0_8 h0_9) v0, wHouse E a1 v1, wSight E a2 r.2.1, wIntr E a3 r.2.2]) 0 0) 120 [(0, .ref (a0 0)), (1, .int x1), (2, .int x2), (3, .int x3), (4, .int x4), (5, .int x5), (6, .int x6)] [.int s0] [wGW E a0 (rf10 (a1 0) h0_1 h0_2 (a2 0) h0_4 h0_5 (a3 0) h0_7 h0_8 h0_9) v0, wHouse E a1 v1, wSight E a2 v2, wIntr E a3 v3] := by
  rw [L_isSound_120] at hf
  refine ww_iload C dL_isSound_120 5 rfl ?_
  refine ww_if_lt (tgt := 137) C dL_isSound_122 (by decide) (fun c_12 => ?_) (fun c_12 => ?_)
  · replace hf := ifT c_12 hf
    refine ww_sub C (lv' := [(0, .ref (a0 0)), (1, .int x1), (2, .int x2), (3, .int x3), (4, .int x4), (5, .int x5), (6, .int x6)]) [0, 1, 2, 3, 4, 5, 6] rfl ?_
    exact w_L_isSound_137 C (k11 := k11) hk11 hf
  · replace hf := ifF c_12 hf
    refine ww_iload C dL_isSound_125 5 rfl ?_
    refine ww_aload_n C dL_isSound_127 rfl 0 rfl ?_
    refine ww_iload C dL_isSound_128 4 rfl ?_
    refine ww_iconst (v := 0) C dL_isSound_130 (by decide) ?_
    obtain ⟨p131, hp131, hf⟩ := bdE hf
    refine ww_callV C (As := [.int x4, .int 0]) (st := [.int x5, .int s0]) (gr := [wIntr E a3 v3]) (c_X8_room (E := E) (a0 := a0) (h0_1 := h0_1) (h0_2 := h0_2) (h0_4 := h0_4) (h0_5 := h0_5) (h0_6 := a3 0) (h0_7 := h0_7) (h0_8 := h0_8) (h0_9 := h0_9) (a1 := a1) (a2 := a2) hp131) gL_isSound_X8_room rfl yk_X8_room ⟨by decide, Nat.le_of_ble_eq_true rfl⟩ ⟨by decide, by decide⟩ clOK8 0 0 rfl rfl [0, 1, 2] [3] 4 rfl (by decide) rfl rfl (Nat.le_of_ble_eq_true rfl) dL_isSound_131 ?_
    rintro _ _ ⟨rfl, rfl⟩
    refine ww_perm (gs' := [wGW E a0 (rf10 (a1 0) h0_1 h0_2 (a2 0) h0_4 h0_5 (a3 0) h0_7 h0_8 h0_9) v0, wHouse E a1 v1, wSight E a2 p131.2, wIntr E a3 v3]) [0, 1, 2, 3] 4 rfl (by decide) rfl ?_
    refine ww_icmp_le (tgt := 141) C dL_isSound_134 (by decide) (fun c_13 => ?_) (fun c_13 => ?_)
    · replace hf := ifT c_13 hf
      refine ww_iconst (v := 0) C dL_isSound_141 (by decide) ?_
      refine ww_sub C (lv' := [(0, .ref (a0 0)), (1, .int x1), (2, .int x2), (3, .int x3), (4, .int x4), (5, .int x5), (6, .int x6)]) [0, 1, 2, 3, 4, 5, 6] rfl ?_
      exact w_L_isSound_142 C (k11 := k11) hk11 hf
    · replace hf := ifF c_13 hf
      refine ww_sub C (lv' := [(0, .ref (a0 0)), (1, .int x1), (2, .int x2), (3, .int x3), (4, .int x4), (5, .int x5), (6, .int x6)]) [0, 1, 2, 3, 4, 5, 6] rfl ?_
      exact w_L_isSound_137 C (k11 := k11) hk11 hf

set_option maxHeartbeats 4000000 in
set_option maxRecDepth 100000 in
theorem w_L_isSound_101 {E : Ex} {K : Kx} (C : Cx E K cL_isSound 10 (some .boolean) RL wsL_isSound rmL_isSound) {a0 : Nat → Nat} {a1 : Nat → Nat} {a2 : Nat → Nat} {a3 : Nat → Nat} {h0_1 h0_2 h0_4 h0_5 h0_7 h0_8 h0_9 : Nat} {x1 : Int32} {v0 : GWV} {v1 : HouseV}   {x2 : Int32} {x3 : Int32} {x4 : Int32} {x5 : Int32} {x6 : Int32} {s0 : Int32} {s1 : Int32} {v2 : SightV} {v3 : IntrV} {k11 : Int32 → Int32 → SightV → IntrV → Option (Bool × SightV × IntrV)} {r : (Bool × SightV × IntrV)} (hk11 : ∀  (x3 : Int32) (x4 : Int32) (v2 : SightV) (v3 : IntrV), k11 x3 x4 v2 v3 = some r → WW E K 0 0 (QQ E K (fun rv g => rv = some (.int (b2i r.1)) ∧ g = [wGW E a0 (rf10 (a1 0) h0_1 h0_2 (a2 0) h0_4 h0_5 (a3 0) h0_7 h0_8 h0_9) v0, wHouse E a1 v1, wSight E a2 r.2.1, wIntr E a3 r.2.2]) 0 0) 11 [(0, .ref (a0 0)), (1, .int x1), (2, .int x2), (3, .int x3), (4, .int x4)] [] [wGW E a0 (rf10 (a1 0) h0_1 h0_2 (a2 0) h0_4 h0_5 (a3 0) h0_7 h0_8 h0_9) v0, wHouse E a1 v1, wSight E a2 v2, wIntr E a3 v3]) (hf : L_isSound_101 x1 v0 v1 k11 x2 x3 x4 x5 x6 s0 s1 v2 v3 = some r) : WW E K 0 0 (QQ E K (fun rv g => rv = some (.int (b2i r.1)) ∧ g = [wGW E a0 (rf10 (a1 0) h0_1 h0_2 (a2 0) h0_4 h0_5 (a3 0) h0_7 h0_8 h0_9) v0, wHouse E a1 v1, wSight E a2 r.2.1, wIntr E a3 r.2.2]) 0 0) 101 [(0, .ref (a0 0)), (1, .int x1), (2, .int x2), (3, .int x3), (4, .int x4), (5, .int x5), (6, .int x6)] [.int s0, .int s1] [wGW E a0 (rf10 (a1 0) h0_1 h0_2 (a2 0) h0_4 h0_5 (a3 0) h0_7 h0_8 h0_9) v0, wHouse E a1 v1, wSight E a2 v2, wIntr E a3 v3] := by
  rw [L_isSound_101] at hf
  refine ww_icmp_ne (tgt := 145) C dL_isSound_101 (by decide) (fun c_10 => ?_) (fun c_10 => ?_)
  · replace hf := ifF c_10 hf
    refine ww_iconst (v := 0) C dL_isSound_145 (by decide) ?_
    obtain rfl := Option.some.inj hf
    exact ww_zret C (nar_b false) ⟨rfl, rfl⟩ dL_isSound_146
  · replace hf := ifT c_10 hf
    refine ww_aload_n C dL_isSound_104 rfl 0 rfl ?_
    refine ww_iload C dL_isSound_105 4 rfl ?_
    refine ww_iconst (v := 2) C dL_isSound_107 (by decide) ?_
    obtain ⟨p108, hp108, hf⟩ := bdE hf
    refine ww_callV C (As := [.int x4, .int 2]) (st := []) (gr := [wIntr E a3 v3]) (c_X8_room (E := E) (a0 := a0) (h0_1 := h0_1) (h0_2 := h0_2) (h0_4 := h0_4) (h0_5 := h0_5) (h0_6 := a3 0) (h0_7 := h0_7) (h0_8 := h0_8) (h0_9 := h0_9) (a1 := a1) (a2 := a2) hp108) gL_isSound_X8_room rfl yk_X8_room ⟨by decide, Nat.le_of_ble_eq_true rfl⟩ ⟨by decide, by decide⟩ clOK8 0 0 rfl rfl [0, 1, 2] [3] 4 rfl (by decide) rfl rfl (Nat.le_of_ble_eq_true rfl) dL_isSound_108 ?_
    rintro _ _ ⟨rfl, rfl⟩
    refine ww_perm (gs' := [wGW E a0 (rf10 (a1 0) h0_1 h0_2 (a2 0) h0_4 h0_5 (a3 0) h0_7 h0_8 h0_9) v0, wHouse E a1 v1, wSight E a2 p108.2, wIntr E a3 v3]) [0, 1, 2, 3] 4 rfl (by decide) rfl ?_
    refine ww_iconst (v := 1) C dL_isSound_111 (by decide) ?_
    refine ww_icmp_ne (tgt := 119) C dL_isSound_112 (by decide) (fun c_11 => ?_) (fun c_11 => ?_)
    · replace hf := ifF c_11 hf
      refine ww_iconst (v := 0) C dL_isSound_119 (by decide) ?_
      refine ww_sub C (lv' := [(0, .ref (a0 0)), (1, .int x1), (2, .int x2), (3, .int x3), (4, .int x4), (5, .int x5), (6, .int x6)]) [0, 1, 2, 3, 4, 5, 6] rfl ?_
      exact w_L_isSound_120 C (k11 := k11) hk11 hf
    · replace hf := ifT c_11 hf
      refine ww_iconst (v := 1) C dL_isSound_115 (by decide) ?_
      refine ww_goto (tgt := 120) C dL_isSound_116 (by decide) ?_
      refine ww_sub C (lv' := [(0, .ref (a0 0)), (1, .int x1), (2, .int x2), (3, .int x3), (4, .int x4), (5, .int x5), (6, .int x6)]) [0, 1, 2, 3, 4, 5, 6] rfl ?_
      exact w_L_isSound_120 C (k11 := k11) hk11 hf

set_option maxHeartbeats 4000000 in
set_option maxRecDepth 100000 in
theorem w_L_isSound_400 {E : Ex} {K : Kx} (C : Cx E K cL_isSound 10 (some .boolean) RL wsL_isSound rmL_isSound) {a0 : Nat → Nat} {a1 : Nat → Nat} {a2 : Nat → Nat} {a3 : Nat → Nat} {h0_1 h0_2 h0_4 h0_5 h0_7 h0_8 h0_9 : Nat} {x1 : Int32} {v0 : GWV} {v1 : HouseV}   {x4 : Int32} {x5 : Int32} {x6 : Int32} {x7 : Int32} {v2 : SightV} {v3 : IntrV} {k290 : Int32 → Int32 → SightV → IntrV → Option (Bool × SightV × IntrV)} {k350 : Int32 → SightV → IntrV → Option (Bool × SightV × IntrV)} {r : (Bool × SightV × IntrV)} (hk290 : ∀  (x4 : Int32) (x5 : Int32) (v2 : SightV) (v3 : IntrV), k290 x4 x5 v2 v3 = some r → WW E K 0 0 (QQ E K (fun rv g => rv = some (.int (b2i r.1)) ∧ g = [wGW E a0 (rf10 (a1 0) h0_1 h0_2 (a2 0) h0_4 h0_5 (a3 0) h0_7 h0_8 h0_9) v0, wHouse E a1 v1, wSight E a2 r.2.1, wIntr E a3 r.2.2]) 0 0) 290 [(0, .ref (a0 0)), (1, .int x1), (4, .int x4), (5, .int x5)] [] [wGW E a0 (rf10 (a1 0) h0_1 h0_2 (a2 0) h0_4 h0_5 (a3 0) h0_7 h0_8 h0_9) v0, wHouse E a1 v1, wSight E a2 v2, wIntr E a3 v3]) (hk350 : ∀  (x7 : Int32) (v2 : SightV) (v3 : IntrV), k350 x7 v2 v3 = some r → WW E K 0 0 (QQ E K (fun rv g => rv = some (.int (b2i r.1)) ∧ g = [wGW E a0 (rf10 (a1 0) h0_1 h0_2 (a2 0) h0_4 h0_5 (a3 0) h0_7 h0_8 h0_9) v0, wHouse E a1 v1, wSight E a2 r.2.1, wIntr E a3 r.2.2]) 0 0) 350 [(0, .ref (a0 0)), (1, .int x1), (4, .int x4), (5, .int x5), (6, .int x6), (7, .int x7)] [] [wGW E a0 (rf10 (a1 0) h0_1 h0_2 (a2 0) h0_4 h0_5 (a3 0) h0_7 h0_8 h0_9) v0, wHouse E a1 v1, wSight E a2 v2, wIntr E a3 v3]) (hf : L_isSound_400 x1 v0 v1 k290 k350 x4 x5 x6 x7 v2 v3 = some r) : WW E K 0 0 (QQ E K (fun rv g => rv = some (.int (b2i r.1)) ∧ g = [wGW E a0 (rf10 (a1 0) h0_1 h0_2 (a2 0) h0_4 h0_5 (a3 0) h0_7 h0_8 h0_9) v0, wHouse E a1 v1, wSight E a2 r.2.1, wIntr E a3 r.2.2]) 0 0) 400 [(0, .ref (a0 0)), (1, .int x1), (4, .int x4), (5, .int x5), (6, .int x6), (7, .int x7)] [] [wGW E a0 (rf10 (a1 0) h0_1 h0_2 (a2 0) h0_4 h0_5 (a3 0) h0_7 h0_8 h0_9) v0, wHouse E a1 v1, wSight E a2 v2, wIntr E a3 v3] := by
  rw [L_isSound_400] at hf
  refine ww_aload_n C dL_isSound_400 rfl 0 rfl ?_
  refine ww_iload C dL_isSound_401 3 rfl ?_
  refine ww_iload C dL_isSound_403 5 rfl ?_
  obtain ⟨p405, hp405, hf⟩ := bdE hf
  refine ww_callV C (As := [.int x5, .int x7]) (st := []) (gr := [wSight E a2 v2, wIntr E a3 v3]) (c_X8_roomOf (E := E) (a0 := a0) (h0_1 := h0_1) (h0_2 := h0_2) (h0_3 := a2 0) (h0_4 := h0_4) (h0_5 := h0_5) (h0_6 := a3 0) (h0_7 := h0_7) (h0_8 := h0_8) (h0_9 := h0_9) (a1 := a1) hp405) gL_isSound_X8_roomOf rfl yk_X8_roomOf ⟨by decide, Nat.le_of_ble_eq_true rfl⟩ ⟨by decide, by decide⟩ clOK8 0 0 rfl rfl [0, 1] [2, 3] 4 rfl (by decide) rfl rfl (Nat.le_of_ble_eq_true rfl) dL_isSound_405 ?_
  rintro _ _ ⟨rfl, rfl⟩
  refine ww_perm (gs' := [wGW E a0 (rf10 (a1 0) h0_1 h0_2 (a2 0) h0_4 h0_5 (a3 0) h0_7 h0_8 h0_9) v0, wHouse E a1 v1, wSight E a2 v2, wIntr E a3 v3]) [0, 1, 2, 3] 4 rfl (by decide) rfl ?_
  refine ww_aload_n C dL_isSound_408 rfl 0 rfl ?_
  refine ww_iload C dL_isSound_409 3 rfl ?_
  refine ww_iload C dL_isSound_411 5 rfl ?_
  refine ww_aload_n C dL_isSound_413 rfl 0 rfl ?_
  refine ww_iload C dL_isSound_414 3 rfl ?_
  refine ww_iconst (v := 1) C dL_isSound_416 (by decide) ?_
  obtain ⟨p417, hp417, hf⟩ := bdE hf
  refine ww_callV C (As := [.int x5, .int 1]) (st := [.int x7, .int x5, .ref (a0 0), .int p405]) (gr := [wSight E a2 v2, wIntr E a3 v3]) (c_X8_guard (E := E) (a0 := a0) (h0_1 := h0_1) (h0_2 := h0_2) (h0_3 := a2 0) (h0_4 := h0_4) (h0_5 := h0_5) (h0_6 := a3 0) (h0_7 := h0_7) (h0_8 := h0_8) (h0_9 := h0_9) (a1 := a1) hp417) gL_isSound_X8_guard rfl yk_X8_guard ⟨by decide, Nat.le_of_ble_eq_true rfl⟩ ⟨by decide, by decide⟩ clOK8 0 0 rfl rfl [0, 1] [2, 3] 4 rfl (by decide) rfl rfl (Nat.le_of_ble_eq_true rfl) dL_isSound_417 ?_
  rintro _ _ ⟨rfl, rfl⟩
  refine ww_perm (gs' := [wGW E a0 (rf10 (a1 0) h0_1 h0_2 (a2 0) h0_4 h0_5 (a3 0) h0_7 h0_8 h0_9) v0, wHouse E a1 v1, wSight E a2 v2, wIntr E a3 v3]) [0, 1, 2, 3] 4 rfl (by decide) rfl ?_
  refine ww_iadd C dL_isSound_420 ?_
  refine ww_iload C dL_isSound_421 4 rfl ?_
  obtain ⟨g_31, hf⟩ := gdE hf
  refine ww_irem C dL_isSound_423 (nz_ne g_31) ?_
  obtain ⟨p424, hp424, hf⟩ := bdE hf
  refine ww_callV C (As := [.int x5, .int ((x7 + p417) - (x7 + p417) / x6 * x6)]) (st := [.int p405]) (gr := [wSight E a2 v2, wIntr E a3 v3]) (c_X8_walk (E := E) (a0 := a0) (h0_1 := h0_1) (h0_2 := h0_2) (h0_3 := a2 0) (h0_4 := h0_4) (h0_5 := h0_5) (h0_6 := a3 0) (h0_7 := h0_7) (h0_8 := h0_8) (h0_9 := h0_9) (a1 := a1) hp424) gL_isSound_X8_walk rfl yk_X8_walk ⟨by decide, Nat.le_of_ble_eq_true rfl⟩ ⟨by decide, by decide⟩ clOK8 0 0 rfl rfl [0, 1] [2, 3] 4 rfl (by decide) rfl rfl (Nat.le_of_ble_eq_true rfl) dL_isSound_424 ?_
  rintro _ _ ⟨rfl, rfl⟩
  refine ww_perm (gs' := [wGW E a0 (rf10 (a1 0) h0_1 h0_2 (a2 0) h0_4 h0_5 (a3 0) h0_7 h0_8 h0_9) v0, wHouse E a1 v1, wSight E a2 v2, wIntr E a3 v3]) [0, 1, 2, 3] 4 rfl (by decide) rfl ?_
  refine ww_icmp_eq (tgt := 432) C dL_isSound_427 (by decide) (fun c_32 => ?_) (fun c_32 => ?_)
  · replace hf := ifT c_32 hf
    obtain ⟨x7_432, e_x7_432⟩ : ∃ y : Int32, y = x7 + 1 := ⟨_, rfl⟩
    replace hf := ltE e_x7_432 hf
    refine ww_iinc (v := x7_432) (lv' := [(7, .int x7_432), (0, .ref (a0 0)), (1, .int x1), (4, .int x4), (5, .int x5), (6, .int x6)]) C dL_isSound_432 5 rfl (by rw [e_x7_432]; rfl) (by decide) rfl ?_
    refine ww_goto (tgt := 350) C dL_isSound_435 (by decide) ?_
    refine ww_sub C (lv' := [(0, .ref (a0 0)), (1, .int x1), (4, .int x4), (5, .int x5), (6, .int x6), (7, .int x7_432)]) [1, 2, 3, 4, 5, 0] rfl ?_
    exact hk350 _ _ _ hf
  · replace hf := ifF c_32 hf
    refine ww_iconst (v := 0) C dL_isSound_430 (by decide) ?_
    obtain rfl := Option.some.inj hf
    exact ww_zret C (nar_b false) ⟨rfl, rfl⟩ dL_isSound_431

set_option maxHeartbeats 4000000 in
set_option maxRecDepth 100000 in
theorem w_L_isSound_350 {E : Ex} {K : Kx} (C : Cx E K cL_isSound 10 (some .boolean) RL wsL_isSound rmL_isSound) {a0 : Nat → Nat} {a1 : Nat → Nat} {a2 : Nat → Nat} {a3 : Nat → Nat} {h0_1 h0_2 h0_4 h0_5 h0_7 h0_8 h0_9 : Nat} {x1 : Int32} {v0 : GWV} {v1 : HouseV} {x4 : Int32} {x5 : Int32} {x6 : Int32} {k290 : Int32 → Int32 → SightV → IntrV → Option (Bool × SightV × IntrV)} {r : (Bool × SightV × IntrV)} (hk290 : ∀  (x4 : Int32) (x5 : Int32) (v2 : SightV) (v3 : IntrV), k290 x4 x5 v2 v3 = some r → WW E K 0 0 (QQ E K (fun rv g => rv = some (.int (b2i r.1)) ∧ g = [wGW E a0 (rf10 (a1 0) h0_1 h0_2 (a2 0) h0_4 h0_5 (a3 0) h0_7 h0_8 h0_9) v0, wHouse E a1 v1, wSight E a2 r.2.1, wIntr E a3 r.2.2]) 0 0) 290 [(0, .ref (a0 0)), (1, .int x1), (4, .int x4), (5, .int x5)] [] [wGW E a0 (rf10 (a1 0) h0_1 h0_2 (a2 0) h0_4 h0_5 (a3 0) h0_7 h0_8 h0_9) v0, wHouse E a1 v1, wSight E a2 v2, wIntr E a3 v3]) : ∀ (n : Nat)  (x7 : Int32) (v2 : SightV) (v3 : IntrV), L_isSound_350 x1 v0 v1 x4 x5 x6 k290 n x7 v2 v3 = some r → WW E K 0 0 (QQ E K (fun rv g => rv = some (.int (b2i r.1)) ∧ g = [wGW E a0 (rf10 (a1 0) h0_1 h0_2 (a2 0) h0_4 h0_5 (a3 0) h0_7 h0_8 h0_9) v0, wHouse E a1 v1, wSight E a2 r.2.1, wIntr E a3 r.2.2]) 0 0) 350 [(0, .ref (a0 0)), (1, .int x1), (4, .int x4), (5, .int x5), (6, .int x6), (7, .int x7)] [] [wGW E a0 (rf10 (a1 0) h0_1 h0_2 (a2 0) h0_4 h0_5 (a3 0) h0_7 h0_8 h0_9) v0, wHouse E a1 v1, wSight E a2 v2, wIntr E a3 v3] := by
  intro n
  induction n with
  | zero =>
    intro  x7 v2 v3 hf
    simp [L_isSound_350] at hf
  | succ n ih =>
    intro  x7 v2 v3 hf
    rw [L_isSound_350] at hf
    refine ww_iload C dL_isSound_350 5 rfl ?_
    refine ww_iload C dL_isSound_352 4 rfl ?_
    refine ww_icmp_ge (tgt := 438) C dL_isSound_354 (by decide) (fun c_27 => ?_) (fun c_27 => ?_)
    · replace hf := ifT c_27 hf
      obtain ⟨x5_438, e_x5_438⟩ : ∃ y : Int32, y = x5 + 1 := ⟨_, rfl⟩
      replace hf := ltE e_x5_438 hf
      refine ww_iinc (v := x5_438) (lv' := [(5, .int x5_438), (0, .ref (a0 0)), (1, .int x1), (4, .int x4), (6, .int x6), (7, .int x7)]) C dL_isSound_438 3 rfl (by rw [e_x5_438]; rfl) (by decide) rfl ?_
      refine ww_goto (tgt := 290) C dL_isSound_441 (by decide) ?_
      refine ww_sub C (lv' := [(0, .ref (a0 0)), (1, .int x1), (4, .int x4), (5, .int x5_438)]) [1, 2, 3, 0] rfl ?_
      exact hk290 _ _ _ _ hf
    · replace hf := ifF c_27 hf
      refine ww_aload_n C dL_isSound_357 rfl 0 rfl ?_
      refine ww_iload C dL_isSound_358 3 rfl ?_
      refine ww_iload C dL_isSound_360 5 rfl ?_
      obtain ⟨p362, hp362, hf⟩ := bdE hf
      refine ww_callV C (As := [.int x5, .int x7]) (st := []) (gr := [wSight E a2 v2, wIntr E a3 v3]) (c_X8_walk (E := E) (a0 := a0) (h0_1 := h0_1) (h0_2 := h0_2) (h0_3 := a2 0) (h0_4 := h0_4) (h0_5 := h0_5) (h0_6 := a3 0) (h0_7 := h0_7) (h0_8 := h0_8) (h0_9 := h0_9) (a1 := a1) hp362) gL_isSound_X8_walk rfl yk_X8_walk ⟨by decide, Nat.le_of_ble_eq_true rfl⟩ ⟨by decide, by decide⟩ clOK8 0 0 rfl rfl [0, 1] [2, 3] 4 rfl (by decide) rfl rfl (Nat.le_of_ble_eq_true rfl) dL_isSound_362 ?_
      rintro _ _ ⟨rfl, rfl⟩
      refine ww_perm (gs' := [wGW E a0 (rf10 (a1 0) h0_1 h0_2 (a2 0) h0_4 h0_5 (a3 0) h0_7 h0_8 h0_9) v0, wHouse E a1 v1, wSight E a2 v2, wIntr E a3 v3]) [0, 1, 2, 3] 4 rfl (by decide) rfl ?_
      refine ww_istore (lv' := [(8, .int p362), (0, .ref (a0 0)), (1, .int x1), (4, .int x4), (5, .int x5), (6, .int x6), (7, .int x7)]) C dL_isSound_365 (by decide) rfl ?_
      refine ww_aload_n C dL_isSound_367 rfl 1 rfl ?_
      refine ww_iload C dL_isSound_368 4 rfl ?_
      refine ww_iload C dL_isSound_370 6 rfl ?_
      refine ww_iconst (v := 1) C dL_isSound_372 (by decide) ?_
      refine ww_iadd C dL_isSound_373 ?_
      refine ww_iload C dL_isSound_374 5 rfl ?_
      obtain ⟨g_28, hf⟩ := gdE hf
      refine ww_irem C dL_isSound_376 (nz_ne g_28) ?_
      obtain ⟨p377, hp377, hf⟩ := bdE hf
      refine ww_callV C (As := [.int x5, .int ((x7 + 1) - (x7 + 1) / x6 * x6)]) (st := []) (gr := [wSight E a2 v2, wIntr E a3 v3]) (c_X8_walk (E := E) (a0 := a0) (h0_1 := h0_1) (h0_2 := h0_2) (h0_3 := a2 0) (h0_4 := h0_4) (h0_5 := h0_5) (h0_6 := a3 0) (h0_7 := h0_7) (h0_8 := h0_8) (h0_9 := h0_9) (a1 := a1) hp377) gL_isSound_X8_walk rfl yk_X8_walk ⟨by decide, Nat.le_of_ble_eq_true rfl⟩ ⟨by decide, by decide⟩ clOK8 0 0 rfl rfl [0, 1] [2, 3] 4 rfl (by decide) rfl rfl (Nat.le_of_ble_eq_true rfl) dL_isSound_377 ?_
      rintro _ _ ⟨rfl, rfl⟩
      refine ww_perm (gs' := [wGW E a0 (rf10 (a1 0) h0_1 h0_2 (a2 0) h0_4 h0_5 (a3 0) h0_7 h0_8 h0_9) v0, wHouse E a1 v1, wSight E a2 v2, wIntr E a3 v3]) [0, 1, 2, 3] 4 rfl (by decide) rfl ?_
      refine ww_istore (lv' := [(9, .int p377), (8, .int p362), (0, .ref (a0 0)), (1, .int x1), (4, .int x4), (5, .int x5), (6, .int x6), (7, .int x7)]) C dL_isSound_380 (by decide) rfl ?_
      refine ww_iload C dL_isSound_382 1 rfl ?_
      refine ww_iload C dL_isSound_384 0 rfl ?_
      refine ww_icmp_eq (tgt := 400) C dL_isSound_386 (by decide) (fun c_29 => ?_) (fun c_29 => ?_)
      · replace hf := ifT c_29 hf
        refine ww_sub C (lv' := [(0, .ref (a0 0)), (1, .int x1), (4, .int x4), (5, .int x5), (6, .int x6), (7, .int x7)]) [2, 3, 4, 5, 6, 7] rfl ?_
        exact w_L_isSound_400 C (k290 := k290) hk290 (k350 := (fun (x7 : Int32) (v2 : SightV) (v3 : IntrV) => L_isSound_350 x1 v0 v1 x4 x5 x6 k290 n x7 v2 v3)) ih hf
      · replace hf := ifF c_29 hf
        refine ww_aload_n C dL_isSound_389 rfl 2 rfl ?_
        refine ww_iload C dL_isSound_390 1 rfl ?_
        refine ww_iload C dL_isSound_392 0 rfl ?_
        obtain ⟨p394, hp394, hf⟩ := bdE hf
        refine ww_callV C (As := [.int p362, .int p377]) (st := []) (gr := [wSight E a2 v2, wIntr E a3 v3]) (c_X8_isJoined (E := E) (a0 := a0) (h0_1 := h0_1) (h0_2 := h0_2) (h0_3 := a2 0) (h0_4 := h0_4) (h0_5 := h0_5) (h0_6 := a3 0) (h0_7 := h0_7) (h0_8 := h0_8) (h0_9 := h0_9) (a1 := a1) hp394) gL_isSound_X8_isJoined rfl yk_X8_isJoined ⟨by decide, Nat.le_of_ble_eq_true rfl⟩ ⟨by decide, by decide⟩ clOK8 0 0 rfl rfl [0, 1] [2, 3] 4 rfl (by decide) rfl rfl (Nat.le_of_ble_eq_true rfl) dL_isSound_394 ?_
        rintro _ _ ⟨rfl, rfl⟩
        refine ww_perm (gs' := [wGW E a0 (rf10 (a1 0) h0_1 h0_2 (a2 0) h0_4 h0_5 (a3 0) h0_7 h0_8 h0_9) v0, wHouse E a1 v1, wSight E a2 v2, wIntr E a3 v3]) [0, 1, 2, 3] 4 rfl (by decide) rfl ?_
        refine ww_if_eqB (tgt := 430) C dL_isSound_397 (by decide) (fun c_30 => ?_) (fun c_30 => ?_)
        · replace hf := bfE c_30 hf
          refine ww_iconst (v := 0) C dL_isSound_430 (by decide) ?_
          obtain rfl := Option.some.inj hf
          exact ww_zret C (nar_b false) ⟨rfl, rfl⟩ dL_isSound_431
        · replace hf := btE c_30 hf
          refine ww_sub C (lv' := [(0, .ref (a0 0)), (1, .int x1), (4, .int x4), (5, .int x5), (6, .int x6), (7, .int x7)]) [2, 3, 4, 5, 6, 7] rfl ?_
          exact w_L_isSound_400 C (k290 := k290) hk290 (k350 := (fun (x7 : Int32) (v2 : SightV) (v3 : IntrV) => L_isSound_350 x1 v0 v1 x4 x5 x6 k290 n x7 v2 v3)) ih hf

set_option maxHeartbeats 4000000 in
set_option maxRecDepth 100000 in
theorem w_L_isSound_303 {E : Ex} {K : Kx} (C : Cx E K cL_isSound 10 (some .boolean) RL wsL_isSound rmL_isSound) {a0 : Nat → Nat} {a1 : Nat → Nat} {a2 : Nat → Nat} {a3 : Nat → Nat} {h0_1 h0_2 h0_4 h0_5 h0_7 h0_8 h0_9 : Nat} {x1 : Int32} {v0 : GWV} {v1 : HouseV} {x5 : Int32} {k290 : Int32 → Int32 → SightV → IntrV → Option (Bool × SightV × IntrV)} {r : (Bool × SightV × IntrV)} (hk290 : ∀  (x4 : Int32) (x5 : Int32) (v2 : SightV) (v3 : IntrV), k290 x4 x5 v2 v3 = some r → WW E K 0 0 (QQ E K (fun rv g => rv = some (.int (b2i r.1)) ∧ g = [wGW E a0 (rf10 (a1 0) h0_1 h0_2 (a2 0) h0_4 h0_5 (a3 0) h0_7 h0_8 h0_9) v0, wHouse E a1 v1, wSight E a2 r.2.1, wIntr E a3 r.2.2]) 0 0) 290 [(0, .ref (a0 0)), (1, .int x1), (4, .int x4), (5, .int x5)] [] [wGW E a0 (rf10 (a1 0) h0_1 h0_2 (a2 0) h0_4 h0_5 (a3 0) h0_7 h0_8 h0_9) v0, wHouse E a1 v1, wSight E a2 v2, wIntr E a3 v3]) : ∀ (n : Nat)  (x4 : Int32) (x6 : Int32) (v2 : SightV) (v3 : IntrV), L_isSound_303 x1 v0 v1 x5 k290 n x4 x6 v2 v3 = some r → WW E K 0 0 (QQ E K (fun rv g => rv = some (.int (b2i r.1)) ∧ g = [wGW E a0 (rf10 (a1 0) h0_1 h0_2 (a2 0) h0_4 h0_5 (a3 0) h0_7 h0_8 h0_9) v0, wHouse E a1 v1, wSight E a2 r.2.1, wIntr E a3 r.2.2]) 0 0) 303 [(0, .ref (a0 0)), (1, .int x1), (4, .int x4), (5, .int x5), (6, .int x6)] [] [wGW E a0 (rf10 (a1 0) h0_1 h0_2 (a2 0) h0_4 h0_5 (a3 0) h0_7 h0_8 h0_9) v0, wHouse E a1 v1, wSight E a2 v2, wIntr E a3 v3] := by
  intro n
  induction n with
  | zero =>
    intro  x4 x6 v2 v3 hf
    simp [L_isSound_303] at hf
  | succ n ih =>
    intro  x4 x6 v2 v3 hf
    rw [L_isSound_303] at hf
    refine ww_iload C dL_isSound_303 4 rfl ?_
    refine ww_iload C dL_isSound_305 3 rfl ?_
    refine ww_icmp_ge (tgt := 338) C dL_isSound_307 (by decide) (fun c_25 => ?_) (fun c_25 => ?_)
    · replace hf := ifT c_25 hf
      refine ww_aload_n C dL_isSound_338 rfl 0 rfl ?_
      refine ww_iload C dL_isSound_339 3 rfl ?_
      refine ww_iconst (v := 0) C dL_isSound_341 (by decide) ?_
      obtain ⟨p342, hp342, hf⟩ := bdE hf
      refine ww_callV C (As := [.int x5, .int 0]) (st := []) (gr := [wSight E a2 v2, wIntr E a3 v3]) (c_X8_guard (E := E) (a0 := a0) (h0_1 := h0_1) (h0_2 := h0_2) (h0_3 := a2 0) (h0_4 := h0_4) (h0_5 := h0_5) (h0_6 := a3 0) (h0_7 := h0_7) (h0_8 := h0_8) (h0_9 := h0_9) (a1 := a1) hp342) gL_isSound_X8_guard rfl yk_X8_guard ⟨by decide, Nat.le_of_ble_eq_true rfl⟩ ⟨by decide, by decide⟩ clOK8 0 0 rfl rfl [0, 1] [2, 3] 4 rfl (by decide) rfl rfl (Nat.le_of_ble_eq_true rfl) dL_isSound_342 ?_
      rintro _ _ ⟨rfl, rfl⟩
      refine ww_perm (gs' := [wGW E a0 (rf10 (a1 0) h0_1 h0_2 (a2 0) h0_4 h0_5 (a3 0) h0_7 h0_8 h0_9) v0, wHouse E a1 v1, wSight E a2 v2, wIntr E a3 v3]) [0, 1, 2, 3] 4 rfl (by decide) rfl ?_
      refine ww_istore (lv' := [(6, .int p342), (0, .ref (a0 0)), (1, .int x1), (4, .int x4), (5, .int x5)]) C dL_isSound_345 (by decide) rfl ?_
      refine ww_iconst (v := 0) C dL_isSound_347 (by decide) ?_
      refine ww_istore (lv' := [(7, .int 0), (6, .int p342), (0, .ref (a0 0)), (1, .int x1), (4, .int x4), (5, .int x5)]) C dL_isSound_348 (by decide) rfl ?_
      refine ww_sub C (lv' := [(0, .ref (a0 0)), (1, .int x1), (4, .int x4), (5, .int x5), (6, .int p342), (7, .int 0)]) [2, 3, 4, 5, 1, 0] rfl ?_
      exact w_L_isSound_350 C (k290 := k290) hk290 FU _ _ _ hf
    · replace hf := ifF c_25 hf
      refine ww_iload C dL_isSound_310 2 rfl ?_
      refine ww_aload_n C dL_isSound_312 rfl 0 rfl ?_
      refine ww_iload C dL_isSound_313 3 rfl ?_
      refine ww_iload C dL_isSound_315 4 rfl ?_
      obtain ⟨p317, hp317, hf⟩ := bdE hf
      refine ww_callV C (As := [.int x5, .int x6]) (st := [.int x4]) (gr := [wSight E a2 v2, wIntr E a3 v3]) (c_X8_meetings (E := E) (a0 := a0) (h0_1 := h0_1) (h0_2 := h0_2) (h0_3 := a2 0) (h0_4 := h0_4) (h0_5 := h0_5) (h0_6 := a3 0) (h0_7 := h0_7) (h0_8 := h0_8) (h0_9 := h0_9) (a1 := a1) hp317) gL_isSound_X8_meetings rfl yk_X8_meetings ⟨by decide, Nat.le_of_ble_eq_true rfl⟩ ⟨by decide, by decide⟩ clOK8 0 0 rfl rfl [0, 1] [2, 3] 4 rfl (by decide) rfl rfl (Nat.le_of_ble_eq_true rfl) dL_isSound_317 ?_
      rintro _ _ ⟨rfl, rfl⟩
      refine ww_perm (gs' := [wGW E a0 (rf10 (a1 0) h0_1 h0_2 (a2 0) h0_4 h0_5 (a3 0) h0_7 h0_8 h0_9) v0, wHouse E a1 v1, wSight E a2 v2, wIntr E a3 v3]) [0, 1, 2, 3] 4 rfl (by decide) rfl ?_
      refine ww_aload_n C dL_isSound_320 rfl 0 rfl ?_
      refine ww_iload C dL_isSound_321 3 rfl ?_
      refine ww_iload C dL_isSound_323 4 rfl ?_
      obtain ⟨p325, hp325, hf⟩ := bdE hf
      refine ww_callV C (As := [.int x5, .int x6]) (st := [.int p317, .int x4]) (gr := [wSight E a2 v2, wIntr E a3 v3]) (c_X8_passings (E := E) (a0 := a0) (h0_1 := h0_1) (h0_2 := h0_2) (h0_3 := a2 0) (h0_4 := h0_4) (h0_5 := h0_5) (h0_6 := a3 0) (h0_7 := h0_7) (h0_8 := h0_8) (h0_9 := h0_9) (a1 := a1) hp325) gL_isSound_X8_passings rfl yk_X8_passings ⟨by decide, Nat.le_of_ble_eq_true rfl⟩ ⟨by decide, by decide⟩ clOK8 0 0 rfl rfl [0, 1] [2, 3] 4 rfl (by decide) rfl rfl (Nat.le_of_ble_eq_true rfl) dL_isSound_325 ?_
      rintro _ _ ⟨rfl, rfl⟩
      refine ww_perm (gs' := [wGW E a0 (rf10 (a1 0) h0_1 h0_2 (a2 0) h0_4 h0_5 (a3 0) h0_7 h0_8 h0_9) v0, wHouse E a1 v1, wSight E a2 v2, wIntr E a3 v3]) [0, 1, 2, 3] 4 rfl (by decide) rfl ?_
      refine ww_iadd C dL_isSound_328 ?_
      refine ww_iadd C dL_isSound_329 ?_
      refine ww_topi (fun x4_330 e_x4_330 => ?_)
      replace hf := ltE e_x4_330 hf
      refine ww_istore (lv' := [(4, .int x4_330), (0, .ref (a0 0)), (1, .int x1), (5, .int x5), (6, .int x6)]) C dL_isSound_330 (by decide) rfl ?_
      obtain ⟨x6_332, e_x6_332⟩ : ∃ y : Int32, y = x6 + 1 := ⟨_, rfl⟩
      replace hf := ltE e_x6_332 hf
      refine ww_iinc (v := x6_332) (lv' := [(6, .int x6_332), (4, .int x4_330), (0, .ref (a0 0)), (1, .int x1), (5, .int x5)]) C dL_isSound_332 4 rfl (by rw [e_x6_332]; rfl) (by decide) rfl ?_
      refine ww_goto (tgt := 303) C dL_isSound_335 (by decide) ?_
      refine ww_sub C (lv' := [(0, .ref (a0 0)), (1, .int x1), (4, .int x4_330), (5, .int x5), (6, .int x6_332)]) [2, 3, 1, 4, 0] rfl ?_
      exact ih _ _ _ _ hf

set_option maxHeartbeats 4000000 in
set_option maxRecDepth 100000 in
theorem w_L_isSound_502 {E : Ex} {K : Kx} (C : Cx E K cL_isSound 10 (some .boolean) RL wsL_isSound rmL_isSound) {a0 : Nat → Nat} {a1 : Nat → Nat} {a2 : Nat → Nat} {a3 : Nat → Nat} {h0_1 h0_2 h0_4 h0_5 h0_7 h0_8 h0_9 : Nat} {x1 : Int32} {v0 : GWV} {v1 : HouseV}   {x5 : Int32} {v2 : SightV} {v3 : IntrV} {k460 : Int32 → SightV → IntrV → Option (Bool × SightV × IntrV)} {r : (Bool × SightV × IntrV)} (hk460 : ∀  (x5 : Int32) (v2 : SightV) (v3 : IntrV), k460 x5 v2 v3 = some r → WW E K 0 0 (QQ E K (fun rv g => rv = some (.int (b2i r.1)) ∧ g = [wGW E a0 (rf10 (a1 0) h0_1 h0_2 (a2 0) h0_4 h0_5 (a3 0) h0_7 h0_8 h0_9) v0, wHouse E a1 v1, wSight E a2 r.2.1, wIntr E a3 r.2.2]) 0 0) 460 [(0, .ref (a0 0)), (1, .int x1), (5, .int x5)] [] [wGW E a0 (rf10 (a1 0) h0_1 h0_2 (a2 0) h0_4 h0_5 (a3 0) h0_7 h0_8 h0_9) v0, wHouse E a1 v1, wSight E a2 v2, wIntr E a3 v3]) (hf : L_isSound_502 x1 v0 v1 k460 x5 v2 v3 = some r) : WW E K 0 0 (QQ E K (fun rv g => rv = some (.int (b2i r.1)) ∧ g = [wGW E a0 (rf10 (a1 0) h0_1 h0_2 (a2 0) h0_4 h0_5 (a3 0) h0_7 h0_8 h0_9) v0, wHouse E a1 v1, wSight E a2 r.2.1, wIntr E a3 r.2.2]) 0 0) 502 [(0, .ref (a0 0)), (1, .int x1), (5, .int x5)] [] [wGW E a0 (rf10 (a1 0) h0_1 h0_2 (a2 0) h0_4 h0_5 (a3 0) h0_7 h0_8 h0_9) v0, wHouse E a1 v1, wSight E a2 v2, wIntr E a3 v3] := by
  rw [L_isSound_502] at hf
  refine ww_aload_n C dL_isSound_502 rfl 0 rfl ?_
  refine ww_iload C dL_isSound_503 2 rfl ?_
  refine ww_iconst (v := 3) C dL_isSound_505 (by decide) ?_
  obtain ⟨p506, hp506, hf⟩ := bdE hf
  refine ww_callV C (As := [.int x5, .int 3]) (st := []) (gr := [wSight E a2 v2, wIntr E a3 v3]) (c_X8_door (E := E) (a0 := a0) (h0_1 := h0_1) (h0_2 := h0_2) (h0_3 := a2 0) (h0_4 := h0_4) (h0_5 := h0_5) (h0_6 := a3 0) (h0_7 := h0_7) (h0_8 := h0_8) (h0_9 := h0_9) (a1 := a1) hp506) gL_isSound_X8_door rfl yk_X8_door ⟨by decide, Nat.le_of_ble_eq_true rfl⟩ ⟨by decide, by decide⟩ clOK8 0 0 rfl rfl [0, 1] [2, 3] 4 rfl (by decide) rfl rfl (Nat.le_of_ble_eq_true rfl) dL_isSound_506 ?_
  rintro _ _ ⟨rfl, rfl⟩
  refine ww_perm (gs' := [wGW E a0 (rf10 (a1 0) h0_1 h0_2 (a2 0) h0_4 h0_5 (a3 0) h0_7 h0_8 h0_9) v0, wHouse E a1 v1, wSight E a2 v2, wIntr E a3 v3]) [0, 1, 2, 3] 4 rfl (by decide) rfl ?_
  refine ww_if_le (tgt := 535) C dL_isSound_509 (by decide) (fun c_36 => ?_) (fun c_36 => ?_)
  · replace hf := ifT c_36 hf
    obtain ⟨x5_535, e_x5_535⟩ : ∃ y : Int32, y = x5 + 1 := ⟨_, rfl⟩
    replace hf := ltE e_x5_535 hf
    refine ww_iinc (v := x5_535) (lv' := [(5, .int x5_535), (0, .ref (a0 0)), (1, .int x1)]) C dL_isSound_535 2 rfl (by rw [e_x5_535]; rfl) (by decide) rfl ?_
    refine ww_goto (tgt := 460) C dL_isSound_538 (by decide) ?_
    refine ww_sub C (lv' := [(0, .ref (a0 0)), (1, .int x1), (5, .int x5_535)]) [1, 2, 0] rfl ?_
    exact hk460 _ _ _ hf
  · replace hf := ifF c_36 hf
    refine ww_aload_n C dL_isSound_512 rfl 0 rfl ?_
    refine ww_aload_n C dL_isSound_513 rfl 0 rfl ?_
    refine ww_iload C dL_isSound_514 2 rfl ?_
    refine ww_iconst (v := 0) C dL_isSound_516 (by decide) ?_
    obtain ⟨p517, hp517, hf⟩ := bdE hf
    refine ww_callV C (As := [.int x5, .int 0]) (st := [.ref (a0 0)]) (gr := [wSight E a2 v2, wIntr E a3 v3]) (c_X8_door (E := E) (a0 := a0) (h0_1 := h0_1) (h0_2 := h0_2) (h0_3 := a2 0) (h0_4 := h0_4) (h0_5 := h0_5) (h0_6 := a3 0) (h0_7 := h0_7) (h0_8 := h0_8) (h0_9 := h0_9) (a1 := a1) hp517) gL_isSound_X8_door rfl yk_X8_door ⟨by decide, Nat.le_of_ble_eq_true rfl⟩ ⟨by decide, by decide⟩ clOK8 0 0 rfl rfl [0, 1] [2, 3] 4 rfl (by decide) rfl rfl (Nat.le_of_ble_eq_true rfl) dL_isSound_517 ?_
    rintro _ _ ⟨rfl, rfl⟩
    refine ww_perm (gs' := [wGW E a0 (rf10 (a1 0) h0_1 h0_2 (a2 0) h0_4 h0_5 (a3 0) h0_7 h0_8 h0_9) v0, wHouse E a1 v1, wSight E a2 v2, wIntr E a3 v3]) [0, 1, 2, 3] 4 rfl (by decide) rfl ?_
    refine ww_aload_n C dL_isSound_520 rfl 0 rfl ?_
    refine ww_iload C dL_isSound_521 2 rfl ?_
    refine ww_iconst (v := 1) C dL_isSound_523 (by decide) ?_
    obtain ⟨p524, hp524, hf⟩ := bdE hf
    refine ww_callV C (As := [.int x5, .int 1]) (st := [.int p517, .ref (a0 0)]) (gr := [wSight E a2 v2, wIntr E a3 v3]) (c_X8_door (E := E) (a0 := a0) (h0_1 := h0_1) (h0_2 := h0_2) (h0_3 := a2 0) (h0_4 := h0_4) (h0_5 := h0_5) (h0_6 := a3 0) (h0_7 := h0_7) (h0_8 := h0_8) (h0_9 := h0_9) (a1 := a1) hp524) gL_isSound_X8_door rfl yk_X8_door ⟨by decide, Nat.le_of_ble_eq_true rfl⟩ ⟨by decide, by decide⟩ clOK8 0 0 rfl rfl [0, 1] [2, 3] 4 rfl (by decide) rfl rfl (Nat.le_of_ble_eq_true rfl) dL_isSound_524 ?_
    rintro _ _ ⟨rfl, rfl⟩
    refine ww_perm (gs' := [wGW E a0 (rf10 (a1 0) h0_1 h0_2 (a2 0) h0_4 h0_5 (a3 0) h0_7 h0_8 h0_9) v0, wHouse E a1 v1, wSight E a2 v2, wIntr E a3 v3]) [0, 1, 2, 3] 4 rfl (by decide) rfl ?_
    obtain ⟨p527, hp527, hf⟩ := bdE hf
    refine ww_callV C (As := [.int p517, .int p524]) (st := []) (gr := [wSight E a2 v2, wIntr E a3 v3]) (c_X8_isJoined (E := E) (a0 := a0) (h0_1 := h0_1) (h0_2 := h0_2) (h0_3 := a2 0) (h0_4 := h0_4) (h0_5 := h0_5) (h0_6 := a3 0) (h0_7 := h0_7) (h0_8 := h0_8) (h0_9 := h0_9) (a1 := a1) hp527) gL_isSound_X8_isJoined rfl yk_X8_isJoined ⟨by decide, Nat.le_of_ble_eq_true rfl⟩ ⟨by decide, by decide⟩ clOK8 0 0 rfl rfl [0, 1] [2, 3] 4 rfl (by decide) rfl rfl (Nat.le_of_ble_eq_true rfl) dL_isSound_527 ?_
    rintro _ _ ⟨rfl, rfl⟩
    refine ww_perm (gs' := [wGW E a0 (rf10 (a1 0) h0_1 h0_2 (a2 0) h0_4 h0_5 (a3 0) h0_7 h0_8 h0_9) v0, wHouse E a1 v1, wSight E a2 v2, wIntr E a3 v3]) [0, 1, 2, 3] 4 rfl (by decide) rfl ?_
    refine ww_if_neB (tgt := 535) C dL_isSound_530 (by decide) (fun c_37 => ?_) (fun c_37 => ?_)
    · replace hf := btE c_37 hf
      obtain ⟨x5_535, e_x5_535⟩ : ∃ y : Int32, y = x5 + 1 := ⟨_, rfl⟩
      replace hf := ltE e_x5_535 hf
      refine ww_iinc (v := x5_535) (lv' := [(5, .int x5_535), (0, .ref (a0 0)), (1, .int x1)]) C dL_isSound_535 2 rfl (by rw [e_x5_535]; rfl) (by decide) rfl ?_
      refine ww_goto (tgt := 460) C dL_isSound_538 (by decide) ?_
      refine ww_sub C (lv' := [(0, .ref (a0 0)), (1, .int x1), (5, .int x5_535)]) [1, 2, 0] rfl ?_
      exact hk460 _ _ _ hf
    · replace hf := bfE c_37 hf
      refine ww_iconst (v := 0) C dL_isSound_533 (by decide) ?_
      obtain rfl := Option.some.inj hf
      exact ww_zret C (nar_b false) ⟨rfl, rfl⟩ dL_isSound_534

set_option maxHeartbeats 4000000 in
set_option maxRecDepth 100000 in
theorem w_L_isSound_460 {E : Ex} {K : Kx} (C : Cx E K cL_isSound 10 (some .boolean) RL wsL_isSound rmL_isSound) {a0 : Nat → Nat} {a1 : Nat → Nat} {a2 : Nat → Nat} {a3 : Nat → Nat} {h0_1 h0_2 h0_4 h0_5 h0_7 h0_8 h0_9 : Nat} {x1 : Int32} {v0 : GWV} {v1 : HouseV}  {r : (Bool × SightV × IntrV)} : ∀ (n : Nat)  (x5 : Int32) (v2 : SightV) (v3 : IntrV), L_isSound_460 x1 v0 v1 n x5 v2 v3 = some r → WW E K 0 0 (QQ E K (fun rv g => rv = some (.int (b2i r.1)) ∧ g = [wGW E a0 (rf10 (a1 0) h0_1 h0_2 (a2 0) h0_4 h0_5 (a3 0) h0_7 h0_8 h0_9) v0, wHouse E a1 v1, wSight E a2 r.2.1, wIntr E a3 r.2.2]) 0 0) 460 [(0, .ref (a0 0)), (1, .int x1), (5, .int x5)] [] [wGW E a0 (rf10 (a1 0) h0_1 h0_2 (a2 0) h0_4 h0_5 (a3 0) h0_7 h0_8 h0_9) v0, wHouse E a1 v1, wSight E a2 v2, wIntr E a3 v3] := by
  intro n
  induction n with
  | zero =>
    intro  x5 v2 v3 hf
    simp [L_isSound_460] at hf
  | succ n ih =>
    intro  x5 v2 v3 hf
    rw [L_isSound_460] at hf
    refine ww_iload C dL_isSound_460 2 rfl ?_
    refine ww_aload_n C dL_isSound_462 rfl 0 rfl ?_
    refine ww_iconst (v := 1) C dL_isSound_463 (by decide) ?_
    obtain ⟨p464, hp464, hf⟩ := bdE hf
    refine ww_callV C (As := [.int 1]) (st := [.int x5]) (gr := [wIntr E a3 v3]) (c_X8_size (E := E) (a0 := a0) (h0_1 := h0_1) (h0_2 := h0_2) (h0_4 := h0_4) (h0_5 := h0_5) (h0_6 := a3 0) (h0_7 := h0_7) (h0_8 := h0_8) (h0_9 := h0_9) (a1 := a1) (a2 := a2) hp464) gL_isSound_X8_size rfl yk_X8_size ⟨by decide, Nat.le_of_ble_eq_true rfl⟩ ⟨by decide, by decide⟩ clOK8 0 0 rfl rfl [0, 1, 2] [3] 4 rfl (by decide) rfl rfl (Nat.le_of_ble_eq_true rfl) dL_isSound_464 ?_
    rintro _ _ ⟨rfl, rfl⟩
    refine ww_perm (gs' := [wGW E a0 (rf10 (a1 0) h0_1 h0_2 (a2 0) h0_4 h0_5 (a3 0) h0_7 h0_8 h0_9) v0, wHouse E a1 v1, wSight E a2 p464.2, wIntr E a3 v3]) [0, 1, 2, 3] 4 rfl (by decide) rfl ?_
    refine ww_icmp_ge (tgt := 541) C dL_isSound_467 (by decide) (fun c_33 => ?_) (fun c_33 => ?_)
    · replace hf := ifT c_33 hf
      refine ww_aload_n C dL_isSound_541 rfl 0 rfl ?_
      refine ww_iload_n C dL_isSound_542 rfl 1 rfl ?_
      obtain ⟨p543, hp543, hf⟩ := bdE hf
      refine ww_callS C (As := [.ref (a0 0), .int x1]) (st := []) (gr := []) (c_L_isQuick (E := E) (a0 := a0) (h0_1 := h0_1) (h0_2 := h0_2) (h0_4 := h0_4) (h0_5 := h0_5) (h0_7 := h0_7) (h0_8 := h0_8) (h0_9 := h0_9) (a1 := a1) (a2 := a2) (a3 := a3) hp543) gL_isSound_L_isQuick rfl ysk_L_isQuick ⟨by decide, Nat.le_of_ble_eq_true rfl⟩ ⟨by decide, by decide⟩ [0, 1, 2, 3] [] 4 rfl (by decide) rfl rfl (Nat.le_of_ble_eq_true rfl) dL_isSound_543 ?_
      rintro _ _ ⟨rfl, rfl⟩
      refine ww_perm (gs' := [wGW E a0 (rf10 (a1 0) h0_1 h0_2 (a2 0) h0_4 h0_5 (a3 0) h0_7 h0_8 h0_9) v0, wHouse E a1 v1, wSight E a2 p543.2.1, wIntr E a3 p543.2.2]) [0, 1, 2, 3] 4 rfl (by decide) rfl ?_
      obtain rfl := Option.some.inj hf
      exact ww_zret C (nar_b p543.1) ⟨rfl, rfl⟩ dL_isSound_546
    · replace hf := ifF c_33 hf
      refine ww_aload_n C dL_isSound_470 rfl 0 rfl ?_
      refine ww_iload C dL_isSound_471 2 rfl ?_
      refine ww_iconst (v := 2) C dL_isSound_473 (by decide) ?_
      obtain ⟨p474, hp474, hf⟩ := bdE hf
      refine ww_callV C (As := [.int x5, .int 2]) (st := []) (gr := [wSight E a2 p464.2, wIntr E a3 v3]) (c_X8_door (E := E) (a0 := a0) (h0_1 := h0_1) (h0_2 := h0_2) (h0_3 := a2 0) (h0_4 := h0_4) (h0_5 := h0_5) (h0_6 := a3 0) (h0_7 := h0_7) (h0_8 := h0_8) (h0_9 := h0_9) (a1 := a1) hp474) gL_isSound_X8_door rfl yk_X8_door ⟨by decide, Nat.le_of_ble_eq_true rfl⟩ ⟨by decide, by decide⟩ clOK8 0 0 rfl rfl [0, 1] [2, 3] 4 rfl (by decide) rfl rfl (Nat.le_of_ble_eq_true rfl) dL_isSound_474 ?_
      rintro _ _ ⟨rfl, rfl⟩
      refine ww_perm (gs' := [wGW E a0 (rf10 (a1 0) h0_1 h0_2 (a2 0) h0_4 h0_5 (a3 0) h0_7 h0_8 h0_9) v0, wHouse E a1 v1, wSight E a2 p464.2, wIntr E a3 v3]) [0, 1, 2, 3] 4 rfl (by decide) rfl ?_
      refine ww_iconst (v := 1) C dL_isSound_477 (by decide) ?_
      refine ww_icmp_ne (tgt := 502) C dL_isSound_478 (by decide) (fun c_34 => ?_) (fun c_34 => ?_)
      · replace hf := ifF c_34 hf
        refine ww_sub C (lv' := [(0, .ref (a0 0)), (1, .int x1), (5, .int x5)]) [0, 1, 2] rfl ?_
        exact w_L_isSound_502 C (k460 := (fun (x5 : Int32) (v2 : SightV) (v3 : IntrV) => L_isSound_460 x1 v0 v1 n x5 v2 v3)) ih hf
      · replace hf := ifT c_34 hf
        refine ww_aload_n C dL_isSound_481 rfl 0 rfl ?_
        refine ww_aload_n C dL_isSound_482 rfl 0 rfl ?_
        refine ww_iload C dL_isSound_483 2 rfl ?_
        refine ww_iconst (v := 0) C dL_isSound_485 (by decide) ?_
        obtain ⟨p486, hp486, hf⟩ := bdE hf
        refine ww_callV C (As := [.int x5, .int 0]) (st := [.ref (a0 0)]) (gr := [wSight E a2 p464.2, wIntr E a3 v3]) (c_X8_door (E := E) (a0 := a0) (h0_1 := h0_1) (h0_2 := h0_2) (h0_3 := a2 0) (h0_4 := h0_4) (h0_5 := h0_5) (h0_6 := a3 0) (h0_7 := h0_7) (h0_8 := h0_8) (h0_9 := h0_9) (a1 := a1) hp486) gL_isSound_X8_door rfl yk_X8_door ⟨by decide, Nat.le_of_ble_eq_true rfl⟩ ⟨by decide, by decide⟩ clOK8 0 0 rfl rfl [0, 1] [2, 3] 4 rfl (by decide) rfl rfl (Nat.le_of_ble_eq_true rfl) dL_isSound_486 ?_
        rintro _ _ ⟨rfl, rfl⟩
        refine ww_perm (gs' := [wGW E a0 (rf10 (a1 0) h0_1 h0_2 (a2 0) h0_4 h0_5 (a3 0) h0_7 h0_8 h0_9) v0, wHouse E a1 v1, wSight E a2 p464.2, wIntr E a3 v3]) [0, 1, 2, 3] 4 rfl (by decide) rfl ?_
        refine ww_aload_n C dL_isSound_489 rfl 0 rfl ?_
        refine ww_iload C dL_isSound_490 2 rfl ?_
        refine ww_iconst (v := 1) C dL_isSound_492 (by decide) ?_
        obtain ⟨p493, hp493, hf⟩ := bdE hf
        refine ww_callV C (As := [.int x5, .int 1]) (st := [.int p486, .ref (a0 0)]) (gr := [wSight E a2 p464.2, wIntr E a3 v3]) (c_X8_door (E := E) (a0 := a0) (h0_1 := h0_1) (h0_2 := h0_2) (h0_3 := a2 0) (h0_4 := h0_4) (h0_5 := h0_5) (h0_6 := a3 0) (h0_7 := h0_7) (h0_8 := h0_8) (h0_9 := h0_9) (a1 := a1) hp493) gL_isSound_X8_door rfl yk_X8_door ⟨by decide, Nat.le_of_ble_eq_true rfl⟩ ⟨by decide, by decide⟩ clOK8 0 0 rfl rfl [0, 1] [2, 3] 4 rfl (by decide) rfl rfl (Nat.le_of_ble_eq_true rfl) dL_isSound_493 ?_
        rintro _ _ ⟨rfl, rfl⟩
        refine ww_perm (gs' := [wGW E a0 (rf10 (a1 0) h0_1 h0_2 (a2 0) h0_4 h0_5 (a3 0) h0_7 h0_8 h0_9) v0, wHouse E a1 v1, wSight E a2 p464.2, wIntr E a3 v3]) [0, 1, 2, 3] 4 rfl (by decide) rfl ?_
        obtain ⟨p496, hp496, hf⟩ := bdE hf
        refine ww_callV C (As := [.int p486, .int p493]) (st := []) (gr := [wSight E a2 p464.2, wIntr E a3 v3]) (c_X8_isJoined (E := E) (a0 := a0) (h0_1 := h0_1) (h0_2 := h0_2) (h0_3 := a2 0) (h0_4 := h0_4) (h0_5 := h0_5) (h0_6 := a3 0) (h0_7 := h0_7) (h0_8 := h0_8) (h0_9 := h0_9) (a1 := a1) hp496) gL_isSound_X8_isJoined rfl yk_X8_isJoined ⟨by decide, Nat.le_of_ble_eq_true rfl⟩ ⟨by decide, by decide⟩ clOK8 0 0 rfl rfl [0, 1] [2, 3] 4 rfl (by decide) rfl rfl (Nat.le_of_ble_eq_true rfl) dL_isSound_496 ?_
        rintro _ _ ⟨rfl, rfl⟩
        refine ww_perm (gs' := [wGW E a0 (rf10 (a1 0) h0_1 h0_2 (a2 0) h0_4 h0_5 (a3 0) h0_7 h0_8 h0_9) v0, wHouse E a1 v1, wSight E a2 p464.2, wIntr E a3 v3]) [0, 1, 2, 3] 4 rfl (by decide) rfl ?_
        refine ww_if_eqB (tgt := 533) C dL_isSound_499 (by decide) (fun c_35 => ?_) (fun c_35 => ?_)
        · replace hf := bfE c_35 hf
          refine ww_iconst (v := 0) C dL_isSound_533 (by decide) ?_
          obtain rfl := Option.some.inj hf
          exact ww_zret C (nar_b false) ⟨rfl, rfl⟩ dL_isSound_534
        · replace hf := btE c_35 hf
          refine ww_sub C (lv' := [(0, .ref (a0 0)), (1, .int x1), (5, .int x5)]) [0, 1, 2] rfl ?_
          exact w_L_isSound_502 C (k460 := (fun (x5 : Int32) (v2 : SightV) (v3 : IntrV) => L_isSound_460 x1 v0 v1 n x5 v2 v3)) ih hf

set_option maxHeartbeats 4000000 in
set_option maxRecDepth 100000 in
theorem w_L_isSound_290 {E : Ex} {K : Kx} (C : Cx E K cL_isSound 10 (some .boolean) RL wsL_isSound rmL_isSound) {a0 : Nat → Nat} {a1 : Nat → Nat} {a2 : Nat → Nat} {a3 : Nat → Nat} {h0_1 h0_2 h0_4 h0_5 h0_7 h0_8 h0_9 : Nat} {x1 : Int32} {v0 : GWV} {v1 : HouseV}  {r : (Bool × SightV × IntrV)} : ∀ (n : Nat)  (x4 : Int32) (x5 : Int32) (v2 : SightV) (v3 : IntrV), L_isSound_290 x1 v0 v1 n x4 x5 v2 v3 = some r → WW E K 0 0 (QQ E K (fun rv g => rv = some (.int (b2i r.1)) ∧ g = [wGW E a0 (rf10 (a1 0) h0_1 h0_2 (a2 0) h0_4 h0_5 (a3 0) h0_7 h0_8 h0_9) v0, wHouse E a1 v1, wSight E a2 r.2.1, wIntr E a3 r.2.2]) 0 0) 290 [(0, .ref (a0 0)), (1, .int x1), (4, .int x4), (5, .int x5)] [] [wGW E a0 (rf10 (a1 0) h0_1 h0_2 (a2 0) h0_4 h0_5 (a3 0) h0_7 h0_8 h0_9) v0, wHouse E a1 v1, wSight E a2 v2, wIntr E a3 v3] := by
  intro n
  induction n with
  | zero =>
    intro  x4 x5 v2 v3 hf
    simp [L_isSound_290] at hf
  | succ n ih =>
    intro  x4 x5 v2 v3 hf
    rw [L_isSound_290] at hf
    refine ww_iload C dL_isSound_290 3 rfl ?_
    refine ww_aload_n C dL_isSound_292 rfl 0 rfl ?_
    refine ww_iconst (v := 2) C dL_isSound_293 (by decide) ?_
    obtain ⟨p294, hp294, hf⟩ := bdE hf
    refine ww_callV C (As := [.int 2]) (st := [.int x5]) (gr := [wIntr E a3 v3]) (c_X8_size (E := E) (a0 := a0) (h0_1 := h0_1) (h0_2 := h0_2) (h0_4 := h0_4) (h0_5 := h0_5) (h0_6 := a3 0) (h0_7 := h0_7) (h0_8 := h0_8) (h0_9 := h0_9) (a1 := a1) (a2 := a2) hp294) gL_isSound_X8_size rfl yk_X8_size ⟨by decide, Nat.le_of_ble_eq_true rfl⟩ ⟨by decide, by decide⟩ clOK8 0 0 rfl rfl [0, 1, 2] [3] 4 rfl (by decide) rfl rfl (Nat.le_of_ble_eq_true rfl) dL_isSound_294 ?_
    rintro _ _ ⟨rfl, rfl⟩
    refine ww_perm (gs' := [wGW E a0 (rf10 (a1 0) h0_1 h0_2 (a2 0) h0_4 h0_5 (a3 0) h0_7 h0_8 h0_9) v0, wHouse E a1 v1, wSight E a2 p294.2, wIntr E a3 v3]) [0, 1, 2, 3] 4 rfl (by decide) rfl ?_
    refine ww_icmp_ge (tgt := 444) C dL_isSound_297 (by decide) (fun c_23 => ?_) (fun c_23 => ?_)
    · replace hf := ifT c_23 hf
      refine ww_iload C dL_isSound_444 2 rfl ?_
      refine ww_aload_n C dL_isSound_446 rfl 0 rfl ?_
      refine ww_bipush (v := 7) C dL_isSound_447 (by decide) ?_
      obtain ⟨p449, hp449, hf⟩ := bdE hf
      refine ww_callV C (As := [.int 7]) (st := [.int x4]) (gr := [wIntr E a3 v3]) (c_X8_size (E := E) (a0 := a0) (h0_1 := h0_1) (h0_2 := h0_2) (h0_4 := h0_4) (h0_5 := h0_5) (h0_6 := a3 0) (h0_7 := h0_7) (h0_8 := h0_8) (h0_9 := h0_9) (a1 := a1) (a2 := a2) hp449) gL_isSound_X8_size rfl yk_X8_size ⟨by decide, Nat.le_of_ble_eq_true rfl⟩ ⟨by decide, by decide⟩ clOK8 0 0 rfl rfl [0, 1, 2] [3] 4 rfl (by decide) rfl rfl (Nat.le_of_ble_eq_true rfl) dL_isSound_449 ?_
      rintro _ _ ⟨rfl, rfl⟩
      refine ww_perm (gs' := [wGW E a0 (rf10 (a1 0) h0_1 h0_2 (a2 0) h0_4 h0_5 (a3 0) h0_7 h0_8 h0_9) v0, wHouse E a1 v1, wSight E a2 p449.2, wIntr E a3 v3]) [0, 1, 2, 3] 4 rfl (by decide) rfl ?_
      refine ww_icmp_eq (tgt := 457) C dL_isSound_452 (by decide) (fun c_24 => ?_) (fun c_24 => ?_)
      · replace hf := ifT c_24 hf
        refine ww_iconst (v := 0) C dL_isSound_457 (by decide) ?_
        refine ww_istore (lv' := [(5, .int 0), (0, .ref (a0 0)), (1, .int x1), (4, .int x4)]) C dL_isSound_458 (by decide) rfl ?_
        refine ww_sub C (lv' := [(0, .ref (a0 0)), (1, .int x1), (5, .int 0)]) [1, 2, 0] rfl ?_
        exact w_L_isSound_460 C FU _ _ _ hf
      · replace hf := ifF c_24 hf
        refine ww_iconst (v := 0) C dL_isSound_455 (by decide) ?_
        obtain rfl := Option.some.inj hf
        exact ww_zret C (nar_b false) ⟨rfl, rfl⟩ dL_isSound_456
    · replace hf := ifF c_23 hf
      refine ww_iconst (v := 0) C dL_isSound_300 (by decide) ?_
      refine ww_istore (lv' := [(6, .int 0), (0, .ref (a0 0)), (1, .int x1), (4, .int x4), (5, .int x5)]) C dL_isSound_301 (by decide) rfl ?_
      refine ww_sub C (lv' := [(0, .ref (a0 0)), (1, .int x1), (4, .int x4), (5, .int x5), (6, .int 0)]) [1, 2, 3, 4, 0] rfl ?_
      exact w_L_isSound_303 C (k290 := (fun (x4 : Int32) (x5 : Int32) (v2 : SightV) (v3 : IntrV) => L_isSound_290 x1 v0 v1 n x4 x5 v2 v3)) ih FU _ _ _ _ hf

set_option maxHeartbeats 4000000 in
set_option maxRecDepth 100000 in
theorem w_L_isSound_91 {E : Ex} {K : Kx} (C : Cx E K cL_isSound 10 (some .boolean) RL wsL_isSound rmL_isSound) {a0 : Nat → Nat} {a1 : Nat → Nat} {a2 : Nat → Nat} {a3 : Nat → Nat} {h0_1 h0_2 h0_4 h0_5 h0_7 h0_8 h0_9 : Nat} {x1 : Int32} {v0 : GWV} {v1 : HouseV}   {x2 : Int32} {x3 : Int32} {x4 : Int32} {x5 : Int32} {x6 : Int32} {s0 : Int32} {v2 : SightV} {v3 : IntrV} {k11 : Int32 → Int32 → SightV → IntrV → Option (Bool × SightV × IntrV)} {r : (Bool × SightV × IntrV)} (hk11 : ∀  (x3 : Int32) (x4 : Int32) (v2 : SightV) (v3 : IntrV), k11 x3 x4 v2 v3 = some r → WW E K 0 0 (QQ E K (fun rv g => rv = some (.int (b2i r.1)) ∧ g = [wGW E a0 (rf10 (a1 0) h0_1 h0_2 (a2 0) h0_4 h0_5 (a3 0) h0_7 h0_8 h0_9) v0, wHouse E a1 v1, wSight E a2 r.2.1, wIntr E a3 r.2.2]) 0 0) 11 [(0, .ref (a0 0)), (1, .int x1), (2, .int x2), (3, .int x3), (4, .int x4)] [] [wGW E a0 (rf10 (a1 0) h0_1 h0_2 (a2 0) h0_4 h0_5 (a3 0) h0_7 h0_8 h0_9) v0, wHouse E a1 v1, wSight E a2 v2, wIntr E a3 v3]) (hf : L_isSound_91 x1 v0 v1 k11 x2 x3 x4 x5 x6 s0 v2 v3 = some r) : WW E K 0 0 (QQ E K (fun rv g => rv = some (.int (b2i r.1)) ∧ g = [wGW E a0 (rf10 (a1 0) h0_1 h0_2 (a2 0) h0_4 h0_5 (a3 0) h0_7 h0_8 h0_9) v0, wHouse E a1 v1, wSight E a2 r.2.1, wIntr E a3 r.2.2]) 0 0) 91 [(0, .ref (a0 0)), (1, .int x1), (2, .int x2), (3, .int x3), (4, .int x4), (5, .int x5), (6, .int x6)] [.int s0] [wGW E a0 (rf10 (a1 0) h0_1 h0_2 (a2 0) h0_4 h0_5 (a3 0) h0_7 h0_8 h0_9) v0, wHouse E a1 v1, wSight E a2 v2, wIntr E a3 v3] := by
  rw [L_isSound_91] at hf
  refine ww_iload C dL_isSound_91 6 rfl ?_
  refine ww_if_lt (tgt := 100) C dL_isSound_93 (by decide) (fun c_9 => ?_) (fun c_9 => ?_)
  · replace hf := ifT c_9 hf
    refine ww_iconst (v := 0) C dL_isSound_100 (by decide) ?_
    refine ww_sub C (lv' := [(0, .ref (a0 0)), (1, .int x1), (2, .int x2), (3, .int x3), (4, .int x4), (5, .int x5), (6, .int x6)]) [0, 1, 2, 3, 4, 5, 6] rfl ?_
    exact w_L_isSound_101 C (k11 := k11) hk11 hf
  · replace hf := ifF c_9 hf
    refine ww_iconst (v := 1) C dL_isSound_96 (by decide) ?_
    refine ww_goto (tgt := 101) C dL_isSound_97 (by decide) ?_
    refine ww_sub C (lv' := [(0, .ref (a0 0)), (1, .int x1), (2, .int x2), (3, .int x3), (4, .int x4), (5, .int x5), (6, .int x6)]) [0, 1, 2, 3, 4, 5, 6] rfl ?_
    exact w_L_isSound_101 C (k11 := k11) hk11 hf

set_option maxHeartbeats 4000000 in
set_option maxRecDepth 100000 in
theorem w_L_isSound_70 {E : Ex} {K : Kx} (C : Cx E K cL_isSound 10 (some .boolean) RL wsL_isSound rmL_isSound) {a0 : Nat → Nat} {a1 : Nat → Nat} {a2 : Nat → Nat} {a3 : Nat → Nat} {h0_1 h0_2 h0_4 h0_5 h0_7 h0_8 h0_9 : Nat} {x1 : Int32} {v0 : GWV} {v1 : HouseV}   {x2 : Int32} {x3 : Int32} {x4 : Int32} {x5 : Int32} {x6 : Int32} {s0 : Int32} {s1 : Int32} {v2 : SightV} {v3 : IntrV} {k11 : Int32 → Int32 → SightV → IntrV → Option (Bool × SightV × IntrV)} {r : (Bool × SightV × IntrV)} (hk11 : ∀  (x3 : Int32) (x4 : Int32) (v2 : SightV) (v3 : IntrV), k11 x3 x4 v2 v3 = some r → WW E K 0 0 (QQ E K (fun rv g => rv = some (.int (b2i r.1)) ∧ g = [wGW E a0 (rf10 (a1 0) h0_1 h0_2 (a2 0) h0_4 h0_5 (a3 0) h0_7 h0_8 h0_9) v0, wHouse E a1 v1, wSight E a2 r.2.1, wIntr E a3 r.2.2]) 0 0) 11 [(0, .ref (a0 0)), (1, .int x1), (2, .int x2), (3, .int x3), (4, .int x4)] [] [wGW E a0 (rf10 (a1 0) h0_1 h0_2 (a2 0) h0_4 h0_5 (a3 0) h0_7 h0_8 h0_9) v0, wHouse E a1 v1, wSight E a2 v2, wIntr E a3 v3]) (hf : L_isSound_70 x1 v0 v1 k11 x2 x3 x4 x5 x6 s0 s1 v2 v3 = some r) : WW E K 0 0 (QQ E K (fun rv g => rv = some (.int (b2i r.1)) ∧ g = [wGW E a0 (rf10 (a1 0) h0_1 h0_2 (a2 0) h0_4 h0_5 (a3 0) h0_7 h0_8 h0_9) v0, wHouse E a1 v1, wSight E a2 r.2.1, wIntr E a3 r.2.2]) 0 0) 70 [(0, .ref (a0 0)), (1, .int x1), (2, .int x2), (3, .int x3), (4, .int x4), (5, .int x5), (6, .int x6)] [.int s0, .int s1] [wGW E a0 (rf10 (a1 0) h0_1 h0_2 (a2 0) h0_4 h0_5 (a3 0) h0_7 h0_8 h0_9) v0, wHouse E a1 v1, wSight E a2 v2, wIntr E a3 v3] := by
  rw [L_isSound_70] at hf
  refine ww_icmp_ne (tgt := 145) C dL_isSound_70 (by decide) (fun c_6 => ?_) (fun c_6 => ?_)
  · replace hf := ifF c_6 hf
    refine ww_iconst (v := 0) C dL_isSound_145 (by decide) ?_
    obtain rfl := Option.some.inj hf
    exact ww_zret C (nar_b false) ⟨rfl, rfl⟩ dL_isSound_146
  · replace hf := ifT c_6 hf
    refine ww_iload C dL_isSound_73 5 rfl ?_
    refine ww_iload_n C dL_isSound_75 rfl 2 rfl ?_
    refine ww_iconst (v := 1) C dL_isSound_76 (by decide) ?_
    refine ww_isub C dL_isSound_77 ?_
    refine ww_icmp_gt (tgt := 145) C dL_isSound_78 (by decide) (fun c_7 => ?_) (fun c_7 => ?_)
    · replace hf := ifT c_7 hf
      refine ww_iconst (v := 0) C dL_isSound_145 (by decide) ?_
      obtain rfl := Option.some.inj hf
      exact ww_zret C (nar_b false) ⟨rfl, rfl⟩ dL_isSound_146
    · replace hf := ifF c_7 hf
      refine ww_iload C dL_isSound_81 5 rfl ?_
      refine ww_if_le (tgt := 90) C dL_isSound_83 (by decide) (fun c_8 => ?_) (fun c_8 => ?_)
      · replace hf := ifT c_8 hf
        refine ww_iconst (v := 0) C dL_isSound_90 (by decide) ?_
        refine ww_sub C (lv' := [(0, .ref (a0 0)), (1, .int x1), (2, .int x2), (3, .int x3), (4, .int x4), (5, .int x5), (6, .int x6)]) [0, 1, 2, 3, 4, 5, 6] rfl ?_
        exact w_L_isSound_91 C (k11 := k11) hk11 hf
      · replace hf := ifF c_8 hf
        refine ww_iconst (v := 1) C dL_isSound_86 (by decide) ?_
        refine ww_goto (tgt := 91) C dL_isSound_87 (by decide) ?_
        refine ww_sub C (lv' := [(0, .ref (a0 0)), (1, .int x1), (2, .int x2), (3, .int x3), (4, .int x4), (5, .int x5), (6, .int x6)]) [0, 1, 2, 3, 4, 5, 6] rfl ?_
        exact w_L_isSound_91 C (k11 := k11) hk11 hf

set_option maxHeartbeats 4000000 in
set_option maxRecDepth 100000 in
theorem w_L_isSound_55 {E : Ex} {K : Kx} (C : Cx E K cL_isSound 10 (some .boolean) RL wsL_isSound rmL_isSound) {a0 : Nat → Nat} {a1 : Nat → Nat} {a2 : Nat → Nat} {a3 : Nat → Nat} {h0_1 h0_2 h0_4 h0_5 h0_7 h0_8 h0_9 : Nat} {x1 : Int32} {v0 : GWV} {v1 : HouseV}   {x2 : Int32} {x3 : Int32} {x4 : Int32} {x5 : Int32} {x6 : Int32} {s0 : Int32} {v2 : SightV} {v3 : IntrV} {k11 : Int32 → Int32 → SightV → IntrV → Option (Bool × SightV × IntrV)} {r : (Bool × SightV × IntrV)} (hk11 : ∀  (x3 : Int32) (x4 : Int32) (v2 : SightV) (v3 : IntrV), k11 x3 x4 v2 v3 = some r → WW E K 0 0 (QQ E K (fun rv g => rv = some (.int (b2i r.1)) ∧ g = [wGW E a0 (rf10 (a1 0) h0_1 h0_2 (a2 0) h0_4 h0_5 (a3 0) h0_7 h0_8 h0_9) v0, wHouse E a1 v1, wSight E a2 r.2.1, wIntr E a3 r.2.2]) 0 0) 11 [(0, .ref (a0 0)), (1, .int x1), (2, .int x2), (3, .int x3), (4, .int x4)] [] [wGW E a0 (rf10 (a1 0) h0_1 h0_2 (a2 0) h0_4 h0_5 (a3 0) h0_7 h0_8 h0_9) v0, wHouse E a1 v1, wSight E a2 v2, wIntr E a3 v3]) (hf : L_isSound_55 x1 v0 v1 k11 x2 x3 x4 x5 x6 s0 v2 v3 = some r) : WW E K 0 0 (QQ E K (fun rv g => rv = some (.int (b2i r.1)) ∧ g = [wGW E a0 (rf10 (a1 0) h0_1 h0_2 (a2 0) h0_4 h0_5 (a3 0) h0_7 h0_8 h0_9) v0, wHouse E a1 v1, wSight E a2 r.2.1, wIntr E a3 r.2.2]) 0 0) 55 [(0, .ref (a0 0)), (1, .int x1), (2, .int x2), (3, .int x3), (4, .int x4), (5, .int x5), (6, .int x6)] [.int s0] [wGW E a0 (rf10 (a1 0) h0_1 h0_2 (a2 0) h0_4 h0_5 (a3 0) h0_7 h0_8 h0_9) v0, wHouse E a1 v1, wSight E a2 v2, wIntr E a3 v3] := by
  rw [L_isSound_55] at hf
  refine ww_aload_n C dL_isSound_55 rfl 0 rfl ?_
  refine ww_iload C dL_isSound_56 4 rfl ?_
  refine ww_iconst (v := 3) C dL_isSound_58 (by decide) ?_
  obtain ⟨p59, hp59, hf⟩ := bdE hf
  refine ww_callV C (As := [.int x4, .int 3]) (st := [.int s0]) (gr := [wIntr E a3 v3]) (c_X8_room (E := E) (a0 := a0) (h0_1 := h0_1) (h0_2 := h0_2) (h0_4 := h0_4) (h0_5 := h0_5) (h0_6 := a3 0) (h0_7 := h0_7) (h0_8 := h0_8) (h0_9 := h0_9) (a1 := a1) (a2 := a2) hp59) gL_isSound_X8_room rfl yk_X8_room ⟨by decide, Nat.le_of_ble_eq_true rfl⟩ ⟨by decide, by decide⟩ clOK8 0 0 rfl rfl [0, 1, 2] [3] 4 rfl (by decide) rfl rfl (Nat.le_of_ble_eq_true rfl) dL_isSound_59 ?_
  rintro _ _ ⟨rfl, rfl⟩
  refine ww_perm (gs' := [wGW E a0 (rf10 (a1 0) h0_1 h0_2 (a2 0) h0_4 h0_5 (a3 0) h0_7 h0_8 h0_9) v0, wHouse E a1 v1, wSight E a2 p59.2, wIntr E a3 v3]) [0, 1, 2, 3] 4 rfl (by decide) rfl ?_
  refine ww_if_ne (tgt := 69) C dL_isSound_62 (by decide) (fun c_5 => ?_) (fun c_5 => ?_)
  · replace hf := ifF c_5 hf
    refine ww_iconst (v := 0) C dL_isSound_69 (by decide) ?_
    refine ww_sub C (lv' := [(0, .ref (a0 0)), (1, .int x1), (2, .int x2), (3, .int x3), (4, .int x4), (5, .int x5), (6, .int x6)]) [0, 1, 2, 3, 4, 5, 6] rfl ?_
    exact w_L_isSound_70 C (k11 := k11) hk11 hf
  · replace hf := ifT c_5 hf
    refine ww_iconst (v := 1) C dL_isSound_65 (by decide) ?_
    refine ww_goto (tgt := 70) C dL_isSound_66 (by decide) ?_
    refine ww_sub C (lv' := [(0, .ref (a0 0)), (1, .int x1), (2, .int x2), (3, .int x3), (4, .int x4), (5, .int x5), (6, .int x6)]) [0, 1, 2, 3, 4, 5, 6] rfl ?_
    exact w_L_isSound_70 C (k11 := k11) hk11 hf

set_option maxHeartbeats 4000000 in
set_option maxRecDepth 100000 in
theorem w_L_isSound_11 {E : Ex} {K : Kx} (C : Cx E K cL_isSound 10 (some .boolean) RL wsL_isSound rmL_isSound) {a0 : Nat → Nat} {a1 : Nat → Nat} {a2 : Nat → Nat} {a3 : Nat → Nat} {h0_1 h0_2 h0_4 h0_5 h0_7 h0_8 h0_9 : Nat} {x1 : Int32} {v0 : GWV} {v1 : HouseV} {x2 : Int32} {r : (Bool × SightV × IntrV)} : ∀ (n : Nat)  (x3 : Int32) (x4 : Int32) (v2 : SightV) (v3 : IntrV), L_isSound_11 x1 v0 v1 x2 n x3 x4 v2 v3 = some r → WW E K 0 0 (QQ E K (fun rv g => rv = some (.int (b2i r.1)) ∧ g = [wGW E a0 (rf10 (a1 0) h0_1 h0_2 (a2 0) h0_4 h0_5 (a3 0) h0_7 h0_8 h0_9) v0, wHouse E a1 v1, wSight E a2 r.2.1, wIntr E a3 r.2.2]) 0 0) 11 [(0, .ref (a0 0)), (1, .int x1), (2, .int x2), (3, .int x3), (4, .int x4)] [] [wGW E a0 (rf10 (a1 0) h0_1 h0_2 (a2 0) h0_4 h0_5 (a3 0) h0_7 h0_8 h0_9) v0, wHouse E a1 v1, wSight E a2 v2, wIntr E a3 v3] := by
  intro n
  induction n with
  | zero =>
    intro  x3 x4 v2 v3 hf
    simp [L_isSound_11] at hf
  | succ n ih =>
    intro  x3 x4 v2 v3 hf
    rw [L_isSound_11] at hf
    refine ww_iload C dL_isSound_11 4 rfl ?_
    refine ww_aload_n C dL_isSound_13 rfl 0 rfl ?_
    refine ww_iconst (v := 0) C dL_isSound_14 (by decide) ?_
    obtain ⟨p15, hp15, hf⟩ := bdE hf
    refine ww_callV C (As := [.int 0]) (st := [.int x4]) (gr := [wIntr E a3 v3]) (c_X8_size (E := E) (a0 := a0) (h0_1 := h0_1) (h0_2 := h0_2) (h0_4 := h0_4) (h0_5 := h0_5) (h0_6 := a3 0) (h0_7 := h0_7) (h0_8 := h0_8) (h0_9 := h0_9) (a1 := a1) (a2 := a2) hp15) gL_isSound_X8_size rfl yk_X8_size ⟨by decide, Nat.le_of_ble_eq_true rfl⟩ ⟨by decide, by decide⟩ clOK8 0 0 rfl rfl [0, 1, 2] [3] 4 rfl (by decide) rfl rfl (Nat.le_of_ble_eq_true rfl) dL_isSound_15 ?_
    rintro _ _ ⟨rfl, rfl⟩
    refine ww_perm (gs' := [wGW E a0 (rf10 (a1 0) h0_1 h0_2 (a2 0) h0_4 h0_5 (a3 0) h0_7 h0_8 h0_9) v0, wHouse E a1 v1, wSight E a2 p15.2, wIntr E a3 v3]) [0, 1, 2, 3] 4 rfl (by decide) rfl ?_
    refine ww_icmp_ge (tgt := 273) C dL_isSound_18 (by decide) (fun c_1 => ?_) (fun c_1 => ?_)
    · replace hf := ifT c_1 hf
      refine ww_iload_n C dL_isSound_273 rfl 3 rfl ?_
      refine ww_aload_n C dL_isSound_274 rfl 0 rfl ?_
      refine ww_iconst (v := 5) C dL_isSound_275 (by decide) ?_
      obtain ⟨p276, hp276, hf⟩ := bdE hf
      refine ww_callV C (As := [.int 5]) (st := [.int x3]) (gr := [wIntr E a3 v3]) (c_X8_size (E := E) (a0 := a0) (h0_1 := h0_1) (h0_2 := h0_2) (h0_4 := h0_4) (h0_5 := h0_5) (h0_6 := a3 0) (h0_7 := h0_7) (h0_8 := h0_8) (h0_9 := h0_9) (a1 := a1) (a2 := a2) hp276) gL_isSound_X8_size rfl yk_X8_size ⟨by decide, Nat.le_of_ble_eq_true rfl⟩ ⟨by decide, by decide⟩ clOK8 0 0 rfl rfl [0, 1, 2] [3] 4 rfl (by decide) rfl rfl (Nat.le_of_ble_eq_true rfl) dL_isSound_276 ?_
      rintro _ _ ⟨rfl, rfl⟩
      refine ww_perm (gs' := [wGW E a0 (rf10 (a1 0) h0_1 h0_2 (a2 0) h0_4 h0_5 (a3 0) h0_7 h0_8 h0_9) v0, wHouse E a1 v1, wSight E a2 p276.2, wIntr E a3 v3]) [0, 1, 2, 3] 4 rfl (by decide) rfl ?_
      refine ww_icmp_eq (tgt := 284) C dL_isSound_279 (by decide) (fun c_2 => ?_) (fun c_2 => ?_)
      · replace hf := ifT c_2 hf
        refine ww_iconst (v := 0) C dL_isSound_284 (by decide) ?_
        refine ww_istore (lv' := [(4, .int 0), (0, .ref (a0 0)), (1, .int x1), (2, .int x2), (3, .int x3)]) C dL_isSound_285 (by decide) rfl ?_
        refine ww_iconst (v := 0) C dL_isSound_287 (by decide) ?_
        refine ww_istore (lv' := [(5, .int 0), (4, .int 0), (0, .ref (a0 0)), (1, .int x1), (2, .int x2), (3, .int x3)]) C dL_isSound_288 (by decide) rfl ?_
        refine ww_sub C (lv' := [(0, .ref (a0 0)), (1, .int x1), (4, .int 0), (5, .int 0)]) [2, 3, 1, 0] rfl ?_
        exact w_L_isSound_290 C FU _ _ _ _ hf
      · replace hf := ifF c_2 hf
        refine ww_iconst (v := 0) C dL_isSound_282 (by decide) ?_
        obtain rfl := Option.some.inj hf
        exact ww_zret C (nar_b false) ⟨rfl, rfl⟩ dL_isSound_283
    · replace hf := ifF c_1 hf
      refine ww_aload_n C dL_isSound_21 rfl 0 rfl ?_
      refine ww_iload C dL_isSound_22 4 rfl ?_
      refine ww_iconst (v := 1) C dL_isSound_24 (by decide) ?_
      obtain ⟨p25, hp25, hf⟩ := bdE hf
      refine ww_callV C (As := [.int x4, .int 1]) (st := []) (gr := [wIntr E a3 v3]) (c_X8_room (E := E) (a0 := a0) (h0_1 := h0_1) (h0_2 := h0_2) (h0_4 := h0_4) (h0_5 := h0_5) (h0_6 := a3 0) (h0_7 := h0_7) (h0_8 := h0_8) (h0_9 := h0_9) (a1 := a1) (a2 := a2) hp25) gL_isSound_X8_room rfl yk_X8_room ⟨by decide, Nat.le_of_ble_eq_true rfl⟩ ⟨by decide, by decide⟩ clOK8 0 0 rfl rfl [0, 1, 2] [3] 4 rfl (by decide) rfl rfl (Nat.le_of_ble_eq_true rfl) dL_isSound_25 ?_
      rintro _ _ ⟨rfl, rfl⟩
      refine ww_perm (gs' := [wGW E a0 (rf10 (a1 0) h0_1 h0_2 (a2 0) h0_4 h0_5 (a3 0) h0_7 h0_8 h0_9) v0, wHouse E a1 v1, wSight E a2 p25.2, wIntr E a3 v3]) [0, 1, 2, 3] 4 rfl (by decide) rfl ?_
      refine ww_istore (lv' := [(5, .int p25.1), (0, .ref (a0 0)), (1, .int x1), (2, .int x2), (3, .int x3), (4, .int x4)]) C dL_isSound_28 (by decide) rfl ?_
      refine ww_aload_n C dL_isSound_30 rfl 1 rfl ?_
      refine ww_iload C dL_isSound_31 5 rfl ?_
      obtain ⟨p33, hp33, hf⟩ := bdE hf
      refine ww_callV C (As := [.int x4]) (st := []) (gr := [wIntr E a3 v3]) (c_X8_gapFrom (E := E) (a0 := a0) (h0_1 := h0_1) (h0_2 := h0_2) (h0_4 := h0_4) (h0_5 := h0_5) (h0_6 := a3 0) (h0_7 := h0_7) (h0_8 := h0_8) (h0_9 := h0_9) (a1 := a1) (a2 := a2) hp33) gL_isSound_X8_gapFrom rfl yk_X8_gapFrom ⟨by decide, Nat.le_of_ble_eq_true rfl⟩ ⟨by decide, by decide⟩ clOK8 0 0 rfl rfl [0, 1, 2] [3] 4 rfl (by decide) rfl rfl (Nat.le_of_ble_eq_true rfl) dL_isSound_33 ?_
      rintro _ _ ⟨rfl, rfl⟩
      refine ww_perm (gs' := [wGW E a0 (rf10 (a1 0) h0_1 h0_2 (a2 0) h0_4 h0_5 (a3 0) h0_7 h0_8 h0_9) v0, wHouse E a1 v1, wSight E a2 p33.2, wIntr E a3 v3]) [0, 1, 2, 3] 4 rfl (by decide) rfl ?_
      refine ww_istore (lv' := [(6, .int p33.1), (5, .int p25.1), (0, .ref (a0 0)), (1, .int x1), (2, .int x2), (3, .int x3), (4, .int x4)]) C dL_isSound_36 (by decide) rfl ?_
      refine ww_iload_n C dL_isSound_38 rfl 5 rfl ?_
      refine ww_iload C dL_isSound_39 1 rfl ?_
      refine ww_max C (by decide +kernel) (by decide +kernel) (by decide +kernel) (by decide +kernel) (by decide) (Nat.le_of_ble_eq_true rfl) (by decide) (by decide) dL_isSound_41 ?_
      refine ww_topi (fun x3_44 e_x3_44 => ?_)
      replace hf := ltE e_x3_44 hf
      refine ww_istore_n (lv' := [(3, .int x3_44), (6, .int p33.1), (5, .int p25.1), (0, .ref (a0 0)), (1, .int x1), (2, .int x2), (4, .int x4)]) C dL_isSound_44 rfl (by decide) rfl ?_
      refine ww_iload C dL_isSound_45 2 rfl ?_
      refine ww_if_ge (tgt := 54) C dL_isSound_47 (by decide) (fun c_4 => ?_) (fun c_4 => ?_)
      · replace hf := ifT c_4 hf
        refine ww_iconst (v := 0) C dL_isSound_54 (by decide) ?_
        refine ww_sub C (lv' := [(0, .ref (a0 0)), (1, .int x1), (2, .int x2), (3, .int x3_44), (4, .int x4), (5, .int p25.1), (6, .int p33.1)]) [3, 4, 5, 0, 6, 2, 1] rfl ?_
        exact w_L_isSound_55 C (k11 := (fun (x3 : Int32) (x4 : Int32) (v2 : SightV) (v3 : IntrV) => L_isSound_11 x1 v0 v1 x2 n x3 x4 v2 v3)) ih hf
      · replace hf := ifF c_4 hf
        refine ww_iconst (v := 1) C dL_isSound_50 (by decide) ?_
        refine ww_goto (tgt := 55) C dL_isSound_51 (by decide) ?_
        refine ww_sub C (lv' := [(0, .ref (a0 0)), (1, .int x1), (2, .int x2), (3, .int x3_44), (4, .int x4), (5, .int p25.1), (6, .int p33.1)]) [3, 4, 5, 0, 6, 2, 1] rfl ?_
        exact w_L_isSound_55 C (k11 := (fun (x3 : Int32) (x4 : Int32) (v2 : SightV) (v3 : IntrV) => L_isSound_11 x1 v0 v1 x2 n x3 x4 v2 v3)) ih hf

set_option maxHeartbeats 4000000 in
set_option maxRecDepth 100000 in
theorem c_L_isSound {E : Ex} {a0 : Nat → Nat} {a1 : Nat → Nat} {a2 : Nat → Nat} {a3 : Nat → Nat} {h0_1 h0_2 h0_4 h0_5 h0_7 h0_8 h0_9 : Nat} {x1 : Int32} {v0 : GWV} {v1 : HouseV} {v2 : SightV} {v3 : IntrV} {r : (Bool × SightV × IntrV)} (hf : L_isSound x1 v0 v1 v2 v3 = some r) : Ct E yL_isSound wsL_isSound rmL_isSound [.ref (a0 0), .int x1] [wGW E a0 (rf10 (a1 0) h0_1 h0_2 (a2 0) h0_4 h0_5 (a3 0) h0_7 h0_8 h0_9) v0, wHouse E a1 v1, wSight E a2 v2, wIntr E a3 v3] (fun rv g => rv = some (.int (b2i r.1)) ∧ g = [wGW E a0 (rf10 (a1 0) h0_1 h0_2 (a2 0) h0_4 h0_5 (a3 0) h0_7 h0_8 h0_9) v0, wHouse E a1 v1, wSight E a2 r.2.1, wIntr E a3 r.2.2]) := by
  refine ct_of (own := RL) (by decide +kernel) rfl rfl (Nat.le_of_ble_eq_true rfl) (fun K C => ?_)
  refine ww_sub C (lv' := [(0, .ref (a0 0)), (1, .int x1)]) [0, 1] rfl ?_
  rw [L_isSound] at hf
  refine ww_aload_n C dL_isSound_0 rfl 0 rfl ?_
  refine ww_iconst (v := 3) C dL_isSound_1 (by decide) ?_
  obtain ⟨p2, hp2, hf⟩ := bdE hf
  refine ww_callV C (As := [.int 3]) (st := []) (gr := [wIntr E a3 v3]) (c_X8_size (E := E) (a0 := a0) (h0_1 := h0_1) (h0_2 := h0_2) (h0_4 := h0_4) (h0_5 := h0_5) (h0_6 := a3 0) (h0_7 := h0_7) (h0_8 := h0_8) (h0_9 := h0_9) (a1 := a1) (a2 := a2) hp2) gL_isSound_X8_size rfl yk_X8_size ⟨by decide, Nat.le_of_ble_eq_true rfl⟩ ⟨by decide, by decide⟩ clOK8 0 0 rfl rfl [0, 1, 2] [3] 4 rfl (by decide) rfl rfl (Nat.le_of_ble_eq_true rfl) dL_isSound_2 ?_
  rintro _ _ ⟨rfl, rfl⟩
  refine ww_perm (gs' := [wGW E a0 (rf10 (a1 0) h0_1 h0_2 (a2 0) h0_4 h0_5 (a3 0) h0_7 h0_8 h0_9) v0, wHouse E a1 v1, wSight E a2 p2.2, wIntr E a3 v3]) [0, 1, 2, 3] 4 rfl (by decide) rfl ?_
  refine ww_istore_n (lv' := [(2, .int p2.1), (0, .ref (a0 0)), (1, .int x1)]) C dL_isSound_5 rfl (by decide) rfl ?_
  refine ww_iconst (v := 0) C dL_isSound_6 (by decide) ?_
  refine ww_istore_n (lv' := [(3, .int 0), (2, .int p2.1), (0, .ref (a0 0)), (1, .int x1)]) C dL_isSound_7 rfl (by decide) rfl ?_
  refine ww_iconst (v := 0) C dL_isSound_8 (by decide) ?_
  refine ww_istore (lv' := [(4, .int 0), (3, .int 0), (2, .int p2.1), (0, .ref (a0 0)), (1, .int x1)]) C dL_isSound_9 (by decide) rfl ?_
  refine ww_sub C (lv' := [(0, .ref (a0 0)), (1, .int x1), (2, .int p2.1), (3, .int 0), (4, .int 0)]) [3, 4, 2, 1, 0] rfl ?_
  exact w_L_isSound_11 C FU _ _ _ _ hf

theorem ysk_L_isSound : yL_isSound.cls ≠ "java/lang/invoke/MethodHandle" ∧ yL_isSound.cls ≠ "java/lang/invoke/VarHandle" ∧ (parseMethodDescriptor yL_isSound.desc).map (fun d => d.parameters.length) = some 2 := by decide +kernel
abbrev rmL_isBest : Room := { frames := 8, cells := 0, slots := 0, locals := 186 }
set_option maxHeartbeats 4000000 in
set_option maxRecDepth 100000 in
theorem w_L_isBest_150 {E : Ex} {K : Kx} (C : Cx E K cL_isBest 8 (some .boolean) RL wsL_isBest rmL_isBest) {a0 : Nat → Nat} {a1 : Nat → Nat} {a2 : Nat → Nat} {a3 : Nat → Nat} {q4 : Nat} {ah4 : Nat → Nat → Nat} {a5 : Nat → Nat} {a6 : Nat → Nat} {a7 : Nat → Nat} {a8 : Nat → Nat} {a9 : Nat → Nat} {h0_6 h0_7 h0_8 h0_9 h3_1 : Nat}  {x1 : Int64} {r : (Bool × GWV × HouseV × HouseV × HistV × (Nat → HouseV) × SightV × SightV × BestV × HouseV × SightV)} : ∀ (n : Nat)  (x6 : Int32) (v0 : GWV) (v1 : HouseV) (v2 : HouseV) (v3 : HistV) (v4 : Nat → HouseV) (v5 : SightV) (v6 : SightV) (v7 : BestV) (v8 : HouseV) (v9 : SightV), L_isBest_150 x1 n x6 v0 v1 v2 v3 v4 v5 v6 v7 v8 v9 = some r → WW E K 0 0 (QQ E K (fun rv g => rv = some (.int (b2i r.1)) ∧ g = [wGW E a0 (rf10 (a1 0) (a2 0) (a3 0) (a5 0) (a6 0) (a7 0) h0_6 h0_7 h0_8 h0_9) r.2.1, wHouse E a1 r.2.2.1, wHouse E a2 r.2.2.2.1, wHist E a3 (rf2 q4 h3_1) r.2.2.2.2.1, wHs E q4 ah4 r.2.2.2.2.2.1, wSight E a5 r.2.2.2.2.2.2.1, wSight E a6 r.2.2.2.2.2.2.2.1, wBest E a7 (rf2 (a8 0) (a9 0)) r.2.2.2.2.2.2.2.2.1, wHouse E a8 r.2.2.2.2.2.2.2.2.2.1, wSight E a9 r.2.2.2.2.2.2.2.2.2.2]) 0 0) 150 [(0, .ref (a0 0)), (1, .long x1), (6, .int x6)] [] [wGW E a0 (rf10 (a1 0) (a2 0) (a3 0) (a5 0) (a6 0) (a7 0) h0_6 h0_7 h0_8 h0_9) v0, wHouse E a1 v1, wHouse E a2 v2, wHist E a3 (rf2 q4 h3_1) v3, wHs E q4 ah4 v4, wSight E a5 v5, wSight E a6 v6, wBest E a7 (rf2 (a8 0) (a9 0)) v7, wHouse E a8 v8, wSight E a9 v9] := by
  intro n
  induction n with
  | zero =>
    intro  x6 v0 v1 v2 v3 v4 v5 v6 v7 v8 v9 hf
    simp [L_isBest_150] at hf
  | succ n ih =>
    intro  x6 v0 v1 v2 v3 v4 v5 v6 v7 v8 v9 hf
    rw [L_isBest_150] at hf
    refine ww_iload C dL_isBest_150 2 rfl ?_
    refine ww_aload_n C dL_isBest_152 rfl 0 rfl ?_
    refine ww_iconst (v := 2) C dL_isBest_153 (by decide) ?_
    obtain ⟨p154, hp154, hf⟩ := bdE hf
    refine ww_callV C (As := [.int 2]) (st := [.int x6]) (gr := [wHouse E a2 v2, wHist E a3 (rf2 q4 h3_1) v3, wHs E q4 ah4 v4, wSight E a6 v6, wBest E a7 (rf2 (a8 0) (a9 0)) v7, wHouse E a8 v8, wSight E a9 v9]) (c_X8_size (E := E) (a0 := a0) (h0_1 := a2 0) (h0_2 := a3 0) (h0_4 := a6 0) (h0_5 := a7 0) (h0_6 := h0_6) (h0_7 := h0_7) (h0_8 := h0_8) (h0_9 := h0_9) (a1 := a1) (a2 := a5) hp154) gL_isBest_X8_size rfl yk_X8_size ⟨by decide, Nat.le_of_ble_eq_true rfl⟩ ⟨by decide, by decide⟩ clOK8 0 0 rfl rfl [0, 1, 5] [2, 3, 4, 6, 7, 8, 9] 10 rfl (by decide) rfl rfl (Nat.le_of_ble_eq_true rfl) dL_isBest_154 ?_
    rintro _ _ ⟨rfl, rfl⟩
    refine ww_perm (gs' := [wGW E a0 (rf10 (a1 0) (a2 0) (a3 0) (a5 0) (a6 0) (a7 0) h0_6 h0_7 h0_8 h0_9) v0, wHouse E a1 v1, wHouse E a2 v2, wHist E a3 (rf2 q4 h3_1) v3, wHs E q4 ah4 v4, wSight E a5 p154.2, wSight E a6 v6, wBest E a7 (rf2 (a8 0) (a9 0)) v7, wHouse E a8 v8, wSight E a9 v9]) [0, 1, 3, 4, 5, 2, 6, 7, 8, 9] 10 rfl (by decide) rfl ?_
    refine ww_icmp_ge (tgt := 184) C dL_isBest_157 (by decide) (fun c_12 => ?_) (fun c_12 => ?_)
    · replace hf := ifT c_12 hf
      refine ww_aload_n C dL_isBest_184 rfl 0 rfl ?_
      obtain ⟨p185, hp185, hf⟩ := bdE hf
      refine ww_callV C (As := []) (st := []) (gr := [wHouse E a2 v2, wSight E a5 p154.2, wSight E a6 v6]) (c_X8_adopt (E := E) (a0 := a0) (h0_1 := a2 0) (h0_3 := a5 0) (h0_4 := a6 0) (h0_6 := h0_6) (h0_7 := h0_7) (h0_8 := h0_8) (h0_9 := h0_9) (a1 := a1) (a2 := a3) (h2_1 := h3_1) (q3 := q4) (ah3 := ah4) (a4 := a7) (a5 := a8) (a6 := a9) hp185) gL_isBest_X8_adopt rfl yk_X8_adopt ⟨by decide, Nat.le_of_ble_eq_true rfl⟩ ⟨by decide, by decide⟩ clOK8 0 0 rfl rfl [0, 1, 3, 4, 7, 8, 9] [2, 5, 6] 10 rfl (by decide) rfl rfl (Nat.le_of_ble_eq_true rfl) dL_isBest_185 ?_
      rintro _ _ ⟨rfl, rfl⟩
      refine ww_perm (gs' := [wGW E a0 (rf10 (a1 0) (a2 0) (a3 0) (a5 0) (a6 0) (a7 0) h0_6 h0_7 h0_8 h0_9) p185.2.1, wHouse E a1 p185.2.2.1, wHouse E a2 v2, wHist E a3 (rf2 q4 h3_1) p185.2.2.2.1, wHs E q4 ah4 p185.2.2.2.2.1, wSight E a5 p154.2, wSight E a6 v6, wBest E a7 (rf2 (a8 0) (a9 0)) p185.2.2.2.2.2.1, wHouse E a8 p185.2.2.2.2.2.2.1, wSight E a9 p185.2.2.2.2.2.2.2]) [0, 1, 7, 2, 3, 8, 9, 4, 5, 6] 10 rfl (by decide) rfl ?_
      refine ww_if_ne (tgt := 218) C dL_isBest_188 (by decide) (fun c_13 => ?_) (fun c_13 => ?_)
      · replace hf := ifF c_13 hf
        refine ww_iconst (v := 0) C dL_isBest_218 (by decide) ?_
        obtain rfl := Option.some.inj hf
        exact ww_zret C (nar_b false) ⟨rfl, rfl⟩ dL_isBest_219
      · replace hf := ifT c_13 hf
        refine ww_aload_n C dL_isBest_191 rfl 0 rfl ?_
        obtain ⟨p192, hp192, hf⟩ := bdE hf
        refine ww_callV C (As := []) (st := []) (gr := [wHouse E a2 v2, wSight E a5 p154.2, wSight E a6 v6, wBest E a7 (rf2 (a8 0) (a9 0)) p185.2.2.2.2.2.1, wHouse E a8 p185.2.2.2.2.2.2.1, wSight E a9 p185.2.2.2.2.2.2.2]) (c_X8_undo (E := E) (a0 := a0) (h0_1 := a2 0) (h0_3 := a5 0) (h0_4 := a6 0) (h0_5 := a7 0) (h0_6 := h0_6) (h0_7 := h0_7) (h0_8 := h0_8) (h0_9 := h0_9) (a1 := a1) (a2 := a3) (h2_1 := h3_1) (q3 := q4) (ah3 := ah4) hp192) gL_isBest_X8_undo rfl yk_X8_undo ⟨by decide, Nat.le_of_ble_eq_true rfl⟩ ⟨by decide, by decide⟩ clOK8 0 0 rfl rfl [0, 1, 3, 4] [2, 5, 6, 7, 8, 9] 10 rfl (by decide) rfl rfl (Nat.le_of_ble_eq_true rfl) dL_isBest_192 ?_
        rintro _ _ ⟨rfl, rfl⟩
        refine ww_perm (gs' := [wGW E a0 (rf10 (a1 0) (a2 0) (a3 0) (a5 0) (a6 0) (a7 0) h0_6 h0_7 h0_8 h0_9) p185.2.1, wHouse E a1 p192.2.1, wHouse E a2 v2, wHist E a3 (rf2 q4 h3_1) p192.2.2, wHs E q4 ah4 p185.2.2.2.2.1, wSight E a5 p154.2, wSight E a6 v6, wBest E a7 (rf2 (a8 0) (a9 0)) p185.2.2.2.2.2.1, wHouse E a8 p185.2.2.2.2.2.2.1, wSight E a9 p185.2.2.2.2.2.2.2]) [0, 1, 4, 2, 3, 5, 6, 7, 8, 9] 10 rfl (by decide) rfl ?_
        refine ww_if_lt (tgt := 218) C dL_isBest_195 (by decide) (fun c_14 => ?_) (fun c_14 => ?_)
        · replace hf := ifT c_14 hf
          refine ww_iconst (v := 0) C dL_isBest_218 (by decide) ?_
          obtain rfl := Option.some.inj hf
          exact ww_zret C (nar_b false) ⟨rfl, rfl⟩ dL_isBest_219
        · replace hf := ifF c_14 hf
          refine ww_aload_n C dL_isBest_198 rfl 0 rfl ?_
          obtain ⟨p199, hp199, hf⟩ := bdE hf
          refine ww_callV C (As := []) (st := []) (gr := [wHouse E a2 v2, wSight E a5 p154.2, wSight E a6 v6, wBest E a7 (rf2 (a8 0) (a9 0)) p185.2.2.2.2.2.1, wHouse E a8 p185.2.2.2.2.2.2.1, wSight E a9 p185.2.2.2.2.2.2.2]) (c_X8_undo (E := E) (a0 := a0) (h0_1 := a2 0) (h0_3 := a5 0) (h0_4 := a6 0) (h0_5 := a7 0) (h0_6 := h0_6) (h0_7 := h0_7) (h0_8 := h0_8) (h0_9 := h0_9) (a1 := a1) (a2 := a3) (h2_1 := h3_1) (q3 := q4) (ah3 := ah4) hp199) gL_isBest_X8_undo rfl yk_X8_undo ⟨by decide, Nat.le_of_ble_eq_true rfl⟩ ⟨by decide, by decide⟩ clOK8 0 0 rfl rfl [0, 1, 3, 4] [2, 5, 6, 7, 8, 9] 10 rfl (by decide) rfl rfl (Nat.le_of_ble_eq_true rfl) dL_isBest_199 ?_
          rintro _ _ ⟨rfl, rfl⟩
          refine ww_perm (gs' := [wGW E a0 (rf10 (a1 0) (a2 0) (a3 0) (a5 0) (a6 0) (a7 0) h0_6 h0_7 h0_8 h0_9) p185.2.1, wHouse E a1 p199.2.1, wHouse E a2 v2, wHist E a3 (rf2 q4 h3_1) p199.2.2, wHs E q4 ah4 p185.2.2.2.2.1, wSight E a5 p154.2, wSight E a6 v6, wBest E a7 (rf2 (a8 0) (a9 0)) p185.2.2.2.2.2.1, wHouse E a8 p185.2.2.2.2.2.2.1, wSight E a9 p185.2.2.2.2.2.2.2]) [0, 1, 4, 2, 3, 5, 6, 7, 8, 9] 10 rfl (by decide) rfl ?_
          refine ww_if_lt (tgt := 218) C dL_isBest_202 (by decide) (fun c_15 => ?_) (fun c_15 => ?_)
          · replace hf := ifT c_15 hf
            refine ww_iconst (v := 0) C dL_isBest_218 (by decide) ?_
            obtain rfl := Option.some.inj hf
            exact ww_zret C (nar_b false) ⟨rfl, rfl⟩ dL_isBest_219
          · replace hf := ifF c_15 hf
            refine ww_aload_n C dL_isBest_205 rfl 0 rfl ?_
            obtain ⟨p206, hp206, hf⟩ := bdE hf
            refine ww_callS C (As := [.ref (a0 0)]) (st := []) (gr := [wHouse E a2 v2, wHist E a3 (rf2 q4 h3_1) p199.2.2, wHs E q4 ah4 p185.2.2.2.2.1, wSight E a6 v6, wBest E a7 (rf2 (a8 0) (a9 0)) p185.2.2.2.2.2.1, wHouse E a8 p185.2.2.2.2.2.2.1, wSight E a9 p185.2.2.2.2.2.2.2]) (c_L_all (E := E) (a0 := a0) (h0_1 := a2 0) (h0_2 := a3 0) (h0_4 := a6 0) (h0_5 := a7 0) (h0_6 := h0_6) (h0_7 := h0_7) (h0_8 := h0_8) (h0_9 := h0_9) (a1 := a1) (a2 := a5) hp206) gL_isBest_L_all rfl ysk_L_all ⟨by decide, Nat.le_of_ble_eq_true rfl⟩ ⟨by decide, by decide⟩ [0, 1, 5] [2, 3, 4, 6, 7, 8, 9] 10 rfl (by decide) rfl rfl (Nat.le_of_ble_eq_true rfl) dL_isBest_206 ?_
            rintro _ _ ⟨rfl, rfl⟩
            refine ww_perm (gs' := [wGW E a0 (rf10 (a1 0) (a2 0) (a3 0) (a5 0) (a6 0) (a7 0) h0_6 h0_7 h0_8 h0_9) p185.2.1, wHouse E a1 p199.2.1, wHouse E a2 v2, wHist E a3 (rf2 q4 h3_1) p199.2.2, wHs E q4 ah4 p185.2.2.2.2.1, wSight E a5 p206.2, wSight E a6 v6, wBest E a7 (rf2 (a8 0) (a9 0)) p185.2.2.2.2.2.1, wHouse E a8 p185.2.2.2.2.2.2.1, wSight E a9 p185.2.2.2.2.2.2.2]) [0, 1, 3, 4, 5, 2, 6, 7, 8, 9] 10 rfl (by decide) rfl ?_
            refine ww_lload_n C dL_isBest_209 rfl 1 rfl ?_
            refine ww_lcmp C dL_isBest_210 ?_
            refine ww_if_ne (tgt := 218) C dL_isBest_211 (by decide) (fun c_16 => ?_) (fun c_16 => ?_)
            · replace hf := ifF c_16 hf
              refine ww_iconst (v := 0) C dL_isBest_218 (by decide) ?_
              obtain rfl := Option.some.inj hf
              exact ww_zret C (nar_b false) ⟨rfl, rfl⟩ dL_isBest_219
            · replace hf := ifT c_16 hf
              refine ww_iconst (v := 1) C dL_isBest_214 (by decide) ?_
              refine ww_goto (tgt := 219) C dL_isBest_215 (by decide) ?_
              obtain rfl := Option.some.inj hf
              exact ww_zret C (nar_b true) ⟨rfl, rfl⟩ dL_isBest_219
    · replace hf := ifF c_12 hf
      refine ww_aload_n C dL_isBest_160 rfl 0 rfl ?_
      refine ww_iload C dL_isBest_161 2 rfl ?_
      refine ww_iconst (v := 1) C dL_isBest_163 (by decide) ?_
      obtain ⟨p164, hp164, hf⟩ := bdE hf
      refine ww_callV C (As := [.int x6, .int 1]) (st := []) (gr := [wHouse E a2 v2, wHist E a3 (rf2 q4 h3_1) v3, wHs E q4 ah4 v4, wSight E a5 p154.2, wSight E a6 v6, wBest E a7 (rf2 (a8 0) (a9 0)) v7, wHouse E a8 v8, wSight E a9 v9]) (c_X8_guard (E := E) (a0 := a0) (h0_1 := a2 0) (h0_2 := a3 0) (h0_3 := a5 0) (h0_4 := a6 0) (h0_5 := a7 0) (h0_6 := h0_6) (h0_7 := h0_7) (h0_8 := h0_8) (h0_9 := h0_9) (a1 := a1) hp164) gL_isBest_X8_guard rfl yk_X8_guard ⟨by decide, Nat.le_of_ble_eq_true rfl⟩ ⟨by decide, by decide⟩ clOK8 0 0 rfl rfl [0, 1] [2, 3, 4, 5, 6, 7, 8, 9] 10 rfl (by decide) rfl rfl (Nat.le_of_ble_eq_true rfl) dL_isBest_164 ?_
      rintro _ _ ⟨rfl, rfl⟩
      refine ww_perm (gs' := [wGW E a0 (rf10 (a1 0) (a2 0) (a3 0) (a5 0) (a6 0) (a7 0) h0_6 h0_7 h0_8 h0_9) v0, wHouse E a1 v1, wHouse E a2 v2, wHist E a3 (rf2 q4 h3_1) v3, wHs E q4 ah4 v4, wSight E a5 p154.2, wSight E a6 v6, wBest E a7 (rf2 (a8 0) (a9 0)) v7, wHouse E a8 v8, wSight E a9 v9]) [0, 1, 2, 3, 4, 5, 6, 7, 8, 9] 10 rfl (by decide) rfl ?_
      refine ww_aload_n C dL_isBest_167 rfl 0 rfl ?_
      refine ww_iload C dL_isBest_168 2 rfl ?_
      obtain ⟨p170, hp170, hf⟩ := bdE hf
      refine ww_callV C (As := [.int x6]) (st := [.int p164]) (gr := [wHouse E a2 v2, wHist E a3 (rf2 q4 h3_1) v3, wHs E q4 ah4 v4, wSight E a5 p154.2, wSight E a6 v6]) (c_X8_bestPhase (E := E) (a0 := a0) (h0_1 := a2 0) (h0_2 := a3 0) (h0_3 := a5 0) (h0_4 := a6 0) (h0_6 := h0_6) (h0_7 := h0_7) (h0_8 := h0_8) (h0_9 := h0_9) (a1 := a1) (a2 := a7) (a3 := a8) (a4 := a9) hp170) gL_isBest_X8_bestPhase rfl yk_X8_bestPhase ⟨by decide, Nat.le_of_ble_eq_true rfl⟩ ⟨by decide, by decide⟩ clOK8 0 0 rfl rfl [0, 1, 7, 8, 9] [2, 3, 4, 5, 6] 10 rfl (by decide) rfl rfl (Nat.le_of_ble_eq_true rfl) dL_isBest_170 ?_
      rintro _ _ ⟨rfl, rfl⟩
      refine ww_perm (gs' := [wGW E a0 (rf10 (a1 0) (a2 0) (a3 0) (a5 0) (a6 0) (a7 0) h0_6 h0_7 h0_8 h0_9) v0, wHouse E a1 v1, wHouse E a2 v2, wHist E a3 (rf2 q4 h3_1) v3, wHs E q4 ah4 v4, wSight E a5 p154.2, wSight E a6 v6, wBest E a7 (rf2 (a8 0) (a9 0)) p170.2.1, wHouse E a8 p170.2.2.1, wSight E a9 p170.2.2.2]) [0, 1, 5, 6, 7, 8, 9, 2, 3, 4] 10 rfl (by decide) rfl ?_
      refine ww_icmp_eq (tgt := 178) C dL_isBest_173 (by decide) (fun c_17 => ?_) (fun c_17 => ?_)
      · replace hf := ifT c_17 hf
        obtain ⟨x6_178, e_x6_178⟩ : ∃ y : Int32, y = x6 + 1 := ⟨_, rfl⟩
        replace hf := ltE e_x6_178 hf
        refine ww_iinc (v := x6_178) (lv' := [(6, .int x6_178), (0, .ref (a0 0)), (1, .long x1)]) C dL_isBest_178 2 rfl (by rw [e_x6_178]; rfl) (by decide) rfl ?_
        refine ww_goto (tgt := 150) C dL_isBest_181 (by decide) ?_
        refine ww_sub C (lv' := [(0, .ref (a0 0)), (1, .long x1), (6, .int x6_178)]) [1, 2, 0] rfl ?_
        exact ih _ _ _ _ _ _ _ _ _ _ _ hf
      · replace hf := ifF c_17 hf
        refine ww_iconst (v := 0) C dL_isBest_176 (by decide) ?_
        obtain rfl := Option.some.inj hf
        exact ww_zret C (nar_b false) ⟨rfl, rfl⟩ dL_isBest_177

set_option maxHeartbeats 4000000 in
set_option maxRecDepth 100000 in
theorem w_L_isBest_61 {E : Ex} {K : Kx} (C : Cx E K cL_isBest 8 (some .boolean) RL wsL_isBest rmL_isBest) {a0 : Nat → Nat} {a1 : Nat → Nat} {a2 : Nat → Nat} {a3 : Nat → Nat} {q4 : Nat} {ah4 : Nat → Nat → Nat} {a5 : Nat → Nat} {a6 : Nat → Nat} {a7 : Nat → Nat} {a8 : Nat → Nat} {a9 : Nat → Nat} {h0_6 h0_7 h0_8 h0_9 h3_1 : Nat}  {x1 : Int64} {x3 : Int32} {x4 : Int32} {x5 : Int32} {x6 : Int32} {k22 : Int32 → Int32 → GWV → HouseV → HouseV → HistV → (Nat → HouseV) → SightV → SightV → BestV → HouseV → SightV → Option (Bool × GWV × HouseV × HouseV × HistV × (Nat → HouseV) × SightV × SightV × BestV × HouseV × SightV)} {r : (Bool × GWV × HouseV × HouseV × HistV × (Nat → HouseV) × SightV × SightV × BestV × HouseV × SightV)} (hk22 : ∀  (x5 : Int32) (x6 : Int32) (v0 : GWV) (v1 : HouseV) (v2 : HouseV) (v3 : HistV) (v4 : Nat → HouseV) (v5 : SightV) (v6 : SightV) (v7 : BestV) (v8 : HouseV) (v9 : SightV), k22 x5 x6 v0 v1 v2 v3 v4 v5 v6 v7 v8 v9 = some r → WW E K 0 0 (QQ E K (fun rv g => rv = some (.int (b2i r.1)) ∧ g = [wGW E a0 (rf10 (a1 0) (a2 0) (a3 0) (a5 0) (a6 0) (a7 0) h0_6 h0_7 h0_8 h0_9) r.2.1, wHouse E a1 r.2.2.1, wHouse E a2 r.2.2.2.1, wHist E a3 (rf2 q4 h3_1) r.2.2.2.2.1, wHs E q4 ah4 r.2.2.2.2.2.1, wSight E a5 r.2.2.2.2.2.2.1, wSight E a6 r.2.2.2.2.2.2.2.1, wBest E a7 (rf2 (a8 0) (a9 0)) r.2.2.2.2.2.2.2.2.1, wHouse E a8 r.2.2.2.2.2.2.2.2.2.1, wSight E a9 r.2.2.2.2.2.2.2.2.2.2]) 0 0) 22 [(0, .ref (a0 0)), (1, .long x1), (3, .int x3), (4, .int x4), (5, .int x5), (6, .int x6)] [] [wGW E a0 (rf10 (a1 0) (a2 0) (a3 0) (a5 0) (a6 0) (a7 0) h0_6 h0_7 h0_8 h0_9) v0, wHouse E a1 v1, wHouse E a2 v2, wHist E a3 (rf2 q4 h3_1) v3, wHs E q4 ah4 v4, wSight E a5 v5, wSight E a6 v6, wBest E a7 (rf2 (a8 0) (a9 0)) v7, wHouse E a8 v8, wSight E a9 v9]) : ∀ (n : Nat)  (x7 : Int32) (v0 : GWV) (v1 : HouseV) (v2 : HouseV) (v3 : HistV) (v4 : Nat → HouseV) (v5 : SightV) (v6 : SightV) (v7 : BestV) (v8 : HouseV) (v9 : SightV), L_isBest_61 x1 x3 x4 x5 x6 k22 n x7 v0 v1 v2 v3 v4 v5 v6 v7 v8 v9 = some r → WW E K 0 0 (QQ E K (fun rv g => rv = some (.int (b2i r.1)) ∧ g = [wGW E a0 (rf10 (a1 0) (a2 0) (a3 0) (a5 0) (a6 0) (a7 0) h0_6 h0_7 h0_8 h0_9) r.2.1, wHouse E a1 r.2.2.1, wHouse E a2 r.2.2.2.1, wHist E a3 (rf2 q4 h3_1) r.2.2.2.2.1, wHs E q4 ah4 r.2.2.2.2.2.1, wSight E a5 r.2.2.2.2.2.2.1, wSight E a6 r.2.2.2.2.2.2.2.1, wBest E a7 (rf2 (a8 0) (a9 0)) r.2.2.2.2.2.2.2.2.1, wHouse E a8 r.2.2.2.2.2.2.2.2.2.1, wSight E a9 r.2.2.2.2.2.2.2.2.2.2]) 0 0) 61 [(0, .ref (a0 0)), (1, .long x1), (3, .int x3), (4, .int x4), (5, .int x5), (6, .int x6), (7, .int x7)] [] [wGW E a0 (rf10 (a1 0) (a2 0) (a3 0) (a5 0) (a6 0) (a7 0) h0_6 h0_7 h0_8 h0_9) v0, wHouse E a1 v1, wHouse E a2 v2, wHist E a3 (rf2 q4 h3_1) v3, wHs E q4 ah4 v4, wSight E a5 v5, wSight E a6 v6, wBest E a7 (rf2 (a8 0) (a9 0)) v7, wHouse E a8 v8, wSight E a9 v9] := by
  intro n
  induction n with
  | zero =>
    intro  x7 v0 v1 v2 v3 v4 v5 v6 v7 v8 v9 hf
    simp [L_isBest_61] at hf
  | succ n ih =>
    intro  x7 v0 v1 v2 v3 v4 v5 v6 v7 v8 v9 hf
    rw [L_isBest_61] at hf
    refine ww_iload C dL_isBest_61 6 rfl ?_
    refine ww_aload_n C dL_isBest_63 rfl 0 rfl ?_
    refine ww_iload C dL_isBest_64 5 rfl ?_
    refine ww_iconst (v := 0) C dL_isBest_66 (by decide) ?_
    obtain ⟨p67, hp67, hf⟩ := bdE hf
    refine ww_callV C (As := [.int x6, .int 0]) (st := [.int x7]) (gr := [wHouse E a2 v2, wHist E a3 (rf2 q4 h3_1) v3, wHs E q4 ah4 v4, wSight E a5 v5, wSight E a6 v6, wBest E a7 (rf2 (a8 0) (a9 0)) v7, wHouse E a8 v8, wSight E a9 v9]) (c_X8_guard (E := E) (a0 := a0) (h0_1 := a2 0) (h0_2 := a3 0) (h0_3 := a5 0) (h0_4 := a6 0) (h0_5 := a7 0) (h0_6 := h0_6) (h0_7 := h0_7) (h0_8 := h0_8) (h0_9 := h0_9) (a1 := a1) hp67) gL_isBest_X8_guard rfl yk_X8_guard ⟨by decide, Nat.le_of_ble_eq_true rfl⟩ ⟨by decide, by decide⟩ clOK8 0 0 rfl rfl [0, 1] [2, 3, 4, 5, 6, 7, 8, 9] 10 rfl (by decide) rfl rfl (Nat.le_of_ble_eq_true rfl) dL_isBest_67 ?_
    rintro _ _ ⟨rfl, rfl⟩
    refine ww_perm (gs' := [wGW E a0 (rf10 (a1 0) (a2 0) (a3 0) (a5 0) (a6 0) (a7 0) h0_6 h0_7 h0_8 h0_9) v0, wHouse E a1 v1, wHouse E a2 v2, wHist E a3 (rf2 q4 h3_1) v3, wHs E q4 ah4 v4, wSight E a5 v5, wSight E a6 v6, wBest E a7 (rf2 (a8 0) (a9 0)) v7, wHouse E a8 v8, wSight E a9 v9]) [0, 1, 2, 3, 4, 5, 6, 7, 8, 9] 10 rfl (by decide) rfl ?_
    refine ww_icmp_ge (tgt := 93) C dL_isBest_70 (by decide) (fun c_10 => ?_) (fun c_10 => ?_)
    · replace hf := ifT c_10 hf
      obtain ⟨x6_93, e_x6_93⟩ : ∃ y : Int32, y = x6 + 1 := ⟨_, rfl⟩
      replace hf := ltE e_x6_93 hf
      refine ww_iinc (v := x6_93) (lv' := [(6, .int x6_93), (0, .ref (a0 0)), (1, .long x1), (3, .int x3), (4, .int x4), (5, .int x5), (7, .int x7)]) C dL_isBest_93 5 rfl (by rw [e_x6_93]; rfl) (by decide) rfl ?_
      refine ww_goto (tgt := 22) C dL_isBest_96 (by decide) ?_
      refine ww_sub C (lv' := [(0, .ref (a0 0)), (1, .long x1), (3, .int x3), (4, .int x4), (5, .int x5), (6, .int x6_93)]) [1, 2, 3, 4, 5, 0] rfl ?_
      exact hk22 _ _ _ _ _ _ _ _ _ _ _ _ hf
    · replace hf := ifF c_10 hf
      refine ww_aload_n C dL_isBest_73 rfl 0 rfl ?_
      refine ww_iload C dL_isBest_74 5 rfl ?_
      refine ww_iload C dL_isBest_76 6 rfl ?_
      obtain ⟨p78, hp78, hf⟩ := bdE hf
      refine ww_callV C (As := [.int x6, .int x7]) (st := []) (gr := [wHist E a3 (rf2 q4 h3_1) v3, wHs E q4 ah4 v4, wSight E a5 v5, wBest E a7 (rf2 (a8 0) (a9 0)) v7, wHouse E a8 v8, wSight E a9 v9]) (c_X8_worstWith (E := E) (a0 := a0) (h0_2 := a3 0) (h0_3 := a5 0) (h0_5 := a7 0) (h0_6 := h0_6) (h0_7 := h0_7) (h0_8 := h0_8) (h0_9 := h0_9) (a1 := a1) (a2 := a2) (a3 := a6) hp78) gL_isBest_X8_worstWith rfl yk_X8_worstWith ⟨by decide, Nat.le_of_ble_eq_true rfl⟩ ⟨by decide, by decide⟩ clOK8 0 0 rfl rfl [0, 1, 2, 6] [3, 4, 5, 7, 8, 9] 10 rfl (by decide) rfl rfl (Nat.le_of_ble_eq_true rfl) dL_isBest_78 ?_
      rintro _ _ ⟨rfl, rfl⟩
      refine ww_perm (gs' := [wGW E a0 (rf10 (a1 0) (a2 0) (a3 0) (a5 0) (a6 0) (a7 0) h0_6 h0_7 h0_8 h0_9) v0, wHouse E a1 v1, wHouse E a2 p78.2.1, wHist E a3 (rf2 q4 h3_1) v3, wHs E q4 ah4 v4, wSight E a5 v5, wSight E a6 p78.2.2, wBest E a7 (rf2 (a8 0) (a9 0)) v7, wHouse E a8 v8, wSight E a9 v9]) [0, 1, 2, 4, 5, 6, 3, 7, 8, 9] 10 rfl (by decide) rfl ?_
      refine ww_iload_n C dL_isBest_81 rfl 2 rfl ?_
      refine ww_icmp_ge (tgt := 87) C dL_isBest_82 (by decide) (fun c_11 => ?_) (fun c_11 => ?_)
      · replace hf := ifT c_11 hf
        obtain ⟨x7_87, e_x7_87⟩ : ∃ y : Int32, y = x7 + 1 := ⟨_, rfl⟩
        replace hf := ltE e_x7_87 hf
        refine ww_iinc (v := x7_87) (lv' := [(7, .int x7_87), (0, .ref (a0 0)), (1, .long x1), (3, .int x3), (4, .int x4), (5, .int x5), (6, .int x6)]) C dL_isBest_87 6 rfl (by rw [e_x7_87]; rfl) (by decide) rfl ?_
        refine ww_goto (tgt := 61) C dL_isBest_90 (by decide) ?_
        refine ww_sub C (lv' := [(0, .ref (a0 0)), (1, .long x1), (3, .int x3), (4, .int x4), (5, .int x5), (6, .int x6), (7, .int x7_87)]) [1, 2, 3, 4, 5, 6, 0] rfl ?_
        exact ih _ _ _ _ _ _ _ _ _ _ _ hf
      · replace hf := ifF c_11 hf
        refine ww_iconst (v := 0) C dL_isBest_85 (by decide) ?_
        obtain rfl := Option.some.inj hf
        exact ww_zret C (nar_b false) ⟨rfl, rfl⟩ dL_isBest_86

set_option maxHeartbeats 4000000 in
set_option maxRecDepth 100000 in
theorem w_L_isBest_22 {E : Ex} {K : Kx} (C : Cx E K cL_isBest 8 (some .boolean) RL wsL_isBest rmL_isBest) {a0 : Nat → Nat} {a1 : Nat → Nat} {a2 : Nat → Nat} {a3 : Nat → Nat} {q4 : Nat} {ah4 : Nat → Nat → Nat} {a5 : Nat → Nat} {a6 : Nat → Nat} {a7 : Nat → Nat} {a8 : Nat → Nat} {a9 : Nat → Nat} {h0_6 h0_7 h0_8 h0_9 h3_1 : Nat}  {x1 : Int64} {x3 : Int32} {x4 : Int32} {r : (Bool × GWV × HouseV × HouseV × HistV × (Nat → HouseV) × SightV × SightV × BestV × HouseV × SightV)} : ∀ (n : Nat)  (x5 : Int32) (x6 : Int32) (v0 : GWV) (v1 : HouseV) (v2 : HouseV) (v3 : HistV) (v4 : Nat → HouseV) (v5 : SightV) (v6 : SightV) (v7 : BestV) (v8 : HouseV) (v9 : SightV), L_isBest_22 x1 x3 x4 n x5 x6 v0 v1 v2 v3 v4 v5 v6 v7 v8 v9 = some r → WW E K 0 0 (QQ E K (fun rv g => rv = some (.int (b2i r.1)) ∧ g = [wGW E a0 (rf10 (a1 0) (a2 0) (a3 0) (a5 0) (a6 0) (a7 0) h0_6 h0_7 h0_8 h0_9) r.2.1, wHouse E a1 r.2.2.1, wHouse E a2 r.2.2.2.1, wHist E a3 (rf2 q4 h3_1) r.2.2.2.2.1, wHs E q4 ah4 r.2.2.2.2.2.1, wSight E a5 r.2.2.2.2.2.2.1, wSight E a6 r.2.2.2.2.2.2.2.1, wBest E a7 (rf2 (a8 0) (a9 0)) r.2.2.2.2.2.2.2.2.1, wHouse E a8 r.2.2.2.2.2.2.2.2.2.1, wSight E a9 r.2.2.2.2.2.2.2.2.2.2]) 0 0) 22 [(0, .ref (a0 0)), (1, .long x1), (3, .int x3), (4, .int x4), (5, .int x5), (6, .int x6)] [] [wGW E a0 (rf10 (a1 0) (a2 0) (a3 0) (a5 0) (a6 0) (a7 0) h0_6 h0_7 h0_8 h0_9) v0, wHouse E a1 v1, wHouse E a2 v2, wHist E a3 (rf2 q4 h3_1) v3, wHs E q4 ah4 v4, wSight E a5 v5, wSight E a6 v6, wBest E a7 (rf2 (a8 0) (a9 0)) v7, wHouse E a8 v8, wSight E a9 v9] := by
  intro n
  induction n with
  | zero =>
    intro  x5 x6 v0 v1 v2 v3 v4 v5 v6 v7 v8 v9 hf
    simp [L_isBest_22] at hf
  | succ n ih =>
    intro  x5 x6 v0 v1 v2 v3 v4 v5 v6 v7 v8 v9 hf
    rw [L_isBest_22] at hf
    refine ww_iload C dL_isBest_22 5 rfl ?_
    refine ww_aload_n C dL_isBest_24 rfl 0 rfl ?_
    refine ww_iconst (v := 2) C dL_isBest_25 (by decide) ?_
    obtain ⟨p26, hp26, hf⟩ := bdE hf
    refine ww_callV C (As := [.int 2]) (st := [.int x6]) (gr := [wHouse E a2 v2, wHist E a3 (rf2 q4 h3_1) v3, wHs E q4 ah4 v4, wSight E a6 v6, wBest E a7 (rf2 (a8 0) (a9 0)) v7, wHouse E a8 v8, wSight E a9 v9]) (c_X8_size (E := E) (a0 := a0) (h0_1 := a2 0) (h0_2 := a3 0) (h0_4 := a6 0) (h0_5 := a7 0) (h0_6 := h0_6) (h0_7 := h0_7) (h0_8 := h0_8) (h0_9 := h0_9) (a1 := a1) (a2 := a5) hp26) gL_isBest_X8_size rfl yk_X8_size ⟨by decide, Nat.le_of_ble_eq_true rfl⟩ ⟨by decide, by decide⟩ clOK8 0 0 rfl rfl [0, 1, 5] [2, 3, 4, 6, 7, 8, 9] 10 rfl (by decide) rfl rfl (Nat.le_of_ble_eq_true rfl) dL_isBest_26 ?_
    rintro _ _ ⟨rfl, rfl⟩
    refine ww_perm (gs' := [wGW E a0 (rf10 (a1 0) (a2 0) (a3 0) (a5 0) (a6 0) (a7 0) h0_6 h0_7 h0_8 h0_9) v0, wHouse E a1 v1, wHouse E a2 v2, wHist E a3 (rf2 q4 h3_1) v3, wHs E q4 ah4 v4, wSight E a5 p26.2, wSight E a6 v6, wBest E a7 (rf2 (a8 0) (a9 0)) v7, wHouse E a8 v8, wSight E a9 v9]) [0, 1, 3, 4, 5, 2, 6, 7, 8, 9] 10 rfl (by decide) rfl ?_
    refine ww_icmp_ge (tgt := 99) C dL_isBest_29 (by decide) (fun c_1 => ?_) (fun c_1 => ?_)
    · replace hf := ifT c_1 hf
      refine ww_aload_n C dL_isBest_99 rfl 0 rfl ?_
      obtain ⟨p100, hp100, hf⟩ := bdE hf
      refine ww_callS C (As := [.ref (a0 0)]) (st := []) (gr := [wHouse E a2 v2, wHist E a3 (rf2 q4 h3_1) v3, wHs E q4 ah4 v4, wSight E a6 v6, wBest E a7 (rf2 (a8 0) (a9 0)) v7, wHouse E a8 v8, wSight E a9 v9]) (c_L_all (E := E) (a0 := a0) (h0_1 := a2 0) (h0_2 := a3 0) (h0_4 := a6 0) (h0_5 := a7 0) (h0_6 := h0_6) (h0_7 := h0_7) (h0_8 := h0_8) (h0_9 := h0_9) (a1 := a1) (a2 := a5) hp100) gL_isBest_L_all rfl ysk_L_all ⟨by decide, Nat.le_of_ble_eq_true rfl⟩ ⟨by decide, by decide⟩ [0, 1, 5] [2, 3, 4, 6, 7, 8, 9] 10 rfl (by decide) rfl rfl (Nat.le_of_ble_eq_true rfl) dL_isBest_100 ?_
      rintro _ _ ⟨rfl, rfl⟩
      refine ww_perm (gs' := [wGW E a0 (rf10 (a1 0) (a2 0) (a3 0) (a5 0) (a6 0) (a7 0) h0_6 h0_7 h0_8 h0_9) v0, wHouse E a1 v1, wHouse E a2 v2, wHist E a3 (rf2 q4 h3_1) v3, wHs E q4 ah4 v4, wSight E a5 p100.2, wSight E a6 v6, wBest E a7 (rf2 (a8 0) (a9 0)) v7, wHouse E a8 v8, wSight E a9 v9]) [0, 1, 3, 4, 5, 2, 6, 7, 8, 9] 10 rfl (by decide) rfl ?_
      refine ww_lload_n C dL_isBest_103 rfl 1 rfl ?_
      refine ww_lcmp C dL_isBest_104 ?_
      refine ww_if_ne (tgt := 145) C dL_isBest_105 (by decide) (fun c_2 => ?_) (fun c_2 => ?_)
      · replace hf := ifF c_2 hf
        refine ww_iconst (v := 0) C dL_isBest_145 (by decide) ?_
        obtain rfl := Option.some.inj hf
        exact ww_zret C (nar_b false) ⟨rfl, rfl⟩ dL_isBest_146
      · replace hf := ifT c_2 hf
        refine ww_aload_n C dL_isBest_108 rfl 0 rfl ?_
        obtain ⟨p109, hp109, hf⟩ := bdE hf
        refine ww_callV C (As := []) (st := []) (gr := [wHouse E a2 v2, wSight E a5 p100.2, wSight E a6 v6]) (c_X8_adopt (E := E) (a0 := a0) (h0_1 := a2 0) (h0_3 := a5 0) (h0_4 := a6 0) (h0_6 := h0_6) (h0_7 := h0_7) (h0_8 := h0_8) (h0_9 := h0_9) (a1 := a1) (a2 := a3) (h2_1 := h3_1) (q3 := q4) (ah3 := ah4) (a4 := a7) (a5 := a8) (a6 := a9) hp109) gL_isBest_X8_adopt rfl yk_X8_adopt ⟨by decide, Nat.le_of_ble_eq_true rfl⟩ ⟨by decide, by decide⟩ clOK8 0 0 rfl rfl [0, 1, 3, 4, 7, 8, 9] [2, 5, 6] 10 rfl (by decide) rfl rfl (Nat.le_of_ble_eq_true rfl) dL_isBest_109 ?_
        rintro _ _ ⟨rfl, rfl⟩
        refine ww_perm (gs' := [wGW E a0 (rf10 (a1 0) (a2 0) (a3 0) (a5 0) (a6 0) (a7 0) h0_6 h0_7 h0_8 h0_9) p109.2.1, wHouse E a1 p109.2.2.1, wHouse E a2 v2, wHist E a3 (rf2 q4 h3_1) p109.2.2.2.1, wHs E q4 ah4 p109.2.2.2.2.1, wSight E a5 p100.2, wSight E a6 v6, wBest E a7 (rf2 (a8 0) (a9 0)) p109.2.2.2.2.2.1, wHouse E a8 p109.2.2.2.2.2.2.1, wSight E a9 p109.2.2.2.2.2.2.2]) [0, 1, 7, 2, 3, 8, 9, 4, 5, 6] 10 rfl (by decide) rfl ?_
        refine ww_iload C dL_isBest_112 4 rfl ?_
        refine ww_icmp_ne (tgt := 145) C dL_isBest_114 (by decide) (fun c_3 => ?_) (fun c_3 => ?_)
        · replace hf := ifF c_3 hf
          refine ww_iconst (v := 0) C dL_isBest_145 (by decide) ?_
          obtain rfl := Option.some.inj hf
          exact ww_zret C (nar_b false) ⟨rfl, rfl⟩ dL_isBest_146
        · replace hf := ifT c_3 hf
          refine ww_aload_n C dL_isBest_117 rfl 0 rfl ?_
          refine ww_iconst (v := 5) C dL_isBest_118 (by decide) ?_
          obtain ⟨p119, hp119, hf⟩ := bdE hf
          refine ww_callV C (As := [.int 5]) (st := []) (gr := [wHouse E a2 v2, wHist E a3 (rf2 q4 h3_1) p109.2.2.2.1, wHs E q4 ah4 p109.2.2.2.2.1, wSight E a6 v6, wBest E a7 (rf2 (a8 0) (a9 0)) p109.2.2.2.2.2.1, wHouse E a8 p109.2.2.2.2.2.2.1, wSight E a9 p109.2.2.2.2.2.2.2]) (c_X8_size (E := E) (a0 := a0) (h0_1 := a2 0) (h0_2 := a3 0) (h0_4 := a6 0) (h0_5 := a7 0) (h0_6 := h0_6) (h0_7 := h0_7) (h0_8 := h0_8) (h0_9 := h0_9) (a1 := a1) (a2 := a5) hp119) gL_isBest_X8_size rfl yk_X8_size ⟨by decide, Nat.le_of_ble_eq_true rfl⟩ ⟨by decide, by decide⟩ clOK8 0 0 rfl rfl [0, 1, 5] [2, 3, 4, 6, 7, 8, 9] 10 rfl (by decide) rfl rfl (Nat.le_of_ble_eq_true rfl) dL_isBest_119 ?_
          rintro _ _ ⟨rfl, rfl⟩
          refine ww_perm (gs' := [wGW E a0 (rf10 (a1 0) (a2 0) (a3 0) (a5 0) (a6 0) (a7 0) h0_6 h0_7 h0_8 h0_9) p109.2.1, wHouse E a1 p109.2.2.1, wHouse E a2 v2, wHist E a3 (rf2 q4 h3_1) p109.2.2.2.1, wHs E q4 ah4 p109.2.2.2.2.1, wSight E a5 p119.2, wSight E a6 v6, wBest E a7 (rf2 (a8 0) (a9 0)) p109.2.2.2.2.2.1, wHouse E a8 p109.2.2.2.2.2.2.1, wSight E a9 p109.2.2.2.2.2.2.2]) [0, 1, 3, 4, 5, 2, 6, 7, 8, 9] 10 rfl (by decide) rfl ?_
          refine ww_iload_n C dL_isBest_122 rfl 2 rfl ?_
          refine ww_icmp_ne (tgt := 145) C dL_isBest_123 (by decide) (fun c_4 => ?_) (fun c_4 => ?_)
          · replace hf := ifF c_4 hf
            refine ww_iconst (v := 0) C dL_isBest_145 (by decide) ?_
            obtain rfl := Option.some.inj hf
            exact ww_zret C (nar_b false) ⟨rfl, rfl⟩ dL_isBest_146
          · replace hf := ifT c_4 hf
            refine ww_aload_n C dL_isBest_126 rfl 0 rfl ?_
            refine ww_bipush (v := 7) C dL_isBest_127 (by decide) ?_
            obtain ⟨p129, hp129, hf⟩ := bdE hf
            refine ww_callV C (As := [.int 7]) (st := []) (gr := [wHouse E a2 v2, wHist E a3 (rf2 q4 h3_1) p109.2.2.2.1, wHs E q4 ah4 p109.2.2.2.2.1, wSight E a6 v6, wBest E a7 (rf2 (a8 0) (a9 0)) p109.2.2.2.2.2.1, wHouse E a8 p109.2.2.2.2.2.2.1, wSight E a9 p109.2.2.2.2.2.2.2]) (c_X8_size (E := E) (a0 := a0) (h0_1 := a2 0) (h0_2 := a3 0) (h0_4 := a6 0) (h0_5 := a7 0) (h0_6 := h0_6) (h0_7 := h0_7) (h0_8 := h0_8) (h0_9 := h0_9) (a1 := a1) (a2 := a5) hp129) gL_isBest_X8_size rfl yk_X8_size ⟨by decide, Nat.le_of_ble_eq_true rfl⟩ ⟨by decide, by decide⟩ clOK8 0 0 rfl rfl [0, 1, 5] [2, 3, 4, 6, 7, 8, 9] 10 rfl (by decide) rfl rfl (Nat.le_of_ble_eq_true rfl) dL_isBest_129 ?_
            rintro _ _ ⟨rfl, rfl⟩
            refine ww_perm (gs' := [wGW E a0 (rf10 (a1 0) (a2 0) (a3 0) (a5 0) (a6 0) (a7 0) h0_6 h0_7 h0_8 h0_9) p109.2.1, wHouse E a1 p109.2.2.1, wHouse E a2 v2, wHist E a3 (rf2 q4 h3_1) p109.2.2.2.1, wHs E q4 ah4 p109.2.2.2.2.1, wSight E a5 p129.2, wSight E a6 v6, wBest E a7 (rf2 (a8 0) (a9 0)) p109.2.2.2.2.2.1, wHouse E a8 p109.2.2.2.2.2.2.1, wSight E a9 p109.2.2.2.2.2.2.2]) [0, 1, 3, 4, 5, 2, 6, 7, 8, 9] 10 rfl (by decide) rfl ?_
            refine ww_iload C dL_isBest_132 3 rfl ?_
            refine ww_icmp_ne (tgt := 145) C dL_isBest_134 (by decide) (fun c_5 => ?_) (fun c_5 => ?_)
            · replace hf := ifF c_5 hf
              refine ww_iconst (v := 0) C dL_isBest_145 (by decide) ?_
              obtain rfl := Option.some.inj hf
              exact ww_zret C (nar_b false) ⟨rfl, rfl⟩ dL_isBest_146
            · replace hf := ifT c_5 hf
              refine ww_aload_n C dL_isBest_137 rfl 0 rfl ?_
              obtain ⟨p138, hp138, hf⟩ := bdE hf
              refine ww_callV C (As := []) (st := []) (gr := [wHouse E a2 v2, wHist E a3 (rf2 q4 h3_1) p109.2.2.2.1, wHs E q4 ah4 p109.2.2.2.2.1, wSight E a5 p129.2, wSight E a6 v6]) (c_X8_bestWorst (E := E) (a0 := a0) (h0_1 := a2 0) (h0_2 := a3 0) (h0_3 := a5 0) (h0_4 := a6 0) (h0_6 := h0_6) (h0_7 := h0_7) (h0_8 := h0_8) (h0_9 := h0_9) (a1 := a1) (a2 := a7) (a3 := a8) (a4 := a9) hp138) gL_isBest_X8_bestWorst rfl yk_X8_bestWorst ⟨by decide, Nat.le_of_ble_eq_true rfl⟩ ⟨by decide, by decide⟩ clOK8 0 0 rfl rfl [0, 1, 7, 8, 9] [2, 3, 4, 5, 6] 10 rfl (by decide) rfl rfl (Nat.le_of_ble_eq_true rfl) dL_isBest_138 ?_
              rintro _ _ ⟨rfl, rfl⟩
              refine ww_perm (gs' := [wGW E a0 (rf10 (a1 0) (a2 0) (a3 0) (a5 0) (a6 0) (a7 0) h0_6 h0_7 h0_8 h0_9) p109.2.1, wHouse E a1 p109.2.2.1, wHouse E a2 v2, wHist E a3 (rf2 q4 h3_1) p109.2.2.2.1, wHs E q4 ah4 p109.2.2.2.2.1, wSight E a5 p129.2, wSight E a6 v6, wBest E a7 (rf2 (a8 0) (a9 0)) p138.2.1, wHouse E a8 p138.2.2.1, wSight E a9 p138.2.2.2]) [0, 1, 5, 6, 7, 8, 9, 2, 3, 4] 10 rfl (by decide) rfl ?_
              refine ww_iload_n C dL_isBest_141 rfl 2 rfl ?_
              refine ww_icmp_eq (tgt := 147) C dL_isBest_142 (by decide) (fun c_6 => ?_) (fun c_6 => ?_)
              · replace hf := ifT c_6 hf
                refine ww_iconst (v := 0) C dL_isBest_147 (by decide) ?_
                refine ww_istore (lv' := [(6, .int 0), (0, .ref (a0 0)), (1, .long x1), (3, .int x3), (4, .int x4), (5, .int x5)]) C dL_isBest_148 (by decide) rfl ?_
                refine ww_sub C (lv' := [(0, .ref (a0 0)), (1, .long x1), (6, .int 0)]) [1, 2, 0] rfl ?_
                exact w_L_isBest_150 C FU _ _ _ _ _ _ _ _ _ _ _ hf
              · replace hf := ifF c_6 hf
                refine ww_iconst (v := 0) C dL_isBest_145 (by decide) ?_
                obtain rfl := Option.some.inj hf
                exact ww_zret C (nar_b false) ⟨rfl, rfl⟩ dL_isBest_146
    · replace hf := ifF c_1 hf
      refine ww_iload C dL_isBest_32 4 rfl ?_
      refine ww_aload_n C dL_isBest_34 rfl 0 rfl ?_
      refine ww_iload C dL_isBest_35 5 rfl ?_
      obtain ⟨p37, hp37, hf⟩ := bdE hf
      refine ww_callV C (As := [.int x6]) (st := [.int x5]) (gr := [wHouse E a2 v2, wHist E a3 (rf2 q4 h3_1) v3, wHs E q4 ah4 v4, wSight E a5 p26.2, wSight E a6 v6]) (c_X8_bestPhase (E := E) (a0 := a0) (h0_1 := a2 0) (h0_2 := a3 0) (h0_3 := a5 0) (h0_4 := a6 0) (h0_6 := h0_6) (h0_7 := h0_7) (h0_8 := h0_8) (h0_9 := h0_9) (a1 := a1) (a2 := a7) (a3 := a8) (a4 := a9) hp37) gL_isBest_X8_bestPhase rfl yk_X8_bestPhase ⟨by decide, Nat.le_of_ble_eq_true rfl⟩ ⟨by decide, by decide⟩ clOK8 0 0 rfl rfl [0, 1, 7, 8, 9] [2, 3, 4, 5, 6] 10 rfl (by decide) rfl rfl (Nat.le_of_ble_eq_true rfl) dL_isBest_37 ?_
      rintro _ _ ⟨rfl, rfl⟩
      refine ww_perm (gs' := [wGW E a0 (rf10 (a1 0) (a2 0) (a3 0) (a5 0) (a6 0) (a7 0) h0_6 h0_7 h0_8 h0_9) v0, wHouse E a1 v1, wHouse E a2 v2, wHist E a3 (rf2 q4 h3_1) v3, wHs E q4 ah4 v4, wSight E a5 p26.2, wSight E a6 v6, wBest E a7 (rf2 (a8 0) (a9 0)) p37.2.1, wHouse E a8 p37.2.2.1, wSight E a9 p37.2.2.2]) [0, 1, 5, 6, 7, 8, 9, 2, 3, 4] 10 rfl (by decide) rfl ?_
      refine ww_aload_n C dL_isBest_40 rfl 0 rfl ?_
      refine ww_iload C dL_isBest_41 5 rfl ?_
      refine ww_iconst (v := 1) C dL_isBest_43 (by decide) ?_
      obtain ⟨p44, hp44, hf⟩ := bdE hf
      refine ww_callV C (As := [.int x6, .int 1]) (st := [.int p37.1, .int x5]) (gr := [wHouse E a2 v2, wHist E a3 (rf2 q4 h3_1) v3, wHs E q4 ah4 v4, wSight E a5 p26.2, wSight E a6 v6, wBest E a7 (rf2 (a8 0) (a9 0)) p37.2.1, wHouse E a8 p37.2.2.1, wSight E a9 p37.2.2.2]) (c_X8_guard (E := E) (a0 := a0) (h0_1 := a2 0) (h0_2 := a3 0) (h0_3 := a5 0) (h0_4 := a6 0) (h0_5 := a7 0) (h0_6 := h0_6) (h0_7 := h0_7) (h0_8 := h0_8) (h0_9 := h0_9) (a1 := a1) hp44) gL_isBest_X8_guard rfl yk_X8_guard ⟨by decide, Nat.le_of_ble_eq_true rfl⟩ ⟨by decide, by decide⟩ clOK8 0 0 rfl rfl [0, 1] [2, 3, 4, 5, 6, 7, 8, 9] 10 rfl (by decide) rfl rfl (Nat.le_of_ble_eq_true rfl) dL_isBest_44 ?_
      rintro _ _ ⟨rfl, rfl⟩
      refine ww_perm (gs' := [wGW E a0 (rf10 (a1 0) (a2 0) (a3 0) (a5 0) (a6 0) (a7 0) h0_6 h0_7 h0_8 h0_9) v0, wHouse E a1 v1, wHouse E a2 v2, wHist E a3 (rf2 q4 h3_1) v3, wHs E q4 ah4 v4, wSight E a5 p26.2, wSight E a6 v6, wBest E a7 (rf2 (a8 0) (a9 0)) p37.2.1, wHouse E a8 p37.2.2.1, wSight E a9 p37.2.2.2]) [0, 1, 2, 3, 4, 5, 6, 7, 8, 9] 10 rfl (by decide) rfl ?_
      refine ww_icmp_ne (tgt := 54) C dL_isBest_47 (by decide) (fun c_7 => ?_) (fun c_7 => ?_)
      · replace hf := ifF c_7 hf
        refine ww_iconst (v := 1) C dL_isBest_54 (by decide) ?_
        refine ww_iadd C dL_isBest_55 ?_
        refine ww_topi (fun x5_56 e_x5_56 => ?_)
        replace hf := ltE e_x5_56 hf
        refine ww_istore (lv' := [(5, .int x5_56), (0, .ref (a0 0)), (1, .long x1), (3, .int x3), (4, .int x4), (6, .int x6)]) C dL_isBest_56 (by decide) rfl ?_
        refine ww_iconst (v := 0) C dL_isBest_58 (by decide) ?_
        refine ww_istore (lv' := [(7, .int 0), (5, .int x5_56), (0, .ref (a0 0)), (1, .long x1), (3, .int x3), (4, .int x4), (6, .int x6)]) C dL_isBest_59 (by decide) rfl ?_
        refine ww_sub C (lv' := [(0, .ref (a0 0)), (1, .long x1), (3, .int x3), (4, .int x4), (5, .int x5_56), (6, .int x6), (7, .int 0)]) [2, 3, 4, 5, 1, 6, 0] rfl ?_
        exact w_L_isBest_61 C (k22 := (fun (x5 : Int32) (x6 : Int32) (v0 : GWV) (v1 : HouseV) (v2 : HouseV) (v3 : HistV) (v4 : Nat → HouseV) (v5 : SightV) (v6 : SightV) (v7 : BestV) (v8 : HouseV) (v9 : SightV) => L_isBest_22 x1 x3 x4 n x5 x6 v0 v1 v2 v3 v4 v5 v6 v7 v8 v9)) ih FU _ _ _ _ _ _ _ _ _ _ _ hf
      · replace hf := ifT c_7 hf
        refine ww_iconst (v := 0) C dL_isBest_50 (by decide) ?_
        refine ww_goto (tgt := 55) C dL_isBest_51 (by decide) ?_
        refine ww_iadd C dL_isBest_55 ?_
        refine ww_topi (fun x5_56 e_x5_56 => ?_)
        replace hf := ltE e_x5_56 hf
        refine ww_istore (lv' := [(5, .int x5_56), (0, .ref (a0 0)), (1, .long x1), (3, .int x3), (4, .int x4), (6, .int x6)]) C dL_isBest_56 (by decide) rfl ?_
        refine ww_iconst (v := 0) C dL_isBest_58 (by decide) ?_
        refine ww_istore (lv' := [(7, .int 0), (5, .int x5_56), (0, .ref (a0 0)), (1, .long x1), (3, .int x3), (4, .int x4), (6, .int x6)]) C dL_isBest_59 (by decide) rfl ?_
        refine ww_sub C (lv' := [(0, .ref (a0 0)), (1, .long x1), (3, .int x3), (4, .int x4), (5, .int x5_56), (6, .int x6), (7, .int 0)]) [2, 3, 4, 5, 1, 6, 0] rfl ?_
        exact w_L_isBest_61 C (k22 := (fun (x5 : Int32) (x6 : Int32) (v0 : GWV) (v1 : HouseV) (v2 : HouseV) (v3 : HistV) (v4 : Nat → HouseV) (v5 : SightV) (v6 : SightV) (v7 : BestV) (v8 : HouseV) (v9 : SightV) => L_isBest_22 x1 x3 x4 n x5 x6 v0 v1 v2 v3 v4 v5 v6 v7 v8 v9)) ih FU _ _ _ _ _ _ _ _ _ _ _ hf

set_option maxHeartbeats 4000000 in
set_option maxRecDepth 100000 in
theorem c_L_isBest {E : Ex} {a0 : Nat → Nat} {a1 : Nat → Nat} {a2 : Nat → Nat} {a3 : Nat → Nat} {q4 : Nat} {ah4 : Nat → Nat → Nat} {a5 : Nat → Nat} {a6 : Nat → Nat} {a7 : Nat → Nat} {a8 : Nat → Nat} {a9 : Nat → Nat} {h0_6 h0_7 h0_8 h0_9 h3_1 : Nat} {v0 : GWV} {v1 : HouseV} {v2 : HouseV} {v3 : HistV} {v4 : Nat → HouseV} {v5 : SightV} {v6 : SightV} {v7 : BestV} {v8 : HouseV} {v9 : SightV} {r : (Bool × GWV × HouseV × HouseV × HistV × (Nat → HouseV) × SightV × SightV × BestV × HouseV × SightV)} (hf : L_isBest v0 v1 v2 v3 v4 v5 v6 v7 v8 v9 = some r) : Ct E yL_isBest wsL_isBest rmL_isBest [.ref (a0 0)] [wGW E a0 (rf10 (a1 0) (a2 0) (a3 0) (a5 0) (a6 0) (a7 0) h0_6 h0_7 h0_8 h0_9) v0, wHouse E a1 v1, wHouse E a2 v2, wHist E a3 (rf2 q4 h3_1) v3, wHs E q4 ah4 v4, wSight E a5 v5, wSight E a6 v6, wBest E a7 (rf2 (a8 0) (a9 0)) v7, wHouse E a8 v8, wSight E a9 v9] (fun rv g => rv = some (.int (b2i r.1)) ∧ g = [wGW E a0 (rf10 (a1 0) (a2 0) (a3 0) (a5 0) (a6 0) (a7 0) h0_6 h0_7 h0_8 h0_9) r.2.1, wHouse E a1 r.2.2.1, wHouse E a2 r.2.2.2.1, wHist E a3 (rf2 q4 h3_1) r.2.2.2.2.1, wHs E q4 ah4 r.2.2.2.2.2.1, wSight E a5 r.2.2.2.2.2.2.1, wSight E a6 r.2.2.2.2.2.2.2.1, wBest E a7 (rf2 (a8 0) (a9 0)) r.2.2.2.2.2.2.2.2.1, wHouse E a8 r.2.2.2.2.2.2.2.2.2.1, wSight E a9 r.2.2.2.2.2.2.2.2.2.2]) := by
  refine ct_of (own := RL) (by decide +kernel) rfl rfl (Nat.le_of_ble_eq_true rfl) (fun K C => ?_)
  refine ww_sub C (lv' := [(0, .ref (a0 0))]) [0] rfl ?_
  rw [L_isBest] at hf
  refine ww_aload_n C dL_isBest_0 rfl 0 rfl ?_
  obtain ⟨p1, hp1, hf⟩ := bdE hf
  refine ww_callS C (As := [.ref (a0 0)]) (st := []) (gr := [wHouse E a2 v2, wHist E a3 (rf2 q4 h3_1) v3, wHs E q4 ah4 v4, wSight E a6 v6, wBest E a7 (rf2 (a8 0) (a9 0)) v7, wHouse E a8 v8, wSight E a9 v9]) (c_L_all (E := E) (a0 := a0) (h0_1 := a2 0) (h0_2 := a3 0) (h0_4 := a6 0) (h0_5 := a7 0) (h0_6 := h0_6) (h0_7 := h0_7) (h0_8 := h0_8) (h0_9 := h0_9) (a1 := a1) (a2 := a5) hp1) gL_isBest_L_all rfl ysk_L_all ⟨by decide, Nat.le_of_ble_eq_true rfl⟩ ⟨by decide, by decide⟩ [0, 1, 5] [2, 3, 4, 6, 7, 8, 9] 10 rfl (by decide) rfl rfl (Nat.le_of_ble_eq_true rfl) dL_isBest_1 ?_
  rintro _ _ ⟨rfl, rfl⟩
  refine ww_perm (gs' := [wGW E a0 (rf10 (a1 0) (a2 0) (a3 0) (a5 0) (a6 0) (a7 0) h0_6 h0_7 h0_8 h0_9) v0, wHouse E a1 v1, wHouse E a2 v2, wHist E a3 (rf2 q4 h3_1) v3, wHs E q4 ah4 v4, wSight E a5 p1.2, wSight E a6 v6, wBest E a7 (rf2 (a8 0) (a9 0)) v7, wHouse E a8 v8, wSight E a9 v9]) [0, 1, 3, 4, 5, 2, 6, 7, 8, 9] 10 rfl (by decide) rfl ?_
  refine ww_lstore_n (lv' := [(1, .long p1.1), (0, .ref (a0 0))]) C dL_isBest_4 rfl (by decide) rfl ?_
  refine ww_aload_n C dL_isBest_5 rfl 1 rfl ?_
  obtain ⟨p6, hp6, hf⟩ := bdE hf
  refine ww_callV C (As := []) (st := []) (gr := [wHouse E a2 v2, wHist E a3 (rf2 q4 h3_1) v3, wHs E q4 ah4 v4, wSight E a5 p1.2, wSight E a6 v6]) (c_X8_bestWorst (E := E) (a0 := a0) (h0_1 := a2 0) (h0_2 := a3 0) (h0_3 := a5 0) (h0_4 := a6 0) (h0_6 := h0_6) (h0_7 := h0_7) (h0_8 := h0_8) (h0_9 := h0_9) (a1 := a1) (a2 := a7) (a3 := a8) (a4 := a9) hp6) gL_isBest_X8_bestWorst rfl yk_X8_bestWorst ⟨by decide, Nat.le_of_ble_eq_true rfl⟩ ⟨by decide, by decide⟩ clOK8 0 0 rfl rfl [0, 1, 7, 8, 9] [2, 3, 4, 5, 6] 10 rfl (by decide) rfl rfl (Nat.le_of_ble_eq_true rfl) dL_isBest_6 ?_
  rintro _ _ ⟨rfl, rfl⟩
  refine ww_perm (gs' := [wGW E a0 (rf10 (a1 0) (a2 0) (a3 0) (a5 0) (a6 0) (a7 0) h0_6 h0_7 h0_8 h0_9) v0, wHouse E a1 v1, wHouse E a2 v2, wHist E a3 (rf2 q4 h3_1) v3, wHs E q4 ah4 v4, wSight E a5 p1.2, wSight E a6 v6, wBest E a7 (rf2 (a8 0) (a9 0)) p6.2.1, wHouse E a8 p6.2.2.1, wSight E a9 p6.2.2.2]) [0, 1, 5, 6, 7, 8, 9, 2, 3, 4] 10 rfl (by decide) rfl ?_
  refine ww_istore_n (lv' := [(3, .int p6.1), (1, .long p1.1), (0, .ref (a0 0))]) C dL_isBest_9 rfl (by decide) rfl ?_
  refine ww_aload_n C dL_isBest_10 rfl 2 rfl ?_
  obtain ⟨p11, hp11, hf⟩ := bdE hf
  refine ww_callV C (As := []) (st := []) (gr := [wHouse E a2 v2, wHist E a3 (rf2 q4 h3_1) v3, wHs E q4 ah4 v4, wSight E a5 p1.2, wSight E a6 v6]) (c_X8_bestCrossings (E := E) (a0 := a0) (h0_1 := a2 0) (h0_2 := a3 0) (h0_3 := a5 0) (h0_4 := a6 0) (h0_6 := h0_6) (h0_7 := h0_7) (h0_8 := h0_8) (h0_9 := h0_9) (a1 := a1) (a2 := a7) (a3 := a8) (a4 := a9) hp11) gL_isBest_X8_bestCrossings rfl yk_X8_bestCrossings ⟨by decide, Nat.le_of_ble_eq_true rfl⟩ ⟨by decide, by decide⟩ clOK8 0 0 rfl rfl [0, 1, 7, 8, 9] [2, 3, 4, 5, 6] 10 rfl (by decide) rfl rfl (Nat.le_of_ble_eq_true rfl) dL_isBest_11 ?_
  rintro _ _ ⟨rfl, rfl⟩
  refine ww_perm (gs' := [wGW E a0 (rf10 (a1 0) (a2 0) (a3 0) (a5 0) (a6 0) (a7 0) h0_6 h0_7 h0_8 h0_9) v0, wHouse E a1 v1, wHouse E a2 v2, wHist E a3 (rf2 q4 h3_1) v3, wHs E q4 ah4 v4, wSight E a5 p1.2, wSight E a6 v6, wBest E a7 (rf2 (a8 0) (a9 0)) p11.2.1, wHouse E a8 p11.2.2.1, wSight E a9 p11.2.2.2]) [0, 1, 5, 6, 7, 8, 9, 2, 3, 4] 10 rfl (by decide) rfl ?_
  refine ww_istore (lv' := [(4, .int p11.1), (3, .int p6.1), (1, .long p1.1), (0, .ref (a0 0))]) C dL_isBest_14 (by decide) rfl ?_
  refine ww_iconst (v := 0) C dL_isBest_16 (by decide) ?_
  refine ww_istore (lv' := [(5, .int 0), (4, .int p11.1), (3, .int p6.1), (1, .long p1.1), (0, .ref (a0 0))]) C dL_isBest_17 (by decide) rfl ?_
  refine ww_iconst (v := 0) C dL_isBest_19 (by decide) ?_
  refine ww_istore (lv' := [(6, .int 0), (5, .int 0), (4, .int p11.1), (3, .int p6.1), (1, .long p1.1), (0, .ref (a0 0))]) C dL_isBest_20 (by decide) rfl ?_
  refine ww_sub C (lv' := [(0, .ref (a0 0)), (1, .long p1.1), (3, .int p6.1), (4, .int p11.1), (5, .int 0), (6, .int 0)]) [5, 4, 3, 2, 1, 0] rfl ?_
  exact w_L_isBest_22 C FU _ _ _ _ _ _ _ _ _ _ _ _ hf

theorem ysk_L_isBest : yL_isBest.cls ≠ "java/lang/invoke/MethodHandle" ∧ yL_isBest.cls ≠ "java/lang/invoke/VarHandle" ∧ (parseMethodDescriptor yL_isBest.desc).map (fun d => d.parameters.length) = some 1 := by decide +kernel
abbrev rmL_isPassed : Room := { frames := 7, cells := 3, slots := 36, locals := 155 }
set_option maxHeartbeats 4000000 in
set_option maxRecDepth 100000 in
theorem w_L_isPassed_154 {E : Ex} {K : Kx} (C : Cx E K cL_isPassed 11 (some .boolean) RL wsL_isPassed rmL_isPassed) {a0 : Nat → Nat} {a1 : Nat → Nat} {a2 : Nat → Nat} {q3 : Nat} {ah3 : Nat → Nat → Nat} {a4 : Nat → Nat} {h0_1 h0_4 h0_5 h0_6 h0_7 h0_8 h0_9 h2_1 : Nat} {v0 : GWV}  {d0 : Nat} {d1 : Nat} {d2 : Nat} {x1 : Int64} {x3 : Int32} {x4 : Int32} {x9 : Int32} {s0 : Int32} {v1 : HouseV} {v2 : HistV} {v3 : Nat → HouseV} {v4 : SightV} {l0 : Nat} {w0 : Nat → Int32} {l1 : Nat} {w1 : Nat → Int32} {l2 : Nat} {w2 : Nat → Int32} {c : Nat} {s : Nat} {k124 : Int32 → HouseV → HistV → (Nat → HouseV) → SightV → Nat → (Nat → Int32) → Nat → (Nat → Int32) → Nat → (Nat → Int32) → Nat → Nat → Option (Bool × HouseV × HistV × (Nat → HouseV) × SightV)} {r : (Bool × HouseV × HistV × (Nat → HouseV) × SightV)} (hk124 : ∀ (d0 : Nat) (d1 : Nat) (d2 : Nat) (x9 : Int32) (v1 : HouseV) (v2 : HistV) (v3 : Nat → HouseV) (v4 : SightV) (l0 : Nat) (w0 : Nat → Int32) (l1 : Nat) (w1 : Nat → Int32) (l2 : Nat) (w2 : Nat → Int32) (c : Nat) (s : Nat), c ≤ 3 ∧ s ≤ 36 → k124 x9 v1 v2 v3 v4 l0 w0 l1 w1 l2 w2 c s = some r → WW E K c s (QQ E K (fun rv g => rv = some (.int (b2i r.1)) ∧ g = [wGW E a0 (rf10 (a1 0) h0_1 (a2 0) (a4 0) h0_4 h0_5 h0_6 h0_7 h0_8 h0_9) v0, wHouse E a1 r.2.1, wHist E a2 (rf2 q3 h2_1) r.2.2.1, wHs E q3 ah3 r.2.2.2.1, wSight E a4 r.2.2.2.2]) 3 36) 124 [(0, .ref (a0 0)), (1, .long x1), (3, .int x3), (4, .int x4), (6, .ref d0), (7, .ref d1), (8, .ref d2), (9, .int x9)] [] [wGW E a0 (rf10 (a1 0) h0_1 (a2 0) (a4 0) h0_4 h0_5 h0_6 h0_7 h0_8 h0_9) v0, wHouse E a1 v1, wHist E a2 (rf2 q3 h2_1) v2, wHs E q3 ah3 v3, wSight E a4 v4, wArr E d0 l0 w0, wArr E d1 l1 w1, wArr E d2 l2 w2]) (hcs : c ≤ 3 ∧ s ≤ 36) (hf : L_isPassed_154 v0 k124 x1 x3 x4 x9 s0 v1 v2 v3 v4 l0 w0 l1 w1 l2 w2 c s = some r) : WW E K c s (QQ E K (fun rv g => rv = some (.int (b2i r.1)) ∧ g = [wGW E a0 (rf10 (a1 0) h0_1 (a2 0) (a4 0) h0_4 h0_5 h0_6 h0_7 h0_8 h0_9) v0, wHouse E a1 r.2.1, wHist E a2 (rf2 q3 h2_1) r.2.2.1, wHs E q3 ah3 r.2.2.2.1, wSight E a4 r.2.2.2.2]) 3 36) 154 [(0, .ref (a0 0)), (1, .long x1), (3, .int x3), (4, .int x4), (6, .ref d0), (7, .ref d1), (8, .ref d2), (9, .int x9)] [.int s0] [wGW E a0 (rf10 (a1 0) h0_1 (a2 0) (a4 0) h0_4 h0_5 h0_6 h0_7 h0_8 h0_9) v0, wHouse E a1 v1, wHist E a2 (rf2 q3 h2_1) v2, wHs E q3 ah3 v3, wSight E a4 v4, wArr E d0 l0 w0, wArr E d1 l1 w1, wArr E d2 l2 w2] := by
  rw [L_isPassed_154] at hf
  refine ww_istore (lv' := [(10, .int s0), (0, .ref (a0 0)), (1, .long x1), (3, .int x3), (4, .int x4), (6, .ref d0), (7, .ref d1), (8, .ref d2), (9, .int x9)]) C dL_isPassed_154 (by decide) rfl ?_
  refine ww_aload_n C dL_isPassed_156 rfl 1 rfl ?_
  refine ww_iload C dL_isPassed_157 8 rfl ?_
  refine ww_iconst (v := 4) C dL_isPassed_159 (by decide) ?_
  obtain ⟨p160, hp160, hf⟩ := bdE hf
  refine ww_callV C (As := [.int x9, .int 4]) (st := []) (gr := [wHist E a2 (rf2 q3 h2_1) v2, wHs E q3 ah3 v3, wArr E d0 l0 w0, wArr E d1 l1 w1, wArr E d2 l2 w2]) (c_X8_room (E := E) (a0 := a0) (h0_1 := h0_1) (h0_2 := a2 0) (h0_4 := h0_4) (h0_5 := h0_5) (h0_6 := h0_6) (h0_7 := h0_7) (h0_8 := h0_8) (h0_9 := h0_9) (a1 := a1) (a2 := a4) hp160) gL_isPassed_X8_room rfl yk_X8_room ⟨by decide, Nat.le_of_ble_eq_true rfl⟩ hcs clOK8 0 0 rfl rfl [0, 1, 4] [2, 3, 5, 6, 7] 8 rfl (by decide) rfl rfl (Nat.le_of_ble_eq_true rfl) dL_isPassed_160 ?_
  rintro _ _ ⟨rfl, rfl⟩
  refine ww_perm (gs' := [wGW E a0 (rf10 (a1 0) h0_1 (a2 0) (a4 0) h0_4 h0_5 h0_6 h0_7 h0_8 h0_9) v0, wHouse E a1 v1, wHist E a2 (rf2 q3 h2_1) v2, wHs E q3 ah3 v3, wSight E a4 p160.2, wArr E d0 l0 w0, wArr E d1 l1 w1, wArr E d2 l2 w2]) [0, 1, 3, 4, 2, 5, 6, 7] 8 rfl (by decide) rfl ?_
  refine ww_aload C dL_isPassed_163 7 rfl ?_
  refine ww_iload C dL_isPassed_165 8 rfl ?_
  obtain ⟨g_15, hf⟩ := gdE hf
  refine ww_iald C (f := w2) (w := wArr E d2 l2 w2) 7 0 rfl q_Arr (inB_vp g_15) dL_isPassed_167 ?_
  refine ww_iconst (v := 2) C dL_isPassed_168 (by decide) ?_
  refine ww_aload_n C dL_isPassed_169 rfl 1 rfl ?_
  refine ww_iload C dL_isPassed_170 8 rfl ?_
  refine ww_iconst (v := 3) C dL_isPassed_172 (by decide) ?_
  obtain ⟨p173, hp173, hf⟩ := bdE hf
  refine ww_callV C (As := [.int x9, .int 3]) (st := [.int 2, .int (w2 (Int32.toNatClampNeg x9)), .int p160.1]) (gr := [wHist E a2 (rf2 q3 h2_1) v2, wHs E q3 ah3 v3, wArr E d0 l0 w0, wArr E d1 l1 w1, wArr E d2 l2 w2]) (c_X8_room (E := E) (a0 := a0) (h0_1 := h0_1) (h0_2 := a2 0) (h0_4 := h0_4) (h0_5 := h0_5) (h0_6 := h0_6) (h0_7 := h0_7) (h0_8 := h0_8) (h0_9 := h0_9) (a1 := a1) (a2 := a4) hp173) gL_isPassed_X8_room rfl yk_X8_room ⟨by decide, Nat.le_of_ble_eq_true rfl⟩ hcs clOK8 0 0 rfl rfl [0, 1, 4] [2, 3, 5, 6, 7] 8 rfl (by decide) rfl rfl (Nat.le_of_ble_eq_true rfl) dL_isPassed_173 ?_
  rintro _ _ ⟨rfl, rfl⟩
  refine ww_perm (gs' := [wGW E a0 (rf10 (a1 0) h0_1 (a2 0) (a4 0) h0_4 h0_5 h0_6 h0_7 h0_8 h0_9) v0, wHouse E a1 v1, wHist E a2 (rf2 q3 h2_1) v2, wHs E q3 ah3 v3, wSight E a4 p173.2, wArr E d0 l0 w0, wArr E d1 l1 w1, wArr E d2 l2 w2]) [0, 1, 3, 4, 2, 5, 6, 7] 8 rfl (by decide) rfl ?_
  refine ww_imul C dL_isPassed_176 ?_
  refine ww_iadd C dL_isPassed_177 ?_
  refine ww_icmp_ne (tgt := 227) C dL_isPassed_178 (by decide) (fun c_16 => ?_) (fun c_16 => ?_)
  · replace hf := ifF c_16 hf
    refine ww_iconst (v := 0) C dL_isPassed_227 (by decide) ?_
    obtain rfl := Option.some.inj hf
    refine ww_drop (gs' := [wGW E a0 (rf10 (a1 0) h0_1 (a2 0) (a4 0) h0_4 h0_5 h0_6 h0_7 h0_8 h0_9) v0, wHouse E a1 v1, wHist E a2 (rf2 q3 h2_1) v2, wHs E q3 ah3 v3, wSight E a4 p173.2]) [0, 1, 2, 3, 4] [5, 6, 7] 8 rfl (by decide) rfl ?_
    refine ww_widen (k := 3) (n := 36) hcs.1 hcs.2 ?_
    exact ww_zret C (nar_b false) ⟨rfl, rfl⟩ dL_isPassed_228
  · replace hf := ifT c_16 hf
    refine ww_aload_n C dL_isPassed_181 rfl 1 rfl ?_
    refine ww_iload C dL_isPassed_182 8 rfl ?_
    refine ww_bipush (v := 7) C dL_isPassed_184 (by decide) ?_
    obtain ⟨p186, hp186, hf⟩ := bdE hf
    refine ww_callV C (As := [.int x9, .int 7]) (st := []) (gr := [wHist E a2 (rf2 q3 h2_1) v2, wHs E q3 ah3 v3, wArr E d0 l0 w0, wArr E d1 l1 w1, wArr E d2 l2 w2]) (c_X8_room (E := E) (a0 := a0) (h0_1 := h0_1) (h0_2 := a2 0) (h0_4 := h0_4) (h0_5 := h0_5) (h0_6 := h0_6) (h0_7 := h0_7) (h0_8 := h0_8) (h0_9 := h0_9) (a1 := a1) (a2 := a4) hp186) gL_isPassed_X8_room rfl yk_X8_room ⟨by decide, Nat.le_of_ble_eq_true rfl⟩ hcs clOK8 0 0 rfl rfl [0, 1, 4] [2, 3, 5, 6, 7] 8 rfl (by decide) rfl rfl (Nat.le_of_ble_eq_true rfl) dL_isPassed_186 ?_
    rintro _ _ ⟨rfl, rfl⟩
    refine ww_perm (gs' := [wGW E a0 (rf10 (a1 0) h0_1 (a2 0) (a4 0) h0_4 h0_5 h0_6 h0_7 h0_8 h0_9) v0, wHouse E a1 v1, wHist E a2 (rf2 q3 h2_1) v2, wHs E q3 ah3 v3, wSight E a4 p186.2, wArr E d0 l0 w0, wArr E d1 l1 w1, wArr E d2 l2 w2]) [0, 1, 3, 4, 2, 5, 6, 7] 8 rfl (by decide) rfl ?_
    refine ww_aload C dL_isPassed_189 6 rfl ?_
    refine ww_iload C dL_isPassed_191 8 rfl ?_
    obtain ⟨g_17, hf⟩ := gdE hf
    refine ww_iald C (f := w1) (w := wArr E d1 l1 w1) 6 0 rfl q_Arr (inB_vp g_17) dL_isPassed_193 ?_
    refine ww_aload C dL_isPassed_194 5 rfl ?_
    refine ww_iload C dL_isPassed_196 8 rfl ?_
    obtain ⟨g_18, hf⟩ := gdE hf
    refine ww_iald C (f := w0) (w := wArr E d0 l0 w0) 5 0 rfl q_Arr (inB_vp g_18) dL_isPassed_198 ?_
    refine ww_iload C dL_isPassed_199 0 rfl ?_
    refine ww_iadd C dL_isPassed_201 ?_
    refine ww_max C (by decide +kernel) (by decide +kernel) (by decide +kernel) (by decide +kernel) (by decide) (Nat.le_of_ble_eq_true rfl) (by decide) (by decide) dL_isPassed_202 ?_
    refine ww_icmp_gt (tgt := 227) C dL_isPassed_205 (by decide) (fun c_19 => ?_) (fun c_19 => ?_)
    · replace hf := ifT c_19 hf
      refine ww_iconst (v := 0) C dL_isPassed_227 (by decide) ?_
      obtain rfl := Option.some.inj hf
      refine ww_drop (gs' := [wGW E a0 (rf10 (a1 0) h0_1 (a2 0) (a4 0) h0_4 h0_5 h0_6 h0_7 h0_8 h0_9) v0, wHouse E a1 v1, wHist E a2 (rf2 q3 h2_1) v2, wHs E q3 ah3 v3, wSight E a4 p186.2]) [0, 1, 2, 3, 4] [5, 6, 7] 8 rfl (by decide) rfl ?_
      refine ww_widen (k := 3) (n := 36) hcs.1 hcs.2 ?_
      exact ww_zret C (nar_b false) ⟨rfl, rfl⟩ dL_isPassed_228
    · replace hf := ifF c_19 hf
      refine ww_aload_n C dL_isPassed_208 rfl 1 rfl ?_
      refine ww_iload C dL_isPassed_209 8 rfl ?_
      refine ww_bipush (v := 7) C dL_isPassed_211 (by decide) ?_
      obtain ⟨p213, hp213, hf⟩ := bdE hf
      refine ww_callV C (As := [.int x9, .int 7]) (st := []) (gr := [wHist E a2 (rf2 q3 h2_1) v2, wHs E q3 ah3 v3, wArr E d0 l0 w0, wArr E d1 l1 w1, wArr E d2 l2 w2]) (c_X8_room (E := E) (a0 := a0) (h0_1 := h0_1) (h0_2 := a2 0) (h0_4 := h0_4) (h0_5 := h0_5) (h0_6 := h0_6) (h0_7 := h0_7) (h0_8 := h0_8) (h0_9 := h0_9) (a1 := a1) (a2 := a4) hp213) gL_isPassed_X8_room rfl yk_X8_room ⟨by decide, Nat.le_of_ble_eq_true rfl⟩ hcs clOK8 0 0 rfl rfl [0, 1, 4] [2, 3, 5, 6, 7] 8 rfl (by decide) rfl rfl (Nat.le_of_ble_eq_true rfl) dL_isPassed_213 ?_
      rintro _ _ ⟨rfl, rfl⟩
      refine ww_perm (gs' := [wGW E a0 (rf10 (a1 0) h0_1 (a2 0) (a4 0) h0_4 h0_5 h0_6 h0_7 h0_8 h0_9) v0, wHouse E a1 v1, wHist E a2 (rf2 q3 h2_1) v2, wHs E q3 ah3 v3, wSight E a4 p213.2, wArr E d0 l0 w0, wArr E d1 l1 w1, wArr E d2 l2 w2]) [0, 1, 3, 4, 2, 5, 6, 7] 8 rfl (by decide) rfl ?_
      refine ww_iload C dL_isPassed_216 0 rfl ?_
      refine ww_iconst (v := 2) C dL_isPassed_218 (by decide) ?_
      refine ww_iload_n C dL_isPassed_219 rfl 3 rfl ?_
      refine ww_imul C dL_isPassed_220 ?_
      refine ww_min C (by decide +kernel) (by decide +kernel) (by decide +kernel) (by decide +kernel) (by decide) (Nat.le_of_ble_eq_true rfl) (by decide) (by decide) dL_isPassed_221 ?_
      refine ww_icmp_ge (tgt := 229) C dL_isPassed_224 (by decide) (fun c_20 => ?_) (fun c_20 => ?_)
      · replace hf := ifT c_20 hf
        obtain ⟨x9_229, e_x9_229⟩ : ∃ y : Int32, y = x9 + 1 := ⟨_, rfl⟩
        replace hf := ltE e_x9_229 hf
        refine ww_iinc (v := x9_229) (lv' := [(9, .int x9_229), (10, .int s0), (0, .ref (a0 0)), (1, .long x1), (3, .int x3), (4, .int x4), (6, .ref d0), (7, .ref d1), (8, .ref d2)]) C dL_isPassed_229 8 rfl (by rw [e_x9_229]; rfl) (by decide) rfl ?_
        refine ww_goto (tgt := 124) C dL_isPassed_232 (by decide) ?_
        refine ww_sub C (lv' := [(0, .ref (a0 0)), (1, .long x1), (3, .int x3), (4, .int x4), (6, .ref d0), (7, .ref d1), (8, .ref d2), (9, .int x9_229)]) [2, 3, 4, 5, 6, 7, 8, 0] rfl ?_
        exact hk124 _ _ _ _ _ _ _ _ _ _ _ _ _ _ _ _ hcs hf
      · replace hf := ifF c_20 hf
        refine ww_iconst (v := 0) C dL_isPassed_227 (by decide) ?_
        obtain rfl := Option.some.inj hf
        refine ww_drop (gs' := [wGW E a0 (rf10 (a1 0) h0_1 (a2 0) (a4 0) h0_4 h0_5 h0_6 h0_7 h0_8 h0_9) v0, wHouse E a1 v1, wHist E a2 (rf2 q3 h2_1) v2, wHs E q3 ah3 v3, wSight E a4 p213.2]) [0, 1, 2, 3, 4] [5, 6, 7] 8 rfl (by decide) rfl ?_
        refine ww_widen (k := 3) (n := 36) hcs.1 hcs.2 ?_
        exact ww_zret C (nar_b false) ⟨rfl, rfl⟩ dL_isPassed_228

set_option maxHeartbeats 4000000 in
set_option maxRecDepth 100000 in
theorem w_L_isPassed_124 {E : Ex} {K : Kx} (C : Cx E K cL_isPassed 11 (some .boolean) RL wsL_isPassed rmL_isPassed) {a0 : Nat → Nat} {a1 : Nat → Nat} {a2 : Nat → Nat} {q3 : Nat} {ah3 : Nat → Nat → Nat} {a4 : Nat → Nat} {h0_1 h0_4 h0_5 h0_6 h0_7 h0_8 h0_9 h2_1 : Nat} {v0 : GWV} {x1 : Int64} {x3 : Int32} {x4 : Int32} {r : (Bool × HouseV × HistV × (Nat → HouseV) × SightV)} : ∀ (n : Nat) (d0 : Nat) (d1 : Nat) (d2 : Nat) (x9 : Int32) (v1 : HouseV) (v2 : HistV) (v3 : Nat → HouseV) (v4 : SightV) (l0 : Nat) (w0 : Nat → Int32) (l1 : Nat) (w1 : Nat → Int32) (l2 : Nat) (w2 : Nat → Int32) (c : Nat) (s : Nat), c ≤ 3 ∧ s ≤ 36 → L_isPassed_124 v0 x1 x3 x4 n x9 v1 v2 v3 v4 l0 w0 l1 w1 l2 w2 c s = some r → WW E K c s (QQ E K (fun rv g => rv = some (.int (b2i r.1)) ∧ g = [wGW E a0 (rf10 (a1 0) h0_1 (a2 0) (a4 0) h0_4 h0_5 h0_6 h0_7 h0_8 h0_9) v0, wHouse E a1 r.2.1, wHist E a2 (rf2 q3 h2_1) r.2.2.1, wHs E q3 ah3 r.2.2.2.1, wSight E a4 r.2.2.2.2]) 3 36) 124 [(0, .ref (a0 0)), (1, .long x1), (3, .int x3), (4, .int x4), (6, .ref d0), (7, .ref d1), (8, .ref d2), (9, .int x9)] [] [wGW E a0 (rf10 (a1 0) h0_1 (a2 0) (a4 0) h0_4 h0_5 h0_6 h0_7 h0_8 h0_9) v0, wHouse E a1 v1, wHist E a2 (rf2 q3 h2_1) v2, wHs E q3 ah3 v3, wSight E a4 v4, wArr E d0 l0 w0, wArr E d1 l1 w1, wArr E d2 l2 w2] := by
  intro n
  induction n with
  | zero =>
    intro d0 d1 d2 x9 v1 v2 v3 v4 l0 w0 l1 w1 l2 w2 c s hcs hf
    simp [L_isPassed_124] at hf
  | succ n ih =>
    intro d0 d1 d2 x9 v1 v2 v3 v4 l0 w0 l1 w1 l2 w2 c s hcs hf
    rw [L_isPassed_124] at hf
    refine ww_iload C dL_isPassed_124 7 rfl ?_
    refine ww_iload C dL_isPassed_126 3 rfl ?_
    refine ww_icmp_ge (tgt := 235) C dL_isPassed_128 (by decide) (fun c_11 => ?_) (fun c_11 => ?_)
    · replace hf := ifT c_11 hf
      refine ww_aload_n C dL_isPassed_235 rfl 0 rfl ?_
      obtain ⟨p236, hp236, hf⟩ := bdE hf
      refine ww_callV C (As := []) (st := []) (gr := [wSight E a4 v4, wArr E d0 l0 w0, wArr E d1 l1 w1, wArr E d2 l2 w2]) (c_X8_undo (E := E) (a0 := a0) (h0_1 := h0_1) (h0_3 := a4 0) (h0_4 := h0_4) (h0_5 := h0_5) (h0_6 := h0_6) (h0_7 := h0_7) (h0_8 := h0_8) (h0_9 := h0_9) (a1 := a1) (a2 := a2) (h2_1 := h2_1) (q3 := q3) (ah3 := ah3) hp236) gL_isPassed_X8_undo rfl yk_X8_undo ⟨by decide, Nat.le_of_ble_eq_true rfl⟩ hcs clOK8 0 0 rfl rfl [0, 1, 2, 3] [4, 5, 6, 7] 8 rfl (by decide) rfl rfl (Nat.le_of_ble_eq_true rfl) dL_isPassed_236 ?_
      rintro _ _ ⟨rfl, rfl⟩
      refine ww_perm (gs' := [wGW E a0 (rf10 (a1 0) h0_1 (a2 0) (a4 0) h0_4 h0_5 h0_6 h0_7 h0_8 h0_9) v0, wHouse E a1 p236.2.1, wHist E a2 (rf2 q3 h2_1) p236.2.2, wHs E q3 ah3 v3, wSight E a4 v4, wArr E d0 l0 w0, wArr E d1 l1 w1, wArr E d2 l2 w2]) [0, 1, 2, 3, 4, 5, 6, 7] 8 rfl (by decide) rfl ?_
      refine ww_if_lt (tgt := 255) C dL_isPassed_239 (by decide) (fun c_12 => ?_) (fun c_12 => ?_)
      · replace hf := ifT c_12 hf
        refine ww_iconst (v := 0) C dL_isPassed_255 (by decide) ?_
        obtain rfl := Option.some.inj hf
        refine ww_drop (gs' := [wGW E a0 (rf10 (a1 0) h0_1 (a2 0) (a4 0) h0_4 h0_5 h0_6 h0_7 h0_8 h0_9) v0, wHouse E a1 p236.2.1, wHist E a2 (rf2 q3 h2_1) p236.2.2, wHs E q3 ah3 v3, wSight E a4 v4]) [0, 1, 2, 3, 4] [5, 6, 7] 8 rfl (by decide) rfl ?_
        refine ww_widen (k := 3) (n := 36) hcs.1 hcs.2 ?_
        exact ww_zret C (nar_b false) ⟨rfl, rfl⟩ dL_isPassed_256
      · replace hf := ifF c_12 hf
        refine ww_aload_n C dL_isPassed_242 rfl 0 rfl ?_
        obtain ⟨p243, hp243, hf⟩ := bdE hf
        refine ww_callS C (As := [.ref (a0 0)]) (st := []) (gr := [wHist E a2 (rf2 q3 h2_1) p236.2.2, wHs E q3 ah3 v3, wArr E d0 l0 w0, wArr E d1 l1 w1, wArr E d2 l2 w2]) (c_L_all (E := E) (a0 := a0) (h0_1 := h0_1) (h0_2 := a2 0) (h0_4 := h0_4) (h0_5 := h0_5) (h0_6 := h0_6) (h0_7 := h0_7) (h0_8 := h0_8) (h0_9 := h0_9) (a1 := a1) (a2 := a4) hp243) gL_isPassed_L_all rfl ysk_L_all ⟨by decide, Nat.le_of_ble_eq_true rfl⟩ hcs [0, 1, 4] [2, 3, 5, 6, 7] 8 rfl (by decide) rfl rfl (Nat.le_of_ble_eq_true rfl) dL_isPassed_243 ?_
        rintro _ _ ⟨rfl, rfl⟩
        refine ww_perm (gs' := [wGW E a0 (rf10 (a1 0) h0_1 (a2 0) (a4 0) h0_4 h0_5 h0_6 h0_7 h0_8 h0_9) v0, wHouse E a1 p236.2.1, wHist E a2 (rf2 q3 h2_1) p236.2.2, wHs E q3 ah3 v3, wSight E a4 p243.2, wArr E d0 l0 w0, wArr E d1 l1 w1, wArr E d2 l2 w2]) [0, 1, 3, 4, 2, 5, 6, 7] 8 rfl (by decide) rfl ?_
        refine ww_lload_n C dL_isPassed_246 rfl 1 rfl ?_
        refine ww_lcmp C dL_isPassed_247 ?_
        refine ww_if_ne (tgt := 255) C dL_isPassed_248 (by decide) (fun c_13 => ?_) (fun c_13 => ?_)
        · replace hf := ifF c_13 hf
          refine ww_iconst (v := 0) C dL_isPassed_255 (by decide) ?_
          obtain rfl := Option.some.inj hf
          refine ww_drop (gs' := [wGW E a0 (rf10 (a1 0) h0_1 (a2 0) (a4 0) h0_4 h0_5 h0_6 h0_7 h0_8 h0_9) v0, wHouse E a1 p236.2.1, wHist E a2 (rf2 q3 h2_1) p236.2.2, wHs E q3 ah3 v3, wSight E a4 p243.2]) [0, 1, 2, 3, 4] [5, 6, 7] 8 rfl (by decide) rfl ?_
          refine ww_widen (k := 3) (n := 36) hcs.1 hcs.2 ?_
          exact ww_zret C (nar_b false) ⟨rfl, rfl⟩ dL_isPassed_256
        · replace hf := ifT c_13 hf
          refine ww_iconst (v := 1) C dL_isPassed_251 (by decide) ?_
          refine ww_goto (tgt := 256) C dL_isPassed_252 (by decide) ?_
          obtain rfl := Option.some.inj hf
          refine ww_drop (gs' := [wGW E a0 (rf10 (a1 0) h0_1 (a2 0) (a4 0) h0_4 h0_5 h0_6 h0_7 h0_8 h0_9) v0, wHouse E a1 p236.2.1, wHist E a2 (rf2 q3 h2_1) p236.2.2, wHs E q3 ah3 v3, wSight E a4 p243.2]) [0, 1, 2, 3, 4] [5, 6, 7] 8 rfl (by decide) rfl ?_
          refine ww_widen (k := 3) (n := 36) hcs.1 hcs.2 ?_
          exact ww_zret C (nar_b true) ⟨rfl, rfl⟩ dL_isPassed_256
    · replace hf := ifF c_11 hf
      refine ww_aload_n C dL_isPassed_131 rfl 0 rfl ?_
      refine ww_iload C dL_isPassed_132 7 rfl ?_
      refine ww_iconst (v := 1) C dL_isPassed_134 (by decide) ?_
      obtain ⟨p135, hp135, hf⟩ := bdE hf
      refine ww_callV C (As := [.int x9, .int 1]) (st := []) (gr := [wHist E a2 (rf2 q3 h2_1) v2, wHs E q3 ah3 v3, wArr E d0 l0 w0, wArr E d1 l1 w1, wArr E d2 l2 w2]) (c_X8_room (E := E) (a0 := a0) (h0_1 := h0_1) (h0_2 := a2 0) (h0_4 := h0_4) (h0_5 := h0_5) (h0_6 := h0_6) (h0_7 := h0_7) (h0_8 := h0_8) (h0_9 := h0_9) (a1 := a1) (a2 := a4) hp135) gL_isPassed_X8_room rfl yk_X8_room ⟨by decide, Nat.le_of_ble_eq_true rfl⟩ hcs clOK8 0 0 rfl rfl [0, 1, 4] [2, 3, 5, 6, 7] 8 rfl (by decide) rfl rfl (Nat.le_of_ble_eq_true rfl) dL_isPassed_135 ?_
      rintro _ _ ⟨rfl, rfl⟩
      refine ww_perm (gs' := [wGW E a0 (rf10 (a1 0) h0_1 (a2 0) (a4 0) h0_4 h0_5 h0_6 h0_7 h0_8 h0_9) v0, wHouse E a1 v1, wHist E a2 (rf2 q3 h2_1) v2, wHs E q3 ah3 v3, wSight E a4 p135.2, wArr E d0 l0 w0, wArr E d1 l1 w1, wArr E d2 l2 w2]) [0, 1, 3, 4, 2, 5, 6, 7] 8 rfl (by decide) rfl ?_
      refine ww_if_ge (tgt := 147) C dL_isPassed_138 (by decide) (fun c_14 => ?_) (fun c_14 => ?_)
      · replace hf := ifT c_14 hf
        refine ww_aload_n C dL_isPassed_147 rfl 0 rfl ?_
        refine ww_iload C dL_isPassed_148 7 rfl ?_
        refine ww_iconst (v := 1) C dL_isPassed_150 (by decide) ?_
        obtain ⟨p151, hp151, hf⟩ := bdE hf
        refine ww_callV C (As := [.int x9, .int 1]) (st := []) (gr := [wHist E a2 (rf2 q3 h2_1) v2, wHs E q3 ah3 v3, wArr E d0 l0 w0, wArr E d1 l1 w1, wArr E d2 l2 w2]) (c_X8_room (E := E) (a0 := a0) (h0_1 := h0_1) (h0_2 := a2 0) (h0_4 := h0_4) (h0_5 := h0_5) (h0_6 := h0_6) (h0_7 := h0_7) (h0_8 := h0_8) (h0_9 := h0_9) (a1 := a1) (a2 := a4) hp151) gL_isPassed_X8_room rfl yk_X8_room ⟨by decide, Nat.le_of_ble_eq_true rfl⟩ hcs clOK8 0 0 rfl rfl [0, 1, 4] [2, 3, 5, 6, 7] 8 rfl (by decide) rfl rfl (Nat.le_of_ble_eq_true rfl) dL_isPassed_151 ?_
        rintro _ _ ⟨rfl, rfl⟩
        refine ww_perm (gs' := [wGW E a0 (rf10 (a1 0) h0_1 (a2 0) (a4 0) h0_4 h0_5 h0_6 h0_7 h0_8 h0_9) v0, wHouse E a1 v1, wHist E a2 (rf2 q3 h2_1) v2, wHs E q3 ah3 v3, wSight E a4 p151.2, wArr E d0 l0 w0, wArr E d1 l1 w1, wArr E d2 l2 w2]) [0, 1, 3, 4, 2, 5, 6, 7] 8 rfl (by decide) rfl ?_
        refine ww_sub C (lv' := [(0, .ref (a0 0)), (1, .long x1), (3, .int x3), (4, .int x4), (6, .ref d0), (7, .ref d1), (8, .ref d2), (9, .int x9)]) [0, 1, 2, 3, 4, 5, 6, 7] rfl ?_
        exact w_L_isPassed_154 C (k124 := (fun (x9 : Int32) (v1 : HouseV) (v2 : HistV) (v3 : Nat → HouseV) (v4 : SightV) (l0 : Nat) (w0 : Nat → Int32) (l1 : Nat) (w1 : Nat → Int32) (l2 : Nat) (w2 : Nat → Int32) (c : Nat) (s : Nat) => L_isPassed_124 v0 x1 x3 x4 n x9 v1 v2 v3 v4 l0 w0 l1 w1 l2 w2 c s)) ih hcs hf
      · replace hf := ifF c_14 hf
        refine ww_iconst (v := 2) C dL_isPassed_141 (by decide) ?_
        refine ww_iload_n C dL_isPassed_142 rfl 2 rfl ?_
        refine ww_imul C dL_isPassed_143 ?_
        refine ww_goto (tgt := 154) C dL_isPassed_144 (by decide) ?_
        refine ww_sub C (lv' := [(0, .ref (a0 0)), (1, .long x1), (3, .int x3), (4, .int x4), (6, .ref d0), (7, .ref d1), (8, .ref d2), (9, .int x9)]) [0, 1, 2, 3, 4, 5, 6, 7] rfl ?_
        exact w_L_isPassed_154 C (k124 := (fun (x9 : Int32) (v1 : HouseV) (v2 : HistV) (v3 : Nat → HouseV) (v4 : SightV) (l0 : Nat) (w0 : Nat → Int32) (l1 : Nat) (w1 : Nat → Int32) (l2 : Nat) (w2 : Nat → Int32) (c : Nat) (s : Nat) => L_isPassed_124 v0 x1 x3 x4 n x9 v1 v2 v3 v4 l0 w0 l1 w1 l2 w2 c s)) ih hcs hf

set_option maxHeartbeats 4000000 in
set_option maxRecDepth 100000 in
theorem w_L_isPassed_42 {E : Ex} {K : Kx} (C : Cx E K cL_isPassed 11 (some .boolean) RL wsL_isPassed rmL_isPassed) {a0 : Nat → Nat} {a1 : Nat → Nat} {a2 : Nat → Nat} {q3 : Nat} {ah3 : Nat → Nat → Nat} {a4 : Nat → Nat} {h0_1 h0_4 h0_5 h0_6 h0_7 h0_8 h0_9 h2_1 : Nat} {v0 : GWV} {x1 : Int64} {x3 : Int32} {x4 : Int32} {r : (Bool × HouseV × HistV × (Nat → HouseV) × SightV)} : ∀ (n : Nat) (d0 : Nat) (d1 : Nat) (d2 : Nat) (x5 : Int32) (x9 : Int32) (v1 : HouseV) (v2 : HistV) (v3 : Nat → HouseV) (v4 : SightV) (l0 : Nat) (w0 : Nat → Int32) (l1 : Nat) (w1 : Nat → Int32) (l2 : Nat) (w2 : Nat → Int32) (c : Nat) (s : Nat), c ≤ 3 ∧ s ≤ 36 → L_isPassed_42 v0 x1 x3 x4 n x5 x9 v1 v2 v3 v4 l0 w0 l1 w1 l2 w2 c s = some r → WW E K c s (QQ E K (fun rv g => rv = some (.int (b2i r.1)) ∧ g = [wGW E a0 (rf10 (a1 0) h0_1 (a2 0) (a4 0) h0_4 h0_5 h0_6 h0_7 h0_8 h0_9) v0, wHouse E a1 r.2.1, wHist E a2 (rf2 q3 h2_1) r.2.2.1, wHs E q3 ah3 r.2.2.2.1, wSight E a4 r.2.2.2.2]) 3 36) 42 [(0, .ref (a0 0)), (1, .long x1), (3, .int x3), (4, .int x4), (5, .int x5), (6, .ref d0), (7, .ref d1), (8, .ref d2), (9, .int x9)] [] [wGW E a0 (rf10 (a1 0) h0_1 (a2 0) (a4 0) h0_4 h0_5 h0_6 h0_7 h0_8 h0_9) v0, wHouse E a1 v1, wHist E a2 (rf2 q3 h2_1) v2, wHs E q3 ah3 v3, wSight E a4 v4, wArr E d0 l0 w0, wArr E d1 l1 w1, wArr E d2 l2 w2] := by
  intro n
  induction n with
  | zero =>
    intro d0 d1 d2 x5 x9 v1 v2 v3 v4 l0 w0 l1 w1 l2 w2 c s hcs hf
    simp [L_isPassed_42] at hf
  | succ n ih =>
    intro d0 d1 d2 x5 x9 v1 v2 v3 v4 l0 w0 l1 w1 l2 w2 c s hcs hf
    rw [L_isPassed_42] at hf
    refine ww_iload C dL_isPassed_42 8 rfl ?_
    refine ww_iload C dL_isPassed_44 3 rfl ?_
    refine ww_icmp_ge (tgt := 107) C dL_isPassed_46 (by decide) (fun c_5 => ?_) (fun c_5 => ?_)
    · replace hf := ifT c_5 hf
      refine ww_aload_n C dL_isPassed_107 rfl 0 rfl ?_
      refine ww_iconst (v := 2) C dL_isPassed_108 (by decide) ?_
      refine ww_iload_n C dL_isPassed_109 rfl 2 rfl ?_
      refine ww_imul C dL_isPassed_110 ?_
      obtain ⟨p111, hp111, hf⟩ := bdE hf
      refine ww_callV C (As := [.int (2 * x3)]) (st := []) (gr := [wSight E a4 v4, wArr E d0 l0 w0, wArr E d1 l1 w1, wArr E d2 l2 w2]) (c_X8_pass (E := E) (a0 := a0) (h0_1 := h0_1) (h0_3 := a4 0) (h0_4 := h0_4) (h0_5 := h0_5) (h0_6 := h0_6) (h0_7 := h0_7) (h0_8 := h0_8) (h0_9 := h0_9) (a1 := a1) (a2 := a2) (h2_1 := h2_1) (q3 := q3) (ah3 := ah3) hp111) gL_isPassed_X8_pass rfl yk_X8_pass ⟨by decide, Nat.le_of_ble_eq_true rfl⟩ hcs clOK8 0 0 rfl rfl [0, 1, 2, 3] [4, 5, 6, 7] 8 rfl (by decide) rfl rfl (Nat.le_of_ble_eq_true rfl) dL_isPassed_111 ?_
      rintro _ _ ⟨rfl, rfl⟩
      refine ww_perm (gs' := [wGW E a0 (rf10 (a1 0) h0_1 (a2 0) (a4 0) h0_4 h0_5 h0_6 h0_7 h0_8 h0_9) v0, wHouse E a1 p111.2.1, wHist E a2 (rf2 q3 h2_1) p111.2.2.1, wHs E q3 ah3 p111.2.2.2, wSight E a4 v4, wArr E d0 l0 w0, wArr E d1 l1 w1, wArr E d2 l2 w2]) [0, 1, 2, 3, 4, 5, 6, 7] 8 rfl (by decide) rfl ?_
      refine ww_iload C dL_isPassed_114 4 rfl ?_
      refine ww_icmp_eq (tgt := 121) C dL_isPassed_116 (by decide) (fun c_6 => ?_) (fun c_6 => ?_)
      · replace hf := ifT c_6 hf
        refine ww_iconst (v := 0) C dL_isPassed_121 (by decide) ?_
        refine ww_istore (lv' := [(9, .int 0), (0, .ref (a0 0)), (1, .long x1), (3, .int x3), (4, .int x4), (5, .int x5), (6, .ref d0), (7, .ref d1), (8, .ref d2)]) C dL_isPassed_122 (by decide) rfl ?_
        refine ww_sub C (lv' := [(0, .ref (a0 0)), (1, .long x1), (3, .int x3), (4, .int x4), (6, .ref d0), (7, .ref d1), (8, .ref d2), (9, .int 0)]) [1, 2, 3, 4, 6, 7, 8, 0] rfl ?_
        exact w_L_isPassed_124 C FU _ _ _ _ _ _ _ _ _ _ _ _ _ _ _ _ hcs hf
      · replace hf := ifF c_6 hf
        refine ww_iconst (v := 0) C dL_isPassed_119 (by decide) ?_
        obtain rfl := Option.some.inj hf
        refine ww_drop (gs' := [wGW E a0 (rf10 (a1 0) h0_1 (a2 0) (a4 0) h0_4 h0_5 h0_6 h0_7 h0_8 h0_9) v0, wHouse E a1 p111.2.1, wHist E a2 (rf2 q3 h2_1) p111.2.2.1, wHs E q3 ah3 p111.2.2.2, wSight E a4 v4]) [0, 1, 2, 3, 4] [5, 6, 7] 8 rfl (by decide) rfl ?_
        refine ww_widen (k := 3) (n := 36) hcs.1 hcs.2 ?_
        exact ww_zret C (nar_b false) ⟨rfl, rfl⟩ dL_isPassed_120
    · replace hf := ifF c_5 hf
      refine ww_iload C dL_isPassed_49 4 rfl ?_
      refine ww_iconst (v := 2) C dL_isPassed_51 (by decide) ?_
      refine ww_aload_n C dL_isPassed_52 rfl 0 rfl ?_
      refine ww_iload C dL_isPassed_53 8 rfl ?_
      refine ww_iconst (v := 3) C dL_isPassed_55 (by decide) ?_
      obtain ⟨p56, hp56, hf⟩ := bdE hf
      refine ww_callV C (As := [.int x9, .int 3]) (st := [.int 2, .int x5]) (gr := [wHist E a2 (rf2 q3 h2_1) v2, wHs E q3 ah3 v3, wArr E d0 l0 w0, wArr E d1 l1 w1, wArr E d2 l2 w2]) (c_X8_room (E := E) (a0 := a0) (h0_1 := h0_1) (h0_2 := a2 0) (h0_4 := h0_4) (h0_5 := h0_5) (h0_6 := h0_6) (h0_7 := h0_7) (h0_8 := h0_8) (h0_9 := h0_9) (a1 := a1) (a2 := a4) hp56) gL_isPassed_X8_room rfl yk_X8_room ⟨by decide, Nat.le_of_ble_eq_true rfl⟩ hcs clOK8 0 0 rfl rfl [0, 1, 4] [2, 3, 5, 6, 7] 8 rfl (by decide) rfl rfl (Nat.le_of_ble_eq_true rfl) dL_isPassed_56 ?_
      rintro _ _ ⟨rfl, rfl⟩
      refine ww_perm (gs' := [wGW E a0 (rf10 (a1 0) h0_1 (a2 0) (a4 0) h0_4 h0_5 h0_6 h0_7 h0_8 h0_9) v0, wHouse E a1 v1, wHist E a2 (rf2 q3 h2_1) v2, wHs E q3 ah3 v3, wSight E a4 p56.2, wArr E d0 l0 w0, wArr E d1 l1 w1, wArr E d2 l2 w2]) [0, 1, 3, 4, 2, 5, 6, 7] 8 rfl (by decide) rfl ?_
      refine ww_imul C dL_isPassed_59 ?_
      refine ww_iadd C dL_isPassed_60 ?_
      refine ww_topi (fun x5_61 e_x5_61 => ?_)
      replace hf := ltE e_x5_61 hf
      refine ww_istore (lv' := [(5, .int x5_61), (0, .ref (a0 0)), (1, .long x1), (3, .int x3), (4, .int x4), (6, .ref d0), (7, .ref d1), (8, .ref d2), (9, .int x9)]) C dL_isPassed_61 (by decide) rfl ?_
      refine ww_aload C dL_isPassed_63 5 rfl ?_
      refine ww_iload C dL_isPassed_65 8 rfl ?_
      refine ww_aload_n C dL_isPassed_67 rfl 1 rfl ?_
      refine ww_iload C dL_isPassed_68 8 rfl ?_
      refine ww_bipush (v := 6) C dL_isPassed_70 (by decide) ?_
      obtain ⟨p72, hp72, hf⟩ := bdE hf
      refine ww_callV C (As := [.int x9, .int 6]) (st := [.int x9, .ref d0]) (gr := [wHist E a2 (rf2 q3 h2_1) v2, wHs E q3 ah3 v3, wArr E d0 l0 w0, wArr E d1 l1 w1, wArr E d2 l2 w2]) (c_X8_room (E := E) (a0 := a0) (h0_1 := h0_1) (h0_2 := a2 0) (h0_4 := h0_4) (h0_5 := h0_5) (h0_6 := h0_6) (h0_7 := h0_7) (h0_8 := h0_8) (h0_9 := h0_9) (a1 := a1) (a2 := a4) hp72) gL_isPassed_X8_room rfl yk_X8_room ⟨by decide, Nat.le_of_ble_eq_true rfl⟩ hcs clOK8 0 0 rfl rfl [0, 1, 4] [2, 3, 5, 6, 7] 8 rfl (by decide) rfl rfl (Nat.le_of_ble_eq_true rfl) dL_isPassed_72 ?_
      rintro _ _ ⟨rfl, rfl⟩
      refine ww_perm (gs' := [wGW E a0 (rf10 (a1 0) h0_1 (a2 0) (a4 0) h0_4 h0_5 h0_6 h0_7 h0_8 h0_9) v0, wHouse E a1 v1, wHist E a2 (rf2 q3 h2_1) v2, wHs E q3 ah3 v3, wSight E a4 p72.2, wArr E d0 l0 w0, wArr E d1 l1 w1, wArr E d2 l2 w2]) [0, 1, 3, 4, 2, 5, 6, 7] 8 rfl (by decide) rfl ?_
      obtain ⟨g_8, hf⟩ := gdE hf
      obtain ⟨v5_75, e_v5_75⟩ : ∃ y : Nat → Int32, y = upd w0 (Int32.toNatClampNeg x9) p72.1 := ⟨_, rfl⟩
      replace hf := ltE e_v5_75 hf
      refine ww_iast C (f := w0) (w := wArr E d0 l0 w0) (w' := wArr E d0 l0 v5_75) (gs' := [wGW E a0 (rf10 (a1 0) h0_1 (a2 0) (a4 0) h0_4 h0_5 h0_6 h0_7 h0_8 h0_9) v0, wHouse E a1 v1, wHist E a2 (rf2 q3 h2_1) v2, wHs E q3 ah3 v3, wSight E a4 p72.2, wArr E d0 l0 v5_75, wArr E d1 l1 w1, wArr E d2 l2 w2]) 5 0 rfl q_Arr (inB_vp g_8) (by rw [e_v5_75]; exact s_Arr) rfl dL_isPassed_75 ?_
      refine ww_aload C dL_isPassed_76 6 rfl ?_
      refine ww_iload C dL_isPassed_78 8 rfl ?_
      refine ww_aload_n C dL_isPassed_80 rfl 1 rfl ?_
      refine ww_iload C dL_isPassed_81 8 rfl ?_
      refine ww_bipush (v := 7) C dL_isPassed_83 (by decide) ?_
      obtain ⟨p85, hp85, hf⟩ := bdE hf
      refine ww_callV C (As := [.int x9, .int 7]) (st := [.int x9, .ref d1]) (gr := [wHist E a2 (rf2 q3 h2_1) v2, wHs E q3 ah3 v3, wArr E d0 l0 v5_75, wArr E d1 l1 w1, wArr E d2 l2 w2]) (c_X8_room (E := E) (a0 := a0) (h0_1 := h0_1) (h0_2 := a2 0) (h0_4 := h0_4) (h0_5 := h0_5) (h0_6 := h0_6) (h0_7 := h0_7) (h0_8 := h0_8) (h0_9 := h0_9) (a1 := a1) (a2 := a4) hp85) gL_isPassed_X8_room rfl yk_X8_room ⟨by decide, Nat.le_of_ble_eq_true rfl⟩ hcs clOK8 0 0 rfl rfl [0, 1, 4] [2, 3, 5, 6, 7] 8 rfl (by decide) rfl rfl (Nat.le_of_ble_eq_true rfl) dL_isPassed_85 ?_
      rintro _ _ ⟨rfl, rfl⟩
      refine ww_perm (gs' := [wGW E a0 (rf10 (a1 0) h0_1 (a2 0) (a4 0) h0_4 h0_5 h0_6 h0_7 h0_8 h0_9) v0, wHouse E a1 v1, wHist E a2 (rf2 q3 h2_1) v2, wHs E q3 ah3 v3, wSight E a4 p85.2, wArr E d0 l0 v5_75, wArr E d1 l1 w1, wArr E d2 l2 w2]) [0, 1, 3, 4, 2, 5, 6, 7] 8 rfl (by decide) rfl ?_
      obtain ⟨g_9, hf⟩ := gdE hf
      obtain ⟨v6_88, e_v6_88⟩ : ∃ y : Nat → Int32, y = upd w1 (Int32.toNatClampNeg x9) p85.1 := ⟨_, rfl⟩
      replace hf := ltE e_v6_88 hf
      refine ww_iast C (f := w1) (w := wArr E d1 l1 w1) (w' := wArr E d1 l1 v6_88) (gs' := [wGW E a0 (rf10 (a1 0) h0_1 (a2 0) (a4 0) h0_4 h0_5 h0_6 h0_7 h0_8 h0_9) v0, wHouse E a1 v1, wHist E a2 (rf2 q3 h2_1) v2, wHs E q3 ah3 v3, wSight E a4 p85.2, wArr E d0 l0 v5_75, wArr E d1 l1 v6_88, wArr E d2 l2 w2]) 6 0 rfl q_Arr (inB_vp g_9) (by rw [e_v6_88]; exact s_Arr) rfl dL_isPassed_88 ?_
      refine ww_aload C dL_isPassed_89 7 rfl ?_
      refine ww_iload C dL_isPassed_91 8 rfl ?_
      refine ww_aload_n C dL_isPassed_93 rfl 1 rfl ?_
      refine ww_iload C dL_isPassed_94 8 rfl ?_
      refine ww_iconst (v := 4) C dL_isPassed_96 (by decide) ?_
      obtain ⟨p97, hp97, hf⟩ := bdE hf
      refine ww_callV C (As := [.int x9, .int 4]) (st := [.int x9, .ref d2]) (gr := [wHist E a2 (rf2 q3 h2_1) v2, wHs E q3 ah3 v3, wArr E d0 l0 v5_75, wArr E d1 l1 v6_88, wArr E d2 l2 w2]) (c_X8_room (E := E) (a0 := a0) (h0_1 := h0_1) (h0_2 := a2 0) (h0_4 := h0_4) (h0_5 := h0_5) (h0_6 := h0_6) (h0_7 := h0_7) (h0_8 := h0_8) (h0_9 := h0_9) (a1 := a1) (a2 := a4) hp97) gL_isPassed_X8_room rfl yk_X8_room ⟨by decide, Nat.le_of_ble_eq_true rfl⟩ hcs clOK8 0 0 rfl rfl [0, 1, 4] [2, 3, 5, 6, 7] 8 rfl (by decide) rfl rfl (Nat.le_of_ble_eq_true rfl) dL_isPassed_97 ?_
      rintro _ _ ⟨rfl, rfl⟩
      refine ww_perm (gs' := [wGW E a0 (rf10 (a1 0) h0_1 (a2 0) (a4 0) h0_4 h0_5 h0_6 h0_7 h0_8 h0_9) v0, wHouse E a1 v1, wHist E a2 (rf2 q3 h2_1) v2, wHs E q3 ah3 v3, wSight E a4 p97.2, wArr E d0 l0 v5_75, wArr E d1 l1 v6_88, wArr E d2 l2 w2]) [0, 1, 3, 4, 2, 5, 6, 7] 8 rfl (by decide) rfl ?_
      obtain ⟨g_10, hf⟩ := gdE hf
      obtain ⟨v7_100, e_v7_100⟩ : ∃ y : Nat → Int32, y = upd w2 (Int32.toNatClampNeg x9) p97.1 := ⟨_, rfl⟩
      replace hf := ltE e_v7_100 hf
      refine ww_iast C (f := w2) (w := wArr E d2 l2 w2) (w' := wArr E d2 l2 v7_100) (gs' := [wGW E a0 (rf10 (a1 0) h0_1 (a2 0) (a4 0) h0_4 h0_5 h0_6 h0_7 h0_8 h0_9) v0, wHouse E a1 v1, wHist E a2 (rf2 q3 h2_1) v2, wHs E q3 ah3 v3, wSight E a4 p97.2, wArr E d0 l0 v5_75, wArr E d1 l1 v6_88, wArr E d2 l2 v7_100]) 7 0 rfl q_Arr (inB_vp g_10) (by rw [e_v7_100]; exact s_Arr) rfl dL_isPassed_100 ?_
      obtain ⟨x9_101, e_x9_101⟩ : ∃ y : Int32, y = x9 + 1 := ⟨_, rfl⟩
      replace hf := ltE e_x9_101 hf
      refine ww_iinc (v := x9_101) (lv' := [(9, .int x9_101), (5, .int x5_61), (0, .ref (a0 0)), (1, .long x1), (3, .int x3), (4, .int x4), (6, .ref d0), (7, .ref d1), (8, .ref d2)]) C dL_isPassed_101 8 rfl (by rw [e_x9_101]; rfl) (by decide) rfl ?_
      refine ww_goto (tgt := 42) C dL_isPassed_104 (by decide) ?_
      refine ww_sub C (lv' := [(0, .ref (a0 0)), (1, .long x1), (3, .int x3), (4, .int x4), (5, .int x5_61), (6, .ref d0), (7, .ref d1), (8, .ref d2), (9, .int x9_101)]) [2, 3, 4, 5, 1, 6, 7, 8, 0] rfl ?_
      exact ih _ _ _ _ _ _ _ _ _ _ _ _ _ _ _ _ _ hcs hf

set_option maxHeartbeats 4000000 in
set_option maxRecDepth 100000 in
theorem c_L_isPassed {E : Ex} {a0 : Nat → Nat} {a1 : Nat → Nat} {a2 : Nat → Nat} {q3 : Nat} {ah3 : Nat → Nat → Nat} {a4 : Nat → Nat} {h0_1 h0_4 h0_5 h0_6 h0_7 h0_8 h0_9 h2_1 : Nat} {v0 : GWV} {v1 : HouseV} {v2 : HistV} {v3 : Nat → HouseV} {v4 : SightV} {r : (Bool × HouseV × HistV × (Nat → HouseV) × SightV)} (hf : L_isPassed v0 v1 v2 v3 v4 = some r) : Ct E yL_isPassed wsL_isPassed rmL_isPassed [.ref (a0 0)] [wGW E a0 (rf10 (a1 0) h0_1 (a2 0) (a4 0) h0_4 h0_5 h0_6 h0_7 h0_8 h0_9) v0, wHouse E a1 v1, wHist E a2 (rf2 q3 h2_1) v2, wHs E q3 ah3 v3, wSight E a4 v4] (fun rv g => rv = some (.int (b2i r.1)) ∧ g = [wGW E a0 (rf10 (a1 0) h0_1 (a2 0) (a4 0) h0_4 h0_5 h0_6 h0_7 h0_8 h0_9) v0, wHouse E a1 r.2.1, wHist E a2 (rf2 q3 h2_1) r.2.2.1, wHs E q3 ah3 r.2.2.2.1, wSight E a4 r.2.2.2.2]) := by
  refine ct_of (own := RL) (by decide +kernel) rfl rfl (Nat.le_of_ble_eq_true rfl) (fun K C => ?_)
  refine ww_sub C (lv' := [(0, .ref (a0 0))]) [0] rfl ?_
  rw [L_isPassed] at hf
  refine ww_aload_n C dL_isPassed_0 rfl 0 rfl ?_
  obtain ⟨p1, hp1, hf⟩ := bdE hf
  refine ww_callS C (As := [.ref (a0 0)]) (st := []) (gr := [wHist E a2 (rf2 q3 h2_1) v2, wHs E q3 ah3 v3]) (c_L_all (E := E) (a0 := a0) (h0_1 := h0_1) (h0_2 := a2 0) (h0_4 := h0_4) (h0_5 := h0_5) (h0_6 := h0_6) (h0_7 := h0_7) (h0_8 := h0_8) (h0_9 := h0_9) (a1 := a1) (a2 := a4) hp1) gL_isPassed_L_all rfl ysk_L_all ⟨by decide, Nat.le_of_ble_eq_true rfl⟩ ⟨Nat.zero_le _, Nat.zero_le _⟩ [0, 1, 4] [2, 3] 5 rfl (by decide) rfl rfl (Nat.le_of_ble_eq_true rfl) dL_isPassed_1 ?_
  rintro _ _ ⟨rfl, rfl⟩
  refine ww_perm (gs' := [wGW E a0 (rf10 (a1 0) h0_1 (a2 0) (a4 0) h0_4 h0_5 h0_6 h0_7 h0_8 h0_9) v0, wHouse E a1 v1, wHist E a2 (rf2 q3 h2_1) v2, wHs E q3 ah3 v3, wSight E a4 p1.2]) [0, 1, 3, 4, 2] 5 rfl (by decide) rfl ?_
  refine ww_lstore_n (lv' := [(1, .long p1.1), (0, .ref (a0 0))]) C dL_isPassed_4 rfl (by decide) rfl ?_
  refine ww_aload_n C dL_isPassed_5 rfl 1 rfl ?_
  refine ww_iconst (v := 3) C dL_isPassed_6 (by decide) ?_
  obtain ⟨p7, hp7, hf⟩ := bdE hf
  refine ww_callV C (As := [.int 3]) (st := []) (gr := [wHist E a2 (rf2 q3 h2_1) v2, wHs E q3 ah3 v3]) (c_X8_size (E := E) (a0 := a0) (h0_1 := h0_1) (h0_2 := a2 0) (h0_4 := h0_4) (h0_5 := h0_5) (h0_6 := h0_6) (h0_7 := h0_7) (h0_8 := h0_8) (h0_9 := h0_9) (a1 := a1) (a2 := a4) hp7) gL_isPassed_X8_size rfl yk_X8_size ⟨by decide, Nat.le_of_ble_eq_true rfl⟩ ⟨Nat.zero_le _, Nat.zero_le _⟩ clOK8 0 0 rfl rfl [0, 1, 4] [2, 3] 5 rfl (by decide) rfl rfl (Nat.le_of_ble_eq_true rfl) dL_isPassed_7 ?_
  rintro _ _ ⟨rfl, rfl⟩
  refine ww_perm (gs' := [wGW E a0 (rf10 (a1 0) h0_1 (a2 0) (a4 0) h0_4 h0_5 h0_6 h0_7 h0_8 h0_9) v0, wHouse E a1 v1, wHist E a2 (rf2 q3 h2_1) v2, wHs E q3 ah3 v3, wSight E a4 p7.2]) [0, 1, 3, 4, 2] 5 rfl (by decide) rfl ?_
  refine ww_istore_n (lv' := [(3, .int p7.1), (1, .long p1.1), (0, .ref (a0 0))]) C dL_isPassed_10 rfl (by decide) rfl ?_
  refine ww_aload_n C dL_isPassed_11 rfl 2 rfl ?_
  refine ww_iconst (v := 0) C dL_isPassed_12 (by decide) ?_
  obtain ⟨p13, hp13, hf⟩ := bdE hf
  refine ww_callV C (As := [.int 0]) (st := []) (gr := [wHist E a2 (rf2 q3 h2_1) v2, wHs E q3 ah3 v3]) (c_X8_size (E := E) (a0 := a0) (h0_1 := h0_1) (h0_2 := a2 0) (h0_4 := h0_4) (h0_5 := h0_5) (h0_6 := h0_6) (h0_7 := h0_7) (h0_8 := h0_8) (h0_9 := h0_9) (a1 := a1) (a2 := a4) hp13) gL_isPassed_X8_size rfl yk_X8_size ⟨by decide, Nat.le_of_ble_eq_true rfl⟩ ⟨Nat.zero_le _, Nat.zero_le _⟩ clOK8 0 0 rfl rfl [0, 1, 4] [2, 3] 5 rfl (by decide) rfl rfl (Nat.le_of_ble_eq_true rfl) dL_isPassed_13 ?_
  rintro _ _ ⟨rfl, rfl⟩
  refine ww_perm (gs' := [wGW E a0 (rf10 (a1 0) h0_1 (a2 0) (a4 0) h0_4 h0_5 h0_6 h0_7 h0_8 h0_9) v0, wHouse E a1 v1, wHist E a2 (rf2 q3 h2_1) v2, wHs E q3 ah3 v3, wSight E a4 p13.2]) [0, 1, 3, 4, 2] 5 rfl (by decide) rfl ?_
  refine ww_istore (lv' := [(4, .int p13.1), (3, .int p7.1), (1, .long p1.1), (0, .ref (a0 0))]) C dL_isPassed_16 (by decide) rfl ?_
  refine ww_iconst (v := 0) C dL_isPassed_18 (by decide) ?_
  refine ww_istore (lv' := [(5, .int 0), (4, .int p13.1), (3, .int p7.1), (1, .long p1.1), (0, .ref (a0 0))]) C dL_isPassed_19 (by decide) rfl ?_
  refine ww_iload C dL_isPassed_21 1 rfl ?_
  obtain ⟨g_1, hf⟩ := gdE hf
  obtain ⟨g_2, hf⟩ := gdE hf
  refine ww_newi C (by decide +kernel) (Int32.toNatClampNeg p13.1) (inB_pos g_1) rfl (inB_by g_1) (of_decide_eq_true g_2) dL_isPassed_23 (fun q23 => ?_)
  refine ww_eq (gs' := [wGW E a0 (rf10 (a1 0) h0_1 (a2 0) (a4 0) h0_4 h0_5 h0_6 h0_7 h0_8 h0_9) v0, wHouse E a1 v1, wHist E a2 (rf2 q3 h2_1) v2, wHs E q3 ah3 v3, wSight E a4 p13.2, wArr E q23 (Int32.toNatClampNeg p13.1) (fun _ => 0)]) rfl ?_
  refine ww_astore (lv' := [(6, .ref q23), (5, .int 0), (4, .int p13.1), (3, .int p7.1), (1, .long p1.1), (0, .ref (a0 0))]) C dL_isPassed_25 (by decide) rfl ?_
  refine ww_iload C dL_isPassed_27 2 rfl ?_
  obtain ⟨g_3, hf⟩ := gdE hf
  refine ww_newi C (by decide +kernel) (Int32.toNatClampNeg p13.1) (inB_pos g_1) rfl (inB_by g_1) (of_decide_eq_true g_3) dL_isPassed_29 (fun q29 => ?_)
  refine ww_eq (gs' := [wGW E a0 (rf10 (a1 0) h0_1 (a2 0) (a4 0) h0_4 h0_5 h0_6 h0_7 h0_8 h0_9) v0, wHouse E a1 v1, wHist E a2 (rf2 q3 h2_1) v2, wHs E q3 ah3 v3, wSight E a4 p13.2, wArr E q23 (Int32.toNatClampNeg p13.1) (fun _ => 0), wArr E q29 (Int32.toNatClampNeg p13.1) (fun _ => 0)]) rfl ?_
  refine ww_astore (lv' := [(7, .ref q29), (6, .ref q23), (5, .int 0), (4, .int p13.1), (3, .int p7.1), (1, .long p1.1), (0, .ref (a0 0))]) C dL_isPassed_31 (by decide) rfl ?_
  refine ww_iload C dL_isPassed_33 3 rfl ?_
  obtain ⟨g_4, hf⟩ := gdE hf
  refine ww_newi C (by decide +kernel) (Int32.toNatClampNeg p13.1) (inB_pos g_1) rfl (inB_by g_1) (of_decide_eq_true g_4) dL_isPassed_35 (fun q35 => ?_)
  refine ww_eq (gs' := [wGW E a0 (rf10 (a1 0) h0_1 (a2 0) (a4 0) h0_4 h0_5 h0_6 h0_7 h0_8 h0_9) v0, wHouse E a1 v1, wHist E a2 (rf2 q3 h2_1) v2, wHs E q3 ah3 v3, wSight E a4 p13.2, wArr E q23 (Int32.toNatClampNeg p13.1) (fun _ => 0), wArr E q29 (Int32.toNatClampNeg p13.1) (fun _ => 0), wArr E q35 (Int32.toNatClampNeg p13.1) (fun _ => 0)]) rfl ?_
  refine ww_astore (lv' := [(8, .ref q35), (7, .ref q29), (6, .ref q23), (5, .int 0), (4, .int p13.1), (3, .int p7.1), (1, .long p1.1), (0, .ref (a0 0))]) C dL_isPassed_37 (by decide) rfl ?_
  refine ww_iconst (v := 0) C dL_isPassed_39 (by decide) ?_
  refine ww_istore (lv' := [(9, .int 0), (8, .ref q35), (7, .ref q29), (6, .ref q23), (5, .int 0), (4, .int p13.1), (3, .int p7.1), (1, .long p1.1), (0, .ref (a0 0))]) C dL_isPassed_40 (by decide) rfl ?_
  refine ww_sub C (lv' := [(0, .ref (a0 0)), (1, .long p1.1), (3, .int p7.1), (4, .int p13.1), (5, .int 0), (6, .ref q23), (7, .ref q29), (8, .ref q35), (9, .int 0)]) [8, 7, 6, 5, 4, 3, 2, 1, 0] rfl ?_
  exact w_L_isPassed_42 C FU _ _ _ _ _ _ _ _ _ _ _ _ _ _ _ _ _ (of_decide_eq_true g_4) hf

theorem ysk_L_isPassed : yL_isPassed.cls ≠ "java/lang/invoke/MethodHandle" ∧ yL_isPassed.cls ≠ "java/lang/invoke/VarHandle" ∧ (parseMethodDescriptor yL_isPassed.desc).map (fun d => d.parameters.length) = some 1 := by decide +kernel
abbrev rmL_act : Room := { frames := 10, cells := 20700, slots := 44000, locals := 316 }
set_option maxRecDepth 20000 in
theorem in_L_act_X9 : ∀ w ∈ u_ws RX9 TX9 8, w ∈ wsL_act := by decide +kernel
set_option maxHeartbeats 4000000 in
set_option maxRecDepth 100000 in
theorem w_L_act_118 {E : Ex} {K : Kx} (C : Cx E K cL_act 9 (some .int) RL wsL_act rmL_act) {a0 : Nat → Nat} {a1 : Nat → Nat} {a2 : Nat → Nat} {a3 : Nat → Nat} {q4 : Nat} {ah4 : Nat → Nat → Nat} {a5 : Nat → Nat} {a6 : Nat → Nat} {a7 : Nat → Nat} {a8 : Nat → Nat} {a9 : Nat → Nat} {a10 : Nat → Nat} {q11 : Nat} {a12 : Nat → Nat} {q13 : Nat} {a14 : Nat → Nat} {q15 : Nat} {a16 : Nat → Nat} {q17 : Nat} {a18 : Nat → Nat} {q19 : Nat} {h0_4 h0_6 h0_9 h3_1 : Nat} {x3 : Int32}   {x6 : Int32} {s0 : Int32} {s1 : Int32} {s2 : Int32} {r3 : Nat} {v0 : GWV} {v1 : HouseV} {v2 : HouseV} {v3 : HistV} {v4 : Nat → HouseV} {v5 : SightV} {v6 : BestV} {v7 : HouseV} {v8 : SightV} {v9 : ToksV} {v11 : Nat → Int32} {v12 : OwnV} {v13 : Nat} {v14 : RowsT} {v15 : Nat} {v16 : RowsT} {v17 : Nat} {v18 : RowsT} {v19 : Nat → Int32} {c : Nat} {s : Nat} {r : (Int32 × GWV × HouseV × HouseV × HistV × (Nat → HouseV) × SightV × BestV × HouseV × SightV × ToksV × (Nat → Int32) × OwnV × Nat × RowsT × Nat × RowsT × Nat × RowsT × (Nat → Int32))} (hcs : c ≤ 20700 ∧ s ≤ 44000) (hf : L_act_118 x3 x6 s0 s1 s2 r3 v0 v1 v2 v3 v4 v5 v6 v7 v8 v9 v11 v12 v13 v14 v15 v16 v17 v18 v19 c s = some r) : WW E K c s (QQ E K (fun rv g => ∃ (z18 : Nat → Nat), rv = some (.int r.1) ∧ g = [wGW E a0 (rf10 (a1 0) (a2 0) (a3 0) (a5 0) h0_4 (a6 0) h0_6 (a9 0) (a10 0) h0_9) r.2.1, wHouse E a1 r.2.2.1, wHouse E a2 r.2.2.2.1, wHist E a3 (rf2 q4 h3_1) r.2.2.2.2.1, wHs E q4 ah4 r.2.2.2.2.2.1, wSight E a5 r.2.2.2.2.2.2.1, wBest E a6 (rf2 (a7 0) (a8 0)) r.2.2.2.2.2.2.2.1, wHouse E a7 r.2.2.2.2.2.2.2.2.1, wSight E a8 r.2.2.2.2.2.2.2.2.2.1, wToks E a9 r.2.2.2.2.2.2.2.2.2.2.1, wHRead E a10 (rf1 (a9 0)), wArr E q11 6 r.2.2.2.2.2.2.2.2.2.2.2.1, wOwn E a12 (rf4 q13 q15 q17 q19) r.2.2.2.2.2.2.2.2.2.2.2.2.1, wRO E q13 20 a14 r.2.2.2.2.2.2.2.2.2.2.2.2.2.1, wRR E a14 r.2.2.2.2.2.2.2.2.2.2.2.2.2.2.1, wRO E q15 12 a16 r.2.2.2.2.2.2.2.2.2.2.2.2.2.2.2.1, wRR E a16 r.2.2.2.2.2.2.2.2.2.2.2.2.2.2.2.2.1, wRO E q17 4 z18 r.2.2.2.2.2.2.2.2.2.2.2.2.2.2.2.2.2.1, wRR E z18 r.2.2.2.2.2.2.2.2.2.2.2.2.2.2.2.2.2.2.1, wArr E q19 4 r.2.2.2.2.2.2.2.2.2.2.2.2.2.2.2.2.2.2.2]) 20700 44000) 118 [(0, .ref (a0 0)), (2, .ref (a12 0)), (6, .int x6)] [.int s0, .int s1, .int s2, .ref (a16 r3)] [wGW E a0 (rf10 (a1 0) (a2 0) (a3 0) (a5 0) h0_4 (a6 0) h0_6 (a9 0) (a10 0) h0_9) v0, wHouse E a1 v1, wHouse E a2 v2, wHist E a3 (rf2 q4 h3_1) v3, wHs E q4 ah4 v4, wSight E a5 v5, wBest E a6 (rf2 (a7 0) (a8 0)) v6, wHouse E a7 v7, wSight E a8 v8, wToks E a9 v9, wHRead E a10 (rf1 (a9 0)), wArr E q11 6 v11, wOwn E a12 (rf4 q13 q15 q17 q19) v12, wRO E q13 20 a14 v13, wRR E a14 v14, wRO E q15 12 a16 v15, wRR E a16 v16, wRO E q17 4 a18 v17, wRR E a18 v18, wArr E q19 4 v19] := by
  rw [L_act_118] at hf
  obtain ⟨p118, hp118, hf⟩ := bdE hf
  refine ww_callS C (As := [.int s1, .int s0]) (st := [.int s2, .ref (a16 r3)]) (gr := [wGW E a0 (rf10 (a1 0) (a2 0) (a3 0) (a5 0) h0_4 (a6 0) h0_6 (a9 0) (a10 0) h0_9) v0, wHouse E a1 v1, wHouse E a2 v2, wHist E a3 (rf2 q4 h3_1) v3, wHs E q4 ah4 v4, wSight E a5 v5, wBest E a6 (rf2 (a7 0) (a8 0)) v6, wHouse E a7 v7, wSight E a8 v8, wToks E a9 v9, wHRead E a10 (rf1 (a9 0)), wArr E q11 6 v11, wOwn E a12 (rf4 q13 q15 q17 q19) v12, wRO E q13 20 a14 v13, wRR E a14 v14, wRO E q15 12 a16 v15, wRR E a16 v16, wRO E q17 4 a18 v17, wRR E a18 v18, wArr E q19 4 v19]) (c_L_most (E := E)  hp118) gL_act_L_most rfl ysk_L_most ⟨by decide, Nat.le_of_ble_eq_true rfl⟩ hcs [] [0, 1, 2, 3, 4, 5, 6, 7, 8, 9, 10, 11, 12, 13, 14, 15, 16, 17, 18, 19] 20 rfl (by decide) rfl rfl (Nat.le_of_ble_eq_true rfl) dL_act_118 ?_
  rintro _ _ ⟨rfl, rfl⟩
  refine ww_perm (gs' := [wGW E a0 (rf10 (a1 0) (a2 0) (a3 0) (a5 0) h0_4 (a6 0) h0_6 (a9 0) (a10 0) h0_9) v0, wHouse E a1 v1, wHouse E a2 v2, wHist E a3 (rf2 q4 h3_1) v3, wHs E q4 ah4 v4, wSight E a5 v5, wBest E a6 (rf2 (a7 0) (a8 0)) v6, wHouse E a7 v7, wSight E a8 v8, wToks E a9 v9, wHRead E a10 (rf1 (a9 0)), wArr E q11 6 v11, wOwn E a12 (rf4 q13 q15 q17 q19) v12, wRO E q13 20 a14 v13, wRR E a14 v14, wRO E q15 12 a16 v15, wRR E a16 v16, wRO E q17 4 a18 v17, wRR E a18 v18, wArr E q19 4 v19]) [0, 1, 2, 3, 4, 5, 6, 7, 8, 9, 10, 11, 12, 13, 14, 15, 16, 17, 18, 19] 20 rfl (by decide) rfl ?_
  obtain ⟨g_44, hf⟩ := gdE hf
  obtain ⟨g_45, hf⟩ := gdE hf
  obtain ⟨v16_121, e_v16_121⟩ : ∃ y : RowsT, y = rrSet v16 r3 (upd (v16.2.2 r3) (Int32.toNatClampNeg s2) p118) := ⟨_, rfl⟩
  replace hf := ltE e_v16_121 hf
  refine ww_iast C (f := v16.2.2 r3) (w := wRR E a16 v16) (w' := wRR E a16 v16_121) (gs' := [wGW E a0 (rf10 (a1 0) (a2 0) (a3 0) (a5 0) h0_4 (a6 0) h0_6 (a9 0) (a10 0) h0_9) v0, wHouse E a1 v1, wHouse E a2 v2, wHist E a3 (rf2 q4 h3_1) v3, wHs E q4 ah4 v4, wSight E a5 v5, wBest E a6 (rf2 (a7 0) (a8 0)) v6, wHouse E a7 v7, wSight E a8 v8, wToks E a9 v9, wHRead E a10 (rf1 (a9 0)), wArr E q11 6 v11, wOwn E a12 (rf4 q13 q15 q17 q19) v12, wRO E q13 20 a14 v13, wRR E a14 v14, wRO E q15 12 a16 v15, wRR E a16 v16_121, wRO E q17 4 a18 v17, wRR E a18 v18, wArr E q19 4 v19]) 16 r3 rfl (q_RR (of_decide_eq_true g_44)) (inB_vp g_45) (by rw [e_v16_121]; exact s_RR (of_decide_eq_true g_44)) rfl dL_act_121 ?_
  refine ww_aload_n C dL_act_122 rfl 0 rfl ?_
  refine ww_iload C dL_act_123 2 rfl ?_
  refine ww_aload_n C dL_act_125 rfl 1 rfl ?_
  refine ww_getN C clOK9 in_L_act_X9 (w := wOwn E a12 (rf4 q13 q15 q17 q19) v12) (fs := fsOwn a12 (rf4 q13 q15 q17 q19) v12) (v := .ref q15) 12 0 5 rfl q_Own (by decide) (by decide +kernel) g_Own_room dL_act_126 ?_
  refine ww_iload C dL_act_129 2 rfl ?_
  obtain ⟨g_46, hf⟩ := gdE hf
  obtain ⟨g_47, hf⟩ := gdE hf
  refine ww_aldR C (f := roF a16 v15) (w := wRO E q15 12 a16 v15) 15 0 rfl q_RO (inB_vp g_46) (roF_at (of_decide_eq_true g_47)) dL_act_131 ?_
  refine ww_iconst (v := 0) C dL_act_132 (by decide) ?_
  obtain ⟨g_48, hf⟩ := gdE hf
  obtain ⟨g_49, hf⟩ := gdE hf
  refine ww_iald C (f := v16_121.2.2 (Int32.toNatClampNeg x6)) (w := wRR E a16 v16_121) 16 (Int32.toNatClampNeg x6) rfl (q_RR (of_decide_eq_true g_48)) (inB_vp g_49) dL_act_133 ?_
  obtain ⟨p134, hp134, hf⟩ := bdE hf
  refine ww_callV C (As := [.int x6, .int (v16_121.2.2 (Int32.toNatClampNeg x6) (Int32.toNatClampNeg 0))]) (st := []) (gr := [wHouse E a2 v2, wBest E a6 (rf2 (a7 0) (a8 0)) v6, wHouse E a7 v7, wSight E a8 v8, wToks E a9 v9, wHRead E a10 (rf1 (a9 0)), wArr E q11 6 v11, wOwn E a12 (rf4 q13 q15 q17 q19) v12, wRO E q13 20 a14 v13, wRR E a14 v14, wRO E q15 12 a16 v15, wRR E a16 v16_121, wRO E q17 4 a18 v17, wRR E a18 v18, wArr E q19 4 v19]) (c_X8_setLimit (E := E) (a0 := a0) (h0_1 := a2 0) (h0_4 := h0_4) (h0_5 := a6 0) (h0_6 := h0_6) (h0_7 := a9 0) (h0_8 := a10 0) (h0_9 := h0_9) (a1 := a1) (a2 := a3) (h2_1 := h3_1) (q3 := q4) (ah3 := ah4) (a4 := a5) hp134) gL_act_X8_setLimit rfl yk_X8_setLimit ⟨by decide, Nat.le_of_ble_eq_true rfl⟩ hcs clOK8 0 0 rfl rfl [0, 1, 3, 4, 5] [2, 6, 7, 8, 9, 10, 11, 12, 13, 14, 15, 16, 17, 18, 19] 20 rfl (by decide) rfl rfl (Nat.le_of_ble_eq_true rfl) dL_act_134 ?_
  rintro _ _ ⟨rfl, rfl⟩
  refine ww_perm (gs' := [wGW E a0 (rf10 (a1 0) (a2 0) (a3 0) (a5 0) h0_4 (a6 0) h0_6 (a9 0) (a10 0) h0_9) v0, wHouse E a1 p134.2.1, wHouse E a2 v2, wHist E a3 (rf2 q4 h3_1) p134.2.2.1, wHs E q4 ah4 p134.2.2.2.1, wSight E a5 p134.2.2.2.2, wBest E a6 (rf2 (a7 0) (a8 0)) v6, wHouse E a7 v7, wSight E a8 v8, wToks E a9 v9, wHRead E a10 (rf1 (a9 0)), wArr E q11 6 v11, wOwn E a12 (rf4 q13 q15 q17 q19) v12, wRO E q13 20 a14 v13, wRR E a14 v14, wRO E q15 12 a16 v15, wRR E a16 v16_121, wRO E q17 4 a18 v17, wRR E a18 v18, wArr E q19 4 v19]) [0, 1, 5, 2, 3, 4, 6, 7, 8, 9, 10, 11, 12, 13, 14, 15, 16, 17, 18, 19] 20 rfl (by decide) rfl ?_
  refine ww_aload_n C dL_act_137 rfl 1 rfl ?_
  obtain ⟨g_50, hf⟩ := gdE hf
  obtain ⟨p138, hp138, hf⟩ := bdE hf
  refine ww_callVN C (As := []) (st := [.int p134.1]) (gr := [wGW E a0 (rf10 (a1 0) (a2 0) (a3 0) (a5 0) h0_4 (a6 0) h0_6 (a9 0) (a10 0) h0_9) v0, wHouse E a1 p134.2.1, wHouse E a2 v2, wHist E a3 (rf2 q4 h3_1) p134.2.2.1, wHs E q4 ah4 p134.2.2.2.1, wSight E a5 p134.2.2.2.2, wBest E a6 (rf2 (a7 0) (a8 0)) v6, wHouse E a7 v7, wSight E a8 v8, wToks E a9 v9, wHRead E a10 (rf1 (a9 0)), wArr E q11 6 v11, wRO E q13 20 a14 v13, wRR E a14 v14]) (host := RL) (c_X9_lates (E := E) (a0 := a12) (h0_0 := q13) (q1 := q15) (a2 := a16) (q3 := q17) (a4 := a18) (q5 := q19) hp138) gL_act_X9_lates_n129 rfl (by decide +kernel) (by decide +kernel) (by decide +kernel) (by decide +kernel) yk_X9_lates ⟨by decide, Nat.le_of_ble_eq_true rfl⟩ (of_decide_eq_true g_50) clOK9 0 0 rfl rfl [12, 15, 16, 17, 18, 19] [0, 1, 2, 3, 4, 5, 6, 7, 8, 9, 10, 11, 13, 14] 20 rfl (by decide) rfl rfl (Nat.le_of_ble_eq_true rfl) dL_act_138 ?_
  rintro _ _ ⟨rfl, rfl⟩
  refine ww_perm (gs' := [wGW E a0 (rf10 (a1 0) (a2 0) (a3 0) (a5 0) h0_4 (a6 0) h0_6 (a9 0) (a10 0) h0_9) v0, wHouse E a1 p134.2.1, wHouse E a2 v2, wHist E a3 (rf2 q4 h3_1) p134.2.2.1, wHs E q4 ah4 p134.2.2.2.1, wSight E a5 p134.2.2.2.2, wBest E a6 (rf2 (a7 0) (a8 0)) v6, wHouse E a7 v7, wSight E a8 v8, wToks E a9 v9, wHRead E a10 (rf1 (a9 0)), wArr E q11 6 v11, wOwn E a12 (rf4 q13 q15 q17 q19) v12, wRO E q13 20 a14 v13, wRR E a14 v14, wRO E q15 12 a16 v15, wRR E a16 v16_121, wRO E q17 4 a18 v17, wRR E a18 v18, wArr E q19 4 v19]) [6, 7, 8, 9, 10, 11, 12, 13, 14, 15, 16, 17, 0, 18, 19, 1, 2, 3, 4, 5] 20 rfl (by decide) rfl ?_
  refine ww_icmp_ne (tgt := 148) C dL_act_141 (by decide) (fun c_51 => ?_) (fun c_51 => ?_)
  · replace hf := ifF c_51 hf
    refine ww_iconst (v := (-1)) C dL_act_148 (by decide) ?_
    obtain rfl := Option.some.inj hf
    refine ww_widen (k := 20700) (n := 44000) (of_decide_eq_true g_50).1 (of_decide_eq_true g_50).2 ?_
    exact ww_iret C ⟨_, rfl, rfl⟩ dL_act_149
  · replace hf := ifT c_51 hf
    refine ww_iconst (v := 1) C dL_act_144 (by decide) ?_
    refine ww_goto (tgt := 149) C dL_act_145 (by decide) ?_
    obtain rfl := Option.some.inj hf
    refine ww_widen (k := 20700) (n := 44000) (of_decide_eq_true g_50).1 (of_decide_eq_true g_50).2 ?_
    exact ww_iret C ⟨_, rfl, rfl⟩ dL_act_149

set_option maxHeartbeats 4000000 in
set_option maxRecDepth 100000 in
theorem w_L_act_202 {E : Ex} {K : Kx} (C : Cx E K cL_act 9 (some .int) RL wsL_act rmL_act) {a0 : Nat → Nat} {a1 : Nat → Nat} {a2 : Nat → Nat} {a3 : Nat → Nat} {q4 : Nat} {ah4 : Nat → Nat → Nat} {a5 : Nat → Nat} {a6 : Nat → Nat} {a7 : Nat → Nat} {a8 : Nat → Nat} {a9 : Nat → Nat} {a10 : Nat → Nat} {q11 : Nat} {a12 : Nat → Nat} {q13 : Nat} {a14 : Nat → Nat} {q15 : Nat} {a16 : Nat → Nat} {q17 : Nat} {a18 : Nat → Nat} {q19 : Nat} {h0_4 h0_6 h0_9 h3_1 : Nat} {x3 : Int32}  {d0 : Nat} {x8 : Int32} {s0 : Int32} {s1 : Int32} {v0 : GWV} {v1 : HouseV} {v2 : HouseV} {v3 : HistV} {v4 : Nat → HouseV} {v5 : SightV} {v6 : BestV} {v7 : HouseV} {v8 : SightV} {v9 : ToksV} {v11 : Nat → Int32} {v12 : OwnV} {v13 : Nat} {v14 : RowsT} {v15 : Nat} {v16 : RowsT} {v17 : Nat} {v18 : RowsT} {v19 : Nat → Int32} {w0 : Nat → Int32} {c : Nat} {s : Nat} {k169 : Int32 → Int32 → GWV → HouseV → HouseV → HistV → (Nat → HouseV) → SightV → BestV → HouseV → SightV → ToksV → (Nat → Int32) → OwnV → Nat → RowsT → Nat → RowsT → Nat → RowsT → (Nat → Int32) → (Nat → Int32) → Nat → Nat → Option (Int32 × GWV × HouseV × HouseV × HistV × (Nat → HouseV) × SightV × BestV × HouseV × SightV × ToksV × (Nat → Int32) × OwnV × Nat × RowsT × Nat × RowsT × Nat × RowsT × (Nat → Int32))} {r : (Int32 × GWV × HouseV × HouseV × HistV × (Nat → HouseV) × SightV × BestV × HouseV × SightV × ToksV × (Nat → Int32) × OwnV × Nat × RowsT × Nat × RowsT × Nat × RowsT × (Nat → Int32))} (hk169 : ∀ (d0 : Nat) (x7 : Int32) (x8 : Int32) (v0 : GWV) (v1 : HouseV) (v2 : HouseV) (v3 : HistV) (v4 : Nat → HouseV) (v5 : SightV) (v6 : BestV) (v7 : HouseV) (v8 : SightV) (v9 : ToksV) (v11 : Nat → Int32) (v12 : OwnV) (v13 : Nat) (v14 : RowsT) (v15 : Nat) (v16 : RowsT) (v17 : Nat) (v18 : RowsT) (v19 : Nat → Int32) (w0 : Nat → Int32) (c : Nat) (s : Nat), c ≤ 20700 ∧ s ≤ 44000 → k169 x7 x8 v0 v1 v2 v3 v4 v5 v6 v7 v8 v9 v11 v12 v13 v14 v15 v16 v17 v18 v19 w0 c s = some r → WW E K c s (QQ E K (fun rv g => ∃ (z18 : Nat → Nat), rv = some (.int r.1) ∧ g = [wGW E a0 (rf10 (a1 0) (a2 0) (a3 0) (a5 0) h0_4 (a6 0) h0_6 (a9 0) (a10 0) h0_9) r.2.1, wHouse E a1 r.2.2.1, wHouse E a2 r.2.2.2.1, wHist E a3 (rf2 q4 h3_1) r.2.2.2.2.1, wHs E q4 ah4 r.2.2.2.2.2.1, wSight E a5 r.2.2.2.2.2.2.1, wBest E a6 (rf2 (a7 0) (a8 0)) r.2.2.2.2.2.2.2.1, wHouse E a7 r.2.2.2.2.2.2.2.2.1, wSight E a8 r.2.2.2.2.2.2.2.2.2.1, wToks E a9 r.2.2.2.2.2.2.2.2.2.2.1, wHRead E a10 (rf1 (a9 0)), wArr E q11 6 r.2.2.2.2.2.2.2.2.2.2.2.1, wOwn E a12 (rf4 q13 q15 q17 q19) r.2.2.2.2.2.2.2.2.2.2.2.2.1, wRO E q13 20 a14 r.2.2.2.2.2.2.2.2.2.2.2.2.2.1, wRR E a14 r.2.2.2.2.2.2.2.2.2.2.2.2.2.2.1, wRO E q15 12 a16 r.2.2.2.2.2.2.2.2.2.2.2.2.2.2.2.1, wRR E a16 r.2.2.2.2.2.2.2.2.2.2.2.2.2.2.2.2.1, wRO E q17 4 z18 r.2.2.2.2.2.2.2.2.2.2.2.2.2.2.2.2.2.1, wRR E z18 r.2.2.2.2.2.2.2.2.2.2.2.2.2.2.2.2.2.2.1, wArr E q19 4 r.2.2.2.2.2.2.2.2.2.2.2.2.2.2.2.2.2.2.2]) 20700 44000) 169 [(0, .ref (a0 0)), (2, .ref (a12 0)), (6, .ref d0), (7, .int x7), (8, .int x8)] [] [wGW E a0 (rf10 (a1 0) (a2 0) (a3 0) (a5 0) h0_4 (a6 0) h0_6 (a9 0) (a10 0) h0_9) v0, wHouse E a1 v1, wHouse E a2 v2, wHist E a3 (rf2 q4 h3_1) v3, wHs E q4 ah4 v4, wSight E a5 v5, wBest E a6 (rf2 (a7 0) (a8 0)) v6, wHouse E a7 v7, wSight E a8 v8, wToks E a9 v9, wHRead E a10 (rf1 (a9 0)), wArr E q11 6 v11, wOwn E a12 (rf4 q13 q15 q17 q19) v12, wRO E q13 20 a14 v13, wRR E a14 v14, wRO E q15 12 a16 v15, wRR E a16 v16, wRO E q17 4 a18 v17, wRR E a18 v18, wArr E q19 4 v19, wArr E d0 6 w0]) (hcs : c ≤ 20700 ∧ s ≤ 44000) (hf : L_act_202 x3 k169 x8 s0 s1 v0 v1 v2 v3 v4 v5 v6 v7 v8 v9 v11 v12 v13 v14 v15 v16 v17 v18 v19 w0 c s = some r) : WW E K c s (QQ E K (fun rv g => ∃ (z18 : Nat → Nat), rv = some (.int r.1) ∧ g = [wGW E a0 (rf10 (a1 0) (a2 0) (a3 0) (a5 0) h0_4 (a6 0) h0_6 (a9 0) (a10 0) h0_9) r.2.1, wHouse E a1 r.2.2.1, wHouse E a2 r.2.2.2.1, wHist E a3 (rf2 q4 h3_1) r.2.2.2.2.1, wHs E q4 ah4 r.2.2.2.2.2.1, wSight E a5 r.2.2.2.2.2.2.1, wBest E a6 (rf2 (a7 0) (a8 0)) r.2.2.2.2.2.2.2.1, wHouse E a7 r.2.2.2.2.2.2.2.2.1, wSight E a8 r.2.2.2.2.2.2.2.2.2.1, wToks E a9 r.2.2.2.2.2.2.2.2.2.2.1, wHRead E a10 (rf1 (a9 0)), wArr E q11 6 r.2.2.2.2.2.2.2.2.2.2.2.1, wOwn E a12 (rf4 q13 q15 q17 q19) r.2.2.2.2.2.2.2.2.2.2.2.2.1, wRO E q13 20 a14 r.2.2.2.2.2.2.2.2.2.2.2.2.2.1, wRR E a14 r.2.2.2.2.2.2.2.2.2.2.2.2.2.2.1, wRO E q15 12 a16 r.2.2.2.2.2.2.2.2.2.2.2.2.2.2.2.1, wRR E a16 r.2.2.2.2.2.2.2.2.2.2.2.2.2.2.2.2.1, wRO E q17 4 z18 r.2.2.2.2.2.2.2.2.2.2.2.2.2.2.2.2.2.1, wRR E z18 r.2.2.2.2.2.2.2.2.2.2.2.2.2.2.2.2.2.2.1, wArr E q19 4 r.2.2.2.2.2.2.2.2.2.2.2.2.2.2.2.2.2.2.2]) 20700 44000) 202 [(0, .ref (a0 0)), (2, .ref (a12 0)), (6, .ref d0), (8, .int x8)] [.int s0, .int s1] [wGW E a0 (rf10 (a1 0) (a2 0) (a3 0) (a5 0) h0_4 (a6 0) h0_6 (a9 0) (a10 0) h0_9) v0, wHouse E a1 v1, wHouse E a2 v2, wHist E a3 (rf2 q4 h3_1) v3, wHs E q4 ah4 v4, wSight E a5 v5, wBest E a6 (rf2 (a7 0) (a8 0)) v6, wHouse E a7 v7, wSight E a8 v8, wToks E a9 v9, wHRead E a10 (rf1 (a9 0)), wArr E q11 6 v11, wOwn E a12 (rf4 q13 q15 q17 q19) v12, wRO E q13 20 a14 v13, wRR E a14 v14, wRO E q15 12 a16 v15, wRR E a16 v16, wRO E q17 4 a18 v17, wRR E a18 v18, wArr E q19 4 v19, wArr E d0 6 w0] := by
  rw [L_act_202] at hf
  refine ww_iadd C dL_act_202 ?_
  refine ww_topi (fun x7_203 e_x7_203 => ?_)
  replace hf := ltE e_x7_203 hf
  refine ww_istore (lv' := [(7, .int x7_203), (0, .ref (a0 0)), (2, .ref (a12 0)), (6, .ref d0), (8, .int x8)]) C dL_act_203 (by decide) rfl ?_
  refine ww_aload_n C dL_act_205 rfl 2 rfl ?_
  refine ww_getN C clOK9 in_L_act_X9 (w := wOwn E a12 (rf4 q13 q15 q17 q19) v12) (fs := fsOwn a12 (rf4 q13 q15 q17 q19) v12) (v := .ref q19) 12 0 7 rfl q_Own (by decide) (by decide +kernel) g_Own_phase dL_act_206 ?_
  refine ww_iload C dL_act_209 4 rfl ?_
  refine ww_aload C dL_act_211 3 rfl ?_
  refine ww_iconst (v := 2) C dL_act_213 (by decide) ?_
  refine ww_iload C dL_act_214 4 rfl ?_
  refine ww_iadd C dL_act_216 ?_
  obtain ⟨g_58, hf⟩ := gdE hf
  refine ww_iald C (f := w0) (w := wArr E d0 6 w0) 20 0 rfl q_Arr (inB_vp g_58) dL_act_217 ?_
  obtain ⟨g_59, hf⟩ := gdE hf
  obtain ⟨v19_218, e_v19_218⟩ : ∃ y : Nat → Int32, y = upd v19 (Int32.toNatClampNeg x8) (w0 (Int32.toNatClampNeg (2 + x8))) := ⟨_, rfl⟩
  replace hf := ltE e_v19_218 hf
  refine ww_iast C (f := v19) (w := wArr E q19 4 v19) (w' := wArr E q19 4 v19_218) (gs' := [wGW E a0 (rf10 (a1 0) (a2 0) (a3 0) (a5 0) h0_4 (a6 0) h0_6 (a9 0) (a10 0) h0_9) v0, wHouse E a1 v1, wHouse E a2 v2, wHist E a3 (rf2 q4 h3_1) v3, wHs E q4 ah4 v4, wSight E a5 v5, wBest E a6 (rf2 (a7 0) (a8 0)) v6, wHouse E a7 v7, wSight E a8 v8, wToks E a9 v9, wHRead E a10 (rf1 (a9 0)), wArr E q11 6 v11, wOwn E a12 (rf4 q13 q15 q17 q19) v12, wRO E q13 20 a14 v13, wRR E a14 v14, wRO E q15 12 a16 v15, wRR E a16 v16, wRO E q17 4 a18 v17, wRR E a18 v18, wArr E q19 4 v19_218, wArr E d0 6 w0]) 19 0 rfl q_Arr (inB_vp g_59) (by rw [e_v19_218]; exact s_Arr) rfl dL_act_218 ?_
  obtain ⟨x8_219, e_x8_219⟩ : ∃ y : Int32, y = x8 + 1 := ⟨_, rfl⟩
  replace hf := ltE e_x8_219 hf
  refine ww_iinc (v := x8_219) (lv' := [(8, .int x8_219), (7, .int x7_203), (0, .ref (a0 0)), (2, .ref (a12 0)), (6, .ref d0)]) C dL_act_219 4 rfl (by rw [e_x8_219]; rfl) (by decide) rfl ?_
  refine ww_goto (tgt := 169) C dL_act_222 (by decide) ?_
  refine ww_sub C (lv' := [(0, .ref (a0 0)), (2, .ref (a12 0)), (6, .ref d0), (7, .int x7_203), (8, .int x8_219)]) [2, 3, 4, 1, 0] rfl ?_
  exact hk169 _ _ _ _ _ _ _ _ _ _ _ _ _ _ _ _ _ _ _ _ _ _ _ _ _ hcs hf

set_option maxHeartbeats 4000000 in
set_option maxRecDepth 100000 in
theorem w_L_act_169 {E : Ex} {K : Kx} (C : Cx E K cL_act 9 (some .int) RL wsL_act rmL_act) {a0 : Nat → Nat} {a1 : Nat → Nat} {a2 : Nat → Nat} {a3 : Nat → Nat} {q4 : Nat} {ah4 : Nat → Nat → Nat} {a5 : Nat → Nat} {a6 : Nat → Nat} {a7 : Nat → Nat} {a8 : Nat → Nat} {a9 : Nat → Nat} {a10 : Nat → Nat} {q11 : Nat} {a12 : Nat → Nat} {q13 : Nat} {a14 : Nat → Nat} {q15 : Nat} {a16 : Nat → Nat} {q17 : Nat} {a18 : Nat → Nat} {q19 : Nat} {h0_4 h0_6 h0_9 h3_1 : Nat} {x3 : Int32}  {r : (Int32 × GWV × HouseV × HouseV × HistV × (Nat → HouseV) × SightV × BestV × HouseV × SightV × ToksV × (Nat → Int32) × OwnV × Nat × RowsT × Nat × RowsT × Nat × RowsT × (Nat → Int32))} : ∀ (n : Nat) (d0 : Nat) (x7 : Int32) (x8 : Int32) (v0 : GWV) (v1 : HouseV) (v2 : HouseV) (v3 : HistV) (v4 : Nat → HouseV) (v5 : SightV) (v6 : BestV) (v7 : HouseV) (v8 : SightV) (v9 : ToksV) (v11 : Nat → Int32) (v12 : OwnV) (v13 : Nat) (v14 : RowsT) (v15 : Nat) (v16 : RowsT) (v17 : Nat) (v18 : RowsT) (v19 : Nat → Int32) (w0 : Nat → Int32) (c : Nat) (s : Nat), c ≤ 20700 ∧ s ≤ 44000 → L_act_169 x3 n x7 x8 v0 v1 v2 v3 v4 v5 v6 v7 v8 v9 v11 v12 v13 v14 v15 v16 v17 v18 v19 w0 c s = some r → WW E K c s (QQ E K (fun rv g => ∃ (z18 : Nat → Nat), rv = some (.int r.1) ∧ g = [wGW E a0 (rf10 (a1 0) (a2 0) (a3 0) (a5 0) h0_4 (a6 0) h0_6 (a9 0) (a10 0) h0_9) r.2.1, wHouse E a1 r.2.2.1, wHouse E a2 r.2.2.2.1, wHist E a3 (rf2 q4 h3_1) r.2.2.2.2.1, wHs E q4 ah4 r.2.2.2.2.2.1, wSight E a5 r.2.2.2.2.2.2.1, wBest E a6 (rf2 (a7 0) (a8 0)) r.2.2.2.2.2.2.2.1, wHouse E a7 r.2.2.2.2.2.2.2.2.1, wSight E a8 r.2.2.2.2.2.2.2.2.2.1, wToks E a9 r.2.2.2.2.2.2.2.2.2.2.1, wHRead E a10 (rf1 (a9 0)), wArr E q11 6 r.2.2.2.2.2.2.2.2.2.2.2.1, wOwn E a12 (rf4 q13 q15 q17 q19) r.2.2.2.2.2.2.2.2.2.2.2.2.1, wRO E q13 20 a14 r.2.2.2.2.2.2.2.2.2.2.2.2.2.1, wRR E a14 r.2.2.2.2.2.2.2.2.2.2.2.2.2.2.1, wRO E q15 12 a16 r.2.2.2.2.2.2.2.2.2.2.2.2.2.2.2.1, wRR E a16 r.2.2.2.2.2.2.2.2.2.2.2.2.2.2.2.2.1, wRO E q17 4 z18 r.2.2.2.2.2.2.2.2.2.2.2.2.2.2.2.2.2.1, wRR E z18 r.2.2.2.2.2.2.2.2.2.2.2.2.2.2.2.2.2.2.1, wArr E q19 4 r.2.2.2.2.2.2.2.2.2.2.2.2.2.2.2.2.2.2.2]) 20700 44000) 169 [(0, .ref (a0 0)), (2, .ref (a12 0)), (6, .ref d0), (7, .int x7), (8, .int x8)] [] [wGW E a0 (rf10 (a1 0) (a2 0) (a3 0) (a5 0) h0_4 (a6 0) h0_6 (a9 0) (a10 0) h0_9) v0, wHouse E a1 v1, wHouse E a2 v2, wHist E a3 (rf2 q4 h3_1) v3, wHs E q4 ah4 v4, wSight E a5 v5, wBest E a6 (rf2 (a7 0) (a8 0)) v6, wHouse E a7 v7, wSight E a8 v8, wToks E a9 v9, wHRead E a10 (rf1 (a9 0)), wArr E q11 6 v11, wOwn E a12 (rf4 q13 q15 q17 q19) v12, wRO E q13 20 a14 v13, wRR E a14 v14, wRO E q15 12 a16 v15, wRR E a16 v16, wRO E q17 4 a18 v17, wRR E a18 v18, wArr E q19 4 v19, wArr E d0 6 w0] := by
  intro n
  induction n with
  | zero =>
    intro d0 x7 x8 v0 v1 v2 v3 v4 v5 v6 v7 v8 v9 v11 v12 v13 v14 v15 v16 v17 v18 v19 w0 c s hcs hf
    simp [L_act_169] at hf
  | succ n ih =>
    intro d0 x7 x8 v0 v1 v2 v3 v4 v5 v6 v7 v8 v9 v11 v12 v13 v14 v15 v16 v17 v18 v19 w0 c s hcs hf
    rw [L_act_169] at hf
    refine ww_iload C dL_act_169 4 rfl ?_
    refine ww_aload_n C dL_act_171 rfl 1 rfl ?_
    refine ww_getN C clOK9 in_L_act_X9 (w := wOwn E a12 (rf4 q13 q15 q17 q19) v12) (fs := fsOwn a12 (rf4 q13 q15 q17 q19) v12) (v := .int (Own_guards v12)) 12 0 2 rfl q_Own (by decide) (by decide +kernel) g_Own_guards dL_act_172 ?_
    refine ww_icmp_ge (tgt := 225) C dL_act_175 (by decide) (fun c_52 => ?_) (fun c_52 => ?_)
    · replace hf := ifT c_52 hf
      refine ww_aload_n C dL_act_225 rfl 0 rfl ?_
      obtain ⟨p226, hp226, hf⟩ := bdE hf
      refine ww_callV C (As := []) (st := []) (gr := [wHouse E a2 v2, wSight E a5 v5, wToks E a9 v9, wHRead E a10 (rf1 (a9 0)), wArr E q11 6 v11, wOwn E a12 (rf4 q13 q15 q17 q19) v12, wRO E q13 20 a14 v13, wRR E a14 v14, wRO E q15 12 a16 v15, wRR E a16 v16, wRO E q17 4 a18 v17, wRR E a18 v18, wArr E q19 4 v19, wArr E d0 6 w0]) (c_X8_adopt (E := E) (a0 := a0) (h0_1 := a2 0) (h0_3 := a5 0) (h0_4 := h0_4) (h0_6 := h0_6) (h0_7 := a9 0) (h0_8 := a10 0) (h0_9 := h0_9) (a1 := a1) (a2 := a3) (h2_1 := h3_1) (q3 := q4) (ah3 := ah4) (a4 := a6) (a5 := a7) (a6 := a8) hp226) gL_act_X8_adopt rfl yk_X8_adopt ⟨by decide, Nat.le_of_ble_eq_true rfl⟩ hcs clOK8 0 0 rfl rfl [0, 1, 3, 4, 6, 7, 8] [2, 5, 9, 10, 11, 12, 13, 14, 15, 16, 17, 18, 19, 20] 21 rfl (by decide) rfl rfl (Nat.le_of_ble_eq_true rfl) dL_act_226 ?_
      rintro _ _ ⟨rfl, rfl⟩
      refine ww_perm (gs' := [wGW E a0 (rf10 (a1 0) (a2 0) (a3 0) (a5 0) h0_4 (a6 0) h0_6 (a9 0) (a10 0) h0_9) p226.2.1, wHouse E a1 p226.2.2.1, wHouse E a2 v2, wHist E a3 (rf2 q4 h3_1) p226.2.2.2.1, wHs E q4 ah4 p226.2.2.2.2.1, wSight E a5 v5, wBest E a6 (rf2 (a7 0) (a8 0)) p226.2.2.2.2.2.1, wHouse E a7 p226.2.2.2.2.2.2.1, wSight E a8 p226.2.2.2.2.2.2.2, wToks E a9 v9, wHRead E a10 (rf1 (a9 0)), wArr E q11 6 v11, wOwn E a12 (rf4 q13 q15 q17 q19) v12, wRO E q13 20 a14 v13, wRR E a14 v14, wRO E q15 12 a16 v15, wRR E a16 v16, wRO E q17 4 a18 v17, wRR E a18 v18, wArr E q19 4 v19, wArr E d0 6 w0]) [0, 1, 7, 2, 3, 8, 4, 5, 6, 9, 10, 11, 12, 13, 14, 15, 16, 17, 18, 19, 20] 21 rfl (by decide) rfl ?_
      refine ww_iload C dL_act_229 3 rfl ?_
      refine ww_icmp_ne (tgt := 238) C dL_act_231 (by decide) (fun c_53 => ?_) (fun c_53 => ?_)
      · replace hf := ifF c_53 hf
        refine ww_iconst (v := (-1)) C dL_act_238 (by decide) ?_
        obtain rfl := Option.some.inj hf
        refine ww_drop (gs' := [wGW E a0 (rf10 (a1 0) (a2 0) (a3 0) (a5 0) h0_4 (a6 0) h0_6 (a9 0) (a10 0) h0_9) p226.2.1, wHouse E a1 p226.2.2.1, wHouse E a2 v2, wHist E a3 (rf2 q4 h3_1) p226.2.2.2.1, wHs E q4 ah4 p226.2.2.2.2.1, wSight E a5 v5, wBest E a6 (rf2 (a7 0) (a8 0)) p226.2.2.2.2.2.1, wHouse E a7 p226.2.2.2.2.2.2.1, wSight E a8 p226.2.2.2.2.2.2.2, wToks E a9 v9, wHRead E a10 (rf1 (a9 0)), wArr E q11 6 v11, wOwn E a12 (rf4 q13 q15 q17 q19) v12, wRO E q13 20 a14 v13, wRR E a14 v14, wRO E q15 12 a16 v15, wRR E a16 v16, wRO E q17 4 a18 v17, wRR E a18 v18, wArr E q19 4 v19]) [0, 1, 2, 3, 4, 5, 6, 7, 8, 9, 10, 11, 12, 13, 14, 15, 16, 17, 18, 19] [20] 21 rfl (by decide) rfl ?_
        refine ww_widen (k := 20700) (n := 44000) hcs.1 hcs.2 ?_
        exact ww_iret C ⟨_, rfl, rfl⟩ dL_act_239
      · replace hf := ifT c_53 hf
        refine ww_iconst (v := 1) C dL_act_234 (by decide) ?_
        refine ww_goto (tgt := 239) C dL_act_235 (by decide) ?_
        obtain rfl := Option.some.inj hf
        refine ww_drop (gs' := [wGW E a0 (rf10 (a1 0) (a2 0) (a3 0) (a5 0) h0_4 (a6 0) h0_6 (a9 0) (a10 0) h0_9) p226.2.1, wHouse E a1 p226.2.2.1, wHouse E a2 v2, wHist E a3 (rf2 q4 h3_1) p226.2.2.2.1, wHs E q4 ah4 p226.2.2.2.2.1, wSight E a5 v5, wBest E a6 (rf2 (a7 0) (a8 0)) p226.2.2.2.2.2.1, wHouse E a7 p226.2.2.2.2.2.2.1, wSight E a8 p226.2.2.2.2.2.2.2, wToks E a9 v9, wHRead E a10 (rf1 (a9 0)), wArr E q11 6 v11, wOwn E a12 (rf4 q13 q15 q17 q19) v12, wRO E q13 20 a14 v13, wRR E a14 v14, wRO E q15 12 a16 v15, wRR E a16 v16, wRO E q17 4 a18 v17, wRR E a18 v18, wArr E q19 4 v19]) [0, 1, 2, 3, 4, 5, 6, 7, 8, 9, 10, 11, 12, 13, 14, 15, 16, 17, 18, 19] [20] 21 rfl (by decide) rfl ?_
        refine ww_widen (k := 20700) (n := 44000) hcs.1 hcs.2 ?_
        exact ww_iret C ⟨_, rfl, rfl⟩ dL_act_239
    · replace hf := ifF c_52 hf
      refine ww_iload C dL_act_178 3 rfl ?_
      refine ww_aload_n C dL_act_180 rfl 1 rfl ?_
      refine ww_getN C clOK9 in_L_act_X9 (w := wOwn E a12 (rf4 q13 q15 q17 q19) v12) (fs := fsOwn a12 (rf4 q13 q15 q17 q19) v12) (v := .ref q19) 12 0 7 rfl q_Own (by decide) (by decide +kernel) g_Own_phase dL_act_181 ?_
      refine ww_iload C dL_act_184 4 rfl ?_
      obtain ⟨g_54, hf⟩ := gdE hf
      refine ww_iald C (f := v19) (w := wArr E q19 4 v19) 19 0 rfl q_Arr (inB_vp g_54) dL_act_186 ?_
      refine ww_aload C dL_act_187 2 rfl ?_
      refine ww_iconst (v := 2) C dL_act_189 (by decide) ?_
      refine ww_iload C dL_act_190 4 rfl ?_
      refine ww_iadd C dL_act_192 ?_
      obtain ⟨g_55, hf⟩ := gdE hf
      refine ww_iald C (f := w0) (w := wArr E d0 6 w0) 20 0 rfl q_Arr (inB_vp g_55) dL_act_193 ?_
      refine ww_icmp_ne (tgt := 201) C dL_act_194 (by decide) (fun c_56 => ?_) (fun c_56 => ?_)
      · replace hf := ifF c_56 hf
        refine ww_iconst (v := 1) C dL_act_201 (by decide) ?_
        refine ww_sub C (lv' := [(0, .ref (a0 0)), (2, .ref (a12 0)), (6, .ref d0), (8, .int x8)]) [0, 1, 2, 4] rfl ?_
        exact w_L_act_202 C (k169 := (fun (x7 : Int32) (x8 : Int32) (v0 : GWV) (v1 : HouseV) (v2 : HouseV) (v3 : HistV) (v4 : Nat → HouseV) (v5 : SightV) (v6 : BestV) (v7 : HouseV) (v8 : SightV) (v9 : ToksV) (v11 : Nat → Int32) (v12 : OwnV) (v13 : Nat) (v14 : RowsT) (v15 : Nat) (v16 : RowsT) (v17 : Nat) (v18 : RowsT) (v19 : Nat → Int32) (w0 : Nat → Int32) (c : Nat) (s : Nat) => L_act_169 x3 n x7 x8 v0 v1 v2 v3 v4 v5 v6 v7 v8 v9 v11 v12 v13 v14 v15 v16 v17 v18 v19 w0 c s)) ih hcs hf
      · replace hf := ifT c_56 hf
        refine ww_iconst (v := 0) C dL_act_197 (by decide) ?_
        refine ww_goto (tgt := 202) C dL_act_198 (by decide) ?_
        refine ww_sub C (lv' := [(0, .ref (a0 0)), (2, .ref (a12 0)), (6, .ref d0), (8, .int x8)]) [0, 1, 2, 4] rfl ?_
        exact w_L_act_202 C (k169 := (fun (x7 : Int32) (x8 : Int32) (v0 : GWV) (v1 : HouseV) (v2 : HouseV) (v3 : HistV) (v4 : Nat → HouseV) (v5 : SightV) (v6 : BestV) (v7 : HouseV) (v8 : SightV) (v9 : ToksV) (v11 : Nat → Int32) (v12 : OwnV) (v13 : Nat) (v14 : RowsT) (v15 : Nat) (v16 : RowsT) (v17 : Nat) (v18 : RowsT) (v19 : Nat → Int32) (w0 : Nat → Int32) (c : Nat) (s : Nat) => L_act_169 x3 n x7 x8 v0 v1 v2 v3 v4 v5 v6 v7 v8 v9 v11 v12 v13 v14 v15 v16 v17 v18 v19 w0 c s)) ih hcs hf

set_option maxHeartbeats 4000000 in
set_option maxRecDepth 100000 in
theorem w_L_act_332 {E : Ex} {K : Kx} (C : Cx E K cL_act 9 (some .int) RL wsL_act rmL_act) {a0 : Nat → Nat} {a1 : Nat → Nat} {a2 : Nat → Nat} {a3 : Nat → Nat} {q4 : Nat} {ah4 : Nat → Nat → Nat} {a5 : Nat → Nat} {a6 : Nat → Nat} {a7 : Nat → Nat} {a8 : Nat → Nat} {a9 : Nat → Nat} {a10 : Nat → Nat} {q11 : Nat} {a12 : Nat → Nat} {q13 : Nat} {a14 : Nat → Nat} {q15 : Nat} {a16 : Nat → Nat} {q17 : Nat} {a18 : Nat → Nat} {q19 : Nat} {h0_4 h0_6 h0_9 h3_1 : Nat} {x3 : Int32}   {x6 : Int32} {s0 : Int32} {v0 : GWV} {v1 : HouseV} {v2 : HouseV} {v3 : HistV} {v4 : Nat → HouseV} {v5 : SightV} {v6 : BestV} {v7 : HouseV} {v8 : SightV} {v9 : ToksV} {v11 : Nat → Int32} {v12 : OwnV} {v13 : Nat} {v14 : RowsT} {v15 : Nat} {v16 : RowsT} {v17 : Nat} {v18 : RowsT} {v19 : Nat → Int32} {c : Nat} {s : Nat} {r : (Int32 × GWV × HouseV × HouseV × HistV × (Nat → HouseV) × SightV × BestV × HouseV × SightV × ToksV × (Nat → Int32) × OwnV × Nat × RowsT × Nat × RowsT × Nat × RowsT × (Nat → Int32))} (hcs : c ≤ 20700 ∧ s ≤ 44000) (hf : L_act_332 x3 x6 s0 v0 v1 v2 v3 v4 v5 v6 v7 v8 v9 v11 v12 v13 v14 v15 v16 v17 v18 v19 c s = some r) : WW E K c s (QQ E K (fun rv g => ∃ (z18 : Nat → Nat), rv = some (.int r.1) ∧ g = [wGW E a0 (rf10 (a1 0) (a2 0) (a3 0) (a5 0) h0_4 (a6 0) h0_6 (a9 0) (a10 0) h0_9) r.2.1, wHouse E a1 r.2.2.1, wHouse E a2 r.2.2.2.1, wHist E a3 (rf2 q4 h3_1) r.2.2.2.2.1, wHs E q4 ah4 r.2.2.2.2.2.1, wSight E a5 r.2.2.2.2.2.2.1, wBest E a6 (rf2 (a7 0) (a8 0)) r.2.2.2.2.2.2.2.1, wHouse E a7 r.2.2.2.2.2.2.2.2.1, wSight E a8 r.2.2.2.2.2.2.2.2.2.1, wToks E a9 r.2.2.2.2.2.2.2.2.2.2.1, wHRead E a10 (rf1 (a9 0)), wArr E q11 6 r.2.2.2.2.2.2.2.2.2.2.2.1, wOwn E a12 (rf4 q13 q15 q17 q19) r.2.2.2.2.2.2.2.2.2.2.2.2.1, wRO E q13 20 a14 r.2.2.2.2.2.2.2.2.2.2.2.2.2.1, wRR E a14 r.2.2.2.2.2.2.2.2.2.2.2.2.2.2.1, wRO E q15 12 a16 r.2.2.2.2.2.2.2.2.2.2.2.2.2.2.2.1, wRR E a16 r.2.2.2.2.2.2.2.2.2.2.2.2.2.2.2.2.1, wRO E q17 4 z18 r.2.2.2.2.2.2.2.2.2.2.2.2.2.2.2.2.2.1, wRR E z18 r.2.2.2.2.2.2.2.2.2.2.2.2.2.2.2.2.2.2.1, wArr E q19 4 r.2.2.2.2.2.2.2.2.2.2.2.2.2.2.2.2.2.2.2]) 20700 44000) 332 [(0, .ref (a0 0)), (2, .ref (a12 0)), (6, .int x6)] [.int s0] [wGW E a0 (rf10 (a1 0) (a2 0) (a3 0) (a5 0) h0_4 (a6 0) h0_6 (a9 0) (a10 0) h0_9) v0, wHouse E a1 v1, wHouse E a2 v2, wHist E a3 (rf2 q4 h3_1) v3, wHs E q4 ah4 v4, wSight E a5 v5, wBest E a6 (rf2 (a7 0) (a8 0)) v6, wHouse E a7 v7, wSight E a8 v8, wToks E a9 v9, wHRead E a10 (rf1 (a9 0)), wArr E q11 6 v11, wOwn E a12 (rf4 q13 q15 q17 q19) v12, wRO E q13 20 a14 v13, wRR E a14 v14, wRO E q15 12 a16 v15, wRR E a16 v16, wRO E q17 4 a18 v17, wRR E a18 v18, wArr E q19 4 v19] := by
  rw [L_act_332] at hf
  refine ww_istore (lv' := [(7, .int s0), (0, .ref (a0 0)), (2, .ref (a12 0)), (6, .int x6)]) C dL_act_332 (by decide) rfl ?_
  refine ww_iload C dL_act_334 0 rfl ?_
  refine ww_if_ge (tgt := 356) C dL_act_336 (by decide) (fun c_60 => ?_) (fun c_60 => ?_)
  · replace hf := ifT c_60 hf
    refine ww_aload_n C dL_act_356 rfl 2 rfl ?_
    refine ww_getN C clOK9 in_L_act_X9 (w := wOwn E a12 (rf4 q13 q15 q17 q19) v12) (fs := fsOwn a12 (rf4 q13 q15 q17 q19) v12) (v := .ref q13) 12 0 4 rfl q_Own (by decide) (by decide +kernel) g_Own_door dL_act_357 ?_
    refine ww_iload C dL_act_360 3 rfl ?_
    obtain ⟨g_61, hf⟩ := gdE hf
    obtain ⟨g_62, hf⟩ := gdE hf
    refine ww_aldR C (f := roF a14 v13) (w := wRO E q13 20 a14 v13) 13 0 rfl q_RO (inB_vp g_61) (roF_at (of_decide_eq_true g_62)) dL_act_362 ?_
    refine ww_iconst (v := 2) C dL_act_363 (by decide) ?_
    refine ww_iconst (v := 0) C dL_act_364 (by decide) ?_
    obtain ⟨g_63, hf⟩ := gdE hf
    obtain ⟨g_64, hf⟩ := gdE hf
    obtain ⟨v14_365, e_v14_365⟩ : ∃ y : RowsT, y = rrSet v14 (Int32.toNatClampNeg x6) (upd (v14.2.2 (Int32.toNatClampNeg x6)) (Int32.toNatClampNeg 2) 0) := ⟨_, rfl⟩
    replace hf := ltE e_v14_365 hf
    refine ww_iast C (f := v14.2.2 (Int32.toNatClampNeg x6)) (w := wRR E a14 v14) (w' := wRR E a14 v14_365) (gs' := [wGW E a0 (rf10 (a1 0) (a2 0) (a3 0) (a5 0) h0_4 (a6 0) h0_6 (a9 0) (a10 0) h0_9) v0, wHouse E a1 v1, wHouse E a2 v2, wHist E a3 (rf2 q4 h3_1) v3, wHs E q4 ah4 v4, wSight E a5 v5, wBest E a6 (rf2 (a7 0) (a8 0)) v6, wHouse E a7 v7, wSight E a8 v8, wToks E a9 v9, wHRead E a10 (rf1 (a9 0)), wArr E q11 6 v11, wOwn E a12 (rf4 q13 q15 q17 q19) v12, wRO E q13 20 a14 v13, wRR E a14 v14_365, wRO E q15 12 a16 v15, wRR E a16 v16, wRO E q17 4 a18 v17, wRR E a18 v18, wArr E q19 4 v19]) 14 (Int32.toNatClampNeg x6) rfl (q_RR (of_decide_eq_true g_63)) (inB_vp g_64) (by rw [e_v14_365]; exact s_RR (of_decide_eq_true g_63)) rfl dL_act_365 ?_
    refine ww_aload_n C dL_act_366 rfl 1 rfl ?_
    refine ww_iload C dL_act_367 3 rfl ?_
    obtain ⟨p369, hp369, hf⟩ := bdE hf
    refine ww_callV C (As := [.int x6]) (st := []) (gr := [wHouse E a2 v2, wSight E a5 v5, wBest E a6 (rf2 (a7 0) (a8 0)) v6, wHouse E a7 v7, wSight E a8 v8, wToks E a9 v9, wHRead E a10 (rf1 (a9 0)), wArr E q11 6 v11, wOwn E a12 (rf4 q13 q15 q17 q19) v12, wRO E q13 20 a14 v13, wRR E a14 v14_365, wRO E q15 12 a16 v15, wRR E a16 v16, wRO E q17 4 a18 v17, wRR E a18 v18, wArr E q19 4 v19]) (c_X8_closeDoor (E := E) (a0 := a0) (h0_1 := a2 0) (h0_3 := a5 0) (h0_4 := h0_4) (h0_5 := a6 0) (h0_6 := h0_6) (h0_7 := a9 0) (h0_8 := a10 0) (h0_9 := h0_9) (a1 := a1) (a2 := a3) (h2_1 := h3_1) (q3 := q4) (ah3 := ah4) hp369) gL_act_X8_closeDoor rfl yk_X8_closeDoor ⟨by decide, Nat.le_of_ble_eq_true rfl⟩ hcs clOK8 0 0 rfl rfl [0, 1, 3, 4] [2, 5, 6, 7, 8, 9, 10, 11, 12, 13, 14, 15, 16, 17, 18, 19] 20 rfl (by decide) rfl rfl (Nat.le_of_ble_eq_true rfl) dL_act_369 ?_
    rintro _ _ ⟨rfl, rfl⟩
    refine ww_perm (gs' := [wGW E a0 (rf10 (a1 0) (a2 0) (a3 0) (a5 0) h0_4 (a6 0) h0_6 (a9 0) (a10 0) h0_9) v0, wHouse E a1 p369.2.1, wHouse E a2 v2, wHist E a3 (rf2 q4 h3_1) p369.2.2.1, wHs E q4 ah4 p369.2.2.2, wSight E a5 v5, wBest E a6 (rf2 (a7 0) (a8 0)) v6, wHouse E a7 v7, wSight E a8 v8, wToks E a9 v9, wHRead E a10 (rf1 (a9 0)), wArr E q11 6 v11, wOwn E a12 (rf4 q13 q15 q17 q19) v12, wRO E q13 20 a14 v13, wRR E a14 v14_365, wRO E q15 12 a16 v15, wRR E a16 v16, wRO E q17 4 a18 v17, wRR E a18 v18, wArr E q19 4 v19]) [0, 1, 4, 2, 3, 5, 6, 7, 8, 9, 10, 11, 12, 13, 14, 15, 16, 17, 18, 19] 20 rfl (by decide) rfl ?_
    refine ww_aload_n C dL_act_372 rfl 2 rfl ?_
    refine ww_iconst (v := (-1)) C dL_act_373 (by decide) ?_
    obtain ⟨p374, hp374, hf⟩ := bdE hf
    refine ww_callVN C (As := [.int (-1)]) (st := [.int p369.1]) (gr := [wGW E a0 (rf10 (a1 0) (a2 0) (a3 0) (a5 0) h0_4 (a6 0) h0_6 (a9 0) (a10 0) h0_9) v0, wHouse E a1 p369.2.1, wHouse E a2 v2, wHist E a3 (rf2 q4 h3_1) p369.2.2.1, wHs E q4 ah4 p369.2.2.2, wSight E a5 v5, wBest E a6 (rf2 (a7 0) (a8 0)) v6, wHouse E a7 v7, wSight E a8 v8, wToks E a9 v9, wHRead E a10 (rf1 (a9 0)), wArr E q11 6 v11, wRO E q15 12 a16 v15, wRR E a16 v16, wRO E q17 4 a18 v17, wRR E a18 v18, wArr E q19 4 v19]) (host := RL) (c_X9_opens (E := E) (a0 := a12) (h0_1 := q15) (h0_2 := q17) (h0_3 := q19) (q1 := q13) (a2 := a14) hp374) gL_act_X9_opens_n135 rfl (by decide +kernel) (by decide +kernel) (by decide +kernel) (by decide +kernel) yk_X9_opens ⟨by decide, Nat.le_of_ble_eq_true rfl⟩ hcs clOK9 0 0 rfl rfl [12, 13, 14] [0, 1, 2, 3, 4, 5, 6, 7, 8, 9, 10, 11, 15, 16, 17, 18, 19] 20 rfl (by decide) rfl rfl (Nat.le_of_ble_eq_true rfl) dL_act_374 ?_
    rintro _ _ ⟨rfl, rfl⟩
    refine ww_perm (gs' := [wGW E a0 (rf10 (a1 0) (a2 0) (a3 0) (a5 0) h0_4 (a6 0) h0_6 (a9 0) (a10 0) h0_9) v0, wHouse E a1 p369.2.1, wHouse E a2 v2, wHist E a3 (rf2 q4 h3_1) p369.2.2.1, wHs E q4 ah4 p369.2.2.2, wSight E a5 v5, wBest E a6 (rf2 (a7 0) (a8 0)) v6, wHouse E a7 v7, wSight E a8 v8, wToks E a9 v9, wHRead E a10 (rf1 (a9 0)), wArr E q11 6 v11, wOwn E a12 (rf4 q13 q15 q17 q19) v12, wRO E q13 20 a14 v13, wRR E a14 v14_365, wRO E q15 12 a16 v15, wRR E a16 v16, wRO E q17 4 a18 v17, wRR E a18 v18, wArr E q19 4 v19]) [3, 4, 5, 6, 7, 8, 9, 10, 11, 12, 13, 14, 0, 1, 2, 15, 16, 17, 18, 19] 20 rfl (by decide) rfl ?_
    refine ww_icmp_ne (tgt := 384) C dL_act_377 (by decide) (fun c_65 => ?_) (fun c_65 => ?_)
    · replace hf := ifF c_65 hf
      refine ww_iconst (v := (-1)) C dL_act_384 (by decide) ?_
      obtain rfl := Option.some.inj hf
      refine ww_widen (k := 20700) (n := 44000) hcs.1 hcs.2 ?_
      exact ww_iret C ⟨_, rfl, rfl⟩ dL_act_385
    · replace hf := ifT c_65 hf
      refine ww_iconst (v := 1) C dL_act_380 (by decide) ?_
      refine ww_goto (tgt := 385) C dL_act_381 (by decide) ?_
      obtain rfl := Option.some.inj hf
      refine ww_widen (k := 20700) (n := 44000) hcs.1 hcs.2 ?_
      exact ww_iret C ⟨_, rfl, rfl⟩ dL_act_385
  · replace hf := ifF c_60 hf
    refine ww_aload_n C dL_act_339 rfl 1 rfl ?_
    refine ww_iload C dL_act_340 3 rfl ?_
    obtain ⟨p342, hp342, hf⟩ := bdE hf
    refine ww_callV C (As := [.int x6]) (st := []) (gr := [wHouse E a2 v2, wSight E a5 v5, wBest E a6 (rf2 (a7 0) (a8 0)) v6, wHouse E a7 v7, wSight E a8 v8, wToks E a9 v9, wHRead E a10 (rf1 (a9 0)), wArr E q11 6 v11, wOwn E a12 (rf4 q13 q15 q17 q19) v12, wRO E q13 20 a14 v13, wRR E a14 v14, wRO E q15 12 a16 v15, wRR E a16 v16, wRO E q17 4 a18 v17, wRR E a18 v18, wArr E q19 4 v19]) (c_X8_closeDoor (E := E) (a0 := a0) (h0_1 := a2 0) (h0_3 := a5 0) (h0_4 := h0_4) (h0_5 := a6 0) (h0_6 := h0_6) (h0_7 := a9 0) (h0_8 := a10 0) (h0_9 := h0_9) (a1 := a1) (a2 := a3) (h2_1 := h3_1) (q3 := q4) (ah3 := ah4) hp342) gL_act_X8_closeDoor rfl yk_X8_closeDoor ⟨by decide, Nat.le_of_ble_eq_true rfl⟩ hcs clOK8 0 0 rfl rfl [0, 1, 3, 4] [2, 5, 6, 7, 8, 9, 10, 11, 12, 13, 14, 15, 16, 17, 18, 19] 20 rfl (by decide) rfl rfl (Nat.le_of_ble_eq_true rfl) dL_act_342 ?_
    rintro _ _ ⟨rfl, rfl⟩
    refine ww_perm (gs' := [wGW E a0 (rf10 (a1 0) (a2 0) (a3 0) (a5 0) h0_4 (a6 0) h0_6 (a9 0) (a10 0) h0_9) v0, wHouse E a1 p342.2.1, wHouse E a2 v2, wHist E a3 (rf2 q4 h3_1) p342.2.2.1, wHs E q4 ah4 p342.2.2.2, wSight E a5 v5, wBest E a6 (rf2 (a7 0) (a8 0)) v6, wHouse E a7 v7, wSight E a8 v8, wToks E a9 v9, wHRead E a10 (rf1 (a9 0)), wArr E q11 6 v11, wOwn E a12 (rf4 q13 q15 q17 q19) v12, wRO E q13 20 a14 v13, wRR E a14 v14, wRO E q15 12 a16 v15, wRR E a16 v16, wRO E q17 4 a18 v17, wRR E a18 v18, wArr E q19 4 v19]) [0, 1, 4, 2, 3, 5, 6, 7, 8, 9, 10, 11, 12, 13, 14, 15, 16, 17, 18, 19] 20 rfl (by decide) rfl ?_
    refine ww_iload C dL_act_345 0 rfl ?_
    refine ww_icmp_ne (tgt := 354) C dL_act_347 (by decide) (fun c_66 => ?_) (fun c_66 => ?_)
    · replace hf := ifF c_66 hf
      refine ww_iconst (v := (-1)) C dL_act_354 (by decide) ?_
      obtain rfl := Option.some.inj hf
      refine ww_widen (k := 20700) (n := 44000) hcs.1 hcs.2 ?_
      exact ww_iret C ⟨_, rfl, rfl⟩ dL_act_355
    · replace hf := ifT c_66 hf
      refine ww_iconst (v := 0) C dL_act_350 (by decide) ?_
      refine ww_goto (tgt := 355) C dL_act_351 (by decide) ?_
      obtain rfl := Option.some.inj hf
      refine ww_widen (k := 20700) (n := 44000) hcs.1 hcs.2 ?_
      exact ww_iret C ⟨_, rfl, rfl⟩ dL_act_355

set_option maxHeartbeats 4000000 in
set_option maxRecDepth 100000 in
theorem w_L_act_331 {E : Ex} {K : Kx} (C : Cx E K cL_act 9 (some .int) RL wsL_act rmL_act) {a0 : Nat → Nat} {a1 : Nat → Nat} {a2 : Nat → Nat} {a3 : Nat → Nat} {q4 : Nat} {ah4 : Nat → Nat → Nat} {a5 : Nat → Nat} {a6 : Nat → Nat} {a7 : Nat → Nat} {a8 : Nat → Nat} {a9 : Nat → Nat} {a10 : Nat → Nat} {q11 : Nat} {a12 : Nat → Nat} {q13 : Nat} {a14 : Nat → Nat} {q15 : Nat} {a16 : Nat → Nat} {q17 : Nat} {a18 : Nat → Nat} {q19 : Nat} {h0_4 h0_6 h0_9 h3_1 : Nat} {x3 : Int32}   {x6 : Int32} {v0 : GWV} {v1 : HouseV} {v2 : HouseV} {v3 : HistV} {v4 : Nat → HouseV} {v5 : SightV} {v6 : BestV} {v7 : HouseV} {v8 : SightV} {v9 : ToksV} {v11 : Nat → Int32} {v12 : OwnV} {v13 : Nat} {v14 : RowsT} {v15 : Nat} {v16 : RowsT} {v17 : Nat} {v18 : RowsT} {v19 : Nat → Int32} {c : Nat} {s : Nat} {r : (Int32 × GWV × HouseV × HouseV × HistV × (Nat → HouseV) × SightV × BestV × HouseV × SightV × ToksV × (Nat → Int32) × OwnV × Nat × RowsT × Nat × RowsT × Nat × RowsT × (Nat → Int32))} (hcs : c ≤ 20700 ∧ s ≤ 44000) (hf : L_act_331 x3 x6 v0 v1 v2 v3 v4 v5 v6 v7 v8 v9 v11 v12 v13 v14 v15 v16 v17 v18 v19 c s = some r) : WW E K c s (QQ E K (fun rv g => ∃ (z18 : Nat → Nat), rv = some (.int r.1) ∧ g = [wGW E a0 (rf10 (a1 0) (a2 0) (a3 0) (a5 0) h0_4 (a6 0) h0_6 (a9 0) (a10 0) h0_9) r.2.1, wHouse E a1 r.2.2.1, wHouse E a2 r.2.2.2.1, wHist E a3 (rf2 q4 h3_1) r.2.2.2.2.1, wHs E q4 ah4 r.2.2.2.2.2.1, wSight E a5 r.2.2.2.2.2.2.1, wBest E a6 (rf2 (a7 0) (a8 0)) r.2.2.2.2.2.2.2.1, wHouse E a7 r.2.2.2.2.2.2.2.2.1, wSight E a8 r.2.2.2.2.2.2.2.2.2.1, wToks E a9 r.2.2.2.2.2.2.2.2.2.2.1, wHRead E a10 (rf1 (a9 0)), wArr E q11 6 r.2.2.2.2.2.2.2.2.2.2.2.1, wOwn E a12 (rf4 q13 q15 q17 q19) r.2.2.2.2.2.2.2.2.2.2.2.2.1, wRO E q13 20 a14 r.2.2.2.2.2.2.2.2.2.2.2.2.2.1, wRR E a14 r.2.2.2.2.2.2.2.2.2.2.2.2.2.2.1, wRO E q15 12 a16 r.2.2.2.2.2.2.2.2.2.2.2.2.2.2.2.1, wRR E a16 r.2.2.2.2.2.2.2.2.2.2.2.2.2.2.2.2.1, wRO E q17 4 z18 r.2.2.2.2.2.2.2.2.2.2.2.2.2.2.2.2.2.1, wRR E z18 r.2.2.2.2.2.2.2.2.2.2.2.2.2.2.2.2.2.2.1, wArr E q19 4 r.2.2.2.2.2.2.2.2.2.2.2.2.2.2.2.2.2.2.2]) 20700 44000) 331 [(0, .ref (a0 0)), (2, .ref (a12 0)), (6, .int x6)] [] [wGW E a0 (rf10 (a1 0) (a2 0) (a3 0) (a5 0) h0_4 (a6 0) h0_6 (a9 0) (a10 0) h0_9) v0, wHouse E a1 v1, wHouse E a2 v2, wHist E a3 (rf2 q4 h3_1) v3, wHs E q4 ah4 v4, wSight E a5 v5, wBest E a6 (rf2 (a7 0) (a8 0)) v6, wHouse E a7 v7, wSight E a8 v8, wToks E a9 v9, wHRead E a10 (rf1 (a9 0)), wArr E q11 6 v11, wOwn E a12 (rf4 q13 q15 q17 q19) v12, wRO E q13 20 a14 v13, wRR E a14 v14, wRO E q15 12 a16 v15, wRR E a16 v16, wRO E q17 4 a18 v17, wRR E a18 v18, wArr E q19 4 v19] := by
  rw [L_act_331] at hf
  refine ww_iconst (v := 0) C dL_act_331 (by decide) ?_
  refine ww_sub C (lv' := [(0, .ref (a0 0)), (2, .ref (a12 0)), (6, .int x6)]) [0, 1, 2] rfl ?_
  exact w_L_act_332 C hcs hf

set_option maxHeartbeats 4000000 in
set_option maxRecDepth 100000 in
theorem w_L_act_40 {E : Ex} {K : Kx} (C : Cx E K cL_act 9 (some .int) RL wsL_act rmL_act) {a0 : Nat → Nat} {a1 : Nat → Nat} {a2 : Nat → Nat} {a3 : Nat → Nat} {q4 : Nat} {ah4 : Nat → Nat → Nat} {a5 : Nat → Nat} {a6 : Nat → Nat} {a7 : Nat → Nat} {a8 : Nat → Nat} {a9 : Nat → Nat} {a10 : Nat → Nat} {q11 : Nat} {a12 : Nat → Nat} {q13 : Nat} {a14 : Nat → Nat} {q15 : Nat} {a16 : Nat → Nat} {q17 : Nat} {a18 : Nat → Nat} {q19 : Nat} {h0_4 h0_6 h0_9 h3_1 : Nat} {x3 : Int32}   {s0 : Int32} {s1 : Int32} {s2 : Int32} {v0 : GWV} {v1 : HouseV} {v2 : HouseV} {v3 : HistV} {v4 : Nat → HouseV} {v5 : SightV} {v6 : BestV} {v7 : HouseV} {v8 : SightV} {v9 : ToksV} {v11 : Nat → Int32} {v12 : OwnV} {v13 : Nat} {v14 : RowsT} {v15 : Nat} {v16 : RowsT} {v17 : Nat} {v18 : RowsT} {v19 : Nat → Int32} {c : Nat} {s : Nat} {r : (Int32 × GWV × HouseV × HouseV × HistV × (Nat → HouseV) × SightV × BestV × HouseV × SightV × ToksV × (Nat → Int32) × OwnV × Nat × RowsT × Nat × RowsT × Nat × RowsT × (Nat → Int32))} (hcs : c ≤ 20700 ∧ s ≤ 44000) (hf : L_act_40 x3 s0 s1 s2 v0 v1 v2 v3 v4 v5 v6 v7 v8 v9 v11 v12 v13 v14 v15 v16 v17 v18 v19 c s = some r) : WW E K c s (QQ E K (fun rv g => ∃ (z18 : Nat → Nat), rv = some (.int r.1) ∧ g = [wGW E a0 (rf10 (a1 0) (a2 0) (a3 0) (a5 0) h0_4 (a6 0) h0_6 (a9 0) (a10 0) h0_9) r.2.1, wHouse E a1 r.2.2.1, wHouse E a2 r.2.2.2.1, wHist E a3 (rf2 q4 h3_1) r.2.2.2.2.1, wHs E q4 ah4 r.2.2.2.2.2.1, wSight E a5 r.2.2.2.2.2.2.1, wBest E a6 (rf2 (a7 0) (a8 0)) r.2.2.2.2.2.2.2.1, wHouse E a7 r.2.2.2.2.2.2.2.2.1, wSight E a8 r.2.2.2.2.2.2.2.2.2.1, wToks E a9 r.2.2.2.2.2.2.2.2.2.2.1, wHRead E a10 (rf1 (a9 0)), wArr E q11 6 r.2.2.2.2.2.2.2.2.2.2.2.1, wOwn E a12 (rf4 q13 q15 q17 q19) r.2.2.2.2.2.2.2.2.2.2.2.2.1, wRO E q13 20 a14 r.2.2.2.2.2.2.2.2.2.2.2.2.2.1, wRR E a14 r.2.2.2.2.2.2.2.2.2.2.2.2.2.2.1, wRO E q15 12 a16 r.2.2.2.2.2.2.2.2.2.2.2.2.2.2.2.1, wRR E a16 r.2.2.2.2.2.2.2.2.2.2.2.2.2.2.2.2.1, wRO E q17 4 z18 r.2.2.2.2.2.2.2.2.2.2.2.2.2.2.2.2.2.1, wRR E z18 r.2.2.2.2.2.2.2.2.2.2.2.2.2.2.2.2.2.2.1, wArr E q19 4 r.2.2.2.2.2.2.2.2.2.2.2.2.2.2.2.2.2.2.2]) 20700 44000) 40 [(0, .ref (a0 0)), (2, .ref (a12 0))] [.int s0, .int s1, .int s2] [wGW E a0 (rf10 (a1 0) (a2 0) (a3 0) (a5 0) h0_4 (a6 0) h0_6 (a9 0) (a10 0) h0_9) v0, wHouse E a1 v1, wHouse E a2 v2, wHist E a3 (rf2 q4 h3_1) v3, wHs E q4 ah4 v4, wSight E a5 v5, wBest E a6 (rf2 (a7 0) (a8 0)) v6, wHouse E a7 v7, wSight E a8 v8, wToks E a9 v9, wHRead E a10 (rf1 (a9 0)), wArr E q11 6 v11, wOwn E a12 (rf4 q13 q15 q17 q19) v12, wRO E q13 20 a14 v13, wRR E a14 v14, wRO E q15 12 a16 v15, wRR E a16 v16, wRO E q17 4 a18 v17, wRR E a18 v18, wArr E q19 4 v19] := by
  rw [L_act_40] at hf
  obtain ⟨p40, hp40, hf⟩ := bdE hf
  refine ww_callS C (As := [.int s1, .int s0]) (st := [.int s2]) (gr := [wGW E a0 (rf10 (a1 0) (a2 0) (a3 0) (a5 0) h0_4 (a6 0) h0_6 (a9 0) (a10 0) h0_9) v0, wHouse E a1 v1, wHouse E a2 v2, wHist E a3 (rf2 q4 h3_1) v3, wHs E q4 ah4 v4, wSight E a5 v5, wBest E a6 (rf2 (a7 0) (a8 0)) v6, wHouse E a7 v7, wSight E a8 v8, wToks E a9 v9, wHRead E a10 (rf1 (a9 0)), wArr E q11 6 v11, wOwn E a12 (rf4 q13 q15 q17 q19) v12, wRO E q13 20 a14 v13, wRR E a14 v14, wRO E q15 12 a16 v15, wRR E a16 v16, wRO E q17 4 a18 v17, wRR E a18 v18, wArr E q19 4 v19]) (c_L_most (E := E)  hp40) gL_act_L_most rfl ysk_L_most ⟨by decide, Nat.le_of_ble_eq_true rfl⟩ hcs [] [0, 1, 2, 3, 4, 5, 6, 7, 8, 9, 10, 11, 12, 13, 14, 15, 16, 17, 18, 19] 20 rfl (by decide) rfl rfl (Nat.le_of_ble_eq_true rfl) dL_act_40 ?_
  rintro _ _ ⟨rfl, rfl⟩
  refine ww_perm (gs' := [wGW E a0 (rf10 (a1 0) (a2 0) (a3 0) (a5 0) h0_4 (a6 0) h0_6 (a9 0) (a10 0) h0_9) v0, wHouse E a1 v1, wHouse E a2 v2, wHist E a3 (rf2 q4 h3_1) v3, wHs E q4 ah4 v4, wSight E a5 v5, wBest E a6 (rf2 (a7 0) (a8 0)) v6, wHouse E a7 v7, wSight E a8 v8, wToks E a9 v9, wHRead E a10 (rf1 (a9 0)), wArr E q11 6 v11, wOwn E a12 (rf4 q13 q15 q17 q19) v12, wRO E q13 20 a14 v13, wRR E a14 v14, wRO E q15 12 a16 v15, wRR E a16 v16, wRO E q17 4 a18 v17, wRR E a18 v18, wArr E q19 4 v19]) [0, 1, 2, 3, 4, 5, 6, 7, 8, 9, 10, 11, 12, 13, 14, 15, 16, 17, 18, 19] 20 rfl (by decide) rfl ?_
  refine ww_iadd C dL_act_43 ?_
  refine ww_topi (fun x6_44 e_x6_44 => ?_)
  replace hf := ltE e_x6_44 hf
  refine ww_istore (lv' := [(6, .int x6_44), (0, .ref (a0 0)), (2, .ref (a12 0))]) C dL_act_44 (by decide) rfl ?_
  refine ww_aload_n C dL_act_46 rfl 2 rfl ?_
  refine ww_iload C dL_act_47 0 rfl ?_
  obtain ⟨p49, hp49, hf⟩ := bdE hf
  refine ww_callVN C (As := [.int x6_44]) (st := []) (gr := [wGW E a0 (rf10 (a1 0) (a2 0) (a3 0) (a5 0) h0_4 (a6 0) h0_6 (a9 0) (a10 0) h0_9) v0, wHouse E a1 v1, wHouse E a2 v2, wHist E a3 (rf2 q4 h3_1) v3, wHs E q4 ah4 v4, wSight E a5 v5, wBest E a6 (rf2 (a7 0) (a8 0)) v6, wHouse E a7 v7, wSight E a8 v8, wToks E a9 v9, wHRead E a10 (rf1 (a9 0)), wArr E q11 6 v11, wRO E q13 20 a14 v13, wRR E a14 v14]) (host := RL) (c_X9_pass (E := E) (a0 := a12) (h0_0 := q13) (q1 := q15) (a2 := a16) (q3 := q17) (a4 := a18) (q5 := q19) hp49) gL_act_X9_pass_n159 rfl (by decide +kernel) (by decide +kernel) (by decide +kernel) (by decide +kernel) yk_X9_pass ⟨by decide, Nat.le_of_ble_eq_true rfl⟩ hcs clOK9 0 0 rfl rfl [12, 15, 16, 17, 18, 19] [0, 1, 2, 3, 4, 5, 6, 7, 8, 9, 10, 11, 13, 14] 20 rfl (by decide) rfl rfl (Nat.le_of_ble_eq_true rfl) dL_act_49 ?_
  rintro _ _ ⟨rfl, rfl⟩
  refine ww_perm (gs' := [wGW E a0 (rf10 (a1 0) (a2 0) (a3 0) (a5 0) h0_4 (a6 0) h0_6 (a9 0) (a10 0) h0_9) v0, wHouse E a1 v1, wHouse E a2 v2, wHist E a3 (rf2 q4 h3_1) v3, wHs E q4 ah4 v4, wSight E a5 v5, wBest E a6 (rf2 (a7 0) (a8 0)) v6, wHouse E a7 v7, wSight E a8 v8, wToks E a9 v9, wHRead E a10 (rf1 (a9 0)), wArr E q11 6 v11, wOwn E a12 (rf4 q13 q15 q17 q19) p49.2.1, wRO E q13 20 a14 v13, wRR E a14 v14, wRO E q15 12 a16 v15, wRR E a16 p49.2.2, wRO E q17 4 a18 v17, wRR E a18 v18, wArr E q19 4 v19]) [6, 7, 8, 9, 10, 11, 12, 13, 14, 15, 16, 17, 0, 18, 19, 1, 2, 3, 4, 5] 20 rfl (by decide) rfl ?_
  refine ww_istore (lv' := [(7, .int p49.1), (6, .int x6_44), (0, .ref (a0 0)), (2, .ref (a12 0))]) C dL_act_52 (by decide) rfl ?_
  refine ww_aload_n C dL_act_54 rfl 2 rfl ?_
  refine ww_iload C dL_act_55 1 rfl ?_
  obtain ⟨p57, hp57, hf⟩ := bdE hf
  refine ww_callV C (As := [.int x6_44]) (st := []) (gr := [wHouse E a2 v2, wSight E a5 v5, wBest E a6 (rf2 (a7 0) (a8 0)) v6, wHouse E a7 v7, wSight E a8 v8, wToks E a9 v9, wHRead E a10 (rf1 (a9 0)), wArr E q11 6 v11, wOwn E a12 (rf4 q13 q15 q17 q19) p49.2.1, wRO E q13 20 a14 v13, wRR E a14 v14, wRO E q15 12 a16 v15, wRR E a16 p49.2.2, wRO E q17 4 a18 v17, wRR E a18 v18, wArr E q19 4 v19]) (c_X8_pass (E := E) (a0 := a0) (h0_1 := a2 0) (h0_3 := a5 0) (h0_4 := h0_4) (h0_5 := a6 0) (h0_6 := h0_6) (h0_7 := a9 0) (h0_8 := a10 0) (h0_9 := h0_9) (a1 := a1) (a2 := a3) (h2_1 := h3_1) (q3 := q4) (ah3 := ah4) hp57) gL_act_X8_pass rfl yk_X8_pass ⟨by decide, Nat.le_of_ble_eq_true rfl⟩ hcs clOK8 0 0 rfl rfl [0, 1, 3, 4] [2, 5, 6, 7, 8, 9, 10, 11, 12, 13, 14, 15, 16, 17, 18, 19] 20 rfl (by decide) rfl rfl (Nat.le_of_ble_eq_true rfl) dL_act_57 ?_
  rintro _ _ ⟨rfl, rfl⟩
  refine ww_perm (gs' := [wGW E a0 (rf10 (a1 0) (a2 0) (a3 0) (a5 0) h0_4 (a6 0) h0_6 (a9 0) (a10 0) h0_9) v0, wHouse E a1 p57.2.1, wHouse E a2 v2, wHist E a3 (rf2 q4 h3_1) p57.2.2.1, wHs E q4 ah4 p57.2.2.2, wSight E a5 v5, wBest E a6 (rf2 (a7 0) (a8 0)) v6, wHouse E a7 v7, wSight E a8 v8, wToks E a9 v9, wHRead E a10 (rf1 (a9 0)), wArr E q11 6 v11, wOwn E a12 (rf4 q13 q15 q17 q19) p49.2.1, wRO E q13 20 a14 v13, wRR E a14 v14, wRO E q15 12 a16 v15, wRR E a16 p49.2.2, wRO E q17 4 a18 v17, wRR E a18 v18, wArr E q19 4 v19]) [0, 1, 4, 2, 3, 5, 6, 7, 8, 9, 10, 11, 12, 13, 14, 15, 16, 17, 18, 19] 20 rfl (by decide) rfl ?_
  refine ww_iload C dL_act_60 0 rfl ?_
  refine ww_icmp_ne (tgt := 69) C dL_act_62 (by decide) (fun c_43 => ?_) (fun c_43 => ?_)
  · replace hf := ifF c_43 hf
    refine ww_iconst (v := (-1)) C dL_act_69 (by decide) ?_
    obtain rfl := Option.some.inj hf
    refine ww_widen (k := 20700) (n := 44000) hcs.1 hcs.2 ?_
    exact ww_iret C ⟨_, rfl, rfl⟩ dL_act_70
  · replace hf := ifT c_43 hf
    refine ww_iconst (v := 1) C dL_act_65 (by decide) ?_
    refine ww_goto (tgt := 70) C dL_act_66 (by decide) ?_
    obtain rfl := Option.some.inj hf
    refine ww_widen (k := 20700) (n := 44000) hcs.1 hcs.2 ?_
    exact ww_iret C ⟨_, rfl, rfl⟩ dL_act_70

set_option maxHeartbeats 4000000 in
set_option maxRecDepth 100000 in
theorem c_L_act {E : Ex} {a0 : Nat → Nat} {a1 : Nat → Nat} {a2 : Nat → Nat} {a3 : Nat → Nat} {q4 : Nat} {ah4 : Nat → Nat → Nat} {a5 : Nat → Nat} {a6 : Nat → Nat} {a7 : Nat → Nat} {a8 : Nat → Nat} {a9 : Nat → Nat} {a10 : Nat → Nat} {q11 : Nat} {a12 : Nat → Nat} {q13 : Nat} {a14 : Nat → Nat} {q15 : Nat} {a16 : Nat → Nat} {q17 : Nat} {a18 : Nat → Nat} {q19 : Nat} {h0_4 h0_6 h0_9 h3_1 : Nat} {x3 : Int32} {v0 : GWV} {v1 : HouseV} {v2 : HouseV} {v3 : HistV} {v4 : Nat → HouseV} {v5 : SightV} {v6 : BestV} {v7 : HouseV} {v8 : SightV} {v9 : ToksV} {v11 : Nat → Int32} {v12 : OwnV} {v13 : Nat} {v14 : RowsT} {v15 : Nat} {v16 : RowsT} {v17 : Nat} {v18 : RowsT} {v19 : Nat → Int32} {r : (Int32 × GWV × HouseV × HouseV × HistV × (Nat → HouseV) × SightV × BestV × HouseV × SightV × ToksV × (Nat → Int32) × OwnV × Nat × RowsT × Nat × RowsT × Nat × RowsT × (Nat → Int32))} (hf : L_act x3 v0 v1 v2 v3 v4 v5 v6 v7 v8 v9 v11 v12 v13 v14 v15 v16 v17 v18 v19 = some r) : Ct E yL_act wsL_act rmL_act [.ref (a0 0), .ref q11, .ref (a12 0), .int x3] [wGW E a0 (rf10 (a1 0) (a2 0) (a3 0) (a5 0) h0_4 (a6 0) h0_6 (a9 0) (a10 0) h0_9) v0, wHouse E a1 v1, wHouse E a2 v2, wHist E a3 (rf2 q4 h3_1) v3, wHs E q4 ah4 v4, wSight E a5 v5, wBest E a6 (rf2 (a7 0) (a8 0)) v6, wHouse E a7 v7, wSight E a8 v8, wToks E a9 v9, wHRead E a10 (rf1 (a9 0)), wArr E q11 6 v11, wOwn E a12 (rf4 q13 q15 q17 q19) v12, wRO E q13 20 a14 v13, wRR E a14 v14, wRO E q15 12 a16 v15, wRR E a16 v16, wRO E q17 4 a18 v17, wRR E a18 v18, wArr E q19 4 v19] (fun rv g => ∃ (z18 : Nat → Nat), rv = some (.int r.1) ∧ g = [wGW E a0 (rf10 (a1 0) (a2 0) (a3 0) (a5 0) h0_4 (a6 0) h0_6 (a9 0) (a10 0) h0_9) r.2.1, wHouse E a1 r.2.2.1, wHouse E a2 r.2.2.2.1, wHist E a3 (rf2 q4 h3_1) r.2.2.2.2.1, wHs E q4 ah4 r.2.2.2.2.2.1, wSight E a5 r.2.2.2.2.2.2.1, wBest E a6 (rf2 (a7 0) (a8 0)) r.2.2.2.2.2.2.2.1, wHouse E a7 r.2.2.2.2.2.2.2.2.1, wSight E a8 r.2.2.2.2.2.2.2.2.2.1, wToks E a9 r.2.2.2.2.2.2.2.2.2.2.1, wHRead E a10 (rf1 (a9 0)), wArr E q11 6 r.2.2.2.2.2.2.2.2.2.2.2.1, wOwn E a12 (rf4 q13 q15 q17 q19) r.2.2.2.2.2.2.2.2.2.2.2.2.1, wRO E q13 20 a14 r.2.2.2.2.2.2.2.2.2.2.2.2.2.1, wRR E a14 r.2.2.2.2.2.2.2.2.2.2.2.2.2.2.1, wRO E q15 12 a16 r.2.2.2.2.2.2.2.2.2.2.2.2.2.2.2.1, wRR E a16 r.2.2.2.2.2.2.2.2.2.2.2.2.2.2.2.2.1, wRO E q17 4 z18 r.2.2.2.2.2.2.2.2.2.2.2.2.2.2.2.2.2.1, wRR E z18 r.2.2.2.2.2.2.2.2.2.2.2.2.2.2.2.2.2.2.1, wArr E q19 4 r.2.2.2.2.2.2.2.2.2.2.2.2.2.2.2.2.2.2.2]) := by
  refine ct_of (own := RL) (by decide +kernel) rfl rfl (Nat.le_of_ble_eq_true rfl) (fun K C => ?_)
  refine ww_sub C (lv' := [(0, .ref (a0 0)), (1, .ref q11), (2, .ref (a12 0)), (3, .int x3)]) [0, 1, 2, 3] rfl ?_
  rw [L_act] at hf
  refine ww_iload_n C dL_act_0 rfl 3 rfl ?_
  refine ww_bipush (v := 16) C dL_act_1 (by decide) ?_
  obtain ⟨p3, hp3, hf⟩ := bdE hf
  refine ww_callS C (As := [.int x3, .int 16]) (st := []) (gr := [wGW E a0 (rf10 (a1 0) (a2 0) (a3 0) (a5 0) h0_4 (a6 0) h0_6 (a9 0) (a10 0) h0_9) v0, wHouse E a1 v1, wHouse E a2 v2, wHist E a3 (rf2 q4 h3_1) v3, wHs E q4 ah4 v4, wSight E a5 v5, wBest E a6 (rf2 (a7 0) (a8 0)) v6, wHouse E a7 v7, wSight E a8 v8, wToks E a9 v9, wHRead E a10 (rf1 (a9 0)), wArr E q11 6 v11, wOwn E a12 (rf4 q13 q15 q17 q19) v12, wRO E q13 20 a14 v13, wRR E a14 v14, wRO E q15 12 a16 v15, wRR E a16 v16, wRO E q17 4 a18 v17, wRR E a18 v18, wArr E q19 4 v19]) (c_L_most (E := E)  hp3) gL_act_L_most rfl ysk_L_most ⟨by decide, Nat.le_of_ble_eq_true rfl⟩ ⟨Nat.zero_le _, Nat.zero_le _⟩ [] [0, 1, 2, 3, 4, 5, 6, 7, 8, 9, 10, 11, 12, 13, 14, 15, 16, 17, 18, 19] 20 rfl (by decide) rfl rfl (Nat.le_of_ble_eq_true rfl) dL_act_3 ?_
  rintro _ _ ⟨rfl, rfl⟩
  refine ww_perm (gs' := [wGW E a0 (rf10 (a1 0) (a2 0) (a3 0) (a5 0) h0_4 (a6 0) h0_6 (a9 0) (a10 0) h0_9) v0, wHouse E a1 v1, wHouse E a2 v2, wHist E a3 (rf2 q4 h3_1) v3, wHs E q4 ah4 v4, wSight E a5 v5, wBest E a6 (rf2 (a7 0) (a8 0)) v6, wHouse E a7 v7, wSight E a8 v8, wToks E a9 v9, wHRead E a10 (rf1 (a9 0)), wArr E q11 6 v11, wOwn E a12 (rf4 q13 q15 q17 q19) v12, wRO E q13 20 a14 v13, wRR E a14 v14, wRO E q15 12 a16 v15, wRR E a16 v16, wRO E q17 4 a18 v17, wRR E a18 v18, wArr E q19 4 v19]) [0, 1, 2, 3, 4, 5, 6, 7, 8, 9, 10, 11, 12, 13, 14, 15, 16, 17, 18, 19] 20 rfl (by decide) rfl ?_
  refine ww_istore (lv' := [(4, .int p3), (0, .ref (a0 0)), (1, .ref q11), (2, .ref (a12 0)), (3, .int x3)]) C dL_act_6 (by decide) rfl ?_
  refine ww_iload_n C dL_act_8 rfl 4 rfl ?_
  refine ww_iconst (v := 4) C dL_act_9 (by decide) ?_
  refine ww_ishr C dL_act_10 ?_
  refine ww_topi (fun x5_11 e_x5_11 => ?_)
  replace hf := ltE e_x5_11 hf
  refine ww_istore (lv' := [(5, .int x5_11), (4, .int p3), (0, .ref (a0 0)), (1, .ref q11), (2, .ref (a12 0)), (3, .int x3)]) C dL_act_11 (by decide) rfl ?_
  refine ww_iload C dL_act_13 1 rfl ?_
  refine ww_iconst (v := 5) C dL_act_15 (by decide) ?_
  refine ww_icmp_ge (tgt := 71) C dL_act_16 (by decide) (fun c_2 => ?_) (fun c_2 => ?_)
  · replace hf := ifT c_2 hf
    refine ww_iload C dL_act_71 1 rfl ?_
    refine ww_iconst (v := 5) C dL_act_73 (by decide) ?_
    refine ww_icmp_ne (tgt := 150) C dL_act_74 (by decide) (fun c_3 => ?_) (fun c_3 => ?_)
    · replace hf := ifF c_3 hf
      refine ww_iload C dL_act_150 1 rfl ?_
      refine ww_bipush (v := 6) C dL_act_152 (by decide) ?_
      refine ww_icmp_ne (tgt := 240) C dL_act_154 (by decide) (fun c_4 => ?_) (fun c_4 => ?_)
      · replace hf := ifF c_4 hf
        refine ww_iload C dL_act_240 1 rfl ?_
        refine ww_bipush (v := 12) C dL_act_242 (by decide) ?_
        refine ww_icmp_ge (tgt := 446) C dL_act_244 (by decide) (fun c_5 => ?_) (fun c_5 => ?_)
        · replace hf := ifT c_5 hf
          refine ww_aload_n C dL_act_446 rfl 4 rfl ?_
          refine ww_getN C clOK9 in_L_act_X9 (w := wOwn E a12 (rf4 q13 q15 q17 q19) v12) (fs := fsOwn a12 (rf4 q13 q15 q17 q19) v12) (v := .int (Own_guards v12)) 12 0 2 rfl q_Own (by decide) (by decide +kernel) g_Own_guards dL_act_447 ?_
          refine ww_if_ne (tgt := 455) C dL_act_450 (by decide) (fun c_6 => ?_) (fun c_6 => ?_)
          · replace hf := ifF c_6 hf
            refine ww_iload C dL_act_455 0 rfl ?_
            refine ww_aload_n C dL_act_457 rfl 4 rfl ?_
            refine ww_getN C clOK9 in_L_act_X9 (w := wOwn E a12 (rf4 q13 q15 q17 q19) v12) (fs := fsOwn a12 (rf4 q13 q15 q17 q19) v12) (v := .int (Own_guards v12)) 12 0 2 rfl q_Own (by decide) (by decide +kernel) g_Own_guards dL_act_458 ?_
            obtain ⟨p461, hp461, hf⟩ := bdE hf
            refine ww_callS C (As := [.int x5_11, .int (Own_guards v12)]) (st := []) (gr := [wGW E a0 (rf10 (a1 0) (a2 0) (a3 0) (a5 0) h0_4 (a6 0) h0_6 (a9 0) (a10 0) h0_9) v0, wHouse E a1 v1, wHouse E a2 v2, wHist E a3 (rf2 q4 h3_1) v3, wHs E q4 ah4 v4, wSight E a5 v5, wBest E a6 (rf2 (a7 0) (a8 0)) v6, wHouse E a7 v7, wSight E a8 v8, wToks E a9 v9, wHRead E a10 (rf1 (a9 0)), wArr E q11 6 v11, wOwn E a12 (rf4 q13 q15 q17 q19) v12, wRO E q13 20 a14 v13, wRR E a14 v14, wRO E q15 12 a16 v15, wRR E a16 v16, wRO E q17 4 a18 v17, wRR E a18 v18, wArr E q19 4 v19]) (c_L_most (E := E)  hp461) gL_act_L_most rfl ysk_L_most ⟨by decide, Nat.le_of_ble_eq_true rfl⟩ ⟨Nat.zero_le _, Nat.zero_le _⟩ [] [0, 1, 2, 3, 4, 5, 6, 7, 8, 9, 10, 11, 12, 13, 14, 15, 16, 17, 18, 19] 20 rfl (by decide) rfl rfl (Nat.le_of_ble_eq_true rfl) dL_act_461 ?_
            rintro _ _ ⟨rfl, rfl⟩
            refine ww_perm (gs' := [wGW E a0 (rf10 (a1 0) (a2 0) (a3 0) (a5 0) h0_4 (a6 0) h0_6 (a9 0) (a10 0) h0_9) v0, wHouse E a1 v1, wHouse E a2 v2, wHist E a3 (rf2 q4 h3_1) v3, wHs E q4 ah4 v4, wSight E a5 v5, wBest E a6 (rf2 (a7 0) (a8 0)) v6, wHouse E a7 v7, wSight E a8 v8, wToks E a9 v9, wHRead E a10 (rf1 (a9 0)), wArr E q11 6 v11, wOwn E a12 (rf4 q13 q15 q17 q19) v12, wRO E q13 20 a14 v13, wRR E a14 v14, wRO E q15 12 a16 v15, wRR E a16 v16, wRO E q17 4 a18 v17, wRR E a18 v18, wArr E q19 4 v19]) [0, 1, 2, 3, 4, 5, 6, 7, 8, 9, 10, 11, 12, 13, 14, 15, 16, 17, 18, 19] 20 rfl (by decide) rfl ?_
            refine ww_istore (lv' := [(6, .int p461), (5, .int x5_11), (4, .int p3), (0, .ref (a0 0)), (1, .ref q11), (2, .ref (a12 0)), (3, .int x3)]) C dL_act_464 (by decide) rfl ?_
            refine ww_iload C dL_act_466 2 rfl ?_
            refine ww_bipush (v := 14) C dL_act_468 (by decide) ?_
            refine ww_icmp_ge (tgt := 561) C dL_act_470 (by decide) (fun c_7 => ?_) (fun c_7 => ?_)
            · replace hf := ifT c_7 hf
              refine ww_aload_n C dL_act_561 rfl 5 rfl ?_
              refine ww_getN C clOK9 in_L_act_X9 (w := wOwn E a12 (rf4 q13 q15 q17 q19) v12) (fs := fsOwn a12 (rf4 q13 q15 q17 q19) v12) (v := .ref q19) 12 0 7 rfl q_Own (by decide) (by decide +kernel) g_Own_phase dL_act_562 ?_
              refine ww_iload C dL_act_565 0 rfl ?_
              refine ww_iload C dL_act_567 1 rfl ?_
              refine ww_iconst (v := 3) C dL_act_569 (by decide) ?_
              refine ww_ishr C dL_act_570 ?_
              refine ww_aload_n C dL_act_571 rfl 5 rfl ?_
              refine ww_getN C clOK9 in_L_act_X9 (w := wOwn E a12 (rf4 q13 q15 q17 q19) v12) (fs := fsOwn a12 (rf4 q13 q15 q17 q19) v12) (v := .ref q17) 12 0 6 rfl q_Own (by decide) (by decide +kernel) g_Own_walk dL_act_572 ?_
              refine ww_iload C dL_act_575 0 rfl ?_
              obtain ⟨g_8, hf⟩ := gdE hf
              obtain ⟨g_9, hf⟩ := gdE hf
              refine ww_aldR C (f := roF a18 v17) (w := wRO E q17 4 a18 v17) 17 0 rfl q_RO (inB_vp g_8) (roF_at (of_decide_eq_true g_9)) dL_act_577 ?_
              obtain ⟨g_10, hf⟩ := gdE hf
              refine ww_alen C (v := nI (v18.2.1 (Int32.toNatClampNeg p461))) (w := wRR E a18 v18) 18 (Int32.toNatClampNeg p461) rfl (q_RR (of_decide_eq_true g_10)) rfl dL_act_578 ?_
              obtain ⟨p579, hp579, hf⟩ := bdE hf
              refine ww_callS C (As := [.int (x5_11 >>> (3 &&& 31)), .int (nI (v18.2.1 (Int32.toNatClampNeg p461)))]) (st := [.int p461, .ref q19]) (gr := [wGW E a0 (rf10 (a1 0) (a2 0) (a3 0) (a5 0) h0_4 (a6 0) h0_6 (a9 0) (a10 0) h0_9) v0, wHouse E a1 v1, wHouse E a2 v2, wHist E a3 (rf2 q4 h3_1) v3, wHs E q4 ah4 v4, wSight E a5 v5, wBest E a6 (rf2 (a7 0) (a8 0)) v6, wHouse E a7 v7, wSight E a8 v8, wToks E a9 v9, wHRead E a10 (rf1 (a9 0)), wArr E q11 6 v11, wOwn E a12 (rf4 q13 q15 q17 q19) v12, wRO E q13 20 a14 v13, wRR E a14 v14, wRO E q15 12 a16 v15, wRR E a16 v16, wRO E q17 4 a18 v17, wRR E a18 v18, wArr E q19 4 v19]) (c_L_most (E := E)  hp579) gL_act_L_most rfl ysk_L_most ⟨by decide, Nat.le_of_ble_eq_true rfl⟩ ⟨Nat.zero_le _, Nat.zero_le _⟩ [] [0, 1, 2, 3, 4, 5, 6, 7, 8, 9, 10, 11, 12, 13, 14, 15, 16, 17, 18, 19] 20 rfl (by decide) rfl rfl (Nat.le_of_ble_eq_true rfl) dL_act_579 ?_
              rintro _ _ ⟨rfl, rfl⟩
              refine ww_perm (gs' := [wGW E a0 (rf10 (a1 0) (a2 0) (a3 0) (a5 0) h0_4 (a6 0) h0_6 (a9 0) (a10 0) h0_9) v0, wHouse E a1 v1, wHouse E a2 v2, wHist E a3 (rf2 q4 h3_1) v3, wHs E q4 ah4 v4, wSight E a5 v5, wBest E a6 (rf2 (a7 0) (a8 0)) v6, wHouse E a7 v7, wSight E a8 v8, wToks E a9 v9, wHRead E a10 (rf1 (a9 0)), wArr E q11 6 v11, wOwn E a12 (rf4 q13 q15 q17 q19) v12, wRO E q13 20 a14 v13, wRR E a14 v14, wRO E q15 12 a16 v15, wRR E a16 v16, wRO E q17 4 a18 v17, wRR E a18 v18, wArr E q19 4 v19]) [0, 1, 2, 3, 4, 5, 6, 7, 8, 9, 10, 11, 12, 13, 14, 15, 16, 17, 18, 19] 20 rfl (by decide) rfl ?_
              obtain ⟨v19_582, e_v19_582⟩ : ∃ y : Nat → Int32, y = upd v19 (Int32.toNatClampNeg p461) p579 := ⟨_, rfl⟩
              replace hf := ltE e_v19_582 hf
              refine ww_iast C (f := v19) (w := wArr E q19 4 v19) (w' := wArr E q19 4 v19_582) (gs' := [wGW E a0 (rf10 (a1 0) (a2 0) (a3 0) (a5 0) h0_4 (a6 0) h0_6 (a9 0) (a10 0) h0_9) v0, wHouse E a1 v1, wHouse E a2 v2, wHist E a3 (rf2 q4 h3_1) v3, wHs E q4 ah4 v4, wSight E a5 v5, wBest E a6 (rf2 (a7 0) (a8 0)) v6, wHouse E a7 v7, wSight E a8 v8, wToks E a9 v9, wHRead E a10 (rf1 (a9 0)), wArr E q11 6 v11, wOwn E a12 (rf4 q13 q15 q17 q19) v12, wRO E q13 20 a14 v13, wRR E a14 v14, wRO E q15 12 a16 v15, wRR E a16 v16, wRO E q17 4 a18 v17, wRR E a18 v18, wArr E q19 4 v19_582]) 19 0 rfl q_Arr (inB_vp g_8) (by rw [e_v19_582]; exact s_Arr) rfl dL_act_582 ?_
              refine ww_aload_n C dL_act_583 rfl 3 rfl ?_
              refine ww_iload C dL_act_584 0 rfl ?_
              refine ww_aload_n C dL_act_586 rfl 5 rfl ?_
              refine ww_getN C clOK9 in_L_act_X9 (w := wOwn E a12 (rf4 q13 q15 q17 q19) v12) (fs := fsOwn a12 (rf4 q13 q15 q17 q19) v12) (v := .ref q19) 12 0 7 rfl q_Own (by decide) (by decide +kernel) g_Own_phase dL_act_587 ?_
              refine ww_iload C dL_act_590 0 rfl ?_
              refine ww_iald C (f := v19_582) (w := wArr E q19 4 v19_582) 19 0 rfl q_Arr (inB_vp g_8) dL_act_592 ?_
              obtain ⟨p593, hp593, hf⟩ := bdE hf
              refine ww_callV C (As := [.int p461, .int (v19_582 (Int32.toNatClampNeg p461))]) (st := []) (gr := [wHouse E a2 v2, wBest E a6 (rf2 (a7 0) (a8 0)) v6, wHouse E a7 v7, wSight E a8 v8, wToks E a9 v9, wHRead E a10 (rf1 (a9 0)), wArr E q11 6 v11, wOwn E a12 (rf4 q13 q15 q17 q19) v12, wRO E q13 20 a14 v13, wRR E a14 v14, wRO E q15 12 a16 v15, wRR E a16 v16, wRO E q17 4 a18 v17, wRR E a18 v18, wArr E q19 4 v19_582]) (c_X8_shift (E := E) (a0 := a0) (h0_1 := a2 0) (h0_4 := h0_4) (h0_5 := a6 0) (h0_6 := h0_6) (h0_7 := a9 0) (h0_8 := a10 0) (h0_9 := h0_9) (a1 := a1) (a2 := a3) (h2_1 := h3_1) (q3 := q4) (ah3 := ah4) (a4 := a5) hp593) gL_act_X8_shift rfl yk_X8_shift ⟨by decide, Nat.le_of_ble_eq_true rfl⟩ ⟨Nat.zero_le _, Nat.zero_le _⟩ clOK8 0 0 rfl rfl [0, 1, 3, 4, 5] [2, 6, 7, 8, 9, 10, 11, 12, 13, 14, 15, 16, 17, 18, 19] 20 rfl (by decide) rfl rfl (Nat.le_of_ble_eq_true rfl) dL_act_593 ?_
              rintro _ _ ⟨rfl, rfl⟩
              refine ww_perm (gs' := [wGW E a0 (rf10 (a1 0) (a2 0) (a3 0) (a5 0) h0_4 (a6 0) h0_6 (a9 0) (a10 0) h0_9) p593.2.1, wHouse E a1 p593.2.2.1, wHouse E a2 v2, wHist E a3 (rf2 q4 h3_1) p593.2.2.2.1, wHs E q4 ah4 p593.2.2.2.2.1, wSight E a5 p593.2.2.2.2.2, wBest E a6 (rf2 (a7 0) (a8 0)) v6, wHouse E a7 v7, wSight E a8 v8, wToks E a9 v9, wHRead E a10 (rf1 (a9 0)), wArr E q11 6 v11, wOwn E a12 (rf4 q13 q15 q17 q19) v12, wRO E q13 20 a14 v13, wRR E a14 v14, wRO E q15 12 a16 v15, wRR E a16 v16, wRO E q17 4 a18 v17, wRR E a18 v18, wArr E q19 4 v19_582]) [0, 1, 5, 2, 3, 4, 6, 7, 8, 9, 10, 11, 12, 13, 14, 15, 16, 17, 18, 19] 20 rfl (by decide) rfl ?_
              refine ww_aload_n C dL_act_596 rfl 5 rfl ?_
              obtain ⟨g_11, hf⟩ := gdE hf
              obtain ⟨p597, hp597, hf⟩ := bdE hf
              refine ww_callVN C (As := []) (st := [.int p593.1]) (gr := [wGW E a0 (rf10 (a1 0) (a2 0) (a3 0) (a5 0) h0_4 (a6 0) h0_6 (a9 0) (a10 0) h0_9) p593.2.1, wHouse E a1 p593.2.2.1, wHouse E a2 v2, wHist E a3 (rf2 q4 h3_1) p593.2.2.2.1, wHs E q4 ah4 p593.2.2.2.2.1, wSight E a5 p593.2.2.2.2.2, wBest E a6 (rf2 (a7 0) (a8 0)) v6, wHouse E a7 v7, wSight E a8 v8, wToks E a9 v9, wHRead E a10 (rf1 (a9 0)), wArr E q11 6 v11, wRO E q13 20 a14 v13, wRR E a14 v14, wRO E q15 12 a16 v15, wRR E a16 v16]) (host := RL) (c_X9_worst (E := E) (a0 := a12) (h0_0 := q13) (h0_1 := q15) (q1 := q17) (a2 := a18) (q3 := q19) hp597) gL_act_X9_worst_n126 rfl (by decide +kernel) (by decide +kernel) (by decide +kernel) (by decide +kernel) yk_X9_worst ⟨by decide, Nat.le_of_ble_eq_true rfl⟩ (of_decide_eq_true g_11) clOK9 0 0 rfl rfl [12, 17, 18, 19] [0, 1, 2, 3, 4, 5, 6, 7, 8, 9, 10, 11, 13, 14, 15, 16] 20 rfl (by decide) rfl rfl (Nat.le_of_ble_eq_true rfl) dL_act_597 ?_
              rintro _ _ ⟨rfl, rfl⟩
              refine ww_perm (gs' := [wGW E a0 (rf10 (a1 0) (a2 0) (a3 0) (a5 0) h0_4 (a6 0) h0_6 (a9 0) (a10 0) h0_9) p593.2.1, wHouse E a1 p593.2.2.1, wHouse E a2 v2, wHist E a3 (rf2 q4 h3_1) p593.2.2.2.1, wHs E q4 ah4 p593.2.2.2.2.1, wSight E a5 p593.2.2.2.2.2, wBest E a6 (rf2 (a7 0) (a8 0)) v6, wHouse E a7 v7, wSight E a8 v8, wToks E a9 v9, wHRead E a10 (rf1 (a9 0)), wArr E q11 6 v11, wOwn E a12 (rf4 q13 q15 q17 q19) v12, wRO E q13 20 a14 v13, wRR E a14 v14, wRO E q15 12 a16 v15, wRR E a16 v16, wRO E q17 4 a18 v17, wRR E a18 v18, wArr E q19 4 v19_582]) [4, 5, 6, 7, 8, 9, 10, 11, 12, 13, 14, 15, 0, 16, 17, 18, 19, 1, 2, 3] 20 rfl (by decide) rfl ?_
              refine ww_icmp_ne (tgt := 607) C dL_act_600 (by decide) (fun c_12 => ?_) (fun c_12 => ?_)
              · replace hf := ifF c_12 hf
                refine ww_iconst (v := (-1)) C dL_act_607 (by decide) ?_
                obtain rfl := Option.some.inj hf
                refine ww_widen (k := 20700) (n := 44000) (of_decide_eq_true g_11).1 (of_decide_eq_true g_11).2 ?_
                exact ww_iret C ⟨_, rfl, rfl⟩ dL_act_608
              · replace hf := ifT c_12 hf
                refine ww_iconst (v := 1) C dL_act_603 (by decide) ?_
                refine ww_goto (tgt := 608) C dL_act_604 (by decide) ?_
                obtain rfl := Option.some.inj hf
                refine ww_widen (k := 20700) (n := 44000) (of_decide_eq_true g_11).1 (of_decide_eq_true g_11).2 ?_
                exact ww_iret C ⟨_, rfl, rfl⟩ dL_act_608
            · replace hf := ifF c_7 hf
              refine ww_aload_n C dL_act_473 rfl 5 rfl ?_
              refine ww_getN C clOK9 in_L_act_X9 (w := wOwn E a12 (rf4 q13 q15 q17 q19) v12) (fs := fsOwn a12 (rf4 q13 q15 q17 q19) v12) (v := .ref q17) 12 0 6 rfl q_Own (by decide) (by decide +kernel) g_Own_walk dL_act_474 ?_
              refine ww_iload C dL_act_477 0 rfl ?_
              refine ww_aload_n C dL_act_479 rfl 5 rfl ?_
              refine ww_iload C dL_act_480 1 rfl ?_
              refine ww_iconst (v := 2) C dL_act_482 (by decide) ?_
              refine ww_ishr C dL_act_483 ?_
              obtain ⟨g_13, hf⟩ := gdE hf
              obtain ⟨p484, hp484, hf⟩ := bdE hf
              refine ww_callVN C (As := [.int (x5_11 >>> (2 &&& 31))]) (st := [.int p461, .ref q17]) (gr := [wGW E a0 (rf10 (a1 0) (a2 0) (a3 0) (a5 0) h0_4 (a6 0) h0_6 (a9 0) (a10 0) h0_9) v0, wHouse E a1 v1, wHouse E a2 v2, wHist E a3 (rf2 q4 h3_1) v3, wHs E q4 ah4 v4, wSight E a5 v5, wBest E a6 (rf2 (a7 0) (a8 0)) v6, wHouse E a7 v7, wSight E a8 v8, wToks E a9 v9, wHRead E a10 (rf1 (a9 0)), wArr E q11 6 v11, wRO E q15 12 a16 v15, wRR E a16 v16, wRO E q17 4 a18 v17, wRR E a18 v18, wArr E q19 4 v19]) (host := RL) (c_X9_walkBy (E := E) (a0 := a12) (h0_1 := q15) (h0_2 := q17) (h0_3 := q19) (q1 := q13) (a2 := a14) hp484) gL_act_X9_walkBy_n48 rfl (by decide +kernel) (by decide +kernel) (by decide +kernel) (by decide +kernel) yk_X9_walkBy ⟨by decide, Nat.le_of_ble_eq_true rfl⟩ (of_decide_eq_true g_13) clOK9 0 0 rfl rfl [12, 13, 14] [0, 1, 2, 3, 4, 5, 6, 7, 8, 9, 10, 11, 15, 16, 17, 18, 19] 20 rfl (by decide) rfl rfl (Nat.le_of_ble_eq_true rfl) dL_act_484 ?_
              rintro _ _ ⟨y484_0, rfl, rfl⟩
              refine ww_perm (gs' := [wGW E a0 (rf10 (a1 0) (a2 0) (a3 0) (a5 0) h0_4 (a6 0) h0_6 (a9 0) (a10 0) h0_9) v0, wHouse E a1 v1, wHouse E a2 v2, wHist E a3 (rf2 q4 h3_1) v3, wHs E q4 ah4 v4, wSight E a5 v5, wBest E a6 (rf2 (a7 0) (a8 0)) v6, wHouse E a7 v7, wSight E a8 v8, wToks E a9 v9, wHRead E a10 (rf1 (a9 0)), wArr E q11 6 v11, wOwn E a12 (rf4 q13 q15 q17 q19) v12, wRO E q13 20 a14 v13, wRR E a14 v14, wRO E q15 12 a16 v15, wRR E a16 v16, wRO E q17 4 a18 v17, wRR E a18 v18, wArr E q19 4 v19, wArr E y484_0 p484.1 p484.2]) [4, 5, 6, 7, 8, 9, 10, 11, 12, 13, 14, 15, 0, 1, 2, 16, 17, 18, 19, 20, 3] 21 rfl (by decide) rfl ?_
              obtain ⟨g_14, hf⟩ := gdE hf
              obtain ⟨g_15, hf⟩ := gdE hf
              obtain ⟨g_16, hf⟩ := gdE hf
              refine ww_astR C (b := y484_0) (f := roF a18 v17) (w := wRO E q17 4 a18 v17) (w' := wRO E q17 4 (upA a18 (Int32.toNatClampNeg p461) y484_0) v17) (wv := wArr E y484_0 p484.1 p484.2) (gs' := [wGW E a0 (rf10 (a1 0) (a2 0) (a3 0) (a5 0) h0_4 (a6 0) h0_6 (a9 0) (a10 0) h0_9) v0, wHouse E a1 v1, wHouse E a2 v2, wHist E a3 (rf2 q4 h3_1) v3, wHs E q4 ah4 v4, wSight E a5 v5, wBest E a6 (rf2 (a7 0) (a8 0)) v6, wHouse E a7 v7, wSight E a8 v8, wToks E a9 v9, wHRead E a10 (rf1 (a9 0)), wArr E q11 6 v11, wOwn E a12 (rf4 q13 q15 q17 q19) v12, wRO E q13 20 a14 v13, wRR E a14 v14, wRO E q15 12 a16 v15, wRR E a16 v16, wRO E q17 4 (upA a18 (Int32.toNatClampNeg p461) y484_0) v17, wRR E a18 v18, wArr E q19 4 v19, wArr E y484_0 p484.1 p484.2]) 17 0 20 0 rfl q_RO rfl q_Arr (inB_vp g_14) (ro_swap (of_decide_eq_true g_15)) rfl dL_act_487 ?_
              obtain ⟨v18_487, e_v18_487⟩ : ∃ y : RowsT, y = rrPut v18 (Int32.toNatClampNeg p461) p484.1 p484.2 := ⟨_, rfl⟩
              replace hf := ltE e_v18_487 hf
              refine ww_regr (gs' := [wGW E a0 (rf10 (a1 0) (a2 0) (a3 0) (a5 0) h0_4 (a6 0) h0_6 (a9 0) (a10 0) h0_9) v0, wHouse E a1 v1, wHouse E a2 v2, wHist E a3 (rf2 q4 h3_1) v3, wHs E q4 ah4 v4, wSight E a5 v5, wBest E a6 (rf2 (a7 0) (a8 0)) v6, wHouse E a7 v7, wSight E a8 v8, wToks E a9 v9, wHRead E a10 (rf1 (a9 0)), wArr E q11 6 v11, wOwn E a12 (rf4 q13 q15 q17 q19) v12, wRO E q13 20 a14 v13, wRR E a14 v14, wRO E q15 12 a16 v15, wRR E a16 v16, wRO E q17 4 (upA a18 (Int32.toNatClampNeg p461) y484_0) v17, wRRa E a18 v18 (Int32.toNatClampNeg p461), wArr E (a18 (Int32.toNatClampNeg p461)) (v18.2.1 (Int32.toNatClampNeg p461)) (v18.2.2 (Int32.toNatClampNeg p461)), wRRb E a18 v18 (Int32.toNatClampNeg p461), wArr E q19 4 v19, wArr E y484_0 p484.1 p484.2]) (by rw [rr_cut (of_decide_eq_true g_16)]; simp only [List.flatten_cons, List.flatten_nil, List.append_assoc]) ?_
              refine ww_drop (gs' := [wGW E a0 (rf10 (a1 0) (a2 0) (a3 0) (a5 0) h0_4 (a6 0) h0_6 (a9 0) (a10 0) h0_9) v0, wHouse E a1 v1, wHouse E a2 v2, wHist E a3 (rf2 q4 h3_1) v3, wHs E q4 ah4 v4, wSight E a5 v5, wBest E a6 (rf2 (a7 0) (a8 0)) v6, wHouse E a7 v7, wSight E a8 v8, wToks E a9 v9, wHRead E a10 (rf1 (a9 0)), wArr E q11 6 v11, wOwn E a12 (rf4 q13 q15 q17 q19) v12, wRO E q13 20 a14 v13, wRR E a14 v14, wRO E q15 12 a16 v15, wRR E a16 v16, wRO E q17 4 (upA a18 (Int32.toNatClampNeg p461) y484_0) v17, wRRa E a18 v18 (Int32.toNatClampNeg p461), wArr E y484_0 p484.1 p484.2, wRRb E a18 v18 (Int32.toNatClampNeg p461), wArr E q19 4 v19]) [0, 1, 2, 3, 4, 5, 6, 7, 8, 9, 10, 11, 12, 13, 14, 15, 16, 17, 18, 22, 20, 21] [19] 23 rfl (by decide) rfl ?_
              refine ww_regr (gs' := [wGW E a0 (rf10 (a1 0) (a2 0) (a3 0) (a5 0) h0_4 (a6 0) h0_6 (a9 0) (a10 0) h0_9) v0, wHouse E a1 v1, wHouse E a2 v2, wHist E a3 (rf2 q4 h3_1) v3, wHs E q4 ah4 v4, wSight E a5 v5, wBest E a6 (rf2 (a7 0) (a8 0)) v6, wHouse E a7 v7, wSight E a8 v8, wToks E a9 v9, wHRead E a10 (rf1 (a9 0)), wArr E q11 6 v11, wOwn E a12 (rf4 q13 q15 q17 q19) v12, wRO E q13 20 a14 v13, wRR E a14 v14, wRO E q15 12 a16 v15, wRR E a16 v16, wRO E q17 4 (upA a18 (Int32.toNatClampNeg p461) y484_0) v17, wRR E (upA a18 (Int32.toNatClampNeg p461) y484_0) v18_487, wArr E q19 4 v19]) (by rw [e_v18_487, rr_put (of_decide_eq_true g_16)]; simp only [List.flatten_cons, List.flatten_nil, List.append_assoc]) ?_
              refine ww_aload_n C dL_act_488 rfl 5 rfl ?_
              refine ww_getN C clOK9 in_L_act_X9 (w := wOwn E a12 (rf4 q13 q15 q17 q19) v12) (fs := fsOwn a12 (rf4 q13 q15 q17 q19) v12) (v := .ref q19) 12 0 7 rfl q_Own (by decide) (by decide +kernel) g_Own_phase dL_act_489 ?_
              refine ww_iload C dL_act_492 0 rfl ?_
              refine ww_iload C dL_act_494 1 rfl ?_
              refine ww_bipush (v := 8) C dL_act_496 (by decide) ?_
              refine ww_ishr C dL_act_498 ?_
              refine ww_aload_n C dL_act_499 rfl 5 rfl ?_
              refine ww_getN C clOK9 in_L_act_X9 (w := wOwn E a12 (rf4 q13 q15 q17 q19) v12) (fs := fsOwn a12 (rf4 q13 q15 q17 q19) v12) (v := .ref q17) 12 0 6 rfl q_Own (by decide) (by decide +kernel) g_Own_walk dL_act_500 ?_
              refine ww_iload C dL_act_503 0 rfl ?_
              refine ww_aldR C (f := roF (upA a18 (Int32.toNatClampNeg p461) y484_0) v17) (w := wRO E q17 4 (upA a18 (Int32.toNatClampNeg p461) y484_0) v17) 17 0 rfl q_RO (inB_vp g_14) (roF_at (of_decide_eq_true g_15)) dL_act_505 ?_
              obtain ⟨g_17, hf⟩ := gdE hf
              refine ww_alen C (v := nI (v18_487.2.1 (Int32.toNatClampNeg p461))) (w := wRR E (upA a18 (Int32.toNatClampNeg p461) y484_0) v18_487) 18 (Int32.toNatClampNeg p461) rfl (q_RR (of_decide_eq_true g_17)) rfl dL_act_506 ?_
              obtain ⟨p507, hp507, hf⟩ := bdE hf
              refine ww_callS C (As := [.int (x5_11 >>> (8 &&& 31)), .int (nI (v18_487.2.1 (Int32.toNatClampNeg p461)))]) (st := [.int p461, .ref q19]) (gr := [wGW E a0 (rf10 (a1 0) (a2 0) (a3 0) (a5 0) h0_4 (a6 0) h0_6 (a9 0) (a10 0) h0_9) v0, wHouse E a1 v1, wHouse E a2 v2, wHist E a3 (rf2 q4 h3_1) v3, wHs E q4 ah4 v4, wSight E a5 v5, wBest E a6 (rf2 (a7 0) (a8 0)) v6, wHouse E a7 v7, wSight E a8 v8, wToks E a9 v9, wHRead E a10 (rf1 (a9 0)), wArr E q11 6 v11, wOwn E a12 (rf4 q13 q15 q17 q19) v12, wRO E q13 20 a14 v13, wRR E a14 v14, wRO E q15 12 a16 v15, wRR E a16 v16, wRO E q17 4 (upA a18 (Int32.toNatClampNeg p461) y484_0) v17, wRR E (upA a18 (Int32.toNatClampNeg p461) y484_0) v18_487, wArr E q19 4 v19]) (c_L_most (E := E)  hp507) gL_act_L_most rfl ysk_L_most ⟨by decide, Nat.le_of_ble_eq_true rfl⟩ (of_decide_eq_true g_13) [] [0, 1, 2, 3, 4, 5, 6, 7, 8, 9, 10, 11, 12, 13, 14, 15, 16, 17, 18, 19] 20 rfl (by decide) rfl rfl (Nat.le_of_ble_eq_true rfl) dL_act_507 ?_
              rintro _ _ ⟨rfl, rfl⟩
              refine ww_perm (gs' := [wGW E a0 (rf10 (a1 0) (a2 0) (a3 0) (a5 0) h0_4 (a6 0) h0_6 (a9 0) (a10 0) h0_9) v0, wHouse E a1 v1, wHouse E a2 v2, wHist E a3 (rf2 q4 h3_1) v3, wHs E q4 ah4 v4, wSight E a5 v5, wBest E a6 (rf2 (a7 0) (a8 0)) v6, wHouse E a7 v7, wSight E a8 v8, wToks E a9 v9, wHRead E a10 (rf1 (a9 0)), wArr E q11 6 v11, wOwn E a12 (rf4 q13 q15 q17 q19) v12, wRO E q13 20 a14 v13, wRR E a14 v14, wRO E q15 12 a16 v15, wRR E a16 v16, wRO E q17 4 (upA a18 (Int32.toNatClampNeg p461) y484_0) v17, wRR E (upA a18 (Int32.toNatClampNeg p461) y484_0) v18_487, wArr E q19 4 v19]) [0, 1, 2, 3, 4, 5, 6, 7, 8, 9, 10, 11, 12, 13, 14, 15, 16, 17, 18, 19] 20 rfl (by decide) rfl ?_
              obtain ⟨v19_510, e_v19_510⟩ : ∃ y : Nat → Int32, y = upd v19 (Int32.toNatClampNeg p461) p507 := ⟨_, rfl⟩
              replace hf := ltE e_v19_510 hf
              refine ww_iast C (f := v19) (w := wArr E q19 4 v19) (w' := wArr E q19 4 v19_510) (gs' := [wGW E a0 (rf10 (a1 0) (a2 0) (a3 0) (a5 0) h0_4 (a6 0) h0_6 (a9 0) (a10 0) h0_9) v0, wHouse E a1 v1, wHouse E a2 v2, wHist E a3 (rf2 q4 h3_1) v3, wHs E q4 ah4 v4, wSight E a5 v5, wBest E a6 (rf2 (a7 0) (a8 0)) v6, wHouse E a7 v7, wSight E a8 v8, wToks E a9 v9, wHRead E a10 (rf1 (a9 0)), wArr E q11 6 v11, wOwn E a12 (rf4 q13 q15 q17 q19) v12, wRO E q13 20 a14 v13, wRR E a14 v14, wRO E q15 12 a16 v15, wRR E a16 v16, wRO E q17 4 (upA a18 (Int32.toNatClampNeg p461) y484_0) v17, wRR E (upA a18 (Int32.toNatClampNeg p461) y484_0) v18_487, wArr E q19 4 v19_510]) 19 0 rfl q_Arr (inB_vp g_14) (by rw [e_v19_510]; exact s_Arr) rfl dL_act_510 ?_
              refine ww_aload_n C dL_act_511 rfl 3 rfl ?_
              refine ww_aload_n C dL_act_512 rfl 4 rfl ?_
              refine ww_ldcS C (i := 24) rfl dL_act_513 ?_
              refine ww_iload C dL_act_515 0 rfl ?_
              obtain ⟨p517, hp517, hf⟩ := bdE hf
              refine ww_callS C (As := [.ref (a0 0), .ref q11, .ref (eK E 24), .int p461]) (st := []) (gr := [wHouse E a1 v1, wHouse E a2 v2, wHist E a3 (rf2 q4 h3_1) v3, wHs E q4 ah4 v4, wSight E a5 v5, wBest E a6 (rf2 (a7 0) (a8 0)) v6, wHouse E a7 v7, wSight E a8 v8, wHRead E a10 (rf1 (a9 0)), wOwn E a12 (rf4 q13 q15 q17 q19) v12, wRO E q13 20 a14 v13, wRR E a14 v14, wRO E q15 12 a16 v15, wRR E a16 v16, wRO E q17 4 (upA a18 (Int32.toNatClampNeg p461) y484_0) v17, wRR E (upA a18 (Int32.toNatClampNeg p461) y484_0) v18_487, wArr E q19 4 v19_510]) (c_L_with (E := E) (a0 := a0) (h0_0 := a1 0) (h0_1 := a2 0) (h0_2 := a3 0) (h0_3 := a5 0) (h0_4 := h0_4) (h0_5 := a6 0) (h0_6 := h0_6) (h0_8 := a10 0) (h0_9 := h0_9) (a1 := a9) (q2 := q11) hp517) gL_act_L_with rfl ysk_L_with ⟨by decide, Nat.le_of_ble_eq_true rfl⟩ (of_decide_eq_true g_13) [0, 9, 11] [1, 2, 3, 4, 5, 6, 7, 8, 10, 12, 13, 14, 15, 16, 17, 18, 19] 20 rfl (by decide) rfl rfl (Nat.le_of_ble_eq_true rfl) dL_act_517 ?_
              rintro _ _ ⟨rfl, rfl⟩
              refine ww_perm (gs' := [wGW E a0 (rf10 (a1 0) (a2 0) (a3 0) (a5 0) h0_4 (a6 0) h0_6 (a9 0) (a10 0) h0_9) v0, wHouse E a1 v1, wHouse E a2 v2, wHist E a3 (rf2 q4 h3_1) v3, wHs E q4 ah4 v4, wSight E a5 v5, wBest E a6 (rf2 (a7 0) (a8 0)) v6, wHouse E a7 v7, wSight E a8 v8, wToks E a9 p517.1, wHRead E a10 (rf1 (a9 0)), wArr E q11 6 p517.2, wOwn E a12 (rf4 q13 q15 q17 q19) v12, wRO E q13 20 a14 v13, wRR E a14 v14, wRO E q15 12 a16 v15, wRR E a16 v16, wRO E q17 4 (upA a18 (Int32.toNatClampNeg p461) y484_0) v17, wRR E (upA a18 (Int32.toNatClampNeg p461) y484_0) v18_487, wArr E q19 4 v19_510]) [0, 3, 4, 5, 6, 7, 8, 9, 10, 1, 11, 2, 12, 13, 14, 15, 16, 17, 18, 19] 20 rfl (by decide) rfl ?_
              refine ww_aload_n C dL_act_520 rfl 3 rfl ?_
              refine ww_aload_n C dL_act_521 rfl 4 rfl ?_
              refine ww_aload_n C dL_act_522 rfl 5 rfl ?_
              refine ww_getN C clOK9 in_L_act_X9 (w := wOwn E a12 (rf4 q13 q15 q17 q19) v12) (fs := fsOwn a12 (rf4 q13 q15 q17 q19) v12) (v := .ref q17) 12 0 6 rfl q_Own (by decide) (by decide +kernel) g_Own_walk dL_act_523 ?_
              refine ww_iload C dL_act_526 0 rfl ?_
              refine ww_aldR C (f := roF (upA a18 (Int32.toNatClampNeg p461) y484_0) v17) (w := wRO E q17 4 (upA a18 (Int32.toNatClampNeg p461) y484_0) v17) 17 0 rfl q_RO (inB_vp g_14) (roF_at (of_decide_eq_true g_15)) dL_act_528 ?_
              refine ww_aload_n C dL_act_529 rfl 5 rfl ?_
              refine ww_getN C clOK9 in_L_act_X9 (w := wOwn E a12 (rf4 q13 q15 q17 q19) v12) (fs := fsOwn a12 (rf4 q13 q15 q17 q19) v12) (v := .ref q19) 12 0 7 rfl q_Own (by decide) (by decide +kernel) g_Own_phase dL_act_530 ?_
              refine ww_iload C dL_act_533 0 rfl ?_
              refine ww_iald C (f := v19_510) (w := wArr E q19 4 v19_510) 19 0 rfl q_Arr (inB_vp g_14) dL_act_535 ?_
              obtain ⟨p536, hp536, hf⟩ := bdE hf
              refine ww_regr (gs' := [wGW E a0 (rf10 (a1 0) (a2 0) (a3 0) (a5 0) h0_4 (a6 0) h0_6 (a9 0) (a10 0) h0_9) v0, wHouse E a1 v1, wHouse E a2 v2, wHist E a3 (rf2 q4 h3_1) v3, wHs E q4 ah4 v4, wSight E a5 v5, wBest E a6 (rf2 (a7 0) (a8 0)) v6, wHouse E a7 v7, wSight E a8 v8, wToks E a9 p517.1, wHRead E a10 (rf1 (a9 0)), wArr E q11 6 p517.2, wOwn E a12 (rf4 q13 q15 q17 q19) v12, wRO E q13 20 a14 v13, wRR E a14 v14, wRO E q15 12 a16 v15, wRR E a16 v16, wRO E q17 4 (upA a18 (Int32.toNatClampNeg p461) y484_0) v17, wRRa E (upA a18 (Int32.toNatClampNeg p461) y484_0) v18_487 (Int32.toNatClampNeg p461), wArr E ((upA a18 (Int32.toNatClampNeg p461) y484_0) (Int32.toNatClampNeg p461)) (v18_487.2.1 (Int32.toNatClampNeg p461)) (v18_487.2.2 (Int32.toNatClampNeg p461)), wRRb E (upA a18 (Int32.toNatClampNeg p461) y484_0) v18_487 (Int32.toNatClampNeg p461), wArr E q19 4 v19_510]) (by rw [rr_cut (of_decide_eq_true g_17)]; simp only [List.flatten_cons, List.flatten_nil, List.append_assoc]) ?_
              refine ww_callS C (As := [.ref (a0 0), .ref q11, .ref ((upA a18 (Int32.toNatClampNeg p461) y484_0) (Int32.toNatClampNeg p461)), .int (v19_510 (Int32.toNatClampNeg p461))]) (st := []) (gr := [wHouse E a1 v1, wHouse E a2 v2, wHist E a3 (rf2 q4 h3_1) v3, wHs E q4 ah4 v4, wSight E a5 v5, wBest E a6 (rf2 (a7 0) (a8 0)) v6, wHouse E a7 v7, wSight E a8 v8, wHRead E a10 (rf1 (a9 0)), wOwn E a12 (rf4 q13 q15 q17 q19) v12, wRO E q13 20 a14 v13, wRR E a14 v14, wRO E q15 12 a16 v15, wRR E a16 v16, wRO E q17 4 (upA a18 (Int32.toNatClampNeg p461) y484_0) v17, wRRa E (upA a18 (Int32.toNatClampNeg p461) y484_0) v18_487 (Int32.toNatClampNeg p461), wRRb E (upA a18 (Int32.toNatClampNeg p461) y484_0) v18_487 (Int32.toNatClampNeg p461), wArr E q19 4 v19_510]) (c_L_walkOf (E := E) (a0 := a0) (h0_0 := a1 0) (h0_1 := a2 0) (h0_2 := a3 0) (h0_3 := a5 0) (h0_4 := h0_4) (h0_5 := a6 0) (h0_6 := h0_6) (h0_8 := a10 0) (h0_9 := h0_9) (a1 := a9) (q2 := q11) (q3 := (upA a18 (Int32.toNatClampNeg p461) y484_0) (Int32.toNatClampNeg p461)) (n3 := (v18_487.2.1 (Int32.toNatClampNeg p461))) hp536) gL_act_L_walkOf rfl ysk_L_walkOf ⟨by decide, Nat.le_of_ble_eq_true rfl⟩ (of_decide_eq_true g_13) [0, 9, 11, 19] [1, 2, 3, 4, 5, 6, 7, 8, 10, 12, 13, 14, 15, 16, 17, 18, 20, 21] 22 rfl (by decide) rfl rfl (Nat.le_of_ble_eq_true rfl) dL_act_536 ?_
              rintro _ _ ⟨rfl, rfl⟩
              refine ww_perm (gs' := [wGW E a0 (rf10 (a1 0) (a2 0) (a3 0) (a5 0) h0_4 (a6 0) h0_6 (a9 0) (a10 0) h0_9) v0, wHouse E a1 v1, wHouse E a2 v2, wHist E a3 (rf2 q4 h3_1) v3, wHs E q4 ah4 v4, wSight E a5 v5, wBest E a6 (rf2 (a7 0) (a8 0)) v6, wHouse E a7 v7, wSight E a8 v8, wToks E a9 p536.1, wHRead E a10 (rf1 (a9 0)), wArr E q11 6 p536.2, wOwn E a12 (rf4 q13 q15 q17 q19) v12, wRO E q13 20 a14 v13, wRR E a14 v14, wRO E q15 12 a16 v15, wRR E a16 v16, wRO E q17 4 (upA a18 (Int32.toNatClampNeg p461) y484_0) v17, wRRa E (upA a18 (Int32.toNatClampNeg p461) y484_0) v18_487 (Int32.toNatClampNeg p461), wArr E ((upA a18 (Int32.toNatClampNeg p461) y484_0) (Int32.toNatClampNeg p461)) (v18_487.2.1 (Int32.toNatClampNeg p461)) (v18_487.2.2 (Int32.toNatClampNeg p461)), wRRb E (upA a18 (Int32.toNatClampNeg p461) y484_0) v18_487 (Int32.toNatClampNeg p461), wArr E q19 4 v19_510]) [0, 4, 5, 6, 7, 8, 9, 10, 11, 1, 12, 2, 13, 14, 15, 16, 17, 18, 19, 3, 20, 21] 22 rfl (by decide) rfl ?_
              refine ww_regr (gs' := [wGW E a0 (rf10 (a1 0) (a2 0) (a3 0) (a5 0) h0_4 (a6 0) h0_6 (a9 0) (a10 0) h0_9) v0, wHouse E a1 v1, wHouse E a2 v2, wHist E a3 (rf2 q4 h3_1) v3, wHs E q4 ah4 v4, wSight E a5 v5, wBest E a6 (rf2 (a7 0) (a8 0)) v6, wHouse E a7 v7, wSight E a8 v8, wToks E a9 p536.1, wHRead E a10 (rf1 (a9 0)), wArr E q11 6 p536.2, wOwn E a12 (rf4 q13 q15 q17 q19) v12, wRO E q13 20 a14 v13, wRR E a14 v14, wRO E q15 12 a16 v15, wRR E a16 v16, wRO E q17 4 (upA a18 (Int32.toNatClampNeg p461) y484_0) v17, wRR E (upA a18 (Int32.toNatClampNeg p461) y484_0) v18_487, wArr E q19 4 v19_510]) (by rw [rr_cut (of_decide_eq_true g_17)]; simp only [List.flatten_cons, List.flatten_nil, List.append_assoc]) ?_
              refine ww_aload_n C dL_act_539 rfl 3 rfl ?_
              refine ww_aload_n C dL_act_540 rfl 3 rfl ?_
              refine ww_aload_n C dL_act_541 rfl 4 rfl ?_
              obtain ⟨p542, hp542, hf⟩ := bdE hf
              refine ww_callS C (As := [.ref (a0 0), .ref q11]) (st := [.ref (a0 0)]) (gr := [wHouse E a1 v1, wHouse E a2 v2, wHist E a3 (rf2 q4 h3_1) v3, wHs E q4 ah4 v4, wSight E a5 v5, wBest E a6 (rf2 (a7 0) (a8 0)) v6, wHouse E a7 v7, wSight E a8 v8, wHRead E a10 (rf1 (a9 0)), wOwn E a12 (rf4 q13 q15 q17 q19) v12, wRO E q13 20 a14 v13, wRR E a14 v14, wRO E q15 12 a16 v15, wRR E a16 v16, wRO E q17 4 (upA a18 (Int32.toNatClampNeg p461) y484_0) v17, wRR E (upA a18 (Int32.toNatClampNeg p461) y484_0) v18_487, wArr E q19 4 v19_510]) (c_L_end (E := E) (a0 := a0) (h0_0 := a1 0) (h0_1 := a2 0) (h0_2 := a3 0) (h0_3 := a5 0) (h0_4 := h0_4) (h0_5 := a6 0) (h0_6 := h0_6) (h0_8 := a10 0) (h0_9 := h0_9) (a1 := a9) (q2 := q11) hp542) gL_act_L_end rfl ysk_L_end ⟨by decide, Nat.le_of_ble_eq_true rfl⟩ (of_decide_eq_true g_13) [0, 9, 11] [1, 2, 3, 4, 5, 6, 7, 8, 10, 12, 13, 14, 15, 16, 17, 18, 19] 20 rfl (by decide) rfl rfl (Nat.le_of_ble_eq_true rfl) dL_act_542 ?_
              rintro _ _ ⟨rfl, rfl⟩
              refine ww_perm (gs' := [wGW E a0 (rf10 (a1 0) (a2 0) (a3 0) (a5 0) h0_4 (a6 0) h0_6 (a9 0) (a10 0) h0_9) v0, wHouse E a1 v1, wHouse E a2 v2, wHist E a3 (rf2 q4 h3_1) v3, wHs E q4 ah4 v4, wSight E a5 v5, wBest E a6 (rf2 (a7 0) (a8 0)) v6, wHouse E a7 v7, wSight E a8 v8, wToks E a9 p542.2.1, wHRead E a10 (rf1 (a9 0)), wArr E q11 6 p542.2.2, wOwn E a12 (rf4 q13 q15 q17 q19) v12, wRO E q13 20 a14 v13, wRR E a14 v14, wRO E q15 12 a16 v15, wRR E a16 v16, wRO E q17 4 (upA a18 (Int32.toNatClampNeg p461) y484_0) v17, wRR E (upA a18 (Int32.toNatClampNeg p461) y484_0) v18_487, wArr E q19 4 v19_510]) [0, 3, 4, 5, 6, 7, 8, 9, 10, 1, 11, 2, 12, 13, 14, 15, 16, 17, 18, 19] 20 rfl (by decide) rfl ?_
              obtain ⟨p545, hp545, hf⟩ := bdE hf
              refine ww_callV C (As := [.int p542.1]) (st := []) (gr := [wSight E a5 v5, wBest E a6 (rf2 (a7 0) (a8 0)) v6, wHouse E a7 v7, wSight E a8 v8, wArr E q11 6 p542.2.2, wOwn E a12 (rf4 q13 q15 q17 q19) v12, wRO E q13 20 a14 v13, wRR E a14 v14, wRO E q15 12 a16 v15, wRR E a16 v16, wRO E q17 4 (upA a18 (Int32.toNatClampNeg p461) y484_0) v17, wRR E (upA a18 (Int32.toNatClampNeg p461) y484_0) v18_487, wArr E q19 4 v19_510]) (c_X8_change (E := E) (a0 := a0) (h0_3 := a5 0) (h0_4 := h0_4) (h0_5 := a6 0) (h0_6 := h0_6) (h0_9 := h0_9) (a1 := a1) (a2 := a2) (a3 := a3) (h3_1 := h3_1) (q4 := q4) (ah4 := ah4) (a5 := a9) (a6 := a10) hp545) gL_act_X8_change rfl yk_X8_change ⟨by decide, Nat.le_of_ble_eq_true rfl⟩ (of_decide_eq_true g_13) clOK8 0 0 rfl rfl [0, 1, 2, 3, 4, 9, 10] [5, 6, 7, 8, 11, 12, 13, 14, 15, 16, 17, 18, 19] 20 rfl (by decide) rfl rfl (Nat.le_of_ble_eq_true rfl) dL_act_545 ?_
              rintro _ _ ⟨rfl, rfl⟩
              refine ww_perm (gs' := [wGW E a0 (rf10 (a1 0) (a2 0) (a3 0) (a5 0) h0_4 (a6 0) h0_6 (a9 0) (a10 0) h0_9) p545.2.1, wHouse E a1 p545.2.2.1, wHouse E a2 p545.2.2.2.1, wHist E a3 (rf2 q4 h3_1) p545.2.2.2.2.1, wHs E q4 ah4 p545.2.2.2.2.2.1, wSight E a5 v5, wBest E a6 (rf2 (a7 0) (a8 0)) v6, wHouse E a7 v7, wSight E a8 v8, wToks E a9 p545.2.2.2.2.2.2, wHRead E a10 (rf1 (a9 0)), wArr E q11 6 p542.2.2, wOwn E a12 (rf4 q13 q15 q17 q19) v12, wRO E q13 20 a14 v13, wRR E a14 v14, wRO E q15 12 a16 v15, wRR E a16 v16, wRO E q17 4 (upA a18 (Int32.toNatClampNeg p461) y484_0) v17, wRR E (upA a18 (Int32.toNatClampNeg p461) y484_0) v18_487, wArr E q19 4 v19_510]) [0, 1, 2, 3, 4, 7, 8, 9, 10, 5, 6, 11, 12, 13, 14, 15, 16, 17, 18, 19] 20 rfl (by decide) rfl ?_
              refine ww_aload_n C dL_act_548 rfl 5 rfl ?_
              obtain ⟨p549, hp549, hf⟩ := bdE hf
              refine ww_callVN C (As := []) (st := [.int p545.1]) (gr := [wGW E a0 (rf10 (a1 0) (a2 0) (a3 0) (a5 0) h0_4 (a6 0) h0_6 (a9 0) (a10 0) h0_9) p545.2.1, wHouse E a1 p545.2.2.1, wHouse E a2 p545.2.2.2.1, wHist E a3 (rf2 q4 h3_1) p545.2.2.2.2.1, wHs E q4 ah4 p545.2.2.2.2.2.1, wSight E a5 v5, wBest E a6 (rf2 (a7 0) (a8 0)) v6, wHouse E a7 v7, wSight E a8 v8, wToks E a9 p545.2.2.2.2.2.2, wHRead E a10 (rf1 (a9 0)), wArr E q11 6 p542.2.2, wRO E q13 20 a14 v13, wRR E a14 v14, wRO E q15 12 a16 v15, wRR E a16 v16, wArr E q19 4 v19_510]) (host := RL) (c_X9_cycle (E := E) (a0 := a12) (h0_0 := q13) (h0_1 := q15) (h0_3 := q19) (q1 := q17) (a2 := (upA a18 (Int32.toNatClampNeg p461) y484_0)) hp549) gL_act_X9_cycle_n120 rfl (by decide +kernel) (by decide +kernel) (by decide +kernel) (by decide +kernel) yk_X9_cycle ⟨by decide, Nat.le_of_ble_eq_true rfl⟩ (of_decide_eq_true g_13) clOK9 0 0 rfl rfl [12, 17, 18] [0, 1, 2, 3, 4, 5, 6, 7, 8, 9, 10, 11, 13, 14, 15, 16, 19] 20 rfl (by decide) rfl rfl (Nat.le_of_ble_eq_true rfl) dL_act_549 ?_
              rintro _ _ ⟨rfl, rfl⟩
              refine ww_perm (gs' := [wGW E a0 (rf10 (a1 0) (a2 0) (a3 0) (a5 0) h0_4 (a6 0) h0_6 (a9 0) (a10 0) h0_9) p545.2.1, wHouse E a1 p545.2.2.1, wHouse E a2 p545.2.2.2.1, wHist E a3 (rf2 q4 h3_1) p545.2.2.2.2.1, wHs E q4 ah4 p545.2.2.2.2.2.1, wSight E a5 v5, wBest E a6 (rf2 (a7 0) (a8 0)) v6, wHouse E a7 v7, wSight E a8 v8, wToks E a9 p545.2.2.2.2.2.2, wHRead E a10 (rf1 (a9 0)), wArr E q11 6 p542.2.2, wOwn E a12 (rf4 q13 q15 q17 q19) v12, wRO E q13 20 a14 v13, wRR E a14 v14, wRO E q15 12 a16 v15, wRR E a16 v16, wRO E q17 4 (upA a18 (Int32.toNatClampNeg p461) y484_0) v17, wRR E (upA a18 (Int32.toNatClampNeg p461) y484_0) v18_487, wArr E q19 4 v19_510]) [3, 4, 5, 6, 7, 8, 9, 10, 11, 12, 13, 14, 0, 15, 16, 17, 18, 1, 2, 19] 20 rfl (by decide) rfl ?_
              refine ww_icmp_ne (tgt := 559) C dL_act_552 (by decide) (fun c_18 => ?_) (fun c_18 => ?_)
              · replace hf := ifF c_18 hf
                refine ww_iconst (v := (-1)) C dL_act_559 (by decide) ?_
                obtain rfl := Option.some.inj hf
                refine ww_widen (k := 20700) (n := 44000) (of_decide_eq_true g_13).1 (of_decide_eq_true g_13).2 ?_
                exact ww_iret C ⟨_, rfl, rfl⟩ dL_act_560
              · replace hf := ifT c_18 hf
                refine ww_iconst (v := 1) C dL_act_555 (by decide) ?_
                refine ww_goto (tgt := 560) C dL_act_556 (by decide) ?_
                obtain rfl := Option.some.inj hf
                refine ww_widen (k := 20700) (n := 44000) (of_decide_eq_true g_13).1 (of_decide_eq_true g_13).2 ?_
                exact ww_iret C ⟨_, rfl, rfl⟩ dL_act_560
          · replace hf := ifT c_6 hf
            refine ww_iconst (v := 0) C dL_act_453 (by decide) ?_
            obtain rfl := Option.some.inj hf
            refine ww_widen (k := 20700) (n := 44000) ⟨Nat.zero_le _, Nat.zero_le _⟩.1 ⟨Nat.zero_le _, Nat.zero_le _⟩.2 ?_
            exact ww_iret C ⟨_, rfl, rfl⟩ dL_act_454
        · replace hf := ifF c_5 hf
          refine ww_aload_n C dL_act_247 rfl 4 rfl ?_
          refine ww_getN C clOK9 in_L_act_X9 (w := wOwn E a12 (rf4 q13 q15 q17 q19) v12) (fs := fsOwn a12 (rf4 q13 q15 q17 q19) v12) (v := .int (Own_doors v12)) 12 0 1 rfl q_Own (by decide) (by decide +kernel) g_Own_doors dL_act_248 ?_
          refine ww_if_ne (tgt := 256) C dL_act_251 (by decide) (fun c_19 => ?_) (fun c_19 => ?_)
          · replace hf := ifF c_19 hf
            refine ww_iload C dL_act_256 0 rfl ?_
            refine ww_aload_n C dL_act_258 rfl 4 rfl ?_
            refine ww_getN C clOK9 in_L_act_X9 (w := wOwn E a12 (rf4 q13 q15 q17 q19) v12) (fs := fsOwn a12 (rf4 q13 q15 q17 q19) v12) (v := .int (Own_doors v12)) 12 0 1 rfl q_Own (by decide) (by decide +kernel) g_Own_doors dL_act_259 ?_
            obtain ⟨p262, hp262, hf⟩ := bdE hf
            refine ww_callS C (As := [.int x5_11, .int (Own_doors v12)]) (st := []) (gr := [wGW E a0 (rf10 (a1 0) (a2 0) (a3 0) (a5 0) h0_4 (a6 0) h0_6 (a9 0) (a10 0) h0_9) v0, wHouse E a1 v1, wHouse E a2 v2, wHist E a3 (rf2 q4 h3_1) v3, wHs E q4 ah4 v4, wSight E a5 v5, wBest E a6 (rf2 (a7 0) (a8 0)) v6, wHouse E a7 v7, wSight E a8 v8, wToks E a9 v9, wHRead E a10 (rf1 (a9 0)), wArr E q11 6 v11, wOwn E a12 (rf4 q13 q15 q17 q19) v12, wRO E q13 20 a14 v13, wRR E a14 v14, wRO E q15 12 a16 v15, wRR E a16 v16, wRO E q17 4 a18 v17, wRR E a18 v18, wArr E q19 4 v19]) (c_L_most (E := E)  hp262) gL_act_L_most rfl ysk_L_most ⟨by decide, Nat.le_of_ble_eq_true rfl⟩ ⟨Nat.zero_le _, Nat.zero_le _⟩ [] [0, 1, 2, 3, 4, 5, 6, 7, 8, 9, 10, 11, 12, 13, 14, 15, 16, 17, 18, 19] 20 rfl (by decide) rfl rfl (Nat.le_of_ble_eq_true rfl) dL_act_262 ?_
            rintro _ _ ⟨rfl, rfl⟩
            refine ww_perm (gs' := [wGW E a0 (rf10 (a1 0) (a2 0) (a3 0) (a5 0) h0_4 (a6 0) h0_6 (a9 0) (a10 0) h0_9) v0, wHouse E a1 v1, wHouse E a2 v2, wHist E a3 (rf2 q4 h3_1) v3, wHs E q4 ah4 v4, wSight E a5 v5, wBest E a6 (rf2 (a7 0) (a8 0)) v6, wHouse E a7 v7, wSight E a8 v8, wToks E a9 v9, wHRead E a10 (rf1 (a9 0)), wArr E q11 6 v11, wOwn E a12 (rf4 q13 q15 q17 q19) v12, wRO E q13 20 a14 v13, wRR E a14 v14, wRO E q15 12 a16 v15, wRR E a16 v16, wRO E q17 4 a18 v17, wRR E a18 v18, wArr E q19 4 v19]) [0, 1, 2, 3, 4, 5, 6, 7, 8, 9, 10, 11, 12, 13, 14, 15, 16, 17, 18, 19] 20 rfl (by decide) rfl ?_
            refine ww_istore (lv' := [(6, .int p262), (5, .int x5_11), (4, .int p3), (0, .ref (a0 0)), (1, .ref q11), (2, .ref (a12 0)), (3, .int x3)]) C dL_act_265 (by decide) rfl ?_
            refine ww_iload C dL_act_267 2 rfl ?_
            refine ww_bipush (v := 9) C dL_act_269 (by decide) ?_
            refine ww_icmp_ge (tgt := 386) C dL_act_271 (by decide) (fun c_20 => ?_) (fun c_20 => ?_)
            · replace hf := ifT c_20 hf
              refine ww_aload_n C dL_act_386 rfl 5 rfl ?_
              refine ww_getN C clOK9 in_L_act_X9 (w := wOwn E a12 (rf4 q13 q15 q17 q19) v12) (fs := fsOwn a12 (rf4 q13 q15 q17 q19) v12) (v := .ref q13) 12 0 4 rfl q_Own (by decide) (by decide +kernel) g_Own_door dL_act_387 ?_
              refine ww_iload C dL_act_390 0 rfl ?_
              obtain ⟨g_21, hf⟩ := gdE hf
              obtain ⟨g_22, hf⟩ := gdE hf
              refine ww_aldR C (f := roF a14 v13) (w := wRO E q13 20 a14 v13) 13 0 rfl q_RO (inB_vp g_21) (roF_at (of_decide_eq_true g_22)) dL_act_392 ?_
              refine ww_iconst (v := 2) C dL_act_393 (by decide) ?_
              obtain ⟨g_23, hf⟩ := gdE hf
              obtain ⟨g_24, hf⟩ := gdE hf
              refine ww_iald C (f := v14.2.2 (Int32.toNatClampNeg p262)) (w := wRR E a14 v14) 14 (Int32.toNatClampNeg p262) rfl (q_RR (of_decide_eq_true g_23)) (inB_vp g_24) dL_act_394 ?_
              refine ww_iconst (v := 1) C dL_act_395 (by decide) ?_
              refine ww_icmp_ne (tgt := 416) C dL_act_396 (by decide) (fun c_25 => ?_) (fun c_25 => ?_)
              · replace hf := ifF c_25 hf
                refine ww_aload_n C dL_act_416 rfl 5 rfl ?_
                refine ww_getN C clOK9 in_L_act_X9 (w := wOwn E a12 (rf4 q13 q15 q17 q19) v12) (fs := fsOwn a12 (rf4 q13 q15 q17 q19) v12) (v := .ref q13) 12 0 4 rfl q_Own (by decide) (by decide +kernel) g_Own_door dL_act_417 ?_
                refine ww_iload C dL_act_420 0 rfl ?_
                refine ww_aldR C (f := roF a14 v13) (w := wRO E q13 20 a14 v13) 13 0 rfl q_RO (inB_vp g_21) (roF_at (of_decide_eq_true g_22)) dL_act_422 ?_
                refine ww_iconst (v := 2) C dL_act_423 (by decide) ?_
                refine ww_iconst (v := 1) C dL_act_424 (by decide) ?_
                obtain ⟨v14_425, e_v14_425⟩ : ∃ y : RowsT, y = rrSet v14 (Int32.toNatClampNeg p262) (upd (v14.2.2 (Int32.toNatClampNeg p262)) (Int32.toNatClampNeg 2) 1) := ⟨_, rfl⟩
                replace hf := ltE e_v14_425 hf
                refine ww_iast C (f := v14.2.2 (Int32.toNatClampNeg p262)) (w := wRR E a14 v14) (w' := wRR E a14 v14_425) (gs' := [wGW E a0 (rf10 (a1 0) (a2 0) (a3 0) (a5 0) h0_4 (a6 0) h0_6 (a9 0) (a10 0) h0_9) v0, wHouse E a1 v1, wHouse E a2 v2, wHist E a3 (rf2 q4 h3_1) v3, wHs E q4 ah4 v4, wSight E a5 v5, wBest E a6 (rf2 (a7 0) (a8 0)) v6, wHouse E a7 v7, wSight E a8 v8, wToks E a9 v9, wHRead E a10 (rf1 (a9 0)), wArr E q11 6 v11, wOwn E a12 (rf4 q13 q15 q17 q19) v12, wRO E q13 20 a14 v13, wRR E a14 v14_425, wRO E q15 12 a16 v15, wRR E a16 v16, wRO E q17 4 a18 v17, wRR E a18 v18, wArr E q19 4 v19]) 14 (Int32.toNatClampNeg p262) rfl (q_RR (of_decide_eq_true g_23)) (inB_vp g_24) (by rw [e_v14_425]; exact s_RR (of_decide_eq_true g_23)) rfl dL_act_425 ?_
                refine ww_aload_n C dL_act_426 rfl 3 rfl ?_
                refine ww_iload C dL_act_427 0 rfl ?_
                obtain ⟨p429, hp429, hf⟩ := bdE hf
                refine ww_callV C (As := [.int p262]) (st := []) (gr := [wHouse E a2 v2, wSight E a5 v5, wBest E a6 (rf2 (a7 0) (a8 0)) v6, wHouse E a7 v7, wSight E a8 v8, wToks E a9 v9, wHRead E a10 (rf1 (a9 0)), wArr E q11 6 v11, wOwn E a12 (rf4 q13 q15 q17 q19) v12, wRO E q13 20 a14 v13, wRR E a14 v14_425, wRO E q15 12 a16 v15, wRR E a16 v16, wRO E q17 4 a18 v17, wRR E a18 v18, wArr E q19 4 v19]) (c_X8_openDoor (E := E) (a0 := a0) (h0_1 := a2 0) (h0_3 := a5 0) (h0_4 := h0_4) (h0_5 := a6 0) (h0_6 := h0_6) (h0_7 := a9 0) (h0_8 := a10 0) (h0_9 := h0_9) (a1 := a1) (a2 := a3) (h2_1 := h3_1) (q3 := q4) (ah3 := ah4) hp429) gL_act_X8_openDoor rfl yk_X8_openDoor ⟨by decide, Nat.le_of_ble_eq_true rfl⟩ ⟨Nat.zero_le _, Nat.zero_le _⟩ clOK8 0 0 rfl rfl [0, 1, 3, 4] [2, 5, 6, 7, 8, 9, 10, 11, 12, 13, 14, 15, 16, 17, 18, 19] 20 rfl (by decide) rfl rfl (Nat.le_of_ble_eq_true rfl) dL_act_429 ?_
                rintro _ _ ⟨rfl, rfl⟩
                refine ww_perm (gs' := [wGW E a0 (rf10 (a1 0) (a2 0) (a3 0) (a5 0) h0_4 (a6 0) h0_6 (a9 0) (a10 0) h0_9) v0, wHouse E a1 p429.2.1, wHouse E a2 v2, wHist E a3 (rf2 q4 h3_1) p429.2.2.1, wHs E q4 ah4 p429.2.2.2, wSight E a5 v5, wBest E a6 (rf2 (a7 0) (a8 0)) v6, wHouse E a7 v7, wSight E a8 v8, wToks E a9 v9, wHRead E a10 (rf1 (a9 0)), wArr E q11 6 v11, wOwn E a12 (rf4 q13 q15 q17 q19) v12, wRO E q13 20 a14 v13, wRR E a14 v14_425, wRO E q15 12 a16 v15, wRR E a16 v16, wRO E q17 4 a18 v17, wRR E a18 v18, wArr E q19 4 v19]) [0, 1, 4, 2, 3, 5, 6, 7, 8, 9, 10, 11, 12, 13, 14, 15, 16, 17, 18, 19] 20 rfl (by decide) rfl ?_
                refine ww_aload_n C dL_act_432 rfl 5 rfl ?_
                refine ww_iconst (v := (-1)) C dL_act_433 (by decide) ?_
                obtain ⟨p434, hp434, hf⟩ := bdE hf
                refine ww_callVN C (As := [.int (-1)]) (st := [.int p429.1]) (gr := [wGW E a0 (rf10 (a1 0) (a2 0) (a3 0) (a5 0) h0_4 (a6 0) h0_6 (a9 0) (a10 0) h0_9) v0, wHouse E a1 p429.2.1, wHouse E a2 v2, wHist E a3 (rf2 q4 h3_1) p429.2.2.1, wHs E q4 ah4 p429.2.2.2, wSight E a5 v5, wBest E a6 (rf2 (a7 0) (a8 0)) v6, wHouse E a7 v7, wSight E a8 v8, wToks E a9 v9, wHRead E a10 (rf1 (a9 0)), wArr E q11 6 v11, wRO E q15 12 a16 v15, wRR E a16 v16, wRO E q17 4 a18 v17, wRR E a18 v18, wArr E q19 4 v19]) (host := RL) (c_X9_opens (E := E) (a0 := a12) (h0_1 := q15) (h0_2 := q17) (h0_3 := q19) (q1 := q13) (a2 := a14) hp434) gL_act_X9_opens_n135 rfl (by decide +kernel) (by decide +kernel) (by decide +kernel) (by decide +kernel) yk_X9_opens ⟨by decide, Nat.le_of_ble_eq_true rfl⟩ ⟨Nat.zero_le _, Nat.zero_le _⟩ clOK9 0 0 rfl rfl [12, 13, 14] [0, 1, 2, 3, 4, 5, 6, 7, 8, 9, 10, 11, 15, 16, 17, 18, 19] 20 rfl (by decide) rfl rfl (Nat.le_of_ble_eq_true rfl) dL_act_434 ?_
                rintro _ _ ⟨rfl, rfl⟩
                refine ww_perm (gs' := [wGW E a0 (rf10 (a1 0) (a2 0) (a3 0) (a5 0) h0_4 (a6 0) h0_6 (a9 0) (a10 0) h0_9) v0, wHouse E a1 p429.2.1, wHouse E a2 v2, wHist E a3 (rf2 q4 h3_1) p429.2.2.1, wHs E q4 ah4 p429.2.2.2, wSight E a5 v5, wBest E a6 (rf2 (a7 0) (a8 0)) v6, wHouse E a7 v7, wSight E a8 v8, wToks E a9 v9, wHRead E a10 (rf1 (a9 0)), wArr E q11 6 v11, wOwn E a12 (rf4 q13 q15 q17 q19) v12, wRO E q13 20 a14 v13, wRR E a14 v14_425, wRO E q15 12 a16 v15, wRR E a16 v16, wRO E q17 4 a18 v17, wRR E a18 v18, wArr E q19 4 v19]) [3, 4, 5, 6, 7, 8, 9, 10, 11, 12, 13, 14, 0, 1, 2, 15, 16, 17, 18, 19] 20 rfl (by decide) rfl ?_
                refine ww_icmp_ne (tgt := 444) C dL_act_437 (by decide) (fun c_26 => ?_) (fun c_26 => ?_)
                · replace hf := ifF c_26 hf
                  refine ww_iconst (v := (-1)) C dL_act_444 (by decide) ?_
                  obtain rfl := Option.some.inj hf
                  refine ww_widen (k := 20700) (n := 44000) ⟨Nat.zero_le _, Nat.zero_le _⟩.1 ⟨Nat.zero_le _, Nat.zero_le _⟩.2 ?_
                  exact ww_iret C ⟨_, rfl, rfl⟩ dL_act_445
                · replace hf := ifT c_26 hf
                  refine ww_iconst (v := 1) C dL_act_440 (by decide) ?_
                  refine ww_goto (tgt := 445) C dL_act_441 (by decide) ?_
                  obtain rfl := Option.some.inj hf
                  refine ww_widen (k := 20700) (n := 44000) ⟨Nat.zero_le _, Nat.zero_le _⟩.1 ⟨Nat.zero_le _, Nat.zero_le _⟩.2 ?_
                  exact ww_iret C ⟨_, rfl, rfl⟩ dL_act_445
              · replace hf := ifT c_25 hf
                refine ww_aload_n C dL_act_399 rfl 3 rfl ?_
                refine ww_iload C dL_act_400 0 rfl ?_
                obtain ⟨p402, hp402, hf⟩ := bdE hf
                refine ww_callV C (As := [.int p262]) (st := []) (gr := [wHouse E a2 v2, wSight E a5 v5, wBest E a6 (rf2 (a7 0) (a8 0)) v6, wHouse E a7 v7, wSight E a8 v8, wToks E a9 v9, wHRead E a10 (rf1 (a9 0)), wArr E q11 6 v11, wOwn E a12 (rf4 q13 q15 q17 q19) v12, wRO E q13 20 a14 v13, wRR E a14 v14, wRO E q15 12 a16 v15, wRR E a16 v16, wRO E q17 4 a18 v17, wRR E a18 v18, wArr E q19 4 v19]) (c_X8_openDoor (E := E) (a0 := a0) (h0_1 := a2 0) (h0_3 := a5 0) (h0_4 := h0_4) (h0_5 := a6 0) (h0_6 := h0_6) (h0_7 := a9 0) (h0_8 := a10 0) (h0_9 := h0_9) (a1 := a1) (a2 := a3) (h2_1 := h3_1) (q3 := q4) (ah3 := ah4) hp402) gL_act_X8_openDoor rfl yk_X8_openDoor ⟨by decide, Nat.le_of_ble_eq_true rfl⟩ ⟨Nat.zero_le _, Nat.zero_le _⟩ clOK8 0 0 rfl rfl [0, 1, 3, 4] [2, 5, 6, 7, 8, 9, 10, 11, 12, 13, 14, 15, 16, 17, 18, 19] 20 rfl (by decide) rfl rfl (Nat.le_of_ble_eq_true rfl) dL_act_402 ?_
                rintro _ _ ⟨rfl, rfl⟩
                refine ww_perm (gs' := [wGW E a0 (rf10 (a1 0) (a2 0) (a3 0) (a5 0) h0_4 (a6 0) h0_6 (a9 0) (a10 0) h0_9) v0, wHouse E a1 p402.2.1, wHouse E a2 v2, wHist E a3 (rf2 q4 h3_1) p402.2.2.1, wHs E q4 ah4 p402.2.2.2, wSight E a5 v5, wBest E a6 (rf2 (a7 0) (a8 0)) v6, wHouse E a7 v7, wSight E a8 v8, wToks E a9 v9, wHRead E a10 (rf1 (a9 0)), wArr E q11 6 v11, wOwn E a12 (rf4 q13 q15 q17 q19) v12, wRO E q13 20 a14 v13, wRR E a14 v14, wRO E q15 12 a16 v15, wRR E a16 v16, wRO E q17 4 a18 v17, wRR E a18 v18, wArr E q19 4 v19]) [0, 1, 4, 2, 3, 5, 6, 7, 8, 9, 10, 11, 12, 13, 14, 15, 16, 17, 18, 19] 20 rfl (by decide) rfl ?_
                refine ww_bipush (v := (-2)) C dL_act_405 (by decide) ?_
                refine ww_icmp_ne (tgt := 414) C dL_act_407 (by decide) (fun c_27 => ?_) (fun c_27 => ?_)
                · replace hf := ifF c_27 hf
                  refine ww_iconst (v := (-1)) C dL_act_414 (by decide) ?_
                  obtain rfl := Option.some.inj hf
                  refine ww_widen (k := 20700) (n := 44000) ⟨Nat.zero_le _, Nat.zero_le _⟩.1 ⟨Nat.zero_le _, Nat.zero_le _⟩.2 ?_
                  exact ww_iret C ⟨_, rfl, rfl⟩ dL_act_415
                · replace hf := ifT c_27 hf
                  refine ww_iconst (v := 0) C dL_act_410 (by decide) ?_
                  refine ww_goto (tgt := 415) C dL_act_411 (by decide) ?_
                  obtain rfl := Option.some.inj hf
                  refine ww_widen (k := 20700) (n := 44000) ⟨Nat.zero_le _, Nat.zero_le _⟩.1 ⟨Nat.zero_le _, Nat.zero_le _⟩.2 ?_
                  exact ww_iret C ⟨_, rfl, rfl⟩ dL_act_415
            · replace hf := ifF c_20 hf
              refine ww_aload_n C dL_act_274 rfl 5 rfl ?_
              refine ww_getN C clOK9 in_L_act_X9 (w := wOwn E a12 (rf4 q13 q15 q17 q19) v12) (fs := fsOwn a12 (rf4 q13 q15 q17 q19) v12) (v := .ref q13) 12 0 4 rfl q_Own (by decide) (by decide +kernel) g_Own_door dL_act_275 ?_
              refine ww_iload C dL_act_278 0 rfl ?_
              obtain ⟨g_28, hf⟩ := gdE hf
              obtain ⟨g_29, hf⟩ := gdE hf
              refine ww_aldR C (f := roF a14 v13) (w := wRO E q13 20 a14 v13) 13 0 rfl q_RO (inB_vp g_28) (roF_at (of_decide_eq_true g_29)) dL_act_280 ?_
              refine ww_iconst (v := 2) C dL_act_281 (by decide) ?_
              obtain ⟨g_30, hf⟩ := gdE hf
              obtain ⟨g_31, hf⟩ := gdE hf
              refine ww_iald C (f := v14.2.2 (Int32.toNatClampNeg p262)) (w := wRR E a14 v14) 14 (Int32.toNatClampNeg p262) rfl (q_RR (of_decide_eq_true g_30)) (inB_vp g_31) dL_act_282 ?_
              refine ww_if_ne (tgt := 291) C dL_act_283 (by decide) (fun c_32 => ?_) (fun c_32 => ?_)
              · replace hf := ifF c_32 hf
                refine ww_aload_n C dL_act_291 rfl 5 rfl ?_
                refine ww_iload C dL_act_292 0 rfl ?_
                obtain ⟨p294, hp294, hf⟩ := bdE hf
                refine ww_callVN C (As := [.int p262]) (st := []) (gr := [wGW E a0 (rf10 (a1 0) (a2 0) (a3 0) (a5 0) h0_4 (a6 0) h0_6 (a9 0) (a10 0) h0_9) v0, wHouse E a1 v1, wHouse E a2 v2, wHist E a3 (rf2 q4 h3_1) v3, wHs E q4 ah4 v4, wSight E a5 v5, wBest E a6 (rf2 (a7 0) (a8 0)) v6, wHouse E a7 v7, wSight E a8 v8, wToks E a9 v9, wHRead E a10 (rf1 (a9 0)), wArr E q11 6 v11, wRO E q15 12 a16 v15, wRR E a16 v16, wArr E q19 4 v19]) (host := RL) (c_X9_through (E := E) (a0 := a12) (h0_1 := q15) (h0_3 := q19) (q1 := q13) (a2 := a14) (q3 := q17) (a4 := a18) hp294) gL_act_X9_through_n143 rfl (by decide +kernel) (by decide +kernel) (by decide +kernel) (by decide +kernel) yk_X9_through ⟨by decide, Nat.le_of_ble_eq_true rfl⟩ ⟨Nat.zero_le _, Nat.zero_le _⟩ clOK9 0 0 rfl rfl [12, 13, 14, 17, 18] [0, 1, 2, 3, 4, 5, 6, 7, 8, 9, 10, 11, 15, 16, 19] 20 rfl (by decide) rfl rfl (Nat.le_of_ble_eq_true rfl) dL_act_294 ?_
                rintro _ _ ⟨rfl, rfl⟩
                refine ww_perm (gs' := [wGW E a0 (rf10 (a1 0) (a2 0) (a3 0) (a5 0) h0_4 (a6 0) h0_6 (a9 0) (a10 0) h0_9) v0, wHouse E a1 v1, wHouse E a2 v2, wHist E a3 (rf2 q4 h3_1) v3, wHs E q4 ah4 v4, wSight E a5 v5, wBest E a6 (rf2 (a7 0) (a8 0)) v6, wHouse E a7 v7, wSight E a8 v8, wToks E a9 v9, wHRead E a10 (rf1 (a9 0)), wArr E q11 6 v11, wOwn E a12 (rf4 q13 q15 q17 q19) v12, wRO E q13 20 a14 v13, wRR E a14 v14, wRO E q15 12 a16 v15, wRR E a16 v16, wRO E q17 4 a18 v17, wRR E a18 v18, wArr E q19 4 v19]) [5, 6, 7, 8, 9, 10, 11, 12, 13, 14, 15, 16, 0, 1, 2, 17, 18, 3, 4, 19] 20 rfl (by decide) rfl ?_
                refine ww_if_le (tgt := 331) C dL_act_297 (by decide) (fun c_33 => ?_) (fun c_33 => ?_)
                · replace hf := ifT c_33 hf
                  refine ww_sub C (lv' := [(0, .ref (a0 0)), (2, .ref (a12 0)), (6, .int p262)]) [3, 5, 0] rfl ?_
                  exact w_L_act_331 C ⟨Nat.zero_le _, Nat.zero_le _⟩ hf
                · replace hf := ifF c_33 hf
                  refine ww_aload_n C dL_act_300 rfl 5 rfl ?_
                  refine ww_aload_n C dL_act_301 rfl 5 rfl ?_
                  refine ww_getN C clOK9 in_L_act_X9 (w := wOwn E a12 (rf4 q13 q15 q17 q19) v12) (fs := fsOwn a12 (rf4 q13 q15 q17 q19) v12) (v := .ref q13) 12 0 4 rfl q_Own (by decide) (by decide +kernel) g_Own_door dL_act_302 ?_
                  refine ww_iload C dL_act_305 0 rfl ?_
                  refine ww_aldR C (f := roF a14 v13) (w := wRO E q13 20 a14 v13) 13 0 rfl q_RO (inB_vp g_28) (roF_at (of_decide_eq_true g_29)) dL_act_307 ?_
                  refine ww_iconst (v := 0) C dL_act_308 (by decide) ?_
                  obtain ⟨g_34, hf⟩ := gdE hf
                  refine ww_iald C (f := v14.2.2 (Int32.toNatClampNeg p262)) (w := wRR E a14 v14) 14 (Int32.toNatClampNeg p262) rfl (q_RR (of_decide_eq_true g_30)) (inB_vp g_34) dL_act_309 ?_
                  refine ww_aload_n C dL_act_310 rfl 5 rfl ?_
                  refine ww_getN C clOK9 in_L_act_X9 (w := wOwn E a12 (rf4 q13 q15 q17 q19) v12) (fs := fsOwn a12 (rf4 q13 q15 q17 q19) v12) (v := .ref q13) 12 0 4 rfl q_Own (by decide) (by decide +kernel) g_Own_door dL_act_311 ?_
                  refine ww_iload C dL_act_314 0 rfl ?_
                  refine ww_aldR C (f := roF a14 v13) (w := wRO E q13 20 a14 v13) 13 0 rfl q_RO (inB_vp g_28) (roF_at (of_decide_eq_true g_29)) dL_act_316 ?_
                  refine ww_iconst (v := 1) C dL_act_317 (by decide) ?_
                  obtain ⟨g_35, hf⟩ := gdE hf
                  refine ww_iald C (f := v14.2.2 (Int32.toNatClampNeg p262)) (w := wRR E a14 v14) 14 (Int32.toNatClampNeg p262) rfl (q_RR (of_decide_eq_true g_30)) (inB_vp g_35) dL_act_318 ?_
                  obtain ⟨p319, hp319, hf⟩ := bdE hf
                  refine ww_callVN C (As := [.int (v14.2.2 (Int32.toNatClampNeg p262) (Int32.toNatClampNeg 0)), .int (v14.2.2 (Int32.toNatClampNeg p262) (Int32.toNatClampNeg 1))]) (st := []) (gr := [wGW E a0 (rf10 (a1 0) (a2 0) (a3 0) (a5 0) h0_4 (a6 0) h0_6 (a9 0) (a10 0) h0_9) v0, wHouse E a1 v1, wHouse E a2 v2, wHist E a3 (rf2 q4 h3_1) v3, wHs E q4 ah4 v4, wSight E a5 v5, wBest E a6 (rf2 (a7 0) (a8 0)) v6, wHouse E a7 v7, wSight E a8 v8, wToks E a9 v9, wHRead E a10 (rf1 (a9 0)), wArr E q11 6 v11, wRO E q15 12 a16 v15, wRR E a16 v16, wRO E q17 4 a18 v17, wRR E a18 v18, wArr E q19 4 v19]) (host := RL) (c_X9_open (E := E) (a0 := a12) (h0_1 := q15) (h0_2 := q17) (h0_3 := q19) (q1 := q13) (a2 := a14) hp319) gL_act_X9_open_n173 rfl (by decide +kernel) (by decide +kernel) (by decide +kernel) (by decide +kernel) yk_X9_open ⟨by decide, Nat.le_of_ble_eq_true rfl⟩ ⟨Nat.zero_le _, Nat.zero_le _⟩ clOK9 0 0 rfl rfl [12, 13, 14] [0, 1, 2, 3, 4, 5, 6, 7, 8, 9, 10, 11, 15, 16, 17, 18, 19] 20 rfl (by decide) rfl rfl (Nat.le_of_ble_eq_true rfl) dL_act_319 ?_
                  rintro _ _ ⟨rfl, rfl⟩
                  refine ww_perm (gs' := [wGW E a0 (rf10 (a1 0) (a2 0) (a3 0) (a5 0) h0_4 (a6 0) h0_6 (a9 0) (a10 0) h0_9) v0, wHouse E a1 v1, wHouse E a2 v2, wHist E a3 (rf2 q4 h3_1) v3, wHs E q4 ah4 v4, wSight E a5 v5, wBest E a6 (rf2 (a7 0) (a8 0)) v6, wHouse E a7 v7, wSight E a8 v8, wToks E a9 v9, wHRead E a10 (rf1 (a9 0)), wArr E q11 6 v11, wOwn E a12 (rf4 q13 q15 q17 q19) v12, wRO E q13 20 a14 v13, wRR E a14 v14, wRO E q15 12 a16 v15, wRR E a16 v16, wRO E q17 4 a18 v17, wRR E a18 v18, wArr E q19 4 v19]) [3, 4, 5, 6, 7, 8, 9, 10, 11, 12, 13, 14, 0, 1, 2, 15, 16, 17, 18, 19] 20 rfl (by decide) rfl ?_
                  refine ww_iconst (v := 1) C dL_act_322 (by decide) ?_
                  refine ww_icmp_ne (tgt := 331) C dL_act_323 (by decide) (fun c_36 => ?_) (fun c_36 => ?_)
                  · replace hf := ifF c_36 hf
                    refine ww_sub C (lv' := [(0, .ref (a0 0)), (2, .ref (a12 0)), (6, .int p262)]) [3, 5, 0] rfl ?_
                    exact w_L_act_331 C ⟨Nat.zero_le _, Nat.zero_le _⟩ hf
                  · replace hf := ifT c_36 hf
                    refine ww_bipush (v := (-3)) C dL_act_326 (by decide) ?_
                    refine ww_goto (tgt := 332) C dL_act_328 (by decide) ?_
                    refine ww_sub C (lv' := [(0, .ref (a0 0)), (2, .ref (a12 0)), (6, .int p262)]) [3, 5, 0] rfl ?_
                    exact w_L_act_332 C ⟨Nat.zero_le _, Nat.zero_le _⟩ hf
              · replace hf := ifT c_32 hf
                refine ww_bipush (v := (-2)) C dL_act_286 (by decide) ?_
                refine ww_goto (tgt := 332) C dL_act_288 (by decide) ?_
                refine ww_sub C (lv' := [(0, .ref (a0 0)), (2, .ref (a12 0)), (6, .int p262)]) [3, 5, 0] rfl ?_
                exact w_L_act_332 C ⟨Nat.zero_le _, Nat.zero_le _⟩ hf
          · replace hf := ifT c_19 hf
            refine ww_iconst (v := 0) C dL_act_254 (by decide) ?_
            obtain rfl := Option.some.inj hf
            refine ww_widen (k := 20700) (n := 44000) ⟨Nat.zero_le _, Nat.zero_le _⟩.1 ⟨Nat.zero_le _, Nat.zero_le _⟩.2 ?_
            exact ww_iret C ⟨_, rfl, rfl⟩ dL_act_255
      · replace hf := ifT c_4 hf
        refine ww_aload_n C dL_act_157 rfl 4 rfl ?_
        obtain ⟨g_37, hf⟩ := gdE hf
        obtain ⟨p158, hp158, hf⟩ := bdE hf
        refine ww_callVN C (As := []) (st := []) (gr := [wGW E a0 (rf10 (a1 0) (a2 0) (a3 0) (a5 0) h0_4 (a6 0) h0_6 (a9 0) (a10 0) h0_9) v0, wHouse E a1 v1, wHouse E a2 v2, wHist E a3 (rf2 q4 h3_1) v3, wHs E q4 ah4 v4, wSight E a5 v5, wBest E a6 (rf2 (a7 0) (a8 0)) v6, wHouse E a7 v7, wSight E a8 v8, wToks E a9 v9, wHRead E a10 (rf1 (a9 0)), wArr E q11 6 v11]) (host := RL) (c_X9_best (E := E) (a0 := a12) (q1 := q13) (a2 := a14) (q3 := q15) (a4 := a16) (q5 := q17) (a6 := a18) (q7 := q19) hp158) gL_act_X9_best_n166 rfl (by decide +kernel) (by decide +kernel) (by decide +kernel) (by decide +kernel) yk_X9_best ⟨by decide, Nat.le_of_ble_eq_true rfl⟩ (of_decide_eq_true g_37) clOK9 0 0 rfl rfl [12, 13, 14, 15, 16, 17, 18, 19] [0, 1, 2, 3, 4, 5, 6, 7, 8, 9, 10, 11] 20 rfl (by decide) rfl rfl (Nat.le_of_ble_eq_true rfl) dL_act_158 ?_
        rintro _ _ ⟨y158_0, rfl, rfl⟩
        refine ww_perm (gs' := [wGW E a0 (rf10 (a1 0) (a2 0) (a3 0) (a5 0) h0_4 (a6 0) h0_6 (a9 0) (a10 0) h0_9) v0, wHouse E a1 v1, wHouse E a2 v2, wHist E a3 (rf2 q4 h3_1) v3, wHs E q4 ah4 v4, wSight E a5 v5, wBest E a6 (rf2 (a7 0) (a8 0)) v6, wHouse E a7 v7, wSight E a8 v8, wToks E a9 v9, wHRead E a10 (rf1 (a9 0)), wArr E q11 6 v11, wOwn E a12 (rf4 q13 q15 q17 q19) v12, wRO E q13 20 a14 v13, wRR E a14 v14, wRO E q15 12 a16 v15, wRR E a16 v16, wRO E q17 4 a18 v17, wRR E a18 v18, wArr E q19 4 v19, wArr E y158_0 6 p158]) [9, 10, 11, 12, 13, 14, 15, 16, 17, 18, 19, 20, 0, 1, 2, 3, 4, 5, 6, 7, 8] 21 rfl (by decide) rfl ?_
        refine ww_astore (lv' := [(6, .ref y158_0), (5, .int x5_11), (4, .int p3), (0, .ref (a0 0)), (1, .ref q11), (2, .ref (a12 0)), (3, .int x3)]) C dL_act_161 (by decide) rfl ?_
        refine ww_iconst (v := 0) C dL_act_163 (by decide) ?_
        refine ww_istore (lv' := [(7, .int 0), (6, .ref y158_0), (5, .int x5_11), (4, .int p3), (0, .ref (a0 0)), (1, .ref q11), (2, .ref (a12 0)), (3, .int x3)]) C dL_act_164 (by decide) rfl ?_
        refine ww_iconst (v := 0) C dL_act_166 (by decide) ?_
        refine ww_istore (lv' := [(8, .int 0), (7, .int 0), (6, .ref y158_0), (5, .int x5_11), (4, .int p3), (0, .ref (a0 0)), (1, .ref q11), (2, .ref (a12 0)), (3, .int x3)]) C dL_act_167 (by decide) rfl ?_
        refine ww_sub C (lv' := [(0, .ref (a0 0)), (2, .ref (a12 0)), (6, .ref y158_0), (7, .int 0), (8, .int 0)]) [5, 7, 2, 1, 0] rfl ?_
        exact w_L_act_169 C FU _ _ _ _ _ _ _ _ _ _ _ _ _ _ _ _ _ _ _ _ _ _ _ _ _ (of_decide_eq_true g_37) hf
    · replace hf := ifT c_3 hf
      refine ww_iload C dL_act_77 0 rfl ?_
      refine ww_aload_n C dL_act_79 rfl 4 rfl ?_
      refine ww_getN C clOK9 in_L_act_X9 (w := wOwn E a12 (rf4 q13 q15 q17 q19) v12) (fs := fsOwn a12 (rf4 q13 q15 q17 q19) v12) (v := .int (Own_rooms v12)) 12 0 0 rfl q_Own (by decide) (by decide +kernel) g_Own_rooms dL_act_80 ?_
      obtain ⟨p83, hp83, hf⟩ := bdE hf
      refine ww_callS C (As := [.int x5_11, .int (Own_rooms v12)]) (st := []) (gr := [wGW E a0 (rf10 (a1 0) (a2 0) (a3 0) (a5 0) h0_4 (a6 0) h0_6 (a9 0) (a10 0) h0_9) v0, wHouse E a1 v1, wHouse E a2 v2, wHist E a3 (rf2 q4 h3_1) v3, wHs E q4 ah4 v4, wSight E a5 v5, wBest E a6 (rf2 (a7 0) (a8 0)) v6, wHouse E a7 v7, wSight E a8 v8, wToks E a9 v9, wHRead E a10 (rf1 (a9 0)), wArr E q11 6 v11, wOwn E a12 (rf4 q13 q15 q17 q19) v12, wRO E q13 20 a14 v13, wRR E a14 v14, wRO E q15 12 a16 v15, wRR E a16 v16, wRO E q17 4 a18 v17, wRR E a18 v18, wArr E q19 4 v19]) (c_L_most (E := E)  hp83) gL_act_L_most rfl ysk_L_most ⟨by decide, Nat.le_of_ble_eq_true rfl⟩ ⟨Nat.zero_le _, Nat.zero_le _⟩ [] [0, 1, 2, 3, 4, 5, 6, 7, 8, 9, 10, 11, 12, 13, 14, 15, 16, 17, 18, 19] 20 rfl (by decide) rfl rfl (Nat.le_of_ble_eq_true rfl) dL_act_83 ?_
      rintro _ _ ⟨rfl, rfl⟩
      refine ww_perm (gs' := [wGW E a0 (rf10 (a1 0) (a2 0) (a3 0) (a5 0) h0_4 (a6 0) h0_6 (a9 0) (a10 0) h0_9) v0, wHouse E a1 v1, wHouse E a2 v2, wHist E a3 (rf2 q4 h3_1) v3, wHs E q4 ah4 v4, wSight E a5 v5, wBest E a6 (rf2 (a7 0) (a8 0)) v6, wHouse E a7 v7, wSight E a8 v8, wToks E a9 v9, wHRead E a10 (rf1 (a9 0)), wArr E q11 6 v11, wOwn E a12 (rf4 q13 q15 q17 q19) v12, wRO E q13 20 a14 v13, wRR E a14 v14, wRO E q15 12 a16 v15, wRR E a16 v16, wRO E q17 4 a18 v17, wRR E a18 v18, wArr E q19 4 v19]) [0, 1, 2, 3, 4, 5, 6, 7, 8, 9, 10, 11, 12, 13, 14, 15, 16, 17, 18, 19] 20 rfl (by decide) rfl ?_
      refine ww_istore (lv' := [(6, .int p83), (5, .int x5_11), (4, .int p3), (0, .ref (a0 0)), (1, .ref q11), (2, .ref (a12 0)), (3, .int x3)]) C dL_act_86 (by decide) rfl ?_
      refine ww_aload_n C dL_act_88 rfl 5 rfl ?_
      refine ww_getN C clOK9 in_L_act_X9 (w := wOwn E a12 (rf4 q13 q15 q17 q19) v12) (fs := fsOwn a12 (rf4 q13 q15 q17 q19) v12) (v := .ref q15) 12 0 5 rfl q_Own (by decide) (by decide +kernel) g_Own_room dL_act_89 ?_
      refine ww_iload C dL_act_92 0 rfl ?_
      obtain ⟨g_38, hf⟩ := gdE hf
      obtain ⟨g_39, hf⟩ := gdE hf
      refine ww_aldR C (f := roF a16 v15) (w := wRO E q15 12 a16 v15) 15 0 rfl q_RO (inB_vp g_38) (roF_at (of_decide_eq_true g_39)) dL_act_94 ?_
      refine ww_iconst (v := 0) C dL_act_95 (by decide) ?_
      refine ww_iload C dL_act_96 1 rfl ?_
      refine ww_iconst (v := 3) C dL_act_98 (by decide) ?_
      refine ww_ishr C dL_act_99 ?_
      refine ww_iload C dL_act_100 1 rfl ?_
      refine ww_iconst (v := 5) C dL_act_102 (by decide) ?_
      refine ww_ishr C dL_act_103 ?_
      refine ww_iconst (v := 3) C dL_act_104 (by decide) ?_
      obtain ⟨p105, hp105, hf⟩ := bdE hf
      refine ww_callS C (As := [.int (x5_11 >>> (5 &&& 31)), .int 3]) (st := [.int (x5_11 >>> (3 &&& 31)), .int 0, .ref (a16 (Int32.toNatClampNeg p83))]) (gr := [wGW E a0 (rf10 (a1 0) (a2 0) (a3 0) (a5 0) h0_4 (a6 0) h0_6 (a9 0) (a10 0) h0_9) v0, wHouse E a1 v1, wHouse E a2 v2, wHist E a3 (rf2 q4 h3_1) v3, wHs E q4 ah4 v4, wSight E a5 v5, wBest E a6 (rf2 (a7 0) (a8 0)) v6, wHouse E a7 v7, wSight E a8 v8, wToks E a9 v9, wHRead E a10 (rf1 (a9 0)), wArr E q11 6 v11, wOwn E a12 (rf4 q13 q15 q17 q19) v12, wRO E q13 20 a14 v13, wRR E a14 v14, wRO E q15 12 a16 v15, wRR E a16 v16, wRO E q17 4 a18 v17, wRR E a18 v18, wArr E q19 4 v19]) (c_L_most (E := E)  hp105) gL_act_L_most rfl ysk_L_most ⟨by decide, Nat.le_of_ble_eq_true rfl⟩ ⟨Nat.zero_le _, Nat.zero_le _⟩ [] [0, 1, 2, 3, 4, 5, 6, 7, 8, 9, 10, 11, 12, 13, 14, 15, 16, 17, 18, 19] 20 rfl (by decide) rfl rfl (Nat.le_of_ble_eq_true rfl) dL_act_105 ?_
      rintro _ _ ⟨rfl, rfl⟩
      refine ww_perm (gs' := [wGW E a0 (rf10 (a1 0) (a2 0) (a3 0) (a5 0) h0_4 (a6 0) h0_6 (a9 0) (a10 0) h0_9) v0, wHouse E a1 v1, wHouse E a2 v2, wHist E a3 (rf2 q4 h3_1) v3, wHs E q4 ah4 v4, wSight E a5 v5, wBest E a6 (rf2 (a7 0) (a8 0)) v6, wHouse E a7 v7, wSight E a8 v8, wToks E a9 v9, wHRead E a10 (rf1 (a9 0)), wArr E q11 6 v11, wOwn E a12 (rf4 q13 q15 q17 q19) v12, wRO E q13 20 a14 v13, wRR E a14 v14, wRO E q15 12 a16 v15, wRR E a16 v16, wRO E q17 4 a18 v17, wRR E a18 v18, wArr E q19 4 v19]) [0, 1, 2, 3, 4, 5, 6, 7, 8, 9, 10, 11, 12, 13, 14, 15, 16, 17, 18, 19] 20 rfl (by decide) rfl ?_
      refine ww_if_ne (tgt := 116) C dL_act_108 (by decide) (fun c_40 => ?_) (fun c_40 => ?_)
      · replace hf := ifF c_40 hf
        refine ww_bipush (v := 6) C dL_act_116 (by decide) ?_
        refine ww_sub C (lv' := [(0, .ref (a0 0)), (2, .ref (a12 0)), (6, .int p83)]) [3, 5, 0] rfl ?_
        exact w_L_act_118 C ⟨Nat.zero_le _, Nat.zero_le _⟩ hf
      · replace hf := ifT c_40 hf
        refine ww_bipush (v := 100) C dL_act_111 (by decide) ?_
        refine ww_goto (tgt := 118) C dL_act_113 (by decide) ?_
        refine ww_sub C (lv' := [(0, .ref (a0 0)), (2, .ref (a12 0)), (6, .int p83)]) [3, 5, 0] rfl ?_
        exact w_L_act_118 C ⟨Nat.zero_le _, Nat.zero_le _⟩ hf
  · replace hf := ifF c_2 hf
    refine ww_iconst (v := 1) C dL_act_19 (by decide) ?_
    refine ww_iload C dL_act_20 0 rfl ?_
    refine ww_iload C dL_act_22 0 rfl ?_
    refine ww_iconst (v := 3) C dL_act_24 (by decide) ?_
    refine ww_ishr C dL_act_25 ?_
    refine ww_iconst (v := 4) C dL_act_26 (by decide) ?_
    obtain ⟨p27, hp27, hf⟩ := bdE hf
    refine ww_callS C (As := [.int (x5_11 >>> (3 &&& 31)), .int 4]) (st := [.int x5_11, .int 1]) (gr := [wGW E a0 (rf10 (a1 0) (a2 0) (a3 0) (a5 0) h0_4 (a6 0) h0_6 (a9 0) (a10 0) h0_9) v0, wHouse E a1 v1, wHouse E a2 v2, wHist E a3 (rf2 q4 h3_1) v3, wHs E q4 ah4 v4, wSight E a5 v5, wBest E a6 (rf2 (a7 0) (a8 0)) v6, wHouse E a7 v7, wSight E a8 v8, wToks E a9 v9, wHRead E a10 (rf1 (a9 0)), wArr E q11 6 v11, wOwn E a12 (rf4 q13 q15 q17 q19) v12, wRO E q13 20 a14 v13, wRR E a14 v14, wRO E q15 12 a16 v15, wRR E a16 v16, wRO E q17 4 a18 v17, wRR E a18 v18, wArr E q19 4 v19]) (c_L_most (E := E)  hp27) gL_act_L_most rfl ysk_L_most ⟨by decide, Nat.le_of_ble_eq_true rfl⟩ ⟨Nat.zero_le _, Nat.zero_le _⟩ [] [0, 1, 2, 3, 4, 5, 6, 7, 8, 9, 10, 11, 12, 13, 14, 15, 16, 17, 18, 19] 20 rfl (by decide) rfl rfl (Nat.le_of_ble_eq_true rfl) dL_act_27 ?_
    rintro _ _ ⟨rfl, rfl⟩
    refine ww_perm (gs' := [wGW E a0 (rf10 (a1 0) (a2 0) (a3 0) (a5 0) h0_4 (a6 0) h0_6 (a9 0) (a10 0) h0_9) v0, wHouse E a1 v1, wHouse E a2 v2, wHist E a3 (rf2 q4 h3_1) v3, wHs E q4 ah4 v4, wSight E a5 v5, wBest E a6 (rf2 (a7 0) (a8 0)) v6, wHouse E a7 v7, wSight E a8 v8, wToks E a9 v9, wHRead E a10 (rf1 (a9 0)), wArr E q11 6 v11, wOwn E a12 (rf4 q13 q15 q17 q19) v12, wRO E q13 20 a14 v13, wRR E a14 v14, wRO E q15 12 a16 v15, wRR E a16 v16, wRO E q17 4 a18 v17, wRR E a18 v18, wArr E q19 4 v19]) [0, 1, 2, 3, 4, 5, 6, 7, 8, 9, 10, 11, 12, 13, 14, 15, 16, 17, 18, 19] 20 rfl (by decide) rfl ?_
    refine ww_if_ne (tgt := 38) C dL_act_30 (by decide) (fun c_41 => ?_) (fun c_41 => ?_)
    · replace hf := ifF c_41 hf
      refine ww_bipush (v := 6) C dL_act_38 (by decide) ?_
      refine ww_sub C (lv' := [(0, .ref (a0 0)), (2, .ref (a12 0))]) [2, 4] rfl ?_
      exact w_L_act_40 C ⟨Nat.zero_le _, Nat.zero_le _⟩ hf
    · replace hf := ifT c_41 hf
      refine ww_bipush (v := 60) C dL_act_33 (by decide) ?_
      refine ww_goto (tgt := 40) C dL_act_35 (by decide) ?_
      refine ww_sub C (lv' := [(0, .ref (a0 0)), (2, .ref (a12 0))]) [2, 4] rfl ?_
      exact w_L_act_40 C ⟨Nat.zero_le _, Nat.zero_le _⟩ hf

theorem ysk_L_act : yL_act.cls ≠ "java/lang/invoke/MethodHandle" ∧ yL_act.cls ≠ "java/lang/invoke/VarHandle" ∧ (parseMethodDescriptor yL_act.desc).map (fun d => d.parameters.length) = some 4 := by decide +kernel
