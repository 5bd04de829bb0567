abbrev rmX0_beginChoices : Room := { frames := 1, cells := 0, slots := 0, locals := 22 }
set_option maxRecDepth 20000 in
theorem in_X0_beginChoices_X0 : ∀ w ∈ u_ws RX0 TX0 7, w ∈ wsX0_beginChoices := by decide +kernel
set_option maxRecDepth 20000 in
theorem in_X0_beginChoices_X2 : ∀ w ∈ u_ws RX2 TX2 19, w ∈ wsX0_beginChoices := by decide +kernel
set_option maxHeartbeats 4000000 in
set_option maxRecDepth 100000 in
theorem w_X0_beginChoices_66 {E : Ex} {K : Kx} (C : Cx E K cX0_beginChoices 5 (some .int) RX0 wsX0_beginChoices rmX0_beginChoices) {a0 : Nat → Nat} {a1 : Nat → Nat} {h0_1 : Nat}   {x2 : Int32} {x3 : Int32} {x4 : Int32} {s0 : Int32} {s1 : Int32} {v0 : BestV} {v1 : HouseV} {k6 : Int32 → Int32 → Int32 → BestV → HouseV → Option (Int32 × BestV × HouseV)} {r : (Int32 × BestV × HouseV)} (hk6 : ∀ (x1 : Int32) (x2 : Int32) (x3 : Int32) (v0 : BestV) (v1 : HouseV), k6 x1 x2 x3 v0 v1 = some r → WW E K 0 0 (QQ E K (fun rv g => rv = some (.int r.1) ∧ g = [wBest E a0 (rf2 (a1 0) h0_1) r.2.1, wHouse E a1 r.2.2]) 0 0) 6 [(0, .ref (a0 0)), (1, .int x1), (2, .int x2), (3, .int x3)] [] [wBest E a0 (rf2 (a1 0) h0_1) v0, wHouse E a1 v1]) (hf : Best_beginChoices_66 k6 x2 x3 x4 s0 s1 v0 v1 = some r) : WW E K 0 0 (QQ E K (fun rv g => rv = some (.int r.1) ∧ g = [wBest E a0 (rf2 (a1 0) h0_1) r.2.1, wHouse E a1 r.2.2]) 0 0) 66 [(0, .ref (a0 0)), (2, .int x2), (3, .int x3), (4, .int x4)] [.int s0, .int s1, .ref (a0 2)] [wBest E a0 (rf2 (a1 0) h0_1) v0, wHouse E a1 v1] := by
  rw [Best_beginChoices_66] at hf
  obtain ⟨g_6, hf⟩ := gdE hf
  obtain ⟨v0_66, e_v0_66⟩ : ∃ y : BestV, y = Best_set_spans v0 (upd (Best_spans v0) (Int32.toNatClampNeg s1) s0) := ⟨_, rfl⟩
  replace hf := ltE e_v0_66 hf
  refine ww_iast C (f := Best_spans v0) (w := wBest E a0 (rf2 (a1 0) h0_1) v0) (w' := wBest E a0 (rf2 (a1 0) h0_1) v0_66) (gs' := [wBest E a0 (rf2 (a1 0) h0_1) v0_66, wHouse E a1 v1]) 0 2 rfl c_Best_spans (inB_vp g_6) (by rw [e_v0_66]; exact s_Best_spans) rfl dX0_beginChoices_66 ?_
  refine ww_iload_n C dX0_beginChoices_67 rfl 1 rfl ?_
  refine ww_aload_n C dX0_beginChoices_68 rfl 0 rfl ?_
  refine ww_get C clOK0 in_X0_beginChoices_X0 (w := wBest E a0 (rf2 (a1 0) h0_1) v0_66) (fs := fsBest a0 (rf2 (a1 0) h0_1) v0_66) (v := .ref (a0 2)) 0 0 4 rfl q_Best (by decide) (by decide +kernel) g_Best_spans dX0_beginChoices_69 ?_
  refine ww_iload_n C dX0_beginChoices_72 rfl 2 rfl ?_
  obtain ⟨g_7, hf⟩ := gdE hf
  refine ww_iald C (f := Best_spans v0_66) (w := wBest E a0 (rf2 (a1 0) h0_1) v0_66) 0 2 rfl c_Best_spans (inB_vp g_7) dX0_beginChoices_73 ?_
  refine ww_imul C dX0_beginChoices_74 ?_
  refine ww_topi (fun x2_75 e_x2_75 => ?_)
  replace hf := ltE e_x2_75 hf
  refine ww_istore_n (lv' := [(2, .int x2_75), (0, .ref (a0 0)), (3, .int x3), (4, .int x4)]) C dX0_beginChoices_75 rfl (by decide) rfl ?_
  refine ww_iload C dX0_beginChoices_76 3 rfl ?_
  refine ww_istore_n (lv' := [(1, .int x4), (2, .int x2_75), (0, .ref (a0 0)), (3, .int x3), (4, .int x4)]) C dX0_beginChoices_78 rfl (by decide) rfl ?_
  refine ww_aload_n C dX0_beginChoices_79 rfl 2 rfl ?_
  refine ww_get C clOK0 in_X0_beginChoices_X0 (w := wBest E a0 (rf2 (a1 0) h0_1) v0_66) (fs := fsBest a0 (rf2 (a1 0) h0_1) v0_66) (v := .ref (a1 0)) 0 0 5 rfl q_Best (by decide) (by decide +kernel) g_Best_trial dX0_beginChoices_80 ?_
  refine ww_get C clOK2 in_X0_beginChoices_X2 (w := wHouse E a1 v1) (fs := fsHouse a1 v1) (v := .ref (a1 6)) 1 0 12 rfl q_House (by decide) (by decide +kernel) g_House_phases dX0_beginChoices_83 ?_
  refine ww_iload_n C dX0_beginChoices_86 rfl 3 rfl ?_
  refine ww_iconst (v := 0) C dX0_beginChoices_87 (by decide) ?_
  obtain ⟨v1_88, e_v1_88⟩ : ∃ y : HouseV, y = House_set_phases v1 (upd (House_phases v1) (Int32.toNatClampNeg x3) 0) := ⟨_, rfl⟩
  replace hf := ltE e_v1_88 hf
  refine ww_iast C (f := House_phases v1) (w := wHouse E a1 v1) (w' := wHouse E a1 v1_88) (gs' := [wBest E a0 (rf2 (a1 0) h0_1) v0_66, wHouse E a1 v1_88]) 1 6 rfl c_House_phases (inB_vp g_7) (by rw [e_v1_88]; exact s_House_phases) rfl dX0_beginChoices_88 ?_
  obtain ⟨x3_89, e_x3_89⟩ : ∃ y : Int32, y = x3 + 1 := ⟨_, rfl⟩
  replace hf := ltE e_x3_89 hf
  refine ww_iinc (v := x3_89) (lv' := [(3, .int x3_89), (1, .int x4), (2, .int x2_75), (0, .ref (a0 0)), (4, .int x4)]) C dX0_beginChoices_89 3 rfl (by rw [e_x3_89]; rfl) (by decide) rfl ?_
  refine ww_goto (tgt := 6) C dX0_beginChoices_92 (by decide) ?_
  refine ww_sub C (lv' := [(0, .ref (a0 0)), (1, .int x4), (2, .int x2_75), (3, .int x3_89)]) [3, 1, 2, 0] rfl ?_
  exact hk6 _ _ _ _ _ hf

set_option maxHeartbeats 4000000 in
set_option maxRecDepth 100000 in
theorem w_X0_beginChoices_6 {E : Ex} {K : Kx} (C : Cx E K cX0_beginChoices 5 (some .int) RX0 wsX0_beginChoices rmX0_beginChoices) {a0 : Nat → Nat} {a1 : Nat → Nat} {h0_1 : Nat}   {r : (Int32 × BestV × HouseV)} : ∀ (n : Nat) (x1 : Int32) (x2 : Int32) (x3 : Int32) (v0 : BestV) (v1 : HouseV), Best_beginChoices_6 n x1 x2 x3 v0 v1 = some r → WW E K 0 0 (QQ E K (fun rv g => rv = some (.int r.1) ∧ g = [wBest E a0 (rf2 (a1 0) h0_1) r.2.1, wHouse E a1 r.2.2]) 0 0) 6 [(0, .ref (a0 0)), (1, .int x1), (2, .int x2), (3, .int x3)] [] [wBest E a0 (rf2 (a1 0) h0_1) v0, wHouse E a1 v1] := by
  intro n
  induction n with
  | zero =>
    intro x1 x2 x3 v0 v1 hf
    simp [Best_beginChoices_6] at hf
  | succ n ih =>
    intro x1 x2 x3 v0 v1 hf
    rw [Best_beginChoices_6] at hf
    refine ww_iload_n C dX0_beginChoices_6 rfl 3 rfl ?_
    refine ww_aload_n C dX0_beginChoices_7 rfl 0 rfl ?_
    refine ww_get C clOK0 in_X0_beginChoices_X0 (w := wBest E a0 (rf2 (a1 0) h0_1) v0) (fs := fsBest a0 (rf2 (a1 0) h0_1) v0) (v := .ref (a1 0)) 0 0 5 rfl q_Best (by decide) (by decide +kernel) g_Best_trial dX0_beginChoices_8 ?_
    refine ww_get C clOK2 in_X0_beginChoices_X2 (w := wHouse E a1 v1) (fs := fsHouse a1 v1) (v := .int (House_guards v1)) 1 0 2 rfl q_House (by decide) (by decide +kernel) g_House_guards dX0_beginChoices_11 ?_
    refine ww_icmp_ge (tgt := 95) C dX0_beginChoices_14 (by decide) (fun c_1 => ?_) (fun c_1 => ?_)
    · replace hf := ifT c_1 hf
      refine ww_iload_n C dX0_beginChoices_95 rfl 2 rfl ?_
      obtain rfl := Option.some.inj hf
      exact ww_iret C ⟨rfl, rfl⟩ dX0_beginChoices_96
    · replace hf := ifF c_1 hf
      refine ww_iload_n C dX0_beginChoices_17 rfl 3 rfl ?_
      refine ww_iconst (v := 4) C dX0_beginChoices_18 (by decide) ?_
      refine ww_icmp_ge (tgt := 95) C dX0_beginChoices_19 (by decide) (fun c_2 => ?_) (fun c_2 => ?_)
      · replace hf := ifT c_2 hf
        refine ww_iload_n C dX0_beginChoices_95 rfl 2 rfl ?_
        obtain rfl := Option.some.inj hf
        exact ww_iret C ⟨rfl, rfl⟩ dX0_beginChoices_96
      · replace hf := ifF c_2 hf
        refine ww_iload_n C dX0_beginChoices_22 rfl 1 rfl ?_
        refine ww_aload_n C dX0_beginChoices_23 rfl 0 rfl ?_
        refine ww_get C clOK0 in_X0_beginChoices_X0 (w := wBest E a0 (rf2 (a1 0) h0_1) v0) (fs := fsBest a0 (rf2 (a1 0) h0_1) v0) (v := .ref (a1 0)) 0 0 5 rfl q_Best (by decide) (by decide +kernel) g_Best_trial dX0_beginChoices_24 ?_
        refine ww_get C clOK2 in_X0_beginChoices_X2 (w := wHouse E a1 v1) (fs := fsHouse a1 v1) (v := .ref (a1 5)) 1 0 11 rfl q_House (by decide) (by decide +kernel) g_House_periods dX0_beginChoices_27 ?_
        refine ww_iload_n C dX0_beginChoices_30 rfl 3 rfl ?_
        obtain ⟨g_3, hf⟩ := gdE hf
        refine ww_iald C (f := House_periods v1) (w := wHouse E a1 v1) 1 5 rfl c_House_periods (inB_vp g_3) dX0_beginChoices_31 ?_
        obtain ⟨p32, hp32, hf⟩ := bdE hf
        refine ww_callSN C (As := [.int x1, .int ((House_periods v1) (Int32.toNatClampNeg x3))]) (st := []) (gr := [wBest E a0 (rf2 (a1 0) h0_1) v0, wHouse E a1 v1]) (host := RX8) (c_X8_leastMultiple (E := E)  hp32) gX0_beginChoices_X8_leastMultiple_n66 rfl (by decide +kernel) (by decide +kernel) (by decide +kernel) ysk_X8_leastMultiple ⟨by decide, by decide⟩ ⟨by decide, by decide⟩ [] [0, 1] 2 rfl (by decide) rfl rfl (Nat.le_of_ble_eq_true rfl) dX0_beginChoices_32 ?_
        rintro _ _ ⟨rfl, rfl⟩
        refine ww_perm (gs' := [wBest E a0 (rf2 (a1 0) h0_1) v0, wHouse E a1 v1]) [0, 1] 2 rfl (by decide) rfl ?_
        refine ww_istore (lv' := [(4, .int p32), (0, .ref (a0 0)), (1, .int x1), (2, .int x2), (3, .int x3)]) C dX0_beginChoices_35 (by decide) rfl ?_
        refine ww_aload_n C dX0_beginChoices_37 rfl 1 rfl ?_
        refine ww_get C clOK0 in_X0_beginChoices_X0 (w := wBest E a0 (rf2 (a1 0) h0_1) v0) (fs := fsBest a0 (rf2 (a1 0) h0_1) v0) (v := .ref (a0 2)) 0 0 4 rfl q_Best (by decide) (by decide +kernel) g_Best_spans dX0_beginChoices_38 ?_
        refine ww_iload_n C dX0_beginChoices_41 rfl 4 rfl ?_
        refine ww_iload C dX0_beginChoices_42 0 rfl ?_
        refine ww_iconst (v := 1) C dX0_beginChoices_44 (by decide) ?_
        refine ww_icmp_ge (tgt := 52) C dX0_beginChoices_45 (by decide) (fun c_4 => ?_) (fun c_4 => ?_)
        · replace hf := ifT c_4 hf
          refine ww_iload_n C dX0_beginChoices_52 rfl 2 rfl ?_
          refine ww_aload_n C dX0_beginChoices_53 rfl 1 rfl ?_
          refine ww_get C clOK0 in_X0_beginChoices_X0 (w := wBest E a0 (rf2 (a1 0) h0_1) v0) (fs := fsBest a0 (rf2 (a1 0) h0_1) v0) (v := .ref (a1 0)) 0 0 5 rfl q_Best (by decide) (by decide +kernel) g_Best_trial dX0_beginChoices_54 ?_
          refine ww_get C clOK2 in_X0_beginChoices_X2 (w := wHouse E a1 v1) (fs := fsHouse a1 v1) (v := .ref (a1 5)) 1 0 11 rfl q_House (by decide) (by decide +kernel) g_House_periods dX0_beginChoices_57 ?_
          refine ww_iload_n C dX0_beginChoices_60 rfl 4 rfl ?_
          refine ww_iald C (f := House_periods v1) (w := wHouse E a1 v1) 1 5 rfl c_House_periods (inB_vp g_3) dX0_beginChoices_61 ?_
          refine ww_imul C dX0_beginChoices_62 ?_
          refine ww_iload C dX0_beginChoices_63 0 rfl ?_
          obtain ⟨g_5, hf⟩ := gdE hf
          refine ww_idiv C dX0_beginChoices_65 (nz_ne g_5) ?_
          refine ww_sub C (lv' := [(0, .ref (a0 0)), (2, .int x2), (3, .int x3), (4, .int p32)]) [1, 3, 4, 0] rfl ?_
          exact w_X0_beginChoices_66 C (k6 := (fun (x1 : Int32) (x2 : Int32) (x3 : Int32) (v0 : BestV) (v1 : HouseV) => Best_beginChoices_6 n x1 x2 x3 v0 v1)) ih hf
        · replace hf := ifF c_4 hf
          refine ww_iconst (v := 1) C dX0_beginChoices_48 (by decide) ?_
          refine ww_goto (tgt := 66) C dX0_beginChoices_49 (by decide) ?_
          refine ww_sub C (lv' := [(0, .ref (a0 0)), (2, .int x2), (3, .int x3), (4, .int p32)]) [1, 3, 4, 0] rfl ?_
          exact w_X0_beginChoices_66 C (k6 := (fun (x1 : Int32) (x2 : Int32) (x3 : Int32) (v0 : BestV) (v1 : HouseV) => Best_beginChoices_6 n x1 x2 x3 v0 v1)) ih hf

set_option maxHeartbeats 4000000 in
set_option maxRecDepth 100000 in
theorem c_X0_beginChoices {E : Ex} {a0 : Nat → Nat} {a1 : Nat → Nat} {h0_1 : Nat} {v0 : BestV} {v1 : HouseV} {r : (Int32 × BestV × HouseV)} (hf : Best_beginChoices v0 v1 = some r) : Ct E yX0_beginChoices wsX0_beginChoices rmX0_beginChoices [.ref (a0 0)] [wBest E a0 (rf2 (a1 0) h0_1) v0, wHouse E a1 v1] (fun rv g => rv = some (.int r.1) ∧ g = [wBest E a0 (rf2 (a1 0) h0_1) r.2.1, wHouse E a1 r.2.2]) := by
  refine ct_of (own := RX0) (by decide +kernel) rfl rfl (Nat.le_of_ble_eq_true rfl) (fun K C => ?_)
  refine ww_sub C (lv' := [(0, .ref (a0 0))]) [0] rfl ?_
  rw [Best_beginChoices] at hf
  refine ww_iconst (v := 1) C dX0_beginChoices_0 (by decide) ?_
  refine ww_istore_n (lv' := [(1, .int 1), (0, .ref (a0 0))]) C dX0_beginChoices_1 rfl (by decide) rfl ?_
  refine ww_iconst (v := 1) C dX0_beginChoices_2 (by decide) ?_
  refine ww_istore_n (lv' := [(2, .int 1), (1, .int 1), (0, .ref (a0 0))]) C dX0_beginChoices_3 rfl (by decide) rfl ?_
  refine ww_iconst (v := 0) C dX0_beginChoices_4 (by decide) ?_
  refine ww_istore_n (lv' := [(3, .int 0), (2, .int 1), (1, .int 1), (0, .ref (a0 0))]) C dX0_beginChoices_5 rfl (by decide) rfl ?_
  refine ww_sub C (lv' := [(0, .ref (a0 0)), (1, .int 1), (2, .int 1), (3, .int 0)]) [3, 2, 1, 0] rfl ?_
  exact w_X0_beginChoices_6 C FU _ _ _ _ _ hf

theorem yk_X0_beginChoices : yX0_beginChoices.cls = RX0 ∧ yX0_beginChoices.cls ≠ "java/lang/invoke/MethodHandle" ∧ yX0_beginChoices.cls ≠ "java/lang/invoke/VarHandle" ∧ (parseMethodDescriptor yX0_beginChoices.desc).map (fun d => d.parameters.length) = some 0 := by decide +kernel
abbrev rmX0_nextChoice : Room := { frames := 1, cells := 0, slots := 0, locals := 21 }
set_option maxRecDepth 20000 in
theorem in_X0_nextChoice_X0 : ∀ w ∈ u_ws RX0 TX0 7, w ∈ wsX0_nextChoice := by decide +kernel
set_option maxRecDepth 20000 in
theorem in_X0_nextChoice_X2 : ∀ w ∈ u_ws RX2 TX2 19, w ∈ wsX0_nextChoice := by decide +kernel
set_option maxHeartbeats 4000000 in
set_option maxRecDepth 100000 in
theorem w_X0_nextChoice_14 {E : Ex} {K : Kx} (C : Cx E K cX0_nextChoice 2 none RX0 wsX0_nextChoice rmX0_nextChoice) {a0 : Nat → Nat} {a1 : Nat → Nat} {h0_1 : Nat} {v0 : BestV}  {r : HouseV} : ∀ (n : Nat) (x1 : Int32) (v1 : HouseV), Best_nextChoice_14 v0 n x1 v1 = some r → WW E K 0 0 (QQ E K (fun rv g => rv = none ∧ g = [wBest E a0 (rf2 (a1 0) h0_1) v0, wHouse E a1 r]) 0 0) 14 [(0, .ref (a0 0)), (1, .int x1)] [] [wBest E a0 (rf2 (a1 0) h0_1) v0, wHouse E a1 v1] := by
  intro n
  induction n with
  | zero =>
    intro x1 v1 hf
    simp [Best_nextChoice_14] at hf
  | succ n ih =>
    intro x1 v1 hf
    rw [Best_nextChoice_14] at hf
    refine ww_iload_n C dX0_nextChoice_14 rfl 1 rfl ?_
    refine ww_if_lt (tgt := 68) C dX0_nextChoice_15 (by decide) (fun c_2 => ?_) (fun c_2 => ?_)
    · replace hf := ifT c_2 hf
      obtain rfl := Option.some.inj hf
      exact ww_vret C ⟨rfl, rfl⟩ dX0_nextChoice_68
    · replace hf := ifF c_2 hf
      refine ww_aload_n C dX0_nextChoice_18 rfl 0 rfl ?_
      refine ww_get C clOK0 in_X0_nextChoice_X0 (w := wBest E a0 (rf2 (a1 0) h0_1) v0) (fs := fsBest a0 (rf2 (a1 0) h0_1) v0) (v := .ref (a1 0)) 0 0 5 rfl q_Best (by decide) (by decide +kernel) g_Best_trial dX0_nextChoice_19 ?_
      refine ww_get C clOK2 in_X0_nextChoice_X2 (w := wHouse E a1 v1) (fs := fsHouse a1 v1) (v := .ref (a1 6)) 1 0 12 rfl q_House (by decide) (by decide +kernel) g_House_phases dX0_nextChoice_22 ?_
      refine ww_iload_n C dX0_nextChoice_25 rfl 1 rfl ?_
      obtain ⟨g_3, hf⟩ := gdE hf
      refine ww_iald C (f := House_phases v1) (w := wHouse E a1 v1) 1 6 rfl c_House_phases (inB_vp g_3) dX0_nextChoice_26 ?_
      refine ww_iconst (v := 1) C dX0_nextChoice_27 (by decide) ?_
      refine ww_iadd C dX0_nextChoice_28 ?_
      refine ww_aload_n C dX0_nextChoice_29 rfl 0 rfl ?_
      refine ww_get C clOK0 in_X0_nextChoice_X0 (w := wBest E a0 (rf2 (a1 0) h0_1) v0) (fs := fsBest a0 (rf2 (a1 0) h0_1) v0) (v := .ref (a0 2)) 0 0 4 rfl q_Best (by decide) (by decide +kernel) g_Best_spans dX0_nextChoice_30 ?_
      refine ww_iload_n C dX0_nextChoice_33 rfl 1 rfl ?_
      refine ww_iald C (f := Best_spans v0) (w := wBest E a0 (rf2 (a1 0) h0_1) v0) 0 2 rfl c_Best_spans (inB_vp g_3) dX0_nextChoice_34 ?_
      refine ww_icmp_ge (tgt := 52) C dX0_nextChoice_35 (by decide) (fun c_4 => ?_) (fun c_4 => ?_)
      · replace hf := ifT c_4 hf
        refine ww_aload_n C dX0_nextChoice_52 rfl 0 rfl ?_
        refine ww_get C clOK0 in_X0_nextChoice_X0 (w := wBest E a0 (rf2 (a1 0) h0_1) v0) (fs := fsBest a0 (rf2 (a1 0) h0_1) v0) (v := .ref (a1 0)) 0 0 5 rfl q_Best (by decide) (by decide +kernel) g_Best_trial dX0_nextChoice_53 ?_
        refine ww_get C clOK2 in_X0_nextChoice_X2 (w := wHouse E a1 v1) (fs := fsHouse a1 v1) (v := .ref (a1 6)) 1 0 12 rfl q_House (by decide) (by decide +kernel) g_House_phases dX0_nextChoice_56 ?_
        refine ww_iload_n C dX0_nextChoice_59 rfl 1 rfl ?_
        refine ww_iconst (v := 0) C dX0_nextChoice_60 (by decide) ?_
        obtain ⟨v1_61, e_v1_61⟩ : ∃ y : HouseV, y = House_set_phases v1 (upd (House_phases v1) (Int32.toNatClampNeg x1) 0) := ⟨_, rfl⟩
        replace hf := ltE e_v1_61 hf
        refine ww_iast C (f := House_phases v1) (w := wHouse E a1 v1) (w' := wHouse E a1 v1_61) (gs' := [wBest E a0 (rf2 (a1 0) h0_1) v0, wHouse E a1 v1_61]) 1 6 rfl c_House_phases (inB_vp g_3) (by rw [e_v1_61]; exact s_House_phases) rfl dX0_nextChoice_61 ?_
        obtain ⟨x1_62, e_x1_62⟩ : ∃ y : Int32, y = x1 + (-1) := ⟨_, rfl⟩
        replace hf := ltE e_x1_62 hf
        refine ww_iinc (v := x1_62) (lv' := [(1, .int x1_62), (0, .ref (a0 0))]) C dX0_nextChoice_62 1 rfl (by rw [e_x1_62]; rfl) (by decide) rfl ?_
        refine ww_goto (tgt := 14) C dX0_nextChoice_65 (by decide) ?_
        refine ww_sub C (lv' := [(0, .ref (a0 0)), (1, .int x1_62)]) [1, 0] rfl ?_
        exact ih _ _ hf
      · replace hf := ifF c_4 hf
        refine ww_aload_n C dX0_nextChoice_38 rfl 0 rfl ?_
        refine ww_get C clOK0 in_X0_nextChoice_X0 (w := wBest E a0 (rf2 (a1 0) h0_1) v0) (fs := fsBest a0 (rf2 (a1 0) h0_1) v0) (v := .ref (a1 0)) 0 0 5 rfl q_Best (by decide) (by decide +kernel) g_Best_trial dX0_nextChoice_39 ?_
        refine ww_get C clOK2 in_X0_nextChoice_X2 (w := wHouse E a1 v1) (fs := fsHouse a1 v1) (v := .ref (a1 6)) 1 0 12 rfl q_House (by decide) (by decide +kernel) g_House_phases dX0_nextChoice_42 ?_
        refine ww_iload_n C dX0_nextChoice_45 rfl 1 rfl ?_
        refine ww_dup2 C dX0_nextChoice_46 rfl rfl ?_
        refine ww_iald C (f := House_phases v1) (w := wHouse E a1 v1) 1 6 rfl c_House_phases (inB_vp g_3) dX0_nextChoice_47 ?_
        refine ww_iconst (v := 1) C dX0_nextChoice_48 (by decide) ?_
        refine ww_iadd C dX0_nextChoice_49 ?_
        obtain ⟨v1_50, e_v1_50⟩ : ∃ y : HouseV, y = House_set_phases v1 (upd (House_phases v1) (Int32.toNatClampNeg x1) (((House_phases v1) (Int32.toNatClampNeg x1)) + 1)) := ⟨_, rfl⟩
        replace hf := ltE e_v1_50 hf
        refine ww_iast C (f := House_phases v1) (w := wHouse E a1 v1) (w' := wHouse E a1 v1_50) (gs' := [wBest E a0 (rf2 (a1 0) h0_1) v0, wHouse E a1 v1_50]) 1 6 rfl c_House_phases (inB_vp g_3) (by rw [e_v1_50]; exact s_House_phases) rfl dX0_nextChoice_50 ?_
        obtain rfl := Option.some.inj hf
        exact ww_vret C ⟨rfl, rfl⟩ dX0_nextChoice_51

set_option maxHeartbeats 4000000 in
set_option maxRecDepth 100000 in
theorem c_X0_nextChoice {E : Ex} {a0 : Nat → Nat} {a1 : Nat → Nat} {h0_1 : Nat} {v0 : BestV} {v1 : HouseV} {r : HouseV} (hf : Best_nextChoice v0 v1 = some r) : Ct E yX0_nextChoice wsX0_nextChoice rmX0_nextChoice [.ref (a0 0)] [wBest E a0 (rf2 (a1 0) h0_1) v0, wHouse E a1 v1] (fun rv g => rv = none ∧ g = [wBest E a0 (rf2 (a1 0) h0_1) v0, wHouse E a1 r]) := by
  refine ct_of (own := RX0) (by decide +kernel) rfl rfl (Nat.le_of_ble_eq_true rfl) (fun K C => ?_)
  refine ww_sub C (lv' := [(0, .ref (a0 0))]) [0] rfl ?_
  rw [Best_nextChoice] at hf
  refine ww_aload_n C dX0_nextChoice_0 rfl 0 rfl ?_
  refine ww_get C clOK0 in_X0_nextChoice_X0 (w := wBest E a0 (rf2 (a1 0) h0_1) v0) (fs := fsBest a0 (rf2 (a1 0) h0_1) v0) (v := .ref (a1 0)) 0 0 5 rfl q_Best (by decide) (by decide +kernel) g_Best_trial dX0_nextChoice_1 ?_
  refine ww_get C clOK2 in_X0_nextChoice_X2 (w := wHouse E a1 v1) (fs := fsHouse a1 v1) (v := .int (House_guards v1)) 1 0 2 rfl q_House (by decide) (by decide +kernel) g_House_guards dX0_nextChoice_4 ?_
  refine ww_iconst (v := 4) C dX0_nextChoice_7 (by decide) ?_
  refine ww_min C (by decide +kernel) (by decide +kernel) (by decide +kernel) (by decide +kernel) (by decide) (Nat.le_of_ble_eq_true rfl) (by decide) (by decide) dX0_nextChoice_8 ?_
  refine ww_iconst (v := 1) C dX0_nextChoice_11 (by decide) ?_
  refine ww_isub C dX0_nextChoice_12 ?_
  refine ww_topi (fun x1_13 e_x1_13 => ?_)
  replace hf := ltE e_x1_13 hf
  refine ww_istore_n (lv' := [(1, .int x1_13), (0, .ref (a0 0))]) C dX0_nextChoice_13 rfl (by decide) rfl ?_
  refine ww_sub C (lv' := [(0, .ref (a0 0)), (1, .int x1_13)]) [1, 0] rfl ?_
  exact w_X0_nextChoice_14 C FU _ _ hf

theorem yk_X0_nextChoice : yX0_nextChoice.cls = RX0 ∧ yX0_nextChoice.cls ≠ "java/lang/invoke/MethodHandle" ∧ yX0_nextChoice.cls ≠ "java/lang/invoke/VarHandle" ∧ (parseMethodDescriptor yX0_nextChoice.desc).map (fun d => d.parameters.length) = some 0 := by decide +kernel
abbrev rmX0_tryPhases : Room := { frames := 4, cells := 0, slots := 0, locals := 98 }
set_option maxRecDepth 20000 in
theorem in_X0_tryPhases_X0 : ∀ w ∈ u_ws RX0 TX0 7, w ∈ wsX0_tryPhases := by decide +kernel
set_option maxRecDepth 20000 in
theorem in_X0_tryPhases_X2 : ∀ w ∈ u_ws RX2 TX2 19, w ∈ wsX0_tryPhases := by decide +kernel
set_option maxRecDepth 20000 in
theorem in_X0_tryPhases_X6 : ∀ w ∈ u_ws RX6 TX6 8, w ∈ wsX0_tryPhases := by decide +kernel
set_option maxHeartbeats 4000000 in
set_option maxRecDepth 100000 in
theorem w_X0_tryPhases_64 {E : Ex} {K : Kx} (C : Cx E K cX0_tryPhases 3 none RX0 wsX0_tryPhases rmX0_tryPhases) {a0 : Nat → Nat} {a1 : Nat → Nat} {a2 : Nat → Nat} {x1 : Bool} {v1 : HouseV}  {x2 : Int32} {v0 : BestV} {v2 : SightV} {r : (BestV × SightV)} (hf : Best_tryPhases_64 x1 v1 x2 v0 v2 = some r) : WW E K 0 0 (QQ E K (fun rv g => rv = none ∧ g = [wBest E a0 (rf2 (a1 0) (a2 0)) r.1, wHouse E a1 v1, wSight E a2 r.2]) 0 0) 64 [(0, .ref (a0 0)), (2, .int x2)] [] [wBest E a0 (rf2 (a1 0) (a2 0)) v0, wHouse E a1 v1, wSight E a2 v2] := by
  rw [Best_tryPhases_64] at hf
  refine ww_aload_n C dX0_tryPhases_64 rfl 0 rfl ?_
  refine ww_aload_n C dX0_tryPhases_65 rfl 0 rfl ?_
  refine ww_get C clOK0 in_X0_tryPhases_X0 (w := wBest E a0 (rf2 (a1 0) (a2 0)) v0) (fs := fsBest a0 (rf2 (a1 0) (a2 0)) v0) (v := .ref (a2 0)) 0 0 6 rfl q_Best (by decide) (by decide +kernel) g_Best_trialSightings dX0_tryPhases_66 ?_
  refine ww_get C clOK6 in_X0_tryPhases_X6 (w := wSight E a2 v2) (fs := fsSight a2 v2) (v := .int (Sight_worst v2)) 2 0 6 rfl q_Sight (by decide) (by decide +kernel) g_Sight_worst dX0_tryPhases_69 ?_
  obtain ⟨v0_72, e_v0_72⟩ : ∃ y : BestV, y = Best_set_worst v0 (Sight_worst v2) := ⟨_, rfl⟩
  replace hf := ltE e_v0_72 hf
  refine ww_put C clOK0 in_X0_tryPhases_X0 (w := wBest E a0 (rf2 (a1 0) (a2 0)) v0) (fs := fsBest a0 (rf2 (a1 0) (a2 0)) v0) (w' := wBest E a0 (rf2 (a1 0) (a2 0)) v0_72) (gs' := [wBest E a0 (rf2 (a1 0) (a2 0)) v0_72, wHouse E a1 v1, wSight E a2 v2]) 0 0 1 rfl q_Best (by decide) (by decide +kernel) rfl rfl rfl rfl l_Best (by rw [e_v0_72]; exact p_Best_worst) rfl dX0_tryPhases_72 ?_
  refine ww_aload_n C dX0_tryPhases_75 rfl 0 rfl ?_
  refine ww_iload_n C dX0_tryPhases_76 rfl 1 rfl ?_
  obtain ⟨v0_77, e_v0_77⟩ : ∃ y : BestV, y = Best_set_crossings v0_72 x2 := ⟨_, rfl⟩
  replace hf := ltE e_v0_77 hf
  refine ww_put C clOK0 in_X0_tryPhases_X0 (w := wBest E a0 (rf2 (a1 0) (a2 0)) v0_72) (fs := fsBest a0 (rf2 (a1 0) (a2 0)) v0_72) (w' := wBest E a0 (rf2 (a1 0) (a2 0)) v0_77) (gs' := [wBest E a0 (rf2 (a1 0) (a2 0)) v0_77, wHouse E a1 v1, wSight E a2 v2]) 0 0 2 rfl q_Best (by decide) (by decide +kernel) rfl rfl rfl rfl l_Best (by rw [e_v0_77]; exact p_Best_crossings) rfl dX0_tryPhases_77 ?_
  refine ww_aload_n C dX0_tryPhases_80 rfl 0 rfl ?_
  refine ww_get C clOK0 in_X0_tryPhases_X0 (w := wBest E a0 (rf2 (a1 0) (a2 0)) v0_77) (fs := fsBest a0 (rf2 (a1 0) (a2 0)) v0_77) (v := .ref (a1 0)) 0 0 5 rfl q_Best (by decide) (by decide +kernel) g_Best_trial dX0_tryPhases_81 ?_
  refine ww_get C clOK2 in_X0_tryPhases_X2 (w := wHouse E a1 v1) (fs := fsHouse a1 v1) (v := .ref (a1 6)) 1 0 12 rfl q_House (by decide) (by decide +kernel) g_House_phases dX0_tryPhases_84 ?_
  refine ww_iconst (v := 0) C dX0_tryPhases_87 (by decide) ?_
  refine ww_aload_n C dX0_tryPhases_88 rfl 0 rfl ?_
  refine ww_get C clOK0 in_X0_tryPhases_X0 (w := wBest E a0 (rf2 (a1 0) (a2 0)) v0_77) (fs := fsBest a0 (rf2 (a1 0) (a2 0)) v0_77) (v := .ref (a0 1)) 0 0 0 rfl q_Best (by decide) (by decide +kernel) g_Best_phases dX0_tryPhases_89 ?_
  refine ww_iconst (v := 0) C dX0_tryPhases_92 (by decide) ?_
  refine ww_iconst (v := 4) C dX0_tryPhases_93 (by decide) ?_
  obtain ⟨v0_94, e_v0_94⟩ : ∃ y : BestV, y = Best_set_phases v0_77 (va_cpy (House_phases v1) (Best_phases v0_77) 0 0 4) := ⟨_, rfl⟩
  replace hf := ltE e_v0_94 hf
  refine ww_copy C (N := 4) (f := House_phases v1) (g := Best_phases v0_77) (w0 := wHouse E a1 v1) (w1 := wBest E a0 (rf2 (a1 0) (a2 0)) v0_77) (w' := wBest E a0 (rf2 (a1 0) (a2 0)) v0_94) (gs' := [wBest E a0 (rf2 (a1 0) (a2 0)) v0_94, wHouse E a1 v1, wSight E a2 v2]) (by decide +kernel) (by decide +kernel) (by decide +kernel) (by decide +kernel) 1 6 0 1 rfl c_House_phases rfl c_Best_phases (by decide) (by decide) (by decide) (by decide) (by rw [e_v0_94]; exact s_Best_phases) rfl (by decide) (Nat.le_of_ble_eq_true rfl) dX0_tryPhases_94 ?_
  obtain rfl := Option.some.inj hf
  exact ww_vret C ⟨rfl, rfl⟩ dX0_tryPhases_97

set_option maxHeartbeats 4000000 in
set_option maxRecDepth 100000 in
theorem w_X0_tryPhases_30 {E : Ex} {K : Kx} (C : Cx E K cX0_tryPhases 3 none RX0 wsX0_tryPhases rmX0_tryPhases) {a0 : Nat → Nat} {a1 : Nat → Nat} {a2 : Nat → Nat} {x1 : Bool} {v1 : HouseV}  {v0 : BestV} {v2 : SightV} {r : (BestV × SightV)} (hf : Best_tryPhases_30 x1 v1 v0 v2 = some r) : WW E K 0 0 (QQ E K (fun rv g => rv = none ∧ g = [wBest E a0 (rf2 (a1 0) (a2 0)) r.1, wHouse E a1 v1, wSight E a2 r.2]) 0 0) 30 [(0, .ref (a0 0)), (1, .int (b2i x1))] [] [wBest E a0 (rf2 (a1 0) (a2 0)) v0, wHouse E a1 v1, wSight E a2 v2] := by
  rw [Best_tryPhases_30] at hf
  refine ww_aload_n C dX0_tryPhases_30 rfl 0 rfl ?_
  refine ww_get C clOK0 in_X0_tryPhases_X0 (w := wBest E a0 (rf2 (a1 0) (a2 0)) v0) (fs := fsBest a0 (rf2 (a1 0) (a2 0)) v0) (v := .ref (a1 0)) 0 0 5 rfl q_Best (by decide) (by decide +kernel) g_Best_trial dX0_tryPhases_31 ?_
  obtain ⟨p34, hp34, hf⟩ := bdE hf
  refine ww_callV C (As := []) (st := []) (gr := [wBest E a0 (rf2 (a1 0) (a2 0)) v0, wSight E a2 v2]) (c_X2_countCrossings (E := E) (a0 := a1) hp34) gX0_tryPhases_X2_countCrossings rfl yk_X2_countCrossings ⟨by decide, by decide⟩ ⟨by decide, by decide⟩ clOK2 0 0 rfl rfl [1] [0, 2] 3 rfl (by decide) rfl rfl (Nat.le_of_ble_eq_true rfl) dX0_tryPhases_34 ?_
  rintro _ _ ⟨rfl, rfl⟩
  refine ww_perm (gs' := [wBest E a0 (rf2 (a1 0) (a2 0)) v0, wHouse E a1 v1, wSight E a2 v2]) [1, 0, 2] 3 rfl (by decide) rfl ?_
  refine ww_istore_n (lv' := [(2, .int p34), (0, .ref (a0 0)), (1, .int (b2i x1))]) C dX0_tryPhases_37 rfl (by decide) rfl ?_
  refine ww_iload_n C dX0_tryPhases_38 rfl 2 rfl ?_
  refine ww_if_neB (tgt := 64) C dX0_tryPhases_39 (by decide) (fun c_3 => ?_) (fun c_3 => ?_)
  · replace hf := btE c_3 hf
    refine ww_sub C (lv' := [(0, .ref (a0 0)), (2, .int p34)]) [1, 0] rfl ?_
    exact w_X0_tryPhases_64 C hf
  · replace hf := bfE c_3 hf
    refine ww_aload_n C dX0_tryPhases_42 rfl 1 rfl ?_
    refine ww_get C clOK0 in_X0_tryPhases_X0 (w := wBest E a0 (rf2 (a1 0) (a2 0)) v0) (fs := fsBest a0 (rf2 (a1 0) (a2 0)) v0) (v := .ref (a2 0)) 0 0 6 rfl q_Best (by decide) (by decide +kernel) g_Best_trialSightings dX0_tryPhases_43 ?_
    refine ww_get C clOK6 in_X0_tryPhases_X6 (w := wSight E a2 v2) (fs := fsSight a2 v2) (v := .int (Sight_worst v2)) 2 0 6 rfl q_Sight (by decide) (by decide +kernel) g_Sight_worst dX0_tryPhases_46 ?_
    refine ww_aload_n C dX0_tryPhases_49 rfl 1 rfl ?_
    refine ww_get C clOK0 in_X0_tryPhases_X0 (w := wBest E a0 (rf2 (a1 0) (a2 0)) v0) (fs := fsBest a0 (rf2 (a1 0) (a2 0)) v0) (v := .int (Best_worst v0)) 0 0 1 rfl q_Best (by decide) (by decide +kernel) g_Best_worst dX0_tryPhases_50 ?_
    refine ww_icmp_lt (tgt := 64) C dX0_tryPhases_53 (by decide) (fun c_4 => ?_) (fun c_4 => ?_)
    · replace hf := ifT c_4 hf
      refine ww_sub C (lv' := [(0, .ref (a0 0)), (2, .int p34)]) [1, 0] rfl ?_
      exact w_X0_tryPhases_64 C hf
    · replace hf := ifF c_4 hf
      refine ww_iload_n C dX0_tryPhases_56 rfl 0 rfl ?_
      refine ww_aload_n C dX0_tryPhases_57 rfl 1 rfl ?_
      refine ww_get C clOK0 in_X0_tryPhases_X0 (w := wBest E a0 (rf2 (a1 0) (a2 0)) v0) (fs := fsBest a0 (rf2 (a1 0) (a2 0)) v0) (v := .int (Best_crossings v0)) 0 0 2 rfl q_Best (by decide) (by decide +kernel) g_Best_crossings dX0_tryPhases_58 ?_
      refine ww_icmp_ge (tgt := 97) C dX0_tryPhases_61 (by decide) (fun c_5 => ?_) (fun c_5 => ?_)
      · replace hf := ifT c_5 hf
        obtain rfl := Option.some.inj hf
        exact ww_vret C ⟨rfl, rfl⟩ dX0_tryPhases_97
      · replace hf := ifF c_5 hf
        refine ww_sub C (lv' := [(0, .ref (a0 0)), (2, .int p34)]) [1, 0] rfl ?_
        exact w_X0_tryPhases_64 C hf

set_option maxHeartbeats 4000000 in
set_option maxRecDepth 100000 in
theorem c_X0_tryPhases {E : Ex} {a0 : Nat → Nat} {a1 : Nat → Nat} {a2 : Nat → Nat} {x1 : Bool} {v0 : BestV} {v1 : HouseV} {v2 : SightV} {r : (BestV × SightV)} (hf : Best_tryPhases x1 v0 v1 v2 = some r) : Ct E yX0_tryPhases wsX0_tryPhases rmX0_tryPhases [.ref (a0 0), .int (b2i x1)] [wBest E a0 (rf2 (a1 0) (a2 0)) v0, wHouse E a1 v1, wSight E a2 v2] (fun rv g => rv = none ∧ g = [wBest E a0 (rf2 (a1 0) (a2 0)) r.1, wHouse E a1 v1, wSight E a2 r.2]) := by
  refine ct_of (own := RX0) (by decide +kernel) rfl rfl (Nat.le_of_ble_eq_true rfl) (fun K C => ?_)
  refine ww_sub C (lv' := [(0, .ref (a0 0)), (1, .int (b2i x1))]) [0, 1] rfl ?_
  rw [Best_tryPhases] at hf
  refine ww_aload_n C dX0_tryPhases_0 rfl 0 rfl ?_
  refine ww_get C clOK0 in_X0_tryPhases_X0 (w := wBest E a0 (rf2 (a1 0) (a2 0)) v0) (fs := fsBest a0 (rf2 (a1 0) (a2 0)) v0) (v := .ref (a2 0)) 0 0 6 rfl q_Best (by decide) (by decide +kernel) g_Best_trialSightings dX0_tryPhases_1 ?_
  refine ww_aload_n C dX0_tryPhases_4 rfl 0 rfl ?_
  refine ww_get C clOK0 in_X0_tryPhases_X0 (w := wBest E a0 (rf2 (a1 0) (a2 0)) v0) (fs := fsBest a0 (rf2 (a1 0) (a2 0)) v0) (v := .ref (a1 0)) 0 0 5 rfl q_Best (by decide) (by decide +kernel) g_Best_trial dX0_tryPhases_5 ?_
  obtain ⟨p8, hp8, hf⟩ := bdE hf
  refine ww_callV C (As := [.ref (a1 0)]) (st := []) (gr := [wBest E a0 (rf2 (a1 0) (a2 0)) v0]) (c_X6_measure (E := E) (a0 := a2) (a1 := a1) hp8) gX0_tryPhases_X6_measure rfl yk_X6_measure ⟨by decide, by decide⟩ ⟨by decide, by decide⟩ clOK6 0 0 rfl rfl [2, 1] [0] 3 rfl (by decide) rfl rfl (Nat.le_of_ble_eq_true rfl) dX0_tryPhases_8 ?_
  rintro _ _ ⟨rfl, rfl⟩
  refine ww_perm (gs' := [wBest E a0 (rf2 (a1 0) (a2 0)) v0, wHouse E a1 v1, wSight E a2 p8]) [2, 1, 0] 3 rfl (by decide) rfl ?_
  refine ww_iload_n C dX0_tryPhases_11 rfl 1 rfl ?_
  refine ww_if_neB (tgt := 30) C dX0_tryPhases_12 (by decide) (fun c_1 => ?_) (fun c_1 => ?_)
  · replace hf := btE c_1 hf
    refine ww_sub C (lv' := [(0, .ref (a0 0)), (1, .int (b2i x1))]) [0, 1] rfl ?_
    exact w_X0_tryPhases_30 C hf
  · replace hf := bfE c_1 hf
    refine ww_aload_n C dX0_tryPhases_15 rfl 0 rfl ?_
    refine ww_get C clOK0 in_X0_tryPhases_X0 (w := wBest E a0 (rf2 (a1 0) (a2 0)) v0) (fs := fsBest a0 (rf2 (a1 0) (a2 0)) v0) (v := .ref (a2 0)) 0 0 6 rfl q_Best (by decide) (by decide +kernel) g_Best_trialSightings dX0_tryPhases_16 ?_
    refine ww_get C clOK6 in_X0_tryPhases_X6 (w := wSight E a2 p8) (fs := fsSight a2 p8) (v := .int (Sight_worst p8)) 2 0 6 rfl q_Sight (by decide) (by decide +kernel) g_Sight_worst dX0_tryPhases_19 ?_
    refine ww_aload_n C dX0_tryPhases_22 rfl 0 rfl ?_
    refine ww_get C clOK0 in_X0_tryPhases_X0 (w := wBest E a0 (rf2 (a1 0) (a2 0)) v0) (fs := fsBest a0 (rf2 (a1 0) (a2 0)) v0) (v := .int (Best_worst v0)) 0 0 1 rfl q_Best (by decide) (by decide +kernel) g_Best_worst dX0_tryPhases_23 ?_
    refine ww_icmp_le (tgt := 30) C dX0_tryPhases_26 (by decide) (fun c_2 => ?_) (fun c_2 => ?_)
    · replace hf := ifT c_2 hf
      refine ww_sub C (lv' := [(0, .ref (a0 0)), (1, .int (b2i x1))]) [0, 1] rfl ?_
      exact w_X0_tryPhases_30 C hf
    · replace hf := ifF c_2 hf
      obtain rfl := Option.some.inj hf
      exact ww_vret C ⟨rfl, rfl⟩ dX0_tryPhases_29

theorem yk_X0_tryPhases : yX0_tryPhases.cls = RX0 ∧ yX0_tryPhases.cls ≠ "java/lang/invoke/MethodHandle" ∧ yX0_tryPhases.cls ≠ "java/lang/invoke/VarHandle" ∧ (parseMethodDescriptor yX0_tryPhases.desc).map (fun d => d.parameters.length) = some 1 := by decide +kernel
abbrev rmX0_search : Room := { frames := 5, cells := 0, slots := 0, locals := 120 }
set_option maxRecDepth 20000 in
theorem in_X0_search_X0 : ∀ w ∈ u_ws RX0 TX0 7, w ∈ wsX0_search := by decide +kernel
set_option maxRecDepth 20000 in
theorem in_X0_search_X2 : ∀ w ∈ u_ws RX2 TX2 19, w ∈ wsX0_search := by decide +kernel
set_option maxHeartbeats 4000000 in
set_option maxRecDepth 100000 in
theorem w_X0_search_30 {E : Ex} {K : Kx} (C : Cx E K cX0_search 4 none RX0 wsX0_search rmX0_search) {a0 : Nat → Nat} {a1 : Nat → Nat} {a2 : Nat → Nat} {a3 : Nat → Nat} {v3 : HouseV}  {x2 : Int32} {x3 : Int32} {s0 : Int32} {v0 : BestV} {v1 : HouseV} {v2 : SightV} {k15 : Int32 → BestV → HouseV → SightV → Option (BestV × HouseV × SightV)} {r : (BestV × HouseV × SightV)} (hk15 : ∀ (x3 : Int32) (v0 : BestV) (v1 : HouseV) (v2 : SightV), k15 x3 v0 v1 v2 = some r → WW E K 0 0 (QQ E K (fun rv g => rv = none ∧ g = [wBest E a0 (rf2 (a1 0) (a2 0)) r.1, wHouse E a1 r.2.1, wSight E a2 r.2.2, wHouse E a3 v3]) 0 0) 15 [(0, .ref (a0 0)), (1, .ref (a3 0)), (2, .int x2), (3, .int x3)] [] [wBest E a0 (rf2 (a1 0) (a2 0)) v0, wHouse E a1 v1, wSight E a2 v2, wHouse E a3 v3]) (hf : Best_search_30 v3 k15 x2 x3 s0 v0 v1 v2 = some r) : WW E K 0 0 (QQ E K (fun rv g => rv = none ∧ g = [wBest E a0 (rf2 (a1 0) (a2 0)) r.1, wHouse E a1 r.2.1, wSight E a2 r.2.2, wHouse E a3 v3]) 0 0) 30 [(0, .ref (a0 0)), (1, .ref (a3 0)), (2, .int x2), (3, .int x3)] [.int s0, .ref (a0 0)] [wBest E a0 (rf2 (a1 0) (a2 0)) v0, wHouse E a1 v1, wSight E a2 v2, wHouse E a3 v3] := by
  rw [Best_search_30] at hf
  obtain ⟨z_3, e_z_3, hf⟩ := asBE hf
  rw [e_z_3]
  obtain ⟨p30, hp30, hf⟩ := bdE hf
  refine ww_callV C (As := [.int (b2i z_3)]) (st := []) (gr := [wHouse E a3 v3]) (c_X0_tryPhases (E := E) (a0 := a0) (a1 := a1) (a2 := a2) hp30) gX0_search_X0_tryPhases rfl yk_X0_tryPhases ⟨by decide, by decide⟩ ⟨by decide, by decide⟩ clOK0 0 0 rfl rfl [0, 1, 2] [3] 4 rfl (by decide) rfl rfl (Nat.le_of_ble_eq_true rfl) dX0_search_30 ?_
  rintro _ _ ⟨rfl, rfl⟩
  refine ww_perm (gs' := [wBest E a0 (rf2 (a1 0) (a2 0)) p30.1, wHouse E a1 v1, wSight E a2 p30.2, wHouse E a3 v3]) [0, 1, 2, 3] 4 rfl (by decide) rfl ?_
  refine ww_aload_n C dX0_search_33 rfl 0 rfl ?_
  obtain ⟨p34, hp34, hf⟩ := bdE hf
  refine ww_callV C (As := []) (st := []) (gr := [wSight E a2 p30.2, wHouse E a3 v3]) (c_X0_nextChoice (E := E) (a0 := a0) (h0_1 := a2 0) (a1 := a1) hp34) gX0_search_X0_nextChoice rfl yk_X0_nextChoice ⟨by decide, by decide⟩ ⟨by decide, by decide⟩ clOK0 0 0 rfl rfl [0, 1] [2, 3] 4 rfl (by decide) rfl rfl (Nat.le_of_ble_eq_true rfl) dX0_search_34 ?_
  rintro _ _ ⟨rfl, rfl⟩
  refine ww_perm (gs' := [wBest E a0 (rf2 (a1 0) (a2 0)) p30.1, wHouse E a1 p34, wSight E a2 p30.2, wHouse E a3 v3]) [0, 1, 2, 3] 4 rfl (by decide) rfl ?_
  obtain ⟨x3_37, e_x3_37⟩ : ∃ y : Int32, y = x3 + 1 := ⟨_, rfl⟩
  replace hf := ltE e_x3_37 hf
  refine ww_iinc (v := x3_37) (lv' := [(3, .int x3_37), (0, .ref (a0 0)), (1, .ref (a3 0)), (2, .int x2)]) C dX0_search_37 3 rfl (by rw [e_x3_37]; rfl) (by decide) rfl ?_
  refine ww_goto (tgt := 15) C dX0_search_40 (by decide) ?_
  refine ww_sub C (lv' := [(0, .ref (a0 0)), (1, .ref (a3 0)), (2, .int x2), (3, .int x3_37)]) [1, 2, 3, 0] rfl ?_
  exact hk15 _ _ _ _ hf

set_option maxHeartbeats 4000000 in
set_option maxRecDepth 100000 in
theorem w_X0_search_15 {E : Ex} {K : Kx} (C : Cx E K cX0_search 4 none RX0 wsX0_search rmX0_search) {a0 : Nat → Nat} {a1 : Nat → Nat} {a2 : Nat → Nat} {a3 : Nat → Nat} {v3 : HouseV} {x2 : Int32} {r : (BestV × HouseV × SightV)} : ∀ (n : Nat) (x3 : Int32) (v0 : BestV) (v1 : HouseV) (v2 : SightV), Best_search_15 v3 x2 n x3 v0 v1 v2 = some r → WW E K 0 0 (QQ E K (fun rv g => rv = none ∧ g = [wBest E a0 (rf2 (a1 0) (a2 0)) r.1, wHouse E a1 r.2.1, wSight E a2 r.2.2, wHouse E a3 v3]) 0 0) 15 [(0, .ref (a0 0)), (1, .ref (a3 0)), (2, .int x2), (3, .int x3)] [] [wBest E a0 (rf2 (a1 0) (a2 0)) v0, wHouse E a1 v1, wSight E a2 v2, wHouse E a3 v3] := by
  intro n
  induction n with
  | zero =>
    intro x3 v0 v1 v2 hf
    simp [Best_search_15] at hf
  | succ n ih =>
    intro x3 v0 v1 v2 hf
    rw [Best_search_15] at hf
    refine ww_iload_n C dX0_search_15 rfl 3 rfl ?_
    refine ww_iload_n C dX0_search_16 rfl 2 rfl ?_
    refine ww_icmp_ge (tgt := 43) C dX0_search_17 (by decide) (fun c_1 => ?_) (fun c_1 => ?_)
    · replace hf := ifT c_1 hf
      refine ww_aload_n C dX0_search_43 rfl 0 rfl ?_
      refine ww_aload_n C dX0_search_44 rfl 1 rfl ?_
      refine ww_get C clOK2 in_X0_search_X2 (w := wHouse E a3 v3) (fs := fsHouse a3 v3) (v := .int (House_walksStamp v3)) 3 0 5 rfl q_House (by decide) (by decide +kernel) g_House_walksStamp dX0_search_45 ?_
      obtain ⟨v0_48, e_v0_48⟩ : ∃ y : BestV, y = Best_set_stamp v0 (House_walksStamp v3) := ⟨_, rfl⟩
      replace hf := ltE e_v0_48 hf
      refine ww_put C clOK0 in_X0_search_X0 (w := wBest E a0 (rf2 (a1 0) (a2 0)) v0) (fs := fsBest a0 (rf2 (a1 0) (a2 0)) v0) (w' := wBest E a0 (rf2 (a1 0) (a2 0)) v0_48) (gs' := [wBest E a0 (rf2 (a1 0) (a2 0)) v0_48, wHouse E a1 v1, wSight E a2 v2, wHouse E a3 v3]) 0 0 3 rfl q_Best (by decide) (by decide +kernel) rfl rfl rfl rfl l_Best (by rw [e_v0_48]; exact p_Best_stamp) rfl dX0_search_48 ?_
      obtain rfl := Option.some.inj hf
      exact ww_vret C ⟨rfl, rfl⟩ dX0_search_51
    · replace hf := ifF c_1 hf
      refine ww_aload_n C dX0_search_20 rfl 0 rfl ?_
      refine ww_iload_n C dX0_search_21 rfl 3 rfl ?_
      refine ww_if_ne (tgt := 29) C dX0_search_22 (by decide) (fun c_2 => ?_) (fun c_2 => ?_)
      · replace hf := ifF c_2 hf
        refine ww_iconst (v := 0) C dX0_search_29 (by decide) ?_
        refine ww_sub C (lv' := [(0, .ref (a0 0)), (1, .ref (a3 0)), (2, .int x2), (3, .int x3)]) [0, 1, 2, 3] rfl ?_
        exact w_X0_search_30 C (k15 := (fun (x3 : Int32) (v0 : BestV) (v1 : HouseV) (v2 : SightV) => Best_search_15 v3 x2 n x3 v0 v1 v2)) ih hf
      · replace hf := ifT c_2 hf
        refine ww_iconst (v := 1) C dX0_search_25 (by decide) ?_
        refine ww_goto (tgt := 30) C dX0_search_26 (by decide) ?_
        refine ww_sub C (lv' := [(0, .ref (a0 0)), (1, .ref (a3 0)), (2, .int x2), (3, .int x3)]) [0, 1, 2, 3] rfl ?_
        exact w_X0_search_30 C (k15 := (fun (x3 : Int32) (v0 : BestV) (v1 : HouseV) (v2 : SightV) => Best_search_15 v3 x2 n x3 v0 v1 v2)) ih hf

set_option maxHeartbeats 4000000 in
set_option maxRecDepth 100000 in
theorem c_X0_search {E : Ex} {a0 : Nat → Nat} {a1 : Nat → Nat} {a2 : Nat → Nat} {a3 : Nat → Nat} {v0 : BestV} {v1 : HouseV} {v2 : SightV} {v3 : HouseV} {r : (BestV × HouseV × SightV)} (hf : Best_search v0 v1 v2 v3 = some r) : Ct E yX0_search wsX0_search rmX0_search [.ref (a0 0), .ref (a3 0)] [wBest E a0 (rf2 (a1 0) (a2 0)) v0, wHouse E a1 v1, wSight E a2 v2, wHouse E a3 v3] (fun rv g => rv = none ∧ g = [wBest E a0 (rf2 (a1 0) (a2 0)) r.1, wHouse E a1 r.2.1, wSight E a2 r.2.2, wHouse E a3 v3]) := by
  refine ct_of (own := RX0) (by decide +kernel) rfl rfl (Nat.le_of_ble_eq_true rfl) (fun K C => ?_)
  refine ww_sub C (lv' := [(0, .ref (a0 0)), (1, .ref (a3 0))]) [0, 1] rfl ?_
  rw [Best_search] at hf
  refine ww_aload_n C dX0_search_0 rfl 0 rfl ?_
  refine ww_get C clOK0 in_X0_search_X0 (w := wBest E a0 (rf2 (a1 0) (a2 0)) v0) (fs := fsBest a0 (rf2 (a1 0) (a2 0)) v0) (v := .ref (a1 0)) 0 0 5 rfl q_Best (by decide) (by decide +kernel) g_Best_trial dX0_search_1 ?_
  refine ww_aload_n C dX0_search_4 rfl 1 rfl ?_
  obtain ⟨p5, hp5, hf⟩ := bdE hf
  refine ww_callV C (As := [.ref (a3 0)]) (st := []) (gr := [wBest E a0 (rf2 (a1 0) (a2 0)) v0, wSight E a2 v2]) (c_X2_copyFrom (E := E) (a0 := a1) (a1 := a3) hp5) gX0_search_X2_copyFrom rfl yk_X2_copyFrom ⟨by decide, by decide⟩ ⟨by decide, by decide⟩ clOK2 0 0 rfl rfl [1, 3] [0, 2] 4 rfl (by decide) rfl rfl (Nat.le_of_ble_eq_true rfl) dX0_search_5 ?_
  rintro _ _ ⟨rfl, rfl⟩
  refine ww_perm (gs' := [wBest E a0 (rf2 (a1 0) (a2 0)) v0, wHouse E a1 p5, wSight E a2 v2, wHouse E a3 v3]) [2, 0, 3, 1] 4 rfl (by decide) rfl ?_
  refine ww_aload_n C dX0_search_8 rfl 0 rfl ?_
  obtain ⟨p9, hp9, hf⟩ := bdE hf
  refine ww_callV C (As := []) (st := []) (gr := [wSight E a2 v2, wHouse E a3 v3]) (c_X0_beginChoices (E := E) (a0 := a0) (h0_1 := a2 0) (a1 := a1) hp9) gX0_search_X0_beginChoices rfl yk_X0_beginChoices ⟨by decide, by decide⟩ ⟨by decide, by decide⟩ clOK0 0 0 rfl rfl [0, 1] [2, 3] 4 rfl (by decide) rfl rfl (Nat.le_of_ble_eq_true rfl) dX0_search_9 ?_
  rintro _ _ ⟨rfl, rfl⟩
  refine ww_perm (gs' := [wBest E a0 (rf2 (a1 0) (a2 0)) p9.2.1, wHouse E a1 p9.2.2, wSight E a2 v2, wHouse E a3 v3]) [0, 1, 2, 3] 4 rfl (by decide) rfl ?_
  refine ww_istore_n (lv' := [(2, .int p9.1), (0, .ref (a0 0)), (1, .ref (a3 0))]) C dX0_search_12 rfl (by decide) rfl ?_
  refine ww_iconst (v := 0) C dX0_search_13 (by decide) ?_
  refine ww_istore_n (lv' := [(3, .int 0), (2, .int p9.1), (0, .ref (a0 0)), (1, .ref (a3 0))]) C dX0_search_14 rfl (by decide) rfl ?_
  refine ww_sub C (lv' := [(0, .ref (a0 0)), (1, .ref (a3 0)), (2, .int p9.1), (3, .int 0)]) [2, 3, 1, 0] rfl ?_
  exact w_X0_search_15 C FU _ _ _ _ hf

theorem yk_X0_search : yX0_search.cls = RX0 ∧ yX0_search.cls ≠ "java/lang/invoke/MethodHandle" ∧ yX0_search.cls ≠ "java/lang/invoke/VarHandle" ∧ (parseMethodDescriptor yX0_search.desc).map (fun d => d.parameters.length) = some 1 := by decide +kernel
