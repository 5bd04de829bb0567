abbrev rmX1_record : Room := { frames := 2, cells := 0, slots := 0, locals := 61 }
set_option maxRecDepth 20000 in
theorem in_X1_record_X1 : ∀ w ∈ u_ws RX1 TX1 5, w ∈ wsX1_record := by decide +kernel
set_option maxHeartbeats 4000000 in
set_option maxRecDepth 100000 in
theorem w_X1_record_64 {E : Ex} {K : Kx} (C : Cx E K cX1_record 2 none RX1 wsX1_record rmX1_record) {a0 : Nat → Nat} {q1 : Nat} {ah1 : Nat → Nat → Nat} {a2 : Nat → Nat} {h0_1 : Nat} {v2 : HouseV}  {s0 : Int32} {v0 : HistV} {v1 : Nat → HouseV} {r : (HistV × (Nat → HouseV))} (hf : Hist_record_64 v2 s0 v0 v1 = some r) : WW E K 0 0 (QQ E K (fun rv g => rv = none ∧ g = [wHist E a0 (rf2 q1 h0_1) r.1, wHs E q1 ah1 r.2, wHouse E a2 v2]) 0 0) 64 [(0, .ref (a0 0))] [.int s0, .ref (a0 0)] [wHist E a0 (rf2 q1 h0_1) v0, wHs E q1 ah1 v1, wHouse E a2 v2] := by
  rw [Hist_record_64] at hf
  obtain ⟨v0_64, e_v0_64⟩ : ∃ y : HistV, y = Hist_set_next v0 s0 := ⟨_, rfl⟩
  replace hf := ltE e_v0_64 hf
  refine ww_put C clOK1 in_X1_record_X1 (w := wHist E a0 (rf2 q1 h0_1) v0) (fs := fsHist a0 (rf2 q1 h0_1) v0) (w' := wHist E a0 (rf2 q1 h0_1) v0_64) (gs' := [wHist E a0 (rf2 q1 h0_1) v0_64, wHs E q1 ah1 v1, wHouse E a2 v2]) 0 0 3 rfl q_Hist (by decide) (by decide +kernel) rfl rfl rfl rfl l_Hist (by rw [e_v0_64]; exact p_Hist_next) rfl dX1_record_64 ?_
  refine ww_aload_n C dX1_record_67 rfl 0 rfl ?_
  refine ww_aload_n C dX1_record_68 rfl 0 rfl ?_
  refine ww_get C clOK1 in_X1_record_X1 (w := wHist E a0 (rf2 q1 h0_1) v0_64) (fs := fsHist a0 (rf2 q1 h0_1) v0_64) (v := .int (Hist_count v0_64)) 0 0 4 rfl q_Hist (by decide) (by decide +kernel) g_Hist_count dX1_record_69 ?_
  refine ww_iconst (v := 1) C dX1_record_72 (by decide) ?_
  refine ww_iadd C dX1_record_73 ?_
  refine ww_bipush (v := 10) C dX1_record_74 (by decide) ?_
  refine ww_min C (by decide +kernel) (by decide +kernel) (by decide +kernel) (by decide +kernel) (by decide) (Nat.le_of_ble_eq_true rfl) (by decide) (by decide) dX1_record_76 ?_
  obtain ⟨v0_79, e_v0_79⟩ : ∃ y : HistV, y = Hist_set_count v0_64 (imin ((Hist_count v0_64) + 1) 10) := ⟨_, rfl⟩
  replace hf := ltE e_v0_79 hf
  refine ww_put C clOK1 in_X1_record_X1 (w := wHist E a0 (rf2 q1 h0_1) v0_64) (fs := fsHist a0 (rf2 q1 h0_1) v0_64) (w' := wHist E a0 (rf2 q1 h0_1) v0_79) (gs' := [wHist E a0 (rf2 q1 h0_1) v0_79, wHs E q1 ah1 v1, wHouse E a2 v2]) 0 0 4 rfl q_Hist (by decide) (by decide +kernel) rfl rfl rfl rfl l_Hist (by rw [e_v0_79]; exact p_Hist_count) rfl dX1_record_79 ?_
  obtain rfl := Option.some.inj hf
  exact ww_vret C ⟨rfl, rfl⟩ dX1_record_82

set_option maxHeartbeats 4000000 in
set_option maxRecDepth 100000 in
theorem c_X1_record {E : Ex} {a0 : Nat → Nat} {q1 : Nat} {ah1 : Nat → Nat → Nat} {a2 : Nat → Nat} {h0_1 : Nat} {v0 : HistV} {v1 : Nat → HouseV} {v2 : HouseV} {r : (HistV × (Nat → HouseV))} (hf : Hist_record v0 v1 v2 = some r) : Ct E yX1_record wsX1_record rmX1_record [.ref (a0 0), .ref (a2 0)] [wHist E a0 (rf2 q1 h0_1) v0, wHs E q1 ah1 v1, wHouse E a2 v2] (fun rv g => rv = none ∧ g = [wHist E a0 (rf2 q1 h0_1) r.1, wHs E q1 ah1 r.2, wHouse E a2 v2]) := by
  refine ct_of (own := RX1) (by decide +kernel) rfl rfl (Nat.le_of_ble_eq_true rfl) (fun K C => ?_)
  refine ww_sub C (lv' := [(0, .ref (a0 0)), (1, .ref (a2 0))]) [0, 1] rfl ?_
  rw [Hist_record] at hf
  refine ww_aload_n C dX1_record_0 rfl 0 rfl ?_
  refine ww_get C clOK1 in_X1_record_X1 (w := wHist E a0 (rf2 q1 h0_1) v0) (fs := fsHist a0 (rf2 q1 h0_1) v0) (v := .int (Hist_next v0)) 0 0 3 rfl q_Hist (by decide) (by decide +kernel) g_Hist_next dX1_record_1 ?_
  refine ww_if_lt (tgt := 28) C dX1_record_4 (by decide) (fun c_1 => ?_) (fun c_1 => ?_)
  · replace hf := ifT c_1 hf
    obtain rfl := Option.some.inj hf
    exact ww_vret C ⟨rfl, rfl⟩ dX1_record_28
  · replace hf := ifF c_1 hf
    refine ww_aload_n C dX1_record_7 rfl 0 rfl ?_
    refine ww_get C clOK1 in_X1_record_X1 (w := wHist E a0 (rf2 q1 h0_1) v0) (fs := fsHist a0 (rf2 q1 h0_1) v0) (v := .int (Hist_next v0)) 0 0 3 rfl q_Hist (by decide) (by decide +kernel) g_Hist_next dX1_record_8 ?_
    refine ww_bipush (v := 10) C dX1_record_11 (by decide) ?_
    refine ww_icmp_ge (tgt := 28) C dX1_record_13 (by decide) (fun c_2 => ?_) (fun c_2 => ?_)
    · replace hf := ifT c_2 hf
      obtain rfl := Option.some.inj hf
      exact ww_vret C ⟨rfl, rfl⟩ dX1_record_28
    · replace hf := ifF c_2 hf
      refine ww_aload_n C dX1_record_16 rfl 0 rfl ?_
      refine ww_get C clOK1 in_X1_record_X1 (w := wHist E a0 (rf2 q1 h0_1) v0) (fs := fsHist a0 (rf2 q1 h0_1) v0) (v := .ref q1) 0 0 0 rfl q_Hist (by decide) (by decide +kernel) g_Hist_earlier dX1_record_17 ?_
      refine ww_aload_n C dX1_record_20 rfl 0 rfl ?_
      refine ww_get C clOK1 in_X1_record_X1 (w := wHist E a0 (rf2 q1 h0_1) v0) (fs := fsHist a0 (rf2 q1 h0_1) v0) (v := .int (Hist_next v0)) 0 0 3 rfl q_Hist (by decide) (by decide +kernel) g_Hist_next dX1_record_21 ?_
      obtain ⟨g_3, hf⟩ := gdE hf
      refine ww_aldH C (f := hsF ah1) (w := wHs E q1 ah1 v1) 1 0 rfl q_Hs (inB_vp g_3) rfl dX1_record_24 ?_
      refine ww_nonnull (tgt := 29) C dX1_record_25 (by decide) ?_
      refine ww_aload_n C dX1_record_29 rfl 0 rfl ?_
      refine ww_get C clOK1 in_X1_record_X1 (w := wHist E a0 (rf2 q1 h0_1) v0) (fs := fsHist a0 (rf2 q1 h0_1) v0) (v := .ref q1) 0 0 0 rfl q_Hist (by decide) (by decide +kernel) g_Hist_earlier dX1_record_30 ?_
      refine ww_aload_n C dX1_record_33 rfl 0 rfl ?_
      refine ww_get C clOK1 in_X1_record_X1 (w := wHist E a0 (rf2 q1 h0_1) v0) (fs := fsHist a0 (rf2 q1 h0_1) v0) (v := .int (Hist_next v0)) 0 0 3 rfl q_Hist (by decide) (by decide +kernel) g_Hist_next dX1_record_34 ?_
      refine ww_aldH C (f := hsF ah1) (w := wHs E q1 ah1 v1) 1 0 rfl q_Hs (inB_vp g_3) rfl dX1_record_37 ?_
      refine ww_aload_n C dX1_record_38 rfl 1 rfl ?_
      obtain ⟨p39, hp39, hf⟩ := bdE hf
      obtain ⟨v1_39, e_v1_39⟩ : ∃ y : Nat → HouseV, y = updH v1 (Int32.toNatClampNeg (Hist_next v0)) p39 := ⟨_, rfl⟩
      replace hf := ltE e_v1_39 hf
      refine ww_regr (gs' := [wHist E a0 (rf2 q1 h0_1) v0, wHsA E q1 ah1 v1 (Int32.toNatClampNeg (Hist_next v0)), wHouse E (ah1 (Int32.toNatClampNeg (Hist_next v0))) (v1 (Int32.toNatClampNeg (Hist_next v0))), wHsB E ah1 v1 (Int32.toNatClampNeg (Hist_next v0)), wHouse E a2 v2]) (by rw [hs_cut g_3]; simp only [List.flatten_cons, List.flatten_nil, List.append_assoc]) ?_
      refine ww_callV C (As := [.ref (a2 0)]) (st := []) (gr := [wHist E a0 (rf2 q1 h0_1) v0, wHsA E q1 ah1 v1 (Int32.toNatClampNeg (Hist_next v0)), wHsB E ah1 v1 (Int32.toNatClampNeg (Hist_next v0))]) (c_X2_copyFrom (E := E) (a0 := ah1 (Int32.toNatClampNeg (Hist_next v0))) (a1 := a2) hp39) gX1_record_X2_copyFrom rfl yk_X2_copyFrom ⟨by decide, by decide⟩ ⟨by decide, by decide⟩ clOK2 0 0 rfl rfl [2, 4] [0, 1, 3] 5 rfl (by decide) rfl rfl (Nat.le_of_ble_eq_true rfl) dX1_record_39 ?_
      rintro _ _ ⟨rfl, rfl⟩
      refine ww_perm (gs' := [wHist E a0 (rf2 q1 h0_1) v0, wHsA E q1 ah1 v1 (Int32.toNatClampNeg (Hist_next v0)), wHouse E (ah1 (Int32.toNatClampNeg (Hist_next v0))) p39, wHsB E ah1 v1 (Int32.toNatClampNeg (Hist_next v0)), wHouse E a2 v2]) [2, 3, 0, 4, 1] 5 rfl (by decide) rfl ?_
      refine ww_regr (gs' := [wHist E a0 (rf2 q1 h0_1) v0, wHs E q1 ah1 v1_39, wHouse E a2 v2]) (by rw [e_v1_39, hs_join g_3]; simp only [List.flatten_cons, List.flatten_nil, List.append_assoc]) ?_
      refine ww_aload_n C dX1_record_42 rfl 0 rfl ?_
      refine ww_aload_n C dX1_record_43 rfl 0 rfl ?_
      refine ww_get C clOK1 in_X1_record_X1 (w := wHist E a0 (rf2 q1 h0_1) v0) (fs := fsHist a0 (rf2 q1 h0_1) v0) (v := .int (Hist_next v0)) 0 0 3 rfl q_Hist (by decide) (by decide +kernel) g_Hist_next dX1_record_44 ?_
      refine ww_iconst (v := 1) C dX1_record_47 (by decide) ?_
      refine ww_iadd C dX1_record_48 ?_
      refine ww_bipush (v := 10) C dX1_record_49 (by decide) ?_
      refine ww_icmp_ge (tgt := 63) C dX1_record_51 (by decide) (fun c_4 => ?_) (fun c_4 => ?_)
      · replace hf := ifT c_4 hf
        refine ww_iconst (v := 0) C dX1_record_63 (by decide) ?_
        refine ww_sub C (lv' := [(0, .ref (a0 0))]) [0] rfl ?_
        exact w_X1_record_64 C hf
      · replace hf := ifF c_4 hf
        refine ww_aload_n C dX1_record_54 rfl 0 rfl ?_
        refine ww_get C clOK1 in_X1_record_X1 (w := wHist E a0 (rf2 q1 h0_1) v0) (fs := fsHist a0 (rf2 q1 h0_1) v0) (v := .int (Hist_next v0)) 0 0 3 rfl q_Hist (by decide) (by decide +kernel) g_Hist_next dX1_record_55 ?_
        refine ww_iconst (v := 1) C dX1_record_58 (by decide) ?_
        refine ww_iadd C dX1_record_59 ?_
        refine ww_goto (tgt := 64) C dX1_record_60 (by decide) ?_
        refine ww_sub C (lv' := [(0, .ref (a0 0))]) [0] rfl ?_
        exact w_X1_record_64 C hf

theorem yk_X1_record : yX1_record.cls = RX1 ∧ yX1_record.cls ≠ "java/lang/invoke/MethodHandle" ∧ yX1_record.cls ≠ "java/lang/invoke/VarHandle" ∧ (parseMethodDescriptor yX1_record.desc).map (fun d => d.parameters.length) = some 1 := by decide +kernel
abbrev rmX1_takeBack : Room := { frames := 2, cells := 0, slots := 0, locals := 61 }
set_option maxRecDepth 20000 in
theorem in_X1_takeBack_X1 : ∀ w ∈ u_ws RX1 TX1 5, w ∈ wsX1_takeBack := by decide +kernel
set_option maxHeartbeats 4000000 in
set_option maxRecDepth 100000 in
theorem w_X1_takeBack_18 {E : Ex} {K : Kx} (C : Cx E K cX1_takeBack 3 (some .boolean) RX1 wsX1_takeBack rmX1_takeBack) {a0 : Nat → Nat} {q1 : Nat} {ah1 : Nat → Nat → Nat} {a2 : Nat → Nat} {h0_1 : Nat} {v1 : Nat → HouseV}  {s0 : Int32} {v0 : HistV} {v2 : HouseV} {r : (Bool × HistV × HouseV)} (hf : Hist_takeBack_18 v1 s0 v0 v2 = some r) : WW E K 0 0 (QQ E K (fun rv g => rv = some (.int (b2i r.1)) ∧ g = [wHist E a0 (rf2 q1 h0_1) r.2.1, wHs E q1 ah1 v1, wHouse E a2 r.2.2]) 0 0) 18 [(0, .ref (a0 0)), (1, .ref (a2 0))] [.int s0] [wHist E a0 (rf2 q1 h0_1) v0, wHs E q1 ah1 v1, wHouse E a2 v2] := by
  rw [Hist_takeBack_18] at hf
  refine ww_istore_n (lv' := [(2, .int s0), (0, .ref (a0 0)), (1, .ref (a2 0))]) C dX1_takeBack_18 rfl (by decide) rfl ?_
  refine ww_aload_n C dX1_takeBack_19 rfl 1 rfl ?_
  refine ww_get C clOK1 in_X1_takeBack_X1 (w := wHist E a0 (rf2 q1 h0_1) v0) (fs := fsHist a0 (rf2 q1 h0_1) v0) (v := .int (Hist_count v0)) 0 0 4 rfl q_Hist (by decide) (by decide +kernel) g_Hist_count dX1_takeBack_20 ?_
  refine ww_if_eq (tgt := 41) C dX1_takeBack_23 (by decide) (fun c_2 => ?_) (fun c_2 => ?_)
  · replace hf := ifT c_2 hf
    refine ww_iconst (v := 0) C dX1_takeBack_41 (by decide) ?_
    obtain rfl := Option.some.inj hf
    exact ww_zret C (nar_b false) ⟨rfl, rfl⟩ dX1_takeBack_42
  · replace hf := ifF c_2 hf
    refine ww_iload_n C dX1_takeBack_26 rfl 0 rfl ?_
    refine ww_bipush (v := 10) C dX1_takeBack_27 (by decide) ?_
    refine ww_icmp_ge (tgt := 41) C dX1_takeBack_29 (by decide) (fun c_3 => ?_) (fun c_3 => ?_)
    · replace hf := ifT c_3 hf
      refine ww_iconst (v := 0) C dX1_takeBack_41 (by decide) ?_
      obtain rfl := Option.some.inj hf
      exact ww_zret C (nar_b false) ⟨rfl, rfl⟩ dX1_takeBack_42
    · replace hf := ifF c_3 hf
      refine ww_aload_n C dX1_takeBack_32 rfl 1 rfl ?_
      refine ww_get C clOK1 in_X1_takeBack_X1 (w := wHist E a0 (rf2 q1 h0_1) v0) (fs := fsHist a0 (rf2 q1 h0_1) v0) (v := .ref q1) 0 0 0 rfl q_Hist (by decide) (by decide +kernel) g_Hist_earlier dX1_takeBack_33 ?_
      refine ww_iload_n C dX1_takeBack_36 rfl 0 rfl ?_
      obtain ⟨g_4, hf⟩ := gdE hf
      refine ww_aldH C (f := hsF ah1) (w := wHs E q1 ah1 v1) 1 0 rfl q_Hs (inB_vp g_4) rfl dX1_takeBack_37 ?_
      refine ww_nonnull (tgt := 43) C dX1_takeBack_38 (by decide) ?_
      refine ww_aload_n C dX1_takeBack_43 rfl 2 rfl ?_
      refine ww_aload_n C dX1_takeBack_44 rfl 1 rfl ?_
      refine ww_get C clOK1 in_X1_takeBack_X1 (w := wHist E a0 (rf2 q1 h0_1) v0) (fs := fsHist a0 (rf2 q1 h0_1) v0) (v := .ref q1) 0 0 0 rfl q_Hist (by decide) (by decide +kernel) g_Hist_earlier dX1_takeBack_45 ?_
      refine ww_iload_n C dX1_takeBack_48 rfl 0 rfl ?_
      refine ww_aldH C (f := hsF ah1) (w := wHs E q1 ah1 v1) 1 0 rfl q_Hs (inB_vp g_4) rfl dX1_takeBack_49 ?_
      obtain ⟨p50, hp50, hf⟩ := bdE hf
      refine ww_regr (gs' := [wHist E a0 (rf2 q1 h0_1) v0, wHsA E q1 ah1 v1 (Int32.toNatClampNeg s0), wHouse E (ah1 (Int32.toNatClampNeg s0)) (v1 (Int32.toNatClampNeg s0)), wHsB E ah1 v1 (Int32.toNatClampNeg s0), wHouse E a2 v2]) (by rw [hs_cut g_4]; simp only [List.flatten_cons, List.flatten_nil, List.append_assoc]) ?_
      refine ww_callV C (As := [.ref (ah1 (Int32.toNatClampNeg s0) 0)]) (st := []) (gr := [wHist E a0 (rf2 q1 h0_1) v0, wHsA E q1 ah1 v1 (Int32.toNatClampNeg s0), wHsB E ah1 v1 (Int32.toNatClampNeg s0)]) (c_X2_copyFrom (E := E) (a0 := a2) (a1 := ah1 (Int32.toNatClampNeg s0)) hp50) gX1_takeBack_X2_copyFrom rfl yk_X2_copyFrom ⟨by decide, by decide⟩ ⟨by decide, by decide⟩ clOK2 0 0 rfl rfl [4, 2] [0, 1, 3] 5 rfl (by decide) rfl rfl (Nat.le_of_ble_eq_true rfl) dX1_takeBack_50 ?_
      rintro _ _ ⟨rfl, rfl⟩
      refine ww_perm (gs' := [wHist E a0 (rf2 q1 h0_1) v0, wHsA E q1 ah1 v1 (Int32.toNatClampNeg s0), wHouse E (ah1 (Int32.toNatClampNeg s0)) (v1 (Int32.toNatClampNeg s0)), wHsB E ah1 v1 (Int32.toNatClampNeg s0), wHouse E a2 p50]) [2, 3, 1, 4, 0] 5 rfl (by decide) rfl ?_
      refine ww_regr (gs' := [wHist E a0 (rf2 q1 h0_1) v0, wHs E q1 ah1 v1, wHouse E a2 p50]) (by rw [hs_cut g_4]; simp only [List.flatten_cons, List.flatten_nil, List.append_assoc]) ?_
      refine ww_aload_n C dX1_takeBack_53 rfl 1 rfl ?_
      refine ww_iload_n C dX1_takeBack_54 rfl 0 rfl ?_
      obtain ⟨v0_55, e_v0_55⟩ : ∃ y : HistV, y = Hist_set_next v0 s0 := ⟨_, rfl⟩
      replace hf := ltE e_v0_55 hf
      refine ww_put C clOK1 in_X1_takeBack_X1 (w := wHist E a0 (rf2 q1 h0_1) v0) (fs := fsHist a0 (rf2 q1 h0_1) v0) (w' := wHist E a0 (rf2 q1 h0_1) v0_55) (gs' := [wHist E a0 (rf2 q1 h0_1) v0_55, wHs E q1 ah1 v1, wHouse E a2 p50]) 0 0 3 rfl q_Hist (by decide) (by decide +kernel) rfl rfl rfl rfl l_Hist (by rw [e_v0_55]; exact p_Hist_next) rfl dX1_takeBack_55 ?_
      refine ww_aload_n C dX1_takeBack_58 rfl 1 rfl ?_
      refine ww_dup C dX1_takeBack_59 rfl ?_
      refine ww_get C clOK1 in_X1_takeBack_X1 (w := wHist E a0 (rf2 q1 h0_1) v0_55) (fs := fsHist a0 (rf2 q1 h0_1) v0_55) (v := .int (Hist_count v0_55)) 0 0 4 rfl q_Hist (by decide) (by decide +kernel) g_Hist_count dX1_takeBack_60 ?_
      refine ww_iconst (v := 1) C dX1_takeBack_63 (by decide) ?_
      refine ww_isub C dX1_takeBack_64 ?_
      obtain ⟨v0_65, e_v0_65⟩ : ∃ y : HistV, y = Hist_set_count v0_55 ((Hist_count v0_55) - 1) := ⟨_, rfl⟩
      replace hf := ltE e_v0_65 hf
      refine ww_put C clOK1 in_X1_takeBack_X1 (w := wHist E a0 (rf2 q1 h0_1) v0_55) (fs := fsHist a0 (rf2 q1 h0_1) v0_55) (w' := wHist E a0 (rf2 q1 h0_1) v0_65) (gs' := [wHist E a0 (rf2 q1 h0_1) v0_65, wHs E q1 ah1 v1, wHouse E a2 p50]) 0 0 4 rfl q_Hist (by decide) (by decide +kernel) rfl rfl rfl rfl l_Hist (by rw [e_v0_65]; exact p_Hist_count) rfl dX1_takeBack_65 ?_
      refine ww_iconst (v := 1) C dX1_takeBack_68 (by decide) ?_
      obtain rfl := Option.some.inj hf
      exact ww_zret C (nar_b true) ⟨rfl, rfl⟩ dX1_takeBack_69

set_option maxHeartbeats 4000000 in
set_option maxRecDepth 100000 in
theorem c_X1_takeBack {E : Ex} {a0 : Nat → Nat} {q1 : Nat} {ah1 : Nat → Nat → Nat} {a2 : Nat → Nat} {h0_1 : Nat} {v0 : HistV} {v1 : Nat → HouseV} {v2 : HouseV} {r : (Bool × HistV × HouseV)} (hf : Hist_takeBack v0 v1 v2 = some r) : Ct E yX1_takeBack wsX1_takeBack rmX1_takeBack [.ref (a0 0), .ref (a2 0)] [wHist E a0 (rf2 q1 h0_1) v0, wHs E q1 ah1 v1, wHouse E a2 v2] (fun rv g => rv = some (.int (b2i r.1)) ∧ g = [wHist E a0 (rf2 q1 h0_1) r.2.1, wHs E q1 ah1 v1, wHouse E a2 r.2.2]) := by
  refine ct_of (own := RX1) (by decide +kernel) rfl rfl (Nat.le_of_ble_eq_true rfl) (fun K C => ?_)
  refine ww_sub C (lv' := [(0, .ref (a0 0)), (1, .ref (a2 0))]) [0, 1] rfl ?_
  rw [Hist_takeBack] at hf
  refine ww_aload_n C dX1_takeBack_0 rfl 0 rfl ?_
  refine ww_get C clOK1 in_X1_takeBack_X1 (w := wHist E a0 (rf2 q1 h0_1) v0) (fs := fsHist a0 (rf2 q1 h0_1) v0) (v := .int (Hist_next v0)) 0 0 3 rfl q_Hist (by decide) (by decide +kernel) g_Hist_next dX1_takeBack_1 ?_
  refine ww_if_le (tgt := 16) C dX1_takeBack_4 (by decide) (fun c_1 => ?_) (fun c_1 => ?_)
  · replace hf := ifT c_1 hf
    refine ww_bipush (v := 9) C dX1_takeBack_16 (by decide) ?_
    refine ww_sub C (lv' := [(0, .ref (a0 0)), (1, .ref (a2 0))]) [0, 1] rfl ?_
    exact w_X1_takeBack_18 C hf
  · replace hf := ifF c_1 hf
    refine ww_aload_n C dX1_takeBack_7 rfl 0 rfl ?_
    refine ww_get C clOK1 in_X1_takeBack_X1 (w := wHist E a0 (rf2 q1 h0_1) v0) (fs := fsHist a0 (rf2 q1 h0_1) v0) (v := .int (Hist_next v0)) 0 0 3 rfl q_Hist (by decide) (by decide +kernel) g_Hist_next dX1_takeBack_8 ?_
    refine ww_iconst (v := 1) C dX1_takeBack_11 (by decide) ?_
    refine ww_isub C dX1_takeBack_12 ?_
    refine ww_goto (tgt := 18) C dX1_takeBack_13 (by decide) ?_
    refine ww_sub C (lv' := [(0, .ref (a0 0)), (1, .ref (a2 0))]) [0, 1] rfl ?_
    exact w_X1_takeBack_18 C hf

theorem yk_X1_takeBack : yX1_takeBack.cls = RX1 ∧ yX1_takeBack.cls ≠ "java/lang/invoke/MethodHandle" ∧ yX1_takeBack.cls ≠ "java/lang/invoke/VarHandle" ∧ (parseMethodDescriptor yX1_takeBack.desc).map (fun d => d.parameters.length) = some 1 := by decide +kernel
abbrev rmX1_keepSnapshot : Room := { frames := 2, cells := 0, slots := 0, locals := 61 }
set_option maxRecDepth 20000 in
theorem in_X1_keepSnapshot_X1 : ∀ w ∈ u_ws RX1 TX1 5, w ∈ wsX1_keepSnapshot := by decide +kernel
set_option maxHeartbeats 4000000 in
set_option maxRecDepth 100000 in
theorem c_X1_keepSnapshot {E : Ex} {a0 : Nat → Nat} {a1 : Nat → Nat} {a2 : Nat → Nat} {h0_0 : Nat} {v0 : HistV} {v1 : HouseV} {v2 : HouseV} {r : (HistV × HouseV)} (hf : Hist_keepSnapshot v0 v1 v2 = some r) : Ct E yX1_keepSnapshot wsX1_keepSnapshot rmX1_keepSnapshot [.ref (a0 0), .ref (a2 0)] [wHist E a0 (rf2 h0_0 (a1 0)) v0, wHouse E a1 v1, wHouse E a2 v2] (fun rv g => rv = none ∧ g = [wHist E a0 (rf2 h0_0 (a1 0)) r.1, wHouse E a1 r.2, wHouse E a2 v2]) := by
  refine ct_of (own := RX1) (by decide +kernel) rfl rfl (Nat.le_of_ble_eq_true rfl) (fun K C => ?_)
  refine ww_sub C (lv' := [(0, .ref (a0 0)), (1, .ref (a2 0))]) [0, 1] rfl ?_
  rw [Hist_keepSnapshot] at hf
  refine ww_aload_n C dX1_keepSnapshot_0 rfl 0 rfl ?_
  refine ww_get C clOK1 in_X1_keepSnapshot_X1 (w := wHist E a0 (rf2 h0_0 (a1 0)) v0) (fs := fsHist a0 (rf2 h0_0 (a1 0)) v0) (v := .ref (a1 0)) 0 0 1 rfl q_Hist (by decide) (by decide +kernel) g_Hist_snapshot dX1_keepSnapshot_1 ?_
  refine ww_aload_n C dX1_keepSnapshot_4 rfl 1 rfl ?_
  obtain ⟨p5, hp5, hf⟩ := bdE hf
  refine ww_callV C (As := [.ref (a2 0)]) (st := []) (gr := [wHist E a0 (rf2 h0_0 (a1 0)) v0]) (c_X2_copyFrom (E := E) (a0 := a1) (a1 := a2) hp5) gX1_keepSnapshot_X2_copyFrom rfl yk_X2_copyFrom ⟨by decide, by decide⟩ ⟨by decide, by decide⟩ clOK2 0 0 rfl rfl [1, 2] [0] 3 rfl (by decide) rfl rfl (Nat.le_of_ble_eq_true rfl) dX1_keepSnapshot_5 ?_
  rintro _ _ ⟨rfl, rfl⟩
  refine ww_perm (gs' := [wHist E a0 (rf2 h0_0 (a1 0)) v0, wHouse E a1 p5, wHouse E a2 v2]) [2, 0, 1] 3 rfl (by decide) rfl ?_
  refine ww_aload_n C dX1_keepSnapshot_8 rfl 0 rfl ?_
  refine ww_iconst (v := 1) C dX1_keepSnapshot_9 (by decide) ?_
  obtain ⟨v0_10, e_v0_10⟩ : ∃ y : HistV, y = Hist_set_saved v0 true := ⟨_, rfl⟩
  replace hf := ltE e_v0_10 hf
  refine ww_put C clOK1 in_X1_keepSnapshot_X1 (v := .int (b2i true)) (w := wHist E a0 (rf2 h0_0 (a1 0)) v0) (fs := fsHist a0 (rf2 h0_0 (a1 0)) v0) (w' := wHist E a0 (rf2 h0_0 (a1 0)) v0_10) (gs' := [wHist E a0 (rf2 h0_0 (a1 0)) v0_10, wHouse E a1 p5, wHouse E a2 v2]) 0 0 2 rfl q_Hist (by decide) (by decide +kernel) rfl rfl (nar_b _) (fits_b _) l_Hist (by rw [e_v0_10]; exact p_Hist_saved) rfl dX1_keepSnapshot_10 ?_
  obtain rfl := Option.some.inj hf
  exact ww_vret C ⟨rfl, rfl⟩ dX1_keepSnapshot_13

theorem yk_X1_keepSnapshot : yX1_keepSnapshot.cls = RX1 ∧ yX1_keepSnapshot.cls ≠ "java/lang/invoke/MethodHandle" ∧ yX1_keepSnapshot.cls ≠ "java/lang/invoke/VarHandle" ∧ (parseMethodDescriptor yX1_keepSnapshot.desc).map (fun d => d.parameters.length) = some 1 := by decide +kernel
abbrev rmX1_bringSnapshot : Room := { frames := 2, cells := 0, slots := 0, locals := 61 }
set_option maxRecDepth 20000 in
theorem in_X1_bringSnapshot_X1 : ∀ w ∈ u_ws RX1 TX1 5, w ∈ wsX1_bringSnapshot := by decide +kernel
set_option maxHeartbeats 4000000 in
set_option maxRecDepth 100000 in
theorem c_X1_bringSnapshot {E : Ex} {a0 : Nat → Nat} {a1 : Nat → Nat} {a2 : Nat → Nat} {h0_0 : Nat} {v0 : HistV} {v1 : HouseV} {v2 : HouseV} {r : (Bool × HistV × HouseV)} (hf : Hist_bringSnapshot v0 v1 v2 = some r) : Ct E yX1_bringSnapshot wsX1_bringSnapshot rmX1_bringSnapshot [.ref (a0 0), .ref (a2 0)] [wHist E a0 (rf2 h0_0 (a1 0)) v0, wHouse E a1 v1, wHouse E a2 v2] (fun rv g => rv = some (.int (b2i r.1)) ∧ g = [wHist E a0 (rf2 h0_0 (a1 0)) r.2.1, wHouse E a1 v1, wHouse E a2 r.2.2]) := by
  refine ct_of (own := RX1) (by decide +kernel) rfl rfl (Nat.le_of_ble_eq_true rfl) (fun K C => ?_)
  refine ww_sub C (lv' := [(0, .ref (a0 0)), (1, .ref (a2 0))]) [0, 1] rfl ?_
  rw [Hist_bringSnapshot] at hf
  refine ww_aload_n C dX1_bringSnapshot_0 rfl 0 rfl ?_
  refine ww_get C clOK1 in_X1_bringSnapshot_X1 (w := wHist E a0 (rf2 h0_0 (a1 0)) v0) (fs := fsHist a0 (rf2 h0_0 (a1 0)) v0) (v := .int (b2i (Hist_saved v0))) 0 0 2 rfl q_Hist (by decide) (by decide +kernel) g_Hist_saved dX1_bringSnapshot_1 ?_
  refine ww_if_neB (tgt := 9) C dX1_bringSnapshot_4 (by decide) (fun c_1 => ?_) (fun c_1 => ?_)
  · replace hf := btE c_1 hf
    refine ww_aload_n C dX1_bringSnapshot_9 rfl 1 rfl ?_
    refine ww_aload_n C dX1_bringSnapshot_10 rfl 0 rfl ?_
    refine ww_get C clOK1 in_X1_bringSnapshot_X1 (w := wHist E a0 (rf2 h0_0 (a1 0)) v0) (fs := fsHist a0 (rf2 h0_0 (a1 0)) v0) (v := .ref (a1 0)) 0 0 1 rfl q_Hist (by decide) (by decide +kernel) g_Hist_snapshot dX1_bringSnapshot_11 ?_
    obtain ⟨p14, hp14, hf⟩ := bdE hf
    refine ww_callV C (As := [.ref (a1 0)]) (st := []) (gr := [wHist E a0 (rf2 h0_0 (a1 0)) v0]) (c_X2_copyFrom (E := E) (a0 := a2) (a1 := a1) hp14) gX1_bringSnapshot_X2_copyFrom rfl yk_X2_copyFrom ⟨by decide, by decide⟩ ⟨by decide, by decide⟩ clOK2 0 0 rfl rfl [2, 1] [0] 3 rfl (by decide) rfl rfl (Nat.le_of_ble_eq_true rfl) dX1_bringSnapshot_14 ?_
    rintro _ _ ⟨rfl, rfl⟩
    refine ww_perm (gs' := [wHist E a0 (rf2 h0_0 (a1 0)) v0, wHouse E a1 v1, wHouse E a2 p14]) [2, 1, 0] 3 rfl (by decide) rfl ?_
    refine ww_aload_n C dX1_bringSnapshot_17 rfl 0 rfl ?_
    refine ww_iconst (v := 0) C dX1_bringSnapshot_18 (by decide) ?_
    obtain ⟨v0_19, e_v0_19⟩ : ∃ y : HistV, y = Hist_set_count v0 0 := ⟨_, rfl⟩
    replace hf := ltE e_v0_19 hf
    refine ww_put C clOK1 in_X1_bringSnapshot_X1 (w := wHist E a0 (rf2 h0_0 (a1 0)) v0) (fs := fsHist a0 (rf2 h0_0 (a1 0)) v0) (w' := wHist E a0 (rf2 h0_0 (a1 0)) v0_19) (gs' := [wHist E a0 (rf2 h0_0 (a1 0)) v0_19, wHouse E a1 v1, wHouse E a2 p14]) 0 0 4 rfl q_Hist (by decide) (by decide +kernel) rfl rfl rfl rfl l_Hist (by rw [e_v0_19]; exact p_Hist_count) rfl dX1_bringSnapshot_19 ?_
    refine ww_iconst (v := 1) C dX1_bringSnapshot_22 (by decide) ?_
    obtain rfl := Option.some.inj hf
    exact ww_zret C (nar_b true) ⟨rfl, rfl⟩ dX1_bringSnapshot_23
  · replace hf := bfE c_1 hf
    refine ww_iconst (v := 0) C dX1_bringSnapshot_7 (by decide) ?_
    obtain rfl := Option.some.inj hf
    exact ww_zret C (nar_b false) ⟨rfl, rfl⟩ dX1_bringSnapshot_8

theorem yk_X1_bringSnapshot : yX1_bringSnapshot.cls = RX1 ∧ yX1_bringSnapshot.cls ≠ "java/lang/invoke/MethodHandle" ∧ yX1_bringSnapshot.cls ≠ "java/lang/invoke/VarHandle" ∧ (parseMethodDescriptor yX1_bringSnapshot.desc).map (fun d => d.parameters.length) = some 1 := by decide +kernel
abbrev rmX1_forget : Room := { frames := 0, cells := 0, slots := 0, locals := 0 }
set_option maxRecDepth 20000 in
theorem in_X1_forget_X1 : ∀ w ∈ u_ws RX1 TX1 5, w ∈ wsX1_forget := by decide +kernel
set_option maxHeartbeats 4000000 in
set_option maxRecDepth 100000 in
theorem c_X1_forget {E : Ex} {a0 : Nat → Nat} {h0_0 h0_1 : Nat} {v0 : HistV} {r : HistV} (hf : Hist_forget v0 = some r) : Ct E yX1_forget wsX1_forget rmX1_forget [.ref (a0 0)] [wHist E a0 (rf2 h0_0 h0_1) v0] (fun rv g => rv = none ∧ g = [wHist E a0 (rf2 h0_0 h0_1) r]) := by
  refine ct_of (own := RX1) (by decide +kernel) rfl rfl (Nat.le_of_ble_eq_true rfl) (fun K C => ?_)
  refine ww_sub C (lv' := [(0, .ref (a0 0))]) [0] rfl ?_
  rw [Hist_forget] at hf
  refine ww_aload_n C dX1_forget_0 rfl 0 rfl ?_
  refine ww_iconst (v := 0) C dX1_forget_1 (by decide) ?_
  obtain ⟨v0_2, e_v0_2⟩ : ∃ y : HistV, y = Hist_set_count v0 0 := ⟨_, rfl⟩
  replace hf := ltE e_v0_2 hf
  refine ww_put C clOK1 in_X1_forget_X1 (w := wHist E a0 (rf2 h0_0 h0_1) v0) (fs := fsHist a0 (rf2 h0_0 h0_1) v0) (w' := wHist E a0 (rf2 h0_0 h0_1) v0_2) (gs' := [wHist E a0 (rf2 h0_0 h0_1) v0_2]) 0 0 4 rfl q_Hist (by decide) (by decide +kernel) rfl rfl rfl rfl l_Hist (by rw [e_v0_2]; exact p_Hist_count) rfl dX1_forget_2 ?_
  refine ww_aload_n C dX1_forget_5 rfl 0 rfl ?_
  refine ww_iconst (v := 0) C dX1_forget_6 (by decide) ?_
  obtain ⟨v0_7, e_v0_7⟩ : ∃ y : HistV, y = Hist_set_saved v0_2 false := ⟨_, rfl⟩
  replace hf := ltE e_v0_7 hf
  refine ww_put C clOK1 in_X1_forget_X1 (v := .int (b2i false)) (w := wHist E a0 (rf2 h0_0 h0_1) v0_2) (fs := fsHist a0 (rf2 h0_0 h0_1) v0_2) (w' := wHist E a0 (rf2 h0_0 h0_1) v0_7) (gs' := [wHist E a0 (rf2 h0_0 h0_1) v0_7]) 0 0 2 rfl q_Hist (by decide) (by decide +kernel) rfl rfl (nar_b _) (fits_b _) l_Hist (by rw [e_v0_7]; exact p_Hist_saved) rfl dX1_forget_7 ?_
  obtain rfl := Option.some.inj hf
  exact ww_vret C ⟨rfl, rfl⟩ dX1_forget_10

theorem yk_X1_forget : yX1_forget.cls = RX1 ∧ yX1_forget.cls ≠ "java/lang/invoke/MethodHandle" ∧ yX1_forget.cls ≠ "java/lang/invoke/VarHandle" ∧ (parseMethodDescriptor yX1_forget.desc).map (fun d => d.parameters.length) = some 0 := by decide +kernel
