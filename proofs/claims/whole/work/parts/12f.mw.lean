abbrev rmX5_firstOf : Room := { frames := 1, cells := 0, slots := 0, locals := 21 }
set_option maxHeartbeats 4000000 in
set_option maxRecDepth 100000 in
theorem w_X5_firstOf_2 {E : Ex} {K : Kx} (C : Cx E K cX5_firstOf 2 (some .int) RX5 wsX5_firstOf rmX5_firstOf)  {x0 : Int32}  {r : Int32} : ∀ (n : Nat) (x1 : Int32), QRead_firstOf_2 x0 n x1 = some r → WW E K 0 0 (QQ E K (fun rv g => rv = some (.int r) ∧ g = []) 0 0) 2 [(0, .int x0), (1, .int x1)] [] [] := by
  intro n
  induction n with
  | zero =>
    intro x1 hf
    simp [QRead_firstOf_2] at hf
  | succ n ih =>
    intro x1 hf
    rw [QRead_firstOf_2] at hf
    refine ww_iload_n C dX5_firstOf_2 rfl 1 rfl ?_
    refine ww_bipush (v := 12) C dX5_firstOf_3 (by decide) ?_
    refine ww_icmp_ge (tgt := 24) C dX5_firstOf_5 (by decide) (fun c_1 => ?_) (fun c_1 => ?_)
    · replace hf := ifT c_1 hf
      refine ww_iconst (v := (-1)) C dX5_firstOf_24 (by decide) ?_
      obtain rfl := Option.some.inj hf
      exact ww_iret C ⟨rfl, rfl⟩ dX5_firstOf_25
    · replace hf := ifF c_1 hf
      refine ww_iload_n C dX5_firstOf_8 rfl 0 rfl ?_
      refine ww_iload_n C dX5_firstOf_9 rfl 1 rfl ?_
      obtain ⟨p10, hp10, hf⟩ := bdE hf
      refine ww_callSN C (As := [.int x0, .int x1]) (st := []) (gr := []) (host := RX8) (c_X8_has (E := E)  hp10) gX5_firstOf_X8_has_n59 rfl (by decide +kernel) (by decide +kernel) (by decide +kernel) ysk_X8_has ⟨by decide, by decide⟩ ⟨by decide, by decide⟩ [] [] 0 rfl (by decide) rfl rfl (Nat.le_of_ble_eq_true rfl) dX5_firstOf_10 ?_
      rintro _ _ ⟨rfl, rfl⟩
      refine ww_perm (gs' := []) [] 0 rfl (by decide) rfl ?_
      refine ww_if_eqB (tgt := 18) C dX5_firstOf_13 (by decide) (fun c_2 => ?_) (fun c_2 => ?_)
      · replace hf := bfE c_2 hf
        obtain ⟨x1_18, e_x1_18⟩ : ∃ y : Int32, y = x1 + 1 := ⟨_, rfl⟩
        replace hf := ltE e_x1_18 hf
        refine ww_iinc (v := x1_18) (lv' := [(1, .int x1_18), (0, .int x0)]) C dX5_firstOf_18 1 rfl (by rw [e_x1_18]; rfl) (by decide) rfl ?_
        refine ww_goto (tgt := 2) C dX5_firstOf_21 (by decide) ?_
        refine ww_sub C (lv' := [(0, .int x0), (1, .int x1_18)]) [1, 0] rfl ?_
        exact ih _ hf
      · replace hf := btE c_2 hf
        refine ww_iload_n C dX5_firstOf_16 rfl 1 rfl ?_
        obtain rfl := Option.some.inj hf
        exact ww_iret C ⟨rfl, rfl⟩ dX5_firstOf_17

set_option maxHeartbeats 4000000 in
set_option maxRecDepth 100000 in
theorem c_X5_firstOf {E : Ex}  {x0 : Int32} {r : Int32} (hf : QRead_firstOf x0 = some r) : Ct E yX5_firstOf wsX5_firstOf rmX5_firstOf [.int x0] [] (fun rv g => rv = some (.int r) ∧ g = []) := by
  refine ct_of (own := RX5) (by decide +kernel) rfl rfl (Nat.le_of_ble_eq_true rfl) (fun K C => ?_)
  refine ww_sub C (lv' := [(0, .int x0)]) [0] rfl ?_
  rw [QRead_firstOf] at hf
  refine ww_iconst (v := 0) C dX5_firstOf_0 (by decide) ?_
  refine ww_istore_n (lv' := [(1, .int 0), (0, .int x0)]) C dX5_firstOf_1 rfl (by decide) rfl ?_
  refine ww_sub C (lv' := [(0, .int x0), (1, .int 0)]) [1, 0] rfl ?_
  exact w_X5_firstOf_2 C FU _ hf

theorem ysk_X5_firstOf : yX5_firstOf.cls ≠ "java/lang/invoke/MethodHandle" ∧ yX5_firstOf.cls ≠ "java/lang/invoke/VarHandle" ∧ (parseMethodDescriptor yX5_firstOf.desc).map (fun d => d.parameters.length) = some 1 := by decide +kernel
abbrev rmX5_isOrdered : Room := { frames := 0, cells := 0, slots := 0, locals := 0 }
set_option maxHeartbeats 4000000 in
set_option maxRecDepth 100000 in
theorem c_X5_isOrdered {E : Ex}  {x0 : Int32} {x1 : Int32} {x2 : Int32} {r : Bool} (hf : QRead_isOrdered x0 x1 x2 = some r) : Ct E yX5_isOrdered wsX5_isOrdered rmX5_isOrdered [.int x0, .int x1, .int x2] [] (fun rv g => rv = some (.int (b2i r)) ∧ g = []) := by
  refine ct_of (own := RX5) (by decide +kernel) rfl rfl (Nat.le_of_ble_eq_true rfl) (fun K C => ?_)
  refine ww_sub C (lv' := [(0, .int x0), (1, .int x1), (2, .int x2)]) [0, 1, 2] rfl ?_
  rw [QRead_isOrdered] at hf
  refine ww_iload_n C dX5_isOrdered_0 rfl 2 rfl ?_
  refine ww_if_ge (tgt := 17) C dX5_isOrdered_1 (by decide) (fun c_1 => ?_) (fun c_1 => ?_)
  · replace hf := ifT c_1 hf
    refine ww_iload_n C dX5_isOrdered_17 rfl 2 rfl ?_
    refine ww_if_le (tgt := 34) C dX5_isOrdered_18 (by decide) (fun c_2 => ?_) (fun c_2 => ?_)
    · replace hf := ifT c_2 hf
      refine ww_iload_n C dX5_isOrdered_34 rfl 0 rfl ?_
      refine ww_iload_n C dX5_isOrdered_35 rfl 1 rfl ?_
      refine ww_icmp_ne (tgt := 43) C dX5_isOrdered_36 (by decide) (fun c_3 => ?_) (fun c_3 => ?_)
      · replace hf := ifF c_3 hf
        refine ww_iconst (v := 0) C dX5_isOrdered_43 (by decide) ?_
        obtain rfl := Option.some.inj hf
        exact ww_zret C (nar_b false) ⟨rfl, rfl⟩ dX5_isOrdered_44
      · replace hf := ifT c_3 hf
        refine ww_iconst (v := 1) C dX5_isOrdered_39 (by decide) ?_
        refine ww_goto (tgt := 44) C dX5_isOrdered_40 (by decide) ?_
        obtain rfl := Option.some.inj hf
        exact ww_zret C (nar_b true) ⟨rfl, rfl⟩ dX5_isOrdered_44
    · replace hf := ifF c_2 hf
      refine ww_iload_n C dX5_isOrdered_21 rfl 0 rfl ?_
      refine ww_iload_n C dX5_isOrdered_22 rfl 1 rfl ?_
      refine ww_icmp_le (tgt := 30) C dX5_isOrdered_23 (by decide) (fun c_4 => ?_) (fun c_4 => ?_)
      · replace hf := ifT c_4 hf
        refine ww_iconst (v := 0) C dX5_isOrdered_30 (by decide) ?_
        refine ww_goto (tgt := 44) C dX5_isOrdered_31 (by decide) ?_
        obtain rfl := Option.some.inj hf
        exact ww_zret C (nar_b false) ⟨rfl, rfl⟩ dX5_isOrdered_44
      · replace hf := ifF c_4 hf
        refine ww_iconst (v := 1) C dX5_isOrdered_26 (by decide) ?_
        refine ww_goto (tgt := 44) C dX5_isOrdered_27 (by decide) ?_
        obtain rfl := Option.some.inj hf
        exact ww_zret C (nar_b true) ⟨rfl, rfl⟩ dX5_isOrdered_44
  · replace hf := ifF c_1 hf
    refine ww_iload_n C dX5_isOrdered_4 rfl 0 rfl ?_
    refine ww_iload_n C dX5_isOrdered_5 rfl 1 rfl ?_
    refine ww_icmp_ge (tgt := 13) C dX5_isOrdered_6 (by decide) (fun c_5 => ?_) (fun c_5 => ?_)
    · replace hf := ifT c_5 hf
      refine ww_iconst (v := 0) C dX5_isOrdered_13 (by decide) ?_
      refine ww_goto (tgt := 44) C dX5_isOrdered_14 (by decide) ?_
      obtain rfl := Option.some.inj hf
      exact ww_zret C (nar_b false) ⟨rfl, rfl⟩ dX5_isOrdered_44
    · replace hf := ifF c_5 hf
      refine ww_iconst (v := 1) C dX5_isOrdered_9 (by decide) ?_
      refine ww_goto (tgt := 44) C dX5_isOrdered_10 (by decide) ?_
      obtain rfl := Option.some.inj hf
      exact ww_zret C (nar_b true) ⟨rfl, rfl⟩ dX5_isOrdered_44

theorem ysk_X5_isOrdered : yX5_isOrdered.cls ≠ "java/lang/invoke/MethodHandle" ∧ yX5_isOrdered.cls ≠ "java/lang/invoke/VarHandle" ∧ (parseMethodDescriptor yX5_isOrdered.desc).map (fun d => d.parameters.length) = some 3 := by decide +kernel
abbrev rmX5_propertyOf : Room := { frames := 6, cells := 0, slots := 0, locals := 222 }
set_option maxRecDepth 20000 in
theorem in_X5_propertyOf_X2 : ∀ w ∈ u_ws RX2 TX2 19, w ∈ wsX5_propertyOf := by decide +kernel
set_option maxRecDepth 20000 in
theorem in_X5_propertyOf_X5 : ∀ w ∈ u_ws RX5 TX5 5, w ∈ wsX5_propertyOf := by decide +kernel
set_option maxRecDepth 20000 in
theorem in_X5_propertyOf_X6 : ∀ w ∈ u_ws RX6 TX6 8, w ∈ wsX5_propertyOf := by decide +kernel
set_option maxHeartbeats 4000000 in
set_option maxRecDepth 100000 in
theorem c_X5_propertyOf {E : Ex} {a0 : Nat → Nat} {a1 : Nat → Nat} {a2 : Nat → Nat} {a3 : Nat → Nat} {h0_1 h0_2 : Nat} {x3 : Int32} {v0 : QReadV} {v1 : ToksV} {v2 : HouseV} {v3 : SightV} {r : Int32} (hf : QRead_propertyOf x3 v0 v1 v2 v3 = some r) : Ct E yX5_propertyOf wsX5_propertyOf rmX5_propertyOf [.ref (a0 0), .ref (a2 0), .ref (a3 0), .int x3] [wQRead E a0 (rf3 (a1 0) h0_1 h0_2) v0, wToks E a1 v1, wHouse E a2 v2, wSight E a3 v3] (fun rv g => rv = some (.int r) ∧ g = [wQRead E a0 (rf3 (a1 0) h0_1 h0_2) v0, wToks E a1 v1, wHouse E a2 v2, wSight E a3 v3]) := by
  refine ct_of (own := RX5) (by decide +kernel) rfl rfl (Nat.le_of_ble_eq_true rfl) (fun K C => ?_)
  refine ww_sub C (lv' := [(0, .ref (a0 0)), (1, .ref (a2 0)), (2, .ref (a3 0)), (3, .int x3)]) [0, 1, 2, 3] rfl ?_
  rw [QRead_propertyOf] at hf
  refine ww_aload_n C dX5_propertyOf_0 rfl 1 rfl ?_
  refine ww_iload_n C dX5_propertyOf_1 rfl 3 rfl ?_
  obtain ⟨p2, hp2, hf⟩ := bdE hf
  refine ww_callV C (As := [.int x3]) (st := []) (gr := [wQRead E a0 (rf3 (a1 0) h0_1 h0_2) v0, wToks E a1 v1, wSight E a3 v3]) (c_X2_hasRoom (E := E) (a0 := a2) hp2) gX5_propertyOf_X2_hasRoom rfl yk_X2_hasRoom ⟨by decide, by decide⟩ ⟨by decide, by decide⟩ clOK2 0 0 rfl rfl [2] [0, 1, 3] 4 rfl (by decide) rfl rfl (Nat.le_of_ble_eq_true rfl) dX5_propertyOf_2 ?_
  rintro _ _ ⟨rfl, rfl⟩
  refine ww_perm (gs' := [wQRead E a0 (rf3 (a1 0) h0_1 h0_2) v0, wToks E a1 v1, wHouse E a2 v2, wSight E a3 v3]) [1, 2, 0, 3] 4 rfl (by decide) rfl ?_
  refine ww_if_neB (tgt := 10) C dX5_propertyOf_5 (by decide) (fun c_1 => ?_) (fun c_1 => ?_)
  · replace hf := btE c_1 hf
    refine ww_aload_n C dX5_propertyOf_10 rfl 0 rfl ?_
    refine ww_get C clOK5 in_X5_propertyOf_X5 (w := wQRead E a0 (rf3 (a1 0) h0_1 h0_2) v0) (fs := fsQRead a0 (rf3 (a1 0) h0_1 h0_2) v0) (v := .ref (a1 0)) 0 0 0 rfl q_QRead (by decide) (by decide +kernel) g_QRead_tokens dX5_propertyOf_11 ?_
    refine ww_ldcS C (i := 21) rfl dX5_propertyOf_14 ?_
    obtain ⟨p16, hp16, hf⟩ := bdE hf
    refine ww_callV C (As := [.ref (eK E 21)]) (st := []) (gr := [wQRead E a0 (rf3 (a1 0) h0_1 h0_2) v0, wHouse E a2 v2, wSight E a3 v3]) (c_X7_isWord (E := E) (a0 := a1) hp16) gX5_propertyOf_X7_isWord rfl yk_X7_isWord ⟨by decide, by decide⟩ ⟨by decide, by decide⟩ clOK7 0 0 rfl rfl [1] [0, 2, 3] 4 rfl (by decide) rfl rfl (Nat.le_of_ble_eq_true rfl) dX5_propertyOf_16 ?_
    rintro _ _ ⟨rfl, rfl⟩
    refine ww_perm (gs' := [wQRead E a0 (rf3 (a1 0) h0_1 h0_2) v0, wToks E a1 v1, wHouse E a2 v2, wSight E a3 v3]) [1, 0, 2, 3] 4 rfl (by decide) rfl ?_
    refine ww_if_eqB (tgt := 24) C dX5_propertyOf_19 (by decide) (fun c_2 => ?_) (fun c_2 => ?_)
    · replace hf := bfE c_2 hf
      refine ww_aload_n C dX5_propertyOf_24 rfl 0 rfl ?_
      refine ww_get C clOK5 in_X5_propertyOf_X5 (w := wQRead E a0 (rf3 (a1 0) h0_1 h0_2) v0) (fs := fsQRead a0 (rf3 (a1 0) h0_1 h0_2) v0) (v := .ref (a1 0)) 0 0 0 rfl q_QRead (by decide) (by decide +kernel) g_QRead_tokens dX5_propertyOf_25 ?_
      refine ww_ldcS C (i := 22) rfl dX5_propertyOf_28 ?_
      obtain ⟨p30, hp30, hf⟩ := bdE hf
      refine ww_callV C (As := [.ref (eK E 22)]) (st := []) (gr := [wQRead E a0 (rf3 (a1 0) h0_1 h0_2) v0, wHouse E a2 v2, wSight E a3 v3]) (c_X7_isWord (E := E) (a0 := a1) hp30) gX5_propertyOf_X7_isWord rfl yk_X7_isWord ⟨by decide, by decide⟩ ⟨by decide, by decide⟩ clOK7 0 0 rfl rfl [1] [0, 2, 3] 4 rfl (by decide) rfl rfl (Nat.le_of_ble_eq_true rfl) dX5_propertyOf_30 ?_
      rintro _ _ ⟨rfl, rfl⟩
      refine ww_perm (gs' := [wQRead E a0 (rf3 (a1 0) h0_1 h0_2) v0, wToks E a1 v1, wHouse E a2 v2, wSight E a3 v3]) [1, 0, 2, 3] 4 rfl (by decide) rfl ?_
      refine ww_if_eqB (tgt := 42) C dX5_propertyOf_33 (by decide) (fun c_3 => ?_) (fun c_3 => ?_)
      · replace hf := bfE c_3 hf
        refine ww_aload_n C dX5_propertyOf_42 rfl 0 rfl ?_
        refine ww_get C clOK5 in_X5_propertyOf_X5 (w := wQRead E a0 (rf3 (a1 0) h0_1 h0_2) v0) (fs := fsQRead a0 (rf3 (a1 0) h0_1 h0_2) v0) (v := .ref (a1 0)) 0 0 0 rfl q_QRead (by decide) (by decide +kernel) g_QRead_tokens dX5_propertyOf_43 ?_
        refine ww_ldcS C (i := 23) rfl dX5_propertyOf_46 ?_
        obtain ⟨p48, hp48, hf⟩ := bdE hf
        refine ww_callV C (As := [.ref (eK E 23)]) (st := []) (gr := [wQRead E a0 (rf3 (a1 0) h0_1 h0_2) v0, wHouse E a2 v2, wSight E a3 v3]) (c_X7_isWord (E := E) (a0 := a1) hp48) gX5_propertyOf_X7_isWord rfl yk_X7_isWord ⟨by decide, by decide⟩ ⟨by decide, by decide⟩ clOK7 0 0 rfl rfl [1] [0, 2, 3] 4 rfl (by decide) rfl rfl (Nat.le_of_ble_eq_true rfl) dX5_propertyOf_48 ?_
        rintro _ _ ⟨rfl, rfl⟩
        refine ww_perm (gs' := [wQRead E a0 (rf3 (a1 0) h0_1 h0_2) v0, wToks E a1 v1, wHouse E a2 v2, wSight E a3 v3]) [1, 0, 2, 3] 4 rfl (by decide) rfl ?_
        refine ww_if_eqB (tgt := 61) C dX5_propertyOf_51 (by decide) (fun c_4 => ?_) (fun c_4 => ?_)
        · replace hf := bfE c_4 hf
          refine ww_aload_n C dX5_propertyOf_61 rfl 0 rfl ?_
          refine ww_get C clOK5 in_X5_propertyOf_X5 (w := wQRead E a0 (rf3 (a1 0) h0_1 h0_2) v0) (fs := fsQRead a0 (rf3 (a1 0) h0_1 h0_2) v0) (v := .ref (a1 0)) 0 0 0 rfl q_QRead (by decide) (by decide +kernel) g_QRead_tokens dX5_propertyOf_62 ?_
          refine ww_ldcS C (i := 24) rfl dX5_propertyOf_65 ?_
          obtain ⟨p67, hp67, hf⟩ := bdE hf
          refine ww_callV C (As := [.ref (eK E 24)]) (st := []) (gr := [wQRead E a0 (rf3 (a1 0) h0_1 h0_2) v0, wHouse E a2 v2, wSight E a3 v3]) (c_X7_isWord (E := E) (a0 := a1) hp67) gX5_propertyOf_X7_isWord rfl yk_X7_isWord ⟨by decide, by decide⟩ ⟨by decide, by decide⟩ clOK7 0 0 rfl rfl [1] [0, 2, 3] 4 rfl (by decide) rfl rfl (Nat.le_of_ble_eq_true rfl) dX5_propertyOf_67 ?_
          rintro _ _ ⟨rfl, rfl⟩
          refine ww_perm (gs' := [wQRead E a0 (rf3 (a1 0) h0_1 h0_2) v0, wToks E a1 v1, wHouse E a2 v2, wSight E a3 v3]) [1, 0, 2, 3] 4 rfl (by decide) rfl ?_
          refine ww_if_eqB (tgt := 84) C dX5_propertyOf_70 (by decide) (fun c_5 => ?_) (fun c_5 => ?_)
          · replace hf := bfE c_5 hf
            refine ww_aload_n C dX5_propertyOf_84 rfl 0 rfl ?_
            refine ww_get C clOK5 in_X5_propertyOf_X5 (w := wQRead E a0 (rf3 (a1 0) h0_1 h0_2) v0) (fs := fsQRead a0 (rf3 (a1 0) h0_1 h0_2) v0) (v := .ref (a1 0)) 0 0 0 rfl q_QRead (by decide) (by decide +kernel) g_QRead_tokens dX5_propertyOf_85 ?_
            refine ww_ldcS C (i := 25) rfl dX5_propertyOf_88 ?_
            obtain ⟨p90, hp90, hf⟩ := bdE hf
            refine ww_callV C (As := [.ref (eK E 25)]) (st := []) (gr := [wQRead E a0 (rf3 (a1 0) h0_1 h0_2) v0, wHouse E a2 v2, wSight E a3 v3]) (c_X7_isWord (E := E) (a0 := a1) hp90) gX5_propertyOf_X7_isWord rfl yk_X7_isWord ⟨by decide, by decide⟩ ⟨by decide, by decide⟩ clOK7 0 0 rfl rfl [1] [0, 2, 3] 4 rfl (by decide) rfl rfl (Nat.le_of_ble_eq_true rfl) dX5_propertyOf_90 ?_
            rintro _ _ ⟨rfl, rfl⟩
            refine ww_perm (gs' := [wQRead E a0 (rf3 (a1 0) h0_1 h0_2) v0, wToks E a1 v1, wHouse E a2 v2, wSight E a3 v3]) [1, 0, 2, 3] 4 rfl (by decide) rfl ?_
            refine ww_if_eqB (tgt := 112) C dX5_propertyOf_93 (by decide) (fun c_6 => ?_) (fun c_6 => ?_)
            · replace hf := bfE c_6 hf
              refine ww_aload_n C dX5_propertyOf_112 rfl 0 rfl ?_
              refine ww_get C clOK5 in_X5_propertyOf_X5 (w := wQRead E a0 (rf3 (a1 0) h0_1 h0_2) v0) (fs := fsQRead a0 (rf3 (a1 0) h0_1 h0_2) v0) (v := .ref (a1 0)) 0 0 0 rfl q_QRead (by decide) (by decide +kernel) g_QRead_tokens dX5_propertyOf_113 ?_
              refine ww_ldcS C (i := 26) rfl dX5_propertyOf_116 ?_
              obtain ⟨p118, hp118, hf⟩ := bdE hf
              refine ww_callV C (As := [.ref (eK E 26)]) (st := []) (gr := [wQRead E a0 (rf3 (a1 0) h0_1 h0_2) v0, wHouse E a2 v2, wSight E a3 v3]) (c_X7_isWord (E := E) (a0 := a1) hp118) gX5_propertyOf_X7_isWord rfl yk_X7_isWord ⟨by decide, by decide⟩ ⟨by decide, by decide⟩ clOK7 0 0 rfl rfl [1] [0, 2, 3] 4 rfl (by decide) rfl rfl (Nat.le_of_ble_eq_true rfl) dX5_propertyOf_118 ?_
              rintro _ _ ⟨rfl, rfl⟩
              refine ww_perm (gs' := [wQRead E a0 (rf3 (a1 0) h0_1 h0_2) v0, wToks E a1 v1, wHouse E a2 v2, wSight E a3 v3]) [1, 0, 2, 3] 4 rfl (by decide) rfl ?_
              refine ww_if_eqB (tgt := 139) C dX5_propertyOf_121 (by decide) (fun c_7 => ?_) (fun c_7 => ?_)
              · replace hf := bfE c_7 hf
                refine ww_aload_n C dX5_propertyOf_139 rfl 0 rfl ?_
                refine ww_get C clOK5 in_X5_propertyOf_X5 (w := wQRead E a0 (rf3 (a1 0) h0_1 h0_2) v0) (fs := fsQRead a0 (rf3 (a1 0) h0_1 h0_2) v0) (v := .ref (a1 0)) 0 0 0 rfl q_QRead (by decide) (by decide +kernel) g_QRead_tokens dX5_propertyOf_140 ?_
                refine ww_ldcS C (i := 27) rfl dX5_propertyOf_143 ?_
                obtain ⟨p145, hp145, hf⟩ := bdE hf
                refine ww_callV C (As := [.ref (eK E 27)]) (st := []) (gr := [wQRead E a0 (rf3 (a1 0) h0_1 h0_2) v0, wHouse E a2 v2, wSight E a3 v3]) (c_X7_isWord (E := E) (a0 := a1) hp145) gX5_propertyOf_X7_isWord rfl yk_X7_isWord ⟨by decide, by decide⟩ ⟨by decide, by decide⟩ clOK7 0 0 rfl rfl [1] [0, 2, 3] 4 rfl (by decide) rfl rfl (Nat.le_of_ble_eq_true rfl) dX5_propertyOf_145 ?_
                rintro _ _ ⟨rfl, rfl⟩
                refine ww_perm (gs' := [wQRead E a0 (rf3 (a1 0) h0_1 h0_2) v0, wToks E a1 v1, wHouse E a2 v2, wSight E a3 v3]) [1, 0, 2, 3] 4 rfl (by decide) rfl ?_
                refine ww_if_eqB (tgt := 158) C dX5_propertyOf_148 (by decide) (fun c_8 => ?_) (fun c_8 => ?_)
                · replace hf := bfE c_8 hf
                  refine ww_aload_n C dX5_propertyOf_158 rfl 0 rfl ?_
                  refine ww_get C clOK5 in_X5_propertyOf_X5 (w := wQRead E a0 (rf3 (a1 0) h0_1 h0_2) v0) (fs := fsQRead a0 (rf3 (a1 0) h0_1 h0_2) v0) (v := .ref (a1 0)) 0 0 0 rfl q_QRead (by decide) (by decide +kernel) g_QRead_tokens dX5_propertyOf_159 ?_
                  refine ww_ldcS C (i := 28) rfl dX5_propertyOf_162 ?_
                  obtain ⟨p164, hp164, hf⟩ := bdE hf
                  refine ww_callV C (As := [.ref (eK E 28)]) (st := []) (gr := [wQRead E a0 (rf3 (a1 0) h0_1 h0_2) v0, wHouse E a2 v2, wSight E a3 v3]) (c_X7_isWord (E := E) (a0 := a1) hp164) gX5_propertyOf_X7_isWord rfl yk_X7_isWord ⟨by decide, by decide⟩ ⟨by decide, by decide⟩ clOK7 0 0 rfl rfl [1] [0, 2, 3] 4 rfl (by decide) rfl rfl (Nat.le_of_ble_eq_true rfl) dX5_propertyOf_164 ?_
                  rintro _ _ ⟨rfl, rfl⟩
                  refine ww_perm (gs' := [wQRead E a0 (rf3 (a1 0) h0_1 h0_2) v0, wToks E a1 v1, wHouse E a2 v2, wSight E a3 v3]) [1, 0, 2, 3] 4 rfl (by decide) rfl ?_
                  refine ww_if_eqB (tgt := 176) C dX5_propertyOf_167 (by decide) (fun c_9 => ?_) (fun c_9 => ?_)
                  · replace hf := bfE c_9 hf
                    refine ww_aload_n C dX5_propertyOf_176 rfl 0 rfl ?_
                    refine ww_get C clOK5 in_X5_propertyOf_X5 (w := wQRead E a0 (rf3 (a1 0) h0_1 h0_2) v0) (fs := fsQRead a0 (rf3 (a1 0) h0_1 h0_2) v0) (v := .ref (a1 0)) 0 0 0 rfl q_QRead (by decide) (by decide +kernel) g_QRead_tokens dX5_propertyOf_177 ?_
                    refine ww_ldcS C (i := 29) rfl dX5_propertyOf_180 ?_
                    obtain ⟨p182, hp182, hf⟩ := bdE hf
                    refine ww_callV C (As := [.ref (eK E 29)]) (st := []) (gr := [wQRead E a0 (rf3 (a1 0) h0_1 h0_2) v0, wHouse E a2 v2, wSight E a3 v3]) (c_X7_isWord (E := E) (a0 := a1) hp182) gX5_propertyOf_X7_isWord rfl yk_X7_isWord ⟨by decide, by decide⟩ ⟨by decide, by decide⟩ clOK7 0 0 rfl rfl [1] [0, 2, 3] 4 rfl (by decide) rfl rfl (Nat.le_of_ble_eq_true rfl) dX5_propertyOf_182 ?_
                    rintro _ _ ⟨rfl, rfl⟩
                    refine ww_perm (gs' := [wQRead E a0 (rf3 (a1 0) h0_1 h0_2) v0, wToks E a1 v1, wHouse E a2 v2, wSight E a3 v3]) [1, 0, 2, 3] 4 rfl (by decide) rfl ?_
                    refine ww_if_eqB (tgt := 195) C dX5_propertyOf_185 (by decide) (fun c_10 => ?_) (fun c_10 => ?_)
                    · replace hf := bfE c_10 hf
                      refine ww_aload_n C dX5_propertyOf_195 rfl 0 rfl ?_
                      refine ww_get C clOK5 in_X5_propertyOf_X5 (w := wQRead E a0 (rf3 (a1 0) h0_1 h0_2) v0) (fs := fsQRead a0 (rf3 (a1 0) h0_1 h0_2) v0) (v := .ref (a1 0)) 0 0 0 rfl q_QRead (by decide) (by decide +kernel) g_QRead_tokens dX5_propertyOf_196 ?_
                      refine ww_ldcS C (i := 30) rfl dX5_propertyOf_199 ?_
                      obtain ⟨p201, hp201, hf⟩ := bdE hf
                      refine ww_callV C (As := [.ref (eK E 30)]) (st := []) (gr := [wQRead E a0 (rf3 (a1 0) h0_1 h0_2) v0, wHouse E a2 v2, wSight E a3 v3]) (c_X7_isWord (E := E) (a0 := a1) hp201) gX5_propertyOf_X7_isWord rfl yk_X7_isWord ⟨by decide, by decide⟩ ⟨by decide, by decide⟩ clOK7 0 0 rfl rfl [1] [0, 2, 3] 4 rfl (by decide) rfl rfl (Nat.le_of_ble_eq_true rfl) dX5_propertyOf_201 ?_
                      rintro _ _ ⟨rfl, rfl⟩
                      refine ww_perm (gs' := [wQRead E a0 (rf3 (a1 0) h0_1 h0_2) v0, wToks E a1 v1, wHouse E a2 v2, wSight E a3 v3]) [1, 0, 2, 3] 4 rfl (by decide) rfl ?_
                      refine ww_if_eqB (tgt := 214) C dX5_propertyOf_204 (by decide) (fun c_11 => ?_) (fun c_11 => ?_)
                      · replace hf := bfE c_11 hf
                        refine ww_aload_n C dX5_propertyOf_214 rfl 0 rfl ?_
                        refine ww_get C clOK5 in_X5_propertyOf_X5 (w := wQRead E a0 (rf3 (a1 0) h0_1 h0_2) v0) (fs := fsQRead a0 (rf3 (a1 0) h0_1 h0_2) v0) (v := .ref (a1 0)) 0 0 0 rfl q_QRead (by decide) (by decide +kernel) g_QRead_tokens dX5_propertyOf_215 ?_
                        refine ww_ldcS C (i := 31) rfl dX5_propertyOf_218 ?_
                        obtain ⟨p220, hp220, hf⟩ := bdE hf
                        refine ww_callV C (As := [.ref (eK E 31)]) (st := []) (gr := [wQRead E a0 (rf3 (a1 0) h0_1 h0_2) v0, wHouse E a2 v2, wSight E a3 v3]) (c_X7_isWord (E := E) (a0 := a1) hp220) gX5_propertyOf_X7_isWord rfl yk_X7_isWord ⟨by decide, by decide⟩ ⟨by decide, by decide⟩ clOK7 0 0 rfl rfl [1] [0, 2, 3] 4 rfl (by decide) rfl rfl (Nat.le_of_ble_eq_true rfl) dX5_propertyOf_220 ?_
                        rintro _ _ ⟨rfl, rfl⟩
                        refine ww_perm (gs' := [wQRead E a0 (rf3 (a1 0) h0_1 h0_2) v0, wToks E a1 v1, wHouse E a2 v2, wSight E a3 v3]) [1, 0, 2, 3] 4 rfl (by decide) rfl ?_
                        refine ww_if_eqB (tgt := 235) C dX5_propertyOf_223 (by decide) (fun c_12 => ?_) (fun c_12 => ?_)
                        · replace hf := bfE c_12 hf
                          refine ww_iconst (v := (-1)) C dX5_propertyOf_235 (by decide) ?_
                          obtain rfl := Option.some.inj hf
                          exact ww_iret C ⟨rfl, rfl⟩ dX5_propertyOf_236
                        · replace hf := btE c_12 hf
                          refine ww_aload_n C dX5_propertyOf_226 rfl 1 rfl ?_
                          refine ww_get C clOK2 in_X5_propertyOf_X2 (w := wHouse E a2 v2) (fs := fsHouse a2 v2) (v := .ref (a2 12)) 2 0 18 rfl q_House (by decide) (by decide +kernel) g_House_longestRuns dX5_propertyOf_227 ?_
                          refine ww_iload_n C dX5_propertyOf_230 rfl 3 rfl ?_
                          obtain ⟨g_13, hf⟩ := gdE hf
                          refine ww_iald C (f := House_longestRuns v2) (w := wHouse E a2 v2) 2 12 rfl c_House_longestRuns (inB_vp g_13) dX5_propertyOf_231 ?_
                          refine ww_goto (tgt := 236) C dX5_propertyOf_232 (by decide) ?_
                          obtain rfl := Option.some.inj hf
                          exact ww_iret C ⟨rfl, rfl⟩ dX5_propertyOf_236
                      · replace hf := btE c_11 hf
                        refine ww_aload_n C dX5_propertyOf_207 rfl 1 rfl ?_
                        refine ww_get C clOK2 in_X5_propertyOf_X2 (w := wHouse E a2 v2) (fs := fsHouse a2 v2) (v := .ref (a2 11)) 2 0 17 rfl q_House (by decide) (by decide +kernel) g_House_runs dX5_propertyOf_208 ?_
                        refine ww_iload_n C dX5_propertyOf_211 rfl 3 rfl ?_
                        obtain ⟨g_14, hf⟩ := gdE hf
                        refine ww_iald C (f := House_runs v2) (w := wHouse E a2 v2) 2 11 rfl c_House_runs (inB_vp g_14) dX5_propertyOf_212 ?_
                        obtain rfl := Option.some.inj hf
                        exact ww_iret C ⟨rfl, rfl⟩ dX5_propertyOf_213
                    · replace hf := btE c_10 hf
                      refine ww_aload_n C dX5_propertyOf_188 rfl 1 rfl ?_
                      refine ww_get C clOK2 in_X5_propertyOf_X2 (w := wHouse E a2 v2) (fs := fsHouse a2 v2) (v := .ref (a2 9)) 2 0 15 rfl q_House (by decide) (by decide +kernel) g_House_sightings dX5_propertyOf_189 ?_
                      refine ww_iload_n C dX5_propertyOf_192 rfl 3 rfl ?_
                      obtain ⟨g_15, hf⟩ := gdE hf
                      refine ww_iald C (f := House_sightings v2) (w := wHouse E a2 v2) 2 9 rfl c_House_sightings (inB_vp g_15) dX5_propertyOf_193 ?_
                      obtain rfl := Option.some.inj hf
                      exact ww_iret C ⟨rfl, rfl⟩ dX5_propertyOf_194
                  · replace hf := btE c_9 hf
                    refine ww_aload_n C dX5_propertyOf_170 rfl 1 rfl ?_
                    refine ww_iload_n C dX5_propertyOf_171 rfl 3 rfl ?_
                    obtain ⟨p172, hp172, hf⟩ := bdE hf
                    refine ww_callV C (As := [.int x3]) (st := []) (gr := [wQRead E a0 (rf3 (a1 0) h0_1 h0_2) v0, wToks E a1 v1, wSight E a3 v3]) (c_X2_countGuardsWalking (E := E) (a0 := a2) hp172) gX5_propertyOf_X2_countGuardsWalking rfl yk_X2_countGuardsWalking ⟨by decide, by decide⟩ ⟨by decide, by decide⟩ clOK2 0 0 rfl rfl [2] [0, 1, 3] 4 rfl (by decide) rfl rfl (Nat.le_of_ble_eq_true rfl) dX5_propertyOf_172 ?_
                    rintro _ _ ⟨rfl, rfl⟩
                    refine ww_perm (gs' := [wQRead E a0 (rf3 (a1 0) h0_1 h0_2) v0, wToks E a1 v1, wHouse E a2 v2, wSight E a3 v3]) [1, 2, 0, 3] 4 rfl (by decide) rfl ?_
                    obtain rfl := Option.some.inj hf
                    exact ww_iret C ⟨rfl, rfl⟩ dX5_propertyOf_175
                · replace hf := btE c_8 hf
                  refine ww_aload_n C dX5_propertyOf_151 rfl 2 rfl ?_
                  refine ww_get C clOK6 in_X5_propertyOf_X6 (w := wSight E a3 v3) (fs := fsSight a3 v3) (v := .ref (a3 1)) 3 0 0 rfl q_Sight (by decide) (by decide +kernel) g_Sight_seen dX5_propertyOf_152 ?_
                  refine ww_iload_n C dX5_propertyOf_155 rfl 3 rfl ?_
                  obtain ⟨g_16, hf⟩ := gdE hf
                  refine ww_iald C (f := Sight_seen v3) (w := wSight E a3 v3) 3 1 rfl c_Sight_seen (inB_vp g_16) dX5_propertyOf_156 ?_
                  obtain rfl := Option.some.inj hf
                  exact ww_iret C ⟨rfl, rfl⟩ dX5_propertyOf_157
              · replace hf := btE c_7 hf
                refine ww_aload_n C dX5_propertyOf_124 rfl 2 rfl ?_
                refine ww_aload_n C dX5_propertyOf_125 rfl 1 rfl ?_
                refine ww_iload_n C dX5_propertyOf_126 rfl 3 rfl ?_
                obtain ⟨p127, hp127, hf⟩ := bdE hf
                refine ww_callV C (As := [.ref (a2 0), .int x3]) (st := []) (gr := [wQRead E a0 (rf3 (a1 0) h0_1 h0_2) v0, wToks E a1 v1]) (c_X6_isLate (E := E) (a0 := a3) (a1 := a2) hp127) gX5_propertyOf_X6_isLate rfl yk_X6_isLate ⟨by decide, by decide⟩ ⟨by decide, by decide⟩ clOK6 0 0 rfl rfl [3, 2] [0, 1] 4 rfl (by decide) rfl rfl (Nat.le_of_ble_eq_true rfl) dX5_propertyOf_127 ?_
                rintro _ _ ⟨rfl, rfl⟩
                refine ww_perm (gs' := [wQRead E a0 (rf3 (a1 0) h0_1 h0_2) v0, wToks E a1 v1, wHouse E a2 v2, wSight E a3 v3]) [2, 3, 1, 0] 4 rfl (by decide) rfl ?_
                refine ww_if_eqB (tgt := 137) C dX5_propertyOf_130 (by decide) (fun c_17 => ?_) (fun c_17 => ?_)
                · replace hf := bfE c_17 hf
                  refine ww_iconst (v := 0) C dX5_propertyOf_137 (by decide) ?_
                  obtain rfl := Option.some.inj hf
                  exact ww_iret C ⟨rfl, rfl⟩ dX5_propertyOf_138
                · replace hf := btE c_17 hf
                  refine ww_iconst (v := 1) C dX5_propertyOf_133 (by decide) ?_
                  refine ww_goto (tgt := 138) C dX5_propertyOf_134 (by decide) ?_
                  obtain rfl := Option.some.inj hf
                  exact ww_iret C ⟨rfl, rfl⟩ dX5_propertyOf_138
            · replace hf := btE c_6 hf
              refine ww_aload_n C dX5_propertyOf_96 rfl 2 rfl ?_
              refine ww_get C clOK6 in_X5_propertyOf_X6 (w := wSight E a3 v3) (fs := fsSight a3 v3) (v := .ref (a3 2)) 3 0 1 rfl q_Sight (by decide) (by decide +kernel) g_Sight_gaps dX5_propertyOf_97 ?_
              refine ww_iload_n C dX5_propertyOf_100 rfl 3 rfl ?_
              obtain ⟨g_18, hf⟩ := gdE hf
              refine ww_iald C (f := Sight_gaps v3) (w := wSight E a3 v3) 3 2 rfl c_Sight_gaps (inB_vp g_18) dX5_propertyOf_101 ?_
              refine ww_iconst (v := (-1)) C dX5_propertyOf_102 (by decide) ?_
              refine ww_icmp_ne (tgt := 110) C dX5_propertyOf_103 (by decide) (fun c_19 => ?_) (fun c_19 => ?_)
              · replace hf := ifF c_19 hf
                refine ww_iconst (v := 0) C dX5_propertyOf_110 (by decide) ?_
                obtain rfl := Option.some.inj hf
                exact ww_iret C ⟨rfl, rfl⟩ dX5_propertyOf_111
              · replace hf := ifT c_19 hf
                refine ww_iconst (v := 1) C dX5_propertyOf_106 (by decide) ?_
                refine ww_goto (tgt := 111) C dX5_propertyOf_107 (by decide) ?_
                obtain rfl := Option.some.inj hf
                exact ww_iret C ⟨rfl, rfl⟩ dX5_propertyOf_111
          · replace hf := btE c_5 hf
            refine ww_iconst (v := 0) C dX5_propertyOf_73 (by decide) ?_
            refine ww_aload_n C dX5_propertyOf_74 rfl 2 rfl ?_
            refine ww_get C clOK6 in_X5_propertyOf_X6 (w := wSight E a3 v3) (fs := fsSight a3 v3) (v := .ref (a3 2)) 3 0 1 rfl q_Sight (by decide) (by decide +kernel) g_Sight_gaps dX5_propertyOf_75 ?_
            refine ww_iload_n C dX5_propertyOf_78 rfl 3 rfl ?_
            obtain ⟨g_20, hf⟩ := gdE hf
            refine ww_iald C (f := Sight_gaps v3) (w := wSight E a3 v3) 3 2 rfl c_Sight_gaps (inB_vp g_20) dX5_propertyOf_79 ?_
            refine ww_max C (by decide +kernel) (by decide +kernel) (by decide +kernel) (by decide +kernel) (by decide) (Nat.le_of_ble_eq_true rfl) (by decide) (by decide) dX5_propertyOf_80 ?_
            obtain rfl := Option.some.inj hf
            exact ww_iret C ⟨rfl, rfl⟩ dX5_propertyOf_83
        · replace hf := btE c_4 hf
          refine ww_aload_n C dX5_propertyOf_54 rfl 1 rfl ?_
          refine ww_get C clOK2 in_X5_propertyOf_X2 (w := wHouse E a2 v2) (fs := fsHouse a2 v2) (v := .ref (a2 4)) 2 0 10 rfl q_House (by decide) (by decide +kernel) g_House_limits dX5_propertyOf_55 ?_
          refine ww_iload_n C dX5_propertyOf_58 rfl 3 rfl ?_
          obtain ⟨g_21, hf⟩ := gdE hf
          refine ww_iald C (f := House_limits v2) (w := wHouse E a2 v2) 2 4 rfl c_House_limits (inB_vp g_21) dX5_propertyOf_59 ?_
          obtain rfl := Option.some.inj hf
          exact ww_iret C ⟨rfl, rfl⟩ dX5_propertyOf_60
      · replace hf := btE c_3 hf
        refine ww_aload_n C dX5_propertyOf_36 rfl 1 rfl ?_
        refine ww_iload_n C dX5_propertyOf_37 rfl 3 rfl ?_
        obtain ⟨p38, hp38, hf⟩ := bdE hf
        refine ww_callV C (As := [.int x3]) (st := []) (gr := [wQRead E a0 (rf3 (a1 0) h0_1 h0_2) v0, wToks E a1 v1, wSight E a3 v3]) (c_X2_countOpenDoorsOf (E := E) (a0 := a2) hp38) gX5_propertyOf_X2_countOpenDoorsOf rfl yk_X2_countOpenDoorsOf ⟨by decide, by decide⟩ ⟨by decide, by decide⟩ clOK2 0 0 rfl rfl [2] [0, 1, 3] 4 rfl (by decide) rfl rfl (Nat.le_of_ble_eq_true rfl) dX5_propertyOf_38 ?_
        rintro _ _ ⟨rfl, rfl⟩
        refine ww_perm (gs' := [wQRead E a0 (rf3 (a1 0) h0_1 h0_2) v0, wToks E a1 v1, wHouse E a2 v2, wSight E a3 v3]) [1, 2, 0, 3] 4 rfl (by decide) rfl ?_
        obtain rfl := Option.some.inj hf
        exact ww_iret C ⟨rfl, rfl⟩ dX5_propertyOf_41
    · replace hf := btE c_2 hf
      refine ww_iload_n C dX5_propertyOf_22 rfl 3 rfl ?_
      obtain rfl := Option.some.inj hf
      exact ww_iret C ⟨rfl, rfl⟩ dX5_propertyOf_23
  · replace hf := bfE c_1 hf
    refine ww_iconst (v := (-1)) C dX5_propertyOf_8 (by decide) ?_
    obtain rfl := Option.some.inj hf
    exact ww_iret C ⟨rfl, rfl⟩ dX5_propertyOf_9

theorem yk_X5_propertyOf : yX5_propertyOf.cls = RX5 ∧ yX5_propertyOf.cls ≠ "java/lang/invoke/MethodHandle" ∧ yX5_propertyOf.cls ≠ "java/lang/invoke/VarHandle" ∧ (parseMethodDescriptor yX5_propertyOf.desc).map (fun d => d.parameters.length) = some 3 := by decide +kernel
abbrev rmX5_readOrder : Room := { frames := 2, cells := 0, slots := 0, locals := 40 }
set_option maxRecDepth 20000 in
theorem in_X5_readOrder_X5 : ∀ w ∈ u_ws RX5 TX5 5, w ∈ wsX5_readOrder := by decide +kernel
set_option maxHeartbeats 4000000 in
set_option maxRecDepth 100000 in
theorem w_X5_readOrder_66 {E : Ex} {K : Kx} (C : Cx E K cX5_readOrder 2 (some .int) RX5 wsX5_readOrder rmX5_readOrder) {a0 : Nat → Nat} {a1 : Nat → Nat} {h0_1 h0_2 : Nat}   {x1 : Int32} {v0 : QReadV} {v1 : ToksV} {r : (Int32 × QReadV × ToksV)} (hf : QRead_readOrder_66 x1 v0 v1 = some r) : WW E K 0 0 (QQ E K (fun rv g => rv = some (.int r.1) ∧ g = [wQRead E a0 (rf3 (a1 0) h0_1 h0_2) r.2.1, wToks E a1 r.2.2]) 0 0) 66 [(0, .ref (a0 0)), (1, .int x1)] [] [wQRead E a0 (rf3 (a1 0) h0_1 h0_2) v0, wToks E a1 v1] := by
  rw [QRead_readOrder_66] at hf
  refine ww_aload_n C dX5_readOrder_66 rfl 0 rfl ?_
  refine ww_get C clOK5 in_X5_readOrder_X5 (w := wQRead E a0 (rf3 (a1 0) h0_1 h0_2) v0) (fs := fsQRead a0 (rf3 (a1 0) h0_1 h0_2) v0) (v := .ref (a1 0)) 0 0 0 rfl q_QRead (by decide) (by decide +kernel) g_QRead_tokens dX5_readOrder_67 ?_
  obtain ⟨p70, hp70, hf⟩ := bdE hf
  refine ww_callV C (As := []) (st := []) (gr := [wQRead E a0 (rf3 (a1 0) h0_1 h0_2) v0]) (c_X7_advance (E := E) (a0 := a1) hp70) gX5_readOrder_X7_advance rfl yk_X7_advance ⟨by decide, by decide⟩ ⟨by decide, by decide⟩ clOK7 0 0 rfl rfl [1] [0] 2 rfl (by decide) rfl rfl (Nat.le_of_ble_eq_true rfl) dX5_readOrder_70 ?_
  rintro _ _ ⟨rfl, rfl⟩
  refine ww_perm (gs' := [wQRead E a0 (rf3 (a1 0) h0_1 h0_2) v0, wToks E a1 p70]) [1, 0] 2 rfl (by decide) rfl ?_
  refine ww_iload_n C dX5_readOrder_73 rfl 1 rfl ?_
  obtain rfl := Option.some.inj hf
  exact ww_iret C ⟨rfl, rfl⟩ dX5_readOrder_74

set_option maxHeartbeats 4000000 in
set_option maxRecDepth 100000 in
theorem w_X5_readOrder_42 {E : Ex} {K : Kx} (C : Cx E K cX5_readOrder 2 (some .int) RX5 wsX5_readOrder rmX5_readOrder) {a0 : Nat → Nat} {a1 : Nat → Nat} {h0_1 h0_2 : Nat}   {s0 : Int32} {v0 : QReadV} {v1 : ToksV} {r : (Int32 × QReadV × ToksV)} (hf : QRead_readOrder_42 s0 v0 v1 = some r) : WW E K 0 0 (QQ E K (fun rv g => rv = some (.int r.1) ∧ g = [wQRead E a0 (rf3 (a1 0) h0_1 h0_2) r.2.1, wToks E a1 r.2.2]) 0 0) 42 [(0, .ref (a0 0))] [.int s0] [wQRead E a0 (rf3 (a1 0) h0_1 h0_2) v0, wToks E a1 v1] := by
  rw [QRead_readOrder_42] at hf
  refine ww_istore_n (lv' := [(1, .int s0), (0, .ref (a0 0))]) C dX5_readOrder_42 rfl (by decide) rfl ?_
  refine ww_iload_n C dX5_readOrder_43 rfl 0 rfl ?_
  refine ww_if_ne (tgt := 66) C dX5_readOrder_44 (by decide) (fun c_4 => ?_) (fun c_4 => ?_)
  · replace hf := ifF c_4 hf
    refine ww_sub C (lv' := [(0, .ref (a0 0)), (1, .int s0)]) [1, 0] rfl ?_
    exact w_X5_readOrder_66 C hf
  · replace hf := ifT c_4 hf
    refine ww_aload_n C dX5_readOrder_47 rfl 1 rfl ?_
    refine ww_get C clOK5 in_X5_readOrder_X5 (w := wQRead E a0 (rf3 (a1 0) h0_1 h0_2) v0) (fs := fsQRead a0 (rf3 (a1 0) h0_1 h0_2) v0) (v := .ref (a1 0)) 0 0 0 rfl q_QRead (by decide) (by decide +kernel) g_QRead_tokens dX5_readOrder_48 ?_
    refine ww_bipush (v := 61) C dX5_readOrder_51 (by decide) ?_
    obtain ⟨p53, hp53, hf⟩ := bdE hf
    refine ww_callV C (As := [.int 61]) (st := []) (gr := [wQRead E a0 (rf3 (a1 0) h0_1 h0_2) v0]) (c_X7_isSign (E := E) (a0 := a1) hp53) gX5_readOrder_X7_isSign rfl yk_X7_isSign ⟨by decide, by decide⟩ ⟨by decide, by decide⟩ clOK7 0 0 rfl rfl [1] [0] 2 rfl (by decide) rfl rfl (Nat.le_of_ble_eq_true rfl) dX5_readOrder_53 ?_
    rintro _ _ ⟨rfl, rfl⟩
    refine ww_perm (gs' := [wQRead E a0 (rf3 (a1 0) h0_1 h0_2) v0, wToks E a1 v1]) [1, 0] 2 rfl (by decide) rfl ?_
    refine ww_if_neB (tgt := 66) C dX5_readOrder_56 (by decide) (fun c_5 => ?_) (fun c_5 => ?_)
    · replace hf := btE c_5 hf
      refine ww_sub C (lv' := [(0, .ref (a0 0)), (1, .int s0)]) [1, 0] rfl ?_
      exact w_X5_readOrder_66 C hf
    · replace hf := bfE c_5 hf
      refine ww_aload_n C dX5_readOrder_59 rfl 1 rfl ?_
      refine ww_iconst (v := 1) C dX5_readOrder_60 (by decide) ?_
      obtain ⟨v0_61, e_v0_61⟩ : ∃ y : QReadV, y = QRead_set_error v0 1 := ⟨_, rfl⟩
      replace hf := ltE e_v0_61 hf
      refine ww_put C clOK5 in_X5_readOrder_X5 (w := wQRead E a0 (rf3 (a1 0) h0_1 h0_2) v0) (fs := fsQRead a0 (rf3 (a1 0) h0_1 h0_2) v0) (w' := wQRead E a0 (rf3 (a1 0) h0_1 h0_2) v0_61) (gs' := [wQRead E a0 (rf3 (a1 0) h0_1 h0_2) v0_61, wToks E a1 v1]) 0 0 3 rfl q_QRead (by decide) (by decide +kernel) rfl rfl rfl rfl l_QRead (by rw [e_v0_61]; exact p_QRead_error) rfl dX5_readOrder_61 ?_
      refine ww_iconst (v := 0) C dX5_readOrder_64 (by decide) ?_
      obtain rfl := Option.some.inj hf
      exact ww_iret C ⟨rfl, rfl⟩ dX5_readOrder_65

set_option maxHeartbeats 4000000 in
set_option maxRecDepth 100000 in
theorem c_X5_readOrder {E : Ex} {a0 : Nat → Nat} {a1 : Nat → Nat} {h0_1 h0_2 : Nat} {v0 : QReadV} {v1 : ToksV} {r : (Int32 × QReadV × ToksV)} (hf : QRead_readOrder v0 v1 = some r) : Ct E yX5_readOrder wsX5_readOrder rmX5_readOrder [.ref (a0 0)] [wQRead E a0 (rf3 (a1 0) h0_1 h0_2) v0, wToks E a1 v1] (fun rv g => rv = some (.int r.1) ∧ g = [wQRead E a0 (rf3 (a1 0) h0_1 h0_2) r.2.1, wToks E a1 r.2.2]) := by
  refine ct_of (own := RX5) (by decide +kernel) rfl rfl (Nat.le_of_ble_eq_true rfl) (fun K C => ?_)
  refine ww_sub C (lv' := [(0, .ref (a0 0))]) [0] rfl ?_
  rw [QRead_readOrder] at hf
  refine ww_aload_n C dX5_readOrder_0 rfl 0 rfl ?_
  refine ww_get C clOK5 in_X5_readOrder_X5 (w := wQRead E a0 (rf3 (a1 0) h0_1 h0_2) v0) (fs := fsQRead a0 (rf3 (a1 0) h0_1 h0_2) v0) (v := .int (QRead_error v0)) 0 0 3 rfl q_QRead (by decide) (by decide +kernel) g_QRead_error dX5_readOrder_1 ?_
  refine ww_if_eq (tgt := 9) C dX5_readOrder_4 (by decide) (fun c_1 => ?_) (fun c_1 => ?_)
  · replace hf := ifT c_1 hf
    refine ww_aload_n C dX5_readOrder_9 rfl 0 rfl ?_
    refine ww_get C clOK5 in_X5_readOrder_X5 (w := wQRead E a0 (rf3 (a1 0) h0_1 h0_2) v0) (fs := fsQRead a0 (rf3 (a1 0) h0_1 h0_2) v0) (v := .ref (a1 0)) 0 0 0 rfl q_QRead (by decide) (by decide +kernel) g_QRead_tokens dX5_readOrder_10 ?_
    refine ww_bipush (v := 60) C dX5_readOrder_13 (by decide) ?_
    obtain ⟨p15, hp15, hf⟩ := bdE hf
    refine ww_callV C (As := [.int 60]) (st := []) (gr := [wQRead E a0 (rf3 (a1 0) h0_1 h0_2) v0]) (c_X7_isSign (E := E) (a0 := a1) hp15) gX5_readOrder_X7_isSign rfl yk_X7_isSign ⟨by decide, by decide⟩ ⟨by decide, by decide⟩ clOK7 0 0 rfl rfl [1] [0] 2 rfl (by decide) rfl rfl (Nat.le_of_ble_eq_true rfl) dX5_readOrder_15 ?_
    rintro _ _ ⟨rfl, rfl⟩
    refine ww_perm (gs' := [wQRead E a0 (rf3 (a1 0) h0_1 h0_2) v0, wToks E a1 v1]) [1, 0] 2 rfl (by decide) rfl ?_
    refine ww_if_eqB (tgt := 25) C dX5_readOrder_18 (by decide) (fun c_2 => ?_) (fun c_2 => ?_)
    · replace hf := bfE c_2 hf
      refine ww_aload_n C dX5_readOrder_25 rfl 0 rfl ?_
      refine ww_get C clOK5 in_X5_readOrder_X5 (w := wQRead E a0 (rf3 (a1 0) h0_1 h0_2) v0) (fs := fsQRead a0 (rf3 (a1 0) h0_1 h0_2) v0) (v := .ref (a1 0)) 0 0 0 rfl q_QRead (by decide) (by decide +kernel) g_QRead_tokens dX5_readOrder_26 ?_
      refine ww_bipush (v := 62) C dX5_readOrder_29 (by decide) ?_
      obtain ⟨p31, hp31, hf⟩ := bdE hf
      refine ww_callV C (As := [.int 62]) (st := []) (gr := [wQRead E a0 (rf3 (a1 0) h0_1 h0_2) v0]) (c_X7_isSign (E := E) (a0 := a1) hp31) gX5_readOrder_X7_isSign rfl yk_X7_isSign ⟨by decide, by decide⟩ ⟨by decide, by decide⟩ clOK7 0 0 rfl rfl [1] [0] 2 rfl (by decide) rfl rfl (Nat.le_of_ble_eq_true rfl) dX5_readOrder_31 ?_
      rintro _ _ ⟨rfl, rfl⟩
      refine ww_perm (gs' := [wQRead E a0 (rf3 (a1 0) h0_1 h0_2) v0, wToks E a1 v1]) [1, 0] 2 rfl (by decide) rfl ?_
      refine ww_if_eqB (tgt := 41) C dX5_readOrder_34 (by decide) (fun c_3 => ?_) (fun c_3 => ?_)
      · replace hf := bfE c_3 hf
        refine ww_iconst (v := 0) C dX5_readOrder_41 (by decide) ?_
        refine ww_sub C (lv' := [(0, .ref (a0 0))]) [0] rfl ?_
        exact w_X5_readOrder_42 C hf
      · replace hf := btE c_3 hf
        refine ww_iconst (v := 1) C dX5_readOrder_37 (by decide) ?_
        refine ww_goto (tgt := 42) C dX5_readOrder_38 (by decide) ?_
        refine ww_sub C (lv' := [(0, .ref (a0 0))]) [0] rfl ?_
        exact w_X5_readOrder_42 C hf
    · replace hf := btE c_2 hf
      refine ww_iconst (v := (-1)) C dX5_readOrder_21 (by decide) ?_
      refine ww_goto (tgt := 42) C dX5_readOrder_22 (by decide) ?_
      refine ww_sub C (lv' := [(0, .ref (a0 0))]) [0] rfl ?_
      exact w_X5_readOrder_42 C hf
  · replace hf := ifF c_1 hf
    refine ww_iconst (v := 0) C dX5_readOrder_7 (by decide) ?_
    obtain rfl := Option.some.inj hf
    exact ww_iret C ⟨rfl, rfl⟩ dX5_readOrder_8

theorem yk_X5_readOrder : yX5_readOrder.cls = RX5 ∧ yX5_readOrder.cls ≠ "java/lang/invoke/MethodHandle" ∧ yX5_readOrder.cls ≠ "java/lang/invoke/VarHandle" ∧ (parseMethodDescriptor yX5_readOrder.desc).map (fun d => d.parameters.length) = some 0 := by decide +kernel
