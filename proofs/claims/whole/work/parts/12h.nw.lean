abbrev rmX5_readValues : Room := { frames := 7, cells := 0, slots := 0, locals := 245 }
set_option maxRecDepth 20000 in
theorem in_X5_readValues_X2 : ∀ w ∈ u_ws RX2 TX2 19, w ∈ wsX5_readValues := by decide +kernel
set_option maxRecDepth 20000 in
theorem in_X5_readValues_X5 : ∀ w ∈ u_ws RX5 TX5 5, w ∈ wsX5_readValues := by decide +kernel
set_option maxRecDepth 20000 in
theorem in_X5_readValues_X7 : ∀ w ∈ u_ws RX7 TX7 7, w ∈ wsX5_readValues := by decide +kernel
set_option maxHeartbeats 4000000 in
set_option maxRecDepth 100000 in
theorem w_X5_readValues_57 {E : Ex} {K : Kx} (C : Cx E K cX5_readValues 5 none RX5 wsX5_readValues rmX5_readValues) {a0 : Nat → Nat} {a1 : Nat → Nat} {a2 : Nat → Nat} {a3 : Nat → Nat} {q4 : Nat} {h0_1 h0_2 : Nat} {v2 : HouseV} {v3 : SightV}  {x4 : Int32} {s0 : Int32} {s1 : Int32} {v0 : QReadV} {v1 : ToksV} {v4 : Nat → Int32} {k3 : Int32 → QReadV → ToksV → (Nat → Int32) → Option (QReadV × ToksV × (Nat → Int32))} {r : (QReadV × ToksV × (Nat → Int32))} (hk3 : ∀ (x4 : Int32) (v0 : QReadV) (v1 : ToksV) (v4 : Nat → Int32), k3 x4 v0 v1 v4 = some r → WW E K 0 0 (QQ E K (fun rv g => rv = none ∧ g = [wQRead E a0 (rf3 (a1 0) h0_1 h0_2) r.1, wToks E a1 r.2.1, wHouse E a2 v2, wSight E a3 v3, wArr E q4 12 r.2.2]) 0 0) 3 [(0, .ref (a0 0)), (1, .ref (a2 0)), (2, .ref (a3 0)), (3, .ref q4), (4, .int x4)] [] [wQRead E a0 (rf3 (a1 0) h0_1 h0_2) v0, wToks E a1 v1, wHouse E a2 v2, wSight E a3 v3, wArr E q4 12 v4]) (hf : QRead_readValues_57 v2 v3 k3 x4 s0 s1 v0 v1 v4 = some r) : WW E K 0 0 (QQ E K (fun rv g => rv = none ∧ g = [wQRead E a0 (rf3 (a1 0) h0_1 h0_2) r.1, wToks E a1 r.2.1, wHouse E a2 v2, wSight E a3 v3, wArr E q4 12 r.2.2]) 0 0) 57 [(0, .ref (a0 0)), (1, .ref (a2 0)), (2, .ref (a3 0)), (3, .ref q4), (4, .int x4)] [.int s0, .int s1, .ref q4] [wQRead E a0 (rf3 (a1 0) h0_1 h0_2) v0, wToks E a1 v1, wHouse E a2 v2, wSight E a3 v3, wArr E q4 12 v4] := by
  rw [QRead_readValues_57] at hf
  obtain ⟨g_5, hf⟩ := gdE hf
  obtain ⟨v4_57, e_v4_57⟩ : ∃ y : Nat → Int32, y = upd v4 (Int32.toNatClampNeg s1) s0 := ⟨_, rfl⟩
  replace hf := ltE e_v4_57 hf
  refine ww_iast C (f := v4) (w := wArr E q4 12 v4) (w' := wArr E q4 12 v4_57) (gs' := [wQRead E a0 (rf3 (a1 0) h0_1 h0_2) v0, wToks E a1 v1, wHouse E a2 v2, wSight E a3 v3, wArr E q4 12 v4_57]) 4 0 rfl q_Arr (inB_vp g_5) (by rw [e_v4_57]; exact s_Arr) rfl dX5_readValues_57 ?_
  refine ww_aload_n C dX5_readValues_58 rfl 3 rfl ?_
  refine ww_iload C dX5_readValues_59 4 rfl ?_
  obtain ⟨g_6, hf⟩ := gdE hf
  refine ww_iald C (f := v4_57) (w := wArr E q4 12 v4_57) 4 0 rfl q_Arr (inB_vp g_6) dX5_readValues_61 ?_
  refine ww_iconst (v := (-1)) C dX5_readValues_62 (by decide) ?_
  refine ww_icmp_ne (tgt := 71) C dX5_readValues_63 (by decide) (fun c_7 => ?_) (fun c_7 => ?_)
  · replace hf := ifF c_7 hf
    obtain ⟨x4_71, e_x4_71⟩ : ∃ y : Int32, y = x4 + 1 := ⟨_, rfl⟩
    replace hf := ltE e_x4_71 hf
    refine ww_iinc (v := x4_71) (lv' := [(4, .int x4_71), (0, .ref (a0 0)), (1, .ref (a2 0)), (2, .ref (a3 0)), (3, .ref q4)]) C dX5_readValues_71 4 rfl (by rw [e_x4_71]; rfl) (by decide) rfl ?_
    refine ww_goto (tgt := 3) C dX5_readValues_74 (by decide) ?_
    refine ww_sub C (lv' := [(0, .ref (a0 0)), (1, .ref (a2 0)), (2, .ref (a3 0)), (3, .ref q4), (4, .int x4_71)]) [1, 2, 3, 4, 0] rfl ?_
    exact hk3 _ _ _ _ hf
  · replace hf := ifT c_7 hf
    refine ww_aload_n C dX5_readValues_66 rfl 0 rfl ?_
    refine ww_iconst (v := 1) C dX5_readValues_67 (by decide) ?_
    obtain ⟨v0_68, e_v0_68⟩ : ∃ y : QReadV, y = QRead_set_error v0 1 := ⟨_, rfl⟩
    replace hf := ltE e_v0_68 hf
    refine ww_put C clOK5 in_X5_readValues_X5 (w := wQRead E a0 (rf3 (a1 0) h0_1 h0_2) v0) (fs := fsQRead a0 (rf3 (a1 0) h0_1 h0_2) v0) (w' := wQRead E a0 (rf3 (a1 0) h0_1 h0_2) v0_68) (gs' := [wQRead E a0 (rf3 (a1 0) h0_1 h0_2) v0_68, wToks E a1 v1, wHouse E a2 v2, wSight E a3 v3, wArr E q4 12 v4_57]) 0 0 3 rfl q_QRead (by decide) (by decide +kernel) rfl rfl rfl rfl l_QRead (by rw [e_v0_68]; exact p_QRead_error) rfl dX5_readValues_68 ?_
    obtain ⟨x4_71, e_x4_71⟩ : ∃ y : Int32, y = x4 + 1 := ⟨_, rfl⟩
    replace hf := ltE e_x4_71 hf
    refine ww_iinc (v := x4_71) (lv' := [(4, .int x4_71), (0, .ref (a0 0)), (1, .ref (a2 0)), (2, .ref (a3 0)), (3, .ref q4)]) C dX5_readValues_71 4 rfl (by rw [e_x4_71]; rfl) (by decide) rfl ?_
    refine ww_goto (tgt := 3) C dX5_readValues_74 (by decide) ?_
    refine ww_sub C (lv' := [(0, .ref (a0 0)), (1, .ref (a2 0)), (2, .ref (a3 0)), (3, .ref q4), (4, .int x4_71)]) [1, 2, 3, 4, 0] rfl ?_
    exact hk3 _ _ _ _ hf

set_option maxHeartbeats 4000000 in
set_option maxRecDepth 100000 in
theorem w_X5_readValues_112 {E : Ex} {K : Kx} (C : Cx E K cX5_readValues 5 none RX5 wsX5_readValues rmX5_readValues) {a0 : Nat → Nat} {a1 : Nat → Nat} {a2 : Nat → Nat} {a3 : Nat → Nat} {q4 : Nat} {h0_1 h0_2 : Nat} {v2 : HouseV} {v3 : SightV}  {v0 : QReadV} {v1 : ToksV} {v4 : Nat → Int32} {r : (QReadV × ToksV × (Nat → Int32))} (hf : QRead_readValues_112 v2 v3 v0 v1 v4 = some r) : WW E K 0 0 (QQ E K (fun rv g => rv = none ∧ g = [wQRead E a0 (rf3 (a1 0) h0_1 h0_2) r.1, wToks E a1 r.2.1, wHouse E a2 v2, wSight E a3 v3, wArr E q4 12 r.2.2]) 0 0) 112 [(0, .ref (a0 0))] [] [wQRead E a0 (rf3 (a1 0) h0_1 h0_2) v0, wToks E a1 v1, wHouse E a2 v2, wSight E a3 v3, wArr E q4 12 v4] := by
  rw [QRead_readValues_112] at hf
  refine ww_aload_n C dX5_readValues_112 rfl 0 rfl ?_
  refine ww_get C clOK5 in_X5_readValues_X5 (w := wQRead E a0 (rf3 (a1 0) h0_1 h0_2) v0) (fs := fsQRead a0 (rf3 (a1 0) h0_1 h0_2) v0) (v := .int (QRead_error v0)) 0 0 3 rfl q_QRead (by decide) (by decide +kernel) g_QRead_error dX5_readValues_113 ?_
  refine ww_if_ne (tgt := 126) C dX5_readValues_116 (by decide) (fun c_11 => ?_) (fun c_11 => ?_)
  · replace hf := ifF c_11 hf
    obtain rfl := Option.some.inj hf
    exact ww_vret C ⟨rfl, rfl⟩ dX5_readValues_126
  · replace hf := ifT c_11 hf
    refine ww_aload_n C dX5_readValues_119 rfl 0 rfl ?_
    refine ww_get C clOK5 in_X5_readValues_X5 (w := wQRead E a0 (rf3 (a1 0) h0_1 h0_2) v0) (fs := fsQRead a0 (rf3 (a1 0) h0_1 h0_2) v0) (v := .ref (a1 0)) 0 0 0 rfl q_QRead (by decide) (by decide +kernel) g_QRead_tokens dX5_readValues_120 ?_
    obtain ⟨p123, hp123, hf⟩ := bdE hf
    refine ww_callV C (As := []) (st := []) (gr := [wQRead E a0 (rf3 (a1 0) h0_1 h0_2) v0, wHouse E a2 v2, wSight E a3 v3, wArr E q4 12 v4]) (c_X7_advance (E := E) (a0 := a1) hp123) gX5_readValues_X7_advance rfl yk_X7_advance ⟨by decide, by decide⟩ ⟨by decide, by decide⟩ clOK7 0 0 rfl rfl [1] [0, 2, 3, 4] 5 rfl (by decide) rfl rfl (Nat.le_of_ble_eq_true rfl) dX5_readValues_123 ?_
    rintro _ _ ⟨rfl, rfl⟩
    refine ww_perm (gs' := [wQRead E a0 (rf3 (a1 0) h0_1 h0_2) v0, wToks E a1 p123, wHouse E a2 v2, wSight E a3 v3, wArr E q4 12 v4]) [1, 0, 2, 3, 4] 5 rfl (by decide) rfl ?_
    obtain rfl := Option.some.inj hf
    exact ww_vret C ⟨rfl, rfl⟩ dX5_readValues_126

set_option maxHeartbeats 4000000 in
set_option maxRecDepth 100000 in
theorem w_X5_readValues_77 {E : Ex} {K : Kx} (C : Cx E K cX5_readValues 5 none RX5 wsX5_readValues rmX5_readValues) {a0 : Nat → Nat} {a1 : Nat → Nat} {a2 : Nat → Nat} {a3 : Nat → Nat} {q4 : Nat} {h0_1 h0_2 : Nat} {v2 : HouseV} {v3 : SightV}  {v0 : QReadV} {v1 : ToksV} {v4 : Nat → Int32} {r : (QReadV × ToksV × (Nat → Int32))} (hf : QRead_readValues_77 v2 v3 v0 v1 v4 = some r) : WW E K 0 0 (QQ E K (fun rv g => rv = none ∧ g = [wQRead E a0 (rf3 (a1 0) h0_1 h0_2) r.1, wToks E a1 r.2.1, wHouse E a2 v2, wSight E a3 v3, wArr E q4 12 r.2.2]) 0 0) 77 [(0, .ref (a0 0))] [] [wQRead E a0 (rf3 (a1 0) h0_1 h0_2) v0, wToks E a1 v1, wHouse E a2 v2, wSight E a3 v3, wArr E q4 12 v4] := by
  rw [QRead_readValues_77] at hf
  refine ww_aload_n C dX5_readValues_77 rfl 0 rfl ?_
  refine ww_get C clOK5 in_X5_readValues_X5 (w := wQRead E a0 (rf3 (a1 0) h0_1 h0_2) v0) (fs := fsQRead a0 (rf3 (a1 0) h0_1 h0_2) v0) (v := .int (QRead_error v0)) 0 0 3 rfl q_QRead (by decide) (by decide +kernel) g_QRead_error dX5_readValues_78 ?_
  refine ww_if_ne (tgt := 112) C dX5_readValues_81 (by decide) (fun c_8 => ?_) (fun c_8 => ?_)
  · replace hf := ifF c_8 hf
    refine ww_sub C (lv' := [(0, .ref (a0 0))]) [0] rfl ?_
    exact w_X5_readValues_112 C hf
  · replace hf := ifT c_8 hf
    refine ww_aload_n C dX5_readValues_84 rfl 0 rfl ?_
    refine ww_get C clOK5 in_X5_readValues_X5 (w := wQRead E a0 (rf3 (a1 0) h0_1 h0_2) v0) (fs := fsQRead a0 (rf3 (a1 0) h0_1 h0_2) v0) (v := .ref (a1 0)) 0 0 0 rfl q_QRead (by decide) (by decide +kernel) g_QRead_tokens dX5_readValues_85 ?_
    obtain ⟨p88, hp88, hf⟩ := bdE hf
    refine ww_callV C (As := []) (st := []) (gr := [wQRead E a0 (rf3 (a1 0) h0_1 h0_2) v0, wHouse E a2 v2, wSight E a3 v3, wArr E q4 12 v4]) (c_X7_isNumber (E := E) (a0 := a1) hp88) gX5_readValues_X7_isNumber rfl yk_X7_isNumber ⟨by decide, by decide⟩ ⟨by decide, by decide⟩ clOK7 0 0 rfl rfl [1] [0, 2, 3, 4] 5 rfl (by decide) rfl rfl (Nat.le_of_ble_eq_true rfl) dX5_readValues_88 ?_
    rintro _ _ ⟨rfl, rfl⟩
    refine ww_perm (gs' := [wQRead E a0 (rf3 (a1 0) h0_1 h0_2) v0, wToks E a1 v1, wHouse E a2 v2, wSight E a3 v3, wArr E q4 12 v4]) [1, 0, 2, 3, 4] 5 rfl (by decide) rfl ?_
    refine ww_if_eqB (tgt := 112) C dX5_readValues_91 (by decide) (fun c_9 => ?_) (fun c_9 => ?_)
    · replace hf := bfE c_9 hf
      refine ww_sub C (lv' := [(0, .ref (a0 0))]) [0] rfl ?_
      exact w_X5_readValues_112 C hf
    · replace hf := btE c_9 hf
      refine ww_aload_n C dX5_readValues_94 rfl 0 rfl ?_
      refine ww_get C clOK5 in_X5_readValues_X5 (w := wQRead E a0 (rf3 (a1 0) h0_1 h0_2) v0) (fs := fsQRead a0 (rf3 (a1 0) h0_1 h0_2) v0) (v := .ref (a1 0)) 0 0 0 rfl q_QRead (by decide) (by decide +kernel) g_QRead_tokens dX5_readValues_95 ?_
      refine ww_get C clOK7 in_X5_readValues_X7 (w := wToks E a1 v1) (fs := fsToks a1 v1) (v := .int (Toks_number v1)) 1 0 3 rfl q_Toks (by decide) (by decide +kernel) g_Toks_number dX5_readValues_98 ?_
      refine ww_sipush (v := 9999) C dX5_readValues_101 (by decide) ?_
      refine ww_icmp_le (tgt := 112) C dX5_readValues_104 (by decide) (fun c_10 => ?_) (fun c_10 => ?_)
      · replace hf := ifT c_10 hf
        refine ww_sub C (lv' := [(0, .ref (a0 0))]) [0] rfl ?_
        exact w_X5_readValues_112 C hf
      · replace hf := ifF c_10 hf
        refine ww_aload_n C dX5_readValues_107 rfl 0 rfl ?_
        refine ww_iconst (v := 2) C dX5_readValues_108 (by decide) ?_
        obtain ⟨v0_109, e_v0_109⟩ : ∃ y : QReadV, y = QRead_set_error v0 2 := ⟨_, rfl⟩
        replace hf := ltE e_v0_109 hf
        refine ww_put C clOK5 in_X5_readValues_X5 (w := wQRead E a0 (rf3 (a1 0) h0_1 h0_2) v0) (fs := fsQRead a0 (rf3 (a1 0) h0_1 h0_2) v0) (w' := wQRead E a0 (rf3 (a1 0) h0_1 h0_2) v0_109) (gs' := [wQRead E a0 (rf3 (a1 0) h0_1 h0_2) v0_109, wToks E a1 v1, wHouse E a2 v2, wSight E a3 v3, wArr E q4 12 v4]) 0 0 3 rfl q_QRead (by decide) (by decide +kernel) rfl rfl rfl rfl l_QRead (by rw [e_v0_109]; exact p_QRead_error) rfl dX5_readValues_109 ?_
        refine ww_sub C (lv' := [(0, .ref (a0 0))]) [0] rfl ?_
        exact w_X5_readValues_112 C hf

set_option maxHeartbeats 4000000 in
set_option maxRecDepth 100000 in
theorem w_X5_readValues_3 {E : Ex} {K : Kx} (C : Cx E K cX5_readValues 5 none RX5 wsX5_readValues rmX5_readValues) {a0 : Nat → Nat} {a1 : Nat → Nat} {a2 : Nat → Nat} {a3 : Nat → Nat} {q4 : Nat} {h0_1 h0_2 : Nat} {v2 : HouseV} {v3 : SightV}  {r : (QReadV × ToksV × (Nat → Int32))} : ∀ (n : Nat) (x4 : Int32) (v0 : QReadV) (v1 : ToksV) (v4 : Nat → Int32), QRead_readValues_3 v2 v3 n x4 v0 v1 v4 = some r → WW E K 0 0 (QQ E K (fun rv g => rv = none ∧ g = [wQRead E a0 (rf3 (a1 0) h0_1 h0_2) r.1, wToks E a1 r.2.1, wHouse E a2 v2, wSight E a3 v3, wArr E q4 12 r.2.2]) 0 0) 3 [(0, .ref (a0 0)), (1, .ref (a2 0)), (2, .ref (a3 0)), (3, .ref q4), (4, .int x4)] [] [wQRead E a0 (rf3 (a1 0) h0_1 h0_2) v0, wToks E a1 v1, wHouse E a2 v2, wSight E a3 v3, wArr E q4 12 v4] := by
  intro n
  induction n with
  | zero =>
    intro x4 v0 v1 v4 hf
    simp [QRead_readValues_3] at hf
  | succ n ih =>
    intro x4 v0 v1 v4 hf
    rw [QRead_readValues_3] at hf
    refine ww_iload C dX5_readValues_3 4 rfl ?_
    refine ww_aload_n C dX5_readValues_5 rfl 1 rfl ?_
    refine ww_get C clOK2 in_X5_readValues_X2 (w := wHouse E a2 v2) (fs := fsHouse a2 v2) (v := .int (House_rooms v2)) 2 0 0 rfl q_House (by decide) (by decide +kernel) g_House_rooms dX5_readValues_6 ?_
    refine ww_icmp_ge (tgt := 77) C dX5_readValues_9 (by decide) (fun c_1 => ?_) (fun c_1 => ?_)
    · replace hf := ifT c_1 hf
      refine ww_sub C (lv' := [(0, .ref (a0 0))]) [0] rfl ?_
      exact w_X5_readValues_77 C hf
    · replace hf := ifF c_1 hf
      refine ww_iload C dX5_readValues_12 4 rfl ?_
      refine ww_aload_n C dX5_readValues_14 rfl 3 rfl ?_
      refine ww_alen C (v := 12) (w := wArr E q4 12 v4) 4 0 rfl q_Arr rfl dX5_readValues_15 ?_
      refine ww_icmp_ge (tgt := 77) C dX5_readValues_16 (by decide) (fun c_2 => ?_) (fun c_2 => ?_)
      · replace hf := ifT c_2 hf
        refine ww_sub C (lv' := [(0, .ref (a0 0))]) [0] rfl ?_
        exact w_X5_readValues_77 C hf
      · replace hf := ifF c_2 hf
        refine ww_aload_n C dX5_readValues_19 rfl 0 rfl ?_
        refine ww_get C clOK5 in_X5_readValues_X5 (w := wQRead E a0 (rf3 (a1 0) h0_1 h0_2) v0) (fs := fsQRead a0 (rf3 (a1 0) h0_1 h0_2) v0) (v := .int (QRead_error v0)) 0 0 3 rfl q_QRead (by decide) (by decide +kernel) g_QRead_error dX5_readValues_20 ?_
        refine ww_if_ne (tgt := 77) C dX5_readValues_23 (by decide) (fun c_3 => ?_) (fun c_3 => ?_)
        · replace hf := ifF c_3 hf
          refine ww_sub C (lv' := [(0, .ref (a0 0))]) [0] rfl ?_
          exact w_X5_readValues_77 C hf
        · replace hf := ifT c_3 hf
          refine ww_aload_n C dX5_readValues_26 rfl 3 rfl ?_
          refine ww_iload C dX5_readValues_27 4 rfl ?_
          refine ww_aload_n C dX5_readValues_29 rfl 0 rfl ?_
          refine ww_get C clOK5 in_X5_readValues_X5 (w := wQRead E a0 (rf3 (a1 0) h0_1 h0_2) v0) (fs := fsQRead a0 (rf3 (a1 0) h0_1 h0_2) v0) (v := .ref (a1 0)) 0 0 0 rfl q_QRead (by decide) (by decide +kernel) g_QRead_tokens dX5_readValues_30 ?_
          obtain ⟨p33, hp33, hf⟩ := bdE hf
          refine ww_callV C (As := []) (st := [.int x4, .ref q4]) (gr := [wQRead E a0 (rf3 (a1 0) h0_1 h0_2) v0, wHouse E a2 v2, wSight E a3 v3, wArr E q4 12 v4]) (c_X7_isNumber (E := E) (a0 := a1) hp33) gX5_readValues_X7_isNumber rfl yk_X7_isNumber ⟨by decide, by decide⟩ ⟨by decide, by decide⟩ clOK7 0 0 rfl rfl [1] [0, 2, 3, 4] 5 rfl (by decide) rfl rfl (Nat.le_of_ble_eq_true rfl) dX5_readValues_33 ?_
          rintro _ _ ⟨rfl, rfl⟩
          refine ww_perm (gs' := [wQRead E a0 (rf3 (a1 0) h0_1 h0_2) v0, wToks E a1 v1, wHouse E a2 v2, wSight E a3 v3, wArr E q4 12 v4]) [1, 0, 2, 3, 4] 5 rfl (by decide) rfl ?_
          refine ww_if_eqB (tgt := 49) C dX5_readValues_36 (by decide) (fun c_4 => ?_) (fun c_4 => ?_)
          · replace hf := bfE c_4 hf
            refine ww_aload_n C dX5_readValues_49 rfl 0 rfl ?_
            refine ww_aload_n C dX5_readValues_50 rfl 1 rfl ?_
            refine ww_aload_n C dX5_readValues_51 rfl 2 rfl ?_
            refine ww_iload C dX5_readValues_52 4 rfl ?_
            obtain ⟨p54, hp54, hf⟩ := bdE hf
            refine ww_callV C (As := [.ref (a2 0), .ref (a3 0), .int x4]) (st := [.int x4, .ref q4]) (gr := [wArr E q4 12 v4]) (c_X5_propertyOf (E := E) (a0 := a0) (h0_1 := h0_1) (h0_2 := h0_2) (a1 := a1) (a2 := a2) (a3 := a3) hp54) gX5_readValues_X5_propertyOf rfl yk_X5_propertyOf ⟨by decide, by decide⟩ ⟨by decide, by decide⟩ clOK5 0 0 rfl rfl [0, 1, 2, 3] [4] 5 rfl (by decide) rfl rfl (Nat.le_of_ble_eq_true rfl) dX5_readValues_54 ?_
            rintro _ _ ⟨rfl, rfl⟩
            refine ww_perm (gs' := [wQRead E a0 (rf3 (a1 0) h0_1 h0_2) v0, wToks E a1 v1, wHouse E a2 v2, wSight E a3 v3, wArr E q4 12 v4]) [0, 1, 2, 3, 4] 5 rfl (by decide) rfl ?_
            refine ww_sub C (lv' := [(0, .ref (a0 0)), (1, .ref (a2 0)), (2, .ref (a3 0)), (3, .ref q4), (4, .int x4)]) [0, 1, 2, 3, 4] rfl ?_
            exact w_X5_readValues_57 C (k3 := (fun (x4 : Int32) (v0 : QReadV) (v1 : ToksV) (v4 : Nat → Int32) => QRead_readValues_3 v2 v3 n x4 v0 v1 v4)) ih hf
          · replace hf := btE c_4 hf
            refine ww_aload_n C dX5_readValues_39 rfl 0 rfl ?_
            refine ww_get C clOK5 in_X5_readValues_X5 (w := wQRead E a0 (rf3 (a1 0) h0_1 h0_2) v0) (fs := fsQRead a0 (rf3 (a1 0) h0_1 h0_2) v0) (v := .ref (a1 0)) 0 0 0 rfl q_QRead (by decide) (by decide +kernel) g_QRead_tokens dX5_readValues_40 ?_
            refine ww_get C clOK7 in_X5_readValues_X7 (w := wToks E a1 v1) (fs := fsToks a1 v1) (v := .int (Toks_number v1)) 1 0 3 rfl q_Toks (by decide) (by decide +kernel) g_Toks_number dX5_readValues_43 ?_
            refine ww_goto (tgt := 57) C dX5_readValues_46 (by decide) ?_
            refine ww_sub C (lv' := [(0, .ref (a0 0)), (1, .ref (a2 0)), (2, .ref (a3 0)), (3, .ref q4), (4, .int x4)]) [0, 1, 2, 3, 4] rfl ?_
            exact w_X5_readValues_57 C (k3 := (fun (x4 : Int32) (v0 : QReadV) (v1 : ToksV) (v4 : Nat → Int32) => QRead_readValues_3 v2 v3 n x4 v0 v1 v4)) ih hf

set_option maxHeartbeats 4000000 in
set_option maxRecDepth 100000 in
theorem c_X5_readValues {E : Ex} {a0 : Nat → Nat} {a1 : Nat → Nat} {a2 : Nat → Nat} {a3 : Nat → Nat} {q4 : Nat} {h0_1 h0_2 : Nat} {v0 : QReadV} {v1 : ToksV} {v2 : HouseV} {v3 : SightV} {v4 : Nat → Int32} {r : (QReadV × ToksV × (Nat → Int32))} (hf : QRead_readValues v0 v1 v2 v3 v4 = some r) : Ct E yX5_readValues wsX5_readValues rmX5_readValues [.ref (a0 0), .ref (a2 0), .ref (a3 0), .ref q4] [wQRead E a0 (rf3 (a1 0) h0_1 h0_2) v0, wToks E a1 v1, wHouse E a2 v2, wSight E a3 v3, wArr E q4 12 v4] (fun rv g => rv = none ∧ g = [wQRead E a0 (rf3 (a1 0) h0_1 h0_2) r.1, wToks E a1 r.2.1, wHouse E a2 v2, wSight E a3 v3, wArr E q4 12 r.2.2]) := by
  refine ct_of (own := RX5) (by decide +kernel) rfl rfl (Nat.le_of_ble_eq_true rfl) (fun K C => ?_)
  refine ww_sub C (lv' := [(0, .ref (a0 0)), (1, .ref (a2 0)), (2, .ref (a3 0)), (3, .ref q4)]) [0, 1, 2, 3] rfl ?_
  rw [QRead_readValues] at hf
  refine ww_iconst (v := 0) C dX5_readValues_0 (by decide) ?_
  refine ww_istore (lv' := [(4, .int 0), (0, .ref (a0 0)), (1, .ref (a2 0)), (2, .ref (a3 0)), (3, .ref q4)]) C dX5_readValues_1 (by decide) rfl ?_
  refine ww_sub C (lv' := [(0, .ref (a0 0)), (1, .ref (a2 0)), (2, .ref (a3 0)), (3, .ref q4), (4, .int 0)]) [1, 2, 3, 4, 0] rfl ?_
  exact w_X5_readValues_3 C FU _ _ _ _ hf

theorem yk_X5_readValues : yX5_readValues.cls = RX5 ∧ yX5_readValues.cls ≠ "java/lang/invoke/MethodHandle" ∧ yX5_readValues.cls ≠ "java/lang/invoke/VarHandle" ∧ (parseMethodDescriptor yX5_readValues.desc).map (fun d => d.parameters.length) = some 3 := by decide +kernel
abbrev rmX5_compareRows : Room := { frames := 1, cells := 0, slots := 0, locals := 22 }
set_option maxRecDepth 20000 in
theorem in_X5_compareRows_X2 : ∀ w ∈ u_ws RX2 TX2 19, w ∈ wsX5_compareRows := by decide +kernel
set_option maxRecDepth 20000 in
theorem in_X5_compareRows_X5 : ∀ w ∈ u_ws RX5 TX5 5, w ∈ wsX5_compareRows := by decide +kernel
set_option maxHeartbeats 4000000 in
set_option maxRecDepth 100000 in
theorem w_X5_compareRows_5 {E : Ex} {K : Kx} (C : Cx E K cX5_compareRows 5 (some .int) RX5 wsX5_compareRows rmX5_compareRows) {a0 : Nat → Nat} {a1 : Nat → Nat} {q2 : Nat} {q3 : Nat} {h0_0 : Nat} {x2 : Int32} {v0 : QReadV} {v1 : HouseV} {v2 : Nat → Int32} {v3 : Nat → Int32}  {r : Int32} : ∀ (n : Nat) (x3 : Int32) (x4 : Int32), QRead_compareRows_5 x2 v0 v1 v2 v3 n x3 x4 = some r → WW E K 0 0 (QQ E K (fun rv g => rv = some (.int r) ∧ g = [wQRead E a0 (rf3 h0_0 q2 q3) v0, wHouse E a1 v1, wArr E q2 12 v2, wArr E q3 12 v3]) 0 0) 5 [(0, .ref (a0 0)), (1, .ref (a1 0)), (2, .int x2), (3, .int x3), (4, .int x4)] [] [wQRead E a0 (rf3 h0_0 q2 q3) v0, wHouse E a1 v1, wArr E q2 12 v2, wArr E q3 12 v3] := by
  intro n
  induction n with
  | zero =>
    intro x3 x4 hf
    simp [QRead_compareRows_5] at hf
  | succ n ih =>
    intro x3 x4 hf
    rw [QRead_compareRows_5] at hf
    refine ww_iload C dX5_compareRows_5 4 rfl ?_
    refine ww_aload_n C dX5_compareRows_7 rfl 1 rfl ?_
    refine ww_get C clOK2 in_X5_compareRows_X2 (w := wHouse E a1 v1) (fs := fsHouse a1 v1) (v := .int (House_rooms v1)) 1 0 0 rfl q_House (by decide) (by decide +kernel) g_House_rooms dX5_compareRows_8 ?_
    refine ww_icmp_ge (tgt := 55) C dX5_compareRows_11 (by decide) (fun c_1 => ?_) (fun c_1 => ?_)
    · replace hf := ifT c_1 hf
      refine ww_iload_n C dX5_compareRows_55 rfl 3 rfl ?_
      obtain rfl := Option.some.inj hf
      exact ww_iret C ⟨rfl, rfl⟩ dX5_compareRows_56
    · replace hf := ifF c_1 hf
      refine ww_iload C dX5_compareRows_14 4 rfl ?_
      refine ww_bipush (v := 12) C dX5_compareRows_16 (by decide) ?_
      refine ww_icmp_ge (tgt := 55) C dX5_compareRows_18 (by decide) (fun c_2 => ?_) (fun c_2 => ?_)
      · replace hf := ifT c_2 hf
        refine ww_iload_n C dX5_compareRows_55 rfl 3 rfl ?_
        obtain rfl := Option.some.inj hf
        exact ww_iret C ⟨rfl, rfl⟩ dX5_compareRows_56
      · replace hf := ifF c_2 hf
        refine ww_aload_n C dX5_compareRows_21 rfl 0 rfl ?_
        refine ww_get C clOK5 in_X5_compareRows_X5 (w := wQRead E a0 (rf3 h0_0 q2 q3) v0) (fs := fsQRead a0 (rf3 h0_0 q2 q3) v0) (v := .ref q2) 0 0 1 rfl q_QRead (by decide) (by decide +kernel) g_QRead_left dX5_compareRows_22 ?_
        refine ww_iload C dX5_compareRows_25 4 rfl ?_
        obtain ⟨g_3, hf⟩ := gdE hf
        refine ww_iald C (f := v2) (w := wArr E q2 12 v2) 2 0 rfl q_Arr (inB_vp g_3) dX5_compareRows_27 ?_
        refine ww_aload_n C dX5_compareRows_28 rfl 0 rfl ?_
        refine ww_get C clOK5 in_X5_compareRows_X5 (w := wQRead E a0 (rf3 h0_0 q2 q3) v0) (fs := fsQRead a0 (rf3 h0_0 q2 q3) v0) (v := .ref q3) 0 0 2 rfl q_QRead (by decide) (by decide +kernel) g_QRead_right dX5_compareRows_29 ?_
        refine ww_iload C dX5_compareRows_32 4 rfl ?_
        refine ww_iald C (f := v3) (w := wArr E q3 12 v3) 3 0 rfl q_Arr (inB_vp g_3) dX5_compareRows_34 ?_
        refine ww_iload_n C dX5_compareRows_35 rfl 2 rfl ?_
        obtain ⟨p36, hp36, hf⟩ := bdE hf
        refine ww_callS C (As := [.int (v2 (Int32.toNatClampNeg x4)), .int (v3 (Int32.toNatClampNeg x4)), .int x2]) (st := []) (gr := [wQRead E a0 (rf3 h0_0 q2 q3) v0, wHouse E a1 v1, wArr E q2 12 v2, wArr E q3 12 v3]) (c_X5_isOrdered (E := E)  hp36) gX5_compareRows_X5_isOrdered rfl ysk_X5_isOrdered ⟨by decide, by decide⟩ ⟨by decide, by decide⟩ [] [0, 1, 2, 3] 4 rfl (by decide) rfl rfl (Nat.le_of_ble_eq_true rfl) dX5_compareRows_36 ?_
        rintro _ _ ⟨rfl, rfl⟩
        refine ww_perm (gs' := [wQRead E a0 (rf3 h0_0 q2 q3) v0, wHouse E a1 v1, wArr E q2 12 v2, wArr E q3 12 v3]) [0, 1, 2, 3] 4 rfl (by decide) rfl ?_
        refine ww_if_eqB (tgt := 49) C dX5_compareRows_39 (by decide) (fun c_4 => ?_) (fun c_4 => ?_)
        · replace hf := bfE c_4 hf
          obtain ⟨x4_49, e_x4_49⟩ : ∃ y : Int32, y = x4 + 1 := ⟨_, rfl⟩
          replace hf := ltE e_x4_49 hf
          refine ww_iinc (v := x4_49) (lv' := [(4, .int x4_49), (0, .ref (a0 0)), (1, .ref (a1 0)), (2, .int x2), (3, .int x3)]) C dX5_compareRows_49 4 rfl (by rw [e_x4_49]; rfl) (by decide) rfl ?_
          refine ww_goto (tgt := 5) C dX5_compareRows_52 (by decide) ?_
          refine ww_sub C (lv' := [(0, .ref (a0 0)), (1, .ref (a1 0)), (2, .int x2), (3, .int x3), (4, .int x4_49)]) [1, 2, 3, 4, 0] rfl ?_
          exact ih _ _ hf
        · replace hf := btE c_4 hf
          refine ww_iload_n C dX5_compareRows_42 rfl 3 rfl ?_
          refine ww_iconst (v := 1) C dX5_compareRows_43 (by decide) ?_
          refine ww_iload C dX5_compareRows_44 4 rfl ?_
          refine ww_ishl C dX5_compareRows_46 ?_
          refine ww_ior C dX5_compareRows_47 ?_
          refine ww_topi (fun x3_48 e_x3_48 => ?_)
          replace hf := ltE e_x3_48 hf
          refine ww_istore_n (lv' := [(3, .int x3_48), (0, .ref (a0 0)), (1, .ref (a1 0)), (2, .int x2), (4, .int x4)]) C dX5_compareRows_48 rfl (by decide) rfl ?_
          obtain ⟨x4_49, e_x4_49⟩ : ∃ y : Int32, y = x4 + 1 := ⟨_, rfl⟩
          replace hf := ltE e_x4_49 hf
          refine ww_iinc (v := x4_49) (lv' := [(4, .int x4_49), (3, .int x3_48), (0, .ref (a0 0)), (1, .ref (a1 0)), (2, .int x2)]) C dX5_compareRows_49 4 rfl (by rw [e_x4_49]; rfl) (by decide) rfl ?_
          refine ww_goto (tgt := 5) C dX5_compareRows_52 (by decide) ?_
          refine ww_sub C (lv' := [(0, .ref (a0 0)), (1, .ref (a1 0)), (2, .int x2), (3, .int x3_48), (4, .int x4_49)]) [2, 3, 4, 1, 0] rfl ?_
          exact ih _ _ hf

set_option maxHeartbeats 4000000 in
set_option maxRecDepth 100000 in
theorem c_X5_compareRows {E : Ex} {a0 : Nat → Nat} {a1 : Nat → Nat} {q2 : Nat} {q3 : Nat} {h0_0 : Nat} {x2 : Int32} {v0 : QReadV} {v1 : HouseV} {v2 : Nat → Int32} {v3 : Nat → Int32} {r : Int32} (hf : QRead_compareRows x2 v0 v1 v2 v3 = some r) : Ct E yX5_compareRows wsX5_compareRows rmX5_compareRows [.ref (a0 0), .ref (a1 0), .int x2] [wQRead E a0 (rf3 h0_0 q2 q3) v0, wHouse E a1 v1, wArr E q2 12 v2, wArr E q3 12 v3] (fun rv g => rv = some (.int r) ∧ g = [wQRead E a0 (rf3 h0_0 q2 q3) v0, wHouse E a1 v1, wArr E q2 12 v2, wArr E q3 12 v3]) := by
  refine ct_of (own := RX5) (by decide +kernel) rfl rfl (Nat.le_of_ble_eq_true rfl) (fun K C => ?_)
  refine ww_sub C (lv' := [(0, .ref (a0 0)), (1, .ref (a1 0)), (2, .int x2)]) [0, 1, 2] rfl ?_
  rw [QRead_compareRows] at hf
  refine ww_iconst (v := 0) C dX5_compareRows_0 (by decide) ?_
  refine ww_istore_n (lv' := [(3, .int 0), (0, .ref (a0 0)), (1, .ref (a1 0)), (2, .int x2)]) C dX5_compareRows_1 rfl (by decide) rfl ?_
  refine ww_iconst (v := 0) C dX5_compareRows_2 (by decide) ?_
  refine ww_istore (lv' := [(4, .int 0), (3, .int 0), (0, .ref (a0 0)), (1, .ref (a1 0)), (2, .int x2)]) C dX5_compareRows_3 (by decide) rfl ?_
  refine ww_sub C (lv' := [(0, .ref (a0 0)), (1, .ref (a1 0)), (2, .int x2), (3, .int 0), (4, .int 0)]) [2, 3, 4, 1, 0] rfl ?_
  exact w_X5_compareRows_5 C FU _ _ hf

theorem yk_X5_compareRows : yX5_compareRows.cls = RX5 ∧ yX5_compareRows.cls ≠ "java/lang/invoke/MethodHandle" ∧ yX5_compareRows.cls ≠ "java/lang/invoke/VarHandle" ∧ (parseMethodDescriptor yX5_compareRows.desc).map (fun d => d.parameters.length) = some 2 := by decide +kernel
abbrev rmX5_readNested (k : Nat) : Room := { frames := 20 + 8 * k, cells := 0, slots := 0, locals := 1000 + 400 * k }
def HN_X5_readNested (E : Ex) (k : Nat) (a0 : Nat → Nat) (a1 : Nat → Nat) (a2 : Nat → Nat) (a3 : Nat → Nat) (q4 : Nat) (q5 : Nat) (FN : nestQT) : Prop := ∀ (x3 : Int32) (v0 : QReadV) (v1 : ToksV) (v2 : HouseV) (v3 : SightV) (v4 : Nat → Int32) (v5 : Nat → Int32) (r : (Int32 × QReadV × ToksV × (Nat → Int32) × (Nat → Int32))), FN x3 v0 v1 v2 v3 v4 v5 = some r → Ct E yX5_readNested wsX5_readNested (rmX5_readNested k) [.ref (a0 0), .ref (a2 0), .ref (a3 0), .int x3] [wQRead E a0 (rf3 (a1 0) q4 q5) v0, wToks E a1 v1, wHouse E a2 v2, wSight E a3 v3, wArr E q4 12 v4, wArr E q5 12 v5] (fun rv g => rv = some (.int r.1) ∧ g = [wQRead E a0 (rf3 (a1 0) q4 q5) r.2.1, wToks E a1 r.2.2.1, wHouse E a2 v2, wSight E a3 v3, wArr E q4 12 r.2.2.2.1, wArr E q5 12 r.2.2.2.2])
theorem yk_X5_readNested : yX5_readNested.cls = RX5 ∧ yX5_readNested.cls ≠ "java/lang/invoke/MethodHandle" ∧ yX5_readNested.cls ≠ "java/lang/invoke/VarHandle" ∧ (parseMethodDescriptor yX5_readNested.desc).map (fun d => d.parameters.length) = some 3 := by decide +kernel
abbrev rmX5_readFactor (k : Nat) : Room := { frames := 22 + 8 * k, cells := 0, slots := 0, locals := 1100 + 400 * k }
set_option maxRecDepth 20000 in
theorem in_X5_readFactor_X5 : ∀ w ∈ u_ws RX5 TX5 5, w ∈ wsX5_readFactor := by decide +kernel
set_option maxHeartbeats 4000000 in
set_option maxRecDepth 100000 in
theorem w_X5_readFactor_24 {E : Ex} {K : Kx} {k : Nat} (C : Cx E K cX5_readFactor 5 (some .int) RX5 wsX5_readFactor (rmX5_readFactor k)) {a0 : Nat → Nat} {a1 : Nat → Nat} {a2 : Nat → Nat} {a3 : Nat → Nat} {q4 : Nat} {q5 : Nat} {FN : nestQT} {x3 : Int32} {v2 : HouseV} {v3 : SightV}  {v0 : QReadV} {v1 : ToksV} {v4 : Nat → Int32} {v5 : Nat → Int32} {r : (Int32 × QReadV × ToksV × (Nat → Int32) × (Nat → Int32))} (hN : HN_X5_readNested E k a0 a1 a2 a3 q4 q5 FN) (hf : QRead_readFactor_24 FN x3 v2 v3 v0 v1 v4 v5 = some r) : WW E K 0 0 (QQ E K (fun rv g => rv = some (.int r.1) ∧ g = [wQRead E a0 (rf3 (a1 0) q4 q5) r.2.1, wToks E a1 r.2.2.1, wHouse E a2 v2, wSight E a3 v3, wArr E q4 12 r.2.2.2.1, wArr E q5 12 r.2.2.2.2]) 0 0) 24 [(0, .ref (a0 0)), (1, .ref (a2 0)), (2, .ref (a3 0)), (3, .int x3)] [] [wQRead E a0 (rf3 (a1 0) q4 q5) v0, wToks E a1 v1, wHouse E a2 v2, wSight E a3 v3, wArr E q4 12 v4, wArr E q5 12 v5] := by
  rw [QRead_readFactor_24] at hf
  refine ww_aload_n C dX5_readFactor_24 rfl 0 rfl ?_
  refine ww_aload_n C dX5_readFactor_25 rfl 1 rfl ?_
  refine ww_aload_n C dX5_readFactor_26 rfl 2 rfl ?_
  refine ww_iload_n C dX5_readFactor_27 rfl 3 rfl ?_
  refine ww_iconst (v := 1) C dX5_readFactor_28 (by decide) ?_
  refine ww_iadd C dX5_readFactor_29 ?_
  obtain ⟨p30, hp30, hf⟩ := bdE hf
  refine ww_callV C (As := [.ref (a2 0), .ref (a3 0), .int (x3 + 1)]) (st := []) (gr := []) (hN _ _ _ _ _ _ _ _ hp30) gX5_readFactor_X5_readNested rfl yk_X5_readNested ⟨by dsimp only [rmX5_readFactor, rmX5_readNested]; omega, by dsimp only [rmX5_readFactor, rmX5_readNested]; omega⟩ ⟨Nat.le_refl _, Nat.le_refl _⟩ clOK5 0 0 rfl rfl [0, 1, 2, 3, 4, 5] [] 6 rfl (by decide) rfl rfl (Nat.le_of_ble_eq_true rfl) dX5_readFactor_30 ?_
  rintro _ _ ⟨rfl, rfl⟩
  refine ww_perm (gs' := [wQRead E a0 (rf3 (a1 0) q4 q5) p30.2.1, wToks E a1 p30.2.2.1, wHouse E a2 v2, wSight E a3 v3, wArr E q4 12 p30.2.2.2.1, wArr E q5 12 p30.2.2.2.2]) [0, 1, 2, 3, 4, 5] 6 rfl (by decide) rfl ?_
  obtain rfl := Option.some.inj hf
  exact ww_iret C ⟨rfl, rfl⟩ dX5_readFactor_33

set_option maxHeartbeats 4000000 in
set_option maxRecDepth 100000 in
theorem c_X5_readFactor {E : Ex} {k : Nat} {a0 : Nat → Nat} {a1 : Nat → Nat} {a2 : Nat → Nat} {a3 : Nat → Nat} {q4 : Nat} {q5 : Nat} {FN : nestQT} {x3 : Int32} {v0 : QReadV} {v1 : ToksV} {v2 : HouseV} {v3 : SightV} {v4 : Nat → Int32} {v5 : Nat → Int32} {r : (Int32 × QReadV × ToksV × (Nat → Int32) × (Nat → Int32))} (hN : HN_X5_readNested E k a0 a1 a2 a3 q4 q5 FN) (hf : QRead_readFactor FN x3 v0 v1 v2 v3 v4 v5 = some r) : Ct E yX5_readFactor wsX5_readFactor (rmX5_readFactor k) [.ref (a0 0), .ref (a2 0), .ref (a3 0), .int x3] [wQRead E a0 (rf3 (a1 0) q4 q5) v0, wToks E a1 v1, wHouse E a2 v2, wSight E a3 v3, wArr E q4 12 v4, wArr E q5 12 v5] (fun rv g => rv = some (.int r.1) ∧ g = [wQRead E a0 (rf3 (a1 0) q4 q5) r.2.1, wToks E a1 r.2.2.1, wHouse E a2 v2, wSight E a3 v3, wArr E q4 12 r.2.2.2.1, wArr E q5 12 r.2.2.2.2]) := by
  refine ct_of (own := RX5) (by decide +kernel) rfl rfl (Nat.le_of_ble_eq_true rfl) (fun K C => ?_)
  refine ww_sub C (lv' := [(0, .ref (a0 0)), (1, .ref (a2 0)), (2, .ref (a3 0)), (3, .int x3)]) [0, 1, 2, 3] rfl ?_
  rw [QRead_readFactor] at hf
  refine ww_aload_n C dX5_readFactor_0 rfl 0 rfl ?_
  refine ww_get C clOK5 in_X5_readFactor_X5 (w := wQRead E a0 (rf3 (a1 0) q4 q5) v0) (fs := fsQRead a0 (rf3 (a1 0) q4 q5) v0) (v := .ref (a1 0)) 0 0 0 rfl q_QRead (by decide) (by decide +kernel) g_QRead_tokens dX5_readFactor_1 ?_
  refine ww_ldcS C (i := 20) rfl dX5_readFactor_4 ?_
  obtain ⟨p6, hp6, hf⟩ := bdE hf
  refine ww_callV C (As := [.ref (eK E 20)]) (st := []) (gr := [wQRead E a0 (rf3 (a1 0) q4 q5) v0, wHouse E a2 v2, wSight E a3 v3, wArr E q4 12 v4, wArr E q5 12 v5]) (c_X7_isWord (E := E) (a0 := a1) hp6) gX5_readFactor_X7_isWord rfl yk_X7_isWord ⟨by dsimp only [rmX5_readFactor, rmX7_isWord]; omega, by dsimp only [rmX5_readFactor, rmX7_isWord]; omega⟩ ⟨Nat.le_refl _, Nat.le_refl _⟩ clOK7 0 0 rfl rfl [1] [0, 2, 3, 4, 5] 6 rfl (by decide) rfl rfl (Nat.le_of_ble_eq_true rfl) dX5_readFactor_6 ?_
  rintro _ _ ⟨rfl, rfl⟩
  refine ww_perm (gs' := [wQRead E a0 (rf3 (a1 0) q4 q5) v0, wToks E a1 v1, wHouse E a2 v2, wSight E a3 v3, wArr E q4 12 v4, wArr E q5 12 v5]) [1, 0, 2, 3, 4, 5] 6 rfl (by decide) rfl ?_
  refine ww_if_neB (tgt := 24) C dX5_readFactor_9 (by decide) (fun c_1 => ?_) (fun c_1 => ?_)
  · replace hf := btE c_1 hf
    refine ww_sub C (lv' := [(0, .ref (a0 0)), (1, .ref (a2 0)), (2, .ref (a3 0)), (3, .int x3)]) [0, 1, 2, 3] rfl ?_
    exact w_X5_readFactor_24 C hN hf
  · replace hf := bfE c_1 hf
    refine ww_aload_n C dX5_readFactor_12 rfl 0 rfl ?_
    refine ww_get C clOK5 in_X5_readFactor_X5 (w := wQRead E a0 (rf3 (a1 0) q4 q5) v0) (fs := fsQRead a0 (rf3 (a1 0) q4 q5) v0) (v := .ref (a1 0)) 0 0 0 rfl q_QRead (by decide) (by decide +kernel) g_QRead_tokens dX5_readFactor_13 ?_
    refine ww_bipush (v := 40) C dX5_readFactor_16 (by decide) ?_
    obtain ⟨p18, hp18, hf⟩ := bdE hf
    refine ww_callV C (As := [.int 40]) (st := []) (gr := [wQRead E a0 (rf3 (a1 0) q4 q5) v0, wHouse E a2 v2, wSight E a3 v3, wArr E q4 12 v4, wArr E q5 12 v5]) (c_X7_isSign (E := E) (a0 := a1) hp18) gX5_readFactor_X7_isSign rfl yk_X7_isSign ⟨by dsimp only [rmX5_readFactor, rmX7_isSign]; omega, by dsimp only [rmX5_readFactor, rmX7_isSign]; omega⟩ ⟨Nat.le_refl _, Nat.le_refl _⟩ clOK7 0 0 rfl rfl [1] [0, 2, 3, 4, 5] 6 rfl (by decide) rfl rfl (Nat.le_of_ble_eq_true rfl) dX5_readFactor_18 ?_
    rintro _ _ ⟨rfl, rfl⟩
    refine ww_perm (gs' := [wQRead E a0 (rf3 (a1 0) q4 q5) v0, wToks E a1 v1, wHouse E a2 v2, wSight E a3 v3, wArr E q4 12 v4, wArr E q5 12 v5]) [1, 0, 2, 3, 4, 5] 6 rfl (by decide) rfl ?_
    refine ww_if_eqB (tgt := 34) C dX5_readFactor_21 (by decide) (fun c_2 => ?_) (fun c_2 => ?_)
    · replace hf := bfE c_2 hf
      refine ww_aload_n C dX5_readFactor_34 rfl 0 rfl ?_
      refine ww_aload_n C dX5_readFactor_35 rfl 1 rfl ?_
      refine ww_aload_n C dX5_readFactor_36 rfl 2 rfl ?_
      refine ww_aload_n C dX5_readFactor_37 rfl 0 rfl ?_
      refine ww_get C clOK5 in_X5_readFactor_X5 (w := wQRead E a0 (rf3 (a1 0) q4 q5) v0) (fs := fsQRead a0 (rf3 (a1 0) q4 q5) v0) (v := .ref q4) 0 0 1 rfl q_QRead (by decide) (by decide +kernel) g_QRead_left dX5_readFactor_38 ?_
      obtain ⟨p41, hp41, hf⟩ := bdE hf
      refine ww_callV C (As := [.ref (a2 0), .ref (a3 0), .ref q4]) (st := []) (gr := [wArr E q5 12 v5]) (c_X5_readValues (E := E) (a0 := a0) (h0_1 := q4) (h0_2 := q5) (a1 := a1) (a2 := a2) (a3 := a3) (q4 := q4) hp41) gX5_readFactor_X5_readValues rfl yk_X5_readValues ⟨by dsimp only [rmX5_readFactor, rmX5_readValues]; omega, by dsimp only [rmX5_readFactor, rmX5_readValues]; omega⟩ ⟨Nat.le_refl _, Nat.le_refl _⟩ clOK5 0 0 rfl rfl [0, 1, 2, 3, 4] [5] 6 rfl (by decide) rfl rfl (Nat.le_of_ble_eq_true rfl) dX5_readFactor_41 ?_
      rintro _ _ ⟨rfl, rfl⟩
      refine ww_perm (gs' := [wQRead E a0 (rf3 (a1 0) q4 q5) p41.1, wToks E a1 p41.2.1, wHouse E a2 v2, wSight E a3 v3, wArr E q4 12 p41.2.2, wArr E q5 12 v5]) [0, 1, 2, 3, 4, 5] 6 rfl (by decide) rfl ?_
      refine ww_aload_n C dX5_readFactor_44 rfl 0 rfl ?_
      obtain ⟨p45, hp45, hf⟩ := bdE hf
      refine ww_callV C (As := []) (st := []) (gr := [wHouse E a2 v2, wSight E a3 v3, wArr E q4 12 p41.2.2, wArr E q5 12 v5]) (c_X5_readOrder (E := E) (a0 := a0) (h0_1 := q4) (h0_2 := q5) (a1 := a1) hp45) gX5_readFactor_X5_readOrder rfl yk_X5_readOrder ⟨by dsimp only [rmX5_readFactor, rmX5_readOrder]; omega, by dsimp only [rmX5_readFactor, rmX5_readOrder]; omega⟩ ⟨Nat.le_refl _, Nat.le_refl _⟩ clOK5 0 0 rfl rfl [0, 1] [2, 3, 4, 5] 6 rfl (by decide) rfl rfl (Nat.le_of_ble_eq_true rfl) dX5_readFactor_45 ?_
      rintro _ _ ⟨rfl, rfl⟩
      refine ww_perm (gs' := [wQRead E a0 (rf3 (a1 0) q4 q5) p45.2.1, wToks E a1 p45.2.2, wHouse E a2 v2, wSight E a3 v3, wArr E q4 12 p41.2.2, wArr E q5 12 v5]) [0, 1, 2, 3, 4, 5] 6 rfl (by decide) rfl ?_
      refine ww_istore (lv' := [(4, .int p45.1), (0, .ref (a0 0)), (1, .ref (a2 0)), (2, .ref (a3 0)), (3, .int x3)]) C dX5_readFactor_48 (by decide) rfl ?_
      refine ww_aload_n C dX5_readFactor_50 rfl 1 rfl ?_
      refine ww_aload_n C dX5_readFactor_51 rfl 2 rfl ?_
      refine ww_aload_n C dX5_readFactor_52 rfl 3 rfl ?_
      refine ww_aload_n C dX5_readFactor_53 rfl 1 rfl ?_
      refine ww_get C clOK5 in_X5_readFactor_X5 (w := wQRead E a0 (rf3 (a1 0) q4 q5) p45.2.1) (fs := fsQRead a0 (rf3 (a1 0) q4 q5) p45.2.1) (v := .ref q5) 0 0 2 rfl q_QRead (by decide) (by decide +kernel) g_QRead_right dX5_readFactor_54 ?_
      obtain ⟨p57, hp57, hf⟩ := bdE hf
      refine ww_callV C (As := [.ref (a2 0), .ref (a3 0), .ref q5]) (st := []) (gr := [wArr E q4 12 p41.2.2]) (c_X5_readValues (E := E) (a0 := a0) (h0_1 := q4) (h0_2 := q5) (a1 := a1) (a2 := a2) (a3 := a3) (q4 := q5) hp57) gX5_readFactor_X5_readValues rfl yk_X5_readValues ⟨by dsimp only [rmX5_readFactor, rmX5_readValues]; omega, by dsimp only [rmX5_readFactor, rmX5_readValues]; omega⟩ ⟨Nat.le_refl _, Nat.le_refl _⟩ clOK5 0 0 rfl rfl [0, 1, 2, 3, 5] [4] 6 rfl (by decide) rfl rfl (Nat.le_of_ble_eq_true rfl) dX5_readFactor_57 ?_
      rintro _ _ ⟨rfl, rfl⟩
      refine ww_perm (gs' := [wQRead E a0 (rf3 (a1 0) q4 q5) p57.1, wToks E a1 p57.2.1, wHouse E a2 v2, wSight E a3 v3, wArr E q4 12 p41.2.2, wArr E q5 12 p57.2.2]) [0, 1, 2, 3, 5, 4] 6 rfl (by decide) rfl ?_
      refine ww_aload_n C dX5_readFactor_60 rfl 1 rfl ?_
      refine ww_aload_n C dX5_readFactor_61 rfl 2 rfl ?_
      refine ww_iload C dX5_readFactor_62 0 rfl ?_
      obtain ⟨p64, hp64, hf⟩ := bdE hf
      refine ww_callV C (As := [.ref (a2 0), .int p45.1]) (st := []) (gr := [wToks E a1 p57.2.1, wSight E a3 v3]) (c_X5_compareRows (E := E) (a0 := a0) (h0_0 := a1 0) (a1 := a2) (q2 := q4) (q3 := q5) hp64) gX5_readFactor_X5_compareRows rfl yk_X5_compareRows ⟨by dsimp only [rmX5_readFactor, rmX5_compareRows]; omega, by dsimp only [rmX5_readFactor, rmX5_compareRows]; omega⟩ ⟨Nat.le_refl _, Nat.le_refl _⟩ clOK5 0 0 rfl rfl [0, 2, 4, 5] [1, 3] 6 rfl (by decide) rfl rfl (Nat.le_of_ble_eq_true rfl) dX5_readFactor_64 ?_
      rintro _ _ ⟨rfl, rfl⟩
      refine ww_perm (gs' := [wQRead E a0 (rf3 (a1 0) q4 q5) p57.1, wToks E a1 p57.2.1, wHouse E a2 v2, wSight E a3 v3, wArr E q4 12 p41.2.2, wArr E q5 12 p57.2.2]) [0, 4, 1, 5, 2, 3] 6 rfl (by decide) rfl ?_
      obtain rfl := Option.some.inj hf
      exact ww_iret C ⟨rfl, rfl⟩ dX5_readFactor_67
    · replace hf := btE c_2 hf
      refine ww_sub C (lv' := [(0, .ref (a0 0)), (1, .ref (a2 0)), (2, .ref (a3 0)), (3, .int x3)]) [0, 1, 2, 3] rfl ?_
      exact w_X5_readFactor_24 C hN hf

theorem yk_X5_readFactor : yX5_readFactor.cls = RX5 ∧ yX5_readFactor.cls ≠ "java/lang/invoke/MethodHandle" ∧ yX5_readFactor.cls ≠ "java/lang/invoke/VarHandle" ∧ (parseMethodDescriptor yX5_readFactor.desc).map (fun d => d.parameters.length) = some 3 := by decide +kernel
abbrev rmX5_readConjunction (k : Nat) : Room := { frames := 24 + 8 * k, cells := 0, slots := 0, locals := 1200 + 400 * k }
set_option maxRecDepth 20000 in
theorem in_X5_readConjunction_X5 : ∀ w ∈ u_ws RX5 TX5 5, w ∈ wsX5_readConjunction := by decide +kernel
set_option maxHeartbeats 4000000 in
set_option maxRecDepth 100000 in
theorem w_X5_readConjunction_12 {E : Ex} {K : Kx} {k : Nat} (C : Cx E K cX5_readConjunction 6 (some .int) RX5 wsX5_readConjunction (rmX5_readConjunction k)) {a0 : Nat → Nat} {a1 : Nat → Nat} {a2 : Nat → Nat} {a3 : Nat → Nat} {q4 : Nat} {q5 : Nat} {FN : nestQT} {x3 : Int32} {v2 : HouseV} {v3 : SightV}  {r : (Int32 × QReadV × ToksV × (Nat → Int32) × (Nat → Int32))} (hN : HN_X5_readNested E k a0 a1 a2 a3 q4 q5 FN) : ∀ (n : Nat) (x4 : Int32) (x5 : Int32) (v0 : QReadV) (v1 : ToksV) (v4 : Nat → Int32) (v5 : Nat → Int32), QRead_readConjunction_12 FN x3 v2 v3 n x4 x5 v0 v1 v4 v5 = some r → WW E K 0 0 (QQ E K (fun rv g => rv = some (.int r.1) ∧ g = [wQRead E a0 (rf3 (a1 0) q4 q5) r.2.1, wToks E a1 r.2.2.1, wHouse E a2 v2, wSight E a3 v3, wArr E q4 12 r.2.2.2.1, wArr E q5 12 r.2.2.2.2]) 0 0) 12 [(0, .ref (a0 0)), (1, .ref (a2 0)), (2, .ref (a3 0)), (3, .int x3), (4, .int x4), (5, .int x5)] [] [wQRead E a0 (rf3 (a1 0) q4 q5) v0, wToks E a1 v1, wHouse E a2 v2, wSight E a3 v3, wArr E q4 12 v4, wArr E q5 12 v5] := by
  intro n
  induction n with
  | zero =>
    intro x4 x5 v0 v1 v4 v5 hf
    simp [QRead_readConjunction_12] at hf
  | succ n ih =>
    intro x4 x5 v0 v1 v4 v5 hf
    rw [QRead_readConjunction_12] at hf
    refine ww_iload C dX5_readConjunction_12 5 rfl ?_
    refine ww_sipush (v := 200) C dX5_readConjunction_14 (by decide) ?_
    refine ww_icmp_ge (tgt := 64) C dX5_readConjunction_17 (by decide) (fun c_1 => ?_) (fun c_1 => ?_)
    · replace hf := ifT c_1 hf
      refine ww_iload C dX5_readConjunction_64 4 rfl ?_
      obtain rfl := Option.some.inj hf
      exact ww_iret C ⟨rfl, rfl⟩ dX5_readConjunction_66
    · replace hf := ifF c_1 hf
      refine ww_aload_n C dX5_readConjunction_20 rfl 0 rfl ?_
      refine ww_get C clOK5 in_X5_readConjunction_X5 (w := wQRead E a0 (rf3 (a1 0) q4 q5) v0) (fs := fsQRead a0 (rf3 (a1 0) q4 q5) v0) (v := .int (QRead_error v0)) 0 0 3 rfl q_QRead (by decide) (by decide +kernel) g_QRead_error dX5_readConjunction_21 ?_
      refine ww_if_ne (tgt := 64) C dX5_readConjunction_24 (by decide) (fun c_2 => ?_) (fun c_2 => ?_)
      · replace hf := ifF c_2 hf
        refine ww_iload C dX5_readConjunction_64 4 rfl ?_
        obtain rfl := Option.some.inj hf
        exact ww_iret C ⟨rfl, rfl⟩ dX5_readConjunction_66
      · replace hf := ifT c_2 hf
        refine ww_aload_n C dX5_readConjunction_27 rfl 0 rfl ?_
        refine ww_get C clOK5 in_X5_readConjunction_X5 (w := wQRead E a0 (rf3 (a1 0) q4 q5) v0) (fs := fsQRead a0 (rf3 (a1 0) q4 q5) v0) (v := .ref (a1 0)) 0 0 0 rfl q_QRead (by decide) (by decide +kernel) g_QRead_tokens dX5_readConjunction_28 ?_
        refine ww_ldcS C (i := 19) rfl dX5_readConjunction_31 ?_
        obtain ⟨p33, hp33, hf⟩ := bdE hf
        refine ww_callV C (As := [.ref (eK E 19)]) (st := []) (gr := [wQRead E a0 (rf3 (a1 0) q4 q5) v0, wHouse E a2 v2, wSight E a3 v3, wArr E q4 12 v4, wArr E q5 12 v5]) (c_X7_isWord (E := E) (a0 := a1) hp33) gX5_readConjunction_X7_isWord rfl yk_X7_isWord ⟨by dsimp only [rmX5_readConjunction, rmX7_isWord]; omega, by dsimp only [rmX5_readConjunction, rmX7_isWord]; omega⟩ ⟨Nat.le_refl _, Nat.le_refl _⟩ clOK7 0 0 rfl rfl [1] [0, 2, 3, 4, 5] 6 rfl (by decide) rfl rfl (Nat.le_of_ble_eq_true rfl) dX5_readConjunction_33 ?_
        rintro _ _ ⟨rfl, rfl⟩
        refine ww_perm (gs' := [wQRead E a0 (rf3 (a1 0) q4 q5) v0, wToks E a1 v1, wHouse E a2 v2, wSight E a3 v3, wArr E q4 12 v4, wArr E q5 12 v5]) [1, 0, 2, 3, 4, 5] 6 rfl (by decide) rfl ?_
        refine ww_if_eqB (tgt := 64) C dX5_readConjunction_36 (by decide) (fun c_3 => ?_) (fun c_3 => ?_)
        · replace hf := bfE c_3 hf
          refine ww_iload C dX5_readConjunction_64 4 rfl ?_
          obtain rfl := Option.some.inj hf
          exact ww_iret C ⟨rfl, rfl⟩ dX5_readConjunction_66
        · replace hf := btE c_3 hf
          refine ww_aload_n C dX5_readConjunction_39 rfl 0 rfl ?_
          refine ww_get C clOK5 in_X5_readConjunction_X5 (w := wQRead E a0 (rf3 (a1 0) q4 q5) v0) (fs := fsQRead a0 (rf3 (a1 0) q4 q5) v0) (v := .ref (a1 0)) 0 0 0 rfl q_QRead (by decide) (by decide +kernel) g_QRead_tokens dX5_readConjunction_40 ?_
          obtain ⟨p43, hp43, hf⟩ := bdE hf
          refine ww_callV C (As := []) (st := []) (gr := [wQRead E a0 (rf3 (a1 0) q4 q5) v0, wHouse E a2 v2, wSight E a3 v3, wArr E q4 12 v4, wArr E q5 12 v5]) (c_X7_advance (E := E) (a0 := a1) hp43) gX5_readConjunction_X7_advance rfl yk_X7_advance ⟨by dsimp only [rmX5_readConjunction, rmX7_advance]; omega, by dsimp only [rmX5_readConjunction, rmX7_advance]; omega⟩ ⟨Nat.le_refl _, Nat.le_refl _⟩ clOK7 0 0 rfl rfl [1] [0, 2, 3, 4, 5] 6 rfl (by decide) rfl rfl (Nat.le_of_ble_eq_true rfl) dX5_readConjunction_43 ?_
          rintro _ _ ⟨rfl, rfl⟩
          refine ww_perm (gs' := [wQRead E a0 (rf3 (a1 0) q4 q5) v0, wToks E a1 p43, wHouse E a2 v2, wSight E a3 v3, wArr E q4 12 v4, wArr E q5 12 v5]) [1, 0, 2, 3, 4, 5] 6 rfl (by decide) rfl ?_
          refine ww_iload C dX5_readConjunction_46 4 rfl ?_
          refine ww_aload_n C dX5_readConjunction_48 rfl 0 rfl ?_
          refine ww_aload_n C dX5_readConjunction_49 rfl 1 rfl ?_
          refine ww_aload_n C dX5_readConjunction_50 rfl 2 rfl ?_
          refine ww_iload_n C dX5_readConjunction_51 rfl 3 rfl ?_
          obtain ⟨p52, hp52, hf⟩ := bdE hf
          refine ww_callV C (As := [.ref (a2 0), .ref (a3 0), .int x3]) (st := [.int x4]) (gr := []) (c_X5_readFactor (E := E) (k := k) (a0 := a0) (a1 := a1) (a2 := a2) (a3 := a3) (q4 := q4) (q5 := q5) hN hp52) gX5_readConjunction_X5_readFactor rfl yk_X5_readFactor ⟨by dsimp only [rmX5_readConjunction, rmX5_readFactor]; omega, by dsimp only [rmX5_readConjunction, rmX5_readFactor]; omega⟩ ⟨Nat.le_refl _, Nat.le_refl _⟩ clOK5 0 0 rfl rfl [0, 1, 2, 3, 4, 5] [] 6 rfl (by decide) rfl rfl (Nat.le_of_ble_eq_true rfl) dX5_readConjunction_52 ?_
          rintro _ _ ⟨rfl, rfl⟩
          refine ww_perm (gs' := [wQRead E a0 (rf3 (a1 0) q4 q5) p52.2.1, wToks E a1 p52.2.2.1, wHouse E a2 v2, wSight E a3 v3, wArr E q4 12 p52.2.2.2.1, wArr E q5 12 p52.2.2.2.2]) [0, 1, 2, 3, 4, 5] 6 rfl (by decide) rfl ?_
          refine ww_iand C dX5_readConjunction_55 ?_
          refine ww_topi (fun x4_56 e_x4_56 => ?_)
          replace hf := ltE e_x4_56 hf
          refine ww_istore (lv' := [(4, .int x4_56), (0, .ref (a0 0)), (1, .ref (a2 0)), (2, .ref (a3 0)), (3, .int x3), (5, .int x5)]) C dX5_readConjunction_56 (by decide) rfl ?_
          obtain ⟨x5_58, e_x5_58⟩ : ∃ y : Int32, y = x5 + 1 := ⟨_, rfl⟩
          replace hf := ltE e_x5_58 hf
          refine ww_iinc (v := x5_58) (lv' := [(5, .int x5_58), (4, .int x4_56), (0, .ref (a0 0)), (1, .ref (a2 0)), (2, .ref (a3 0)), (3, .int x3)]) C dX5_readConjunction_58 5 rfl (by rw [e_x5_58]; rfl) (by decide) rfl ?_
          refine ww_goto (tgt := 12) C dX5_readConjunction_61 (by decide) ?_
          refine ww_sub C (lv' := [(0, .ref (a0 0)), (1, .ref (a2 0)), (2, .ref (a3 0)), (3, .int x3), (4, .int x4_56), (5, .int x5_58)]) [2, 3, 4, 5, 1, 0] rfl ?_
          exact ih _ _ _ _ _ _ hf

set_option maxHeartbeats 4000000 in
set_option maxRecDepth 100000 in
theorem c_X5_readConjunction {E : Ex} {k : Nat} {a0 : Nat → Nat} {a1 : Nat → Nat} {a2 : Nat → Nat} {a3 : Nat → Nat} {q4 : Nat} {q5 : Nat} {FN : nestQT} {x3 : Int32} {v0 : QReadV} {v1 : ToksV} {v2 : HouseV} {v3 : SightV} {v4 : Nat → Int32} {v5 : Nat → Int32} {r : (Int32 × QReadV × ToksV × (Nat → Int32) × (Nat → Int32))} (hN : HN_X5_readNested E k a0 a1 a2 a3 q4 q5 FN) (hf : QRead_readConjunction FN x3 v0 v1 v2 v3 v4 v5 = some r) : Ct E yX5_readConjunction wsX5_readConjunction (rmX5_readConjunction k) [.ref (a0 0), .ref (a2 0), .ref (a3 0), .int x3] [wQRead E a0 (rf3 (a1 0) q4 q5) v0, wToks E a1 v1, wHouse E a2 v2, wSight E a3 v3, wArr E q4 12 v4, wArr E q5 12 v5] (fun rv g => rv = some (.int r.1) ∧ g = [wQRead E a0 (rf3 (a1 0) q4 q5) r.2.1, wToks E a1 r.2.2.1, wHouse E a2 v2, wSight E a3 v3, wArr E q4 12 r.2.2.2.1, wArr E q5 12 r.2.2.2.2]) := by
  refine ct_of (own := RX5) (by decide +kernel) rfl rfl (Nat.le_of_ble_eq_true rfl) (fun K C => ?_)
  refine ww_sub C (lv' := [(0, .ref (a0 0)), (1, .ref (a2 0)), (2, .ref (a3 0)), (3, .int x3)]) [0, 1, 2, 3] rfl ?_
  rw [QRead_readConjunction] at hf
  refine ww_aload_n C dX5_readConjunction_0 rfl 0 rfl ?_
  refine ww_aload_n C dX5_readConjunction_1 rfl 1 rfl ?_
  refine ww_aload_n C dX5_readConjunction_2 rfl 2 rfl ?_
  refine ww_iload_n C dX5_readConjunction_3 rfl 3 rfl ?_
  obtain ⟨p4, hp4, hf⟩ := bdE hf
  refine ww_callV C (As := [.ref (a2 0), .ref (a3 0), .int x3]) (st := []) (gr := []) (c_X5_readFactor (E := E) (k := k) (a0 := a0) (a1 := a1) (a2 := a2) (a3 := a3) (q4 := q4) (q5 := q5) hN hp4) gX5_readConjunction_X5_readFactor rfl yk_X5_readFactor ⟨by dsimp only [rmX5_readConjunction, rmX5_readFactor]; omega, by dsimp only [rmX5_readConjunction, rmX5_readFactor]; omega⟩ ⟨Nat.le_refl _, Nat.le_refl _⟩ clOK5 0 0 rfl rfl [0, 1, 2, 3, 4, 5] [] 6 rfl (by decide) rfl rfl (Nat.le_of_ble_eq_true rfl) dX5_readConjunction_4 ?_
  rintro _ _ ⟨rfl, rfl⟩
  refine ww_perm (gs' := [wQRead E a0 (rf3 (a1 0) q4 q5) p4.2.1, wToks E a1 p4.2.2.1, wHouse E a2 v2, wSight E a3 v3, wArr E q4 12 p4.2.2.2.1, wArr E q5 12 p4.2.2.2.2]) [0, 1, 2, 3, 4, 5] 6 rfl (by decide) rfl ?_
  refine ww_istore (lv' := [(4, .int p4.1), (0, .ref (a0 0)), (1, .ref (a2 0)), (2, .ref (a3 0)), (3, .int x3)]) C dX5_readConjunction_7 (by decide) rfl ?_
  refine ww_iconst (v := 0) C dX5_readConjunction_9 (by decide) ?_
  refine ww_istore (lv' := [(5, .int 0), (4, .int p4.1), (0, .ref (a0 0)), (1, .ref (a2 0)), (2, .ref (a3 0)), (3, .int x3)]) C dX5_readConjunction_10 (by decide) rfl ?_
  refine ww_sub C (lv' := [(0, .ref (a0 0)), (1, .ref (a2 0)), (2, .ref (a3 0)), (3, .int x3), (4, .int p4.1), (5, .int 0)]) [2, 3, 4, 5, 1, 0] rfl ?_
  exact w_X5_readConjunction_12 C hN FU _ _ _ _ _ _ hf

theorem yk_X5_readConjunction : yX5_readConjunction.cls = RX5 ∧ yX5_readConjunction.cls ≠ "java/lang/invoke/MethodHandle" ∧ yX5_readConjunction.cls ≠ "java/lang/invoke/VarHandle" ∧ (parseMethodDescriptor yX5_readConjunction.desc).map (fun d => d.parameters.length) = some 3 := by decide +kernel
abbrev rmX5_readTest (k : Nat) : Room := { frames := 26 + 8 * k, cells := 0, slots := 0, locals := 1300 + 400 * k }
set_option maxRecDepth 20000 in
theorem in_X5_readTest_X5 : ∀ w ∈ u_ws RX5 TX5 5, w ∈ wsX5_readTest := by decide +kernel
set_option maxHeartbeats 4000000 in
set_option maxRecDepth 100000 in
theorem w_X5_readTest_12 {E : Ex} {K : Kx} {k : Nat} (C : Cx E K cX5_readTest 6 (some .int) RX5 wsX5_readTest (rmX5_readTest k)) {a0 : Nat → Nat} {a1 : Nat → Nat} {a2 : Nat → Nat} {a3 : Nat → Nat} {q4 : Nat} {q5 : Nat} {FN : nestQT} {x3 : Int32} {v2 : HouseV} {v3 : SightV}  {r : (Int32 × QReadV × ToksV × (Nat → Int32) × (Nat → Int32))} (hN : HN_X5_readNested E k a0 a1 a2 a3 q4 q5 FN) : ∀ (n : Nat) (x4 : Int32) (x5 : Int32) (v0 : QReadV) (v1 : ToksV) (v4 : Nat → Int32) (v5 : Nat → Int32), QRead_readTest_12 FN x3 v2 v3 n x4 x5 v0 v1 v4 v5 = some r → WW E K 0 0 (QQ E K (fun rv g => rv = some (.int r.1) ∧ g = [wQRead E a0 (rf3 (a1 0) q4 q5) r.2.1, wToks E a1 r.2.2.1, wHouse E a2 v2, wSight E a3 v3, wArr E q4 12 r.2.2.2.1, wArr E q5 12 r.2.2.2.2]) 0 0) 12 [(0, .ref (a0 0)), (1, .ref (a2 0)), (2, .ref (a3 0)), (3, .int x3), (4, .int x4), (5, .int x5)] [] [wQRead E a0 (rf3 (a1 0) q4 q5) v0, wToks E a1 v1, wHouse E a2 v2, wSight E a3 v3, wArr E q4 12 v4, wArr E q5 12 v5] := by
  intro n
  induction n with
  | zero =>
    intro x4 x5 v0 v1 v4 v5 hf
    simp [QRead_readTest_12] at hf
  | succ n ih =>
    intro x4 x5 v0 v1 v4 v5 hf
    rw [QRead_readTest_12] at hf
    refine ww_iload C dX5_readTest_12 5 rfl ?_
    refine ww_sipush (v := 200) C dX5_readTest_14 (by decide) ?_
    refine ww_icmp_ge (tgt := 64) C dX5_readTest_17 (by decide) (fun c_1 => ?_) (fun c_1 => ?_)
    · replace hf := ifT c_1 hf
      refine ww_iload C dX5_readTest_64 4 rfl ?_
      obtain rfl := Option.some.inj hf
      exact ww_iret C ⟨rfl, rfl⟩ dX5_readTest_66
    · replace hf := ifF c_1 hf
      refine ww_aload_n C dX5_readTest_20 rfl 0 rfl ?_
      refine ww_get C clOK5 in_X5_readTest_X5 (w := wQRead E a0 (rf3 (a1 0) q4 q5) v0) (fs := fsQRead a0 (rf3 (a1 0) q4 q5) v0) (v := .int (QRead_error v0)) 0 0 3 rfl q_QRead (by decide) (by decide +kernel) g_QRead_error dX5_readTest_21 ?_
      refine ww_if_ne (tgt := 64) C dX5_readTest_24 (by decide) (fun c_2 => ?_) (fun c_2 => ?_)
      · replace hf := ifF c_2 hf
        refine ww_iload C dX5_readTest_64 4 rfl ?_
        obtain rfl := Option.some.inj hf
        exact ww_iret C ⟨rfl, rfl⟩ dX5_readTest_66
      · replace hf := ifT c_2 hf
        refine ww_aload_n C dX5_readTest_27 rfl 0 rfl ?_
        refine ww_get C clOK5 in_X5_readTest_X5 (w := wQRead E a0 (rf3 (a1 0) q4 q5) v0) (fs := fsQRead a0 (rf3 (a1 0) q4 q5) v0) (v := .ref (a1 0)) 0 0 0 rfl q_QRead (by decide) (by decide +kernel) g_QRead_tokens dX5_readTest_28 ?_
        refine ww_ldcS C (i := 18) rfl dX5_readTest_31 ?_
        obtain ⟨p33, hp33, hf⟩ := bdE hf
        refine ww_callV C (As := [.ref (eK E 18)]) (st := []) (gr := [wQRead E a0 (rf3 (a1 0) q4 q5) v0, wHouse E a2 v2, wSight E a3 v3, wArr E q4 12 v4, wArr E q5 12 v5]) (c_X7_isWord (E := E) (a0 := a1) hp33) gX5_readTest_X7_isWord rfl yk_X7_isWord ⟨by dsimp only [rmX5_readTest, rmX7_isWord]; omega, by dsimp only [rmX5_readTest, rmX7_isWord]; omega⟩ ⟨Nat.le_refl _, Nat.le_refl _⟩ clOK7 0 0 rfl rfl [1] [0, 2, 3, 4, 5] 6 rfl (by decide) rfl rfl (Nat.le_of_ble_eq_true rfl) dX5_readTest_33 ?_
        rintro _ _ ⟨rfl, rfl⟩
        refine ww_perm (gs' := [wQRead E a0 (rf3 (a1 0) q4 q5) v0, wToks E a1 v1, wHouse E a2 v2, wSight E a3 v3, wArr E q4 12 v4, wArr E q5 12 v5]) [1, 0, 2, 3, 4, 5] 6 rfl (by decide) rfl ?_
        refine ww_if_eqB (tgt := 64) C dX5_readTest_36 (by decide) (fun c_3 => ?_) (fun c_3 => ?_)
        · replace hf := bfE c_3 hf
          refine ww_iload C dX5_readTest_64 4 rfl ?_
          obtain rfl := Option.some.inj hf
          exact ww_iret C ⟨rfl, rfl⟩ dX5_readTest_66
        · replace hf := btE c_3 hf
          refine ww_aload_n C dX5_readTest_39 rfl 0 rfl ?_
          refine ww_get C clOK5 in_X5_readTest_X5 (w := wQRead E a0 (rf3 (a1 0) q4 q5) v0) (fs := fsQRead a0 (rf3 (a1 0) q4 q5) v0) (v := .ref (a1 0)) 0 0 0 rfl q_QRead (by decide) (by decide +kernel) g_QRead_tokens dX5_readTest_40 ?_
          obtain ⟨p43, hp43, hf⟩ := bdE hf
          refine ww_callV C (As := []) (st := []) (gr := [wQRead E a0 (rf3 (a1 0) q4 q5) v0, wHouse E a2 v2, wSight E a3 v3, wArr E q4 12 v4, wArr E q5 12 v5]) (c_X7_advance (E := E) (a0 := a1) hp43) gX5_readTest_X7_advance rfl yk_X7_advance ⟨by dsimp only [rmX5_readTest, rmX7_advance]; omega, by dsimp only [rmX5_readTest, rmX7_advance]; omega⟩ ⟨Nat.le_refl _, Nat.le_refl _⟩ clOK7 0 0 rfl rfl [1] [0, 2, 3, 4, 5] 6 rfl (by decide) rfl rfl (Nat.le_of_ble_eq_true rfl) dX5_readTest_43 ?_
          rintro _ _ ⟨rfl, rfl⟩
          refine ww_perm (gs' := [wQRead E a0 (rf3 (a1 0) q4 q5) v0, wToks E a1 p43, wHouse E a2 v2, wSight E a3 v3, wArr E q4 12 v4, wArr E q5 12 v5]) [1, 0, 2, 3, 4, 5] 6 rfl (by decide) rfl ?_
          refine ww_iload C dX5_readTest_46 4 rfl ?_
          refine ww_aload_n C dX5_readTest_48 rfl 0 rfl ?_
          refine ww_aload_n C dX5_readTest_49 rfl 1 rfl ?_
          refine ww_aload_n C dX5_readTest_50 rfl 2 rfl ?_
          refine ww_iload_n C dX5_readTest_51 rfl 3 rfl ?_
          obtain ⟨p52, hp52, hf⟩ := bdE hf
          refine ww_callV C (As := [.ref (a2 0), .ref (a3 0), .int x3]) (st := [.int x4]) (gr := []) (c_X5_readConjunction (E := E) (k := k) (a0 := a0) (a1 := a1) (a2 := a2) (a3 := a3) (q4 := q4) (q5 := q5) hN hp52) gX5_readTest_X5_readConjunction rfl yk_X5_readConjunction ⟨by dsimp only [rmX5_readTest, rmX5_readConjunction]; omega, by dsimp only [rmX5_readTest, rmX5_readConjunction]; omega⟩ ⟨Nat.le_refl _, Nat.le_refl _⟩ clOK5 0 0 rfl rfl [0, 1, 2, 3, 4, 5] [] 6 rfl (by decide) rfl rfl (Nat.le_of_ble_eq_true rfl) dX5_readTest_52 ?_
          rintro _ _ ⟨rfl, rfl⟩
          refine ww_perm (gs' := [wQRead E a0 (rf3 (a1 0) q4 q5) p52.2.1, wToks E a1 p52.2.2.1, wHouse E a2 v2, wSight E a3 v3, wArr E q4 12 p52.2.2.2.1, wArr E q5 12 p52.2.2.2.2]) [0, 1, 2, 3, 4, 5] 6 rfl (by decide) rfl ?_
          refine ww_ior C dX5_readTest_55 ?_
          refine ww_topi (fun x4_56 e_x4_56 => ?_)
          replace hf := ltE e_x4_56 hf
          refine ww_istore (lv' := [(4, .int x4_56), (0, .ref (a0 0)), (1, .ref (a2 0)), (2, .ref (a3 0)), (3, .int x3), (5, .int x5)]) C dX5_readTest_56 (by decide) rfl ?_
          obtain ⟨x5_58, e_x5_58⟩ : ∃ y : Int32, y = x5 + 1 := ⟨_, rfl⟩
          replace hf := ltE e_x5_58 hf
          refine ww_iinc (v := x5_58) (lv' := [(5, .int x5_58), (4, .int x4_56), (0, .ref (a0 0)), (1, .ref (a2 0)), (2, .ref (a3 0)), (3, .int x3)]) C dX5_readTest_58 5 rfl (by rw [e_x5_58]; rfl) (by decide) rfl ?_
          refine ww_goto (tgt := 12) C dX5_readTest_61 (by decide) ?_
          refine ww_sub C (lv' := [(0, .ref (a0 0)), (1, .ref (a2 0)), (2, .ref (a3 0)), (3, .int x3), (4, .int x4_56), (5, .int x5_58)]) [2, 3, 4, 5, 1, 0] rfl ?_
          exact ih _ _ _ _ _ _ hf

set_option maxHeartbeats 4000000 in
set_option maxRecDepth 100000 in
theorem c_X5_readTest {E : Ex} {k : Nat} {a0 : Nat → Nat} {a1 : Nat → Nat} {a2 : Nat → Nat} {a3 : Nat → Nat} {q4 : Nat} {q5 : Nat} {FN : nestQT} {x3 : Int32} {v0 : QReadV} {v1 : ToksV} {v2 : HouseV} {v3 : SightV} {v4 : Nat → Int32} {v5 : Nat → Int32} {r : (Int32 × QReadV × ToksV × (Nat → Int32) × (Nat → Int32))} (hN : HN_X5_readNested E k a0 a1 a2 a3 q4 q5 FN) (hf : QRead_readTest FN x3 v0 v1 v2 v3 v4 v5 = some r) : Ct E yX5_readTest wsX5_readTest (rmX5_readTest k) [.ref (a0 0), .ref (a2 0), .ref (a3 0), .int x3] [wQRead E a0 (rf3 (a1 0) q4 q5) v0, wToks E a1 v1, wHouse E a2 v2, wSight E a3 v3, wArr E q4 12 v4, wArr E q5 12 v5] (fun rv g => rv = some (.int r.1) ∧ g = [wQRead E a0 (rf3 (a1 0) q4 q5) r.2.1, wToks E a1 r.2.2.1, wHouse E a2 v2, wSight E a3 v3, wArr E q4 12 r.2.2.2.1, wArr E q5 12 r.2.2.2.2]) := by
  refine ct_of (own := RX5) (by decide +kernel) rfl rfl (Nat.le_of_ble_eq_true rfl) (fun K C => ?_)
  refine ww_sub C (lv' := [(0, .ref (a0 0)), (1, .ref (a2 0)), (2, .ref (a3 0)), (3, .int x3)]) [0, 1, 2, 3] rfl ?_
  rw [QRead_readTest] at hf
  refine ww_aload_n C dX5_readTest_0 rfl 0 rfl ?_
  refine ww_aload_n C dX5_readTest_1 rfl 1 rfl ?_
  refine ww_aload_n C dX5_readTest_2 rfl 2 rfl ?_
  refine ww_iload_n C dX5_readTest_3 rfl 3 rfl ?_
  obtain ⟨p4, hp4, hf⟩ := bdE hf
  refine ww_callV C (As := [.ref (a2 0), .ref (a3 0), .int x3]) (st := []) (gr := []) (c_X5_readConjunction (E := E) (k := k) (a0 := a0) (a1 := a1) (a2 := a2) (a3 := a3) (q4 := q4) (q5 := q5) hN hp4) gX5_readTest_X5_readConjunction rfl yk_X5_readConjunction ⟨by dsimp only [rmX5_readTest, rmX5_readConjunction]; omega, by dsimp only [rmX5_readTest, rmX5_readConjunction]; omega⟩ ⟨Nat.le_refl _, Nat.le_refl _⟩ clOK5 0 0 rfl rfl [0, 1, 2, 3, 4, 5] [] 6 rfl (by decide) rfl rfl (Nat.le_of_ble_eq_true rfl) dX5_readTest_4 ?_
  rintro _ _ ⟨rfl, rfl⟩
  refine ww_perm (gs' := [wQRead E a0 (rf3 (a1 0) q4 q5) p4.2.1, wToks E a1 p4.2.2.1, wHouse E a2 v2, wSight E a3 v3, wArr E q4 12 p4.2.2.2.1, wArr E q5 12 p4.2.2.2.2]) [0, 1, 2, 3, 4, 5] 6 rfl (by decide) rfl ?_
  refine ww_istore (lv' := [(4, .int p4.1), (0, .ref (a0 0)), (1, .ref (a2 0)), (2, .ref (a3 0)), (3, .int x3)]) C dX5_readTest_7 (by decide) rfl ?_
  refine ww_iconst (v := 0) C dX5_readTest_9 (by decide) ?_
  refine ww_istore (lv' := [(5, .int 0), (4, .int p4.1), (0, .ref (a0 0)), (1, .ref (a2 0)), (2, .ref (a3 0)), (3, .int x3)]) C dX5_readTest_10 (by decide) rfl ?_
  refine ww_sub C (lv' := [(0, .ref (a0 0)), (1, .ref (a2 0)), (2, .ref (a3 0)), (3, .int x3), (4, .int p4.1), (5, .int 0)]) [2, 3, 4, 5, 1, 0] rfl ?_
  exact w_X5_readTest_12 C hN FU _ _ _ _ _ _ hf

theorem yk_X5_readTest : yX5_readTest.cls = RX5 ∧ yX5_readTest.cls ≠ "java/lang/invoke/MethodHandle" ∧ yX5_readTest.cls ≠ "java/lang/invoke/VarHandle" ∧ (parseMethodDescriptor yX5_readTest.desc).map (fun d => d.parameters.length) = some 3 := by decide +kernel
set_option maxRecDepth 20000 in
theorem in_X5_readNested_X5 : ∀ w ∈ u_ws RX5 TX5 5, w ∈ wsX5_readNested := by decide +kernel
set_option maxHeartbeats 4000000 in
set_option maxRecDepth 100000 in
theorem w_X5_readNested_84 {E : Ex} {K : Kx} {k : Nat} (C : Cx E K cX5_readNested 6 (some .int) RX5 wsX5_readNested (rmX5_readNested (k + 1))) {a0 : Nat → Nat} {a1 : Nat → Nat} {a2 : Nat → Nat} {a3 : Nat → Nat} {q4 : Nat} {q5 : Nat} {FN : nestQT} {x3 : Int32} {v2 : HouseV} {v3 : SightV}  {x5 : Int32} {v0 : QReadV} {v1 : ToksV} {v4 : Nat → Int32} {v5 : Nat → Int32} {r : (Int32 × QReadV × ToksV × (Nat → Int32) × (Nat → Int32))} (hN : HN_X5_readNested E k a0 a1 a2 a3 q4 q5 FN) (hf : QRead_readNested_84 FN x3 v2 v3 x5 v0 v1 v4 v5 = some r) : WW E K 0 0 (QQ E K (fun rv g => rv = some (.int r.1) ∧ g = [wQRead E a0 (rf3 (a1 0) q4 q5) r.2.1, wToks E a1 r.2.2.1, wHouse E a2 v2, wSight E a3 v3, wArr E q4 12 r.2.2.2.1, wArr E q5 12 r.2.2.2.2]) 0 0) 84 [(0, .ref (a0 0)), (5, .int x5)] [] [wQRead E a0 (rf3 (a1 0) q4 q5) v0, wToks E a1 v1, wHouse E a2 v2, wSight E a3 v3, wArr E q4 12 v4, wArr E q5 12 v5] := by
  rw [QRead_readNested_84] at hf
  refine ww_aload_n C dX5_readNested_84 rfl 0 rfl ?_
  refine ww_get C clOK5 in_X5_readNested_X5 (w := wQRead E a0 (rf3 (a1 0) q4 q5) v0) (fs := fsQRead a0 (rf3 (a1 0) q4 q5) v0) (v := .int (QRead_error v0)) 0 0 3 rfl q_QRead (by decide) (by decide +kernel) g_QRead_error dX5_readNested_85 ?_
  refine ww_if_ne (tgt := 98) C dX5_readNested_88 (by decide) (fun c_6 => ?_) (fun c_6 => ?_)
  · replace hf := ifF c_6 hf
    refine ww_iload C dX5_readNested_98 1 rfl ?_
    obtain rfl := Option.some.inj hf
    exact ww_iret C ⟨rfl, rfl⟩ dX5_readNested_100
  · replace hf := ifT c_6 hf
    refine ww_aload_n C dX5_readNested_91 rfl 0 rfl ?_
    refine ww_get C clOK5 in_X5_readNested_X5 (w := wQRead E a0 (rf3 (a1 0) q4 q5) v0) (fs := fsQRead a0 (rf3 (a1 0) q4 q5) v0) (v := .ref (a1 0)) 0 0 0 rfl q_QRead (by decide) (by decide +kernel) g_QRead_tokens dX5_readNested_92 ?_
    obtain ⟨p95, hp95, hf⟩ := bdE hf
    refine ww_callV C (As := []) (st := []) (gr := [wQRead E a0 (rf3 (a1 0) q4 q5) v0, wHouse E a2 v2, wSight E a3 v3, wArr E q4 12 v4, wArr E q5 12 v5]) (c_X7_advance (E := E) (a0 := a1) hp95) gX5_readNested_X7_advance rfl yk_X7_advance ⟨by dsimp only [rmX5_readNested, rmX7_advance]; omega, by dsimp only [rmX5_readNested, rmX7_advance]; omega⟩ ⟨Nat.le_refl _, Nat.le_refl _⟩ clOK7 0 0 rfl rfl [1] [0, 2, 3, 4, 5] 6 rfl (by decide) rfl rfl (Nat.le_of_ble_eq_true rfl) dX5_readNested_95 ?_
    rintro _ _ ⟨rfl, rfl⟩
    refine ww_perm (gs' := [wQRead E a0 (rf3 (a1 0) q4 q5) v0, wToks E a1 p95, wHouse E a2 v2, wSight E a3 v3, wArr E q4 12 v4, wArr E q5 12 v5]) [1, 0, 2, 3, 4, 5] 6 rfl (by decide) rfl ?_
    refine ww_iload C dX5_readNested_98 1 rfl ?_
    obtain rfl := Option.some.inj hf
    exact ww_iret C ⟨rfl, rfl⟩ dX5_readNested_100

set_option maxHeartbeats 4000000 in
set_option maxRecDepth 100000 in
theorem c_X5_readNested {E : Ex} {k : Nat} {a0 : Nat → Nat} {a1 : Nat → Nat} {a2 : Nat → Nat} {a3 : Nat → Nat} {q4 : Nat} {q5 : Nat} {FN : nestQT} {x3 : Int32} {v0 : QReadV} {v1 : ToksV} {v2 : HouseV} {v3 : SightV} {v4 : Nat → Int32} {v5 : Nat → Int32} {r : (Int32 × QReadV × ToksV × (Nat → Int32) × (Nat → Int32))} (hN : HN_X5_readNested E k a0 a1 a2 a3 q4 q5 FN) (hf : QRead_readNested FN x3 v0 v1 v2 v3 v4 v5 = some r) : Ct E yX5_readNested wsX5_readNested (rmX5_readNested (k + 1)) [.ref (a0 0), .ref (a2 0), .ref (a3 0), .int x3] [wQRead E a0 (rf3 (a1 0) q4 q5) v0, wToks E a1 v1, wHouse E a2 v2, wSight E a3 v3, wArr E q4 12 v4, wArr E q5 12 v5] (fun rv g => rv = some (.int r.1) ∧ g = [wQRead E a0 (rf3 (a1 0) q4 q5) r.2.1, wToks E a1 r.2.2.1, wHouse E a2 v2, wSight E a3 v3, wArr E q4 12 r.2.2.2.1, wArr E q5 12 r.2.2.2.2]) := by
  refine ct_of (own := RX5) (by decide +kernel) rfl rfl (Nat.le_of_ble_eq_true rfl) (fun K C => ?_)
  refine ww_sub C (lv' := [(0, .ref (a0 0)), (1, .ref (a2 0)), (2, .ref (a3 0)), (3, .int x3)]) [0, 1, 2, 3] rfl ?_
  rw [QRead_readNested] at hf
  refine ww_iload_n C dX5_readNested_0 rfl 3 rfl ?_
  refine ww_bipush (v := 6) C dX5_readNested_1 (by decide) ?_
  refine ww_icmp_le (tgt := 13) C dX5_readNested_3 (by decide) (fun c_1 => ?_) (fun c_1 => ?_)
  · replace hf := ifT c_1 hf
    refine ww_aload_n C dX5_readNested_13 rfl 0 rfl ?_
    refine ww_get C clOK5 in_X5_readNested_X5 (w := wQRead E a0 (rf3 (a1 0) q4 q5) v0) (fs := fsQRead a0 (rf3 (a1 0) q4 q5) v0) (v := .ref (a1 0)) 0 0 0 rfl q_QRead (by decide) (by decide +kernel) g_QRead_tokens dX5_readNested_14 ?_
    refine ww_ldcS C (i := 20) rfl dX5_readNested_17 ?_
    obtain ⟨p19, hp19, hf⟩ := bdE hf
    refine ww_callV C (As := [.ref (eK E 20)]) (st := []) (gr := [wQRead E a0 (rf3 (a1 0) q4 q5) v0, wHouse E a2 v2, wSight E a3 v3, wArr E q4 12 v4, wArr E q5 12 v5]) (c_X7_isWord (E := E) (a0 := a1) hp19) gX5_readNested_X7_isWord rfl yk_X7_isWord ⟨by dsimp only [rmX5_readNested, rmX7_isWord]; omega, by dsimp only [rmX5_readNested, rmX7_isWord]; omega⟩ ⟨Nat.le_refl _, Nat.le_refl _⟩ clOK7 0 0 rfl rfl [1] [0, 2, 3, 4, 5] 6 rfl (by decide) rfl rfl (Nat.le_of_ble_eq_true rfl) dX5_readNested_19 ?_
    rintro _ _ ⟨rfl, rfl⟩
    refine ww_perm (gs' := [wQRead E a0 (rf3 (a1 0) q4 q5) v0, wToks E a1 v1, wHouse E a2 v2, wSight E a3 v3, wArr E q4 12 v4, wArr E q5 12 v5]) [1, 0, 2, 3, 4, 5] 6 rfl (by decide) rfl ?_
    refine ww_topi (fun x4_22 e_x4_22 => ?_)
    replace hf := ltE e_x4_22 hf
    refine ww_istore (lv' := [(4, .int x4_22), (0, .ref (a0 0)), (1, .ref (a2 0)), (2, .ref (a3 0)), (3, .int x3)]) C dX5_readNested_22 (by decide) rfl ?_
    refine ww_aload_n C dX5_readNested_24 rfl 1 rfl ?_
    refine ww_get C clOK5 in_X5_readNested_X5 (w := wQRead E a0 (rf3 (a1 0) q4 q5) v0) (fs := fsQRead a0 (rf3 (a1 0) q4 q5) v0) (v := .ref (a1 0)) 0 0 0 rfl q_QRead (by decide) (by decide +kernel) g_QRead_tokens dX5_readNested_25 ?_
    obtain ⟨p28, hp28, hf⟩ := bdE hf
    refine ww_callV C (As := []) (st := []) (gr := [wQRead E a0 (rf3 (a1 0) q4 q5) v0, wHouse E a2 v2, wSight E a3 v3, wArr E q4 12 v4, wArr E q5 12 v5]) (c_X7_advance (E := E) (a0 := a1) hp28) gX5_readNested_X7_advance rfl yk_X7_advance ⟨by dsimp only [rmX5_readNested, rmX7_advance]; omega, by dsimp only [rmX5_readNested, rmX7_advance]; omega⟩ ⟨Nat.le_refl _, Nat.le_refl _⟩ clOK7 0 0 rfl rfl [1] [0, 2, 3, 4, 5] 6 rfl (by decide) rfl rfl (Nat.le_of_ble_eq_true rfl) dX5_readNested_28 ?_
    rintro _ _ ⟨rfl, rfl⟩
    refine ww_perm (gs' := [wQRead E a0 (rf3 (a1 0) q4 q5) v0, wToks E a1 p28, wHouse E a2 v2, wSight E a3 v3, wArr E q4 12 v4, wArr E q5 12 v5]) [1, 0, 2, 3, 4, 5] 6 rfl (by decide) rfl ?_
    refine ww_iload C dX5_readNested_31 0 rfl ?_
    refine ww_if_eq (tgt := 51) C dX5_readNested_33 (by decide) (fun c_3 => ?_) (fun c_3 => ?_)
    · replace hf := ifT c_3 hf
      refine ww_aload_n C dX5_readNested_51 rfl 1 rfl ?_
      refine ww_aload_n C dX5_readNested_52 rfl 2 rfl ?_
      refine ww_aload_n C dX5_readNested_53 rfl 3 rfl ?_
      refine ww_iload_n C dX5_readNested_54 rfl 4 rfl ?_
      obtain ⟨p55, hp55, hf⟩ := bdE hf
      refine ww_callV C (As := [.ref (a2 0), .ref (a3 0), .int x3]) (st := []) (gr := []) (c_X5_readTest (E := E) (k := k) (a0 := a0) (a1 := a1) (a2 := a2) (a3 := a3) (q4 := q4) (q5 := q5) hN hp55) gX5_readNested_X5_readTest rfl yk_X5_readTest ⟨by dsimp only [rmX5_readNested, rmX5_readTest]; omega, by dsimp only [rmX5_readNested, rmX5_readTest]; omega⟩ ⟨Nat.le_refl _, Nat.le_refl _⟩ clOK5 0 0 rfl rfl [0, 1, 2, 3, 4, 5] [] 6 rfl (by decide) rfl rfl (Nat.le_of_ble_eq_true rfl) dX5_readNested_55 ?_
      rintro _ _ ⟨rfl, rfl⟩
      refine ww_perm (gs' := [wQRead E a0 (rf3 (a1 0) q4 q5) p55.2.1, wToks E a1 p55.2.2.1, wHouse E a2 v2, wSight E a3 v3, wArr E q4 12 p55.2.2.2.1, wArr E q5 12 p55.2.2.2.2]) [0, 1, 2, 3, 4, 5] 6 rfl (by decide) rfl ?_
      refine ww_istore (lv' := [(5, .int p55.1), (4, .int x4_22), (0, .ref (a0 0)), (1, .ref (a2 0)), (2, .ref (a3 0)), (3, .int x3)]) C dX5_readNested_58 (by decide) rfl ?_
      refine ww_aload_n C dX5_readNested_60 rfl 2 rfl ?_
      refine ww_get C clOK5 in_X5_readNested_X5 (w := wQRead E a0 (rf3 (a1 0) q4 q5) p55.2.1) (fs := fsQRead a0 (rf3 (a1 0) q4 q5) p55.2.1) (v := .int (QRead_error p55.2.1)) 0 0 3 rfl q_QRead (by decide) (by decide +kernel) g_QRead_error dX5_readNested_61 ?_
      refine ww_if_ne (tgt := 84) C dX5_readNested_64 (by decide) (fun c_4 => ?_) (fun c_4 => ?_)
      · replace hf := ifF c_4 hf
        refine ww_sub C (lv' := [(0, .ref (a0 0)), (5, .int p55.1)]) [2, 0] rfl ?_
        exact w_X5_readNested_84 C hN hf
      · replace hf := ifT c_4 hf
        refine ww_aload_n C dX5_readNested_67 rfl 2 rfl ?_
        refine ww_get C clOK5 in_X5_readNested_X5 (w := wQRead E a0 (rf3 (a1 0) q4 q5) p55.2.1) (fs := fsQRead a0 (rf3 (a1 0) q4 q5) p55.2.1) (v := .ref (a1 0)) 0 0 0 rfl q_QRead (by decide) (by decide +kernel) g_QRead_tokens dX5_readNested_68 ?_
        refine ww_bipush (v := 41) C dX5_readNested_71 (by decide) ?_
        obtain ⟨p73, hp73, hf⟩ := bdE hf
        refine ww_callV C (As := [.int 41]) (st := []) (gr := [wQRead E a0 (rf3 (a1 0) q4 q5) p55.2.1, wHouse E a2 v2, wSight E a3 v3, wArr E q4 12 p55.2.2.2.1, wArr E q5 12 p55.2.2.2.2]) (c_X7_isSign (E := E) (a0 := a1) hp73) gX5_readNested_X7_isSign rfl yk_X7_isSign ⟨by dsimp only [rmX5_readNested, rmX7_isSign]; omega, by dsimp only [rmX5_readNested, rmX7_isSign]; omega⟩ ⟨Nat.le_refl _, Nat.le_refl _⟩ clOK7 0 0 rfl rfl [1] [0, 2, 3, 4, 5] 6 rfl (by decide) rfl rfl (Nat.le_of_ble_eq_true rfl) dX5_readNested_73 ?_
        rintro _ _ ⟨rfl, rfl⟩
        refine ww_perm (gs' := [wQRead E a0 (rf3 (a1 0) q4 q5) p55.2.1, wToks E a1 p55.2.2.1, wHouse E a2 v2, wSight E a3 v3, wArr E q4 12 p55.2.2.2.1, wArr E q5 12 p55.2.2.2.2]) [1, 0, 2, 3, 4, 5] 6 rfl (by decide) rfl ?_
        refine ww_if_neB (tgt := 84) C dX5_readNested_76 (by decide) (fun c_5 => ?_) (fun c_5 => ?_)
        · replace hf := btE c_5 hf
          refine ww_sub C (lv' := [(0, .ref (a0 0)), (5, .int p55.1)]) [2, 0] rfl ?_
          exact w_X5_readNested_84 C hN hf
        · replace hf := bfE c_5 hf
          refine ww_aload_n C dX5_readNested_79 rfl 2 rfl ?_
          refine ww_iconst (v := 1) C dX5_readNested_80 (by decide) ?_
          obtain ⟨v0_81, e_v0_81⟩ : ∃ y : QReadV, y = QRead_set_error p55.2.1 1 := ⟨_, rfl⟩
          replace hf := ltE e_v0_81 hf
          refine ww_put C clOK5 in_X5_readNested_X5 (w := wQRead E a0 (rf3 (a1 0) q4 q5) p55.2.1) (fs := fsQRead a0 (rf3 (a1 0) q4 q5) p55.2.1) (w' := wQRead E a0 (rf3 (a1 0) q4 q5) v0_81) (gs' := [wQRead E a0 (rf3 (a1 0) q4 q5) v0_81, wToks E a1 p55.2.2.1, wHouse E a2 v2, wSight E a3 v3, wArr E q4 12 p55.2.2.2.1, wArr E q5 12 p55.2.2.2.2]) 0 0 3 rfl q_QRead (by decide) (by decide +kernel) rfl rfl rfl rfl l_QRead (by rw [e_v0_81]; exact p_QRead_error) rfl dX5_readNested_81 ?_
          refine ww_sub C (lv' := [(0, .ref (a0 0)), (5, .int p55.1)]) [2, 0] rfl ?_
          exact w_X5_readNested_84 C hN hf
    · replace hf := ifF c_3 hf
      refine ww_aload_n C dX5_readNested_36 rfl 2 rfl ?_
      obtain ⟨p37, hp37, hf⟩ := bdE hf
      refine ww_callV C (As := []) (st := []) (gr := [wQRead E a0 (rf3 (a1 0) q4 q5) v0, wToks E a1 p28, wSight E a3 v3, wArr E q4 12 v4, wArr E q5 12 v5]) (c_X2_allRooms (E := E) (a0 := a2) hp37) gX5_readNested_X2_allRooms rfl yk_X2_allRooms ⟨by dsimp only [rmX5_readNested, rmX2_allRooms]; omega, by dsimp only [rmX5_readNested, rmX2_allRooms]; omega⟩ ⟨Nat.le_refl _, Nat.le_refl _⟩ clOK2 0 0 rfl rfl [2] [0, 1, 3, 4, 5] 6 rfl (by decide) rfl rfl (Nat.le_of_ble_eq_true rfl) dX5_readNested_37 ?_
      rintro _ _ ⟨rfl, rfl⟩
      refine ww_perm (gs' := [wQRead E a0 (rf3 (a1 0) q4 q5) v0, wToks E a1 p28, wHouse E a2 v2, wSight E a3 v3, wArr E q4 12 v4, wArr E q5 12 v5]) [1, 2, 0, 3, 4, 5] 6 rfl (by decide) rfl ?_
      refine ww_aload_n C dX5_readNested_40 rfl 1 rfl ?_
      refine ww_aload_n C dX5_readNested_41 rfl 2 rfl ?_
      refine ww_aload_n C dX5_readNested_42 rfl 3 rfl ?_
      refine ww_iload_n C dX5_readNested_43 rfl 4 rfl ?_
      obtain ⟨p44, hp44, hf⟩ := bdE hf
      refine ww_callV C (As := [.ref (a2 0), .ref (a3 0), .int x3]) (st := [.int p37]) (gr := []) (c_X5_readFactor (E := E) (k := k) (a0 := a0) (a1 := a1) (a2 := a2) (a3 := a3) (q4 := q4) (q5 := q5) hN hp44) gX5_readNested_X5_readFactor rfl yk_X5_readFactor ⟨by dsimp only [rmX5_readNested, rmX5_readFactor]; omega, by dsimp only [rmX5_readNested, rmX5_readFactor]; omega⟩ ⟨Nat.le_refl _, Nat.le_refl _⟩ clOK5 0 0 rfl rfl [0, 1, 2, 3, 4, 5] [] 6 rfl (by decide) rfl rfl (Nat.le_of_ble_eq_true rfl) dX5_readNested_44 ?_
      rintro _ _ ⟨rfl, rfl⟩
      refine ww_perm (gs' := [wQRead E a0 (rf3 (a1 0) q4 q5) p44.2.1, wToks E a1 p44.2.2.1, wHouse E a2 v2, wSight E a3 v3, wArr E q4 12 p44.2.2.2.1, wArr E q5 12 p44.2.2.2.2]) [0, 1, 2, 3, 4, 5] 6 rfl (by decide) rfl ?_
      refine ww_iconst (v := (-1)) C dX5_readNested_47 (by decide) ?_
      refine ww_ixor C dX5_readNested_48 ?_
      refine ww_iand C dX5_readNested_49 ?_
      obtain rfl := Option.some.inj hf
      exact ww_iret C ⟨rfl, rfl⟩ dX5_readNested_50
  · replace hf := ifF c_1 hf
    refine ww_aload_n C dX5_readNested_6 rfl 0 rfl ?_
    refine ww_iconst (v := 3) C dX5_readNested_7 (by decide) ?_
    obtain ⟨v0_8, e_v0_8⟩ : ∃ y : QReadV, y = QRead_set_error v0 3 := ⟨_, rfl⟩
    replace hf := ltE e_v0_8 hf
    refine ww_put C clOK5 in_X5_readNested_X5 (w := wQRead E a0 (rf3 (a1 0) q4 q5) v0) (fs := fsQRead a0 (rf3 (a1 0) q4 q5) v0) (w' := wQRead E a0 (rf3 (a1 0) q4 q5) v0_8) (gs' := [wQRead E a0 (rf3 (a1 0) q4 q5) v0_8, wToks E a1 v1, wHouse E a2 v2, wSight E a3 v3, wArr E q4 12 v4, wArr E q5 12 v5]) 0 0 3 rfl q_QRead (by decide) (by decide +kernel) rfl rfl rfl rfl l_QRead (by rw [e_v0_8]; exact p_QRead_error) rfl dX5_readNested_8 ?_
    refine ww_iconst (v := 0) C dX5_readNested_11 (by decide) ?_
    obtain rfl := Option.some.inj hf
    exact ww_iret C ⟨rfl, rfl⟩ dX5_readNested_12

theorem c_X5_readNested_lev {E : Ex} {a0 : Nat → Nat} {a1 : Nat → Nat} {a2 : Nat → Nat} {a3 : Nat → Nat} {q4 : Nat} {q5 : Nat} : ∀ k, HN_X5_readNested E k a0 a1 a2 a3 q4 q5 (nestQ k) := by
  intro k
  induction k with
  | zero =>
    intro _ _ _ _ _ _ _ _ h
    cases h
  | succ k ih =>
    intro _ _ _ _ _ _ _ _ h
    exact c_X5_readNested ih h

abbrev rmX5_readQuery : Room := { frames := 83, cells := 0, slots := 0, locals := 4125 }
set_option maxRecDepth 20000 in
theorem in_X5_readQuery_X5 : ∀ w ∈ u_ws RX5 TX5 5, w ∈ wsX5_readQuery := by decide +kernel
set_option maxHeartbeats 4000000 in
set_option maxRecDepth 100000 in
theorem w_X5_readQuery_71 {E : Ex} {K : Kx} (C : Cx E K cX5_readQuery 5 (some .int) RX5 wsX5_readQuery rmX5_readQuery) {a0 : Nat → Nat} {a1 : Nat → Nat} {a2 : Nat → Nat} {a3 : Nat → Nat} {q4 : Nat} {q5 : Nat} {v2 : HouseV} {v3 : SightV}  {x3 : Int32} {x4 : Int32} {v0 : QReadV} {v1 : ToksV} {v4 : Nat → Int32} {v5 : Nat → Int32} {r : (Int32 × QReadV × ToksV × (Nat → Int32) × (Nat → Int32))} (hf : QRead_readQuery_71 v2 v3 x3 x4 v0 v1 v4 v5 = some r) : WW E K 0 0 (QQ E K (fun rv g => rv = some (.int r.1) ∧ g = [wQRead E a0 (rf3 (a1 0) q4 q5) r.2.1, wToks E a1 r.2.2.1, wHouse E a2 v2, wSight E a3 v3, wArr E q4 12 r.2.2.2.1, wArr E q5 12 r.2.2.2.2]) 0 0) 71 [(0, .ref (a0 0)), (3, .int x3), (4, .int x4)] [] [wQRead E a0 (rf3 (a1 0) q4 q5) v0, wToks E a1 v1, wHouse E a2 v2, wSight E a3 v3, wArr E q4 12 v4, wArr E q5 12 v5] := by
  rw [QRead_readQuery_71] at hf
  refine ww_aload_n C dX5_readQuery_71 rfl 0 rfl ?_
  refine ww_iload_n C dX5_readQuery_72 rfl 1 rfl ?_
  refine ww_if_eq (tgt := 84) C dX5_readQuery_73 (by decide) (fun c_6 => ?_) (fun c_6 => ?_)
  · replace hf := ifT c_6 hf
    refine ww_iload C dX5_readQuery_84 2 rfl ?_
    obtain ⟨p86, hp86, hf⟩ := bdE hf
    refine ww_callS C (As := [.int x4]) (st := [.ref (a0 0)]) (gr := [wQRead E a0 (rf3 (a1 0) q4 q5) v0, wToks E a1 v1, wHouse E a2 v2, wSight E a3 v3, wArr E q4 12 v4, wArr E q5 12 v5]) (c_X5_firstOf (E := E)  hp86) gX5_readQuery_X5_firstOf rfl ysk_X5_firstOf ⟨by decide, by decide⟩ ⟨by decide, by decide⟩ [] [0, 1, 2, 3, 4, 5] 6 rfl (by decide) rfl rfl (Nat.le_of_ble_eq_true rfl) dX5_readQuery_86 ?_
    rintro _ _ ⟨rfl, rfl⟩
    refine ww_perm (gs' := [wQRead E a0 (rf3 (a1 0) q4 q5) v0, wToks E a1 v1, wHouse E a2 v2, wSight E a3 v3, wArr E q4 12 v4, wArr E q5 12 v5]) [0, 1, 2, 3, 4, 5] 6 rfl (by decide) rfl ?_
    obtain ⟨v0_89, e_v0_89⟩ : ∃ y : QReadV, y = QRead_set_answer v0 p86 := ⟨_, rfl⟩
    replace hf := ltE e_v0_89 hf
    refine ww_put C clOK5 in_X5_readQuery_X5 (w := wQRead E a0 (rf3 (a1 0) q4 q5) v0) (fs := fsQRead a0 (rf3 (a1 0) q4 q5) v0) (w' := wQRead E a0 (rf3 (a1 0) q4 q5) v0_89) (gs' := [wQRead E a0 (rf3 (a1 0) q4 q5) v0_89, wToks E a1 v1, wHouse E a2 v2, wSight E a3 v3, wArr E q4 12 v4, wArr E q5 12 v5]) 0 0 4 rfl q_QRead (by decide) (by decide +kernel) rfl rfl rfl rfl l_QRead (by rw [e_v0_89]; exact p_QRead_answer) rfl dX5_readQuery_89 ?_
    refine ww_aload_n C dX5_readQuery_92 rfl 0 rfl ?_
    refine ww_get C clOK5 in_X5_readQuery_X5 (w := wQRead E a0 (rf3 (a1 0) q4 q5) v0_89) (fs := fsQRead a0 (rf3 (a1 0) q4 q5) v0_89) (v := .int (QRead_error v0_89)) 0 0 3 rfl q_QRead (by decide) (by decide +kernel) g_QRead_error dX5_readQuery_93 ?_
    obtain rfl := Option.some.inj hf
    exact ww_iret C ⟨rfl, rfl⟩ dX5_readQuery_96
  · replace hf := ifF c_6 hf
    refine ww_iload C dX5_readQuery_76 2 rfl ?_
    obtain ⟨p78, hp78, hf⟩ := bdE hf
    refine ww_callS C (As := [.int x4]) (st := [.ref (a0 0)]) (gr := [wQRead E a0 (rf3 (a1 0) q4 q5) v0, wToks E a1 v1, wHouse E a2 v2, wSight E a3 v3, wArr E q4 12 v4, wArr E q5 12 v5]) (c_J6_bitCount_0f7a4 (E := E)  hp78) gX5_readQuery_J6_bitCount_0f7a4 rfl ysk_J6_bitCount_0f7a4 ⟨by decide, by decide⟩ ⟨by decide, by decide⟩ [] [0, 1, 2, 3, 4, 5] 6 rfl (by decide) rfl rfl (Nat.le_of_ble_eq_true rfl) dX5_readQuery_78 ?_
    rintro _ _ ⟨rfl, rfl⟩
    refine ww_perm (gs' := [wQRead E a0 (rf3 (a1 0) q4 q5) v0, wToks E a1 v1, wHouse E a2 v2, wSight E a3 v3, wArr E q4 12 v4, wArr E q5 12 v5]) [0, 1, 2, 3, 4, 5] 6 rfl (by decide) rfl ?_
    refine ww_goto (tgt := 89) C dX5_readQuery_81 (by decide) ?_
    obtain ⟨v0_89, e_v0_89⟩ : ∃ y : QReadV, y = QRead_set_answer v0 p78 := ⟨_, rfl⟩
    replace hf := ltE e_v0_89 hf
    refine ww_put C clOK5 in_X5_readQuery_X5 (w := wQRead E a0 (rf3 (a1 0) q4 q5) v0) (fs := fsQRead a0 (rf3 (a1 0) q4 q5) v0) (w' := wQRead E a0 (rf3 (a1 0) q4 q5) v0_89) (gs' := [wQRead E a0 (rf3 (a1 0) q4 q5) v0_89, wToks E a1 v1, wHouse E a2 v2, wSight E a3 v3, wArr E q4 12 v4, wArr E q5 12 v5]) 0 0 4 rfl q_QRead (by decide) (by decide +kernel) rfl rfl rfl rfl l_QRead (by rw [e_v0_89]; exact p_QRead_answer) rfl dX5_readQuery_89 ?_
    refine ww_aload_n C dX5_readQuery_92 rfl 0 rfl ?_
    refine ww_get C clOK5 in_X5_readQuery_X5 (w := wQRead E a0 (rf3 (a1 0) q4 q5) v0_89) (fs := fsQRead a0 (rf3 (a1 0) q4 q5) v0_89) (v := .int (QRead_error v0_89)) 0 0 3 rfl q_QRead (by decide) (by decide +kernel) g_QRead_error dX5_readQuery_93 ?_
    obtain rfl := Option.some.inj hf
    exact ww_iret C ⟨rfl, rfl⟩ dX5_readQuery_96

set_option maxHeartbeats 4000000 in
set_option maxRecDepth 100000 in
theorem w_X5_readQuery_33 {E : Ex} {K : Kx} (C : Cx E K cX5_readQuery 5 (some .int) RX5 wsX5_readQuery rmX5_readQuery) {a0 : Nat → Nat} {a1 : Nat → Nat} {a2 : Nat → Nat} {a3 : Nat → Nat} {q4 : Nat} {q5 : Nat} {v2 : HouseV} {v3 : SightV}  {x3 : Int32} {v0 : QReadV} {v1 : ToksV} {v4 : Nat → Int32} {v5 : Nat → Int32} {r : (Int32 × QReadV × ToksV × (Nat → Int32) × (Nat → Int32))} (hf : QRead_readQuery_33 v2 v3 x3 v0 v1 v4 v5 = some r) : WW E K 0 0 (QQ E K (fun rv g => rv = some (.int r.1) ∧ g = [wQRead E a0 (rf3 (a1 0) q4 q5) r.2.1, wToks E a1 r.2.2.1, wHouse E a2 v2, wSight E a3 v3, wArr E q4 12 r.2.2.2.1, wArr E q5 12 r.2.2.2.2]) 0 0) 33 [(0, .ref (a0 0)), (1, .ref (a2 0)), (2, .ref (a3 0)), (3, .int x3)] [] [wQRead E a0 (rf3 (a1 0) q4 q5) v0, wToks E a1 v1, wHouse E a2 v2, wSight E a3 v3, wArr E q4 12 v4, wArr E q5 12 v5] := by
  rw [QRead_readQuery_33] at hf
  refine ww_aload_n C dX5_readQuery_33 rfl 0 rfl ?_
  refine ww_get C clOK5 in_X5_readQuery_X5 (w := wQRead E a0 (rf3 (a1 0) q4 q5) v0) (fs := fsQRead a0 (rf3 (a1 0) q4 q5) v0) (v := .ref (a1 0)) 0 0 0 rfl q_QRead (by decide) (by decide +kernel) g_QRead_tokens dX5_readQuery_34 ?_
  obtain ⟨p37, hp37, hf⟩ := bdE hf
  refine ww_callV C (As := []) (st := []) (gr := [wQRead E a0 (rf3 (a1 0) q4 q5) v0, wHouse E a2 v2, wSight E a3 v3, wArr E q4 12 v4, wArr E q5 12 v5]) (c_X7_advance (E := E) (a0 := a1) hp37) gX5_readQuery_X7_advance rfl yk_X7_advance ⟨by decide, by decide⟩ ⟨by decide, by decide⟩ clOK7 0 0 rfl rfl [1] [0, 2, 3, 4, 5] 6 rfl (by decide) rfl rfl (Nat.le_of_ble_eq_true rfl) dX5_readQuery_37 ?_
  rintro _ _ ⟨rfl, rfl⟩
  refine ww_perm (gs' := [wQRead E a0 (rf3 (a1 0) q4 q5) v0, wToks E a1 p37, wHouse E a2 v2, wSight E a3 v3, wArr E q4 12 v4, wArr E q5 12 v5]) [1, 0, 2, 3, 4, 5] 6 rfl (by decide) rfl ?_
  refine ww_aload_n C dX5_readQuery_40 rfl 0 rfl ?_
  refine ww_aload_n C dX5_readQuery_41 rfl 1 rfl ?_
  refine ww_aload_n C dX5_readQuery_42 rfl 2 rfl ?_
  refine ww_iconst (v := 0) C dX5_readQuery_43 (by decide) ?_
  obtain ⟨p44, hp44, hf⟩ := bdE hf
  refine ww_callV C (As := [.ref (a2 0), .ref (a3 0), .int 0]) (st := []) (gr := []) (c_X5_readTest (E := E) (k := 7) (a0 := a0) (a1 := a1) (a2 := a2) (a3 := a3) (q4 := q4) (q5 := q5) (c_X5_readNested_lev 7) hp44) gX5_readQuery_X5_readTest rfl yk_X5_readTest ⟨by decide, by decide⟩ ⟨by decide, by decide⟩ clOK5 0 0 rfl rfl [0, 1, 2, 3, 4, 5] [] 6 rfl (by decide) rfl rfl (Nat.le_of_ble_eq_true rfl) dX5_readQuery_44 ?_
  rintro _ _ ⟨rfl, rfl⟩
  refine ww_perm (gs' := [wQRead E a0 (rf3 (a1 0) q4 q5) p44.2.1, wToks E a1 p44.2.2.1, wHouse E a2 v2, wSight E a3 v3, wArr E q4 12 p44.2.2.2.1, wArr E q5 12 p44.2.2.2.2]) [0, 1, 2, 3, 4, 5] 6 rfl (by decide) rfl ?_
  refine ww_istore (lv' := [(4, .int p44.1), (0, .ref (a0 0)), (1, .ref (a2 0)), (2, .ref (a3 0)), (3, .int x3)]) C dX5_readQuery_47 (by decide) rfl ?_
  refine ww_aload_n C dX5_readQuery_49 rfl 1 rfl ?_
  refine ww_get C clOK5 in_X5_readQuery_X5 (w := wQRead E a0 (rf3 (a1 0) q4 q5) p44.2.1) (fs := fsQRead a0 (rf3 (a1 0) q4 q5) p44.2.1) (v := .int (QRead_error p44.2.1)) 0 0 3 rfl q_QRead (by decide) (by decide +kernel) g_QRead_error dX5_readQuery_50 ?_
  refine ww_if_ne (tgt := 71) C dX5_readQuery_53 (by decide) (fun c_4 => ?_) (fun c_4 => ?_)
  · replace hf := ifF c_4 hf
    refine ww_sub C (lv' := [(0, .ref (a0 0)), (3, .int x3), (4, .int p44.1)]) [1, 4, 0] rfl ?_
    exact w_X5_readQuery_71 C hf
  · replace hf := ifT c_4 hf
    refine ww_aload_n C dX5_readQuery_56 rfl 1 rfl ?_
    refine ww_get C clOK5 in_X5_readQuery_X5 (w := wQRead E a0 (rf3 (a1 0) q4 q5) p44.2.1) (fs := fsQRead a0 (rf3 (a1 0) q4 q5) p44.2.1) (v := .ref (a1 0)) 0 0 0 rfl q_QRead (by decide) (by decide +kernel) g_QRead_tokens dX5_readQuery_57 ?_
    obtain ⟨p60, hp60, hf⟩ := bdE hf
    refine ww_callV C (As := []) (st := []) (gr := [wQRead E a0 (rf3 (a1 0) q4 q5) p44.2.1, wHouse E a2 v2, wSight E a3 v3, wArr E q4 12 p44.2.2.2.1, wArr E q5 12 p44.2.2.2.2]) (c_X7_isEnd (E := E) (a0 := a1) hp60) gX5_readQuery_X7_isEnd rfl yk_X7_isEnd ⟨by decide, by decide⟩ ⟨by decide, by decide⟩ clOK7 0 0 rfl rfl [1] [0, 2, 3, 4, 5] 6 rfl (by decide) rfl rfl (Nat.le_of_ble_eq_true rfl) dX5_readQuery_60 ?_
    rintro _ _ ⟨rfl, rfl⟩
    refine ww_perm (gs' := [wQRead E a0 (rf3 (a1 0) q4 q5) p44.2.1, wToks E a1 p44.2.2.1, wHouse E a2 v2, wSight E a3 v3, wArr E q4 12 p44.2.2.2.1, wArr E q5 12 p44.2.2.2.2]) [1, 0, 2, 3, 4, 5] 6 rfl (by decide) rfl ?_
    refine ww_if_neB (tgt := 71) C dX5_readQuery_63 (by decide) (fun c_5 => ?_) (fun c_5 => ?_)
    · replace hf := btE c_5 hf
      refine ww_sub C (lv' := [(0, .ref (a0 0)), (3, .int x3), (4, .int p44.1)]) [1, 4, 0] rfl ?_
      exact w_X5_readQuery_71 C hf
    · replace hf := bfE c_5 hf
      refine ww_aload_n C dX5_readQuery_66 rfl 1 rfl ?_
      refine ww_iconst (v := 1) C dX5_readQuery_67 (by decide) ?_
      obtain ⟨v0_68, e_v0_68⟩ : ∃ y : QReadV, y = QRead_set_error p44.2.1 1 := ⟨_, rfl⟩
      replace hf := ltE e_v0_68 hf
      refine ww_put C clOK5 in_X5_readQuery_X5 (w := wQRead E a0 (rf3 (a1 0) q4 q5) p44.2.1) (fs := fsQRead a0 (rf3 (a1 0) q4 q5) p44.2.1) (w' := wQRead E a0 (rf3 (a1 0) q4 q5) v0_68) (gs' := [wQRead E a0 (rf3 (a1 0) q4 q5) v0_68, wToks E a1 p44.2.2.1, wHouse E a2 v2, wSight E a3 v3, wArr E q4 12 p44.2.2.2.1, wArr E q5 12 p44.2.2.2.2]) 0 0 3 rfl q_QRead (by decide) (by decide +kernel) rfl rfl rfl rfl l_QRead (by rw [e_v0_68]; exact p_QRead_error) rfl dX5_readQuery_68 ?_
      refine ww_sub C (lv' := [(0, .ref (a0 0)), (3, .int x3), (4, .int p44.1)]) [1, 4, 0] rfl ?_
      exact w_X5_readQuery_71 C hf

set_option maxHeartbeats 4000000 in
set_option maxRecDepth 100000 in
theorem c_X5_readQuery {E : Ex} {a0 : Nat → Nat} {a1 : Nat → Nat} {a2 : Nat → Nat} {a3 : Nat → Nat} {q4 : Nat} {q5 : Nat} {v0 : QReadV} {v1 : ToksV} {v2 : HouseV} {v3 : SightV} {v4 : Nat → Int32} {v5 : Nat → Int32} {r : (Int32 × QReadV × ToksV × (Nat → Int32) × (Nat → Int32))} (hf : QRead_readQuery v0 v1 v2 v3 v4 v5 = some r) : Ct E yX5_readQuery wsX5_readQuery rmX5_readQuery [.ref (a0 0), .ref (a2 0), .ref (a3 0)] [wQRead E a0 (rf3 (a1 0) q4 q5) v0, wToks E a1 v1, wHouse E a2 v2, wSight E a3 v3, wArr E q4 12 v4, wArr E q5 12 v5] (fun rv g => rv = some (.int r.1) ∧ g = [wQRead E a0 (rf3 (a1 0) q4 q5) r.2.1, wToks E a1 r.2.2.1, wHouse E a2 v2, wSight E a3 v3, wArr E q4 12 r.2.2.2.1, wArr E q5 12 r.2.2.2.2]) := by
  refine ct_of (own := RX5) (by decide +kernel) rfl rfl (Nat.le_of_ble_eq_true rfl) (fun K C => ?_)
  refine ww_sub C (lv' := [(0, .ref (a0 0)), (1, .ref (a2 0)), (2, .ref (a3 0))]) [0, 1, 2] rfl ?_
  rw [QRead_readQuery] at hf
  refine ww_aload_n C dX5_readQuery_0 rfl 0 rfl ?_
  refine ww_iconst (v := 0) C dX5_readQuery_1 (by decide) ?_
  obtain ⟨v0_2, e_v0_2⟩ : ∃ y : QReadV, y = QRead_set_error v0 0 := ⟨_, rfl⟩
  replace hf := ltE e_v0_2 hf
  refine ww_put C clOK5 in_X5_readQuery_X5 (w := wQRead E a0 (rf3 (a1 0) q4 q5) v0) (fs := fsQRead a0 (rf3 (a1 0) q4 q5) v0) (w' := wQRead E a0 (rf3 (a1 0) q4 q5) v0_2) (gs' := [wQRead E a0 (rf3 (a1 0) q4 q5) v0_2, wToks E a1 v1, wHouse E a2 v2, wSight E a3 v3, wArr E q4 12 v4, wArr E q5 12 v5]) 0 0 3 rfl q_QRead (by decide) (by decide +kernel) rfl rfl rfl rfl l_QRead (by rw [e_v0_2]; exact p_QRead_error) rfl dX5_readQuery_2 ?_
  refine ww_aload_n C dX5_readQuery_5 rfl 0 rfl ?_
  refine ww_get C clOK5 in_X5_readQuery_X5 (w := wQRead E a0 (rf3 (a1 0) q4 q5) v0_2) (fs := fsQRead a0 (rf3 (a1 0) q4 q5) v0_2) (v := .ref (a1 0)) 0 0 0 rfl q_QRead (by decide) (by decide +kernel) g_QRead_tokens dX5_readQuery_6 ?_
  refine ww_ldcS C (i := 16) rfl dX5_readQuery_9 ?_
  obtain ⟨p11, hp11, hf⟩ := bdE hf
  refine ww_callV C (As := [.ref (eK E 16)]) (st := []) (gr := [wQRead E a0 (rf3 (a1 0) q4 q5) v0_2, wHouse E a2 v2, wSight E a3 v3, wArr E q4 12 v4, wArr E q5 12 v5]) (c_X7_isWord (E := E) (a0 := a1) hp11) gX5_readQuery_X7_isWord rfl yk_X7_isWord ⟨by decide, by decide⟩ ⟨by decide, by decide⟩ clOK7 0 0 rfl rfl [1] [0, 2, 3, 4, 5] 6 rfl (by decide) rfl rfl (Nat.le_of_ble_eq_true rfl) dX5_readQuery_11 ?_
  rintro _ _ ⟨rfl, rfl⟩
  refine ww_perm (gs' := [wQRead E a0 (rf3 (a1 0) q4 q5) v0_2, wToks E a1 v1, wHouse E a2 v2, wSight E a3 v3, wArr E q4 12 v4, wArr E q5 12 v5]) [1, 0, 2, 3, 4, 5] 6 rfl (by decide) rfl ?_
  refine ww_topi (fun x3_14 e_x3_14 => ?_)
  replace hf := ltE e_x3_14 hf
  refine ww_istore_n (lv' := [(3, .int x3_14), (0, .ref (a0 0)), (1, .ref (a2 0)), (2, .ref (a3 0))]) C dX5_readQuery_14 rfl (by decide) rfl ?_
  refine ww_iload_n C dX5_readQuery_15 rfl 0 rfl ?_
  refine ww_if_ne (tgt := 33) C dX5_readQuery_16 (by decide) (fun c_2 => ?_) (fun c_2 => ?_)
  · replace hf := ifF c_2 hf
    refine ww_sub C (lv' := [(0, .ref (a0 0)), (1, .ref (a2 0)), (2, .ref (a3 0)), (3, .int x3_14)]) [1, 2, 3, 0] rfl ?_
    exact w_X5_readQuery_33 C hf
  · replace hf := ifT c_2 hf
    refine ww_aload_n C dX5_readQuery_19 rfl 1 rfl ?_
    refine ww_get C clOK5 in_X5_readQuery_X5 (w := wQRead E a0 (rf3 (a1 0) q4 q5) v0_2) (fs := fsQRead a0 (rf3 (a1 0) q4 q5) v0_2) (v := .ref (a1 0)) 0 0 0 rfl q_QRead (by decide) (by decide +kernel) g_QRead_tokens dX5_readQuery_20 ?_
    refine ww_ldcS C (i := 17) rfl dX5_readQuery_23 ?_
    obtain ⟨p25, hp25, hf⟩ := bdE hf
    refine ww_callV C (As := [.ref (eK E 17)]) (st := []) (gr := [wQRead E a0 (rf3 (a1 0) q4 q5) v0_2, wHouse E a2 v2, wSight E a3 v3, wArr E q4 12 v4, wArr E q5 12 v5]) (c_X7_isWord (E := E) (a0 := a1) hp25) gX5_readQuery_X7_isWord rfl yk_X7_isWord ⟨by decide, by decide⟩ ⟨by decide, by decide⟩ clOK7 0 0 rfl rfl [1] [0, 2, 3, 4, 5] 6 rfl (by decide) rfl rfl (Nat.le_of_ble_eq_true rfl) dX5_readQuery_25 ?_
    rintro _ _ ⟨rfl, rfl⟩
    refine ww_perm (gs' := [wQRead E a0 (rf3 (a1 0) q4 q5) v0_2, wToks E a1 v1, wHouse E a2 v2, wSight E a3 v3, wArr E q4 12 v4, wArr E q5 12 v5]) [1, 0, 2, 3, 4, 5] 6 rfl (by decide) rfl ?_
    refine ww_if_neB (tgt := 33) C dX5_readQuery_28 (by decide) (fun c_3 => ?_) (fun c_3 => ?_)
    · replace hf := btE c_3 hf
      refine ww_sub C (lv' := [(0, .ref (a0 0)), (1, .ref (a2 0)), (2, .ref (a3 0)), (3, .int x3_14)]) [1, 2, 3, 0] rfl ?_
      exact w_X5_readQuery_33 C hf
    · replace hf := bfE c_3 hf
      refine ww_iconst (v := 1) C dX5_readQuery_31 (by decide) ?_
      obtain rfl := Option.some.inj hf
      exact ww_iret C ⟨rfl, rfl⟩ dX5_readQuery_32

theorem yk_X5_readQuery : yX5_readQuery.cls = RX5 ∧ yX5_readQuery.cls ≠ "java/lang/invoke/MethodHandle" ∧ yX5_readQuery.cls ≠ "java/lang/invoke/VarHandle" ∧ (parseMethodDescriptor yX5_readQuery.desc).map (fun d => d.parameters.length) = some 2 := by decide +kernel
