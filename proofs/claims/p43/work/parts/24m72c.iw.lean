abbrev rmX6_seeRoom : Room := { frames := 0, cells := 0, slots := 0, locals := 0 }
set_option maxRecDepth 20000 in
theorem in_X6_seeRoom_X6 : ∀ w ∈ u_ws RX6 TX6 8, w ∈ wsX6_seeRoom := by decide +kernel
set_option maxHeartbeats 4000000 in
set_option maxRecDepth 100000 in
theorem w_X6_seeRoom_90 {E : Ex} {K : Kx} (C : Cx E K cX6_seeRoom 3 none RX6 wsX6_seeRoom rmX6_seeRoom) {a0 : Nat → Nat} {x1 : Int32} {x2 : Int32}  {v0 : SightV} {r : SightV} (hf : Sight_seeRoom_90 x1 x2 v0 = some r) : WW E K 0 0 (QQ E K (fun rv g => rv = none ∧ g = [wSight E a0 r]) 0 0) 90 [(0, .ref (a0 0)), (1, .int x1), (2, .int x2)] [] [wSight E a0 v0] := by
  rw [Sight_seeRoom_90] at hf
  refine ww_aload_n C dX6_seeRoom_90 rfl 0 rfl ?_
  refine ww_get C clOK6 in_X6_seeRoom_X6 (w := wSight E a0 v0) (fs := fsSight a0 v0) (v := .ref (a0 5)) 0 0 4 rfl q_Sight (by decide) (by decide +kernel) g_Sight_last dX6_seeRoom_91 ?_
  refine ww_iload_n C dX6_seeRoom_94 rfl 1 rfl ?_
  refine ww_iload_n C dX6_seeRoom_95 rfl 2 rfl ?_
  obtain ⟨g_7, hf⟩ := gdE hf
  obtain ⟨v0_96, e_v0_96⟩ : ∃ y : SightV, y = Sight_set_last v0 (upd (Sight_last v0) (Int32.toNatClampNeg x1) x2) := ⟨_, rfl⟩
  replace hf := ltE e_v0_96 hf
  refine ww_iast C (f := Sight_last v0) (w := wSight E a0 v0) (w' := wSight E a0 v0_96) (gs' := [wSight E a0 v0_96]) 0 5 rfl c_Sight_last (inB_vp g_7) (by rw [e_v0_96]; exact s_Sight_last) rfl dX6_seeRoom_96 ?_
  refine ww_aload_n C dX6_seeRoom_97 rfl 0 rfl ?_
  refine ww_get C clOK6 in_X6_seeRoom_X6 (w := wSight E a0 v0_96) (fs := fsSight a0 v0_96) (v := .ref (a0 1)) 0 0 0 rfl q_Sight (by decide) (by decide +kernel) g_Sight_seen dX6_seeRoom_98 ?_
  refine ww_iload_n C dX6_seeRoom_101 rfl 1 rfl ?_
  refine ww_dup2 C dX6_seeRoom_102 rfl rfl ?_
  refine ww_iald C (f := Sight_seen v0_96) (w := wSight E a0 v0_96) 0 1 rfl c_Sight_seen (inB_vp g_7) dX6_seeRoom_103 ?_
  refine ww_iconst (v := 1) C dX6_seeRoom_104 (by decide) ?_
  refine ww_iadd C dX6_seeRoom_105 ?_
  obtain ⟨v0_106, e_v0_106⟩ : ∃ y : SightV, y = Sight_set_seen v0_96 (upd (Sight_seen v0_96) (Int32.toNatClampNeg x1) (((Sight_seen v0_96) (Int32.toNatClampNeg x1)) + 1)) := ⟨_, rfl⟩
  replace hf := ltE e_v0_106 hf
  refine ww_iast C (f := Sight_seen v0_96) (w := wSight E a0 v0_96) (w' := wSight E a0 v0_106) (gs' := [wSight E a0 v0_106]) 0 1 rfl c_Sight_seen (inB_vp g_7) (by rw [e_v0_106]; exact s_Sight_seen) rfl dX6_seeRoom_106 ?_
  obtain rfl := Option.some.inj hf
  exact ww_vret C ⟨rfl, rfl⟩ dX6_seeRoom_107

set_option maxHeartbeats 4000000 in
set_option maxRecDepth 100000 in
theorem c_X6_seeRoom {E : Ex} {a0 : Nat → Nat} {x1 : Int32} {x2 : Int32} {v0 : SightV} {r : SightV} (hf : Sight_seeRoom x1 x2 v0 = some r) : Ct E yX6_seeRoom wsX6_seeRoom rmX6_seeRoom [.ref (a0 0), .int x1, .int x2] [wSight E a0 v0] (fun rv g => rv = none ∧ g = [wSight E a0 r]) := by
  refine ct_of (own := RX6) (by decide +kernel) rfl rfl (Nat.le_of_ble_eq_true rfl) (fun K C => ?_)
  refine ww_sub C (lv' := [(0, .ref (a0 0)), (1, .int x1), (2, .int x2)]) [0, 1, 2] rfl ?_
  rw [Sight_seeRoom] at hf
  refine ww_iload_n C dX6_seeRoom_0 rfl 1 rfl ?_
  refine ww_if_lt (tgt := 20) C dX6_seeRoom_1 (by decide) (fun c_1 => ?_) (fun c_1 => ?_)
  · replace hf := ifT c_1 hf
    obtain rfl := Option.some.inj hf
    exact ww_vret C ⟨rfl, rfl⟩ dX6_seeRoom_20
  · replace hf := ifF c_1 hf
    refine ww_iload_n C dX6_seeRoom_4 rfl 1 rfl ?_
    refine ww_bipush (v := 12) C dX6_seeRoom_5 (by decide) ?_
    refine ww_icmp_ge (tgt := 20) C dX6_seeRoom_7 (by decide) (fun c_2 => ?_) (fun c_2 => ?_)
    · replace hf := ifT c_2 hf
      obtain rfl := Option.some.inj hf
      exact ww_vret C ⟨rfl, rfl⟩ dX6_seeRoom_20
    · replace hf := ifF c_2 hf
      refine ww_aload_n C dX6_seeRoom_10 rfl 0 rfl ?_
      refine ww_get C clOK6 in_X6_seeRoom_X6 (w := wSight E a0 v0) (fs := fsSight a0 v0) (v := .ref (a0 5)) 0 0 4 rfl q_Sight (by decide) (by decide +kernel) g_Sight_last dX6_seeRoom_11 ?_
      refine ww_iload_n C dX6_seeRoom_14 rfl 1 rfl ?_
      obtain ⟨g_3, hf⟩ := gdE hf
      refine ww_iald C (f := Sight_last v0) (w := wSight E a0 v0) 0 5 rfl c_Sight_last (inB_vp g_3) dX6_seeRoom_15 ?_
      refine ww_iload_n C dX6_seeRoom_16 rfl 2 rfl ?_
      refine ww_icmp_ne (tgt := 21) C dX6_seeRoom_17 (by decide) (fun c_4 => ?_) (fun c_4 => ?_)
      · replace hf := ifF c_4 hf
        refine ww_aload_n C dX6_seeRoom_21 rfl 0 rfl ?_
        refine ww_get C clOK6 in_X6_seeRoom_X6 (w := wSight E a0 v0) (fs := fsSight a0 v0) (v := .ref (a0 5)) 0 0 4 rfl q_Sight (by decide) (by decide +kernel) g_Sight_last dX6_seeRoom_22 ?_
        refine ww_iload_n C dX6_seeRoom_25 rfl 1 rfl ?_
        refine ww_iald C (f := Sight_last v0) (w := wSight E a0 v0) 0 5 rfl c_Sight_last (inB_vp g_3) dX6_seeRoom_26 ?_
        refine ww_iconst (v := (-1)) C dX6_seeRoom_27 (by decide) ?_
        refine ww_icmp_ne (tgt := 41) C dX6_seeRoom_28 (by decide) (fun c_5 => ?_) (fun c_5 => ?_)
        · replace hf := ifF c_5 hf
          refine ww_iload_n C dX6_seeRoom_41 rfl 2 rfl ?_
          refine ww_aload_n C dX6_seeRoom_42 rfl 0 rfl ?_
          refine ww_get C clOK6 in_X6_seeRoom_X6 (w := wSight E a0 v0) (fs := fsSight a0 v0) (v := .ref (a0 5)) 0 0 4 rfl q_Sight (by decide) (by decide +kernel) g_Sight_last dX6_seeRoom_43 ?_
          refine ww_iload_n C dX6_seeRoom_46 rfl 1 rfl ?_
          refine ww_iald C (f := Sight_last v0) (w := wSight E a0 v0) 0 5 rfl c_Sight_last (inB_vp g_3) dX6_seeRoom_47 ?_
          refine ww_isub C dX6_seeRoom_48 ?_
          refine ww_iconst (v := 1) C dX6_seeRoom_49 (by decide) ?_
          refine ww_isub C dX6_seeRoom_50 ?_
          refine ww_aload_n C dX6_seeRoom_51 rfl 0 rfl ?_
          refine ww_get C clOK6 in_X6_seeRoom_X6 (w := wSight E a0 v0) (fs := fsSight a0 v0) (v := .ref (a0 2)) 0 0 1 rfl q_Sight (by decide) (by decide +kernel) g_Sight_gaps dX6_seeRoom_52 ?_
          refine ww_iload_n C dX6_seeRoom_55 rfl 1 rfl ?_
          refine ww_iald C (f := Sight_gaps v0) (w := wSight E a0 v0) 0 2 rfl c_Sight_gaps (inB_vp g_3) dX6_seeRoom_56 ?_
          refine ww_icmp_le (tgt := 90) C dX6_seeRoom_57 (by decide) (fun c_6 => ?_) (fun c_6 => ?_)
          · replace hf := ifT c_6 hf
            refine ww_sub C (lv' := [(0, .ref (a0 0)), (1, .int x1), (2, .int x2)]) [0, 1, 2] rfl ?_
            exact w_X6_seeRoom_90 C hf
          · replace hf := ifF c_6 hf
            refine ww_aload_n C dX6_seeRoom_60 rfl 0 rfl ?_
            refine ww_get C clOK6 in_X6_seeRoom_X6 (w := wSight E a0 v0) (fs := fsSight a0 v0) (v := .ref (a0 2)) 0 0 1 rfl q_Sight (by decide) (by decide +kernel) g_Sight_gaps dX6_seeRoom_61 ?_
            refine ww_iload_n C dX6_seeRoom_64 rfl 1 rfl ?_
            refine ww_iload_n C dX6_seeRoom_65 rfl 2 rfl ?_
            refine ww_aload_n C dX6_seeRoom_66 rfl 0 rfl ?_
            refine ww_get C clOK6 in_X6_seeRoom_X6 (w := wSight E a0 v0) (fs := fsSight a0 v0) (v := .ref (a0 5)) 0 0 4 rfl q_Sight (by decide) (by decide +kernel) g_Sight_last dX6_seeRoom_67 ?_
            refine ww_iload_n C dX6_seeRoom_70 rfl 1 rfl ?_
            refine ww_iald C (f := Sight_last v0) (w := wSight E a0 v0) 0 5 rfl c_Sight_last (inB_vp g_3) dX6_seeRoom_71 ?_
            refine ww_isub C dX6_seeRoom_72 ?_
            refine ww_iconst (v := 1) C dX6_seeRoom_73 (by decide) ?_
            refine ww_isub C dX6_seeRoom_74 ?_
            obtain ⟨v0_75, e_v0_75⟩ : ∃ y : SightV, y = Sight_set_gaps v0 (upd (Sight_gaps v0) (Int32.toNatClampNeg x1) ((x2 - ((Sight_last v0) (Int32.toNatClampNeg x1))) - 1)) := ⟨_, rfl⟩
            replace hf := ltE e_v0_75 hf
            refine ww_iast C (f := Sight_gaps v0) (w := wSight E a0 v0) (w' := wSight E a0 v0_75) (gs' := [wSight E a0 v0_75]) 0 2 rfl c_Sight_gaps (inB_vp g_3) (by rw [e_v0_75]; exact s_Sight_gaps) rfl dX6_seeRoom_75 ?_
            refine ww_aload_n C dX6_seeRoom_76 rfl 0 rfl ?_
            refine ww_get C clOK6 in_X6_seeRoom_X6 (w := wSight E a0 v0_75) (fs := fsSight a0 v0_75) (v := .ref (a0 3)) 0 0 2 rfl q_Sight (by decide) (by decide +kernel) g_Sight_gapStarts dX6_seeRoom_77 ?_
            refine ww_iload_n C dX6_seeRoom_80 rfl 1 rfl ?_
            refine ww_aload_n C dX6_seeRoom_81 rfl 0 rfl ?_
            refine ww_get C clOK6 in_X6_seeRoom_X6 (w := wSight E a0 v0_75) (fs := fsSight a0 v0_75) (v := .ref (a0 5)) 0 0 4 rfl q_Sight (by decide) (by decide +kernel) g_Sight_last dX6_seeRoom_82 ?_
            refine ww_iload_n C dX6_seeRoom_85 rfl 1 rfl ?_
            refine ww_iald C (f := Sight_last v0_75) (w := wSight E a0 v0_75) 0 5 rfl c_Sight_last (inB_vp g_3) dX6_seeRoom_86 ?_
            refine ww_iconst (v := 1) C dX6_seeRoom_87 (by decide) ?_
            refine ww_iadd C dX6_seeRoom_88 ?_
            obtain ⟨v0_89, e_v0_89⟩ : ∃ y : SightV, y = Sight_set_gapStarts v0_75 (upd (Sight_gapStarts v0_75) (Int32.toNatClampNeg x1) (((Sight_last v0_75) (Int32.toNatClampNeg x1)) + 1)) := ⟨_, rfl⟩
            replace hf := ltE e_v0_89 hf
            refine ww_iast C (f := Sight_gapStarts v0_75) (w := wSight E a0 v0_75) (w' := wSight E a0 v0_89) (gs' := [wSight E a0 v0_89]) 0 3 rfl c_Sight_gapStarts (inB_vp g_3) (by rw [e_v0_89]; exact s_Sight_gapStarts) rfl dX6_seeRoom_89 ?_
            refine ww_sub C (lv' := [(0, .ref (a0 0)), (1, .int x1), (2, .int x2)]) [0, 1, 2] rfl ?_
            exact w_X6_seeRoom_90 C hf
        · replace hf := ifT c_5 hf
          refine ww_aload_n C dX6_seeRoom_31 rfl 0 rfl ?_
          refine ww_get C clOK6 in_X6_seeRoom_X6 (w := wSight E a0 v0) (fs := fsSight a0 v0) (v := .ref (a0 4)) 0 0 3 rfl q_Sight (by decide) (by decide +kernel) g_Sight_first dX6_seeRoom_32 ?_
          refine ww_iload_n C dX6_seeRoom_35 rfl 1 rfl ?_
          refine ww_iload_n C dX6_seeRoom_36 rfl 2 rfl ?_
          obtain ⟨v0_37, e_v0_37⟩ : ∃ y : SightV, y = Sight_set_first v0 (upd (Sight_first v0) (Int32.toNatClampNeg x1) x2) := ⟨_, rfl⟩
          replace hf := ltE e_v0_37 hf
          refine ww_iast C (f := Sight_first v0) (w := wSight E a0 v0) (w' := wSight E a0 v0_37) (gs' := [wSight E a0 v0_37]) 0 4 rfl c_Sight_first (inB_vp g_3) (by rw [e_v0_37]; exact s_Sight_first) rfl dX6_seeRoom_37 ?_
          refine ww_goto (tgt := 90) C dX6_seeRoom_38 (by decide) ?_
          refine ww_sub C (lv' := [(0, .ref (a0 0)), (1, .int x1), (2, .int x2)]) [0, 1, 2] rfl ?_
          exact w_X6_seeRoom_90 C hf
      · replace hf := ifT c_4 hf
        obtain rfl := Option.some.inj hf
        exact ww_vret C ⟨rfl, rfl⟩ dX6_seeRoom_20

theorem yk_X6_seeRoom : yX6_seeRoom.cls = RX6 ∧ yX6_seeRoom.cls ≠ "java/lang/invoke/MethodHandle" ∧ yX6_seeRoom.cls ≠ "java/lang/invoke/VarHandle" ∧ (parseMethodDescriptor yX6_seeRoom.desc).map (fun d => d.parameters.length) = some 2 := by decide +kernel
abbrev rmX6_closeRound : Room := { frames := 0, cells := 0, slots := 0, locals := 0 }
set_option maxRecDepth 20000 in
theorem in_X6_closeRound_X6 : ∀ w ∈ u_ws RX6 TX6 8, w ∈ wsX6_closeRound := by decide +kernel
set_option maxHeartbeats 4000000 in
set_option maxRecDepth 100000 in
theorem w_X6_closeRound_108 {E : Ex} {K : Kx} (C : Cx E K cX6_closeRound 5 none RX6 wsX6_closeRound rmX6_closeRound) {a0 : Nat → Nat} {x1 : Int32} {x2 : Int32}  {x3 : Int32} {x4 : Int32} {v0 : SightV} {r : SightV} (hf : Sight_closeRound_108 x1 x2 x3 x4 v0 = some r) : WW E K 0 0 (QQ E K (fun rv g => rv = none ∧ g = [wSight E a0 r]) 0 0) 108 [(0, .ref (a0 0)), (1, .int x1), (3, .int x3), (4, .int x4)] [] [wSight E a0 v0] := by
  rw [Sight_closeRound_108] at hf
  refine ww_aload_n C dX6_closeRound_108 rfl 0 rfl ?_
  refine ww_get C clOK6 in_X6_closeRound_X6 (w := wSight E a0 v0) (fs := fsSight a0 v0) (v := .ref (a0 2)) 0 0 1 rfl q_Sight (by decide) (by decide +kernel) g_Sight_gaps dX6_closeRound_109 ?_
  refine ww_iload_n C dX6_closeRound_112 rfl 1 rfl ?_
  refine ww_iload_n C dX6_closeRound_113 rfl 2 rfl ?_
  obtain ⟨g_12, hf⟩ := gdE hf
  obtain ⟨v0_114, e_v0_114⟩ : ∃ y : SightV, y = Sight_set_gaps v0 (upd (Sight_gaps v0) (Int32.toNatClampNeg x1) x3) := ⟨_, rfl⟩
  replace hf := ltE e_v0_114 hf
  refine ww_iast C (f := Sight_gaps v0) (w := wSight E a0 v0) (w' := wSight E a0 v0_114) (gs' := [wSight E a0 v0_114]) 0 2 rfl c_Sight_gaps (inB_vp g_12) (by rw [e_v0_114]; exact s_Sight_gaps) rfl dX6_closeRound_114 ?_
  refine ww_aload_n C dX6_closeRound_115 rfl 0 rfl ?_
  refine ww_get C clOK6 in_X6_closeRound_X6 (w := wSight E a0 v0_114) (fs := fsSight a0 v0_114) (v := .ref (a0 3)) 0 0 2 rfl q_Sight (by decide) (by decide +kernel) g_Sight_gapStarts dX6_closeRound_116 ?_
  refine ww_iload_n C dX6_closeRound_119 rfl 1 rfl ?_
  refine ww_iload C dX6_closeRound_120 3 rfl ?_
  obtain ⟨v0_122, e_v0_122⟩ : ∃ y : SightV, y = Sight_set_gapStarts v0_114 (upd (Sight_gapStarts v0_114) (Int32.toNatClampNeg x1) x4) := ⟨_, rfl⟩
  replace hf := ltE e_v0_122 hf
  refine ww_iast C (f := Sight_gapStarts v0_114) (w := wSight E a0 v0_114) (w' := wSight E a0 v0_122) (gs' := [wSight E a0 v0_122]) 0 3 rfl c_Sight_gapStarts (inB_vp g_12) (by rw [e_v0_122]; exact s_Sight_gapStarts) rfl dX6_closeRound_122 ?_
  obtain rfl := Option.some.inj hf
  exact ww_vret C ⟨rfl, rfl⟩ dX6_closeRound_123

set_option maxHeartbeats 4000000 in
set_option maxRecDepth 100000 in
theorem w_X6_closeRound_71 {E : Ex} {K : Kx} (C : Cx E K cX6_closeRound 5 none RX6 wsX6_closeRound rmX6_closeRound) {a0 : Nat → Nat} {x1 : Int32} {x2 : Int32}  {x3 : Int32} {s0 : Int32} {v0 : SightV} {r : SightV} (hf : Sight_closeRound_71 x1 x2 x3 s0 v0 = some r) : WW E K 0 0 (QQ E K (fun rv g => rv = none ∧ g = [wSight E a0 r]) 0 0) 71 [(0, .ref (a0 0)), (1, .int x1), (3, .int x3)] [.int s0] [wSight E a0 v0] := by
  rw [Sight_closeRound_71] at hf
  refine ww_istore (lv' := [(4, .int s0), (0, .ref (a0 0)), (1, .int x1), (3, .int x3)]) C dX6_closeRound_71 (by decide) rfl ?_
  refine ww_iload_n C dX6_closeRound_73 rfl 3 rfl ?_
  refine ww_aload_n C dX6_closeRound_74 rfl 1 rfl ?_
  refine ww_get C clOK6 in_X6_closeRound_X6 (w := wSight E a0 v0) (fs := fsSight a0 v0) (v := .ref (a0 2)) 0 0 1 rfl q_Sight (by decide) (by decide +kernel) g_Sight_gaps dX6_closeRound_75 ?_
  refine ww_iload_n C dX6_closeRound_78 rfl 2 rfl ?_
  obtain ⟨g_7, hf⟩ := gdE hf
  refine ww_iald C (f := Sight_gaps v0) (w := wSight E a0 v0) 0 2 rfl c_Sight_gaps (inB_vp g_7) dX6_closeRound_79 ?_
  refine ww_icmp_gt (tgt := 108) C dX6_closeRound_80 (by decide) (fun c_8 => ?_) (fun c_8 => ?_)
  · replace hf := ifT c_8 hf
    refine ww_sub C (lv' := [(0, .ref (a0 0)), (1, .int x1), (3, .int x3), (4, .int s0)]) [1, 2, 3, 0] rfl ?_
    exact w_X6_closeRound_108 C hf
  · replace hf := ifF c_8 hf
    refine ww_iload_n C dX6_closeRound_83 rfl 3 rfl ?_
    refine ww_if_le (tgt := 123) C dX6_closeRound_84 (by decide) (fun c_9 => ?_) (fun c_9 => ?_)
    · replace hf := ifT c_9 hf
      obtain rfl := Option.some.inj hf
      exact ww_vret C ⟨rfl, rfl⟩ dX6_closeRound_123
    · replace hf := ifF c_9 hf
      refine ww_iload_n C dX6_closeRound_87 rfl 3 rfl ?_
      refine ww_aload_n C dX6_closeRound_88 rfl 1 rfl ?_
      refine ww_get C clOK6 in_X6_closeRound_X6 (w := wSight E a0 v0) (fs := fsSight a0 v0) (v := .ref (a0 2)) 0 0 1 rfl q_Sight (by decide) (by decide +kernel) g_Sight_gaps dX6_closeRound_89 ?_
      refine ww_iload_n C dX6_closeRound_92 rfl 2 rfl ?_
      refine ww_iald C (f := Sight_gaps v0) (w := wSight E a0 v0) 0 2 rfl c_Sight_gaps (inB_vp g_7) dX6_closeRound_93 ?_
      refine ww_icmp_ne (tgt := 123) C dX6_closeRound_94 (by decide) (fun c_10 => ?_) (fun c_10 => ?_)
      · replace hf := ifF c_10 hf
        obtain rfl := Option.some.inj hf
        exact ww_vret C ⟨rfl, rfl⟩ dX6_closeRound_123
      · replace hf := ifT c_10 hf
        refine ww_iload C dX6_closeRound_97 0 rfl ?_
        refine ww_aload_n C dX6_closeRound_99 rfl 1 rfl ?_
        refine ww_get C clOK6 in_X6_closeRound_X6 (w := wSight E a0 v0) (fs := fsSight a0 v0) (v := .ref (a0 3)) 0 0 2 rfl q_Sight (by decide) (by decide +kernel) g_Sight_gapStarts dX6_closeRound_100 ?_
        refine ww_iload_n C dX6_closeRound_103 rfl 2 rfl ?_
        refine ww_iald C (f := Sight_gapStarts v0) (w := wSight E a0 v0) 0 3 rfl c_Sight_gapStarts (inB_vp g_7) dX6_closeRound_104 ?_
        refine ww_icmp_ge (tgt := 123) C dX6_closeRound_105 (by decide) (fun c_11 => ?_) (fun c_11 => ?_)
        · replace hf := ifT c_11 hf
          obtain rfl := Option.some.inj hf
          exact ww_vret C ⟨rfl, rfl⟩ dX6_closeRound_123
        · replace hf := ifF c_11 hf
          refine ww_sub C (lv' := [(0, .ref (a0 0)), (1, .int x1), (3, .int x3), (4, .int s0)]) [1, 2, 3, 0] rfl ?_
          exact w_X6_closeRound_108 C hf

set_option maxHeartbeats 4000000 in
set_option maxRecDepth 100000 in
theorem c_X6_closeRound {E : Ex} {a0 : Nat → Nat} {x1 : Int32} {x2 : Int32} {v0 : SightV} {r : SightV} (hf : Sight_closeRound x1 x2 v0 = some r) : Ct E yX6_closeRound wsX6_closeRound rmX6_closeRound [.ref (a0 0), .int x1, .int x2] [wSight E a0 v0] (fun rv g => rv = none ∧ g = [wSight E a0 r]) := by
  refine ct_of (own := RX6) (by decide +kernel) rfl rfl (Nat.le_of_ble_eq_true rfl) (fun K C => ?_)
  refine ww_sub C (lv' := [(0, .ref (a0 0)), (1, .int x1), (2, .int x2)]) [0, 1, 2] rfl ?_
  rw [Sight_closeRound] at hf
  refine ww_iload_n C dX6_closeRound_0 rfl 1 rfl ?_
  refine ww_if_lt (tgt := 10) C dX6_closeRound_1 (by decide) (fun c_1 => ?_) (fun c_1 => ?_)
  · replace hf := ifT c_1 hf
    obtain rfl := Option.some.inj hf
    exact ww_vret C ⟨rfl, rfl⟩ dX6_closeRound_10
  · replace hf := ifF c_1 hf
    refine ww_iload_n C dX6_closeRound_4 rfl 1 rfl ?_
    refine ww_bipush (v := 12) C dX6_closeRound_5 (by decide) ?_
    refine ww_icmp_lt (tgt := 11) C dX6_closeRound_7 (by decide) (fun c_2 => ?_) (fun c_2 => ?_)
    · replace hf := ifT c_2 hf
      refine ww_aload_n C dX6_closeRound_11 rfl 0 rfl ?_
      refine ww_get C clOK6 in_X6_closeRound_X6 (w := wSight E a0 v0) (fs := fsSight a0 v0) (v := .ref (a0 5)) 0 0 4 rfl q_Sight (by decide) (by decide +kernel) g_Sight_last dX6_closeRound_12 ?_
      refine ww_iload_n C dX6_closeRound_15 rfl 1 rfl ?_
      obtain ⟨g_3, hf⟩ := gdE hf
      refine ww_iald C (f := Sight_last v0) (w := wSight E a0 v0) 0 5 rfl c_Sight_last (inB_vp g_3) dX6_closeRound_16 ?_
      refine ww_iconst (v := (-1)) C dX6_closeRound_17 (by decide) ?_
      refine ww_icmp_ne (tgt := 29) C dX6_closeRound_18 (by decide) (fun c_4 => ?_) (fun c_4 => ?_)
      · replace hf := ifF c_4 hf
        refine ww_aload_n C dX6_closeRound_29 rfl 0 rfl ?_
        refine ww_get C clOK6 in_X6_closeRound_X6 (w := wSight E a0 v0) (fs := fsSight a0 v0) (v := .ref (a0 4)) 0 0 3 rfl q_Sight (by decide) (by decide +kernel) g_Sight_first dX6_closeRound_30 ?_
        refine ww_iload_n C dX6_closeRound_33 rfl 1 rfl ?_
        refine ww_iald C (f := Sight_first v0) (w := wSight E a0 v0) 0 4 rfl c_Sight_first (inB_vp g_3) dX6_closeRound_34 ?_
        refine ww_iload_n C dX6_closeRound_35 rfl 2 rfl ?_
        refine ww_iadd C dX6_closeRound_36 ?_
        refine ww_aload_n C dX6_closeRound_37 rfl 0 rfl ?_
        refine ww_get C clOK6 in_X6_closeRound_X6 (w := wSight E a0 v0) (fs := fsSight a0 v0) (v := .ref (a0 5)) 0 0 4 rfl q_Sight (by decide) (by decide +kernel) g_Sight_last dX6_closeRound_38 ?_
        refine ww_iload_n C dX6_closeRound_41 rfl 1 rfl ?_
        refine ww_iald C (f := Sight_last v0) (w := wSight E a0 v0) 0 5 rfl c_Sight_last (inB_vp g_3) dX6_closeRound_42 ?_
        refine ww_isub C dX6_closeRound_43 ?_
        refine ww_iconst (v := 1) C dX6_closeRound_44 (by decide) ?_
        refine ww_isub C dX6_closeRound_45 ?_
        refine ww_topi (fun x3_46 e_x3_46 => ?_)
        replace hf := ltE e_x3_46 hf
        refine ww_istore_n (lv' := [(3, .int x3_46), (0, .ref (a0 0)), (1, .int x1), (2, .int x2)]) C dX6_closeRound_46 rfl (by decide) rfl ?_
        refine ww_aload_n C dX6_closeRound_47 rfl 1 rfl ?_
        refine ww_get C clOK6 in_X6_closeRound_X6 (w := wSight E a0 v0) (fs := fsSight a0 v0) (v := .ref (a0 5)) 0 0 4 rfl q_Sight (by decide) (by decide +kernel) g_Sight_last dX6_closeRound_48 ?_
        refine ww_iload_n C dX6_closeRound_51 rfl 2 rfl ?_
        refine ww_iald C (f := Sight_last v0) (w := wSight E a0 v0) 0 5 rfl c_Sight_last (inB_vp g_3) dX6_closeRound_52 ?_
        refine ww_iconst (v := 1) C dX6_closeRound_53 (by decide) ?_
        refine ww_iadd C dX6_closeRound_54 ?_
        refine ww_iload_n C dX6_closeRound_55 rfl 3 rfl ?_
        refine ww_icmp_ge (tgt := 70) C dX6_closeRound_56 (by decide) (fun c_6 => ?_) (fun c_6 => ?_)
        · replace hf := ifT c_6 hf
          refine ww_iconst (v := 0) C dX6_closeRound_70 (by decide) ?_
          refine ww_sub C (lv' := [(0, .ref (a0 0)), (1, .int x1), (3, .int x3_46)]) [1, 2, 0] rfl ?_
          exact w_X6_closeRound_71 C hf
        · replace hf := ifF c_6 hf
          refine ww_aload_n C dX6_closeRound_59 rfl 1 rfl ?_
          refine ww_get C clOK6 in_X6_closeRound_X6 (w := wSight E a0 v0) (fs := fsSight a0 v0) (v := .ref (a0 5)) 0 0 4 rfl q_Sight (by decide) (by decide +kernel) g_Sight_last dX6_closeRound_60 ?_
          refine ww_iload_n C dX6_closeRound_63 rfl 2 rfl ?_
          refine ww_iald C (f := Sight_last v0) (w := wSight E a0 v0) 0 5 rfl c_Sight_last (inB_vp g_3) dX6_closeRound_64 ?_
          refine ww_iconst (v := 1) C dX6_closeRound_65 (by decide) ?_
          refine ww_iadd C dX6_closeRound_66 ?_
          refine ww_goto (tgt := 71) C dX6_closeRound_67 (by decide) ?_
          refine ww_sub C (lv' := [(0, .ref (a0 0)), (1, .int x1), (3, .int x3_46)]) [1, 2, 0] rfl ?_
          exact w_X6_closeRound_71 C hf
      · replace hf := ifT c_4 hf
        refine ww_aload_n C dX6_closeRound_21 rfl 0 rfl ?_
        refine ww_get C clOK6 in_X6_closeRound_X6 (w := wSight E a0 v0) (fs := fsSight a0 v0) (v := .ref (a0 2)) 0 0 1 rfl q_Sight (by decide) (by decide +kernel) g_Sight_gaps dX6_closeRound_22 ?_
        refine ww_iload_n C dX6_closeRound_25 rfl 1 rfl ?_
        refine ww_iconst (v := (-1)) C dX6_closeRound_26 (by decide) ?_
        obtain ⟨v0_27, e_v0_27⟩ : ∃ y : SightV, y = Sight_set_gaps v0 (upd (Sight_gaps v0) (Int32.toNatClampNeg x1) (-1)) := ⟨_, rfl⟩
        replace hf := ltE e_v0_27 hf
        refine ww_iast C (f := Sight_gaps v0) (w := wSight E a0 v0) (w' := wSight E a0 v0_27) (gs' := [wSight E a0 v0_27]) 0 2 rfl c_Sight_gaps (inB_vp g_3) (by rw [e_v0_27]; exact s_Sight_gaps) rfl dX6_closeRound_27 ?_
        obtain rfl := Option.some.inj hf
        exact ww_vret C ⟨rfl, rfl⟩ dX6_closeRound_28
    · replace hf := ifF c_2 hf
      obtain rfl := Option.some.inj hf
      exact ww_vret C ⟨rfl, rfl⟩ dX6_closeRound_10

theorem yk_X6_closeRound : yX6_closeRound.cls = RX6 ∧ yX6_closeRound.cls ≠ "java/lang/invoke/MethodHandle" ∧ yX6_closeRound.cls ≠ "java/lang/invoke/VarHandle" ∧ (parseMethodDescriptor yX6_closeRound.desc).map (fun d => d.parameters.length) = some 2 := by decide +kernel
abbrev rmX6_seeMinute : Room := { frames := 2, cells := 0, slots := 0, locals := 43 }
set_option maxRecDepth 20000 in
theorem in_X6_seeMinute_X2 : ∀ w ∈ u_ws RX2 TX2 19, w ∈ wsX6_seeMinute := by decide +kernel
set_option maxRecDepth 20000 in
theorem in_X6_seeMinute_X6 : ∀ w ∈ u_ws RX6 TX6 8, w ∈ wsX6_seeMinute := by decide +kernel
set_option maxHeartbeats 4000000 in
set_option maxRecDepth 100000 in
theorem w_X6_seeMinute_2 {E : Ex} {K : Kx} (C : Cx E K cX6_seeMinute 4 none RX6 wsX6_seeMinute rmX6_seeMinute) {a0 : Nat → Nat} {a1 : Nat → Nat} {x2 : Int32} {v1 : HouseV}  {r : SightV} : ∀ (n : Nat) (x3 : Int32) (v0 : SightV), Sight_seeMinute_2 x2 v1 n x3 v0 = some r → WW E K 0 0 (QQ E K (fun rv g => rv = none ∧ g = [wSight E a0 r, wHouse E a1 v1]) 0 0) 2 [(0, .ref (a0 0)), (1, .ref (a1 0)), (2, .int x2), (3, .int x3)] [] [wSight E a0 v0, wHouse E a1 v1] := by
  intro n
  induction n with
  | zero =>
    intro x3 v0 hf
    simp [Sight_seeMinute_2] at hf
  | succ n ih =>
    intro x3 v0 hf
    rw [Sight_seeMinute_2] at hf
    refine ww_iload_n C dX6_seeMinute_2 rfl 3 rfl ?_
    refine ww_aload_n C dX6_seeMinute_3 rfl 1 rfl ?_
    refine ww_get C clOK2 in_X6_seeMinute_X2 (w := wHouse E a1 v1) (fs := fsHouse a1 v1) (v := .int (House_guards v1)) 1 0 2 rfl q_House (by decide) (by decide +kernel) g_House_guards dX6_seeMinute_4 ?_
    refine ww_icmp_ge (tgt := 69) C dX6_seeMinute_7 (by decide) (fun c_1 => ?_) (fun c_1 => ?_)
    · replace hf := ifT c_1 hf
      obtain rfl := Option.some.inj hf
      exact ww_vret C ⟨rfl, rfl⟩ dX6_seeMinute_69
    · replace hf := ifF c_1 hf
      refine ww_iload_n C dX6_seeMinute_10 rfl 3 rfl ?_
      refine ww_iconst (v := 4) C dX6_seeMinute_11 (by decide) ?_
      refine ww_icmp_ge (tgt := 69) C dX6_seeMinute_12 (by decide) (fun c_2 => ?_) (fun c_2 => ?_)
      · replace hf := ifT c_2 hf
        obtain rfl := Option.some.inj hf
        exact ww_vret C ⟨rfl, rfl⟩ dX6_seeMinute_69
      · replace hf := ifF c_2 hf
        refine ww_aload_n C dX6_seeMinute_15 rfl 0 rfl ?_
        refine ww_aload_n C dX6_seeMinute_16 rfl 1 rfl ?_
        refine ww_iload_n C dX6_seeMinute_17 rfl 3 rfl ?_
        refine ww_aload_n C dX6_seeMinute_18 rfl 0 rfl ?_
        refine ww_get C clOK6 in_X6_seeMinute_X6 (w := wSight E a0 v0) (fs := fsSight a0 v0) (v := .ref (a0 6)) 0 0 5 rfl q_Sight (by decide) (by decide +kernel) g_Sight_steps dX6_seeMinute_19 ?_
        refine ww_iload_n C dX6_seeMinute_22 rfl 3 rfl ?_
        obtain ⟨g_3, hf⟩ := gdE hf
        refine ww_iald C (f := Sight_steps v0) (w := wSight E a0 v0) 0 6 rfl c_Sight_steps (inB_vp g_3) dX6_seeMinute_23 ?_
        obtain ⟨p24, hp24, hf⟩ := bdE hf
        refine ww_callV C (As := [.int x3, .int ((Sight_steps v0) (Int32.toNatClampNeg x3))]) (st := [.ref (a0 0)]) (gr := [wSight E a0 v0]) (c_X2_walkRoom (E := E) (a0 := a1) hp24) gX6_seeMinute_X2_walkRoom rfl yk_X2_walkRoom ⟨by decide, by decide⟩ ⟨by decide, by decide⟩ clOK2 0 0 rfl rfl [1] [0] 2 rfl (by decide) rfl rfl (Nat.le_of_ble_eq_true rfl) dX6_seeMinute_24 ?_
        rintro _ _ ⟨rfl, rfl⟩
        refine ww_perm (gs' := [wSight E a0 v0, wHouse E a1 v1]) [1, 0] 2 rfl (by decide) rfl ?_
        refine ww_iload_n C dX6_seeMinute_27 rfl 2 rfl ?_
        obtain ⟨p28, hp28, hf⟩ := bdE hf
        refine ww_callV C (As := [.int p24, .int x2]) (st := []) (gr := [wHouse E a1 v1]) (c_X6_seeRoom (E := E) (a0 := a0) hp28) gX6_seeMinute_X6_seeRoom rfl yk_X6_seeRoom ⟨by decide, by decide⟩ ⟨by decide, by decide⟩ clOK6 0 0 rfl rfl [0] [1] 2 rfl (by decide) rfl rfl (Nat.le_of_ble_eq_true rfl) dX6_seeMinute_28 ?_
        rintro _ _ ⟨rfl, rfl⟩
        refine ww_perm (gs' := [wSight E a0 p28, wHouse E a1 v1]) [0, 1] 2 rfl (by decide) rfl ?_
        refine ww_aload_n C dX6_seeMinute_31 rfl 0 rfl ?_
        refine ww_get C clOK6 in_X6_seeMinute_X6 (w := wSight E a0 p28) (fs := fsSight a0 p28) (v := .ref (a0 6)) 0 0 5 rfl q_Sight (by decide) (by decide +kernel) g_Sight_steps dX6_seeMinute_32 ?_
        refine ww_iload_n C dX6_seeMinute_35 rfl 3 rfl ?_
        refine ww_dup2 C dX6_seeMinute_36 rfl rfl ?_
        refine ww_iald C (f := Sight_steps p28) (w := wSight E a0 p28) 0 6 rfl c_Sight_steps (inB_vp g_3) dX6_seeMinute_37 ?_
        refine ww_iconst (v := 1) C dX6_seeMinute_38 (by decide) ?_
        refine ww_iadd C dX6_seeMinute_39 ?_
        obtain ⟨v0_40, e_v0_40⟩ : ∃ y : SightV, y = Sight_set_steps p28 (upd (Sight_steps p28) (Int32.toNatClampNeg x3) (((Sight_steps p28) (Int32.toNatClampNeg x3)) + 1)) := ⟨_, rfl⟩
        replace hf := ltE e_v0_40 hf
        refine ww_iast C (f := Sight_steps p28) (w := wSight E a0 p28) (w' := wSight E a0 v0_40) (gs' := [wSight E a0 v0_40, wHouse E a1 v1]) 0 6 rfl c_Sight_steps (inB_vp g_3) (by rw [e_v0_40]; exact s_Sight_steps) rfl dX6_seeMinute_40 ?_
        refine ww_aload_n C dX6_seeMinute_41 rfl 0 rfl ?_
        refine ww_get C clOK6 in_X6_seeMinute_X6 (w := wSight E a0 v0_40) (fs := fsSight a0 v0_40) (v := .ref (a0 6)) 0 0 5 rfl q_Sight (by decide) (by decide +kernel) g_Sight_steps dX6_seeMinute_42 ?_
        refine ww_iload_n C dX6_seeMinute_45 rfl 3 rfl ?_
        refine ww_iald C (f := Sight_steps v0_40) (w := wSight E a0 v0_40) 0 6 rfl c_Sight_steps (inB_vp g_3) dX6_seeMinute_46 ?_
        refine ww_aload_n C dX6_seeMinute_47 rfl 1 rfl ?_
        refine ww_get C clOK2 in_X6_seeMinute_X2 (w := wHouse E a1 v1) (fs := fsHouse a1 v1) (v := .ref (a1 5)) 1 0 11 rfl q_House (by decide) (by decide +kernel) g_House_periods dX6_seeMinute_48 ?_
        refine ww_iload_n C dX6_seeMinute_51 rfl 3 rfl ?_
        refine ww_iald C (f := House_periods v1) (w := wHouse E a1 v1) 1 5 rfl c_House_periods (inB_vp g_3) dX6_seeMinute_52 ?_
        refine ww_icmp_lt (tgt := 63) C dX6_seeMinute_53 (by decide) (fun c_4 => ?_) (fun c_4 => ?_)
        · replace hf := ifT c_4 hf
          obtain ⟨x3_63, e_x3_63⟩ : ∃ y : Int32, y = x3 + 1 := ⟨_, rfl⟩
          replace hf := ltE e_x3_63 hf
          refine ww_iinc (v := x3_63) (lv' := [(3, .int x3_63), (0, .ref (a0 0)), (1, .ref (a1 0)), (2, .int x2)]) C dX6_seeMinute_63 3 rfl (by rw [e_x3_63]; rfl) (by decide) rfl ?_
          refine ww_goto (tgt := 2) C dX6_seeMinute_66 (by decide) ?_
          refine ww_sub C (lv' := [(0, .ref (a0 0)), (1, .ref (a1 0)), (2, .int x2), (3, .int x3_63)]) [1, 2, 3, 0] rfl ?_
          exact ih _ _ hf
        · replace hf := ifF c_4 hf
          refine ww_aload_n C dX6_seeMinute_56 rfl 0 rfl ?_
          refine ww_get C clOK6 in_X6_seeMinute_X6 (w := wSight E a0 v0_40) (fs := fsSight a0 v0_40) (v := .ref (a0 6)) 0 0 5 rfl q_Sight (by decide) (by decide +kernel) g_Sight_steps dX6_seeMinute_57 ?_
          refine ww_iload_n C dX6_seeMinute_60 rfl 3 rfl ?_
          refine ww_iconst (v := 0) C dX6_seeMinute_61 (by decide) ?_
          obtain ⟨v0_62, e_v0_62⟩ : ∃ y : SightV, y = Sight_set_steps v0_40 (upd (Sight_steps v0_40) (Int32.toNatClampNeg x3) 0) := ⟨_, rfl⟩
          replace hf := ltE e_v0_62 hf
          refine ww_iast C (f := Sight_steps v0_40) (w := wSight E a0 v0_40) (w' := wSight E a0 v0_62) (gs' := [wSight E a0 v0_62, wHouse E a1 v1]) 0 6 rfl c_Sight_steps (inB_vp g_3) (by rw [e_v0_62]; exact s_Sight_steps) rfl dX6_seeMinute_62 ?_
          obtain ⟨x3_63, e_x3_63⟩ : ∃ y : Int32, y = x3 + 1 := ⟨_, rfl⟩
          replace hf := ltE e_x3_63 hf
          refine ww_iinc (v := x3_63) (lv' := [(3, .int x3_63), (0, .ref (a0 0)), (1, .ref (a1 0)), (2, .int x2)]) C dX6_seeMinute_63 3 rfl (by rw [e_x3_63]; rfl) (by decide) rfl ?_
          refine ww_goto (tgt := 2) C dX6_seeMinute_66 (by decide) ?_
          refine ww_sub C (lv' := [(0, .ref (a0 0)), (1, .ref (a1 0)), (2, .int x2), (3, .int x3_63)]) [1, 2, 3, 0] rfl ?_
          exact ih _ _ hf

set_option maxHeartbeats 4000000 in
set_option maxRecDepth 100000 in
theorem c_X6_seeMinute {E : Ex} {a0 : Nat → Nat} {a1 : Nat → Nat} {x2 : Int32} {v0 : SightV} {v1 : HouseV} {r : SightV} (hf : Sight_seeMinute x2 v0 v1 = some r) : Ct E yX6_seeMinute wsX6_seeMinute rmX6_seeMinute [.ref (a0 0), .ref (a1 0), .int x2] [wSight E a0 v0, wHouse E a1 v1] (fun rv g => rv = none ∧ g = [wSight E a0 r, wHouse E a1 v1]) := by
  refine ct_of (own := RX6) (by decide +kernel) rfl rfl (Nat.le_of_ble_eq_true rfl) (fun K C => ?_)
  refine ww_sub C (lv' := [(0, .ref (a0 0)), (1, .ref (a1 0)), (2, .int x2)]) [0, 1, 2] rfl ?_
  rw [Sight_seeMinute] at hf
  refine ww_iconst (v := 0) C dX6_seeMinute_0 (by decide) ?_
  refine ww_istore_n (lv' := [(3, .int 0), (0, .ref (a0 0)), (1, .ref (a1 0)), (2, .int x2)]) C dX6_seeMinute_1 rfl (by decide) rfl ?_
  refine ww_sub C (lv' := [(0, .ref (a0 0)), (1, .ref (a1 0)), (2, .int x2), (3, .int 0)]) [1, 2, 3, 0] rfl ?_
  exact w_X6_seeMinute_2 C FU _ _ hf

theorem yk_X6_seeMinute : yX6_seeMinute.cls = RX6 ∧ yX6_seeMinute.cls ≠ "java/lang/invoke/MethodHandle" ∧ yX6_seeMinute.cls ≠ "java/lang/invoke/VarHandle" ∧ (parseMethodDescriptor yX6_seeMinute.desc).map (fun d => d.parameters.length) = some 2 := by decide +kernel
abbrev rmX6_measure : Room := { frames := 3, cells := 0, slots := 0, locals := 66 }
set_option maxRecDepth 20000 in
theorem in_X6_measure_X2 : ∀ w ∈ u_ws RX2 TX2 19, w ∈ wsX6_measure := by decide +kernel
set_option maxRecDepth 20000 in
theorem in_X6_measure_X6 : ∀ w ∈ u_ws RX6 TX6 8, w ∈ wsX6_measure := by decide +kernel
set_option maxHeartbeats 4000000 in
set_option maxRecDepth 100000 in
theorem w_X6_measure_85 {E : Ex} {K : Kx} (C : Cx E K cX6_measure 4 none RX6 wsX6_measure rmX6_measure) {a0 : Nat → Nat} {a1 : Nat → Nat} {v1 : HouseV} {x2 : Int32} {r : SightV} : ∀ (n : Nat) (x3 : Int32) (v0 : SightV), Sight_measure_85 v1 x2 n x3 v0 = some r → WW E K 0 0 (QQ E K (fun rv g => rv = none ∧ g = [wSight E a0 r, wHouse E a1 v1]) 0 0) 85 [(0, .ref (a0 0)), (1, .ref (a1 0)), (2, .int x2), (3, .int x3)] [] [wSight E a0 v0, wHouse E a1 v1] := by
  intro n
  induction n with
  | zero =>
    intro x3 v0 hf
    simp [Sight_measure_85] at hf
  | succ n ih =>
    intro x3 v0 hf
    rw [Sight_measure_85] at hf
    refine ww_iload_n C dX6_measure_85 rfl 3 rfl ?_
    refine ww_aload_n C dX6_measure_86 rfl 1 rfl ?_
    refine ww_get C clOK2 in_X6_measure_X2 (w := wHouse E a1 v1) (fs := fsHouse a1 v1) (v := .int (House_rooms v1)) 1 0 0 rfl q_House (by decide) (by decide +kernel) g_House_rooms dX6_measure_87 ?_
    refine ww_icmp_ge (tgt := 128) C dX6_measure_90 (by decide) (fun c_2 => ?_) (fun c_2 => ?_)
    · replace hf := ifT c_2 hf
      refine ww_aload_n C dX6_measure_128 rfl 0 rfl ?_
      refine ww_aload_n C dX6_measure_129 rfl 1 rfl ?_
      refine ww_get C clOK2 in_X6_measure_X2 (w := wHouse E a1 v1) (fs := fsHouse a1 v1) (v := .int (House_phasesStamp v1)) 1 0 6 rfl q_House (by decide) (by decide +kernel) g_House_phasesStamp dX6_measure_130 ?_
      obtain ⟨v0_133, e_v0_133⟩ : ∃ y : SightV, y = Sight_set_stamp v0 (House_phasesStamp v1) := ⟨_, rfl⟩
      replace hf := ltE e_v0_133 hf
      refine ww_put C clOK6 in_X6_measure_X6 (w := wSight E a0 v0) (fs := fsSight a0 v0) (w' := wSight E a0 v0_133) (gs' := [wSight E a0 v0_133, wHouse E a1 v1]) 0 0 7 rfl q_Sight (by decide) (by decide +kernel) rfl rfl rfl rfl l_Sight (by rw [e_v0_133]; exact p_Sight_stamp) rfl dX6_measure_133 ?_
      obtain rfl := Option.some.inj hf
      exact ww_vret C ⟨rfl, rfl⟩ dX6_measure_136
    · replace hf := ifF c_2 hf
      refine ww_iload_n C dX6_measure_93 rfl 3 rfl ?_
      refine ww_bipush (v := 12) C dX6_measure_94 (by decide) ?_
      refine ww_icmp_ge (tgt := 128) C dX6_measure_96 (by decide) (fun c_3 => ?_) (fun c_3 => ?_)
      · replace hf := ifT c_3 hf
        refine ww_aload_n C dX6_measure_128 rfl 0 rfl ?_
        refine ww_aload_n C dX6_measure_129 rfl 1 rfl ?_
        refine ww_get C clOK2 in_X6_measure_X2 (w := wHouse E a1 v1) (fs := fsHouse a1 v1) (v := .int (House_phasesStamp v1)) 1 0 6 rfl q_House (by decide) (by decide +kernel) g_House_phasesStamp dX6_measure_130 ?_
        obtain ⟨v0_133, e_v0_133⟩ : ∃ y : SightV, y = Sight_set_stamp v0 (House_phasesStamp v1) := ⟨_, rfl⟩
        replace hf := ltE e_v0_133 hf
        refine ww_put C clOK6 in_X6_measure_X6 (w := wSight E a0 v0) (fs := fsSight a0 v0) (w' := wSight E a0 v0_133) (gs' := [wSight E a0 v0_133, wHouse E a1 v1]) 0 0 7 rfl q_Sight (by decide) (by decide +kernel) rfl rfl rfl rfl l_Sight (by rw [e_v0_133]; exact p_Sight_stamp) rfl dX6_measure_133 ?_
        obtain rfl := Option.some.inj hf
        exact ww_vret C ⟨rfl, rfl⟩ dX6_measure_136
      · replace hf := ifF c_3 hf
        refine ww_aload_n C dX6_measure_99 rfl 0 rfl ?_
        refine ww_iload_n C dX6_measure_100 rfl 3 rfl ?_
        refine ww_iload_n C dX6_measure_101 rfl 2 rfl ?_
        obtain ⟨p102, hp102, hf⟩ := bdE hf
        refine ww_callV C (As := [.int x3, .int x2]) (st := []) (gr := [wHouse E a1 v1]) (c_X6_closeRound (E := E) (a0 := a0) hp102) gX6_measure_X6_closeRound rfl yk_X6_closeRound ⟨by decide, by decide⟩ ⟨by decide, by decide⟩ clOK6 0 0 rfl rfl [0] [1] 2 rfl (by decide) rfl rfl (Nat.le_of_ble_eq_true rfl) dX6_measure_102 ?_
        rintro _ _ ⟨rfl, rfl⟩
        refine ww_perm (gs' := [wSight E a0 p102, wHouse E a1 v1]) [0, 1] 2 rfl (by decide) rfl ?_
        refine ww_aload_n C dX6_measure_105 rfl 0 rfl ?_
        refine ww_aload_n C dX6_measure_106 rfl 0 rfl ?_
        refine ww_get C clOK6 in_X6_measure_X6 (w := wSight E a0 p102) (fs := fsSight a0 p102) (v := .int (Sight_worst p102)) 0 0 6 rfl q_Sight (by decide) (by decide +kernel) g_Sight_worst dX6_measure_107 ?_
        refine ww_aload_n C dX6_measure_110 rfl 0 rfl ?_
        refine ww_get C clOK6 in_X6_measure_X6 (w := wSight E a0 p102) (fs := fsSight a0 p102) (v := .ref (a0 2)) 0 0 1 rfl q_Sight (by decide) (by decide +kernel) g_Sight_gaps dX6_measure_111 ?_
        refine ww_iload_n C dX6_measure_114 rfl 3 rfl ?_
        obtain ⟨g_4, hf⟩ := gdE hf
        refine ww_iald C (f := Sight_gaps p102) (w := wSight E a0 p102) 0 2 rfl c_Sight_gaps (inB_vp g_4) dX6_measure_115 ?_
        refine ww_max C (by decide +kernel) (by decide +kernel) (by decide +kernel) (by decide +kernel) (by decide) (Nat.le_of_ble_eq_true rfl) (by decide) (by decide) dX6_measure_116 ?_
        obtain ⟨v0_119, e_v0_119⟩ : ∃ y : SightV, y = Sight_set_worst p102 (imax (Sight_worst p102) ((Sight_gaps p102) (Int32.toNatClampNeg x3))) := ⟨_, rfl⟩
        replace hf := ltE e_v0_119 hf
        refine ww_put C clOK6 in_X6_measure_X6 (w := wSight E a0 p102) (fs := fsSight a0 p102) (w' := wSight E a0 v0_119) (gs' := [wSight E a0 v0_119, wHouse E a1 v1]) 0 0 6 rfl q_Sight (by decide) (by decide +kernel) rfl rfl rfl rfl l_Sight (by rw [e_v0_119]; exact p_Sight_worst) rfl dX6_measure_119 ?_
        obtain ⟨x3_122, e_x3_122⟩ : ∃ y : Int32, y = x3 + 1 := ⟨_, rfl⟩
        replace hf := ltE e_x3_122 hf
        refine ww_iinc (v := x3_122) (lv' := [(3, .int x3_122), (0, .ref (a0 0)), (1, .ref (a1 0)), (2, .int x2)]) C dX6_measure_122 3 rfl (by rw [e_x3_122]; rfl) (by decide) rfl ?_
        refine ww_goto (tgt := 85) C dX6_measure_125 (by decide) ?_
        refine ww_sub C (lv' := [(0, .ref (a0 0)), (1, .ref (a1 0)), (2, .int x2), (3, .int x3_122)]) [1, 2, 3, 0] rfl ?_
        exact ih _ _ hf

set_option maxHeartbeats 4000000 in
set_option maxRecDepth 100000 in
theorem w_X6_measure_61 {E : Ex} {K : Kx} (C : Cx E K cX6_measure 4 none RX6 wsX6_measure rmX6_measure) {a0 : Nat → Nat} {a1 : Nat → Nat} {v1 : HouseV} {x2 : Int32} {r : SightV} : ∀ (n : Nat) (x3 : Int32) (v0 : SightV), Sight_measure_61 v1 x2 n x3 v0 = some r → WW E K 0 0 (QQ E K (fun rv g => rv = none ∧ g = [wSight E a0 r, wHouse E a1 v1]) 0 0) 61 [(0, .ref (a0 0)), (1, .ref (a1 0)), (2, .int x2), (3, .int x3)] [] [wSight E a0 v0, wHouse E a1 v1] := by
  intro n
  induction n with
  | zero =>
    intro x3 v0 hf
    simp [Sight_measure_61] at hf
  | succ n ih =>
    intro x3 v0 hf
    rw [Sight_measure_61] at hf
    refine ww_iload_n C dX6_measure_61 rfl 3 rfl ?_
    refine ww_iload_n C dX6_measure_62 rfl 2 rfl ?_
    refine ww_icmp_ge (tgt := 78) C dX6_measure_63 (by decide) (fun c_1 => ?_) (fun c_1 => ?_)
    · replace hf := ifT c_1 hf
      refine ww_aload_n C dX6_measure_78 rfl 0 rfl ?_
      refine ww_iconst (v := 0) C dX6_measure_79 (by decide) ?_
      obtain ⟨v0_80, e_v0_80⟩ : ∃ y : SightV, y = Sight_set_worst v0 0 := ⟨_, rfl⟩
      replace hf := ltE e_v0_80 hf
      refine ww_put C clOK6 in_X6_measure_X6 (w := wSight E a0 v0) (fs := fsSight a0 v0) (w' := wSight E a0 v0_80) (gs' := [wSight E a0 v0_80, wHouse E a1 v1]) 0 0 6 rfl q_Sight (by decide) (by decide +kernel) rfl rfl rfl rfl l_Sight (by rw [e_v0_80]; exact p_Sight_worst) rfl dX6_measure_80 ?_
      refine ww_iconst (v := 0) C dX6_measure_83 (by decide) ?_
      refine ww_istore_n (lv' := [(3, .int 0), (0, .ref (a0 0)), (1, .ref (a1 0)), (2, .int x2)]) C dX6_measure_84 rfl (by decide) rfl ?_
      refine ww_sub C (lv' := [(0, .ref (a0 0)), (1, .ref (a1 0)), (2, .int x2), (3, .int 0)]) [1, 2, 3, 0] rfl ?_
      exact w_X6_measure_85 C FU _ _ hf
    · replace hf := ifF c_1 hf
      refine ww_aload_n C dX6_measure_66 rfl 0 rfl ?_
      refine ww_aload_n C dX6_measure_67 rfl 1 rfl ?_
      refine ww_iload_n C dX6_measure_68 rfl 3 rfl ?_
      obtain ⟨p69, hp69, hf⟩ := bdE hf
      refine ww_callV C (As := [.ref (a1 0), .int x3]) (st := []) (gr := []) (c_X6_seeMinute (E := E) (a0 := a0) (a1 := a1) hp69) gX6_measure_X6_seeMinute rfl yk_X6_seeMinute ⟨by decide, by decide⟩ ⟨by decide, by decide⟩ clOK6 0 0 rfl rfl [0, 1] [] 2 rfl (by decide) rfl rfl (Nat.le_of_ble_eq_true rfl) dX6_measure_69 ?_
      rintro _ _ ⟨rfl, rfl⟩
      refine ww_perm (gs' := [wSight E a0 p69, wHouse E a1 v1]) [0, 1] 2 rfl (by decide) rfl ?_
      obtain ⟨x3_72, e_x3_72⟩ : ∃ y : Int32, y = x3 + 1 := ⟨_, rfl⟩
      replace hf := ltE e_x3_72 hf
      refine ww_iinc (v := x3_72) (lv' := [(3, .int x3_72), (0, .ref (a0 0)), (1, .ref (a1 0)), (2, .int x2)]) C dX6_measure_72 3 rfl (by rw [e_x3_72]; rfl) (by decide) rfl ?_
      refine ww_goto (tgt := 61) C dX6_measure_75 (by decide) ?_
      refine ww_sub C (lv' := [(0, .ref (a0 0)), (1, .ref (a1 0)), (2, .int x2), (3, .int x3_72)]) [1, 2, 3, 0] rfl ?_
      exact ih _ _ hf

set_option maxHeartbeats 4000000 in
set_option maxRecDepth 100000 in
theorem c_X6_measure {E : Ex} {a0 : Nat → Nat} {a1 : Nat → Nat} {v0 : SightV} {v1 : HouseV} {r : SightV} (hf : Sight_measure v0 v1 = some r) : Ct E yX6_measure wsX6_measure rmX6_measure [.ref (a0 0), .ref (a1 0)] [wSight E a0 v0, wHouse E a1 v1] (fun rv g => rv = none ∧ g = [wSight E a0 r, wHouse E a1 v1]) := by
  refine ct_of (own := RX6) (by decide +kernel) rfl rfl (Nat.le_of_ble_eq_true rfl) (fun K C => ?_)
  refine ww_sub C (lv' := [(0, .ref (a0 0)), (1, .ref (a1 0))]) [0, 1] rfl ?_
  rw [Sight_measure] at hf
  refine ww_aload_n C dX6_measure_0 rfl 0 rfl ?_
  refine ww_get C clOK6 in_X6_measure_X6 (w := wSight E a0 v0) (fs := fsSight a0 v0) (v := .ref (a0 1)) 0 0 0 rfl q_Sight (by decide) (by decide +kernel) g_Sight_seen dX6_measure_1 ?_
  refine ww_iconst (v := 0) C dX6_measure_4 (by decide) ?_
  obtain ⟨p5, hp5, hf⟩ := bdE hf
  obtain ⟨v0_5, e_v0_5⟩ : ∃ y : SightV, y = Sight_set_seen v0 p5 := ⟨_, rfl⟩
  replace hf := ltE e_v0_5 hf
  refine ww_regr (gs' := [(wSight E a0 v0).take 1, wArr E (a0 1) 12 (Sight_seen v0), (wSight E a0 v0).drop 2, wHouse E a1 v1]) rfl ?_
  refine ww_callS C (As := [.ref (a0 1), .int 0]) (st := []) (gr := [(wSight E a0 v0).take 1, (wSight E a0 v0).drop 2, wHouse E a1 v1]) (c_J7_fill_53178 (E := E) (q0 := a0 1) (n0 := 12) hp5) gX6_measure_J7_fill_53178 rfl ysk_J7_fill_53178 ⟨by decide, by decide⟩ ⟨by decide, by decide⟩ [1] [0, 2, 3] 4 rfl (by decide) rfl rfl (Nat.le_of_ble_eq_true rfl) dX6_measure_5 ?_
  rintro _ _ ⟨rfl, rfl⟩
  refine ww_perm (gs' := [(wSight E a0 v0).take 1, wArr E (a0 1) 12 p5, (wSight E a0 v0).drop 2, wHouse E a1 v1]) [1, 0, 2, 3] 4 rfl (by decide) rfl ?_
  refine ww_regr (gs' := [wSight E a0 v0_5, wHouse E a1 v1]) (by rw [e_v0_5]; rfl) ?_
  refine ww_aload_n C dX6_measure_8 rfl 0 rfl ?_
  refine ww_get C clOK6 in_X6_measure_X6 (w := wSight E a0 v0_5) (fs := fsSight a0 v0_5) (v := .ref (a0 2)) 0 0 1 rfl q_Sight (by decide) (by decide +kernel) g_Sight_gaps dX6_measure_9 ?_
  refine ww_iconst (v := 0) C dX6_measure_12 (by decide) ?_
  obtain ⟨p13, hp13, hf⟩ := bdE hf
  obtain ⟨v0_13, e_v0_13⟩ : ∃ y : SightV, y = Sight_set_gaps v0_5 p13 := ⟨_, rfl⟩
  replace hf := ltE e_v0_13 hf
  refine ww_regr (gs' := [(wSight E a0 v0_5).take 2, wArr E (a0 2) 12 (Sight_gaps v0_5), (wSight E a0 v0_5).drop 3, wHouse E a1 v1]) rfl ?_
  refine ww_callS C (As := [.ref (a0 2), .int 0]) (st := []) (gr := [(wSight E a0 v0_5).take 2, (wSight E a0 v0_5).drop 3, wHouse E a1 v1]) (c_J7_fill_53178 (E := E) (q0 := a0 2) (n0 := 12) hp13) gX6_measure_J7_fill_53178 rfl ysk_J7_fill_53178 ⟨by decide, by decide⟩ ⟨by decide, by decide⟩ [1] [0, 2, 3] 4 rfl (by decide) rfl rfl (Nat.le_of_ble_eq_true rfl) dX6_measure_13 ?_
  rintro _ _ ⟨rfl, rfl⟩
  refine ww_perm (gs' := [(wSight E a0 v0_5).take 2, wArr E (a0 2) 12 p13, (wSight E a0 v0_5).drop 3, wHouse E a1 v1]) [1, 0, 2, 3] 4 rfl (by decide) rfl ?_
  refine ww_regr (gs' := [wSight E a0 v0_13, wHouse E a1 v1]) (by rw [e_v0_13]; rfl) ?_
  refine ww_aload_n C dX6_measure_16 rfl 0 rfl ?_
  refine ww_get C clOK6 in_X6_measure_X6 (w := wSight E a0 v0_13) (fs := fsSight a0 v0_13) (v := .ref (a0 3)) 0 0 2 rfl q_Sight (by decide) (by decide +kernel) g_Sight_gapStarts dX6_measure_17 ?_
  refine ww_iconst (v := (-1)) C dX6_measure_20 (by decide) ?_
  obtain ⟨p21, hp21, hf⟩ := bdE hf
  obtain ⟨v0_21, e_v0_21⟩ : ∃ y : SightV, y = Sight_set_gapStarts v0_13 p21 := ⟨_, rfl⟩
  replace hf := ltE e_v0_21 hf
  refine ww_regr (gs' := [(wSight E a0 v0_13).take 3, wArr E (a0 3) 12 (Sight_gapStarts v0_13), (wSight E a0 v0_13).drop 4, wHouse E a1 v1]) rfl ?_
  refine ww_callS C (As := [.ref (a0 3), .int (-1)]) (st := []) (gr := [(wSight E a0 v0_13).take 3, (wSight E a0 v0_13).drop 4, wHouse E a1 v1]) (c_J7_fill_53178 (E := E) (q0 := a0 3) (n0 := 12) hp21) gX6_measure_J7_fill_53178 rfl ysk_J7_fill_53178 ⟨by decide, by decide⟩ ⟨by decide, by decide⟩ [1] [0, 2, 3] 4 rfl (by decide) rfl rfl (Nat.le_of_ble_eq_true rfl) dX6_measure_21 ?_
  rintro _ _ ⟨rfl, rfl⟩
  refine ww_perm (gs' := [(wSight E a0 v0_13).take 3, wArr E (a0 3) 12 p21, (wSight E a0 v0_13).drop 4, wHouse E a1 v1]) [1, 0, 2, 3] 4 rfl (by decide) rfl ?_
  refine ww_regr (gs' := [wSight E a0 v0_21, wHouse E a1 v1]) (by rw [e_v0_21]; rfl) ?_
  refine ww_aload_n C dX6_measure_24 rfl 0 rfl ?_
  refine ww_get C clOK6 in_X6_measure_X6 (w := wSight E a0 v0_21) (fs := fsSight a0 v0_21) (v := .ref (a0 4)) 0 0 3 rfl q_Sight (by decide) (by decide +kernel) g_Sight_first dX6_measure_25 ?_
  refine ww_iconst (v := (-1)) C dX6_measure_28 (by decide) ?_
  obtain ⟨p29, hp29, hf⟩ := bdE hf
  obtain ⟨v0_29, e_v0_29⟩ : ∃ y : SightV, y = Sight_set_first v0_21 p29 := ⟨_, rfl⟩
  replace hf := ltE e_v0_29 hf
  refine ww_regr (gs' := [(wSight E a0 v0_21).take 4, wArr E (a0 4) 12 (Sight_first v0_21), (wSight E a0 v0_21).drop 5, wHouse E a1 v1]) rfl ?_
  refine ww_callS C (As := [.ref (a0 4), .int (-1)]) (st := []) (gr := [(wSight E a0 v0_21).take 4, (wSight E a0 v0_21).drop 5, wHouse E a1 v1]) (c_J7_fill_53178 (E := E) (q0 := a0 4) (n0 := 12) hp29) gX6_measure_J7_fill_53178 rfl ysk_J7_fill_53178 ⟨by decide, by decide⟩ ⟨by decide, by decide⟩ [1] [0, 2, 3] 4 rfl (by decide) rfl rfl (Nat.le_of_ble_eq_true rfl) dX6_measure_29 ?_
  rintro _ _ ⟨rfl, rfl⟩
  refine ww_perm (gs' := [(wSight E a0 v0_21).take 4, wArr E (a0 4) 12 p29, (wSight E a0 v0_21).drop 5, wHouse E a1 v1]) [1, 0, 2, 3] 4 rfl (by decide) rfl ?_
  refine ww_regr (gs' := [wSight E a0 v0_29, wHouse E a1 v1]) (by rw [e_v0_29]; rfl) ?_
  refine ww_aload_n C dX6_measure_32 rfl 0 rfl ?_
  refine ww_get C clOK6 in_X6_measure_X6 (w := wSight E a0 v0_29) (fs := fsSight a0 v0_29) (v := .ref (a0 5)) 0 0 4 rfl q_Sight (by decide) (by decide +kernel) g_Sight_last dX6_measure_33 ?_
  refine ww_iconst (v := (-1)) C dX6_measure_36 (by decide) ?_
  obtain ⟨p37, hp37, hf⟩ := bdE hf
  obtain ⟨v0_37, e_v0_37⟩ : ∃ y : SightV, y = Sight_set_last v0_29 p37 := ⟨_, rfl⟩
  replace hf := ltE e_v0_37 hf
  refine ww_regr (gs' := [(wSight E a0 v0_29).take 5, wArr E (a0 5) 12 (Sight_last v0_29), (wSight E a0 v0_29).drop 6, wHouse E a1 v1]) rfl ?_
  refine ww_callS C (As := [.ref (a0 5), .int (-1)]) (st := []) (gr := [(wSight E a0 v0_29).take 5, (wSight E a0 v0_29).drop 6, wHouse E a1 v1]) (c_J7_fill_53178 (E := E) (q0 := a0 5) (n0 := 12) hp37) gX6_measure_J7_fill_53178 rfl ysk_J7_fill_53178 ⟨by decide, by decide⟩ ⟨by decide, by decide⟩ [1] [0, 2, 3] 4 rfl (by decide) rfl rfl (Nat.le_of_ble_eq_true rfl) dX6_measure_37 ?_
  rintro _ _ ⟨rfl, rfl⟩
  refine ww_perm (gs' := [(wSight E a0 v0_29).take 5, wArr E (a0 5) 12 p37, (wSight E a0 v0_29).drop 6, wHouse E a1 v1]) [1, 0, 2, 3] 4 rfl (by decide) rfl ?_
  refine ww_regr (gs' := [wSight E a0 v0_37, wHouse E a1 v1]) (by rw [e_v0_37]; rfl) ?_
  refine ww_aload_n C dX6_measure_40 rfl 1 rfl ?_
  refine ww_get C clOK2 in_X6_measure_X2 (w := wHouse E a1 v1) (fs := fsHouse a1 v1) (v := .ref (a1 6)) 1 0 12 rfl q_House (by decide) (by decide +kernel) g_House_phases dX6_measure_41 ?_
  refine ww_iconst (v := 0) C dX6_measure_44 (by decide) ?_
  refine ww_aload_n C dX6_measure_45 rfl 0 rfl ?_
  refine ww_get C clOK6 in_X6_measure_X6 (w := wSight E a0 v0_37) (fs := fsSight a0 v0_37) (v := .ref (a0 6)) 0 0 5 rfl q_Sight (by decide) (by decide +kernel) g_Sight_steps dX6_measure_46 ?_
  refine ww_iconst (v := 0) C dX6_measure_49 (by decide) ?_
  refine ww_iconst (v := 4) C dX6_measure_50 (by decide) ?_
  obtain ⟨v0_51, e_v0_51⟩ : ∃ y : SightV, y = Sight_set_steps v0_37 (va_cpy (House_phases v1) (Sight_steps v0_37) 0 0 4) := ⟨_, rfl⟩
  replace hf := ltE e_v0_51 hf
  refine ww_copy C (N := 4) (f := House_phases v1) (g := Sight_steps v0_37) (w0 := wHouse E a1 v1) (w1 := wSight E a0 v0_37) (w' := wSight E a0 v0_51) (gs' := [wSight E a0 v0_51, wHouse E a1 v1]) (by decide +kernel) (by decide +kernel) (by decide +kernel) (by decide +kernel) 1 6 0 6 rfl c_House_phases rfl c_Sight_steps (by decide) (by decide) (by decide) (by decide) (by rw [e_v0_51]; exact s_Sight_steps) rfl (by decide) (Nat.le_of_ble_eq_true rfl) dX6_measure_51 ?_
  refine ww_aload_n C dX6_measure_54 rfl 1 rfl ?_
  obtain ⟨p55, hp55, hf⟩ := bdE hf
  refine ww_callV C (As := []) (st := []) (gr := [wSight E a0 v0_51]) (c_X2_cycleLength (E := E) (a0 := a1) hp55) gX6_measure_X2_cycleLength rfl yk_X2_cycleLength ⟨by decide, by decide⟩ ⟨by decide, by decide⟩ clOK2 0 0 rfl rfl [1] [0] 2 rfl (by decide) rfl rfl (Nat.le_of_ble_eq_true rfl) dX6_measure_55 ?_
  rintro _ _ ⟨rfl, rfl⟩
  refine ww_perm (gs' := [wSight E a0 v0_51, wHouse E a1 v1]) [1, 0] 2 rfl (by decide) rfl ?_
  refine ww_istore_n (lv' := [(2, .int p55), (0, .ref (a0 0)), (1, .ref (a1 0))]) C dX6_measure_58 rfl (by decide) rfl ?_
  refine ww_iconst (v := 0) C dX6_measure_59 (by decide) ?_
  refine ww_istore_n (lv' := [(3, .int 0), (2, .int p55), (0, .ref (a0 0)), (1, .ref (a1 0))]) C dX6_measure_60 rfl (by decide) rfl ?_
  refine ww_sub C (lv' := [(0, .ref (a0 0)), (1, .ref (a1 0)), (2, .int p55), (3, .int 0)]) [2, 3, 1, 0] rfl ?_
  exact w_X6_measure_61 C FU _ _ hf

theorem yk_X6_measure : yX6_measure.cls = RX6 ∧ yX6_measure.cls ≠ "java/lang/invoke/MethodHandle" ∧ yX6_measure.cls ≠ "java/lang/invoke/VarHandle" ∧ (parseMethodDescriptor yX6_measure.desc).map (fun d => d.parameters.length) = some 1 := by decide +kernel
abbrev rmX6_isLate : Room := { frames := 0, cells := 0, slots := 0, locals := 0 }
set_option maxRecDepth 20000 in
theorem in_X6_isLate_X2 : ∀ w ∈ u_ws RX2 TX2 19, w ∈ wsX6_isLate := by decide +kernel
set_option maxRecDepth 20000 in
theorem in_X6_isLate_X6 : ∀ w ∈ u_ws RX6 TX6 8, w ∈ wsX6_isLate := by decide +kernel
set_option maxHeartbeats 4000000 in
set_option maxRecDepth 100000 in
theorem c_X6_isLate {E : Ex} {a0 : Nat → Nat} {a1 : Nat → Nat} {x2 : Int32} {v0 : SightV} {v1 : HouseV} {r : Bool} (hf : Sight_isLate x2 v0 v1 = some r) : Ct E yX6_isLate wsX6_isLate rmX6_isLate [.ref (a0 0), .ref (a1 0), .int x2] [wSight E a0 v0, wHouse E a1 v1] (fun rv g => rv = some (.int (b2i r)) ∧ g = [wSight E a0 v0, wHouse E a1 v1]) := by
  refine ct_of (own := RX6) (by decide +kernel) rfl rfl (Nat.le_of_ble_eq_true rfl) (fun K C => ?_)
  refine ww_sub C (lv' := [(0, .ref (a0 0)), (1, .ref (a1 0)), (2, .int x2)]) [0, 1, 2] rfl ?_
  rw [Sight_isLate] at hf
  refine ww_iload_n C dX6_isLate_0 rfl 2 rfl ?_
  refine ww_if_lt (tgt := 39) C dX6_isLate_1 (by decide) (fun c_1 => ?_) (fun c_1 => ?_)
  · replace hf := ifT c_1 hf
    refine ww_iconst (v := 0) C dX6_isLate_39 (by decide) ?_
    obtain rfl := Option.some.inj hf
    exact ww_zret C (nar_b false) ⟨rfl, rfl⟩ dX6_isLate_40
  · replace hf := ifF c_1 hf
    refine ww_iload_n C dX6_isLate_4 rfl 2 rfl ?_
    refine ww_bipush (v := 12) C dX6_isLate_5 (by decide) ?_
    refine ww_icmp_ge (tgt := 39) C dX6_isLate_7 (by decide) (fun c_2 => ?_) (fun c_2 => ?_)
    · replace hf := ifT c_2 hf
      refine ww_iconst (v := 0) C dX6_isLate_39 (by decide) ?_
      obtain rfl := Option.some.inj hf
      exact ww_zret C (nar_b false) ⟨rfl, rfl⟩ dX6_isLate_40
    · replace hf := ifF c_2 hf
      refine ww_aload_n C dX6_isLate_10 rfl 0 rfl ?_
      refine ww_get C clOK6 in_X6_isLate_X6 (w := wSight E a0 v0) (fs := fsSight a0 v0) (v := .ref (a0 2)) 0 0 1 rfl q_Sight (by decide) (by decide +kernel) g_Sight_gaps dX6_isLate_11 ?_
      refine ww_iload_n C dX6_isLate_14 rfl 2 rfl ?_
      obtain ⟨g_3, hf⟩ := gdE hf
      refine ww_iald C (f := Sight_gaps v0) (w := wSight E a0 v0) 0 2 rfl c_Sight_gaps (inB_vp g_3) dX6_isLate_15 ?_
      refine ww_iconst (v := (-1)) C dX6_isLate_16 (by decide) ?_
      refine ww_icmp_eq (tgt := 35) C dX6_isLate_17 (by decide) (fun c_4 => ?_) (fun c_4 => ?_)
      · replace hf := ifT c_4 hf
        refine ww_iconst (v := 1) C dX6_isLate_35 (by decide) ?_
        refine ww_goto (tgt := 40) C dX6_isLate_36 (by decide) ?_
        obtain rfl := Option.some.inj hf
        exact ww_zret C (nar_b true) ⟨rfl, rfl⟩ dX6_isLate_40
      · replace hf := ifF c_4 hf
        refine ww_aload_n C dX6_isLate_20 rfl 0 rfl ?_
        refine ww_get C clOK6 in_X6_isLate_X6 (w := wSight E a0 v0) (fs := fsSight a0 v0) (v := .ref (a0 2)) 0 0 1 rfl q_Sight (by decide) (by decide +kernel) g_Sight_gaps dX6_isLate_21 ?_
        refine ww_iload_n C dX6_isLate_24 rfl 2 rfl ?_
        refine ww_iald C (f := Sight_gaps v0) (w := wSight E a0 v0) 0 2 rfl c_Sight_gaps (inB_vp g_3) dX6_isLate_25 ?_
        refine ww_aload_n C dX6_isLate_26 rfl 1 rfl ?_
        refine ww_get C clOK2 in_X6_isLate_X2 (w := wHouse E a1 v1) (fs := fsHouse a1 v1) (v := .ref (a1 4)) 1 0 10 rfl q_House (by decide) (by decide +kernel) g_House_limits dX6_isLate_27 ?_
        refine ww_iload_n C dX6_isLate_30 rfl 2 rfl ?_
        refine ww_iald C (f := House_limits v1) (w := wHouse E a1 v1) 1 4 rfl c_House_limits (inB_vp g_3) dX6_isLate_31 ?_
        refine ww_icmp_le (tgt := 39) C dX6_isLate_32 (by decide) (fun c_5 => ?_) (fun c_5 => ?_)
        · replace hf := ifT c_5 hf
          refine ww_iconst (v := 0) C dX6_isLate_39 (by decide) ?_
          obtain rfl := Option.some.inj hf
          exact ww_zret C (nar_b false) ⟨rfl, rfl⟩ dX6_isLate_40
        · replace hf := ifF c_5 hf
          refine ww_iconst (v := 1) C dX6_isLate_35 (by decide) ?_
          refine ww_goto (tgt := 40) C dX6_isLate_36 (by decide) ?_
          obtain rfl := Option.some.inj hf
          exact ww_zret C (nar_b true) ⟨rfl, rfl⟩ dX6_isLate_40

theorem yk_X6_isLate : yX6_isLate.cls = RX6 ∧ yX6_isLate.cls ≠ "java/lang/invoke/MethodHandle" ∧ yX6_isLate.cls ≠ "java/lang/invoke/VarHandle" ∧ (parseMethodDescriptor yX6_isLate.desc).map (fun d => d.parameters.length) = some 2 := by decide +kernel
abbrev rmX6_countLate : Room := { frames := 1, cells := 0, slots := 0, locals := 22 }
set_option maxRecDepth 20000 in
theorem in_X6_countLate_X2 : ∀ w ∈ u_ws RX2 TX2 19, w ∈ wsX6_countLate := by decide +kernel
set_option maxHeartbeats 4000000 in
set_option maxRecDepth 100000 in
theorem w_X6_countLate_4 {E : Ex} {K : Kx} (C : Cx E K cX6_countLate 4 (some .int) RX6 wsX6_countLate rmX6_countLate) {a0 : Nat → Nat} {a1 : Nat → Nat} {v0 : SightV} {v1 : HouseV}  {r : Int32} : ∀ (n : Nat) (x2 : Int32) (x3 : Int32), Sight_countLate_4 v0 v1 n x2 x3 = some r → WW E K 0 0 (QQ E K (fun rv g => rv = some (.int r) ∧ g = [wSight E a0 v0, wHouse E a1 v1]) 0 0) 4 [(0, .ref (a0 0)), (1, .ref (a1 0)), (2, .int x2), (3, .int x3)] [] [wSight E a0 v0, wHouse E a1 v1] := by
  intro n
  induction n with
  | zero =>
    intro x2 x3 hf
    simp [Sight_countLate_4] at hf
  | succ n ih =>
    intro x2 x3 hf
    rw [Sight_countLate_4] at hf
    refine ww_iload_n C dX6_countLate_4 rfl 3 rfl ?_
    refine ww_aload_n C dX6_countLate_5 rfl 1 rfl ?_
    refine ww_get C clOK2 in_X6_countLate_X2 (w := wHouse E a1 v1) (fs := fsHouse a1 v1) (v := .int (House_rooms v1)) 1 0 0 rfl q_House (by decide) (by decide +kernel) g_House_rooms dX6_countLate_6 ?_
    refine ww_icmp_ge (tgt := 30) C dX6_countLate_9 (by decide) (fun c_1 => ?_) (fun c_1 => ?_)
    · replace hf := ifT c_1 hf
      refine ww_iload_n C dX6_countLate_30 rfl 2 rfl ?_
      obtain rfl := Option.some.inj hf
      exact ww_iret C ⟨rfl, rfl⟩ dX6_countLate_31
    · replace hf := ifF c_1 hf
      refine ww_aload_n C dX6_countLate_12 rfl 0 rfl ?_
      refine ww_aload_n C dX6_countLate_13 rfl 1 rfl ?_
      refine ww_iload_n C dX6_countLate_14 rfl 3 rfl ?_
      obtain ⟨p15, hp15, hf⟩ := bdE hf
      refine ww_callV C (As := [.ref (a1 0), .int x3]) (st := []) (gr := []) (c_X6_isLate (E := E) (a0 := a0) (a1 := a1) hp15) gX6_countLate_X6_isLate rfl yk_X6_isLate ⟨by decide, by decide⟩ ⟨by decide, by decide⟩ clOK6 0 0 rfl rfl [0, 1] [] 2 rfl (by decide) rfl rfl (Nat.le_of_ble_eq_true rfl) dX6_countLate_15 ?_
      rintro _ _ ⟨rfl, rfl⟩
      refine ww_perm (gs' := [wSight E a0 v0, wHouse E a1 v1]) [0, 1] 2 rfl (by decide) rfl ?_
      refine ww_if_eqB (tgt := 24) C dX6_countLate_18 (by decide) (fun c_2 => ?_) (fun c_2 => ?_)
      · replace hf := bfE c_2 hf
        obtain ⟨x3_24, e_x3_24⟩ : ∃ y : Int32, y = x3 + 1 := ⟨_, rfl⟩
        replace hf := ltE e_x3_24 hf
        refine ww_iinc (v := x3_24) (lv' := [(3, .int x3_24), (0, .ref (a0 0)), (1, .ref (a1 0)), (2, .int x2)]) C dX6_countLate_24 3 rfl (by rw [e_x3_24]; rfl) (by decide) rfl ?_
        refine ww_goto (tgt := 4) C dX6_countLate_27 (by decide) ?_
        refine ww_sub C (lv' := [(0, .ref (a0 0)), (1, .ref (a1 0)), (2, .int x2), (3, .int x3_24)]) [1, 2, 3, 0] rfl ?_
        exact ih _ _ hf
      · replace hf := btE c_2 hf
        obtain ⟨x2_21, e_x2_21⟩ : ∃ y : Int32, y = x2 + 1 := ⟨_, rfl⟩
        replace hf := ltE e_x2_21 hf
        refine ww_iinc (v := x2_21) (lv' := [(2, .int x2_21), (0, .ref (a0 0)), (1, .ref (a1 0)), (3, .int x3)]) C dX6_countLate_21 2 rfl (by rw [e_x2_21]; rfl) (by decide) rfl ?_
        obtain ⟨x3_24, e_x3_24⟩ : ∃ y : Int32, y = x3 + 1 := ⟨_, rfl⟩
        replace hf := ltE e_x3_24 hf
        refine ww_iinc (v := x3_24) (lv' := [(3, .int x3_24), (2, .int x2_21), (0, .ref (a0 0)), (1, .ref (a1 0))]) C dX6_countLate_24 3 rfl (by rw [e_x3_24]; rfl) (by decide) rfl ?_
        refine ww_goto (tgt := 4) C dX6_countLate_27 (by decide) ?_
        refine ww_sub C (lv' := [(0, .ref (a0 0)), (1, .ref (a1 0)), (2, .int x2_21), (3, .int x3_24)]) [2, 3, 1, 0] rfl ?_
        exact ih _ _ hf

set_option maxHeartbeats 4000000 in
set_option maxRecDepth 100000 in
theorem c_X6_countLate {E : Ex} {a0 : Nat → Nat} {a1 : Nat → Nat} {v0 : SightV} {v1 : HouseV} {r : Int32} (hf : Sight_countLate v0 v1 = some r) : Ct E yX6_countLate wsX6_countLate rmX6_countLate [.ref (a0 0), .ref (a1 0)] [wSight E a0 v0, wHouse E a1 v1] (fun rv g => rv = some (.int r) ∧ g = [wSight E a0 v0, wHouse E a1 v1]) := by
  refine ct_of (own := RX6) (by decide +kernel) rfl rfl (Nat.le_of_ble_eq_true rfl) (fun K C => ?_)
  refine ww_sub C (lv' := [(0, .ref (a0 0)), (1, .ref (a1 0))]) [0, 1] rfl ?_
  rw [Sight_countLate] at hf
  refine ww_iconst (v := 0) C dX6_countLate_0 (by decide) ?_
  refine ww_istore_n (lv' := [(2, .int 0), (0, .ref (a0 0)), (1, .ref (a1 0))]) C dX6_countLate_1 rfl (by decide) rfl ?_
  refine ww_iconst (v := 0) C dX6_countLate_2 (by decide) ?_
  refine ww_istore_n (lv' := [(3, .int 0), (2, .int 0), (0, .ref (a0 0)), (1, .ref (a1 0))]) C dX6_countLate_3 rfl (by decide) rfl ?_
  refine ww_sub C (lv' := [(0, .ref (a0 0)), (1, .ref (a1 0)), (2, .int 0), (3, .int 0)]) [2, 3, 1, 0] rfl ?_
  exact w_X6_countLate_4 C FU _ _ hf

theorem yk_X6_countLate : yX6_countLate.cls = RX6 ∧ yX6_countLate.cls ≠ "java/lang/invoke/MethodHandle" ∧ yX6_countLate.cls ≠ "java/lang/invoke/VarHandle" ∧ (parseMethodDescriptor yX6_countLate.desc).map (fun d => d.parameters.length) = some 1 := by decide +kernel
abbrev rmX4_barPassing : Room := { frames := 2, cells := 0, slots := 0, locals := 44 }
set_option maxRecDepth 20000 in
theorem in_X4_barPassing_X2 : ∀ w ∈ u_ws RX2 TX2 19, w ∈ wsX4_barPassing := by decide +kernel
set_option maxRecDepth 20000 in
theorem in_X4_barPassing_X4 : ∀ w ∈ u_ws RX4 TX4 2, w ∈ wsX4_barPassing := by decide +kernel
set_option maxHeartbeats 4000000 in
set_option maxRecDepth 100000 in
theorem w_X4_barPassing_10 {E : Ex} {K : Kx} (C : Cx E K cX4_barPassing 6 none RX4 wsX4_barPassing rmX4_barPassing) {a0 : Nat → Nat} {a1 : Nat → Nat} {x2 : Int32} {v1 : HouseV}  {r : IntrV} : ∀ (n : Nat) (x3 : Int32) (v0 : IntrV), Intr_barPassing_10 x2 v1 n x3 v0 = some r → WW E K 0 0 (QQ E K (fun rv g => rv = none ∧ g = [wIntr E a0 r, wHouse E a1 v1]) 0 0) 10 [(0, .ref (a0 0)), (1, .ref (a1 0)), (2, .int x2), (3, .int x3)] [] [wIntr E a0 v0, wHouse E a1 v1] := by
  intro n
  induction n with
  | zero =>
    intro x3 v0 hf
    simp [Intr_barPassing_10] at hf
  | succ n ih =>
    intro x3 v0 hf
    rw [Intr_barPassing_10] at hf
    refine ww_iload_n C dX4_barPassing_10 rfl 3 rfl ?_
    refine ww_aload_n C dX4_barPassing_11 rfl 1 rfl ?_
    refine ww_get C clOK2 in_X4_barPassing_X2 (w := wHouse E a1 v1) (fs := fsHouse a1 v1) (v := .int (House_guards v1)) 1 0 2 rfl q_House (by decide) (by decide +kernel) g_House_guards dX4_barPassing_12 ?_
    refine ww_icmp_ge (tgt := 73) C dX4_barPassing_15 (by decide) (fun c_1 => ?_) (fun c_1 => ?_)
    · replace hf := ifT c_1 hf
      obtain rfl := Option.some.inj hf
      exact ww_vret C ⟨rfl, rfl⟩ dX4_barPassing_73
    · replace hf := ifF c_1 hf
      refine ww_aload_n C dX4_barPassing_18 rfl 1 rfl ?_
      refine ww_iload_n C dX4_barPassing_19 rfl 3 rfl ?_
      refine ww_iload_n C dX4_barPassing_20 rfl 2 rfl ?_
      obtain ⟨p21, hp21, hf⟩ := bdE hf
      refine ww_callV C (As := [.int x3, .int x2]) (st := []) (gr := [wIntr E a0 v0]) (c_X2_roomAt (E := E) (a0 := a1) hp21) gX4_barPassing_X2_roomAt rfl yk_X2_roomAt ⟨by decide, by decide⟩ ⟨by decide, by decide⟩ clOK2 0 0 rfl rfl [1] [0] 2 rfl (by decide) rfl rfl (Nat.le_of_ble_eq_true rfl) dX4_barPassing_21 ?_
      rintro _ _ ⟨rfl, rfl⟩
      refine ww_perm (gs' := [wIntr E a0 v0, wHouse E a1 v1]) [1, 0] 2 rfl (by decide) rfl ?_
      refine ww_istore (lv' := [(4, .int p21), (0, .ref (a0 0)), (1, .ref (a1 0)), (2, .int x2), (3, .int x3)]) C dX4_barPassing_24 (by decide) rfl ?_
      refine ww_aload_n C dX4_barPassing_26 rfl 2 rfl ?_
      refine ww_iload_n C dX4_barPassing_27 rfl 4 rfl ?_
      refine ww_iload_n C dX4_barPassing_28 rfl 3 rfl ?_
      refine ww_iconst (v := 1) C dX4_barPassing_29 (by decide) ?_
      refine ww_iadd C dX4_barPassing_30 ?_
      obtain ⟨p31, hp31, hf⟩ := bdE hf
      refine ww_callV C (As := [.int x3, .int (x2 + 1)]) (st := []) (gr := [wIntr E a0 v0]) (c_X2_roomAt (E := E) (a0 := a1) hp31) gX4_barPassing_X2_roomAt rfl yk_X2_roomAt ⟨by decide, by decide⟩ ⟨by decide, by decide⟩ clOK2 0 0 rfl rfl [1] [0] 2 rfl (by decide) rfl rfl (Nat.le_of_ble_eq_true rfl) dX4_barPassing_31 ?_
      rintro _ _ ⟨rfl, rfl⟩
      refine ww_perm (gs' := [wIntr E a0 v0, wHouse E a1 v1]) [1, 0] 2 rfl (by decide) rfl ?_
      refine ww_istore (lv' := [(5, .int p31), (4, .int p21), (0, .ref (a0 0)), (1, .ref (a1 0)), (2, .int x2), (3, .int x3)]) C dX4_barPassing_34 (by decide) rfl ?_
      refine ww_iload C dX4_barPassing_36 1 rfl ?_
      refine ww_if_lt (tgt := 67) C dX4_barPassing_38 (by decide) (fun c_2 => ?_) (fun c_2 => ?_)
      · replace hf := ifT c_2 hf
        obtain ⟨x3_67, e_x3_67⟩ : ∃ y : Int32, y = x3 + 1 := ⟨_, rfl⟩
        replace hf := ltE e_x3_67 hf
        refine ww_iinc (v := x3_67) (lv' := [(3, .int x3_67), (5, .int p31), (4, .int p21), (0, .ref (a0 0)), (1, .ref (a1 0)), (2, .int x2)]) C dX4_barPassing_67 5 rfl (by rw [e_x3_67]; rfl) (by decide) rfl ?_
        refine ww_goto (tgt := 10) C dX4_barPassing_70 (by decide) ?_
        refine ww_sub C (lv' := [(0, .ref (a0 0)), (1, .ref (a1 0)), (2, .int x2), (3, .int x3_67)]) [3, 4, 5, 0] rfl ?_
        exact ih _ _ hf
      · replace hf := ifF c_2 hf
        refine ww_iload C dX4_barPassing_41 0 rfl ?_
        refine ww_if_lt (tgt := 67) C dX4_barPassing_43 (by decide) (fun c_3 => ?_) (fun c_3 => ?_)
        · replace hf := ifT c_3 hf
          obtain ⟨x3_67, e_x3_67⟩ : ∃ y : Int32, y = x3 + 1 := ⟨_, rfl⟩
          replace hf := ltE e_x3_67 hf
          refine ww_iinc (v := x3_67) (lv' := [(3, .int x3_67), (5, .int p31), (4, .int p21), (0, .ref (a0 0)), (1, .ref (a1 0)), (2, .int x2)]) C dX4_barPassing_67 5 rfl (by rw [e_x3_67]; rfl) (by decide) rfl ?_
          refine ww_goto (tgt := 10) C dX4_barPassing_70 (by decide) ?_
          refine ww_sub C (lv' := [(0, .ref (a0 0)), (1, .ref (a1 0)), (2, .int x2), (3, .int x3_67)]) [3, 4, 5, 0] rfl ?_
          exact ih _ _ hf
        · replace hf := ifF c_3 hf
          refine ww_iload C dX4_barPassing_46 0 rfl ?_
          refine ww_bipush (v := 12) C dX4_barPassing_48 (by decide) ?_
          refine ww_icmp_ge (tgt := 67) C dX4_barPassing_50 (by decide) (fun c_4 => ?_) (fun c_4 => ?_)
          · replace hf := ifT c_4 hf
            obtain ⟨x3_67, e_x3_67⟩ : ∃ y : Int32, y = x3 + 1 := ⟨_, rfl⟩
            replace hf := ltE e_x3_67 hf
            refine ww_iinc (v := x3_67) (lv' := [(3, .int x3_67), (5, .int p31), (4, .int p21), (0, .ref (a0 0)), (1, .ref (a1 0)), (2, .int x2)]) C dX4_barPassing_67 5 rfl (by rw [e_x3_67]; rfl) (by decide) rfl ?_
            refine ww_goto (tgt := 10) C dX4_barPassing_70 (by decide) ?_
            refine ww_sub C (lv' := [(0, .ref (a0 0)), (1, .ref (a1 0)), (2, .int x2), (3, .int x3_67)]) [3, 4, 5, 0] rfl ?_
            exact ih _ _ hf
          · replace hf := ifF c_4 hf
            refine ww_aload_n C dX4_barPassing_53 rfl 2 rfl ?_
            refine ww_get C clOK4 in_X4_barPassing_X4 (w := wIntr E a0 v0) (fs := fsIntr a0 v0) (v := .ref (a0 2)) 0 0 1 rfl q_Intr (by decide) (by decide +kernel) g_Intr_barred dX4_barPassing_54 ?_
            refine ww_iload C dX4_barPassing_57 0 rfl ?_
            refine ww_dup2 C dX4_barPassing_59 rfl rfl ?_
            obtain ⟨g_5, hf⟩ := gdE hf
            refine ww_iald C (f := Intr_barred v0) (w := wIntr E a0 v0) 0 2 rfl c_Intr_barred (inB_vp g_5) dX4_barPassing_60 ?_
            refine ww_iconst (v := 1) C dX4_barPassing_61 (by decide) ?_
            refine ww_iload C dX4_barPassing_62 1 rfl ?_
            refine ww_ishl C dX4_barPassing_64 ?_
            refine ww_ior C dX4_barPassing_65 ?_
            obtain ⟨v0_66, e_v0_66⟩ : ∃ y : IntrV, y = Intr_set_barred v0 (upd (Intr_barred v0) (Int32.toNatClampNeg p31) (((Intr_barred v0) (Int32.toNatClampNeg p31)) ||| (1 <<< (p21 &&& 31)))) := ⟨_, rfl⟩
            replace hf := ltE e_v0_66 hf
            refine ww_iast C (f := Intr_barred v0) (w := wIntr E a0 v0) (w' := wIntr E a0 v0_66) (gs' := [wIntr E a0 v0_66, wHouse E a1 v1]) 0 2 rfl c_Intr_barred (inB_vp g_5) (by rw [e_v0_66]; exact s_Intr_barred) rfl dX4_barPassing_66 ?_
            obtain ⟨x3_67, e_x3_67⟩ : ∃ y : Int32, y = x3 + 1 := ⟨_, rfl⟩
            replace hf := ltE e_x3_67 hf
            refine ww_iinc (v := x3_67) (lv' := [(3, .int x3_67), (5, .int p31), (4, .int p21), (0, .ref (a0 0)), (1, .ref (a1 0)), (2, .int x2)]) C dX4_barPassing_67 5 rfl (by rw [e_x3_67]; rfl) (by decide) rfl ?_
            refine ww_goto (tgt := 10) C dX4_barPassing_70 (by decide) ?_
            refine ww_sub C (lv' := [(0, .ref (a0 0)), (1, .ref (a1 0)), (2, .int x2), (3, .int x3_67)]) [3, 4, 5, 0] rfl ?_
            exact ih _ _ hf

set_option maxHeartbeats 4000000 in
set_option maxRecDepth 100000 in
theorem c_X4_barPassing {E : Ex} {a0 : Nat → Nat} {a1 : Nat → Nat} {x2 : Int32} {v0 : IntrV} {v1 : HouseV} {r : IntrV} (hf : Intr_barPassing x2 v0 v1 = some r) : Ct E yX4_barPassing wsX4_barPassing rmX4_barPassing [.ref (a0 0), .ref (a1 0), .int x2] [wIntr E a0 v0, wHouse E a1 v1] (fun rv g => rv = none ∧ g = [wIntr E a0 r, wHouse E a1 v1]) := by
  refine ct_of (own := RX4) (by decide +kernel) rfl rfl (Nat.le_of_ble_eq_true rfl) (fun K C => ?_)
  refine ww_sub C (lv' := [(0, .ref (a0 0)), (1, .ref (a1 0)), (2, .int x2)]) [0, 1, 2] rfl ?_
  rw [Intr_barPassing] at hf
  refine ww_aload_n C dX4_barPassing_0 rfl 0 rfl ?_
  refine ww_get C clOK4 in_X4_barPassing_X4 (w := wIntr E a0 v0) (fs := fsIntr a0 v0) (v := .ref (a0 2)) 0 0 1 rfl q_Intr (by decide) (by decide +kernel) g_Intr_barred dX4_barPassing_1 ?_
  refine ww_iconst (v := 0) C dX4_barPassing_4 (by decide) ?_
  obtain ⟨p5, hp5, hf⟩ := bdE hf
  obtain ⟨v0_5, e_v0_5⟩ : ∃ y : IntrV, y = Intr_set_barred v0 p5 := ⟨_, rfl⟩
  replace hf := ltE e_v0_5 hf
  refine ww_regr (gs' := [(wIntr E a0 v0).take 2, wArr E (a0 2) 12 (Intr_barred v0), (wIntr E a0 v0).drop 3, wHouse E a1 v1]) rfl ?_
  refine ww_callS C (As := [.ref (a0 2), .int 0]) (st := []) (gr := [(wIntr E a0 v0).take 2, (wIntr E a0 v0).drop 3, wHouse E a1 v1]) (c_J7_fill_53178 (E := E) (q0 := a0 2) (n0 := 12) hp5) gX4_barPassing_J7_fill_53178 rfl ysk_J7_fill_53178 ⟨by decide, by decide⟩ ⟨by decide, by decide⟩ [1] [0, 2, 3] 4 rfl (by decide) rfl rfl (Nat.le_of_ble_eq_true rfl) dX4_barPassing_5 ?_
  rintro _ _ ⟨rfl, rfl⟩
  refine ww_perm (gs' := [(wIntr E a0 v0).take 2, wArr E (a0 2) 12 p5, (wIntr E a0 v0).drop 3, wHouse E a1 v1]) [1, 0, 2, 3] 4 rfl (by decide) rfl ?_
  refine ww_regr (gs' := [wIntr E a0 v0_5, wHouse E a1 v1]) (by rw [e_v0_5]; rfl) ?_
  refine ww_iconst (v := 0) C dX4_barPassing_8 (by decide) ?_
  refine ww_istore_n (lv' := [(3, .int 0), (0, .ref (a0 0)), (1, .ref (a1 0)), (2, .int x2)]) C dX4_barPassing_9 rfl (by decide) rfl ?_
  refine ww_sub C (lv' := [(0, .ref (a0 0)), (1, .ref (a1 0)), (2, .int x2), (3, .int 0)]) [1, 2, 3, 0] rfl ?_
  exact w_X4_barPassing_10 C FU _ _ hf

theorem yk_X4_barPassing : yX4_barPassing.cls = RX4 ∧ yX4_barPassing.cls ≠ "java/lang/invoke/MethodHandle" ∧ yX4_barPassing.cls ≠ "java/lang/invoke/VarHandle" ∧ (parseMethodDescriptor yX4_barPassing.desc).map (fun d => d.parameters.length) = some 2 := by decide +kernel
abbrev rmX4_roomsNext : Room := { frames := 3, cells := 0, slots := 0, locals := 69 }
set_option maxRecDepth 20000 in
theorem in_X4_roomsNext_X2 : ∀ w ∈ u_ws RX2 TX2 19, w ∈ wsX4_roomsNext := by decide +kernel
set_option maxRecDepth 20000 in
theorem in_X4_roomsNext_X4 : ∀ w ∈ u_ws RX4 TX4 2, w ∈ wsX4_roomsNext := by decide +kernel
set_option maxHeartbeats 4000000 in
set_option maxRecDepth 100000 in
theorem w_X4_roomsNext_65 {E : Ex} {K : Kx} (C : Cx E K cX4_roomsNext 6 (some .int) RX4 wsX4_roomsNext rmX4_roomsNext) {a0 : Nat → Nat} {a1 : Nat → Nat} {x2 : Int32} {x3 : Int32} {v1 : HouseV}  {x4 : Int32} {v0 : IntrV} {r : (Int32 × IntrV)} (hf : Intr_roomsNext_65 x2 x3 v1 x4 v0 = some r) : WW E K 0 0 (QQ E K (fun rv g => rv = some (.int r.1) ∧ g = [wIntr E a0 r.2, wHouse E a1 v1]) 0 0) 65 [(1, .ref (a1 0)), (3, .int x3), (4, .int x4)] [] [wIntr E a0 v0, wHouse E a1 v1] := by
  rw [Intr_roomsNext_65] at hf
  refine ww_iload C dX4_roomsNext_65 2 rfl ?_
  refine ww_aload_n C dX4_roomsNext_67 rfl 0 rfl ?_
  refine ww_iload_n C dX4_roomsNext_68 rfl 1 rfl ?_
  refine ww_iconst (v := 1) C dX4_roomsNext_69 (by decide) ?_
  refine ww_iadd C dX4_roomsNext_70 ?_
  obtain ⟨p71, hp71, hf⟩ := bdE hf
  refine ww_callV C (As := [.int (x3 + 1)]) (st := [.int x4]) (gr := [wIntr E a0 v0]) (c_X2_roomsSeenAt (E := E) (a0 := a1) hp71) gX4_roomsNext_X2_roomsSeenAt rfl yk_X2_roomsSeenAt ⟨by decide, by decide⟩ ⟨by decide, by decide⟩ clOK2 0 0 rfl rfl [1] [0] 2 rfl (by decide) rfl rfl (Nat.le_of_ble_eq_true rfl) dX4_roomsNext_71 ?_
  rintro _ _ ⟨rfl, rfl⟩
  refine ww_perm (gs' := [wIntr E a0 v0, wHouse E a1 v1]) [1, 0] 2 rfl (by decide) rfl ?_
  refine ww_iconst (v := (-1)) C dX4_roomsNext_74 (by decide) ?_
  refine ww_ixor C dX4_roomsNext_75 ?_
  refine ww_iand C dX4_roomsNext_76 ?_
  obtain rfl := Option.some.inj hf
  exact ww_iret C ⟨rfl, rfl⟩ dX4_roomsNext_77

set_option maxHeartbeats 4000000 in
set_option maxRecDepth 100000 in
theorem w_X4_roomsNext_12 {E : Ex} {K : Kx} (C : Cx E K cX4_roomsNext 6 (some .int) RX4 wsX4_roomsNext rmX4_roomsNext) {a0 : Nat → Nat} {a1 : Nat → Nat} {x2 : Int32} {x3 : Int32} {v1 : HouseV}  {r : (Int32 × IntrV)} : ∀ (n : Nat) (x4 : Int32) (x5 : Int32) (v0 : IntrV), Intr_roomsNext_12 x2 x3 v1 n x4 x5 v0 = some r → WW E K 0 0 (QQ E K (fun rv g => rv = some (.int r.1) ∧ g = [wIntr E a0 r.2, wHouse E a1 v1]) 0 0) 12 [(0, .ref (a0 0)), (1, .ref (a1 0)), (2, .int x2), (3, .int x3), (4, .int x4), (5, .int x5)] [] [wIntr E a0 v0, wHouse E a1 v1] := by
  intro n
  induction n with
  | zero =>
    intro x4 x5 v0 hf
    simp [Intr_roomsNext_12] at hf
  | succ n ih =>
    intro x4 x5 v0 hf
    rw [Intr_roomsNext_12] at hf
    refine ww_iload C dX4_roomsNext_12 5 rfl ?_
    refine ww_aload_n C dX4_roomsNext_14 rfl 1 rfl ?_
    refine ww_get C clOK2 in_X4_roomsNext_X2 (w := wHouse E a1 v1) (fs := fsHouse a1 v1) (v := .int (House_rooms v1)) 1 0 0 rfl q_House (by decide) (by decide +kernel) g_House_rooms dX4_roomsNext_15 ?_
    refine ww_icmp_ge (tgt := 65) C dX4_roomsNext_18 (by decide) (fun c_1 => ?_) (fun c_1 => ?_)
    · replace hf := ifT c_1 hf
      refine ww_sub C (lv' := [(1, .ref (a1 0)), (3, .int x3), (4, .int x4)]) [1, 3, 4] rfl ?_
      exact w_X4_roomsNext_65 C hf
    · replace hf := ifF c_1 hf
      refine ww_iload C dX4_roomsNext_21 5 rfl ?_
      refine ww_bipush (v := 12) C dX4_roomsNext_23 (by decide) ?_
      refine ww_icmp_ge (tgt := 65) C dX4_roomsNext_25 (by decide) (fun c_2 => ?_) (fun c_2 => ?_)
      · replace hf := ifT c_2 hf
        refine ww_sub C (lv' := [(1, .ref (a1 0)), (3, .int x3), (4, .int x4)]) [1, 3, 4] rfl ?_
        exact w_X4_roomsNext_65 C hf
      · replace hf := ifF c_2 hf
        refine ww_iload_n C dX4_roomsNext_28 rfl 2 rfl ?_
        refine ww_iload C dX4_roomsNext_29 5 rfl ?_
        obtain ⟨p31, hp31, hf⟩ := bdE hf
        refine ww_callSN C (As := [.int x2, .int x5]) (st := []) (gr := [wIntr E a0 v0, wHouse E a1 v1]) (host := RX8) (c_X8_has (E := E)  hp31) gX4_roomsNext_X8_has_n34 rfl (by decide +kernel) (by decide +kernel) (by decide +kernel) ysk_X8_has ⟨by decide, by decide⟩ ⟨by decide, by decide⟩ [] [0, 1] 2 rfl (by decide) rfl rfl (Nat.le_of_ble_eq_true rfl) dX4_roomsNext_31 ?_
        rintro _ _ ⟨rfl, rfl⟩
        refine ww_perm (gs' := [wIntr E a0 v0, wHouse E a1 v1]) [0, 1] 2 rfl (by decide) rfl ?_
        refine ww_if_eqB (tgt := 59) C dX4_roomsNext_34 (by decide) (fun c_3 => ?_) (fun c_3 => ?_)
        · replace hf := bfE c_3 hf
          obtain ⟨x5_59, e_x5_59⟩ : ∃ y : Int32, y = x5 + 1 := ⟨_, rfl⟩
          replace hf := ltE e_x5_59 hf
          refine ww_iinc (v := x5_59) (lv' := [(5, .int x5_59), (0, .ref (a0 0)), (1, .ref (a1 0)), (2, .int x2), (3, .int x3), (4, .int x4)]) C dX4_roomsNext_59 5 rfl (by rw [e_x5_59]; rfl) (by decide) rfl ?_
          refine ww_goto (tgt := 12) C dX4_roomsNext_62 (by decide) ?_
          refine ww_sub C (lv' := [(0, .ref (a0 0)), (1, .ref (a1 0)), (2, .int x2), (3, .int x3), (4, .int x4), (5, .int x5_59)]) [1, 2, 3, 4, 5, 0] rfl ?_
          exact ih _ _ _ hf
        · replace hf := btE c_3 hf
          refine ww_iload C dX4_roomsNext_37 4 rfl ?_
          refine ww_aload_n C dX4_roomsNext_39 rfl 1 rfl ?_
          refine ww_get C clOK2 in_X4_roomsNext_X2 (w := wHouse E a1 v1) (fs := fsHouse a1 v1) (v := .ref (a1 3)) 1 0 9 rfl q_House (by decide) (by decide +kernel) g_House_joined dX4_roomsNext_40 ?_
          refine ww_iload C dX4_roomsNext_43 5 rfl ?_
          obtain ⟨g_4, hf⟩ := gdE hf
          refine ww_iald C (f := House_joined v1) (w := wHouse E a1 v1) 1 3 rfl c_House_joined (inB_vp g_4) dX4_roomsNext_45 ?_
          refine ww_aload_n C dX4_roomsNext_46 rfl 0 rfl ?_
          refine ww_get C clOK4 in_X4_roomsNext_X4 (w := wIntr E a0 v0) (fs := fsIntr a0 v0) (v := .ref (a0 2)) 0 0 1 rfl q_Intr (by decide) (by decide +kernel) g_Intr_barred dX4_roomsNext_47 ?_
          refine ww_iload C dX4_roomsNext_50 5 rfl ?_
          refine ww_iald C (f := Intr_barred v0) (w := wIntr E a0 v0) 0 2 rfl c_Intr_barred (inB_vp g_4) dX4_roomsNext_52 ?_
          refine ww_iconst (v := (-1)) C dX4_roomsNext_53 (by decide) ?_
          refine ww_ixor C dX4_roomsNext_54 ?_
          refine ww_iand C dX4_roomsNext_55 ?_
          refine ww_ior C dX4_roomsNext_56 ?_
          refine ww_topi (fun x4_57 e_x4_57 => ?_)
          replace hf := ltE e_x4_57 hf
          refine ww_istore (lv' := [(4, .int x4_57), (0, .ref (a0 0)), (1, .ref (a1 0)), (2, .int x2), (3, .int x3), (5, .int x5)]) C dX4_roomsNext_57 (by decide) rfl ?_
          obtain ⟨x5_59, e_x5_59⟩ : ∃ y : Int32, y = x5 + 1 := ⟨_, rfl⟩
          replace hf := ltE e_x5_59 hf
          refine ww_iinc (v := x5_59) (lv' := [(5, .int x5_59), (4, .int x4_57), (0, .ref (a0 0)), (1, .ref (a1 0)), (2, .int x2), (3, .int x3)]) C dX4_roomsNext_59 5 rfl (by rw [e_x5_59]; rfl) (by decide) rfl ?_
          refine ww_goto (tgt := 12) C dX4_roomsNext_62 (by decide) ?_
          refine ww_sub C (lv' := [(0, .ref (a0 0)), (1, .ref (a1 0)), (2, .int x2), (3, .int x3), (4, .int x4_57), (5, .int x5_59)]) [2, 3, 4, 5, 1, 0] rfl ?_
          exact ih _ _ _ hf

set_option maxHeartbeats 4000000 in
set_option maxRecDepth 100000 in
theorem c_X4_roomsNext {E : Ex} {a0 : Nat → Nat} {a1 : Nat → Nat} {x2 : Int32} {x3 : Int32} {v0 : IntrV} {v1 : HouseV} {r : (Int32 × IntrV)} (hf : Intr_roomsNext x2 x3 v0 v1 = some r) : Ct E yX4_roomsNext wsX4_roomsNext rmX4_roomsNext [.ref (a0 0), .ref (a1 0), .int x2, .int x3] [wIntr E a0 v0, wHouse E a1 v1] (fun rv g => rv = some (.int r.1) ∧ g = [wIntr E a0 r.2, wHouse E a1 v1]) := by
  refine ct_of (own := RX4) (by decide +kernel) rfl rfl (Nat.le_of_ble_eq_true rfl) (fun K C => ?_)
  refine ww_sub C (lv' := [(0, .ref (a0 0)), (1, .ref (a1 0)), (2, .int x2), (3, .int x3)]) [0, 1, 2, 3] rfl ?_
  rw [Intr_roomsNext] at hf
  refine ww_aload_n C dX4_roomsNext_0 rfl 0 rfl ?_
  refine ww_aload_n C dX4_roomsNext_1 rfl 1 rfl ?_
  refine ww_iload_n C dX4_roomsNext_2 rfl 3 rfl ?_
  obtain ⟨p3, hp3, hf⟩ := bdE hf
  refine ww_callV C (As := [.ref (a1 0), .int x3]) (st := []) (gr := []) (c_X4_barPassing (E := E) (a0 := a0) (a1 := a1) hp3) gX4_roomsNext_X4_barPassing rfl yk_X4_barPassing ⟨by decide, by decide⟩ ⟨by decide, by decide⟩ clOK4 0 0 rfl rfl [0, 1] [] 2 rfl (by decide) rfl rfl (Nat.le_of_ble_eq_true rfl) dX4_roomsNext_3 ?_
  rintro _ _ ⟨rfl, rfl⟩
  refine ww_perm (gs' := [wIntr E a0 p3, wHouse E a1 v1]) [0, 1] 2 rfl (by decide) rfl ?_
  refine ww_iload_n C dX4_roomsNext_6 rfl 2 rfl ?_
  refine ww_istore (lv' := [(4, .int x2), (0, .ref (a0 0)), (1, .ref (a1 0)), (2, .int x2), (3, .int x3)]) C dX4_roomsNext_7 (by decide) rfl ?_
  refine ww_iconst (v := 0) C dX4_roomsNext_9 (by decide) ?_
  refine ww_istore (lv' := [(5, .int 0), (4, .int x2), (0, .ref (a0 0)), (1, .ref (a1 0)), (2, .int x2), (3, .int x3)]) C dX4_roomsNext_10 (by decide) rfl ?_
  refine ww_sub C (lv' := [(0, .ref (a0 0)), (1, .ref (a1 0)), (2, .int x2), (3, .int x3), (4, .int x2), (5, .int 0)]) [2, 3, 4, 5, 1, 0] rfl ?_
  exact w_X4_roomsNext_12 C FU _ _ _ hf

theorem yk_X4_roomsNext : yX4_roomsNext.cls = RX4 ∧ yX4_roomsNext.cls ≠ "java/lang/invoke/MethodHandle" ∧ yX4_roomsNext.cls ≠ "java/lang/invoke/VarHandle" ∧ (parseMethodDescriptor yX4_roomsNext.desc).map (fun d => d.parameters.length) = some 3 := by decide +kernel
abbrev rmX4_roomsAfter : Room := { frames := 4, cells := 0, slots := 0, locals := 94 }
set_option maxHeartbeats 4000000 in
set_option maxRecDepth 100000 in
theorem w_X4_roomsAfter_16 {E : Ex} {K : Kx} (C : Cx E K cX4_roomsAfter 7 (some .int) RX4 wsX4_roomsAfter rmX4_roomsAfter) {a0 : Nat → Nat} {a1 : Nat → Nat} {x2 : Int32} {x3 : Int32} {x4 : Int32} {v1 : HouseV}  {r : (Int32 × IntrV)} : ∀ (n : Nat) (x5 : Int32) (x6 : Int32) (v0 : IntrV), Intr_roomsAfter_16 x2 x3 x4 v1 n x5 x6 v0 = some r → WW E K 0 0 (QQ E K (fun rv g => rv = some (.int r.1) ∧ g = [wIntr E a0 r.2, wHouse E a1 v1]) 0 0) 16 [(0, .ref (a0 0)), (1, .ref (a1 0)), (3, .int x3), (4, .int x4), (5, .int x5), (6, .int x6)] [] [wIntr E a0 v0, wHouse E a1 v1] := by
  intro n
  induction n with
  | zero =>
    intro x5 x6 v0 hf
    simp [Intr_roomsAfter_16] at hf
  | succ n ih =>
    intro x5 x6 v0 hf
    rw [Intr_roomsAfter_16] at hf
    refine ww_iload C dX4_roomsAfter_16 5 rfl ?_
    refine ww_iload C dX4_roomsAfter_18 3 rfl ?_
    refine ww_icmp_ge (tgt := 47) C dX4_roomsAfter_20 (by decide) (fun c_2 => ?_) (fun c_2 => ?_)
    · replace hf := ifT c_2 hf
      refine ww_iload C dX4_roomsAfter_47 4 rfl ?_
      obtain rfl := Option.some.inj hf
      exact ww_iret C ⟨rfl, rfl⟩ dX4_roomsAfter_49
    · replace hf := ifF c_2 hf
      refine ww_iload C dX4_roomsAfter_23 4 rfl ?_
      refine ww_if_eq (tgt := 47) C dX4_roomsAfter_25 (by decide) (fun c_3 => ?_) (fun c_3 => ?_)
      · replace hf := ifT c_3 hf
        refine ww_iload C dX4_roomsAfter_47 4 rfl ?_
        obtain rfl := Option.some.inj hf
        exact ww_iret C ⟨rfl, rfl⟩ dX4_roomsAfter_49
      · replace hf := ifF c_3 hf
        refine ww_aload_n C dX4_roomsAfter_28 rfl 0 rfl ?_
        refine ww_aload_n C dX4_roomsAfter_29 rfl 1 rfl ?_
        refine ww_iload C dX4_roomsAfter_30 4 rfl ?_
        refine ww_iload_n C dX4_roomsAfter_32 rfl 2 rfl ?_
        refine ww_iload C dX4_roomsAfter_33 5 rfl ?_
        refine ww_iadd C dX4_roomsAfter_35 ?_
        obtain ⟨p36, hp36, hf⟩ := bdE hf
        refine ww_callV C (As := [.ref (a1 0), .int x5, .int (x3 + x6)]) (st := []) (gr := []) (c_X4_roomsNext (E := E) (a0 := a0) (a1 := a1) hp36) gX4_roomsAfter_X4_roomsNext rfl yk_X4_roomsNext ⟨by decide, by decide⟩ ⟨by decide, by decide⟩ clOK4 0 0 rfl rfl [0, 1] [] 2 rfl (by decide) rfl rfl (Nat.le_of_ble_eq_true rfl) dX4_roomsAfter_36 ?_
        rintro _ _ ⟨rfl, rfl⟩
        refine ww_perm (gs' := [wIntr E a0 p36.2, wHouse E a1 v1]) [0, 1] 2 rfl (by decide) rfl ?_
        refine ww_istore (lv' := [(5, .int p36.1), (0, .ref (a0 0)), (1, .ref (a1 0)), (3, .int x3), (4, .int x4), (6, .int x6)]) C dX4_roomsAfter_39 (by decide) rfl ?_
        obtain ⟨x6_41, e_x6_41⟩ : ∃ y : Int32, y = x6 + 1 := ⟨_, rfl⟩
        replace hf := ltE e_x6_41 hf
        refine ww_iinc (v := x6_41) (lv' := [(6, .int x6_41), (5, .int p36.1), (0, .ref (a0 0)), (1, .ref (a1 0)), (3, .int x3), (4, .int x4)]) C dX4_roomsAfter_41 5 rfl (by rw [e_x6_41]; rfl) (by decide) rfl ?_
        refine ww_goto (tgt := 16) C dX4_roomsAfter_44 (by decide) ?_
        refine ww_sub C (lv' := [(0, .ref (a0 0)), (1, .ref (a1 0)), (3, .int x3), (4, .int x4), (5, .int p36.1), (6, .int x6_41)]) [2, 3, 4, 5, 1, 0] rfl ?_
        exact ih _ _ _ hf

set_option maxHeartbeats 4000000 in
set_option maxRecDepth 100000 in
theorem c_X4_roomsAfter {E : Ex} {a0 : Nat → Nat} {a1 : Nat → Nat} {x2 : Int32} {x3 : Int32} {x4 : Int32} {v0 : IntrV} {v1 : HouseV} {r : (Int32 × IntrV)} (hf : Intr_roomsAfter x2 x3 x4 v0 v1 = some r) : Ct E yX4_roomsAfter wsX4_roomsAfter rmX4_roomsAfter [.ref (a0 0), .ref (a1 0), .int x2, .int x3, .int x4] [wIntr E a0 v0, wHouse E a1 v1] (fun rv g => rv = some (.int r.1) ∧ g = [wIntr E a0 r.2, wHouse E a1 v1]) := by
  refine ct_of (own := RX4) (by decide +kernel) rfl rfl (Nat.le_of_ble_eq_true rfl) (fun K C => ?_)
  refine ww_sub C (lv' := [(0, .ref (a0 0)), (1, .ref (a1 0)), (2, .int x2), (3, .int x3), (4, .int x4)]) [0, 1, 2, 3, 4] rfl ?_
  rw [Intr_roomsAfter] at hf
  refine ww_iconst (v := 1) C dX4_roomsAfter_0 (by decide) ?_
  refine ww_iload_n C dX4_roomsAfter_1 rfl 2 rfl ?_
  refine ww_ishl C dX4_roomsAfter_2 ?_
  refine ww_aload_n C dX4_roomsAfter_3 rfl 1 rfl ?_
  refine ww_iload_n C dX4_roomsAfter_4 rfl 3 rfl ?_
  obtain ⟨p5, hp5, hf⟩ := bdE hf
  refine ww_callV C (As := [.int x3]) (st := [.int (1 <<< (x2 &&& 31))]) (gr := [wIntr E a0 v0]) (c_X2_roomsSeenAt (E := E) (a0 := a1) hp5) gX4_roomsAfter_X2_roomsSeenAt rfl yk_X2_roomsSeenAt ⟨by decide, by decide⟩ ⟨by decide, by decide⟩ clOK2 0 0 rfl rfl [1] [0] 2 rfl (by decide) rfl rfl (Nat.le_of_ble_eq_true rfl) dX4_roomsAfter_5 ?_
  rintro _ _ ⟨rfl, rfl⟩
  refine ww_perm (gs' := [wIntr E a0 v0, wHouse E a1 v1]) [1, 0] 2 rfl (by decide) rfl ?_
  refine ww_iconst (v := (-1)) C dX4_roomsAfter_8 (by decide) ?_
  refine ww_ixor C dX4_roomsAfter_9 ?_
  refine ww_iand C dX4_roomsAfter_10 ?_
  refine ww_topi (fun x5_11 e_x5_11 => ?_)
  replace hf := ltE e_x5_11 hf
  refine ww_istore (lv' := [(5, .int x5_11), (0, .ref (a0 0)), (1, .ref (a1 0)), (2, .int x2), (3, .int x3), (4, .int x4)]) C dX4_roomsAfter_11 (by decide) rfl ?_
  refine ww_iconst (v := 0) C dX4_roomsAfter_13 (by decide) ?_
  refine ww_istore (lv' := [(6, .int 0), (5, .int x5_11), (0, .ref (a0 0)), (1, .ref (a1 0)), (2, .int x2), (3, .int x3), (4, .int x4)]) C dX4_roomsAfter_14 (by decide) rfl ?_
  refine ww_sub C (lv' := [(0, .ref (a0 0)), (1, .ref (a1 0)), (3, .int x3), (4, .int x4), (5, .int x5_11), (6, .int 0)]) [2, 3, 5, 6, 1, 0] rfl ?_
  exact w_X4_roomsAfter_16 C FU _ _ _ hf

theorem yk_X4_roomsAfter : yX4_roomsAfter.cls = RX4 ∧ yX4_roomsAfter.cls ≠ "java/lang/invoke/MethodHandle" ∧ yX4_roomsAfter.cls ≠ "java/lang/invoke/VarHandle" ∧ (parseMethodDescriptor yX4_roomsAfter.desc).map (fun d => d.parameters.length) = some 4 := by decide +kernel
abbrev rmX4_firstArrival : Room := { frames := 4, cells := 0, slots := 0, locals := 94 }
set_option maxRecDepth 20000 in
theorem in_X4_firstArrival_X4 : ∀ w ∈ u_ws RX4 TX4 2, w ∈ wsX4_firstArrival := by decide +kernel
set_option maxHeartbeats 4000000 in
set_option maxRecDepth 100000 in
theorem w_X4_firstArrival_126 {E : Ex} {K : Kx} (C : Cx E K cX4_firstArrival 9 (some .int) RX4 wsX4_firstArrival rmX4_firstArrival) {a0 : Nat → Nat} {a1 : Nat → Nat} {x2 : Int32} {x3 : Int32} {x4 : Int32} {v1 : HouseV}  {x5 : Int32} {x7 : Int32} {x8 : Int32} {s0 : Int32} {v0 : IntrV} {k54 : Int32 → Int32 → Int32 → IntrV → Option (Int32 × IntrV)} {r : (Int32 × IntrV)} (hk54 : ∀ (x6 : Int32) (x7 : Int32) (x8 : Int32) (v0 : IntrV), k54 x6 x7 x8 v0 = some r → WW E K 0 0 (QQ E K (fun rv g => rv = some (.int r.1) ∧ g = [wIntr E a0 r.2, wHouse E a1 v1]) 0 0) 54 [(0, .ref (a0 0)), (1, .ref (a1 0)), (3, .int x3), (4, .int x4), (5, .int x5), (6, .int x6), (7, .int x7), (8, .int x8)] [] [wIntr E a0 v0, wHouse E a1 v1]) (hf : Intr_firstArrival_126 x2 x3 x4 v1 k54 x5 x7 x8 s0 v0 = some r) : WW E K 0 0 (QQ E K (fun rv g => rv = some (.int r.1) ∧ g = [wIntr E a0 r.2, wHouse E a1 v1]) 0 0) 126 [(0, .ref (a0 0)), (1, .ref (a1 0)), (3, .int x3), (4, .int x4), (5, .int x5), (7, .int x7), (8, .int x8)] [.int s0] [wIntr E a0 v0, wHouse E a1 v1] := by
  rw [Intr_firstArrival_126] at hf
  refine ww_istore (lv' := [(6, .int s0), (0, .ref (a0 0)), (1, .ref (a1 0)), (3, .int x3), (4, .int x4), (5, .int x5), (7, .int x7), (8, .int x8)]) C dX4_firstArrival_126 (by decide) rfl ?_
  refine ww_aload_n C dX4_firstArrival_128 rfl 1 rfl ?_
  refine ww_aload_n C dX4_firstArrival_129 rfl 2 rfl ?_
  refine ww_iload C dX4_firstArrival_130 6 rfl ?_
  refine ww_iload C dX4_firstArrival_132 4 rfl ?_
  refine ww_iload C dX4_firstArrival_134 7 rfl ?_
  refine ww_iadd C dX4_firstArrival_136 ?_
  obtain ⟨p137, hp137, hf⟩ := bdE hf
  refine ww_callV C (As := [.ref (a1 0), .int x7, .int (x4 + x8)]) (st := []) (gr := []) (c_X4_roomsNext (E := E) (a0 := a0) (a1 := a1) hp137) gX4_firstArrival_X4_roomsNext rfl yk_X4_roomsNext ⟨by decide, by decide⟩ ⟨by decide, by decide⟩ clOK4 0 0 rfl rfl [0, 1] [] 2 rfl (by decide) rfl rfl (Nat.le_of_ble_eq_true rfl) dX4_firstArrival_137 ?_
  rintro _ _ ⟨rfl, rfl⟩
  refine ww_perm (gs' := [wIntr E a0 p137.2, wHouse E a1 v1]) [0, 1] 2 rfl (by decide) rfl ?_
  refine ww_aload_n C dX4_firstArrival_140 rfl 1 rfl ?_
  refine ww_get C clOK4 in_X4_firstArrival_X4 (w := wIntr E a0 p137.2) (fs := fsIntr a0 p137.2) (v := .ref (a0 1)) 0 0 0 rfl q_Intr (by decide) (by decide +kernel) g_Intr_visited dX4_firstArrival_141 ?_
  refine ww_iload C dX4_firstArrival_144 0 rfl ?_
  obtain ⟨g_13, hf⟩ := gdE hf
  refine ww_iald C (f := Intr_visited p137.2) (w := wIntr E a0 p137.2) 0 1 rfl c_Intr_visited (inB_vp g_13) dX4_firstArrival_146 ?_
  refine ww_iconst (v := (-1)) C dX4_firstArrival_147 (by decide) ?_
  refine ww_ixor C dX4_firstArrival_148 ?_
  refine ww_iand C dX4_firstArrival_149 ?_
  refine ww_topi (fun x7_150 e_x7_150 => ?_)
  replace hf := ltE e_x7_150 hf
  refine ww_istore (lv' := [(7, .int x7_150), (6, .int s0), (0, .ref (a0 0)), (1, .ref (a1 0)), (3, .int x3), (4, .int x4), (5, .int x5), (8, .int x8)]) C dX4_firstArrival_150 (by decide) rfl ?_
  obtain ⟨x8_152, e_x8_152⟩ : ∃ y : Int32, y = x8 + 1 := ⟨_, rfl⟩
  replace hf := ltE e_x8_152 hf
  refine ww_iinc (v := x8_152) (lv' := [(8, .int x8_152), (7, .int x7_150), (6, .int s0), (0, .ref (a0 0)), (1, .ref (a1 0)), (3, .int x3), (4, .int x4), (5, .int x5)]) C dX4_firstArrival_152 7 rfl (by rw [e_x8_152]; rfl) (by decide) rfl ?_
  refine ww_goto (tgt := 54) C dX4_firstArrival_155 (by decide) ?_
  refine ww_sub C (lv' := [(0, .ref (a0 0)), (1, .ref (a1 0)), (3, .int x3), (4, .int x4), (5, .int x5), (6, .int s0), (7, .int x7_150), (8, .int x8_152)]) [3, 4, 5, 6, 7, 2, 1, 0] rfl ?_
  exact hk54 _ _ _ _ hf

set_option maxHeartbeats 4000000 in
set_option maxRecDepth 100000 in
theorem w_X4_firstArrival_54 {E : Ex} {K : Kx} (C : Cx E K cX4_firstArrival 9 (some .int) RX4 wsX4_firstArrival rmX4_firstArrival) {a0 : Nat → Nat} {a1 : Nat → Nat} {x2 : Int32} {x3 : Int32} {x4 : Int32} {v1 : HouseV} {x5 : Int32} {r : (Int32 × IntrV)} : ∀ (n : Nat) (x6 : Int32) (x7 : Int32) (x8 : Int32) (v0 : IntrV), Intr_firstArrival_54 x2 x3 x4 v1 x5 n x6 x7 x8 v0 = some r → WW E K 0 0 (QQ E K (fun rv g => rv = some (.int r.1) ∧ g = [wIntr E a0 r.2, wHouse E a1 v1]) 0 0) 54 [(0, .ref (a0 0)), (1, .ref (a1 0)), (3, .int x3), (4, .int x4), (5, .int x5), (6, .int x6), (7, .int x7), (8, .int x8)] [] [wIntr E a0 v0, wHouse E a1 v1] := by
  intro n
  induction n with
  | zero =>
    intro x6 x7 x8 v0 hf
    simp [Intr_firstArrival_54] at hf
  | succ n ih =>
    intro x6 x7 x8 v0 hf
    rw [Intr_firstArrival_54] at hf
    refine ww_iload C dX4_firstArrival_54 7 rfl ?_
    refine ww_sipush (v := 30240) C dX4_firstArrival_56 (by decide) ?_
    refine ww_icmp_gt (tgt := 158) C dX4_firstArrival_59 (by decide) (fun c_6 => ?_) (fun c_6 => ?_)
    · replace hf := ifT c_6 hf
      refine ww_iconst (v := (-1)) C dX4_firstArrival_158 (by decide) ?_
      obtain rfl := Option.some.inj hf
      exact ww_iret C ⟨rfl, rfl⟩ dX4_firstArrival_159
    · replace hf := ifF c_6 hf
      refine ww_iload C dX4_firstArrival_62 6 rfl ?_
      refine ww_if_eq (tgt := 158) C dX4_firstArrival_64 (by decide) (fun c_7 => ?_) (fun c_7 => ?_)
      · replace hf := ifT c_7 hf
        refine ww_iconst (v := (-1)) C dX4_firstArrival_158 (by decide) ?_
        obtain rfl := Option.some.inj hf
        exact ww_iret C ⟨rfl, rfl⟩ dX4_firstArrival_159
      · replace hf := ifF c_7 hf
        refine ww_iload C dX4_firstArrival_67 6 rfl ?_
        refine ww_iload_n C dX4_firstArrival_69 rfl 2 rfl ?_
        obtain ⟨p70, hp70, hf⟩ := bdE hf
        refine ww_callSN C (As := [.int x7, .int x3]) (st := []) (gr := [wIntr E a0 v0, wHouse E a1 v1]) (host := RX8) (c_X8_has (E := E)  hp70) gX4_firstArrival_X8_has_n34 rfl (by decide +kernel) (by decide +kernel) (by decide +kernel) ysk_X8_has ⟨by decide, by decide⟩ ⟨by decide, by decide⟩ [] [0, 1] 2 rfl (by decide) rfl rfl (Nat.le_of_ble_eq_true rfl) dX4_firstArrival_70 ?_
        rintro _ _ ⟨rfl, rfl⟩
        refine ww_perm (gs' := [wIntr E a0 v0, wHouse E a1 v1]) [0, 1] 2 rfl (by decide) rfl ?_
        refine ww_if_eqB (tgt := 82) C dX4_firstArrival_73 (by decide) (fun c_8 => ?_) (fun c_8 => ?_)
        · replace hf := bfE c_8 hf
          refine ww_iload C dX4_firstArrival_82 5 rfl ?_
          refine ww_if_lt (tgt := 95) C dX4_firstArrival_84 (by decide) (fun c_9 => ?_) (fun c_9 => ?_)
          · replace hf := ifT c_9 hf
            refine ww_iconst (v := (-1)) C dX4_firstArrival_95 (by decide) ?_
            obtain rfl := Option.some.inj hf
            exact ww_iret C ⟨rfl, rfl⟩ dX4_firstArrival_96
          · replace hf := ifF c_9 hf
            refine ww_iload C dX4_firstArrival_87 5 rfl ?_
            refine ww_sipush (v := 2520) C dX4_firstArrival_89 (by decide) ?_
            refine ww_icmp_lt (tgt := 97) C dX4_firstArrival_92 (by decide) (fun c_10 => ?_) (fun c_10 => ?_)
            · replace hf := ifT c_10 hf
              refine ww_aload_n C dX4_firstArrival_97 rfl 0 rfl ?_
              refine ww_get C clOK4 in_X4_firstArrival_X4 (w := wIntr E a0 v0) (fs := fsIntr a0 v0) (v := .ref (a0 1)) 0 0 0 rfl q_Intr (by decide) (by decide +kernel) g_Intr_visited dX4_firstArrival_98 ?_
              refine ww_iload C dX4_firstArrival_101 5 rfl ?_
              refine ww_dup2 C dX4_firstArrival_103 rfl rfl ?_
              obtain ⟨g_11, hf⟩ := gdE hf
              refine ww_iald C (f := Intr_visited v0) (w := wIntr E a0 v0) 0 1 rfl c_Intr_visited (inB_vp g_11) dX4_firstArrival_104 ?_
              refine ww_iload C dX4_firstArrival_105 6 rfl ?_
              refine ww_ior C dX4_firstArrival_107 ?_
              obtain ⟨v0_108, e_v0_108⟩ : ∃ y : IntrV, y = Intr_set_visited v0 (upd (Intr_visited v0) (Int32.toNatClampNeg x6) (((Intr_visited v0) (Int32.toNatClampNeg x6)) ||| x7)) := ⟨_, rfl⟩
              replace hf := ltE e_v0_108 hf
              refine ww_iast C (f := Intr_visited v0) (w := wIntr E a0 v0) (w' := wIntr E a0 v0_108) (gs' := [wIntr E a0 v0_108, wHouse E a1 v1]) 0 1 rfl c_Intr_visited (inB_vp g_11) (by rw [e_v0_108]; exact s_Intr_visited) rfl dX4_firstArrival_108 ?_
              refine ww_iload C dX4_firstArrival_109 5 rfl ?_
              refine ww_iconst (v := 1) C dX4_firstArrival_111 (by decide) ?_
              refine ww_iadd C dX4_firstArrival_112 ?_
              refine ww_iload C dX4_firstArrival_113 4 rfl ?_
              refine ww_icmp_ge (tgt := 125) C dX4_firstArrival_115 (by decide) (fun c_12 => ?_) (fun c_12 => ?_)
              · replace hf := ifT c_12 hf
                refine ww_iconst (v := 0) C dX4_firstArrival_125 (by decide) ?_
                refine ww_sub C (lv' := [(0, .ref (a0 0)), (1, .ref (a1 0)), (3, .int x3), (4, .int x4), (5, .int x5), (7, .int x7), (8, .int x8)]) [0, 1, 2, 3, 4, 6, 7] rfl ?_
                exact w_X4_firstArrival_126 C (k54 := (fun (x6 : Int32) (x7 : Int32) (x8 : Int32) (v0 : IntrV) => Intr_firstArrival_54 x2 x3 x4 v1 x5 n x6 x7 x8 v0)) ih hf
              · replace hf := ifF c_12 hf
                refine ww_iload C dX4_firstArrival_118 5 rfl ?_
                refine ww_iconst (v := 1) C dX4_firstArrival_120 (by decide) ?_
                refine ww_iadd C dX4_firstArrival_121 ?_
                refine ww_goto (tgt := 126) C dX4_firstArrival_122 (by decide) ?_
                refine ww_sub C (lv' := [(0, .ref (a0 0)), (1, .ref (a1 0)), (3, .int x3), (4, .int x4), (5, .int x5), (7, .int x7), (8, .int x8)]) [0, 1, 2, 3, 4, 6, 7] rfl ?_
                exact w_X4_firstArrival_126 C (k54 := (fun (x6 : Int32) (x7 : Int32) (x8 : Int32) (v0 : IntrV) => Intr_firstArrival_54 x2 x3 x4 v1 x5 n x6 x7 x8 v0)) ih hf
            · replace hf := ifF c_10 hf
              refine ww_iconst (v := (-1)) C dX4_firstArrival_95 (by decide) ?_
              obtain rfl := Option.some.inj hf
              exact ww_iret C ⟨rfl, rfl⟩ dX4_firstArrival_96
        · replace hf := btE c_8 hf
          refine ww_iload C dX4_firstArrival_76 3 rfl ?_
          refine ww_iload C dX4_firstArrival_78 7 rfl ?_
          refine ww_iadd C dX4_firstArrival_80 ?_
          obtain rfl := Option.some.inj hf
          exact ww_iret C ⟨rfl, rfl⟩ dX4_firstArrival_81

set_option maxHeartbeats 4000000 in
set_option maxRecDepth 100000 in
theorem c_X4_firstArrival {E : Ex} {a0 : Nat → Nat} {a1 : Nat → Nat} {x2 : Int32} {x3 : Int32} {x4 : Int32} {v0 : IntrV} {v1 : HouseV} {r : (Int32 × IntrV)} (hf : Intr_firstArrival x2 x3 x4 v0 v1 = some r) : Ct E yX4_firstArrival wsX4_firstArrival rmX4_firstArrival [.ref (a0 0), .ref (a1 0), .int x2, .int x3, .int x4] [wIntr E a0 v0, wHouse E a1 v1] (fun rv g => rv = some (.int r.1) ∧ g = [wIntr E a0 r.2, wHouse E a1 v1]) := by
  refine ct_of (own := RX4) (by decide +kernel) rfl rfl (Nat.le_of_ble_eq_true rfl) (fun K C => ?_)
  refine ww_sub C (lv' := [(0, .ref (a0 0)), (1, .ref (a1 0)), (2, .int x2), (3, .int x3), (4, .int x4)]) [0, 1, 2, 3, 4] rfl ?_
  rw [Intr_firstArrival] at hf
  refine ww_aload_n C dX4_firstArrival_0 rfl 1 rfl ?_
  obtain ⟨p1, hp1, hf⟩ := bdE hf
  refine ww_callV C (As := []) (st := []) (gr := [wIntr E a0 v0]) (c_X2_cycleLength (E := E) (a0 := a1) hp1) gX4_firstArrival_X2_cycleLength rfl yk_X2_cycleLength ⟨by decide, by decide⟩ ⟨by decide, by decide⟩ clOK2 0 0 rfl rfl [1] [0] 2 rfl (by decide) rfl rfl (Nat.le_of_ble_eq_true rfl) dX4_firstArrival_1 ?_
  rintro _ _ ⟨rfl, rfl⟩
  refine ww_perm (gs' := [wIntr E a0 v0, wHouse E a1 v1]) [1, 0] 2 rfl (by decide) rfl ?_
  refine ww_istore (lv' := [(5, .int p1), (0, .ref (a0 0)), (1, .ref (a1 0)), (2, .int x2), (3, .int x3), (4, .int x4)]) C dX4_firstArrival_4 (by decide) rfl ?_
  refine ww_iload C dX4_firstArrival_6 0 rfl ?_
  refine ww_iconst (v := 1) C dX4_firstArrival_8 (by decide) ?_
  refine ww_icmp_lt (tgt := 20) C dX4_firstArrival_9 (by decide) (fun c_1 => ?_) (fun c_1 => ?_)
  · replace hf := ifT c_1 hf
    refine ww_iconst (v := (-1)) C dX4_firstArrival_20 (by decide) ?_
    obtain rfl := Option.some.inj hf
    exact ww_iret C ⟨rfl, rfl⟩ dX4_firstArrival_21
  · replace hf := ifF c_1 hf
    refine ww_iload C dX4_firstArrival_12 0 rfl ?_
    refine ww_sipush (v := 2520) C dX4_firstArrival_14 (by decide) ?_
    refine ww_icmp_le (tgt := 22) C dX4_firstArrival_17 (by decide) (fun c_2 => ?_) (fun c_2 => ?_)
    · replace hf := ifT c_2 hf
      refine ww_aload_n C dX4_firstArrival_22 rfl 1 rfl ?_
      refine ww_get C clOK4 in_X4_firstArrival_X4 (w := wIntr E a0 v0) (fs := fsIntr a0 v0) (v := .ref (a0 1)) 0 0 0 rfl q_Intr (by decide) (by decide +kernel) g_Intr_visited dX4_firstArrival_23 ?_
      refine ww_iconst (v := 0) C dX4_firstArrival_26 (by decide) ?_
      obtain ⟨p27, hp27, hf⟩ := bdE hf
      obtain ⟨v0_27, e_v0_27⟩ : ∃ y : IntrV, y = Intr_set_visited v0 p27 := ⟨_, rfl⟩
      replace hf := ltE e_v0_27 hf
      refine ww_regr (gs' := [(wIntr E a0 v0).take 1, wArr E (a0 1) 2520 (Intr_visited v0), (wIntr E a0 v0).drop 2, wHouse E a1 v1]) rfl ?_
      refine ww_callS C (As := [.ref (a0 1), .int 0]) (st := []) (gr := [(wIntr E a0 v0).take 1, (wIntr E a0 v0).drop 2, wHouse E a1 v1]) (c_J7_fill_53178 (E := E) (q0 := a0 1) (n0 := 2520) hp27) gX4_firstArrival_J7_fill_53178 rfl ysk_J7_fill_53178 ⟨by decide, by decide⟩ ⟨by decide, by decide⟩ [1] [0, 2, 3] 4 rfl (by decide) rfl rfl (Nat.le_of_ble_eq_true rfl) dX4_firstArrival_27 ?_
      rintro _ _ ⟨rfl, rfl⟩
      refine ww_perm (gs' := [(wIntr E a0 v0).take 1, wArr E (a0 1) 2520 p27, (wIntr E a0 v0).drop 2, wHouse E a1 v1]) [1, 0, 2, 3] 4 rfl (by decide) rfl ?_
      refine ww_regr (gs' := [wIntr E a0 v0_27, wHouse E a1 v1]) (by rw [e_v0_27]; rfl) ?_
      refine ww_iload C dX4_firstArrival_30 5 rfl ?_
      refine ww_iload C dX4_firstArrival_32 0 rfl ?_
      obtain ⟨g_3, hf⟩ := gdE hf
      refine ww_irem C dX4_firstArrival_34 (nz_ne g_3) ?_
      refine ww_topi (fun x6_35 e_x6_35 => ?_)
      replace hf := ltE e_x6_35 hf
      refine ww_istore (lv' := [(6, .int x6_35), (5, .int p1), (0, .ref (a0 0)), (1, .ref (a1 0)), (2, .int x2), (3, .int x3), (4, .int x4)]) C dX4_firstArrival_35 (by decide) rfl ?_
      refine ww_iconst (v := 1) C dX4_firstArrival_37 (by decide) ?_
      refine ww_iload_n C dX4_firstArrival_38 rfl 4 rfl ?_
      refine ww_ishl C dX4_firstArrival_39 ?_
      refine ww_aload_n C dX4_firstArrival_40 rfl 3 rfl ?_
      refine ww_iload C dX4_firstArrival_41 6 rfl ?_
      obtain ⟨p43, hp43, hf⟩ := bdE hf
      refine ww_callV C (As := [.int x4]) (st := [.int (1 <<< (x2 &&& 31))]) (gr := [wIntr E a0 v0_27]) (c_X2_roomsSeenAt (E := E) (a0 := a1) hp43) gX4_firstArrival_X2_roomsSeenAt rfl yk_X2_roomsSeenAt ⟨by decide, by decide⟩ ⟨by decide, by decide⟩ clOK2 0 0 rfl rfl [1] [0] 2 rfl (by decide) rfl rfl (Nat.le_of_ble_eq_true rfl) dX4_firstArrival_43 ?_
      rintro _ _ ⟨rfl, rfl⟩
      refine ww_perm (gs' := [wIntr E a0 v0_27, wHouse E a1 v1]) [1, 0] 2 rfl (by decide) rfl ?_
      refine ww_iconst (v := (-1)) C dX4_firstArrival_46 (by decide) ?_
      refine ww_ixor C dX4_firstArrival_47 ?_
      refine ww_iand C dX4_firstArrival_48 ?_
      refine ww_topi (fun x7_49 e_x7_49 => ?_)
      replace hf := ltE e_x7_49 hf
      refine ww_istore (lv' := [(7, .int x7_49), (6, .int x6_35), (5, .int p1), (0, .ref (a0 0)), (1, .ref (a1 0)), (2, .int x2), (3, .int x3), (4, .int x4)]) C dX4_firstArrival_49 (by decide) rfl ?_
      refine ww_iconst (v := 0) C dX4_firstArrival_51 (by decide) ?_
      refine ww_istore (lv' := [(8, .int 0), (7, .int x7_49), (6, .int x6_35), (5, .int p1), (0, .ref (a0 0)), (1, .ref (a1 0)), (2, .int x2), (3, .int x3), (4, .int x4)]) C dX4_firstArrival_52 (by decide) rfl ?_
      refine ww_sub C (lv' := [(0, .ref (a0 0)), (1, .ref (a1 0)), (3, .int x3), (4, .int x4), (5, .int p1), (6, .int x6_35), (7, .int x7_49), (8, .int 0)]) [4, 5, 7, 8, 3, 2, 1, 0] rfl ?_
      exact w_X4_firstArrival_54 C FU _ _ _ _ hf
    · replace hf := ifF c_2 hf
      refine ww_iconst (v := (-1)) C dX4_firstArrival_20 (by decide) ?_
      obtain rfl := Option.some.inj hf
      exact ww_iret C ⟨rfl, rfl⟩ dX4_firstArrival_21

theorem yk_X4_firstArrival : yX4_firstArrival.cls = RX4 ∧ yX4_firstArrival.cls ≠ "java/lang/invoke/MethodHandle" ∧ yX4_firstArrival.cls ≠ "java/lang/invoke/VarHandle" ∧ (parseMethodDescriptor yX4_firstArrival.desc).map (fun d => d.parameters.length) = some 4 := by decide +kernel
