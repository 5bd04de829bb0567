abbrev rmX9_size : Room := { frames := 7, cells := 0, slots := 0, locals := 159 }
set_option maxRecDepth 20000 in
theorem in_X9_size_X9 : ∀ w ∈ u_ws RX9 TX9 35, w ∈ wsX9_size := by decide +kernel
set_option maxHeartbeats 4000000 in
set_option maxRecDepth 100000 in
theorem c_X9_size {E : Ex} {a0 : Nat → Nat} {h0_1 : Nat} {x1 : Int32} {v0 : ModelV} {r : (Int32 × ModelV)} (hf : Mod_size x1 v0 = some r) : Ct E yX9_size wsX9_size rmX9_size [.ref (a0 0), .int x1] [wModel E a0 (rf2 (a0 1) h0_1) v0] (fun rv g => rv = some (.int r.1) ∧ g = [wModel E a0 (rf2 (a0 1) h0_1) r.2]) := by
  refine ct_of (own := RX9) (by decide +kernel) rfl rfl (Nat.le_of_ble_eq_true rfl) (fun K C => ?_)
  refine ww_sub C (lv' := [(0, .ref (a0 0)), (1, .int x1)]) [0, 1] rfl ?_
  rw [Mod_size] at hf
  refine ww_aload_n C dX9_size_0 rfl 0 rfl ?_
  refine ww_iconst (v := 0) C dX9_size_1 (by decide) ?_
  obtain ⟨v0_2, e_v0_2⟩ : ∃ y : ModelV, y = Model_set_thrown v0 0 := ⟨_, rfl⟩
  replace hf := ltE e_v0_2 hf
  refine ww_put C clOK9 in_X9_size_X9 (w := wModel E a0 (rf2 (a0 1) h0_1) v0) (fs := fsModel a0 (rf2 (a0 1) h0_1) v0) (w' := wModel E a0 (rf2 (a0 1) h0_1) v0_2) (gs' := [wModel E a0 (rf2 (a0 1) h0_1) v0_2]) 0 0 5 rfl q_Model (by decide) (by decide +kernel) rfl rfl rfl rfl l_Model (by rw [e_v0_2]; exact p_Model_thrown) rfl dX9_size_2 ?_
  refine ww_aload_n C dX9_size_5 rfl 0 rfl ?_
  obtain ⟨p6, hp6, hf⟩ := bdE hf
  refine ww_callV C (As := []) (st := []) (gr := []) (c_X9_layNow (E := E) (a0 := a0) (h0_1 := h0_1) hp6) gX9_size_X9_layNow rfl yk_X9_layNow ⟨by decide, by decide⟩ ⟨by decide, by decide⟩ clOK9 0 0 rfl rfl [0] [] 1 rfl (by decide) rfl rfl (Nat.le_of_ble_eq_true rfl) dX9_size_6 ?_
  rintro _ _ ⟨rfl, rfl⟩
  refine ww_perm (gs' := [wModel E a0 (rf2 (a0 1) h0_1) p6]) [0] 1 rfl (by decide) rfl ?_
  refine ww_iload_n C dX9_size_9 rfl 1 rfl ?_
  by_cases c_5 : Int32.toInt x1 < 0 ∨ 9 < Int32.toInt x1
  · replace hf := ifT c_5 hf
    refine ww_tabOut (tgt := 109) C dX9_size_10 c_5 (by decide) ?_
    refine ww_aload_n C dX9_size_109 rfl 0 rfl ?_
    refine ww_iconst (v := 1) C dX9_size_110 (by decide) ?_
    obtain ⟨p111, hp111, hf⟩ := bdE hf
    refine ww_callV C (As := [.int 1]) (st := []) (gr := []) (c_X9_raise (E := E) (a0 := a0) (h0_0 := a0 1) (h0_1 := h0_1) hp111) gX9_size_X9_raise rfl yk_X9_raise ⟨by decide, by decide⟩ ⟨by decide, by decide⟩ clOK9 0 0 rfl rfl [0] [] 1 rfl (by decide) rfl rfl (Nat.le_of_ble_eq_true rfl) dX9_size_111 ?_
    rintro _ _ ⟨rfl, rfl⟩
    refine ww_perm (gs' := [wModel E a0 (rf2 (a0 1) h0_1) p111.2]) [0] 1 rfl (by decide) rfl ?_
    obtain rfl := Option.some.inj hf
    exact ww_iret C ⟨rfl, rfl⟩ dX9_size_114
  · replace hf := ifF c_5 hf
    by_cases c_6 : x1 = 0
    · replace hf := ifT c_6 hf
      refine ww_tabIn (off := 54) (tgt := 64) C dX9_size_10 (fun z => c_5 (Or.inl z)) (fun z => c_5 (Or.inr z)) (by rw [c_6]; decide) (by decide) ?_
      refine ww_aload_n C dX9_size_64 rfl 0 rfl ?_
      refine ww_get C clOK9 in_X9_size_X9 (w := wModel E a0 (rf2 (a0 1) h0_1) p6) (fs := fsModel a0 (rf2 (a0 1) h0_1) p6) (v := .ref (a0 1)) 0 0 0 rfl q_Model (by decide) (by decide +kernel) g_Model_now dX9_size_65 ?_
      refine ww_iload_n C dX9_size_68 rfl 1 rfl ?_
      obtain ⟨g_1, hf⟩ := gdE hf
      refine ww_iald C (f := Model_now p6) (w := wModel E a0 (rf2 (a0 1) h0_1) p6) 0 1 rfl c_Model_now (inB_vp g_1) dX9_size_69 ?_
      obtain rfl := Option.some.inj hf
      exact ww_iret C ⟨rfl, rfl⟩ dX9_size_70
    · replace hf := ifF c_6 hf
      by_cases c_7 : x1 = 1
      · replace hf := ifT c_7 hf
        refine ww_tabIn (off := 54) (tgt := 64) C dX9_size_10 (fun z => c_5 (Or.inl z)) (fun z => c_5 (Or.inr z)) (by rw [c_7]; decide) (by decide) ?_
        refine ww_aload_n C dX9_size_64 rfl 0 rfl ?_
        refine ww_get C clOK9 in_X9_size_X9 (w := wModel E a0 (rf2 (a0 1) h0_1) p6) (fs := fsModel a0 (rf2 (a0 1) h0_1) p6) (v := .ref (a0 1)) 0 0 0 rfl q_Model (by decide) (by decide +kernel) g_Model_now dX9_size_65 ?_
        refine ww_iload_n C dX9_size_68 rfl 1 rfl ?_
        obtain ⟨g_2, hf⟩ := gdE hf
        refine ww_iald C (f := Model_now p6) (w := wModel E a0 (rf2 (a0 1) h0_1) p6) 0 1 rfl c_Model_now (inB_vp g_2) dX9_size_69 ?_
        obtain rfl := Option.some.inj hf
        exact ww_iret C ⟨rfl, rfl⟩ dX9_size_70
      · replace hf := ifF c_7 hf
        by_cases c_8 : x1 = 2
        · replace hf := ifT c_8 hf
          refine ww_tabIn (off := 54) (tgt := 64) C dX9_size_10 (fun z => c_5 (Or.inl z)) (fun z => c_5 (Or.inr z)) (by rw [c_8]; decide) (by decide) ?_
          refine ww_aload_n C dX9_size_64 rfl 0 rfl ?_
          refine ww_get C clOK9 in_X9_size_X9 (w := wModel E a0 (rf2 (a0 1) h0_1) p6) (fs := fsModel a0 (rf2 (a0 1) h0_1) p6) (v := .ref (a0 1)) 0 0 0 rfl q_Model (by decide) (by decide +kernel) g_Model_now dX9_size_65 ?_
          refine ww_iload_n C dX9_size_68 rfl 1 rfl ?_
          obtain ⟨g_3, hf⟩ := gdE hf
          refine ww_iald C (f := Model_now p6) (w := wModel E a0 (rf2 (a0 1) h0_1) p6) 0 1 rfl c_Model_now (inB_vp g_3) dX9_size_69 ?_
          obtain rfl := Option.some.inj hf
          exact ww_iret C ⟨rfl, rfl⟩ dX9_size_70
        · replace hf := ifF c_8 hf
          by_cases c_9 : x1 = 3
          · replace hf := ifT c_9 hf
            refine ww_tabIn (off := 61) (tgt := 71) C dX9_size_10 (fun z => c_5 (Or.inl z)) (fun z => c_5 (Or.inr z)) (by rw [c_9]; decide) (by decide) ?_
            refine ww_aload_n C dX9_size_71 rfl 0 rfl ?_
            refine ww_get C clOK9 in_X9_size_X9 (w := wModel E a0 (rf2 (a0 1) h0_1) p6) (fs := fsModel a0 (rf2 (a0 1) h0_1) p6) (v := .int (Model_cycleNow p6)) 0 0 15 rfl q_Model (by decide) (by decide +kernel) g_Model_cycleNow dX9_size_72 ?_
            obtain rfl := Option.some.inj hf
            exact ww_iret C ⟨rfl, rfl⟩ dX9_size_75
          · replace hf := ifF c_9 hf
            by_cases c_10 : x1 = 4
            · replace hf := ifT c_10 hf
              refine ww_tabIn (off := 66) (tgt := 76) C dX9_size_10 (fun z => c_5 (Or.inl z)) (fun z => c_5 (Or.inr z)) (by rw [c_10]; decide) (by decide) ?_
              refine ww_aload_n C dX9_size_76 rfl 0 rfl ?_
              refine ww_get C clOK9 in_X9_size_X9 (w := wModel E a0 (rf2 (a0 1) h0_1) p6) (fs := fsModel a0 (rf2 (a0 1) h0_1) p6) (v := .ref (a0 1)) 0 0 0 rfl q_Model (by decide) (by decide +kernel) g_Model_now dX9_size_77 ?_
              refine ww_iconst (v := 3) C dX9_size_80 (by decide) ?_
              obtain ⟨g_4, hf⟩ := gdE hf
              refine ww_iald C (f := Model_now p6) (w := wModel E a0 (rf2 (a0 1) h0_1) p6) 0 1 rfl c_Model_now (inB_vp g_4) dX9_size_81 ?_
              obtain rfl := Option.some.inj hf
              exact ww_iret C ⟨rfl, rfl⟩ dX9_size_82
            · replace hf := ifF c_10 hf
              by_cases c_11 : x1 = 5
              · replace hf := ifT c_11 hf
                refine ww_tabIn (off := 73) (tgt := 83) C dX9_size_10 (fun z => c_5 (Or.inl z)) (fun z => c_5 (Or.inr z)) (by rw [c_11]; decide) (by decide) ?_
                refine ww_aload_n C dX9_size_83 rfl 0 rfl ?_
                obtain ⟨p84, hp84, hf⟩ := bdE hf
                refine ww_callV C (As := []) (st := []) (gr := []) (c_X9_worstLaid (E := E) (a0 := a0) (h0_1 := h0_1) hp84) gX9_size_X9_worstLaid rfl yk_X9_worstLaid ⟨by decide, by decide⟩ ⟨by decide, by decide⟩ clOK9 0 0 rfl rfl [0] [] 1 rfl (by decide) rfl rfl (Nat.le_of_ble_eq_true rfl) dX9_size_84 ?_
                rintro _ _ ⟨rfl, rfl⟩
                refine ww_perm (gs' := [wModel E a0 (rf2 (a0 1) h0_1) p6]) [0] 1 rfl (by decide) rfl ?_
                obtain rfl := Option.some.inj hf
                exact ww_iret C ⟨rfl, rfl⟩ dX9_size_87
              · replace hf := ifF c_11 hf
                by_cases c_12 : x1 = 6
                · replace hf := ifT c_12 hf
                  refine ww_tabIn (off := 78) (tgt := 88) C dX9_size_10 (fun z => c_5 (Or.inl z)) (fun z => c_5 (Or.inr z)) (by rw [c_12]; decide) (by decide) ?_
                  refine ww_aload_n C dX9_size_88 rfl 0 rfl ?_
                  obtain ⟨p89, hp89, hf⟩ := bdE hf
                  refine ww_callV C (As := []) (st := []) (gr := []) (c_X9_lateLaid (E := E) (a0 := a0) (h0_1 := h0_1) hp89) gX9_size_X9_lateLaid rfl yk_X9_lateLaid ⟨by decide, by decide⟩ ⟨by decide, by decide⟩ clOK9 0 0 rfl rfl [0] [] 1 rfl (by decide) rfl rfl (Nat.le_of_ble_eq_true rfl) dX9_size_89 ?_
                  rintro _ _ ⟨rfl, rfl⟩
                  refine ww_perm (gs' := [wModel E a0 (rf2 (a0 1) h0_1) p6]) [0] 1 rfl (by decide) rfl ?_
                  obtain rfl := Option.some.inj hf
                  exact ww_iret C ⟨rfl, rfl⟩ dX9_size_92
                · replace hf := ifF c_12 hf
                  by_cases c_13 : x1 = 7
                  · replace hf := ifT c_13 hf
                    refine ww_tabIn (off := 83) (tgt := 93) C dX9_size_10 (fun z => c_5 (Or.inl z)) (fun z => c_5 (Or.inr z)) (by rw [c_13]; decide) (by decide) ?_
                    refine ww_aload_n C dX9_size_93 rfl 0 rfl ?_
                    obtain ⟨p94, hp94, hf⟩ := bdE hf
                    refine ww_callV C (As := []) (st := []) (gr := []) (c_X9_crossingsLaid (E := E) (a0 := a0) (h0_1 := h0_1) hp94) gX9_size_X9_crossingsLaid rfl yk_X9_crossingsLaid ⟨by decide, by decide⟩ ⟨by decide, by decide⟩ clOK9 0 0 rfl rfl [0] [] 1 rfl (by decide) rfl rfl (Nat.le_of_ble_eq_true rfl) dX9_size_94 ?_
                    rintro _ _ ⟨rfl, rfl⟩
                    refine ww_perm (gs' := [wModel E a0 (rf2 (a0 1) h0_1) p6]) [0] 1 rfl (by decide) rfl ?_
                    obtain rfl := Option.some.inj hf
                    exact ww_iret C ⟨rfl, rfl⟩ dX9_size_97
                  · replace hf := ifF c_13 hf
                    by_cases c_14 : x1 = 8
                    · replace hf := ifT c_14 hf
                      refine ww_tabIn (off := 88) (tgt := 98) C dX9_size_10 (fun z => c_5 (Or.inl z)) (fun z => c_5 (Or.inr z)) (by rw [c_14]; decide) (by decide) ?_
                      refine ww_aload_n C dX9_size_98 rfl 0 rfl ?_
                      refine ww_iconst (v := (-1)) C dX9_size_99 (by decide) ?_
                      obtain ⟨p100, hp100, hf⟩ := bdE hf
                      refine ww_callV C (As := [.int (-1)]) (st := []) (gr := []) (c_X9_openAt (E := E) (a0 := a0) (h0_1 := h0_1) hp100) gX9_size_X9_openAt rfl yk_X9_openAt ⟨by decide, by decide⟩ ⟨by decide, by decide⟩ clOK9 0 0 rfl rfl [0] [] 1 rfl (by decide) rfl rfl (Nat.le_of_ble_eq_true rfl) dX9_size_100 ?_
                      rintro _ _ ⟨rfl, rfl⟩
                      refine ww_perm (gs' := [wModel E a0 (rf2 (a0 1) h0_1) p6]) [0] 1 rfl (by decide) rfl ?_
                      obtain rfl := Option.some.inj hf
                      exact ww_iret C ⟨rfl, rfl⟩ dX9_size_103
                    · replace hf := ifF c_14 hf
                      by_cases c_15 : x1 = 9
                      · replace hf := ifT c_15 hf
                        refine ww_tabIn (off := 94) (tgt := 104) C dX9_size_10 (fun z => c_5 (Or.inl z)) (fun z => c_5 (Or.inr z)) (by rw [c_15]; decide) (by decide) ?_
                        refine ww_aload_n C dX9_size_104 rfl 0 rfl ?_
                        obtain ⟨p105, hp105, hf⟩ := bdE hf
                        refine ww_callV C (As := []) (st := []) (gr := []) (c_X9_sightings (E := E) (a0 := a0) (h0_1 := h0_1) hp105) gX9_size_X9_sightings rfl yk_X9_sightings ⟨by decide, by decide⟩ ⟨by decide, by decide⟩ clOK9 0 0 rfl rfl [0] [] 1 rfl (by decide) rfl rfl (Nat.le_of_ble_eq_true rfl) dX9_size_105 ?_
                        rintro _ _ ⟨rfl, rfl⟩
                        refine ww_perm (gs' := [wModel E a0 (rf2 (a0 1) h0_1) p6]) [0] 1 rfl (by decide) rfl ?_
                        obtain rfl := Option.some.inj hf
                        exact ww_iret C ⟨rfl, rfl⟩ dX9_size_108
                      · replace hf := ifF c_15 hf
                        cases hf

theorem yk_X9_size : yX9_size.cls = RX9 ∧ yX9_size.cls ≠ "java/lang/invoke/MethodHandle" ∧ yX9_size.cls ≠ "java/lang/invoke/VarHandle" ∧ (parseMethodDescriptor yX9_size.desc).map (fun d => d.parameters.length) = some 1 := by decide +kernel
abbrev rmX9_door : Room := { frames := 4, cells := 0, slots := 0, locals := 93 }
set_option maxRecDepth 20000 in
theorem in_X9_door_X9 : ∀ w ∈ u_ws RX9 TX9 35, w ∈ wsX9_door := by decide +kernel
set_option maxHeartbeats 4000000 in
set_option maxRecDepth 100000 in
theorem w_X9_door_22 {E : Ex} {K : Kx} (C : Cx E K cX9_door 3 (some .int) RX9 wsX9_door rmX9_door) {a0 : Nat → Nat} {h0_1 : Nat} {x1 : Int32} {x2 : Int32}  {v0 : ModelV} {r : (Int32 × ModelV)} (hf : Mod_door_22 x1 x2 v0 = some r) : WW E K 0 0 (QQ E K (fun rv g => rv = some (.int r.1) ∧ g = [wModel E a0 (rf2 (a0 1) h0_1) r.2]) 0 0) 22 [(0, .ref (a0 0))] [] [wModel E a0 (rf2 (a0 1) h0_1) v0] := by
  rw [Mod_door_22] at hf
  refine ww_aload_n C dX9_door_22 rfl 0 rfl ?_
  refine ww_iconst (v := 1) C dX9_door_23 (by decide) ?_
  obtain ⟨p24, hp24, hf⟩ := bdE hf
  refine ww_callV C (As := [.int 1]) (st := []) (gr := []) (c_X9_raise (E := E) (a0 := a0) (h0_0 := a0 1) (h0_1 := h0_1) hp24) gX9_door_X9_raise rfl yk_X9_raise ⟨by decide, by decide⟩ ⟨by decide, by decide⟩ clOK9 0 0 rfl rfl [0] [] 1 rfl (by decide) rfl rfl (Nat.le_of_ble_eq_true rfl) dX9_door_24 ?_
  rintro _ _ ⟨rfl, rfl⟩
  refine ww_perm (gs' := [wModel E a0 (rf2 (a0 1) h0_1) p24.2]) [0] 1 rfl (by decide) rfl ?_
  obtain rfl := Option.some.inj hf
  exact ww_iret C ⟨rfl, rfl⟩ dX9_door_27

set_option maxHeartbeats 4000000 in
set_option maxRecDepth 100000 in
theorem c_X9_door {E : Ex} {a0 : Nat → Nat} {h0_1 : Nat} {x1 : Int32} {x2 : Int32} {v0 : ModelV} {r : (Int32 × ModelV)} (hf : Mod_door x1 x2 v0 = some r) : Ct E yX9_door wsX9_door rmX9_door [.ref (a0 0), .int x1, .int x2] [wModel E a0 (rf2 (a0 1) h0_1) v0] (fun rv g => rv = some (.int r.1) ∧ g = [wModel E a0 (rf2 (a0 1) h0_1) r.2]) := by
  refine ct_of (own := RX9) (by decide +kernel) rfl rfl (Nat.le_of_ble_eq_true rfl) (fun K C => ?_)
  refine ww_sub C (lv' := [(0, .ref (a0 0)), (1, .int x1), (2, .int x2)]) [0, 1, 2] rfl ?_
  rw [Mod_door] at hf
  refine ww_aload_n C dX9_door_0 rfl 0 rfl ?_
  refine ww_iconst (v := 0) C dX9_door_1 (by decide) ?_
  obtain ⟨v0_2, e_v0_2⟩ : ∃ y : ModelV, y = Model_set_thrown v0 0 := ⟨_, rfl⟩
  replace hf := ltE e_v0_2 hf
  refine ww_put C clOK9 in_X9_door_X9 (w := wModel E a0 (rf2 (a0 1) h0_1) v0) (fs := fsModel a0 (rf2 (a0 1) h0_1) v0) (w' := wModel E a0 (rf2 (a0 1) h0_1) v0_2) (gs' := [wModel E a0 (rf2 (a0 1) h0_1) v0_2]) 0 0 5 rfl q_Model (by decide) (by decide +kernel) rfl rfl rfl rfl l_Model (by rw [e_v0_2]; exact p_Model_thrown) rfl dX9_door_2 ?_
  refine ww_aload_n C dX9_door_5 rfl 0 rfl ?_
  refine ww_iload_n C dX9_door_6 rfl 1 rfl ?_
  obtain ⟨p7, hp7, hf⟩ := bdE hf
  refine ww_callV C (As := [.int x1]) (st := []) (gr := []) (c_X9_isDoor (E := E) (a0 := a0) (h0_1 := h0_1) hp7) gX9_door_X9_isDoor rfl yk_X9_isDoor ⟨by decide, by decide⟩ ⟨by decide, by decide⟩ clOK9 0 0 rfl rfl [0] [] 1 rfl (by decide) rfl rfl (Nat.le_of_ble_eq_true rfl) dX9_door_7 ?_
  rintro _ _ ⟨rfl, rfl⟩
  refine ww_perm (gs' := [wModel E a0 (rf2 (a0 1) h0_1) v0_2]) [0] 1 rfl (by decide) rfl ?_
  refine ww_if_eqB (tgt := 22) C dX9_door_10 (by decide) (fun c_1 => ?_) (fun c_1 => ?_)
  · replace hf := bfE c_1 hf
    refine ww_sub C (lv' := [(0, .ref (a0 0))]) [0] rfl ?_
    exact w_X9_door_22 C hf
  · replace hf := btE c_1 hf
    refine ww_iload_n C dX9_door_13 rfl 2 rfl ?_
    refine ww_iconst (v := 0) C dX9_door_14 (by decide) ?_
    refine ww_iconst (v := 3) C dX9_door_15 (by decide) ?_
    obtain ⟨p16, hp16, hf⟩ := bdE hf
    refine ww_callS C (As := [.int x2, .int 0, .int 3]) (st := []) (gr := [wModel E a0 (rf2 (a0 1) h0_1) v0_2]) (c_X9_inRange (E := E)  hp16) gX9_door_X9_inRange rfl ysk_X9_inRange ⟨by decide, by decide⟩ ⟨by decide, by decide⟩ [] [0] 1 rfl (by decide) rfl rfl (Nat.le_of_ble_eq_true rfl) dX9_door_16 ?_
    rintro _ _ ⟨rfl, rfl⟩
    refine ww_perm (gs' := [wModel E a0 (rf2 (a0 1) h0_1) v0_2]) [0] 1 rfl (by decide) rfl ?_
    refine ww_if_neB (tgt := 28) C dX9_door_19 (by decide) (fun c_2 => ?_) (fun c_2 => ?_)
    · replace hf := btE c_2 hf
      refine ww_iload_n C dX9_door_28 rfl 2 rfl ?_
      refine ww_iconst (v := 3) C dX9_door_29 (by decide) ?_
      refine ww_icmp_ne (tgt := 41) C dX9_door_30 (by decide) (fun c_3 => ?_) (fun c_3 => ?_)
      · replace hf := ifF c_3 hf
        refine ww_aload_n C dX9_door_41 rfl 0 rfl ?_
        refine ww_iload_n C dX9_door_42 rfl 1 rfl ?_
        refine ww_iload_n C dX9_door_43 rfl 2 rfl ?_
        obtain ⟨p44, hp44, hf⟩ := bdE hf
        refine ww_callV C (As := [.int x1, .int x2]) (st := []) (gr := []) (c_X9_ofDoor (E := E) (a0 := a0) (h0_1 := h0_1) hp44) gX9_door_X9_ofDoor rfl yk_X9_ofDoor ⟨by decide, by decide⟩ ⟨by decide, by decide⟩ clOK9 0 0 rfl rfl [0] [] 1 rfl (by decide) rfl rfl (Nat.le_of_ble_eq_true rfl) dX9_door_44 ?_
        rintro _ _ ⟨rfl, rfl⟩
        refine ww_perm (gs' := [wModel E a0 (rf2 (a0 1) h0_1) v0_2]) [0] 1 rfl (by decide) rfl ?_
        obtain rfl := Option.some.inj hf
        exact ww_iret C ⟨rfl, rfl⟩ dX9_door_47
      · replace hf := ifT c_3 hf
        refine ww_aload_n C dX9_door_33 rfl 0 rfl ?_
        refine ww_iload_n C dX9_door_34 rfl 1 rfl ?_
        obtain ⟨p35, hp35, hf⟩ := bdE hf
        refine ww_callV C (As := [.int x1]) (st := []) (gr := []) (c_X9_walksThrough (E := E) (a0 := a0) (h0_1 := h0_1) hp35) gX9_door_X9_walksThrough rfl yk_X9_walksThrough ⟨by decide, by decide⟩ ⟨by decide, by decide⟩ clOK9 0 0 rfl rfl [0] [] 1 rfl (by decide) rfl rfl (Nat.le_of_ble_eq_true rfl) dX9_door_35 ?_
        rintro _ _ ⟨rfl, rfl⟩
        refine ww_perm (gs' := [wModel E a0 (rf2 (a0 1) h0_1) v0_2]) [0] 1 rfl (by decide) rfl ?_
        refine ww_goto (tgt := 47) C dX9_door_38 (by decide) ?_
        obtain rfl := Option.some.inj hf
        exact ww_iret C ⟨rfl, rfl⟩ dX9_door_47
    · replace hf := bfE c_2 hf
      refine ww_sub C (lv' := [(0, .ref (a0 0))]) [0] rfl ?_
      exact w_X9_door_22 C hf

theorem yk_X9_door : yX9_door.cls = RX9 ∧ yX9_door.cls ≠ "java/lang/invoke/MethodHandle" ∧ yX9_door.cls ≠ "java/lang/invoke/VarHandle" ∧ (parseMethodDescriptor yX9_door.desc).map (fun d => d.parameters.length) = some 2 := by decide +kernel
abbrev rmX9_room : Room := { frames := 6, cells := 0, slots := 0, locals := 130 }
set_option maxRecDepth 20000 in
theorem in_X9_room_X9 : ∀ w ∈ u_ws RX9 TX9 35, w ∈ wsX9_room := by decide +kernel
set_option maxHeartbeats 4000000 in
set_option maxRecDepth 100000 in
theorem w_X9_room_107 {E : Ex} {K : Kx} (C : Cx E K cX9_room 3 (some .int) RX9 wsX9_room rmX9_room) {a0 : Nat → Nat} {h0_1 : Nat} {x1 : Int32} {x2 : Int32}  {v0 : ModelV} {r : (Int32 × ModelV)} (hf : Mod_room_107 x1 x2 v0 = some r) : WW E K 0 0 (QQ E K (fun rv g => rv = some (.int r.1) ∧ g = [wModel E a0 (rf2 (a0 1) h0_1) r.2]) 0 0) 107 [(0, .ref (a0 0)), (1, .int x1), (2, .int x2)] [] [wModel E a0 (rf2 (a0 1) h0_1) v0] := by
  rw [Mod_room_107] at hf
  refine ww_aload_n C dX9_room_107 rfl 0 rfl ?_
  refine ww_iload_n C dX9_room_108 rfl 1 rfl ?_
  refine ww_iload_n C dX9_room_109 rfl 2 rfl ?_
  refine ww_iconst (v := 3) C dX9_room_110 (by decide) ?_
  refine ww_isub C dX9_room_111 ?_
  obtain ⟨p112, hp112, hf⟩ := bdE hf
  refine ww_callV C (As := [.int x1, .int (x2 - 3)]) (st := []) (gr := []) (c_X9_ofRoom (E := E) (a0 := a0) (h0_1 := h0_1) hp112) gX9_room_X9_ofRoom rfl yk_X9_ofRoom ⟨by decide, by decide⟩ ⟨by decide, by decide⟩ clOK9 0 0 rfl rfl [0] [] 1 rfl (by decide) rfl rfl (Nat.le_of_ble_eq_true rfl) dX9_room_112 ?_
  rintro _ _ ⟨rfl, rfl⟩
  refine ww_perm (gs' := [wModel E a0 (rf2 (a0 1) h0_1) v0]) [0] 1 rfl (by decide) rfl ?_
  obtain rfl := Option.some.inj hf
  exact ww_iret C ⟨rfl, rfl⟩ dX9_room_115

set_option maxHeartbeats 4000000 in
set_option maxRecDepth 100000 in
theorem c_X9_room {E : Ex} {a0 : Nat → Nat} {h0_1 : Nat} {x1 : Int32} {x2 : Int32} {v0 : ModelV} {r : (Int32 × ModelV)} (hf : Mod_room x1 x2 v0 = some r) : Ct E yX9_room wsX9_room rmX9_room [.ref (a0 0), .int x1, .int x2] [wModel E a0 (rf2 (a0 1) h0_1) v0] (fun rv g => rv = some (.int r.1) ∧ g = [wModel E a0 (rf2 (a0 1) h0_1) r.2]) := by
  refine ct_of (own := RX9) (by decide +kernel) rfl rfl (Nat.le_of_ble_eq_true rfl) (fun K C => ?_)
  refine ww_sub C (lv' := [(0, .ref (a0 0)), (1, .int x1), (2, .int x2)]) [0, 1, 2] rfl ?_
  rw [Mod_room] at hf
  refine ww_aload_n C dX9_room_0 rfl 0 rfl ?_
  refine ww_iconst (v := 0) C dX9_room_1 (by decide) ?_
  obtain ⟨v0_2, e_v0_2⟩ : ∃ y : ModelV, y = Model_set_thrown v0 0 := ⟨_, rfl⟩
  replace hf := ltE e_v0_2 hf
  refine ww_put C clOK9 in_X9_room_X9 (w := wModel E a0 (rf2 (a0 1) h0_1) v0) (fs := fsModel a0 (rf2 (a0 1) h0_1) v0) (w' := wModel E a0 (rf2 (a0 1) h0_1) v0_2) (gs' := [wModel E a0 (rf2 (a0 1) h0_1) v0_2]) 0 0 5 rfl q_Model (by decide) (by decide +kernel) rfl rfl rfl rfl l_Model (by rw [e_v0_2]; exact p_Model_thrown) rfl dX9_room_2 ?_
  refine ww_aload_n C dX9_room_5 rfl 0 rfl ?_
  refine ww_iload_n C dX9_room_6 rfl 1 rfl ?_
  obtain ⟨p7, hp7, hf⟩ := bdE hf
  refine ww_callV C (As := [.int x1]) (st := []) (gr := []) (c_X9_isRoom (E := E) (a0 := a0) (h0_1 := h0_1) hp7) gX9_room_X9_isRoom rfl yk_X9_isRoom ⟨by decide, by decide⟩ ⟨by decide, by decide⟩ clOK9 0 0 rfl rfl [0] [] 1 rfl (by decide) rfl rfl (Nat.le_of_ble_eq_true rfl) dX9_room_7 ?_
  rintro _ _ ⟨rfl, rfl⟩
  refine ww_perm (gs' := [wModel E a0 (rf2 (a0 1) h0_1) v0_2]) [0] 1 rfl (by decide) rfl ?_
  refine ww_if_neB (tgt := 19) C dX9_room_10 (by decide) (fun c_1 => ?_) (fun c_1 => ?_)
  · replace hf := btE c_1 hf
    refine ww_aload_n C dX9_room_19 rfl 0 rfl ?_
    obtain ⟨p20, hp20, hf⟩ := bdE hf
    refine ww_callV C (As := []) (st := []) (gr := []) (c_X9_layNow (E := E) (a0 := a0) (h0_1 := h0_1) hp20) gX9_room_X9_layNow rfl yk_X9_layNow ⟨by decide, by decide⟩ ⟨by decide, by decide⟩ clOK9 0 0 rfl rfl [0] [] 1 rfl (by decide) rfl rfl (Nat.le_of_ble_eq_true rfl) dX9_room_20 ?_
    rintro _ _ ⟨rfl, rfl⟩
    refine ww_perm (gs' := [wModel E a0 (rf2 (a0 1) h0_1) p20]) [0] 1 rfl (by decide) rfl ?_
    refine ww_iload_n C dX9_room_23 rfl 2 rfl ?_
    by_cases c_5 : Int32.toInt x2 < 0 ∨ 7 < Int32.toInt x2
    · replace hf := ifT c_5 hf
      refine ww_tabOut (tgt := 116) C dX9_room_24 c_5 (by decide) ?_
      refine ww_aload_n C dX9_room_116 rfl 0 rfl ?_
      refine ww_iconst (v := 1) C dX9_room_117 (by decide) ?_
      obtain ⟨p118, hp118, hf⟩ := bdE hf
      refine ww_callV C (As := [.int 1]) (st := []) (gr := []) (c_X9_raise (E := E) (a0 := a0) (h0_0 := a0 1) (h0_1 := h0_1) hp118) gX9_room_X9_raise rfl yk_X9_raise ⟨by decide, by decide⟩ ⟨by decide, by decide⟩ clOK9 0 0 rfl rfl [0] [] 1 rfl (by decide) rfl rfl (Nat.le_of_ble_eq_true rfl) dX9_room_118 ?_
      rintro _ _ ⟨rfl, rfl⟩
      refine ww_perm (gs' := [wModel E a0 (rf2 (a0 1) h0_1) p118.2]) [0] 1 rfl (by decide) rfl ?_
      obtain rfl := Option.some.inj hf
      exact ww_iret C ⟨rfl, rfl⟩ dX9_room_121
    · replace hf := ifF c_5 hf
      by_cases c_6 : x2 = 0
      · replace hf := ifT c_6 hf
        refine ww_tabIn (off := 48) (tgt := 72) C dX9_room_24 (fun z => c_5 (Or.inl z)) (fun z => c_5 (Or.inr z)) (by rw [c_6]; decide) (by decide) ?_
        refine ww_aload_n C dX9_room_72 rfl 0 rfl ?_
        refine ww_iload_n C dX9_room_73 rfl 1 rfl ?_
        refine ww_iconst (v := 0) C dX9_room_74 (by decide) ?_
        obtain ⟨p75, hp75, hf⟩ := bdE hf
        refine ww_callV C (As := [.int x1, .int 0]) (st := []) (gr := []) (c_X9_ofRoom (E := E) (a0 := a0) (h0_1 := h0_1) hp75) gX9_room_X9_ofRoom rfl yk_X9_ofRoom ⟨by decide, by decide⟩ ⟨by decide, by decide⟩ clOK9 0 0 rfl rfl [0] [] 1 rfl (by decide) rfl rfl (Nat.le_of_ble_eq_true rfl) dX9_room_75 ?_
        rintro _ _ ⟨rfl, rfl⟩
        refine ww_perm (gs' := [wModel E a0 (rf2 (a0 1) h0_1) p20]) [0] 1 rfl (by decide) rfl ?_
        obtain rfl := Option.some.inj hf
        exact ww_iret C ⟨rfl, rfl⟩ dX9_room_78
      · replace hf := ifF c_6 hf
        by_cases c_7 : x2 = 1
        · replace hf := ifT c_7 hf
          refine ww_tabIn (off := 55) (tgt := 79) C dX9_room_24 (fun z => c_5 (Or.inl z)) (fun z => c_5 (Or.inr z)) (by rw [c_7]; decide) (by decide) ?_
          refine ww_aload_n C dX9_room_79 rfl 0 rfl ?_
          refine ww_get C clOK9 in_X9_room_X9 (w := wModel E a0 (rf2 (a0 1) h0_1) p20) (fs := fsModel a0 (rf2 (a0 1) h0_1) p20) (v := .ref (a0 10)) 0 0 13 rfl q_Model (by decide) (by decide +kernel) g_Model_gap dX9_room_80 ?_
          refine ww_iload_n C dX9_room_83 rfl 1 rfl ?_
          obtain ⟨g_2, hf⟩ := gdE hf
          refine ww_iald C (f := Model_gap p20) (w := wModel E a0 (rf2 (a0 1) h0_1) p20) 0 10 rfl c_Model_gap (inB_vp g_2) dX9_room_84 ?_
          obtain rfl := Option.some.inj hf
          exact ww_iret C ⟨rfl, rfl⟩ dX9_room_85
        · replace hf := ifF c_7 hf
          by_cases c_8 : x2 = 2
          · replace hf := ifT c_8 hf
            refine ww_tabIn (off := 62) (tgt := 86) C dX9_room_24 (fun z => c_5 (Or.inl z)) (fun z => c_5 (Or.inr z)) (by rw [c_8]; decide) (by decide) ?_
            refine ww_aload_n C dX9_room_86 rfl 0 rfl ?_
            refine ww_iload_n C dX9_room_87 rfl 1 rfl ?_
            obtain ⟨p88, hp88, hf⟩ := bdE hf
            refine ww_callV C (As := [.int x1]) (st := []) (gr := []) (c_X9_isLate (E := E) (a0 := a0) (h0_1 := h0_1) hp88) gX9_room_X9_isLate rfl yk_X9_isLate ⟨by decide, by decide⟩ ⟨by decide, by decide⟩ clOK9 0 0 rfl rfl [0] [] 1 rfl (by decide) rfl rfl (Nat.le_of_ble_eq_true rfl) dX9_room_88 ?_
            rintro _ _ ⟨rfl, rfl⟩
            refine ww_perm (gs' := [wModel E a0 (rf2 (a0 1) h0_1) p20]) [0] 1 rfl (by decide) rfl ?_
            refine ww_if_eqB (tgt := 98) C dX9_room_91 (by decide) (fun c_3 => ?_) (fun c_3 => ?_)
            · replace hf := bfE c_3 hf
              refine ww_iconst (v := 0) C dX9_room_98 (by decide) ?_
              obtain rfl := Option.some.inj hf
              exact ww_iret C ⟨rfl, rfl⟩ dX9_room_99
            · replace hf := btE c_3 hf
              refine ww_iconst (v := 1) C dX9_room_94 (by decide) ?_
              refine ww_goto (tgt := 99) C dX9_room_95 (by decide) ?_
              obtain rfl := Option.some.inj hf
              exact ww_iret C ⟨rfl, rfl⟩ dX9_room_99
          · replace hf := ifF c_8 hf
            by_cases c_9 : x2 = 3
            · replace hf := ifT c_9 hf
              refine ww_tabIn (off := 76) (tgt := 100) C dX9_room_24 (fun z => c_5 (Or.inl z)) (fun z => c_5 (Or.inr z)) (by rw [c_9]; decide) (by decide) ?_
              refine ww_aload_n C dX9_room_100 rfl 0 rfl ?_
              refine ww_get C clOK9 in_X9_room_X9 (w := wModel E a0 (rf2 (a0 1) h0_1) p20) (fs := fsModel a0 (rf2 (a0 1) h0_1) p20) (v := .ref (a0 9)) 0 0 12 rfl q_Model (by decide) (by decide +kernel) g_Model_seenCount dX9_room_101 ?_
              refine ww_iload_n C dX9_room_104 rfl 1 rfl ?_
              obtain ⟨g_4, hf⟩ := gdE hf
              refine ww_iald C (f := Model_seenCount p20) (w := wModel E a0 (rf2 (a0 1) h0_1) p20) 0 9 rfl c_Model_seenCount (inB_vp g_4) dX9_room_105 ?_
              obtain rfl := Option.some.inj hf
              exact ww_iret C ⟨rfl, rfl⟩ dX9_room_106
            · replace hf := ifF c_9 hf
              by_cases c_10 : x2 = 4
              · replace hf := ifT c_10 hf
                refine ww_tabIn (off := 83) (tgt := 107) C dX9_room_24 (fun z => c_5 (Or.inl z)) (fun z => c_5 (Or.inr z)) (by rw [c_10]; decide) (by decide) ?_
                refine ww_sub C (lv' := [(0, .ref (a0 0)), (1, .int x1), (2, .int x2)]) [0, 1, 2] rfl ?_
                exact w_X9_room_107 C hf
              · replace hf := ifF c_10 hf
                by_cases c_11 : x2 = 5
                · replace hf := ifT c_11 hf
                  refine ww_tabIn (off := 83) (tgt := 107) C dX9_room_24 (fun z => c_5 (Or.inl z)) (fun z => c_5 (Or.inr z)) (by rw [c_11]; decide) (by decide) ?_
                  refine ww_sub C (lv' := [(0, .ref (a0 0)), (1, .int x1), (2, .int x2)]) [0, 1, 2] rfl ?_
                  exact w_X9_room_107 C hf
                · replace hf := ifF c_11 hf
                  by_cases c_12 : x2 = 6
                  · replace hf := ifT c_12 hf
                    refine ww_tabIn (off := 83) (tgt := 107) C dX9_room_24 (fun z => c_5 (Or.inl z)) (fun z => c_5 (Or.inr z)) (by rw [c_12]; decide) (by decide) ?_
                    refine ww_sub C (lv' := [(0, .ref (a0 0)), (1, .int x1), (2, .int x2)]) [0, 1, 2] rfl ?_
                    exact w_X9_room_107 C hf
                  · replace hf := ifF c_12 hf
                    by_cases c_13 : x2 = 7
                    · replace hf := ifT c_13 hf
                      refine ww_tabIn (off := 83) (tgt := 107) C dX9_room_24 (fun z => c_5 (Or.inl z)) (fun z => c_5 (Or.inr z)) (by rw [c_13]; decide) (by decide) ?_
                      refine ww_sub C (lv' := [(0, .ref (a0 0)), (1, .int x1), (2, .int x2)]) [0, 1, 2] rfl ?_
                      exact w_X9_room_107 C hf
                    · replace hf := ifF c_13 hf
                      cases hf
  · replace hf := bfE c_1 hf
    refine ww_aload_n C dX9_room_13 rfl 0 rfl ?_
    refine ww_iconst (v := 1) C dX9_room_14 (by decide) ?_
    obtain ⟨p15, hp15, hf⟩ := bdE hf
    refine ww_callV C (As := [.int 1]) (st := []) (gr := []) (c_X9_raise (E := E) (a0 := a0) (h0_0 := a0 1) (h0_1 := h0_1) hp15) gX9_room_X9_raise rfl yk_X9_raise ⟨by decide, by decide⟩ ⟨by decide, by decide⟩ clOK9 0 0 rfl rfl [0] [] 1 rfl (by decide) rfl rfl (Nat.le_of_ble_eq_true rfl) dX9_room_15 ?_
    rintro _ _ ⟨rfl, rfl⟩
    refine ww_perm (gs' := [wModel E a0 (rf2 (a0 1) h0_1) p15.2]) [0] 1 rfl (by decide) rfl ?_
    obtain rfl := Option.some.inj hf
    exact ww_iret C ⟨rfl, rfl⟩ dX9_room_18

theorem yk_X9_room : yX9_room.cls = RX9 ∧ yX9_room.cls ≠ "java/lang/invoke/MethodHandle" ∧ yX9_room.cls ≠ "java/lang/invoke/VarHandle" ∧ (parseMethodDescriptor yX9_room.desc).map (fun d => d.parameters.length) = some 2 := by decide +kernel
abbrev rmX9_guard : Room := { frames := 3, cells := 0, slots := 0, locals := 66 }
set_option maxRecDepth 20000 in
theorem in_X9_guard_X9 : ∀ w ∈ u_ws RX9 TX9 35, w ∈ wsX9_guard := by decide +kernel
set_option maxHeartbeats 4000000 in
set_option maxRecDepth 100000 in
theorem c_X9_guard {E : Ex} {a0 : Nat → Nat} {h0_1 : Nat} {x1 : Int32} {x2 : Int32} {v0 : ModelV} {r : (Int32 × ModelV)} (hf : Mod_guard x1 x2 v0 = some r) : Ct E yX9_guard wsX9_guard rmX9_guard [.ref (a0 0), .int x1, .int x2] [wModel E a0 (rf2 (a0 1) h0_1) v0] (fun rv g => rv = some (.int r.1) ∧ g = [wModel E a0 (rf2 (a0 1) h0_1) r.2]) := by
  refine ct_of (own := RX9) (by decide +kernel) rfl rfl (Nat.le_of_ble_eq_true rfl) (fun K C => ?_)
  refine ww_sub C (lv' := [(0, .ref (a0 0)), (1, .int x1), (2, .int x2)]) [0, 1, 2] rfl ?_
  rw [Mod_guard] at hf
  refine ww_aload_n C dX9_guard_0 rfl 0 rfl ?_
  refine ww_iconst (v := 0) C dX9_guard_1 (by decide) ?_
  obtain ⟨v0_2, e_v0_2⟩ : ∃ y : ModelV, y = Model_set_thrown v0 0 := ⟨_, rfl⟩
  replace hf := ltE e_v0_2 hf
  refine ww_put C clOK9 in_X9_guard_X9 (w := wModel E a0 (rf2 (a0 1) h0_1) v0) (fs := fsModel a0 (rf2 (a0 1) h0_1) v0) (w' := wModel E a0 (rf2 (a0 1) h0_1) v0_2) (gs' := [wModel E a0 (rf2 (a0 1) h0_1) v0_2]) 0 0 5 rfl q_Model (by decide) (by decide +kernel) rfl rfl rfl rfl l_Model (by rw [e_v0_2]; exact p_Model_thrown) rfl dX9_guard_2 ?_
  refine ww_aload_n C dX9_guard_5 rfl 0 rfl ?_
  refine ww_iload_n C dX9_guard_6 rfl 1 rfl ?_
  obtain ⟨p7, hp7, hf⟩ := bdE hf
  refine ww_callV C (As := [.int x1]) (st := []) (gr := []) (c_X9_isGuard (E := E) (a0 := a0) (h0_1 := h0_1) hp7) gX9_guard_X9_isGuard rfl yk_X9_isGuard ⟨by decide, by decide⟩ ⟨by decide, by decide⟩ clOK9 0 0 rfl rfl [0] [] 1 rfl (by decide) rfl rfl (Nat.le_of_ble_eq_true rfl) dX9_guard_7 ?_
  rintro _ _ ⟨rfl, rfl⟩
  refine ww_perm (gs' := [wModel E a0 (rf2 (a0 1) h0_1) v0_2]) [0] 1 rfl (by decide) rfl ?_
  refine ww_if_neB (tgt := 19) C dX9_guard_10 (by decide) (fun c_1 => ?_) (fun c_1 => ?_)
  · replace hf := btE c_1 hf
    refine ww_aload_n C dX9_guard_19 rfl 0 rfl ?_
    obtain ⟨p20, hp20, hf⟩ := bdE hf
    refine ww_callV C (As := []) (st := []) (gr := []) (c_X9_takePhases (E := E) (a0 := a0) (h0_1 := h0_1) hp20) gX9_guard_X9_takePhases rfl yk_X9_takePhases ⟨by decide, by decide⟩ ⟨by decide, by decide⟩ clOK9 0 0 rfl rfl [0] [] 1 rfl (by decide) rfl rfl (Nat.le_of_ble_eq_true rfl) dX9_guard_20 ?_
    rintro _ _ ⟨rfl, rfl⟩
    refine ww_perm (gs' := [wModel E a0 (rf2 (a0 1) h0_1) p20]) [0] 1 rfl (by decide) rfl ?_
    refine ww_iload_n C dX9_guard_23 rfl 2 rfl ?_
    by_cases c_3 : Int32.toInt x2 < 0 ∨ 3 < Int32.toInt x2
    · replace hf := ifT c_3 hf
      refine ww_tabOut (tgt := 86) C dX9_guard_24 c_3 (by decide) ?_
      refine ww_aload_n C dX9_guard_86 rfl 0 rfl ?_
      refine ww_iconst (v := 1) C dX9_guard_87 (by decide) ?_
      obtain ⟨p88, hp88, hf⟩ := bdE hf
      refine ww_callV C (As := [.int 1]) (st := []) (gr := []) (c_X9_raise (E := E) (a0 := a0) (h0_0 := a0 1) (h0_1 := h0_1) hp88) gX9_guard_X9_raise rfl yk_X9_raise ⟨by decide, by decide⟩ ⟨by decide, by decide⟩ clOK9 0 0 rfl rfl [0] [] 1 rfl (by decide) rfl rfl (Nat.le_of_ble_eq_true rfl) dX9_guard_88 ?_
      rintro _ _ ⟨rfl, rfl⟩
      refine ww_perm (gs' := [wModel E a0 (rf2 (a0 1) h0_1) p88.2]) [0] 1 rfl (by decide) rfl ?_
      obtain rfl := Option.some.inj hf
      exact ww_iret C ⟨rfl, rfl⟩ dX9_guard_91
    · replace hf := ifF c_3 hf
      by_cases c_4 : x2 = 0
      · replace hf := ifT c_4 hf
        refine ww_tabIn (off := 32) (tgt := 56) C dX9_guard_24 (fun z => c_3 (Or.inl z)) (fun z => c_3 (Or.inr z)) (by rw [c_4]; decide) (by decide) ?_
        refine ww_aload_n C dX9_guard_56 rfl 0 rfl ?_
        refine ww_iload_n C dX9_guard_57 rfl 1 rfl ?_
        obtain ⟨p58, hp58, hf⟩ := bdE hf
        refine ww_callV C (As := [.int x1]) (st := []) (gr := []) (c_X9_period (E := E) (a0 := a0) (h0_1 := h0_1) hp58) gX9_guard_X9_period rfl yk_X9_period ⟨by decide, by decide⟩ ⟨by decide, by decide⟩ clOK9 0 0 rfl rfl [0] [] 1 rfl (by decide) rfl rfl (Nat.le_of_ble_eq_true rfl) dX9_guard_58 ?_
        rintro _ _ ⟨rfl, rfl⟩
        refine ww_perm (gs' := [wModel E a0 (rf2 (a0 1) h0_1) p20]) [0] 1 rfl (by decide) rfl ?_
        obtain rfl := Option.some.inj hf
        exact ww_iret C ⟨rfl, rfl⟩ dX9_guard_61
      · replace hf := ifF c_4 hf
        by_cases c_5 : x2 = 1
        · replace hf := ifT c_5 hf
          refine ww_tabIn (off := 38) (tgt := 62) C dX9_guard_24 (fun z => c_3 (Or.inl z)) (fun z => c_3 (Or.inr z)) (by rw [c_5]; decide) (by decide) ?_
          refine ww_aload_n C dX9_guard_62 rfl 0 rfl ?_
          refine ww_iload_n C dX9_guard_63 rfl 1 rfl ?_
          obtain ⟨p64, hp64, hf⟩ := bdE hf
          refine ww_callV C (As := [.int x1]) (st := []) (gr := []) (c_X9_phaseOf (E := E) (a0 := a0) (h0_1 := h0_1) hp64) gX9_guard_X9_phaseOf rfl yk_X9_phaseOf ⟨by decide, by decide⟩ ⟨by decide, by decide⟩ clOK9 0 0 rfl rfl [0] [] 1 rfl (by decide) rfl rfl (Nat.le_of_ble_eq_true rfl) dX9_guard_64 ?_
          rintro _ _ ⟨rfl, rfl⟩
          refine ww_perm (gs' := [wModel E a0 (rf2 (a0 1) h0_1) p20]) [0] 1 rfl (by decide) rfl ?_
          obtain rfl := Option.some.inj hf
          exact ww_iret C ⟨rfl, rfl⟩ dX9_guard_67
        · replace hf := ifF c_5 hf
          by_cases c_6 : x2 = 2
          · replace hf := ifT c_6 hf
            refine ww_tabIn (off := 44) (tgt := 68) C dX9_guard_24 (fun z => c_3 (Or.inl z)) (fun z => c_3 (Or.inr z)) (by rw [c_6]; decide) (by decide) ?_
            refine ww_aload_n C dX9_guard_68 rfl 0 rfl ?_
            refine ww_iload_n C dX9_guard_69 rfl 1 rfl ?_
            refine ww_aload_n C dX9_guard_70 rfl 0 rfl ?_
            refine ww_get C clOK9 in_X9_guard_X9 (w := wModel E a0 (rf2 (a0 1) h0_1) p20) (fs := fsModel a0 (rf2 (a0 1) h0_1) p20) (v := .ref (a0 1)) 0 0 0 rfl q_Model (by decide) (by decide +kernel) g_Model_now dX9_guard_71 ?_
            refine ww_iconst (v := 3) C dX9_guard_74 (by decide) ?_
            obtain ⟨g_2, hf⟩ := gdE hf
            refine ww_iald C (f := Model_now p20) (w := wModel E a0 (rf2 (a0 1) h0_1) p20) 0 1 rfl c_Model_now (inB_vp g_2) dX9_guard_75 ?_
            obtain ⟨p76, hp76, hf⟩ := bdE hf
            refine ww_callV C (As := [.int x1, .int ((Model_now p20) (Int32.toNatClampNeg 3))]) (st := []) (gr := []) (c_X9_place (E := E) (a0 := a0) (h0_1 := h0_1) hp76) gX9_guard_X9_place rfl yk_X9_place ⟨by decide, by decide⟩ ⟨by decide, by decide⟩ clOK9 0 0 rfl rfl [0] [] 1 rfl (by decide) rfl rfl (Nat.le_of_ble_eq_true rfl) dX9_guard_76 ?_
            rintro _ _ ⟨rfl, rfl⟩
            refine ww_perm (gs' := [wModel E a0 (rf2 (a0 1) h0_1) p20]) [0] 1 rfl (by decide) rfl ?_
            obtain rfl := Option.some.inj hf
            exact ww_iret C ⟨rfl, rfl⟩ dX9_guard_79
          · replace hf := ifF c_6 hf
            by_cases c_7 : x2 = 3
            · replace hf := ifT c_7 hf
              refine ww_tabIn (off := 56) (tgt := 80) C dX9_guard_24 (fun z => c_3 (Or.inl z)) (fun z => c_3 (Or.inr z)) (by rw [c_7]; decide) (by decide) ?_
              refine ww_aload_n C dX9_guard_80 rfl 0 rfl ?_
              refine ww_iload_n C dX9_guard_81 rfl 1 rfl ?_
              obtain ⟨p82, hp82, hf⟩ := bdE hf
              refine ww_callV C (As := [.int x1]) (st := []) (gr := []) (c_X9_different (E := E) (a0 := a0) (h0_1 := h0_1) hp82) gX9_guard_X9_different rfl yk_X9_different ⟨by decide, by decide⟩ ⟨by decide, by decide⟩ clOK9 0 0 rfl rfl [0] [] 1 rfl (by decide) rfl rfl (Nat.le_of_ble_eq_true rfl) dX9_guard_82 ?_
              rintro _ _ ⟨rfl, rfl⟩
              refine ww_perm (gs' := [wModel E a0 (rf2 (a0 1) h0_1) p20]) [0] 1 rfl (by decide) rfl ?_
              obtain rfl := Option.some.inj hf
              exact ww_iret C ⟨rfl, rfl⟩ dX9_guard_85
            · replace hf := ifF c_7 hf
              cases hf
  · replace hf := bfE c_1 hf
    refine ww_aload_n C dX9_guard_13 rfl 0 rfl ?_
    refine ww_iconst (v := 1) C dX9_guard_14 (by decide) ?_
    obtain ⟨p15, hp15, hf⟩ := bdE hf
    refine ww_callV C (As := [.int 1]) (st := []) (gr := []) (c_X9_raise (E := E) (a0 := a0) (h0_0 := a0 1) (h0_1 := h0_1) hp15) gX9_guard_X9_raise rfl yk_X9_raise ⟨by decide, by decide⟩ ⟨by decide, by decide⟩ clOK9 0 0 rfl rfl [0] [] 1 rfl (by decide) rfl rfl (Nat.le_of_ble_eq_true rfl) dX9_guard_15 ?_
    rintro _ _ ⟨rfl, rfl⟩
    refine ww_perm (gs' := [wModel E a0 (rf2 (a0 1) h0_1) p15.2]) [0] 1 rfl (by decide) rfl ?_
    obtain rfl := Option.some.inj hf
    exact ww_iret C ⟨rfl, rfl⟩ dX9_guard_18

theorem yk_X9_guard : yX9_guard.cls = RX9 ∧ yX9_guard.cls ≠ "java/lang/invoke/MethodHandle" ∧ yX9_guard.cls ≠ "java/lang/invoke/VarHandle" ∧ (parseMethodDescriptor yX9_guard.desc).map (fun d => d.parameters.length) = some 2 := by decide +kernel
abbrev rmX9_walk : Room := { frames := 2, cells := 0, slots := 0, locals := 43 }
set_option maxRecDepth 20000 in
theorem in_X9_walk_X9 : ∀ w ∈ u_ws RX9 TX9 35, w ∈ wsX9_walk := by decide +kernel
set_option maxHeartbeats 4000000 in
set_option maxRecDepth 100000 in
theorem c_X9_walk {E : Ex} {a0 : Nat → Nat} {h0_1 : Nat} {x1 : Int32} {x2 : Int32} {v0 : ModelV} {r : (Int32 × ModelV)} (hf : Mod_walk x1 x2 v0 = some r) : Ct E yX9_walk wsX9_walk rmX9_walk [.ref (a0 0), .int x1, .int x2] [wModel E a0 (rf2 (a0 1) h0_1) v0] (fun rv g => rv = some (.int r.1) ∧ g = [wModel E a0 (rf2 (a0 1) h0_1) r.2]) := by
  refine ct_of (own := RX9) (by decide +kernel) rfl rfl (Nat.le_of_ble_eq_true rfl) (fun K C => ?_)
  refine ww_sub C (lv' := [(0, .ref (a0 0)), (1, .int x1), (2, .int x2)]) [0, 1, 2] rfl ?_
  rw [Mod_walk] at hf
  refine ww_aload_n C dX9_walk_0 rfl 0 rfl ?_
  refine ww_iconst (v := 0) C dX9_walk_1 (by decide) ?_
  obtain ⟨v0_2, e_v0_2⟩ : ∃ y : ModelV, y = Model_set_thrown v0 0 := ⟨_, rfl⟩
  replace hf := ltE e_v0_2 hf
  refine ww_put C clOK9 in_X9_walk_X9 (w := wModel E a0 (rf2 (a0 1) h0_1) v0) (fs := fsModel a0 (rf2 (a0 1) h0_1) v0) (w' := wModel E a0 (rf2 (a0 1) h0_1) v0_2) (gs' := [wModel E a0 (rf2 (a0 1) h0_1) v0_2]) 0 0 5 rfl q_Model (by decide) (by decide +kernel) rfl rfl rfl rfl l_Model (by rw [e_v0_2]; exact p_Model_thrown) rfl dX9_walk_2 ?_
  refine ww_aload_n C dX9_walk_5 rfl 0 rfl ?_
  refine ww_iload_n C dX9_walk_6 rfl 1 rfl ?_
  obtain ⟨p7, hp7, hf⟩ := bdE hf
  refine ww_callV C (As := [.int x1]) (st := []) (gr := []) (c_X9_isGuard (E := E) (a0 := a0) (h0_1 := h0_1) hp7) gX9_walk_X9_isGuard rfl yk_X9_isGuard ⟨by decide, by decide⟩ ⟨by decide, by decide⟩ clOK9 0 0 rfl rfl [0] [] 1 rfl (by decide) rfl rfl (Nat.le_of_ble_eq_true rfl) dX9_walk_7 ?_
  rintro _ _ ⟨rfl, rfl⟩
  refine ww_perm (gs' := [wModel E a0 (rf2 (a0 1) h0_1) v0_2]) [0] 1 rfl (by decide) rfl ?_
  refine ww_if_neB (tgt := 19) C dX9_walk_10 (by decide) (fun c_1 => ?_) (fun c_1 => ?_)
  · replace hf := btE c_1 hf
    refine ww_iload_n C dX9_walk_19 rfl 2 rfl ?_
    refine ww_iconst (v := 0) C dX9_walk_20 (by decide) ?_
    refine ww_aload_n C dX9_walk_21 rfl 0 rfl ?_
    refine ww_iload_n C dX9_walk_22 rfl 1 rfl ?_
    obtain ⟨p23, hp23, hf⟩ := bdE hf
    refine ww_callV C (As := [.int x1]) (st := [.int 0, .int x2]) (gr := []) (c_X9_period (E := E) (a0 := a0) (h0_1 := h0_1) hp23) gX9_walk_X9_period rfl yk_X9_period ⟨by decide, by decide⟩ ⟨by decide, by decide⟩ clOK9 0 0 rfl rfl [0] [] 1 rfl (by decide) rfl rfl (Nat.le_of_ble_eq_true rfl) dX9_walk_23 ?_
    rintro _ _ ⟨rfl, rfl⟩
    refine ww_perm (gs' := [wModel E a0 (rf2 (a0 1) h0_1) v0_2]) [0] 1 rfl (by decide) rfl ?_
    refine ww_iconst (v := 1) C dX9_walk_26 (by decide) ?_
    refine ww_isub C dX9_walk_27 ?_
    obtain ⟨p28, hp28, hf⟩ := bdE hf
    refine ww_callS C (As := [.int x2, .int 0, .int (p23 - 1)]) (st := []) (gr := [wModel E a0 (rf2 (a0 1) h0_1) v0_2]) (c_X9_inRange (E := E)  hp28) gX9_walk_X9_inRange rfl ysk_X9_inRange ⟨by decide, by decide⟩ ⟨by decide, by decide⟩ [] [0] 1 rfl (by decide) rfl rfl (Nat.le_of_ble_eq_true rfl) dX9_walk_28 ?_
    rintro _ _ ⟨rfl, rfl⟩
    refine ww_perm (gs' := [wModel E a0 (rf2 (a0 1) h0_1) v0_2]) [0] 1 rfl (by decide) rfl ?_
    refine ww_if_eqB (tgt := 43) C dX9_walk_31 (by decide) (fun c_2 => ?_) (fun c_2 => ?_)
    · replace hf := bfE c_2 hf
      refine ww_iconst (v := (-1)) C dX9_walk_43 (by decide) ?_
      obtain rfl := Option.some.inj hf
      exact ww_iret C ⟨rfl, rfl⟩ dX9_walk_44
    · replace hf := btE c_2 hf
      refine ww_aload_n C dX9_walk_34 rfl 0 rfl ?_
      refine ww_iload_n C dX9_walk_35 rfl 1 rfl ?_
      refine ww_iload_n C dX9_walk_36 rfl 2 rfl ?_
      obtain ⟨p37, hp37, hf⟩ := bdE hf
      refine ww_callV C (As := [.int x1, .int x2]) (st := []) (gr := []) (c_X9_step (E := E) (a0 := a0) (h0_1 := h0_1) hp37) gX9_walk_X9_step rfl yk_X9_step ⟨by decide, by decide⟩ ⟨by decide, by decide⟩ clOK9 0 0 rfl rfl [0] [] 1 rfl (by decide) rfl rfl (Nat.le_of_ble_eq_true rfl) dX9_walk_37 ?_
      rintro _ _ ⟨rfl, rfl⟩
      refine ww_perm (gs' := [wModel E a0 (rf2 (a0 1) h0_1) v0_2]) [0] 1 rfl (by decide) rfl ?_
      refine ww_goto (tgt := 44) C dX9_walk_40 (by decide) ?_
      obtain rfl := Option.some.inj hf
      exact ww_iret C ⟨rfl, rfl⟩ dX9_walk_44
  · replace hf := bfE c_1 hf
    refine ww_aload_n C dX9_walk_13 rfl 0 rfl ?_
    refine ww_iconst (v := 1) C dX9_walk_14 (by decide) ?_
    obtain ⟨p15, hp15, hf⟩ := bdE hf
    refine ww_callV C (As := [.int 1]) (st := []) (gr := []) (c_X9_raise (E := E) (a0 := a0) (h0_0 := a0 1) (h0_1 := h0_1) hp15) gX9_walk_X9_raise rfl yk_X9_raise ⟨by decide, by decide⟩ ⟨by decide, by decide⟩ clOK9 0 0 rfl rfl [0] [] 1 rfl (by decide) rfl rfl (Nat.le_of_ble_eq_true rfl) dX9_walk_15 ?_
    rintro _ _ ⟨rfl, rfl⟩
    refine ww_perm (gs' := [wModel E a0 (rf2 (a0 1) h0_1) p15.2]) [0] 1 rfl (by decide) rfl ?_
    obtain rfl := Option.some.inj hf
    exact ww_iret C ⟨rfl, rfl⟩ dX9_walk_18

theorem yk_X9_walk : yX9_walk.cls = RX9 ∧ yX9_walk.cls ≠ "java/lang/invoke/MethodHandle" ∧ yX9_walk.cls ≠ "java/lang/invoke/VarHandle" ∧ (parseMethodDescriptor yX9_walk.desc).map (fun d => d.parameters.length) = some 2 := by decide +kernel
abbrev rmX9_roomOf : Room := { frames := 3, cells := 0, slots := 0, locals := 65 }
set_option maxRecDepth 20000 in
theorem in_X9_roomOf_X9 : ∀ w ∈ u_ws RX9 TX9 35, w ∈ wsX9_roomOf := by decide +kernel
set_option maxHeartbeats 4000000 in
set_option maxRecDepth 100000 in
theorem w_X9_roomOf_22 {E : Ex} {K : Kx} (C : Cx E K cX9_roomOf 3 (some .int) RX9 wsX9_roomOf rmX9_roomOf) {a0 : Nat → Nat} {h0_1 : Nat} {x1 : Int32} {x2 : Int32}  {s0 : Int32} {v0 : ModelV} {r : (Int32 × ModelV)} (hf : Mod_roomOf_22 x1 x2 s0 v0 = some r) : WW E K 0 0 (QQ E K (fun rv g => rv = some (.int r.1) ∧ g = [wModel E a0 (rf2 (a0 1) h0_1) r.2]) 0 0) 22 [(0, .ref (a0 0)), (1, .int x1), (2, .int x2)] [.int s0, .ref (a0 0)] [wModel E a0 (rf2 (a0 1) h0_1) v0] := by
  rw [Mod_roomOf_22] at hf
  obtain ⟨v0_22, e_v0_22⟩ : ∃ y : ModelV, y = Model_set_thrown v0 s0 := ⟨_, rfl⟩
  replace hf := ltE e_v0_22 hf
  refine ww_put C clOK9 in_X9_roomOf_X9 (w := wModel E a0 (rf2 (a0 1) h0_1) v0) (fs := fsModel a0 (rf2 (a0 1) h0_1) v0) (w' := wModel E a0 (rf2 (a0 1) h0_1) v0_22) (gs' := [wModel E a0 (rf2 (a0 1) h0_1) v0_22]) 0 0 5 rfl q_Model (by decide) (by decide +kernel) rfl rfl rfl rfl l_Model (by rw [e_v0_22]; exact p_Model_thrown) rfl dX9_roomOf_22 ?_
  refine ww_aload_n C dX9_roomOf_25 rfl 0 rfl ?_
  refine ww_get C clOK9 in_X9_roomOf_X9 (w := wModel E a0 (rf2 (a0 1) h0_1) v0_22) (fs := fsModel a0 (rf2 (a0 1) h0_1) v0_22) (v := .int (Model_thrown v0_22)) 0 0 5 rfl q_Model (by decide) (by decide +kernel) g_Model_thrown dX9_roomOf_26 ?_
  refine ww_if_eq (tgt := 34) C dX9_roomOf_29 (by decide) (fun c_3 => ?_) (fun c_3 => ?_)
  · replace hf := ifT c_3 hf
    refine ww_aload_n C dX9_roomOf_34 rfl 0 rfl ?_
    obtain ⟨p35, hp35, hf⟩ := bdE hf
    refine ww_callV C (As := []) (st := []) (gr := []) (c_X9_takePhases (E := E) (a0 := a0) (h0_1 := h0_1) hp35) gX9_roomOf_X9_takePhases rfl yk_X9_takePhases ⟨by decide, by decide⟩ ⟨by decide, by decide⟩ clOK9 0 0 rfl rfl [0] [] 1 rfl (by decide) rfl rfl (Nat.le_of_ble_eq_true rfl) dX9_roomOf_35 ?_
    rintro _ _ ⟨rfl, rfl⟩
    refine ww_perm (gs' := [wModel E a0 (rf2 (a0 1) h0_1) p35]) [0] 1 rfl (by decide) rfl ?_
    refine ww_aload_n C dX9_roomOf_38 rfl 0 rfl ?_
    refine ww_iload_n C dX9_roomOf_39 rfl 1 rfl ?_
    refine ww_iload_n C dX9_roomOf_40 rfl 2 rfl ?_
    obtain ⟨p41, hp41, hf⟩ := bdE hf
    refine ww_callV C (As := [.int x1, .int x2]) (st := []) (gr := []) (c_X9_place (E := E) (a0 := a0) (h0_1 := h0_1) hp41) gX9_roomOf_X9_place rfl yk_X9_place ⟨by decide, by decide⟩ ⟨by decide, by decide⟩ clOK9 0 0 rfl rfl [0] [] 1 rfl (by decide) rfl rfl (Nat.le_of_ble_eq_true rfl) dX9_roomOf_41 ?_
    rintro _ _ ⟨rfl, rfl⟩
    refine ww_perm (gs' := [wModel E a0 (rf2 (a0 1) h0_1) p35]) [0] 1 rfl (by decide) rfl ?_
    obtain rfl := Option.some.inj hf
    exact ww_iret C ⟨rfl, rfl⟩ dX9_roomOf_44
  · replace hf := ifF c_3 hf
    refine ww_iconst (v := 0) C dX9_roomOf_32 (by decide) ?_
    obtain rfl := Option.some.inj hf
    exact ww_iret C ⟨rfl, rfl⟩ dX9_roomOf_33

set_option maxHeartbeats 4000000 in
set_option maxRecDepth 100000 in
theorem c_X9_roomOf {E : Ex} {a0 : Nat → Nat} {h0_1 : Nat} {x1 : Int32} {x2 : Int32} {v0 : ModelV} {r : (Int32 × ModelV)} (hf : Mod_roomOf x1 x2 v0 = some r) : Ct E yX9_roomOf wsX9_roomOf rmX9_roomOf [.ref (a0 0), .int x1, .int x2] [wModel E a0 (rf2 (a0 1) h0_1) v0] (fun rv g => rv = some (.int r.1) ∧ g = [wModel E a0 (rf2 (a0 1) h0_1) r.2]) := by
  refine ct_of (own := RX9) (by decide +kernel) rfl rfl (Nat.le_of_ble_eq_true rfl) (fun K C => ?_)
  refine ww_sub C (lv' := [(0, .ref (a0 0)), (1, .int x1), (2, .int x2)]) [0, 1, 2] rfl ?_
  rw [Mod_roomOf] at hf
  refine ww_aload_n C dX9_roomOf_0 rfl 0 rfl ?_
  refine ww_aload_n C dX9_roomOf_1 rfl 0 rfl ?_
  refine ww_iload_n C dX9_roomOf_2 rfl 1 rfl ?_
  obtain ⟨p3, hp3, hf⟩ := bdE hf
  refine ww_callV C (As := [.int x1]) (st := [.ref (a0 0)]) (gr := []) (c_X9_isGuard (E := E) (a0 := a0) (h0_1 := h0_1) hp3) gX9_roomOf_X9_isGuard rfl yk_X9_isGuard ⟨by decide, by decide⟩ ⟨by decide, by decide⟩ clOK9 0 0 rfl rfl [0] [] 1 rfl (by decide) rfl rfl (Nat.le_of_ble_eq_true rfl) dX9_roomOf_3 ?_
  rintro _ _ ⟨rfl, rfl⟩
  refine ww_perm (gs' := [wModel E a0 (rf2 (a0 1) h0_1) v0]) [0] 1 rfl (by decide) rfl ?_
  refine ww_if_neB (tgt := 13) C dX9_roomOf_6 (by decide) (fun c_1 => ?_) (fun c_1 => ?_)
  · replace hf := btE c_1 hf
    refine ww_iload_n C dX9_roomOf_13 rfl 2 rfl ?_
    refine ww_if_lt (tgt := 21) C dX9_roomOf_14 (by decide) (fun c_2 => ?_) (fun c_2 => ?_)
    · replace hf := ifT c_2 hf
      refine ww_iconst (v := 2) C dX9_roomOf_21 (by decide) ?_
      refine ww_sub C (lv' := [(0, .ref (a0 0)), (1, .int x1), (2, .int x2)]) [0, 1, 2] rfl ?_
      exact w_X9_roomOf_22 C hf
    · replace hf := ifF c_2 hf
      refine ww_iconst (v := 0) C dX9_roomOf_17 (by decide) ?_
      refine ww_goto (tgt := 22) C dX9_roomOf_18 (by decide) ?_
      refine ww_sub C (lv' := [(0, .ref (a0 0)), (1, .int x1), (2, .int x2)]) [0, 1, 2] rfl ?_
      exact w_X9_roomOf_22 C hf
  · replace hf := bfE c_1 hf
    refine ww_iconst (v := 1) C dX9_roomOf_9 (by decide) ?_
    refine ww_goto (tgt := 22) C dX9_roomOf_10 (by decide) ?_
    refine ww_sub C (lv' := [(0, .ref (a0 0)), (1, .int x1), (2, .int x2)]) [0, 1, 2] rfl ?_
    exact w_X9_roomOf_22 C hf

theorem yk_X9_roomOf : yX9_roomOf.cls = RX9 ∧ yX9_roomOf.cls ≠ "java/lang/invoke/MethodHandle" ∧ yX9_roomOf.cls ≠ "java/lang/invoke/VarHandle" ∧ (parseMethodDescriptor yX9_roomOf.desc).map (fun d => d.parameters.length) = some 2 := by decide +kernel
abbrev rmX9_guardsIn : Room := { frames := 4, cells := 0, slots := 0, locals := 89 }
set_option maxRecDepth 20000 in
theorem in_X9_guardsIn_X9 : ∀ w ∈ u_ws RX9 TX9 35, w ∈ wsX9_guardsIn := by decide +kernel
set_option maxHeartbeats 4000000 in
set_option maxRecDepth 100000 in
theorem w_X9_guardsIn_22 {E : Ex} {K : Kx} (C : Cx E K cX9_guardsIn 3 (some .int) RX9 wsX9_guardsIn rmX9_guardsIn) {a0 : Nat → Nat} {h0_1 : Nat} {x1 : Int32} {x2 : Int32}  {s0 : Int32} {v0 : ModelV} {r : (Int32 × ModelV)} (hf : Mod_guardsIn_22 x1 x2 s0 v0 = some r) : WW E K 0 0 (QQ E K (fun rv g => rv = some (.int r.1) ∧ g = [wModel E a0 (rf2 (a0 1) h0_1) r.2]) 0 0) 22 [(0, .ref (a0 0)), (1, .int x1), (2, .int x2)] [.int s0, .ref (a0 0)] [wModel E a0 (rf2 (a0 1) h0_1) v0] := by
  rw [Mod_guardsIn_22] at hf
  obtain ⟨v0_22, e_v0_22⟩ : ∃ y : ModelV, y = Model_set_thrown v0 s0 := ⟨_, rfl⟩
  replace hf := ltE e_v0_22 hf
  refine ww_put C clOK9 in_X9_guardsIn_X9 (w := wModel E a0 (rf2 (a0 1) h0_1) v0) (fs := fsModel a0 (rf2 (a0 1) h0_1) v0) (w' := wModel E a0 (rf2 (a0 1) h0_1) v0_22) (gs' := [wModel E a0 (rf2 (a0 1) h0_1) v0_22]) 0 0 5 rfl q_Model (by decide) (by decide +kernel) rfl rfl rfl rfl l_Model (by rw [e_v0_22]; exact p_Model_thrown) rfl dX9_guardsIn_22 ?_
  refine ww_aload_n C dX9_guardsIn_25 rfl 0 rfl ?_
  refine ww_get C clOK9 in_X9_guardsIn_X9 (w := wModel E a0 (rf2 (a0 1) h0_1) v0_22) (fs := fsModel a0 (rf2 (a0 1) h0_1) v0_22) (v := .int (Model_thrown v0_22)) 0 0 5 rfl q_Model (by decide) (by decide +kernel) g_Model_thrown dX9_guardsIn_26 ?_
  refine ww_if_eq (tgt := 34) C dX9_guardsIn_29 (by decide) (fun c_3 => ?_) (fun c_3 => ?_)
  · replace hf := ifT c_3 hf
    refine ww_aload_n C dX9_guardsIn_34 rfl 0 rfl ?_
    obtain ⟨p35, hp35, hf⟩ := bdE hf
    refine ww_callV C (As := []) (st := []) (gr := []) (c_X9_takePhases (E := E) (a0 := a0) (h0_1 := h0_1) hp35) gX9_guardsIn_X9_takePhases rfl yk_X9_takePhases ⟨by decide, by decide⟩ ⟨by decide, by decide⟩ clOK9 0 0 rfl rfl [0] [] 1 rfl (by decide) rfl rfl (Nat.le_of_ble_eq_true rfl) dX9_guardsIn_35 ?_
    rintro _ _ ⟨rfl, rfl⟩
    refine ww_perm (gs' := [wModel E a0 (rf2 (a0 1) h0_1) p35]) [0] 1 rfl (by decide) rfl ?_
    refine ww_aload_n C dX9_guardsIn_38 rfl 0 rfl ?_
    refine ww_iload_n C dX9_guardsIn_39 rfl 1 rfl ?_
    refine ww_iload_n C dX9_guardsIn_40 rfl 2 rfl ?_
    obtain ⟨p41, hp41, hf⟩ := bdE hf
    refine ww_callV C (As := [.int x1, .int x2]) (st := []) (gr := []) (c_X9_guardsAt (E := E) (a0 := a0) (h0_1 := h0_1) hp41) gX9_guardsIn_X9_guardsAt rfl yk_X9_guardsAt ⟨by decide, by decide⟩ ⟨by decide, by decide⟩ clOK9 0 0 rfl rfl [0] [] 1 rfl (by decide) rfl rfl (Nat.le_of_ble_eq_true rfl) dX9_guardsIn_41 ?_
    rintro _ _ ⟨rfl, rfl⟩
    refine ww_perm (gs' := [wModel E a0 (rf2 (a0 1) h0_1) p35]) [0] 1 rfl (by decide) rfl ?_
    obtain rfl := Option.some.inj hf
    exact ww_iret C ⟨rfl, rfl⟩ dX9_guardsIn_44
  · replace hf := ifF c_3 hf
    refine ww_iconst (v := 0) C dX9_guardsIn_32 (by decide) ?_
    obtain rfl := Option.some.inj hf
    exact ww_iret C ⟨rfl, rfl⟩ dX9_guardsIn_33

set_option maxHeartbeats 4000000 in
set_option maxRecDepth 100000 in
theorem c_X9_guardsIn {E : Ex} {a0 : Nat → Nat} {h0_1 : Nat} {x1 : Int32} {x2 : Int32} {v0 : ModelV} {r : (Int32 × ModelV)} (hf : Mod_guardsIn x1 x2 v0 = some r) : Ct E yX9_guardsIn wsX9_guardsIn rmX9_guardsIn [.ref (a0 0), .int x1, .int x2] [wModel E a0 (rf2 (a0 1) h0_1) v0] (fun rv g => rv = some (.int r.1) ∧ g = [wModel E a0 (rf2 (a0 1) h0_1) r.2]) := by
  refine ct_of (own := RX9) (by decide +kernel) rfl rfl (Nat.le_of_ble_eq_true rfl) (fun K C => ?_)
  refine ww_sub C (lv' := [(0, .ref (a0 0)), (1, .int x1), (2, .int x2)]) [0, 1, 2] rfl ?_
  rw [Mod_guardsIn] at hf
  refine ww_aload_n C dX9_guardsIn_0 rfl 0 rfl ?_
  refine ww_aload_n C dX9_guardsIn_1 rfl 0 rfl ?_
  refine ww_iload_n C dX9_guardsIn_2 rfl 1 rfl ?_
  obtain ⟨p3, hp3, hf⟩ := bdE hf
  refine ww_callV C (As := [.int x1]) (st := [.ref (a0 0)]) (gr := []) (c_X9_isRoom (E := E) (a0 := a0) (h0_1 := h0_1) hp3) gX9_guardsIn_X9_isRoom rfl yk_X9_isRoom ⟨by decide, by decide⟩ ⟨by decide, by decide⟩ clOK9 0 0 rfl rfl [0] [] 1 rfl (by decide) rfl rfl (Nat.le_of_ble_eq_true rfl) dX9_guardsIn_3 ?_
  rintro _ _ ⟨rfl, rfl⟩
  refine ww_perm (gs' := [wModel E a0 (rf2 (a0 1) h0_1) v0]) [0] 1 rfl (by decide) rfl ?_
  refine ww_if_neB (tgt := 13) C dX9_guardsIn_6 (by decide) (fun c_1 => ?_) (fun c_1 => ?_)
  · replace hf := btE c_1 hf
    refine ww_iload_n C dX9_guardsIn_13 rfl 2 rfl ?_
    refine ww_if_lt (tgt := 21) C dX9_guardsIn_14 (by decide) (fun c_2 => ?_) (fun c_2 => ?_)
    · replace hf := ifT c_2 hf
      refine ww_iconst (v := 2) C dX9_guardsIn_21 (by decide) ?_
      refine ww_sub C (lv' := [(0, .ref (a0 0)), (1, .int x1), (2, .int x2)]) [0, 1, 2] rfl ?_
      exact w_X9_guardsIn_22 C hf
    · replace hf := ifF c_2 hf
      refine ww_iconst (v := 0) C dX9_guardsIn_17 (by decide) ?_
      refine ww_goto (tgt := 22) C dX9_guardsIn_18 (by decide) ?_
      refine ww_sub C (lv' := [(0, .ref (a0 0)), (1, .int x1), (2, .int x2)]) [0, 1, 2] rfl ?_
      exact w_X9_guardsIn_22 C hf
  · replace hf := bfE c_1 hf
    refine ww_iconst (v := 1) C dX9_guardsIn_9 (by decide) ?_
    refine ww_goto (tgt := 22) C dX9_guardsIn_10 (by decide) ?_
    refine ww_sub C (lv' := [(0, .ref (a0 0)), (1, .int x1), (2, .int x2)]) [0, 1, 2] rfl ?_
    exact w_X9_guardsIn_22 C hf

theorem yk_X9_guardsIn : yX9_guardsIn.cls = RX9 ∧ yX9_guardsIn.cls ≠ "java/lang/invoke/MethodHandle" ∧ yX9_guardsIn.cls ≠ "java/lang/invoke/VarHandle" ∧ (parseMethodDescriptor yX9_guardsIn.desc).map (fun d => d.parameters.length) = some 2 := by decide +kernel
abbrev rmX9_nextSeen : Room := { frames := 4, cells := 0, slots := 0, locals := 89 }
set_option maxRecDepth 20000 in
theorem in_X9_nextSeen_X9 : ∀ w ∈ u_ws RX9 TX9 35, w ∈ wsX9_nextSeen := by decide +kernel
set_option maxHeartbeats 4000000 in
set_option maxRecDepth 100000 in
theorem w_X9_nextSeen_49 {E : Ex} {K : Kx} (C : Cx E K cX9_nextSeen 5 (some .int) RX9 wsX9_nextSeen rmX9_nextSeen) {a0 : Nat → Nat} {h0_1 : Nat} {x1 : Int32} {x2 : Int32} {x3 : Int32} {r : (Int32 × ModelV)} : ∀ (n : Nat) (x4 : Int32) (v0 : ModelV), Mod_nextSeen_49 x1 x2 x3 n x4 v0 = some r → WW E K 0 0 (QQ E K (fun rv g => rv = some (.int r.1) ∧ g = [wModel E a0 (rf2 (a0 1) h0_1) r.2]) 0 0) 49 [(0, .ref (a0 0)), (1, .int x1), (2, .int x2), (3, .int x3), (4, .int x4)] [] [wModel E a0 (rf2 (a0 1) h0_1) v0] := by
  intro n
  induction n with
  | zero =>
    intro x4 v0 hf
    simp [Mod_nextSeen_49] at hf
  | succ n ih =>
    intro x4 v0 hf
    rw [Mod_nextSeen_49] at hf
    refine ww_iload C dX9_nextSeen_49 4 rfl ?_
    refine ww_iload_n C dX9_nextSeen_51 rfl 2 rfl ?_
    refine ww_iload_n C dX9_nextSeen_52 rfl 3 rfl ?_
    refine ww_iadd C dX9_nextSeen_53 ?_
    refine ww_icmp_ge (tgt := 76) C dX9_nextSeen_54 (by decide) (fun c_4 => ?_) (fun c_4 => ?_)
    · replace hf := ifT c_4 hf
      refine ww_iconst (v := (-1)) C dX9_nextSeen_76 (by decide) ?_
      obtain rfl := Option.some.inj hf
      exact ww_iret C ⟨rfl, rfl⟩ dX9_nextSeen_77
    · replace hf := ifF c_4 hf
      refine ww_aload_n C dX9_nextSeen_57 rfl 0 rfl ?_
      refine ww_iload_n C dX9_nextSeen_58 rfl 1 rfl ?_
      refine ww_iload C dX9_nextSeen_59 4 rfl ?_
      obtain ⟨p61, hp61, hf⟩ := bdE hf
      refine ww_callV C (As := [.int x1, .int x4]) (st := []) (gr := []) (c_X9_guardsAt (E := E) (a0 := a0) (h0_1 := h0_1) hp61) gX9_nextSeen_X9_guardsAt rfl yk_X9_guardsAt ⟨by decide, by decide⟩ ⟨by decide, by decide⟩ clOK9 0 0 rfl rfl [0] [] 1 rfl (by decide) rfl rfl (Nat.le_of_ble_eq_true rfl) dX9_nextSeen_61 ?_
      rintro _ _ ⟨rfl, rfl⟩
      refine ww_perm (gs' := [wModel E a0 (rf2 (a0 1) h0_1) v0]) [0] 1 rfl (by decide) rfl ?_
      refine ww_if_eq (tgt := 70) C dX9_nextSeen_64 (by decide) (fun c_5 => ?_) (fun c_5 => ?_)
      · replace hf := ifT c_5 hf
        obtain ⟨x4_70, e_x4_70⟩ : ∃ y : Int32, y = x4 + 1 := ⟨_, rfl⟩
        replace hf := ltE e_x4_70 hf
        refine ww_iinc (v := x4_70) (lv' := [(4, .int x4_70), (0, .ref (a0 0)), (1, .int x1), (2, .int x2), (3, .int x3)]) C dX9_nextSeen_70 4 rfl (by rw [e_x4_70]; rfl) (by decide) rfl ?_
        refine ww_goto (tgt := 49) C dX9_nextSeen_73 (by decide) ?_
        refine ww_sub C (lv' := [(0, .ref (a0 0)), (1, .int x1), (2, .int x2), (3, .int x3), (4, .int x4_70)]) [1, 2, 3, 4, 0] rfl ?_
        exact ih _ _ hf
      · replace hf := ifF c_5 hf
        refine ww_iload C dX9_nextSeen_67 4 rfl ?_
        obtain rfl := Option.some.inj hf
        exact ww_iret C ⟨rfl, rfl⟩ dX9_nextSeen_69

set_option maxHeartbeats 4000000 in
set_option maxRecDepth 100000 in
theorem w_X9_nextSeen_25 {E : Ex} {K : Kx} (C : Cx E K cX9_nextSeen 5 (some .int) RX9 wsX9_nextSeen rmX9_nextSeen) {a0 : Nat → Nat} {h0_1 : Nat} {x1 : Int32} {x2 : Int32}  {s0 : Int32} {v0 : ModelV} {r : (Int32 × ModelV)} (hf : Mod_nextSeen_25 x1 x2 s0 v0 = some r) : WW E K 0 0 (QQ E K (fun rv g => rv = some (.int r.1) ∧ g = [wModel E a0 (rf2 (a0 1) h0_1) r.2]) 0 0) 25 [(0, .ref (a0 0)), (1, .int x1), (2, .int x2)] [.int s0, .ref (a0 0)] [wModel E a0 (rf2 (a0 1) h0_1) v0] := by
  rw [Mod_nextSeen_25] at hf
  obtain ⟨v0_25, e_v0_25⟩ : ∃ y : ModelV, y = Model_set_thrown v0 s0 := ⟨_, rfl⟩
  replace hf := ltE e_v0_25 hf
  refine ww_put C clOK9 in_X9_nextSeen_X9 (w := wModel E a0 (rf2 (a0 1) h0_1) v0) (fs := fsModel a0 (rf2 (a0 1) h0_1) v0) (w' := wModel E a0 (rf2 (a0 1) h0_1) v0_25) (gs' := [wModel E a0 (rf2 (a0 1) h0_1) v0_25]) 0 0 5 rfl q_Model (by decide) (by decide +kernel) rfl rfl rfl rfl l_Model (by rw [e_v0_25]; exact p_Model_thrown) rfl dX9_nextSeen_25 ?_
  refine ww_aload_n C dX9_nextSeen_28 rfl 0 rfl ?_
  refine ww_get C clOK9 in_X9_nextSeen_X9 (w := wModel E a0 (rf2 (a0 1) h0_1) v0_25) (fs := fsModel a0 (rf2 (a0 1) h0_1) v0_25) (v := .int (Model_thrown v0_25)) 0 0 5 rfl q_Model (by decide) (by decide +kernel) g_Model_thrown dX9_nextSeen_29 ?_
  refine ww_if_eq (tgt := 37) C dX9_nextSeen_32 (by decide) (fun c_3 => ?_) (fun c_3 => ?_)
  · replace hf := ifT c_3 hf
    refine ww_aload_n C dX9_nextSeen_37 rfl 0 rfl ?_
    obtain ⟨p38, hp38, hf⟩ := bdE hf
    refine ww_callV C (As := []) (st := []) (gr := []) (c_X9_takePhases (E := E) (a0 := a0) (h0_1 := h0_1) hp38) gX9_nextSeen_X9_takePhases rfl yk_X9_takePhases ⟨by decide, by decide⟩ ⟨by decide, by decide⟩ clOK9 0 0 rfl rfl [0] [] 1 rfl (by decide) rfl rfl (Nat.le_of_ble_eq_true rfl) dX9_nextSeen_38 ?_
    rintro _ _ ⟨rfl, rfl⟩
    refine ww_perm (gs' := [wModel E a0 (rf2 (a0 1) h0_1) p38]) [0] 1 rfl (by decide) rfl ?_
    refine ww_aload_n C dX9_nextSeen_41 rfl 0 rfl ?_
    obtain ⟨p42, hp42, hf⟩ := bdE hf
    refine ww_callV C (As := []) (st := []) (gr := []) (c_X9_cycle (E := E) (a0 := a0) (h0_1 := h0_1) hp42) gX9_nextSeen_X9_cycle rfl yk_X9_cycle ⟨by decide, by decide⟩ ⟨by decide, by decide⟩ clOK9 0 0 rfl rfl [0] [] 1 rfl (by decide) rfl rfl (Nat.le_of_ble_eq_true rfl) dX9_nextSeen_42 ?_
    rintro _ _ ⟨rfl, rfl⟩
    refine ww_perm (gs' := [wModel E a0 (rf2 (a0 1) h0_1) p38]) [0] 1 rfl (by decide) rfl ?_
    refine ww_istore_n (lv' := [(3, .int p42), (0, .ref (a0 0)), (1, .int x1), (2, .int x2)]) C dX9_nextSeen_45 rfl (by decide) rfl ?_
    refine ww_iload_n C dX9_nextSeen_46 rfl 3 rfl ?_
    refine ww_istore (lv' := [(4, .int x2), (3, .int p42), (0, .ref (a0 0)), (1, .int x1), (2, .int x2)]) C dX9_nextSeen_47 (by decide) rfl ?_
    refine ww_sub C (lv' := [(0, .ref (a0 0)), (1, .int x1), (2, .int x2), (3, .int p42), (4, .int x2)]) [2, 3, 4, 1, 0] rfl ?_
    exact w_X9_nextSeen_49 C FU _ _ hf
  · replace hf := ifF c_3 hf
    refine ww_iconst (v := 0) C dX9_nextSeen_35 (by decide) ?_
    obtain rfl := Option.some.inj hf
    exact ww_iret C ⟨rfl, rfl⟩ dX9_nextSeen_36

set_option maxHeartbeats 4000000 in
set_option maxRecDepth 100000 in
theorem c_X9_nextSeen {E : Ex} {a0 : Nat → Nat} {h0_1 : Nat} {x1 : Int32} {x2 : Int32} {v0 : ModelV} {r : (Int32 × ModelV)} (hf : Mod_nextSeen x1 x2 v0 = some r) : Ct E yX9_nextSeen wsX9_nextSeen rmX9_nextSeen [.ref (a0 0), .int x1, .int x2] [wModel E a0 (rf2 (a0 1) h0_1) v0] (fun rv g => rv = some (.int r.1) ∧ g = [wModel E a0 (rf2 (a0 1) h0_1) r.2]) := by
  refine ct_of (own := RX9) (by decide +kernel) rfl rfl (Nat.le_of_ble_eq_true rfl) (fun K C => ?_)
  refine ww_sub C (lv' := [(0, .ref (a0 0)), (1, .int x1), (2, .int x2)]) [0, 1, 2] rfl ?_
  rw [Mod_nextSeen] at hf
  refine ww_aload_n C dX9_nextSeen_0 rfl 0 rfl ?_
  refine ww_aload_n C dX9_nextSeen_1 rfl 0 rfl ?_
  refine ww_iload_n C dX9_nextSeen_2 rfl 1 rfl ?_
  obtain ⟨p3, hp3, hf⟩ := bdE hf
  refine ww_callV C (As := [.int x1]) (st := [.ref (a0 0)]) (gr := []) (c_X9_isRoom (E := E) (a0 := a0) (h0_1 := h0_1) hp3) gX9_nextSeen_X9_isRoom rfl yk_X9_isRoom ⟨by decide, by decide⟩ ⟨by decide, by decide⟩ clOK9 0 0 rfl rfl [0] [] 1 rfl (by decide) rfl rfl (Nat.le_of_ble_eq_true rfl) dX9_nextSeen_3 ?_
  rintro _ _ ⟨rfl, rfl⟩
  refine ww_perm (gs' := [wModel E a0 (rf2 (a0 1) h0_1) v0]) [0] 1 rfl (by decide) rfl ?_
  refine ww_if_neB (tgt := 13) C dX9_nextSeen_6 (by decide) (fun c_1 => ?_) (fun c_1 => ?_)
  · replace hf := btE c_1 hf
    refine ww_iload_n C dX9_nextSeen_13 rfl 2 rfl ?_
    obtain ⟨p14, hp14, hf⟩ := bdE hf
    refine ww_callS C (As := [.int x2]) (st := [.ref (a0 0)]) (gr := [wModel E a0 (rf2 (a0 1) h0_1) v0]) (c_X9_isMinute (E := E)  hp14) gX9_nextSeen_X9_isMinute rfl ysk_X9_isMinute ⟨by decide, by decide⟩ ⟨by decide, by decide⟩ [] [0] 1 rfl (by decide) rfl rfl (Nat.le_of_ble_eq_true rfl) dX9_nextSeen_14 ?_
    rintro _ _ ⟨rfl, rfl⟩
    refine ww_perm (gs' := [wModel E a0 (rf2 (a0 1) h0_1) v0]) [0] 1 rfl (by decide) rfl ?_
    refine ww_if_eqB (tgt := 24) C dX9_nextSeen_17 (by decide) (fun c_2 => ?_) (fun c_2 => ?_)
    · replace hf := bfE c_2 hf
      refine ww_iconst (v := 2) C dX9_nextSeen_24 (by decide) ?_
      refine ww_sub C (lv' := [(0, .ref (a0 0)), (1, .int x1), (2, .int x2)]) [0, 1, 2] rfl ?_
      exact w_X9_nextSeen_25 C hf
    · replace hf := btE c_2 hf
      refine ww_iconst (v := 0) C dX9_nextSeen_20 (by decide) ?_
      refine ww_goto (tgt := 25) C dX9_nextSeen_21 (by decide) ?_
      refine ww_sub C (lv' := [(0, .ref (a0 0)), (1, .int x1), (2, .int x2)]) [0, 1, 2] rfl ?_
      exact w_X9_nextSeen_25 C hf
  · replace hf := bfE c_1 hf
    refine ww_iconst (v := 1) C dX9_nextSeen_9 (by decide) ?_
    refine ww_goto (tgt := 25) C dX9_nextSeen_10 (by decide) ?_
    refine ww_sub C (lv' := [(0, .ref (a0 0)), (1, .int x1), (2, .int x2)]) [0, 1, 2] rfl ?_
    exact w_X9_nextSeen_25 C hf

theorem yk_X9_nextSeen : yX9_nextSeen.cls = RX9 ∧ yX9_nextSeen.cls ≠ "java/lang/invoke/MethodHandle" ∧ yX9_nextSeen.cls ≠ "java/lang/invoke/VarHandle" ∧ (parseMethodDescriptor yX9_nextSeen.desc).map (fun d => d.parameters.length) = some 2 := by decide +kernel
abbrev rmX9_gapFrom : Room := { frames := 6, cells := 0, slots := 0, locals := 130 }
set_option maxRecDepth 20000 in
theorem in_X9_gapFrom_X9 : ∀ w ∈ u_ws RX9 TX9 35, w ∈ wsX9_gapFrom := by decide +kernel
set_option maxHeartbeats 4000000 in
set_option maxRecDepth 100000 in
theorem c_X9_gapFrom {E : Ex} {a0 : Nat → Nat} {h0_1 : Nat} {x1 : Int32} {v0 : ModelV} {r : (Int32 × ModelV)} (hf : Mod_gapFrom x1 v0 = some r) : Ct E yX9_gapFrom wsX9_gapFrom rmX9_gapFrom [.ref (a0 0), .int x1] [wModel E a0 (rf2 (a0 1) h0_1) v0] (fun rv g => rv = some (.int r.1) ∧ g = [wModel E a0 (rf2 (a0 1) h0_1) r.2]) := by
  refine ct_of (own := RX9) (by decide +kernel) rfl rfl (Nat.le_of_ble_eq_true rfl) (fun K C => ?_)
  refine ww_sub C (lv' := [(0, .ref (a0 0)), (1, .int x1)]) [0, 1] rfl ?_
  rw [Mod_gapFrom] at hf
  refine ww_aload_n C dX9_gapFrom_0 rfl 0 rfl ?_
  refine ww_iconst (v := 0) C dX9_gapFrom_1 (by decide) ?_
  obtain ⟨v0_2, e_v0_2⟩ : ∃ y : ModelV, y = Model_set_thrown v0 0 := ⟨_, rfl⟩
  replace hf := ltE e_v0_2 hf
  refine ww_put C clOK9 in_X9_gapFrom_X9 (w := wModel E a0 (rf2 (a0 1) h0_1) v0) (fs := fsModel a0 (rf2 (a0 1) h0_1) v0) (w' := wModel E a0 (rf2 (a0 1) h0_1) v0_2) (gs' := [wModel E a0 (rf2 (a0 1) h0_1) v0_2]) 0 0 5 rfl q_Model (by decide) (by decide +kernel) rfl rfl rfl rfl l_Model (by rw [e_v0_2]; exact p_Model_thrown) rfl dX9_gapFrom_2 ?_
  refine ww_aload_n C dX9_gapFrom_5 rfl 0 rfl ?_
  refine ww_iload_n C dX9_gapFrom_6 rfl 1 rfl ?_
  obtain ⟨p7, hp7, hf⟩ := bdE hf
  refine ww_callV C (As := [.int x1]) (st := []) (gr := []) (c_X9_isRoom (E := E) (a0 := a0) (h0_1 := h0_1) hp7) gX9_gapFrom_X9_isRoom rfl yk_X9_isRoom ⟨by decide, by decide⟩ ⟨by decide, by decide⟩ clOK9 0 0 rfl rfl [0] [] 1 rfl (by decide) rfl rfl (Nat.le_of_ble_eq_true rfl) dX9_gapFrom_7 ?_
  rintro _ _ ⟨rfl, rfl⟩
  refine ww_perm (gs' := [wModel E a0 (rf2 (a0 1) h0_1) v0_2]) [0] 1 rfl (by decide) rfl ?_
  refine ww_if_neB (tgt := 19) C dX9_gapFrom_10 (by decide) (fun c_1 => ?_) (fun c_1 => ?_)
  · replace hf := btE c_1 hf
    refine ww_aload_n C dX9_gapFrom_19 rfl 0 rfl ?_
    obtain ⟨p20, hp20, hf⟩ := bdE hf
    refine ww_callV C (As := []) (st := []) (gr := []) (c_X9_layNow (E := E) (a0 := a0) (h0_1 := h0_1) hp20) gX9_gapFrom_X9_layNow rfl yk_X9_layNow ⟨by decide, by decide⟩ ⟨by decide, by decide⟩ clOK9 0 0 rfl rfl [0] [] 1 rfl (by decide) rfl rfl (Nat.le_of_ble_eq_true rfl) dX9_gapFrom_20 ?_
    rintro _ _ ⟨rfl, rfl⟩
    refine ww_perm (gs' := [wModel E a0 (rf2 (a0 1) h0_1) p20]) [0] 1 rfl (by decide) rfl ?_
    refine ww_aload_n C dX9_gapFrom_23 rfl 0 rfl ?_
    refine ww_get C clOK9 in_X9_gapFrom_X9 (w := wModel E a0 (rf2 (a0 1) h0_1) p20) (fs := fsModel a0 (rf2 (a0 1) h0_1) p20) (v := .ref (a0 10)) 0 0 13 rfl q_Model (by decide) (by decide +kernel) g_Model_gap dX9_gapFrom_24 ?_
    refine ww_iload_n C dX9_gapFrom_27 rfl 1 rfl ?_
    obtain ⟨g_2, hf⟩ := gdE hf
    refine ww_iald C (f := Model_gap p20) (w := wModel E a0 (rf2 (a0 1) h0_1) p20) 0 10 rfl c_Model_gap (inB_vp g_2) dX9_gapFrom_28 ?_
    refine ww_if_le (tgt := 41) C dX9_gapFrom_29 (by decide) (fun c_3 => ?_) (fun c_3 => ?_)
    · replace hf := ifT c_3 hf
      refine ww_iconst (v := (-1)) C dX9_gapFrom_41 (by decide) ?_
      obtain rfl := Option.some.inj hf
      exact ww_iret C ⟨rfl, rfl⟩ dX9_gapFrom_42
    · replace hf := ifF c_3 hf
      refine ww_aload_n C dX9_gapFrom_32 rfl 0 rfl ?_
      refine ww_get C clOK9 in_X9_gapFrom_X9 (w := wModel E a0 (rf2 (a0 1) h0_1) p20) (fs := fsModel a0 (rf2 (a0 1) h0_1) p20) (v := .ref (a0 11)) 0 0 14 rfl q_Model (by decide) (by decide +kernel) g_Model_gapBegin dX9_gapFrom_33 ?_
      refine ww_iload_n C dX9_gapFrom_36 rfl 1 rfl ?_
      refine ww_iald C (f := Model_gapBegin p20) (w := wModel E a0 (rf2 (a0 1) h0_1) p20) 0 11 rfl c_Model_gapBegin (inB_vp g_2) dX9_gapFrom_37 ?_
      refine ww_goto (tgt := 42) C dX9_gapFrom_38 (by decide) ?_
      obtain rfl := Option.some.inj hf
      exact ww_iret C ⟨rfl, rfl⟩ dX9_gapFrom_42
  · replace hf := bfE c_1 hf
    refine ww_aload_n C dX9_gapFrom_13 rfl 0 rfl ?_
    refine ww_iconst (v := 1) C dX9_gapFrom_14 (by decide) ?_
    obtain ⟨p15, hp15, hf⟩ := bdE hf
    refine ww_callV C (As := [.int 1]) (st := []) (gr := []) (c_X9_raise (E := E) (a0 := a0) (h0_0 := a0 1) (h0_1 := h0_1) hp15) gX9_gapFrom_X9_raise rfl yk_X9_raise ⟨by decide, by decide⟩ ⟨by decide, by decide⟩ clOK9 0 0 rfl rfl [0] [] 1 rfl (by decide) rfl rfl (Nat.le_of_ble_eq_true rfl) dX9_gapFrom_15 ?_
    rintro _ _ ⟨rfl, rfl⟩
    refine ww_perm (gs' := [wModel E a0 (rf2 (a0 1) h0_1) p15.2]) [0] 1 rfl (by decide) rfl ?_
    obtain rfl := Option.some.inj hf
    exact ww_iret C ⟨rfl, rfl⟩ dX9_gapFrom_18

theorem yk_X9_gapFrom : yX9_gapFrom.cls = RX9 ∧ yX9_gapFrom.cls ≠ "java/lang/invoke/MethodHandle" ∧ yX9_gapFrom.cls ≠ "java/lang/invoke/VarHandle" ∧ (parseMethodDescriptor yX9_gapFrom.desc).map (fun d => d.parameters.length) = some 1 := by decide +kernel
abbrev rmX9_isJoined : Room := { frames := 4, cells := 0, slots := 0, locals := 90 }
set_option maxRecDepth 20000 in
theorem in_X9_isJoined_X9 : ∀ w ∈ u_ws RX9 TX9 35, w ∈ wsX9_isJoined := by decide +kernel
set_option maxHeartbeats 4000000 in
set_option maxRecDepth 100000 in
theorem w_X9_isJoined_22 {E : Ex} {K : Kx} (C : Cx E K cX9_isJoined 3 (some .boolean) RX9 wsX9_isJoined rmX9_isJoined) {a0 : Nat → Nat} {h0_1 : Nat} {x1 : Int32} {x2 : Int32}  {s0 : Int32} {v0 : ModelV} {r : (Bool × ModelV)} (hf : Mod_isJoined_22 x1 x2 s0 v0 = some r) : WW E K 0 0 (QQ E K (fun rv g => rv = some (.int (b2i r.1)) ∧ g = [wModel E a0 (rf2 (a0 1) h0_1) r.2]) 0 0) 22 [(0, .ref (a0 0)), (1, .int x1), (2, .int x2)] [.int s0, .ref (a0 0)] [wModel E a0 (rf2 (a0 1) h0_1) v0] := by
  rw [Mod_isJoined_22] at hf
  obtain ⟨v0_22, e_v0_22⟩ : ∃ y : ModelV, y = Model_set_thrown v0 s0 := ⟨_, rfl⟩
  replace hf := ltE e_v0_22 hf
  refine ww_put C clOK9 in_X9_isJoined_X9 (w := wModel E a0 (rf2 (a0 1) h0_1) v0) (fs := fsModel a0 (rf2 (a0 1) h0_1) v0) (w' := wModel E a0 (rf2 (a0 1) h0_1) v0_22) (gs' := [wModel E a0 (rf2 (a0 1) h0_1) v0_22]) 0 0 5 rfl q_Model (by decide) (by decide +kernel) rfl rfl rfl rfl l_Model (by rw [e_v0_22]; exact p_Model_thrown) rfl dX9_isJoined_22 ?_
  refine ww_aload_n C dX9_isJoined_25 rfl 0 rfl ?_
  refine ww_get C clOK9 in_X9_isJoined_X9 (w := wModel E a0 (rf2 (a0 1) h0_1) v0_22) (fs := fsModel a0 (rf2 (a0 1) h0_1) v0_22) (v := .int (Model_thrown v0_22)) 0 0 5 rfl q_Model (by decide) (by decide +kernel) g_Model_thrown dX9_isJoined_26 ?_
  refine ww_if_ne (tgt := 45) C dX9_isJoined_29 (by decide) (fun c_3 => ?_) (fun c_3 => ?_)
  · replace hf := ifF c_3 hf
    refine ww_iconst (v := 0) C dX9_isJoined_45 (by decide) ?_
    obtain rfl := Option.some.inj hf
    exact ww_zret C (nar_b false) ⟨rfl, rfl⟩ dX9_isJoined_46
  · replace hf := ifT c_3 hf
    refine ww_aload_n C dX9_isJoined_32 rfl 0 rfl ?_
    refine ww_iload_n C dX9_isJoined_33 rfl 1 rfl ?_
    refine ww_iload_n C dX9_isJoined_34 rfl 2 rfl ?_
    obtain ⟨p35, hp35, hf⟩ := bdE hf
    refine ww_callV C (As := [.int x1, .int x2]) (st := []) (gr := []) (c_X9_openBetween (E := E) (a0 := a0) (h0_1 := h0_1) hp35) gX9_isJoined_X9_openBetween rfl yk_X9_openBetween ⟨by decide, by decide⟩ ⟨by decide, by decide⟩ clOK9 0 0 rfl rfl [0] [] 1 rfl (by decide) rfl rfl (Nat.le_of_ble_eq_true rfl) dX9_isJoined_35 ?_
    rintro _ _ ⟨rfl, rfl⟩
    refine ww_perm (gs' := [wModel E a0 (rf2 (a0 1) h0_1) v0_22]) [0] 1 rfl (by decide) rfl ?_
    refine ww_if_le (tgt := 45) C dX9_isJoined_38 (by decide) (fun c_4 => ?_) (fun c_4 => ?_)
    · replace hf := ifT c_4 hf
      refine ww_iconst (v := 0) C dX9_isJoined_45 (by decide) ?_
      obtain rfl := Option.some.inj hf
      exact ww_zret C (nar_b false) ⟨rfl, rfl⟩ dX9_isJoined_46
    · replace hf := ifF c_4 hf
      refine ww_iconst (v := 1) C dX9_isJoined_41 (by decide) ?_
      refine ww_goto (tgt := 46) C dX9_isJoined_42 (by decide) ?_
      obtain rfl := Option.some.inj hf
      exact ww_zret C (nar_b true) ⟨rfl, rfl⟩ dX9_isJoined_46

set_option maxHeartbeats 4000000 in
set_option maxRecDepth 100000 in
theorem w_X9_isJoined_21 {E : Ex} {K : Kx} (C : Cx E K cX9_isJoined 3 (some .boolean) RX9 wsX9_isJoined rmX9_isJoined) {a0 : Nat → Nat} {h0_1 : Nat} {x1 : Int32} {x2 : Int32}  {v0 : ModelV} {r : (Bool × ModelV)} (hf : Mod_isJoined_21 x1 x2 v0 = some r) : WW E K 0 0 (QQ E K (fun rv g => rv = some (.int (b2i r.1)) ∧ g = [wModel E a0 (rf2 (a0 1) h0_1) r.2]) 0 0) 21 [(0, .ref (a0 0)), (1, .int x1), (2, .int x2)] [.ref (a0 0)] [wModel E a0 (rf2 (a0 1) h0_1) v0] := by
  rw [Mod_isJoined_21] at hf
  refine ww_iconst (v := 1) C dX9_isJoined_21 (by decide) ?_
  refine ww_sub C (lv' := [(0, .ref (a0 0)), (1, .int x1), (2, .int x2)]) [0, 1, 2] rfl ?_
  exact w_X9_isJoined_22 C hf

set_option maxHeartbeats 4000000 in
set_option maxRecDepth 100000 in
theorem c_X9_isJoined {E : Ex} {a0 : Nat → Nat} {h0_1 : Nat} {x1 : Int32} {x2 : Int32} {v0 : ModelV} {r : (Bool × ModelV)} (hf : Mod_isJoined x1 x2 v0 = some r) : Ct E yX9_isJoined wsX9_isJoined rmX9_isJoined [.ref (a0 0), .int x1, .int x2] [wModel E a0 (rf2 (a0 1) h0_1) v0] (fun rv g => rv = some (.int (b2i r.1)) ∧ g = [wModel E a0 (rf2 (a0 1) h0_1) r.2]) := by
  refine ct_of (own := RX9) (by decide +kernel) rfl rfl (Nat.le_of_ble_eq_true rfl) (fun K C => ?_)
  refine ww_sub C (lv' := [(0, .ref (a0 0)), (1, .int x1), (2, .int x2)]) [0, 1, 2] rfl ?_
  rw [Mod_isJoined] at hf
  refine ww_aload_n C dX9_isJoined_0 rfl 0 rfl ?_
  refine ww_aload_n C dX9_isJoined_1 rfl 0 rfl ?_
  refine ww_iload_n C dX9_isJoined_2 rfl 1 rfl ?_
  obtain ⟨p3, hp3, hf⟩ := bdE hf
  refine ww_callV C (As := [.int x1]) (st := [.ref (a0 0)]) (gr := []) (c_X9_isRoom (E := E) (a0 := a0) (h0_1 := h0_1) hp3) gX9_isJoined_X9_isRoom rfl yk_X9_isRoom ⟨by decide, by decide⟩ ⟨by decide, by decide⟩ clOK9 0 0 rfl rfl [0] [] 1 rfl (by decide) rfl rfl (Nat.le_of_ble_eq_true rfl) dX9_isJoined_3 ?_
  rintro _ _ ⟨rfl, rfl⟩
  refine ww_perm (gs' := [wModel E a0 (rf2 (a0 1) h0_1) v0]) [0] 1 rfl (by decide) rfl ?_
  refine ww_if_eqB (tgt := 21) C dX9_isJoined_6 (by decide) (fun c_1 => ?_) (fun c_1 => ?_)
  · replace hf := bfE c_1 hf
    refine ww_sub C (lv' := [(0, .ref (a0 0)), (1, .int x1), (2, .int x2)]) [0, 1, 2] rfl ?_
    exact w_X9_isJoined_21 C hf
  · replace hf := btE c_1 hf
    refine ww_aload_n C dX9_isJoined_9 rfl 0 rfl ?_
    refine ww_iload_n C dX9_isJoined_10 rfl 2 rfl ?_
    obtain ⟨p11, hp11, hf⟩ := bdE hf
    refine ww_callV C (As := [.int x2]) (st := [.ref (a0 0)]) (gr := []) (c_X9_isRoom (E := E) (a0 := a0) (h0_1 := h0_1) hp11) gX9_isJoined_X9_isRoom rfl yk_X9_isRoom ⟨by decide, by decide⟩ ⟨by decide, by decide⟩ clOK9 0 0 rfl rfl [0] [] 1 rfl (by decide) rfl rfl (Nat.le_of_ble_eq_true rfl) dX9_isJoined_11 ?_
    rintro _ _ ⟨rfl, rfl⟩
    refine ww_perm (gs' := [wModel E a0 (rf2 (a0 1) h0_1) v0]) [0] 1 rfl (by decide) rfl ?_
    refine ww_if_eqB (tgt := 21) C dX9_isJoined_14 (by decide) (fun c_2 => ?_) (fun c_2 => ?_)
    · replace hf := bfE c_2 hf
      refine ww_sub C (lv' := [(0, .ref (a0 0)), (1, .int x1), (2, .int x2)]) [0, 1, 2] rfl ?_
      exact w_X9_isJoined_21 C hf
    · replace hf := btE c_2 hf
      refine ww_iconst (v := 0) C dX9_isJoined_17 (by decide) ?_
      refine ww_goto (tgt := 22) C dX9_isJoined_18 (by decide) ?_
      refine ww_sub C (lv' := [(0, .ref (a0 0)), (1, .int x1), (2, .int x2)]) [0, 1, 2] rfl ?_
      exact w_X9_isJoined_22 C hf

theorem yk_X9_isJoined : yX9_isJoined.cls = RX9 ∧ yX9_isJoined.cls ≠ "java/lang/invoke/MethodHandle" ∧ yX9_isJoined.cls ≠ "java/lang/invoke/VarHandle" ∧ (parseMethodDescriptor yX9_isJoined.desc).map (fun d => d.parameters.length) = some 2 := by decide +kernel
abbrev rmX9_distance : Room := { frames := 3, cells := 0, slots := 0, locals := 64 }
set_option maxRecDepth 20000 in
theorem in_X9_distance_X9 : ∀ w ∈ u_ws RX9 TX9 35, w ∈ wsX9_distance := by decide +kernel
set_option maxHeartbeats 4000000 in
set_option maxRecDepth 100000 in
theorem w_X9_distance_21 {E : Ex} {K : Kx} (C : Cx E K cX9_distance 7 (some .int) RX9 wsX9_distance rmX9_distance) {a0 : Nat → Nat} {h0_1 : Nat} {x1 : Int32} {x2 : Int32}  {v0 : ModelV} {r : (Int32 × ModelV)} (hf : Mod_distance_21 x1 x2 v0 = some r) : WW E K 0 0 (QQ E K (fun rv g => rv = some (.int r.1) ∧ g = [wModel E a0 (rf2 (a0 1) h0_1) r.2]) 0 0) 21 [(0, .ref (a0 0))] [] [wModel E a0 (rf2 (a0 1) h0_1) v0] := by
  rw [Mod_distance_21] at hf
  refine ww_aload_n C dX9_distance_21 rfl 0 rfl ?_
  refine ww_iconst (v := 1) C dX9_distance_22 (by decide) ?_
  obtain ⟨p23, hp23, hf⟩ := bdE hf
  refine ww_callV C (As := [.int 1]) (st := []) (gr := []) (c_X9_raise (E := E) (a0 := a0) (h0_0 := a0 1) (h0_1 := h0_1) hp23) gX9_distance_X9_raise rfl yk_X9_raise ⟨by decide, by decide⟩ ⟨by decide, by decide⟩ clOK9 0 0 rfl rfl [0] [] 1 rfl (by decide) rfl rfl (Nat.le_of_ble_eq_true rfl) dX9_distance_23 ?_
  rintro _ _ ⟨rfl, rfl⟩
  refine ww_perm (gs' := [wModel E a0 (rf2 (a0 1) h0_1) p23.2]) [0] 1 rfl (by decide) rfl ?_
  obtain rfl := Option.some.inj hf
  exact ww_iret C ⟨rfl, rfl⟩ dX9_distance_26

set_option maxHeartbeats 4000000 in
set_option maxRecDepth 100000 in
theorem w_X9_distance_64 {E : Ex} {K : Kx} (C : Cx E K cX9_distance 7 (some .int) RX9 wsX9_distance rmX9_distance) {a0 : Nat → Nat} {h0_1 : Nat} {x1 : Int32} {x2 : Int32} {x3 : Int32} {x4 : Int32} {k38 : Int32 → Int32 → ModelV → Option (Int32 × ModelV)} {r : (Int32 × ModelV)} (hk38 : ∀ (x3 : Int32) (x4 : Int32) (v0 : ModelV), k38 x3 x4 v0 = some r → WW E K 0 0 (QQ E K (fun rv g => rv = some (.int r.1) ∧ g = [wModel E a0 (rf2 (a0 1) h0_1) r.2]) 0 0) 38 [(0, .ref (a0 0)), (2, .int x2), (3, .int x3), (4, .int x4)] [] [wModel E a0 (rf2 (a0 1) h0_1) v0]) : ∀ (n : Nat) (x5 : Int32) (x6 : Int32) (v0 : ModelV), Mod_distance_64 x1 x2 x3 x4 k38 n x5 x6 v0 = some r → WW E K 0 0 (QQ E K (fun rv g => rv = some (.int r.1) ∧ g = [wModel E a0 (rf2 (a0 1) h0_1) r.2]) 0 0) 64 [(0, .ref (a0 0)), (2, .int x2), (3, .int x3), (4, .int x4), (5, .int x5), (6, .int x6)] [] [wModel E a0 (rf2 (a0 1) h0_1) v0] := by
  intro n
  induction n with
  | zero =>
    intro x5 x6 v0 hf
    simp [Mod_distance_64] at hf
  | succ n ih =>
    intro x5 x6 v0 hf
    rw [Mod_distance_64] at hf
    refine ww_iload C dX9_distance_64 5 rfl ?_
    refine ww_aload_n C dX9_distance_66 rfl 0 rfl ?_
    obtain ⟨p67, hp67, hf⟩ := bdE hf
    refine ww_callV C (As := []) (st := [.int x6]) (gr := []) (c_X9_rooms (E := E) (a0 := a0) (h0_1 := h0_1) hp67) gX9_distance_X9_rooms rfl yk_X9_rooms ⟨by decide, by decide⟩ ⟨by decide, by decide⟩ clOK9 0 0 rfl rfl [0] [] 1 rfl (by decide) rfl rfl (Nat.le_of_ble_eq_true rfl) dX9_distance_67 ?_
    rintro _ _ ⟨rfl, rfl⟩
    refine ww_perm (gs' := [wModel E a0 (rf2 (a0 1) h0_1) v0]) [0] 1 rfl (by decide) rfl ?_
    refine ww_icmp_ge (tgt := 104) C dX9_distance_70 (by decide) (fun c_6 => ?_) (fun c_6 => ?_)
    · replace hf := ifT c_6 hf
      refine ww_iload C dX9_distance_104 4 rfl ?_
      refine ww_istore_n (lv' := [(3, .int x5), (0, .ref (a0 0)), (2, .int x2), (4, .int x4), (5, .int x5), (6, .int x6)]) C dX9_distance_106 rfl (by decide) rfl ?_
      obtain ⟨x4_107, e_x4_107⟩ : ∃ y : Int32, y = x4 + 1 := ⟨_, rfl⟩
      replace hf := ltE e_x4_107 hf
      refine ww_iinc (v := x4_107) (lv' := [(4, .int x4_107), (3, .int x5), (0, .ref (a0 0)), (2, .int x2), (5, .int x5), (6, .int x6)]) C dX9_distance_107 3 rfl (by rw [e_x4_107]; rfl) (by decide) rfl ?_
      refine ww_goto (tgt := 38) C dX9_distance_110 (by decide) ?_
      refine ww_sub C (lv' := [(0, .ref (a0 0)), (2, .int x2), (3, .int x5), (4, .int x4_107)]) [2, 3, 1, 0] rfl ?_
      exact hk38 _ _ _ hf
    · replace hf := ifF c_6 hf
      refine ww_iload C dX9_distance_73 4 rfl ?_
      refine ww_iload_n C dX9_distance_75 rfl 2 rfl ?_
      refine ww_iload C dX9_distance_76 5 rfl ?_
      obtain ⟨p78, hp78, hf⟩ := bdE hf
      refine ww_callS C (As := [.int x3, .int x6]) (st := [.int x5]) (gr := [wModel E a0 (rf2 (a0 1) h0_1) v0]) (c_X9_has (E := E)  hp78) gX9_distance_X9_has rfl ysk_X9_has ⟨by decide, by decide⟩ ⟨by decide, by decide⟩ [] [0] 1 rfl (by decide) rfl rfl (Nat.le_of_ble_eq_true rfl) dX9_distance_78 ?_
      rintro _ _ ⟨rfl, rfl⟩
      refine ww_perm (gs' := [wModel E a0 (rf2 (a0 1) h0_1) v0]) [0] 1 rfl (by decide) rfl ?_
      refine ww_if_eqB (tgt := 94) C dX9_distance_81 (by decide) (fun c_7 => ?_) (fun c_7 => ?_)
      · replace hf := bfE c_7 hf
        refine ww_iconst (v := 0) C dX9_distance_94 (by decide) ?_
        refine ww_ior C dX9_distance_95 ?_
        refine ww_topi (fun x5_96 e_x5_96 => ?_)
        replace hf := ltE e_x5_96 hf
        refine ww_istore (lv' := [(5, .int x5_96), (0, .ref (a0 0)), (2, .int x2), (3, .int x3), (4, .int x4), (6, .int x6)]) C dX9_distance_96 (by decide) rfl ?_
        obtain ⟨x6_98, e_x6_98⟩ : ∃ y : Int32, y = x6 + 1 := ⟨_, rfl⟩
        replace hf := ltE e_x6_98 hf
        refine ww_iinc (v := x6_98) (lv' := [(6, .int x6_98), (5, .int x5_96), (0, .ref (a0 0)), (2, .int x2), (3, .int x3), (4, .int x4)]) C dX9_distance_98 5 rfl (by rw [e_x6_98]; rfl) (by decide) rfl ?_
        refine ww_goto (tgt := 64) C dX9_distance_101 (by decide) ?_
        refine ww_sub C (lv' := [(0, .ref (a0 0)), (2, .int x2), (3, .int x3), (4, .int x4), (5, .int x5_96), (6, .int x6_98)]) [2, 3, 4, 5, 1, 0] rfl ?_
        exact ih _ _ _ hf
      · replace hf := btE c_7 hf
        refine ww_aload_n C dX9_distance_84 rfl 0 rfl ?_
        refine ww_get C clOK9 in_X9_distance_X9 (w := wModel E a0 (rf2 (a0 1) h0_1) v0) (fs := fsModel a0 (rf2 (a0 1) h0_1) v0) (v := .ref (a0 5)) 0 0 8 rfl q_Model (by decide) (by decide +kernel) g_Model_joined dX9_distance_85 ?_
        refine ww_iload C dX9_distance_88 5 rfl ?_
        obtain ⟨g_9, hf⟩ := gdE hf
        refine ww_iald C (f := Model_joined v0) (w := wModel E a0 (rf2 (a0 1) h0_1) v0) 0 5 rfl c_Model_joined (inB_vp g_9) dX9_distance_90 ?_
        refine ww_goto (tgt := 95) C dX9_distance_91 (by decide) ?_
        refine ww_ior C dX9_distance_95 ?_
        refine ww_topi (fun x5_96 e_x5_96 => ?_)
        replace hf := ltE e_x5_96 hf
        refine ww_istore (lv' := [(5, .int x5_96), (0, .ref (a0 0)), (2, .int x2), (3, .int x3), (4, .int x4), (6, .int x6)]) C dX9_distance_96 (by decide) rfl ?_
        obtain ⟨x6_98, e_x6_98⟩ : ∃ y : Int32, y = x6 + 1 := ⟨_, rfl⟩
        replace hf := ltE e_x6_98 hf
        refine ww_iinc (v := x6_98) (lv' := [(6, .int x6_98), (5, .int x5_96), (0, .ref (a0 0)), (2, .int x2), (3, .int x3), (4, .int x4)]) C dX9_distance_98 5 rfl (by rw [e_x6_98]; rfl) (by decide) rfl ?_
        refine ww_goto (tgt := 64) C dX9_distance_101 (by decide) ?_
        refine ww_sub C (lv' := [(0, .ref (a0 0)), (2, .int x2), (3, .int x3), (4, .int x4), (5, .int x5_96), (6, .int x6_98)]) [2, 3, 4, 5, 1, 0] rfl ?_
        exact ih _ _ _ hf

set_option maxHeartbeats 4000000 in
set_option maxRecDepth 100000 in
theorem w_X9_distance_38 {E : Ex} {K : Kx} (C : Cx E K cX9_distance 7 (some .int) RX9 wsX9_distance rmX9_distance) {a0 : Nat → Nat} {h0_1 : Nat} {x1 : Int32} {x2 : Int32}  {r : (Int32 × ModelV)} : ∀ (n : Nat) (x3 : Int32) (x4 : Int32) (v0 : ModelV), Mod_distance_38 x1 x2 n x3 x4 v0 = some r → WW E K 0 0 (QQ E K (fun rv g => rv = some (.int r.1) ∧ g = [wModel E a0 (rf2 (a0 1) h0_1) r.2]) 0 0) 38 [(0, .ref (a0 0)), (2, .int x2), (3, .int x3), (4, .int x4)] [] [wModel E a0 (rf2 (a0 1) h0_1) v0] := by
  intro n
  induction n with
  | zero =>
    intro x3 x4 v0 hf
    simp [Mod_distance_38] at hf
  | succ n ih =>
    intro x3 x4 v0 hf
    rw [Mod_distance_38] at hf
    refine ww_iload C dX9_distance_38 3 rfl ?_
    refine ww_aload_n C dX9_distance_40 rfl 0 rfl ?_
    obtain ⟨p41, hp41, hf⟩ := bdE hf
    refine ww_callV C (As := []) (st := [.int x4]) (gr := []) (c_X9_rooms (E := E) (a0 := a0) (h0_1 := h0_1) hp41) gX9_distance_X9_rooms rfl yk_X9_rooms ⟨by decide, by decide⟩ ⟨by decide, by decide⟩ clOK9 0 0 rfl rfl [0] [] 1 rfl (by decide) rfl rfl (Nat.le_of_ble_eq_true rfl) dX9_distance_41 ?_
    rintro _ _ ⟨rfl, rfl⟩
    refine ww_perm (gs' := [wModel E a0 (rf2 (a0 1) h0_1) v0]) [0] 1 rfl (by decide) rfl ?_
    refine ww_icmp_ge (tgt := 113) C dX9_distance_44 (by decide) (fun c_4 => ?_) (fun c_4 => ?_)
    · replace hf := ifT c_4 hf
      refine ww_iconst (v := (-1)) C dX9_distance_113 (by decide) ?_
      obtain rfl := Option.some.inj hf
      exact ww_iret C ⟨rfl, rfl⟩ dX9_distance_114
    · replace hf := ifF c_4 hf
      refine ww_iload_n C dX9_distance_47 rfl 2 rfl ?_
      refine ww_iload_n C dX9_distance_48 rfl 1 rfl ?_
      obtain ⟨p49, hp49, hf⟩ := bdE hf
      refine ww_callS C (As := [.int x3, .int x2]) (st := []) (gr := [wModel E a0 (rf2 (a0 1) h0_1) v0]) (c_X9_has (E := E)  hp49) gX9_distance_X9_has rfl ysk_X9_has ⟨by decide, by decide⟩ ⟨by decide, by decide⟩ [] [0] 1 rfl (by decide) rfl rfl (Nat.le_of_ble_eq_true rfl) dX9_distance_49 ?_
      rintro _ _ ⟨rfl, rfl⟩
      refine ww_perm (gs' := [wModel E a0 (rf2 (a0 1) h0_1) v0]) [0] 1 rfl (by decide) rfl ?_
      refine ww_if_eqB (tgt := 58) C dX9_distance_52 (by decide) (fun c_5 => ?_) (fun c_5 => ?_)
      · replace hf := bfE c_5 hf
        refine ww_iload_n C dX9_distance_58 rfl 2 rfl ?_
        refine ww_istore (lv' := [(5, .int x3), (0, .ref (a0 0)), (2, .int x2), (3, .int x3), (4, .int x4)]) C dX9_distance_59 (by decide) rfl ?_
        refine ww_iconst (v := 0) C dX9_distance_61 (by decide) ?_
        refine ww_istore (lv' := [(6, .int 0), (5, .int x3), (0, .ref (a0 0)), (2, .int x2), (3, .int x3), (4, .int x4)]) C dX9_distance_62 (by decide) rfl ?_
        refine ww_sub C (lv' := [(0, .ref (a0 0)), (2, .int x2), (3, .int x3), (4, .int x4), (5, .int x3), (6, .int 0)]) [2, 3, 4, 5, 1, 0] rfl ?_
        exact w_X9_distance_64 C (k38 := (fun (x3 : Int32) (x4 : Int32) (v0 : ModelV) => Mod_distance_38 x1 x2 n x3 x4 v0)) ih FU _ _ _ hf
      · replace hf := btE c_5 hf
        refine ww_iload C dX9_distance_55 3 rfl ?_
        obtain rfl := Option.some.inj hf
        exact ww_iret C ⟨rfl, rfl⟩ dX9_distance_57

set_option maxHeartbeats 4000000 in
set_option maxRecDepth 100000 in
theorem c_X9_distance {E : Ex} {a0 : Nat → Nat} {h0_1 : Nat} {x1 : Int32} {x2 : Int32} {v0 : ModelV} {r : (Int32 × ModelV)} (hf : Mod_distance x1 x2 v0 = some r) : Ct E yX9_distance wsX9_distance rmX9_distance [.ref (a0 0), .int x1, .int x2] [wModel E a0 (rf2 (a0 1) h0_1) v0] (fun rv g => rv = some (.int r.1) ∧ g = [wModel E a0 (rf2 (a0 1) h0_1) r.2]) := by
  refine ct_of (own := RX9) (by decide +kernel) rfl rfl (Nat.le_of_ble_eq_true rfl) (fun K C => ?_)
  refine ww_sub C (lv' := [(0, .ref (a0 0)), (1, .int x1), (2, .int x2)]) [0, 1, 2] rfl ?_
  rw [Mod_distance] at hf
  refine ww_aload_n C dX9_distance_0 rfl 0 rfl ?_
  refine ww_iconst (v := 0) C dX9_distance_1 (by decide) ?_
  obtain ⟨v0_2, e_v0_2⟩ : ∃ y : ModelV, y = Model_set_thrown v0 0 := ⟨_, rfl⟩
  replace hf := ltE e_v0_2 hf
  refine ww_put C clOK9 in_X9_distance_X9 (w := wModel E a0 (rf2 (a0 1) h0_1) v0) (fs := fsModel a0 (rf2 (a0 1) h0_1) v0) (w' := wModel E a0 (rf2 (a0 1) h0_1) v0_2) (gs' := [wModel E a0 (rf2 (a0 1) h0_1) v0_2]) 0 0 5 rfl q_Model (by decide) (by decide +kernel) rfl rfl rfl rfl l_Model (by rw [e_v0_2]; exact p_Model_thrown) rfl dX9_distance_2 ?_
  refine ww_aload_n C dX9_distance_5 rfl 0 rfl ?_
  refine ww_iload_n C dX9_distance_6 rfl 1 rfl ?_
  obtain ⟨p7, hp7, hf⟩ := bdE hf
  refine ww_callV C (As := [.int x1]) (st := []) (gr := []) (c_X9_isRoom (E := E) (a0 := a0) (h0_1 := h0_1) hp7) gX9_distance_X9_isRoom rfl yk_X9_isRoom ⟨by decide, by decide⟩ ⟨by decide, by decide⟩ clOK9 0 0 rfl rfl [0] [] 1 rfl (by decide) rfl rfl (Nat.le_of_ble_eq_true rfl) dX9_distance_7 ?_
  rintro _ _ ⟨rfl, rfl⟩
  refine ww_perm (gs' := [wModel E a0 (rf2 (a0 1) h0_1) v0_2]) [0] 1 rfl (by decide) rfl ?_
  refine ww_if_eqB (tgt := 21) C dX9_distance_10 (by decide) (fun c_1 => ?_) (fun c_1 => ?_)
  · replace hf := bfE c_1 hf
    refine ww_sub C (lv' := [(0, .ref (a0 0))]) [0] rfl ?_
    exact w_X9_distance_21 C hf
  · replace hf := btE c_1 hf
    refine ww_aload_n C dX9_distance_13 rfl 0 rfl ?_
    refine ww_iload_n C dX9_distance_14 rfl 2 rfl ?_
    obtain ⟨p15, hp15, hf⟩ := bdE hf
    refine ww_callV C (As := [.int x2]) (st := []) (gr := []) (c_X9_isRoom (E := E) (a0 := a0) (h0_1 := h0_1) hp15) gX9_distance_X9_isRoom rfl yk_X9_isRoom ⟨by decide, by decide⟩ ⟨by decide, by decide⟩ clOK9 0 0 rfl rfl [0] [] 1 rfl (by decide) rfl rfl (Nat.le_of_ble_eq_true rfl) dX9_distance_15 ?_
    rintro _ _ ⟨rfl, rfl⟩
    refine ww_perm (gs' := [wModel E a0 (rf2 (a0 1) h0_1) v0_2]) [0] 1 rfl (by decide) rfl ?_
    refine ww_if_neB (tgt := 27) C dX9_distance_18 (by decide) (fun c_2 => ?_) (fun c_2 => ?_)
    · replace hf := btE c_2 hf
      refine ww_aload_n C dX9_distance_27 rfl 0 rfl ?_
      obtain ⟨p28, hp28, hf⟩ := bdE hf
      refine ww_callV C (As := []) (st := []) (gr := []) (c_X9_layJoined (E := E) (a0 := a0) (h0_1 := h0_1) hp28) gX9_distance_X9_layJoined rfl yk_X9_layJoined ⟨by decide, by decide⟩ ⟨by decide, by decide⟩ clOK9 0 0 rfl rfl [0] [] 1 rfl (by decide) rfl rfl (Nat.le_of_ble_eq_true rfl) dX9_distance_28 ?_
      rintro _ _ ⟨rfl, rfl⟩
      refine ww_perm (gs' := [wModel E a0 (rf2 (a0 1) h0_1) p28]) [0] 1 rfl (by decide) rfl ?_
      refine ww_iconst (v := 1) C dX9_distance_31 (by decide) ?_
      refine ww_iload_n C dX9_distance_32 rfl 1 rfl ?_
      refine ww_ishl C dX9_distance_33 ?_
      refine ww_topi (fun x3_34 e_x3_34 => ?_)
      replace hf := ltE e_x3_34 hf
      refine ww_istore_n (lv' := [(3, .int x3_34), (0, .ref (a0 0)), (1, .int x1), (2, .int x2)]) C dX9_distance_34 rfl (by decide) rfl ?_
      refine ww_iconst (v := 0) C dX9_distance_35 (by decide) ?_
      refine ww_istore (lv' := [(4, .int 0), (3, .int x3_34), (0, .ref (a0 0)), (1, .int x1), (2, .int x2)]) C dX9_distance_36 (by decide) rfl ?_
      refine ww_sub C (lv' := [(0, .ref (a0 0)), (2, .int x2), (3, .int x3_34), (4, .int 0)]) [2, 4, 1, 0] rfl ?_
      exact w_X9_distance_38 C FU _ _ _ hf
    · replace hf := bfE c_2 hf
      refine ww_sub C (lv' := [(0, .ref (a0 0))]) [0] rfl ?_
      exact w_X9_distance_21 C hf

theorem yk_X9_distance : yX9_distance.cls = RX9 ∧ yX9_distance.cls ≠ "java/lang/invoke/MethodHandle" ∧ yX9_distance.cls ≠ "java/lang/invoke/VarHandle" ∧ (parseMethodDescriptor yX9_distance.desc).map (fun d => d.parameters.length) = some 2 := by decide +kernel
abbrev rmX9_meetings : Room := { frames := 5, cells := 0, slots := 0, locals := 112 }
set_option maxHeartbeats 4000000 in
set_option maxRecDepth 100000 in
theorem c_X9_meetings {E : Ex} {a0 : Nat → Nat} {h0_1 : Nat} {x1 : Int32} {x2 : Int32} {v0 : ModelV} {r : (Int32 × ModelV)} (hf : Mod_meetings x1 x2 v0 = some r) : Ct E yX9_meetings wsX9_meetings rmX9_meetings [.ref (a0 0), .int x1, .int x2] [wModel E a0 (rf2 (a0 1) h0_1) v0] (fun rv g => rv = some (.int r.1) ∧ g = [wModel E a0 (rf2 (a0 1) h0_1) r.2]) := by
  refine ct_of (own := RX9) (by decide +kernel) rfl rfl (Nat.le_of_ble_eq_true rfl) (fun K C => ?_)
  refine ww_sub C (lv' := [(0, .ref (a0 0)), (1, .int x1), (2, .int x2)]) [0, 1, 2] rfl ?_
  rw [Mod_meetings] at hf
  refine ww_aload_n C dX9_meetings_0 rfl 0 rfl ?_
  refine ww_iload_n C dX9_meetings_1 rfl 1 rfl ?_
  refine ww_iload_n C dX9_meetings_2 rfl 2 rfl ?_
  obtain ⟨p3, hp3, hf⟩ := bdE hf
  refine ww_callV C (As := [.int x1, .int x2]) (st := []) (gr := []) (c_X9_arePair (E := E) (a0 := a0) (h0_1 := h0_1) hp3) gX9_meetings_X9_arePair rfl yk_X9_arePair ⟨by decide, by decide⟩ ⟨by decide, by decide⟩ clOK9 0 0 rfl rfl [0] [] 1 rfl (by decide) rfl rfl (Nat.le_of_ble_eq_true rfl) dX9_meetings_3 ?_
  rintro _ _ ⟨rfl, rfl⟩
  refine ww_perm (gs' := [wModel E a0 (rf2 (a0 1) h0_1) p3.2]) [0] 1 rfl (by decide) rfl ?_
  refine ww_if_eqB (tgt := 18) C dX9_meetings_6 (by decide) (fun c_1 => ?_) (fun c_1 => ?_)
  · replace hf := bfE c_1 hf
    refine ww_iconst (v := 0) C dX9_meetings_18 (by decide) ?_
    obtain rfl := Option.some.inj hf
    exact ww_iret C ⟨rfl, rfl⟩ dX9_meetings_19
  · replace hf := btE c_1 hf
    refine ww_aload_n C dX9_meetings_9 rfl 0 rfl ?_
    refine ww_iload_n C dX9_meetings_10 rfl 1 rfl ?_
    refine ww_iload_n C dX9_meetings_11 rfl 2 rfl ?_
    obtain ⟨p12, hp12, hf⟩ := bdE hf
    refine ww_callV C (As := [.int x1, .int x2]) (st := []) (gr := []) (c_X9_meetingsOf (E := E) (a0 := a0) (h0_1 := h0_1) hp12) gX9_meetings_X9_meetingsOf rfl yk_X9_meetingsOf ⟨by decide, by decide⟩ ⟨by decide, by decide⟩ clOK9 0 0 rfl rfl [0] [] 1 rfl (by decide) rfl rfl (Nat.le_of_ble_eq_true rfl) dX9_meetings_12 ?_
    rintro _ _ ⟨rfl, rfl⟩
    refine ww_perm (gs' := [wModel E a0 (rf2 (a0 1) h0_1) p3.2]) [0] 1 rfl (by decide) rfl ?_
    refine ww_goto (tgt := 19) C dX9_meetings_15 (by decide) ?_
    obtain rfl := Option.some.inj hf
    exact ww_iret C ⟨rfl, rfl⟩ dX9_meetings_19

theorem yk_X9_meetings : yX9_meetings.cls = RX9 ∧ yX9_meetings.cls ≠ "java/lang/invoke/MethodHandle" ∧ yX9_meetings.cls ≠ "java/lang/invoke/VarHandle" ∧ (parseMethodDescriptor yX9_meetings.desc).map (fun d => d.parameters.length) = some 2 := by decide +kernel
abbrev rmX9_passings : Room := { frames := 6, cells := 0, slots := 0, locals := 136 }
set_option maxHeartbeats 4000000 in
set_option maxRecDepth 100000 in
theorem c_X9_passings {E : Ex} {a0 : Nat → Nat} {h0_1 : Nat} {x1 : Int32} {x2 : Int32} {v0 : ModelV} {r : (Int32 × ModelV)} (hf : Mod_passings x1 x2 v0 = some r) : Ct E yX9_passings wsX9_passings rmX9_passings [.ref (a0 0), .int x1, .int x2] [wModel E a0 (rf2 (a0 1) h0_1) v0] (fun rv g => rv = some (.int r.1) ∧ g = [wModel E a0 (rf2 (a0 1) h0_1) r.2]) := by
  refine ct_of (own := RX9) (by decide +kernel) rfl rfl (Nat.le_of_ble_eq_true rfl) (fun K C => ?_)
  refine ww_sub C (lv' := [(0, .ref (a0 0)), (1, .int x1), (2, .int x2)]) [0, 1, 2] rfl ?_
  rw [Mod_passings] at hf
  refine ww_aload_n C dX9_passings_0 rfl 0 rfl ?_
  refine ww_iload_n C dX9_passings_1 rfl 1 rfl ?_
  refine ww_iload_n C dX9_passings_2 rfl 2 rfl ?_
  obtain ⟨p3, hp3, hf⟩ := bdE hf
  refine ww_callV C (As := [.int x1, .int x2]) (st := []) (gr := []) (c_X9_arePair (E := E) (a0 := a0) (h0_1 := h0_1) hp3) gX9_passings_X9_arePair rfl yk_X9_arePair ⟨by decide, by decide⟩ ⟨by decide, by decide⟩ clOK9 0 0 rfl rfl [0] [] 1 rfl (by decide) rfl rfl (Nat.le_of_ble_eq_true rfl) dX9_passings_3 ?_
  rintro _ _ ⟨rfl, rfl⟩
  refine ww_perm (gs' := [wModel E a0 (rf2 (a0 1) h0_1) p3.2]) [0] 1 rfl (by decide) rfl ?_
  refine ww_if_eqB (tgt := 18) C dX9_passings_6 (by decide) (fun c_1 => ?_) (fun c_1 => ?_)
  · replace hf := bfE c_1 hf
    refine ww_iconst (v := 0) C dX9_passings_18 (by decide) ?_
    obtain rfl := Option.some.inj hf
    exact ww_iret C ⟨rfl, rfl⟩ dX9_passings_19
  · replace hf := btE c_1 hf
    refine ww_aload_n C dX9_passings_9 rfl 0 rfl ?_
    refine ww_iload_n C dX9_passings_10 rfl 1 rfl ?_
    refine ww_iload_n C dX9_passings_11 rfl 2 rfl ?_
    obtain ⟨p12, hp12, hf⟩ := bdE hf
    refine ww_callV C (As := [.int x1, .int x2]) (st := []) (gr := []) (c_X9_passingsOf (E := E) (a0 := a0) (h0_1 := h0_1) hp12) gX9_passings_X9_passingsOf rfl yk_X9_passingsOf ⟨by decide, by decide⟩ ⟨by decide, by decide⟩ clOK9 0 0 rfl rfl [0] [] 1 rfl (by decide) rfl rfl (Nat.le_of_ble_eq_true rfl) dX9_passings_12 ?_
    rintro _ _ ⟨rfl, rfl⟩
    refine ww_perm (gs' := [wModel E a0 (rf2 (a0 1) h0_1) p3.2]) [0] 1 rfl (by decide) rfl ?_
    refine ww_goto (tgt := 19) C dX9_passings_15 (by decide) ?_
    obtain rfl := Option.some.inj hf
    exact ww_iret C ⟨rfl, rfl⟩ dX9_passings_19

theorem yk_X9_passings : yX9_passings.cls = RX9 ∧ yX9_passings.cls ≠ "java/lang/invoke/MethodHandle" ∧ yX9_passings.cls ≠ "java/lang/invoke/VarHandle" ∧ (parseMethodDescriptor yX9_passings.desc).map (fun d => d.parameters.length) = some 2 := by decide +kernel
abbrev rmX9_nextMeeting : Room := { frames := 4, cells := 0, slots := 0, locals := 88 }
set_option maxRecDepth 20000 in
theorem in_X9_nextMeeting_X9 : ∀ w ∈ u_ws RX9 TX9 35, w ∈ wsX9_nextMeeting := by decide +kernel
set_option maxHeartbeats 4000000 in
set_option maxRecDepth 100000 in
theorem w_X9_nextMeeting_47 {E : Ex} {K : Kx} (C : Cx E K cX9_nextMeeting 6 (some .int) RX9 wsX9_nextMeeting rmX9_nextMeeting) {a0 : Nat → Nat} {h0_1 : Nat} {x1 : Int32} {x2 : Int32} {x3 : Int32} {x4 : Int32} {r : (Int32 × ModelV)} : ∀ (n : Nat) (x5 : Int32) (v0 : ModelV), Mod_nextMeeting_47 x1 x2 x3 x4 n x5 v0 = some r → WW E K 0 0 (QQ E K (fun rv g => rv = some (.int r.1) ∧ g = [wModel E a0 (rf2 (a0 1) h0_1) r.2]) 0 0) 47 [(0, .ref (a0 0)), (1, .int x1), (2, .int x2), (3, .int x3), (4, .int x4), (5, .int x5)] [] [wModel E a0 (rf2 (a0 1) h0_1) v0] := by
  intro n
  induction n with
  | zero =>
    intro x5 v0 hf
    simp [Mod_nextMeeting_47] at hf
  | succ n ih =>
    intro x5 v0 hf
    rw [Mod_nextMeeting_47] at hf
    refine ww_iload C dX9_nextMeeting_47 4 rfl ?_
    refine ww_if_eq (tgt := 83) C dX9_nextMeeting_49 (by decide) (fun c_5 => ?_) (fun c_5 => ?_)
    · replace hf := ifT c_5 hf
      refine ww_iconst (v := (-1)) C dX9_nextMeeting_83 (by decide) ?_
      obtain rfl := Option.some.inj hf
      exact ww_iret C ⟨rfl, rfl⟩ dX9_nextMeeting_84
    · replace hf := ifF c_5 hf
      refine ww_iload C dX9_nextMeeting_52 5 rfl ?_
      refine ww_iload_n C dX9_nextMeeting_54 rfl 3 rfl ?_
      refine ww_aload_n C dX9_nextMeeting_55 rfl 0 rfl ?_
      refine ww_get C clOK9 in_X9_nextMeeting_X9 (w := wModel E a0 (rf2 (a0 1) h0_1) v0) (fs := fsModel a0 (rf2 (a0 1) h0_1) v0) (v := .int (Model_cycleNow v0)) 0 0 15 rfl q_Model (by decide) (by decide +kernel) g_Model_cycleNow dX9_nextMeeting_56 ?_
      refine ww_iadd C dX9_nextMeeting_59 ?_
      refine ww_icmp_ge (tgt := 83) C dX9_nextMeeting_60 (by decide) (fun c_6 => ?_) (fun c_6 => ?_)
      · replace hf := ifT c_6 hf
        refine ww_iconst (v := (-1)) C dX9_nextMeeting_83 (by decide) ?_
        obtain rfl := Option.some.inj hf
        exact ww_iret C ⟨rfl, rfl⟩ dX9_nextMeeting_84
      · replace hf := ifF c_6 hf
        refine ww_aload_n C dX9_nextMeeting_63 rfl 0 rfl ?_
        refine ww_iload_n C dX9_nextMeeting_64 rfl 1 rfl ?_
        refine ww_iload_n C dX9_nextMeeting_65 rfl 2 rfl ?_
        refine ww_iload C dX9_nextMeeting_66 5 rfl ?_
        obtain ⟨p68, hp68, hf⟩ := bdE hf
        refine ww_callV C (As := [.int x1, .int x2, .int x5]) (st := []) (gr := []) (c_X9_meet (E := E) (a0 := a0) (h0_1 := h0_1) hp68) gX9_nextMeeting_X9_meet rfl yk_X9_meet ⟨by decide, by decide⟩ ⟨by decide, by decide⟩ clOK9 0 0 rfl rfl [0] [] 1 rfl (by decide) rfl rfl (Nat.le_of_ble_eq_true rfl) dX9_nextMeeting_68 ?_
        rintro _ _ ⟨rfl, rfl⟩
        refine ww_perm (gs' := [wModel E a0 (rf2 (a0 1) h0_1) v0]) [0] 1 rfl (by decide) rfl ?_
        refine ww_if_eqB (tgt := 77) C dX9_nextMeeting_71 (by decide) (fun c_7 => ?_) (fun c_7 => ?_)
        · replace hf := bfE c_7 hf
          obtain ⟨x5_77, e_x5_77⟩ : ∃ y : Int32, y = x5 + 1 := ⟨_, rfl⟩
          replace hf := ltE e_x5_77 hf
          refine ww_iinc (v := x5_77) (lv' := [(5, .int x5_77), (0, .ref (a0 0)), (1, .int x1), (2, .int x2), (3, .int x3), (4, .int x4)]) C dX9_nextMeeting_77 5 rfl (by rw [e_x5_77]; rfl) (by decide) rfl ?_
          refine ww_goto (tgt := 47) C dX9_nextMeeting_80 (by decide) ?_
          refine ww_sub C (lv' := [(0, .ref (a0 0)), (1, .int x1), (2, .int x2), (3, .int x3), (4, .int x4), (5, .int x5_77)]) [1, 2, 3, 4, 5, 0] rfl ?_
          exact ih _ _ hf
        · replace hf := btE c_7 hf
          refine ww_iload C dX9_nextMeeting_74 5 rfl ?_
          obtain rfl := Option.some.inj hf
          exact ww_iret C ⟨rfl, rfl⟩ dX9_nextMeeting_76

set_option maxHeartbeats 4000000 in
set_option maxRecDepth 100000 in
theorem w_X9_nextMeeting_32 {E : Ex} {K : Kx} (C : Cx E K cX9_nextMeeting 6 (some .int) RX9 wsX9_nextMeeting rmX9_nextMeeting) {a0 : Nat → Nat} {h0_1 : Nat} {x1 : Int32} {x2 : Int32} {x3 : Int32}  {x4 : Int32} {s0 : Int32} {v0 : ModelV} {r : (Int32 × ModelV)} (hf : Mod_nextMeeting_32 x1 x2 x3 x4 s0 v0 = some r) : WW E K 0 0 (QQ E K (fun rv g => rv = some (.int r.1) ∧ g = [wModel E a0 (rf2 (a0 1) h0_1) r.2]) 0 0) 32 [(0, .ref (a0 0)), (1, .int x1), (2, .int x2), (3, .int x3), (4, .int x4)] [.int s0, .ref (a0 0)] [wModel E a0 (rf2 (a0 1) h0_1) v0] := by
  rw [Mod_nextMeeting_32] at hf
  obtain ⟨v0_32, e_v0_32⟩ : ∃ y : ModelV, y = Model_set_thrown v0 s0 := ⟨_, rfl⟩
  replace hf := ltE e_v0_32 hf
  refine ww_put C clOK9 in_X9_nextMeeting_X9 (w := wModel E a0 (rf2 (a0 1) h0_1) v0) (fs := fsModel a0 (rf2 (a0 1) h0_1) v0) (w' := wModel E a0 (rf2 (a0 1) h0_1) v0_32) (gs' := [wModel E a0 (rf2 (a0 1) h0_1) v0_32]) 0 0 5 rfl q_Model (by decide) (by decide +kernel) rfl rfl rfl rfl l_Model (by rw [e_v0_32]; exact p_Model_thrown) rfl dX9_nextMeeting_32 ?_
  refine ww_aload_n C dX9_nextMeeting_35 rfl 0 rfl ?_
  refine ww_get C clOK9 in_X9_nextMeeting_X9 (w := wModel E a0 (rf2 (a0 1) h0_1) v0_32) (fs := fsModel a0 (rf2 (a0 1) h0_1) v0_32) (v := .int (Model_thrown v0_32)) 0 0 5 rfl q_Model (by decide) (by decide +kernel) g_Model_thrown dX9_nextMeeting_36 ?_
  refine ww_if_eq (tgt := 44) C dX9_nextMeeting_39 (by decide) (fun c_4 => ?_) (fun c_4 => ?_)
  · replace hf := ifT c_4 hf
    refine ww_iload_n C dX9_nextMeeting_44 rfl 3 rfl ?_
    refine ww_istore (lv' := [(5, .int x3), (0, .ref (a0 0)), (1, .int x1), (2, .int x2), (3, .int x3), (4, .int x4)]) C dX9_nextMeeting_45 (by decide) rfl ?_
    refine ww_sub C (lv' := [(0, .ref (a0 0)), (1, .int x1), (2, .int x2), (3, .int x3), (4, .int x4), (5, .int x3)]) [1, 2, 3, 4, 5, 0] rfl ?_
    exact w_X9_nextMeeting_47 C FU _ _ hf
  · replace hf := ifF c_4 hf
    refine ww_iconst (v := 0) C dX9_nextMeeting_42 (by decide) ?_
    obtain rfl := Option.some.inj hf
    exact ww_iret C ⟨rfl, rfl⟩ dX9_nextMeeting_43

set_option maxHeartbeats 4000000 in
set_option maxRecDepth 100000 in
theorem c_X9_nextMeeting {E : Ex} {a0 : Nat → Nat} {h0_1 : Nat} {x1 : Int32} {x2 : Int32} {x3 : Int32} {v0 : ModelV} {r : (Int32 × ModelV)} (hf : Mod_nextMeeting x1 x2 x3 v0 = some r) : Ct E yX9_nextMeeting wsX9_nextMeeting rmX9_nextMeeting [.ref (a0 0), .int x1, .int x2, .int x3] [wModel E a0 (rf2 (a0 1) h0_1) v0] (fun rv g => rv = some (.int r.1) ∧ g = [wModel E a0 (rf2 (a0 1) h0_1) r.2]) := by
  refine ct_of (own := RX9) (by decide +kernel) rfl rfl (Nat.le_of_ble_eq_true rfl) (fun K C => ?_)
  refine ww_sub C (lv' := [(0, .ref (a0 0)), (1, .int x1), (2, .int x2), (3, .int x3)]) [0, 1, 2, 3] rfl ?_
  rw [Mod_nextMeeting] at hf
  refine ww_aload_n C dX9_nextMeeting_0 rfl 0 rfl ?_
  refine ww_iload_n C dX9_nextMeeting_1 rfl 1 rfl ?_
  refine ww_iload_n C dX9_nextMeeting_2 rfl 2 rfl ?_
  obtain ⟨p3, hp3, hf⟩ := bdE hf
  refine ww_callV C (As := [.int x1, .int x2]) (st := []) (gr := []) (c_X9_arePair (E := E) (a0 := a0) (h0_1 := h0_1) hp3) gX9_nextMeeting_X9_arePair rfl yk_X9_arePair ⟨by decide, by decide⟩ ⟨by decide, by decide⟩ clOK9 0 0 rfl rfl [0] [] 1 rfl (by decide) rfl rfl (Nat.le_of_ble_eq_true rfl) dX9_nextMeeting_3 ?_
  rintro _ _ ⟨rfl, rfl⟩
  refine ww_perm (gs' := [wModel E a0 (rf2 (a0 1) h0_1) p3.2]) [0] 1 rfl (by decide) rfl ?_
  refine ww_topi (fun x4_6 e_x4_6 => ?_)
  replace hf := ltE e_x4_6 hf
  refine ww_istore (lv' := [(4, .int x4_6), (0, .ref (a0 0)), (1, .int x1), (2, .int x2), (3, .int x3)]) C dX9_nextMeeting_6 (by decide) rfl ?_
  refine ww_aload_n C dX9_nextMeeting_8 rfl 1 rfl ?_
  refine ww_aload_n C dX9_nextMeeting_9 rfl 1 rfl ?_
  refine ww_get C clOK9 in_X9_nextMeeting_X9 (w := wModel E a0 (rf2 (a0 1) h0_1) p3.2) (fs := fsModel a0 (rf2 (a0 1) h0_1) p3.2) (v := .int (Model_thrown p3.2)) 0 0 5 rfl q_Model (by decide) (by decide +kernel) g_Model_thrown dX9_nextMeeting_10 ?_
  refine ww_if_eq (tgt := 20) C dX9_nextMeeting_13 (by decide) (fun c_2 => ?_) (fun c_2 => ?_)
  · replace hf := ifT c_2 hf
    refine ww_iload_n C dX9_nextMeeting_20 rfl 4 rfl ?_
    obtain ⟨p21, hp21, hf⟩ := bdE hf
    refine ww_callS C (As := [.int x3]) (st := [.ref (a0 0)]) (gr := [wModel E a0 (rf2 (a0 1) h0_1) p3.2]) (c_X9_isMinute (E := E)  hp21) gX9_nextMeeting_X9_isMinute rfl ysk_X9_isMinute ⟨by decide, by decide⟩ ⟨by decide, by decide⟩ [] [0] 1 rfl (by decide) rfl rfl (Nat.le_of_ble_eq_true rfl) dX9_nextMeeting_21 ?_
    rintro _ _ ⟨rfl, rfl⟩
    refine ww_perm (gs' := [wModel E a0 (rf2 (a0 1) h0_1) p3.2]) [0] 1 rfl (by decide) rfl ?_
    refine ww_if_eqB (tgt := 31) C dX9_nextMeeting_24 (by decide) (fun c_3 => ?_) (fun c_3 => ?_)
    · replace hf := bfE c_3 hf
      refine ww_iconst (v := 2) C dX9_nextMeeting_31 (by decide) ?_
      refine ww_sub C (lv' := [(0, .ref (a0 0)), (1, .int x1), (2, .int x2), (3, .int x3), (4, .int x4_6)]) [1, 2, 3, 4, 0] rfl ?_
      exact w_X9_nextMeeting_32 C hf
    · replace hf := btE c_3 hf
      refine ww_iconst (v := 0) C dX9_nextMeeting_27 (by decide) ?_
      refine ww_goto (tgt := 32) C dX9_nextMeeting_28 (by decide) ?_
      refine ww_sub C (lv' := [(0, .ref (a0 0)), (1, .int x1), (2, .int x2), (3, .int x3), (4, .int x4_6)]) [1, 2, 3, 4, 0] rfl ?_
      exact w_X9_nextMeeting_32 C hf
  · replace hf := ifF c_2 hf
    refine ww_iconst (v := 1) C dX9_nextMeeting_16 (by decide) ?_
    refine ww_goto (tgt := 32) C dX9_nextMeeting_17 (by decide) ?_
    refine ww_sub C (lv' := [(0, .ref (a0 0)), (1, .int x1), (2, .int x2), (3, .int x3), (4, .int x4_6)]) [1, 2, 3, 4, 0] rfl ?_
    exact w_X9_nextMeeting_32 C hf

theorem yk_X9_nextMeeting : yX9_nextMeeting.cls = RX9 ∧ yX9_nextMeeting.cls ≠ "java/lang/invoke/MethodHandle" ∧ yX9_nextMeeting.cls ≠ "java/lang/invoke/VarHandle" ∧ (parseMethodDescriptor yX9_nextMeeting.desc).map (fun d => d.parameters.length) = some 3 := by decide +kernel
abbrev rmX9_worstWith : Room := { frames := 5, cells := 0, slots := 0, locals := 110 }
set_option maxRecDepth 20000 in
theorem in_X9_worstWith_X9 : ∀ w ∈ u_ws RX9 TX9 35, w ∈ wsX9_worstWith := by decide +kernel
set_option maxHeartbeats 4000000 in
set_option maxRecDepth 100000 in
theorem w_X9_worstWith_27 {E : Ex} {K : Kx} (C : Cx E K cX9_worstWith 3 (some .int) RX9 wsX9_worstWith rmX9_worstWith) {a0 : Nat → Nat} {h0_1 : Nat} {x1 : Int32} {x2 : Int32}  {s0 : Int32} {v0 : ModelV} {r : (Int32 × ModelV)} (hf : Mod_worstWith_27 x1 x2 s0 v0 = some r) : WW E K 0 0 (QQ E K (fun rv g => rv = some (.int r.1) ∧ g = [wModel E a0 (rf2 (a0 1) h0_1) r.2]) 0 0) 27 [(0, .ref (a0 0)), (1, .int x1), (2, .int x2)] [.int s0, .ref (a0 0)] [wModel E a0 (rf2 (a0 1) h0_1) v0] := by
  rw [Mod_worstWith_27] at hf
  obtain ⟨v0_27, e_v0_27⟩ : ∃ y : ModelV, y = Model_set_thrown v0 s0 := ⟨_, rfl⟩
  replace hf := ltE e_v0_27 hf
  refine ww_put C clOK9 in_X9_worstWith_X9 (w := wModel E a0 (rf2 (a0 1) h0_1) v0) (fs := fsModel a0 (rf2 (a0 1) h0_1) v0) (w' := wModel E a0 (rf2 (a0 1) h0_1) v0_27) (gs' := [wModel E a0 (rf2 (a0 1) h0_1) v0_27]) 0 0 5 rfl q_Model (by decide) (by decide +kernel) rfl rfl rfl rfl l_Model (by rw [e_v0_27]; exact p_Model_thrown) rfl dX9_worstWith_27 ?_
  refine ww_aload_n C dX9_worstWith_30 rfl 0 rfl ?_
  refine ww_get C clOK9 in_X9_worstWith_X9 (w := wModel E a0 (rf2 (a0 1) h0_1) v0_27) (fs := fsModel a0 (rf2 (a0 1) h0_1) v0_27) (v := .int (Model_thrown v0_27)) 0 0 5 rfl q_Model (by decide) (by decide +kernel) g_Model_thrown dX9_worstWith_31 ?_
  refine ww_if_eq (tgt := 39) C dX9_worstWith_34 (by decide) (fun c_3 => ?_) (fun c_3 => ?_)
  · replace hf := ifT c_3 hf
    refine ww_aload_n C dX9_worstWith_39 rfl 0 rfl ?_
    obtain ⟨p40, hp40, hf⟩ := bdE hf
    refine ww_callV C (As := []) (st := []) (gr := []) (c_X9_takePhases (E := E) (a0 := a0) (h0_1 := h0_1) hp40) gX9_worstWith_X9_takePhases rfl yk_X9_takePhases ⟨by decide, by decide⟩ ⟨by decide, by decide⟩ clOK9 0 0 rfl rfl [0] [] 1 rfl (by decide) rfl rfl (Nat.le_of_ble_eq_true rfl) dX9_worstWith_40 ?_
    rintro _ _ ⟨rfl, rfl⟩
    refine ww_perm (gs' := [wModel E a0 (rf2 (a0 1) h0_1) p40]) [0] 1 rfl (by decide) rfl ?_
    refine ww_aload_n C dX9_worstWith_43 rfl 0 rfl ?_
    refine ww_get C clOK9 in_X9_worstWith_X9 (w := wModel E a0 (rf2 (a0 1) h0_1) p40) (fs := fsModel a0 (rf2 (a0 1) h0_1) p40) (v := .ref (a0 6)) 0 0 9 rfl q_Model (by decide) (by decide +kernel) g_Model_phases dX9_worstWith_44 ?_
    refine ww_iload_n C dX9_worstWith_47 rfl 1 rfl ?_
    refine ww_iload_n C dX9_worstWith_48 rfl 2 rfl ?_
    obtain ⟨g_4, hf⟩ := gdE hf
    obtain ⟨v0_49, e_v0_49⟩ : ∃ y : ModelV, y = Model_set_phases p40 (upd (Model_phases p40) (Int32.toNatClampNeg x1) x2) := ⟨_, rfl⟩
    replace hf := ltE e_v0_49 hf
    refine ww_iast C (f := Model_phases p40) (w := wModel E a0 (rf2 (a0 1) h0_1) p40) (w' := wModel E a0 (rf2 (a0 1) h0_1) v0_49) (gs' := [wModel E a0 (rf2 (a0 1) h0_1) v0_49]) 0 6 rfl c_Model_phases (inB_vp g_4) (by rw [e_v0_49]; exact s_Model_phases) rfl dX9_worstWith_49 ?_
    refine ww_aload_n C dX9_worstWith_50 rfl 0 rfl ?_
    obtain ⟨p51, hp51, hf⟩ := bdE hf
    refine ww_callV C (As := []) (st := []) (gr := []) (c_X9_layCycle (E := E) (a0 := a0) (h0_1 := h0_1) hp51) gX9_worstWith_X9_layCycle rfl yk_X9_layCycle ⟨by decide, by decide⟩ ⟨by decide, by decide⟩ clOK9 0 0 rfl rfl [0] [] 1 rfl (by decide) rfl rfl (Nat.le_of_ble_eq_true rfl) dX9_worstWith_51 ?_
    rintro _ _ ⟨rfl, rfl⟩
    refine ww_perm (gs' := [wModel E a0 (rf2 (a0 1) h0_1) p51]) [0] 1 rfl (by decide) rfl ?_
    refine ww_aload_n C dX9_worstWith_54 rfl 0 rfl ?_
    obtain ⟨p55, hp55, hf⟩ := bdE hf
    refine ww_callV C (As := []) (st := []) (gr := []) (c_X9_worstLaid (E := E) (a0 := a0) (h0_1 := h0_1) hp55) gX9_worstWith_X9_worstLaid rfl yk_X9_worstLaid ⟨by decide, by decide⟩ ⟨by decide, by decide⟩ clOK9 0 0 rfl rfl [0] [] 1 rfl (by decide) rfl rfl (Nat.le_of_ble_eq_true rfl) dX9_worstWith_55 ?_
    rintro _ _ ⟨rfl, rfl⟩
    refine ww_perm (gs' := [wModel E a0 (rf2 (a0 1) h0_1) p51]) [0] 1 rfl (by decide) rfl ?_
    obtain rfl := Option.some.inj hf
    exact ww_iret C ⟨rfl, rfl⟩ dX9_worstWith_58
  · replace hf := ifF c_3 hf
    refine ww_iconst (v := 0) C dX9_worstWith_37 (by decide) ?_
    obtain rfl := Option.some.inj hf
    exact ww_iret C ⟨rfl, rfl⟩ dX9_worstWith_38

set_option maxHeartbeats 4000000 in
set_option maxRecDepth 100000 in
theorem c_X9_worstWith {E : Ex} {a0 : Nat → Nat} {h0_1 : Nat} {x1 : Int32} {x2 : Int32} {v0 : ModelV} {r : (Int32 × ModelV)} (hf : Mod_worstWith x1 x2 v0 = some r) : Ct E yX9_worstWith wsX9_worstWith rmX9_worstWith [.ref (a0 0), .int x1, .int x2] [wModel E a0 (rf2 (a0 1) h0_1) v0] (fun rv g => rv = some (.int r.1) ∧ g = [wModel E a0 (rf2 (a0 1) h0_1) r.2]) := by
  refine ct_of (own := RX9) (by decide +kernel) rfl rfl (Nat.le_of_ble_eq_true rfl) (fun K C => ?_)
  refine ww_sub C (lv' := [(0, .ref (a0 0)), (1, .int x1), (2, .int x2)]) [0, 1, 2] rfl ?_
  rw [Mod_worstWith] at hf
  refine ww_aload_n C dX9_worstWith_0 rfl 0 rfl ?_
  refine ww_aload_n C dX9_worstWith_1 rfl 0 rfl ?_
  refine ww_iload_n C dX9_worstWith_2 rfl 1 rfl ?_
  obtain ⟨p3, hp3, hf⟩ := bdE hf
  refine ww_callV C (As := [.int x1]) (st := [.ref (a0 0)]) (gr := []) (c_X9_isGuard (E := E) (a0 := a0) (h0_1 := h0_1) hp3) gX9_worstWith_X9_isGuard rfl yk_X9_isGuard ⟨by decide, by decide⟩ ⟨by decide, by decide⟩ clOK9 0 0 rfl rfl [0] [] 1 rfl (by decide) rfl rfl (Nat.le_of_ble_eq_true rfl) dX9_worstWith_3 ?_
  rintro _ _ ⟨rfl, rfl⟩
  refine ww_perm (gs' := [wModel E a0 (rf2 (a0 1) h0_1) v0]) [0] 1 rfl (by decide) rfl ?_
  refine ww_if_neB (tgt := 13) C dX9_worstWith_6 (by decide) (fun c_1 => ?_) (fun c_1 => ?_)
  · replace hf := btE c_1 hf
    refine ww_aload_n C dX9_worstWith_13 rfl 0 rfl ?_
    refine ww_iload_n C dX9_worstWith_14 rfl 1 rfl ?_
    refine ww_iload_n C dX9_worstWith_15 rfl 2 rfl ?_
    obtain ⟨p16, hp16, hf⟩ := bdE hf
    refine ww_callV C (As := [.int x1, .int x2]) (st := [.ref (a0 0)]) (gr := []) (c_X9_isPhase (E := E) (a0 := a0) (h0_1 := h0_1) hp16) gX9_worstWith_X9_isPhase rfl yk_X9_isPhase ⟨by decide, by decide⟩ ⟨by decide, by decide⟩ clOK9 0 0 rfl rfl [0] [] 1 rfl (by decide) rfl rfl (Nat.le_of_ble_eq_true rfl) dX9_worstWith_16 ?_
    rintro _ _ ⟨rfl, rfl⟩
    refine ww_perm (gs' := [wModel E a0 (rf2 (a0 1) h0_1) v0]) [0] 1 rfl (by decide) rfl ?_
    refine ww_if_eqB (tgt := 26) C dX9_worstWith_19 (by decide) (fun c_2 => ?_) (fun c_2 => ?_)
    · replace hf := bfE c_2 hf
      refine ww_iconst (v := 2) C dX9_worstWith_26 (by decide) ?_
      refine ww_sub C (lv' := [(0, .ref (a0 0)), (1, .int x1), (2, .int x2)]) [0, 1, 2] rfl ?_
      exact w_X9_worstWith_27 C hf
    · replace hf := btE c_2 hf
      refine ww_iconst (v := 0) C dX9_worstWith_22 (by decide) ?_
      refine ww_goto (tgt := 27) C dX9_worstWith_23 (by decide) ?_
      refine ww_sub C (lv' := [(0, .ref (a0 0)), (1, .int x1), (2, .int x2)]) [0, 1, 2] rfl ?_
      exact w_X9_worstWith_27 C hf
  · replace hf := bfE c_1 hf
    refine ww_iconst (v := 1) C dX9_worstWith_9 (by decide) ?_
    refine ww_goto (tgt := 27) C dX9_worstWith_10 (by decide) ?_
    refine ww_sub C (lv' := [(0, .ref (a0 0)), (1, .int x1), (2, .int x2)]) [0, 1, 2] rfl ?_
    exact w_X9_worstWith_27 C hf

theorem yk_X9_worstWith : yX9_worstWith.cls = RX9 ∧ yX9_worstWith.cls ≠ "java/lang/invoke/MethodHandle" ∧ yX9_worstWith.cls ≠ "java/lang/invoke/VarHandle" ∧ (parseMethodDescriptor yX9_worstWith.desc).map (fun d => d.parameters.length) = some 2 := by decide +kernel
abbrev rmX9_bestWorst : Room := { frames := 9, cells := 0, slots := 0, locals := 203 }
set_option maxRecDepth 20000 in
theorem in_X9_bestWorst_X9 : ∀ w ∈ u_ws RX9 TX9 35, w ∈ wsX9_bestWorst := by decide +kernel
set_option maxHeartbeats 4000000 in
set_option maxRecDepth 100000 in
theorem c_X9_bestWorst {E : Ex} {a0 : Nat → Nat} {h0_1 : Nat} {v0 : ModelV} {r : (Int32 × ModelV)} (hf : Mod_bestWorst v0 = some r) : Ct E yX9_bestWorst wsX9_bestWorst rmX9_bestWorst [.ref (a0 0)] [wModel E a0 (rf2 (a0 1) h0_1) v0] (fun rv g => rv = some (.int r.1) ∧ g = [wModel E a0 (rf2 (a0 1) h0_1) r.2]) := by
  refine ct_of (own := RX9) (by decide +kernel) rfl rfl (Nat.le_of_ble_eq_true rfl) (fun K C => ?_)
  refine ww_sub C (lv' := [(0, .ref (a0 0))]) [0] rfl ?_
  rw [Mod_bestWorst] at hf
  refine ww_aload_n C dX9_bestWorst_0 rfl 0 rfl ?_
  refine ww_iconst (v := 0) C dX9_bestWorst_1 (by decide) ?_
  obtain ⟨v0_2, e_v0_2⟩ : ∃ y : ModelV, y = Model_set_thrown v0 0 := ⟨_, rfl⟩
  replace hf := ltE e_v0_2 hf
  refine ww_put C clOK9 in_X9_bestWorst_X9 (w := wModel E a0 (rf2 (a0 1) h0_1) v0) (fs := fsModel a0 (rf2 (a0 1) h0_1) v0) (w' := wModel E a0 (rf2 (a0 1) h0_1) v0_2) (gs' := [wModel E a0 (rf2 (a0 1) h0_1) v0_2]) 0 0 5 rfl q_Model (by decide) (by decide +kernel) rfl rfl rfl rfl l_Model (by rw [e_v0_2]; exact p_Model_thrown) rfl dX9_bestWorst_2 ?_
  refine ww_aload_n C dX9_bestWorst_5 rfl 0 rfl ?_
  obtain ⟨p6, hp6, hf⟩ := bdE hf
  refine ww_callV C (As := []) (st := []) (gr := []) (c_X9_layBest (E := E) (a0 := a0) (h0_1 := h0_1) hp6) gX9_bestWorst_X9_layBest rfl yk_X9_layBest ⟨by decide, by decide⟩ ⟨by decide, by decide⟩ clOK9 0 0 rfl rfl [0] [] 1 rfl (by decide) rfl rfl (Nat.le_of_ble_eq_true rfl) dX9_bestWorst_6 ?_
  rintro _ _ ⟨rfl, rfl⟩
  refine ww_perm (gs' := [wModel E a0 (rf2 (a0 1) h0_1) p6]) [0] 1 rfl (by decide) rfl ?_
  refine ww_aload_n C dX9_bestWorst_9 rfl 0 rfl ?_
  refine ww_get C clOK9 in_X9_bestWorst_X9 (w := wModel E a0 (rf2 (a0 1) h0_1) p6) (fs := fsModel a0 (rf2 (a0 1) h0_1) p6) (v := .int (Model_leastWorst p6)) 0 0 17 rfl q_Model (by decide) (by decide +kernel) g_Model_leastWorst dX9_bestWorst_10 ?_
  obtain rfl := Option.some.inj hf
  exact ww_iret C ⟨rfl, rfl⟩ dX9_bestWorst_13

theorem yk_X9_bestWorst : yX9_bestWorst.cls = RX9 ∧ yX9_bestWorst.cls ≠ "java/lang/invoke/MethodHandle" ∧ yX9_bestWorst.cls ≠ "java/lang/invoke/VarHandle" ∧ (parseMethodDescriptor yX9_bestWorst.desc).map (fun d => d.parameters.length) = some 0 := by decide +kernel
abbrev rmX9_bestCrossings : Room := { frames := 9, cells := 0, slots := 0, locals := 203 }
set_option maxRecDepth 20000 in
theorem in_X9_bestCrossings_X9 : ∀ w ∈ u_ws RX9 TX9 35, w ∈ wsX9_bestCrossings := by decide +kernel
set_option maxHeartbeats 4000000 in
set_option maxRecDepth 100000 in
theorem c_X9_bestCrossings {E : Ex} {a0 : Nat → Nat} {h0_1 : Nat} {v0 : ModelV} {r : (Int32 × ModelV)} (hf : Mod_bestCrossings v0 = some r) : Ct E yX9_bestCrossings wsX9_bestCrossings rmX9_bestCrossings [.ref (a0 0)] [wModel E a0 (rf2 (a0 1) h0_1) v0] (fun rv g => rv = some (.int r.1) ∧ g = [wModel E a0 (rf2 (a0 1) h0_1) r.2]) := by
  refine ct_of (own := RX9) (by decide +kernel) rfl rfl (Nat.le_of_ble_eq_true rfl) (fun K C => ?_)
  refine ww_sub C (lv' := [(0, .ref (a0 0))]) [0] rfl ?_
  rw [Mod_bestCrossings] at hf
  refine ww_aload_n C dX9_bestCrossings_0 rfl 0 rfl ?_
  refine ww_iconst (v := 0) C dX9_bestCrossings_1 (by decide) ?_
  obtain ⟨v0_2, e_v0_2⟩ : ∃ y : ModelV, y = Model_set_thrown v0 0 := ⟨_, rfl⟩
  replace hf := ltE e_v0_2 hf
  refine ww_put C clOK9 in_X9_bestCrossings_X9 (w := wModel E a0 (rf2 (a0 1) h0_1) v0) (fs := fsModel a0 (rf2 (a0 1) h0_1) v0) (w' := wModel E a0 (rf2 (a0 1) h0_1) v0_2) (gs' := [wModel E a0 (rf2 (a0 1) h0_1) v0_2]) 0 0 5 rfl q_Model (by decide) (by decide +kernel) rfl rfl rfl rfl l_Model (by rw [e_v0_2]; exact p_Model_thrown) rfl dX9_bestCrossings_2 ?_
  refine ww_aload_n C dX9_bestCrossings_5 rfl 0 rfl ?_
  obtain ⟨p6, hp6, hf⟩ := bdE hf
  refine ww_callV C (As := []) (st := []) (gr := []) (c_X9_layBest (E := E) (a0 := a0) (h0_1 := h0_1) hp6) gX9_bestCrossings_X9_layBest rfl yk_X9_layBest ⟨by decide, by decide⟩ ⟨by decide, by decide⟩ clOK9 0 0 rfl rfl [0] [] 1 rfl (by decide) rfl rfl (Nat.le_of_ble_eq_true rfl) dX9_bestCrossings_6 ?_
  rintro _ _ ⟨rfl, rfl⟩
  refine ww_perm (gs' := [wModel E a0 (rf2 (a0 1) h0_1) p6]) [0] 1 rfl (by decide) rfl ?_
  refine ww_aload_n C dX9_bestCrossings_9 rfl 0 rfl ?_
  refine ww_get C clOK9 in_X9_bestCrossings_X9 (w := wModel E a0 (rf2 (a0 1) h0_1) p6) (fs := fsModel a0 (rf2 (a0 1) h0_1) p6) (v := .int (Model_leastCrossings p6)) 0 0 18 rfl q_Model (by decide) (by decide +kernel) g_Model_leastCrossings dX9_bestCrossings_10 ?_
  obtain rfl := Option.some.inj hf
  exact ww_iret C ⟨rfl, rfl⟩ dX9_bestCrossings_13

theorem yk_X9_bestCrossings : yX9_bestCrossings.cls = RX9 ∧ yX9_bestCrossings.cls ≠ "java/lang/invoke/MethodHandle" ∧ yX9_bestCrossings.cls ≠ "java/lang/invoke/VarHandle" ∧ (parseMethodDescriptor yX9_bestCrossings.desc).map (fun d => d.parameters.length) = some 0 := by decide +kernel
abbrev rmX9_bestPhase : Room := { frames := 9, cells := 0, slots := 0, locals := 203 }
set_option maxRecDepth 20000 in
theorem in_X9_bestPhase_X9 : ∀ w ∈ u_ws RX9 TX9 35, w ∈ wsX9_bestPhase := by decide +kernel
set_option maxHeartbeats 4000000 in
set_option maxRecDepth 100000 in
theorem c_X9_bestPhase {E : Ex} {a0 : Nat → Nat} {h0_1 : Nat} {x1 : Int32} {v0 : ModelV} {r : (Int32 × ModelV)} (hf : Mod_bestPhase x1 v0 = some r) : Ct E yX9_bestPhase wsX9_bestPhase rmX9_bestPhase [.ref (a0 0), .int x1] [wModel E a0 (rf2 (a0 1) h0_1) v0] (fun rv g => rv = some (.int r.1) ∧ g = [wModel E a0 (rf2 (a0 1) h0_1) r.2]) := by
  refine ct_of (own := RX9) (by decide +kernel) rfl rfl (Nat.le_of_ble_eq_true rfl) (fun K C => ?_)
  refine ww_sub C (lv' := [(0, .ref (a0 0)), (1, .int x1)]) [0, 1] rfl ?_
  rw [Mod_bestPhase] at hf
  refine ww_aload_n C dX9_bestPhase_0 rfl 0 rfl ?_
  refine ww_iconst (v := 0) C dX9_bestPhase_1 (by decide) ?_
  obtain ⟨v0_2, e_v0_2⟩ : ∃ y : ModelV, y = Model_set_thrown v0 0 := ⟨_, rfl⟩
  replace hf := ltE e_v0_2 hf
  refine ww_put C clOK9 in_X9_bestPhase_X9 (w := wModel E a0 (rf2 (a0 1) h0_1) v0) (fs := fsModel a0 (rf2 (a0 1) h0_1) v0) (w' := wModel E a0 (rf2 (a0 1) h0_1) v0_2) (gs' := [wModel E a0 (rf2 (a0 1) h0_1) v0_2]) 0 0 5 rfl q_Model (by decide) (by decide +kernel) rfl rfl rfl rfl l_Model (by rw [e_v0_2]; exact p_Model_thrown) rfl dX9_bestPhase_2 ?_
  refine ww_aload_n C dX9_bestPhase_5 rfl 0 rfl ?_
  refine ww_iload_n C dX9_bestPhase_6 rfl 1 rfl ?_
  obtain ⟨p7, hp7, hf⟩ := bdE hf
  refine ww_callV C (As := [.int x1]) (st := []) (gr := []) (c_X9_isGuard (E := E) (a0 := a0) (h0_1 := h0_1) hp7) gX9_bestPhase_X9_isGuard rfl yk_X9_isGuard ⟨by decide, by decide⟩ ⟨by decide, by decide⟩ clOK9 0 0 rfl rfl [0] [] 1 rfl (by decide) rfl rfl (Nat.le_of_ble_eq_true rfl) dX9_bestPhase_7 ?_
  rintro _ _ ⟨rfl, rfl⟩
  refine ww_perm (gs' := [wModel E a0 (rf2 (a0 1) h0_1) v0_2]) [0] 1 rfl (by decide) rfl ?_
  refine ww_if_neB (tgt := 19) C dX9_bestPhase_10 (by decide) (fun c_1 => ?_) (fun c_1 => ?_)
  · replace hf := btE c_1 hf
    refine ww_aload_n C dX9_bestPhase_19 rfl 0 rfl ?_
    obtain ⟨p20, hp20, hf⟩ := bdE hf
    refine ww_callV C (As := []) (st := []) (gr := []) (c_X9_layBest (E := E) (a0 := a0) (h0_1 := h0_1) hp20) gX9_bestPhase_X9_layBest rfl yk_X9_layBest ⟨by decide, by decide⟩ ⟨by decide, by decide⟩ clOK9 0 0 rfl rfl [0] [] 1 rfl (by decide) rfl rfl (Nat.le_of_ble_eq_true rfl) dX9_bestPhase_20 ?_
    rintro _ _ ⟨rfl, rfl⟩
    refine ww_perm (gs' := [wModel E a0 (rf2 (a0 1) h0_1) p20]) [0] 1 rfl (by decide) rfl ?_
    refine ww_aload_n C dX9_bestPhase_23 rfl 0 rfl ?_
    refine ww_get C clOK9 in_X9_bestPhase_X9 (w := wModel E a0 (rf2 (a0 1) h0_1) p20) (fs := fsModel a0 (rf2 (a0 1) h0_1) p20) (v := .ref (a0 12)) 0 0 16 rfl q_Model (by decide) (by decide +kernel) g_Model_bestPhases dX9_bestPhase_24 ?_
    refine ww_iload_n C dX9_bestPhase_27 rfl 1 rfl ?_
    obtain ⟨g_2, hf⟩ := gdE hf
    refine ww_iald C (f := Model_bestPhases p20) (w := wModel E a0 (rf2 (a0 1) h0_1) p20) 0 12 rfl c_Model_bestPhases (inB_vp g_2) dX9_bestPhase_28 ?_
    obtain rfl := Option.some.inj hf
    exact ww_iret C ⟨rfl, rfl⟩ dX9_bestPhase_29
  · replace hf := bfE c_1 hf
    refine ww_aload_n C dX9_bestPhase_13 rfl 0 rfl ?_
    refine ww_iconst (v := 1) C dX9_bestPhase_14 (by decide) ?_
    obtain ⟨p15, hp15, hf⟩ := bdE hf
    refine ww_callV C (As := [.int 1]) (st := []) (gr := []) (c_X9_raise (E := E) (a0 := a0) (h0_0 := a0 1) (h0_1 := h0_1) hp15) gX9_bestPhase_X9_raise rfl yk_X9_raise ⟨by decide, by decide⟩ ⟨by decide, by decide⟩ clOK9 0 0 rfl rfl [0] [] 1 rfl (by decide) rfl rfl (Nat.le_of_ble_eq_true rfl) dX9_bestPhase_15 ?_
    rintro _ _ ⟨rfl, rfl⟩
    refine ww_perm (gs' := [wModel E a0 (rf2 (a0 1) h0_1) p15.2]) [0] 1 rfl (by decide) rfl ?_
    obtain rfl := Option.some.inj hf
    exact ww_iret C ⟨rfl, rfl⟩ dX9_bestPhase_18

theorem yk_X9_bestPhase : yX9_bestPhase.cls = RX9 ∧ yX9_bestPhase.cls ≠ "java/lang/invoke/MethodHandle" ∧ yX9_bestPhase.cls ≠ "java/lang/invoke/VarHandle" ∧ (parseMethodDescriptor yX9_bestPhase.desc).map (fun d => d.parameters.length) = some 1 := by decide +kernel
abbrev rmX9_arrival : Room := { frames := 6, cells := 0, slots := 0, locals := 138 }
set_option maxRecDepth 20000 in
theorem in_X9_arrival_X9 : ∀ w ∈ u_ws RX9 TX9 35, w ∈ wsX9_arrival := by decide +kernel
set_option maxHeartbeats 4000000 in
set_option maxRecDepth 100000 in
theorem w_X9_arrival_67 {E : Ex} {K : Kx} (C : Cx E K cX9_arrival 7 (some .int) RX9 wsX9_arrival rmX9_arrival) {a0 : Nat → Nat} {h0_1 : Nat} {x1 : Int32} {x2 : Int32} {x3 : Int32} {x5 : Int32} {r : (Int32 × ModelV)} : ∀ (n : Nat) (x4 : Int32) (x6 : Int32) (v0 : ModelV), Mod_arrival_67 x1 x2 x3 x5 n x4 x6 v0 = some r → WW E K 0 0 (QQ E K (fun rv g => rv = some (.int r.1) ∧ g = [wModel E a0 (rf2 (a0 1) h0_1) r.2]) 0 0) 67 [(0, .ref (a0 0)), (2, .int x2), (3, .int x3), (4, .int x4), (5, .int x5), (6, .int x6)] [] [wModel E a0 (rf2 (a0 1) h0_1) v0] := by
  intro n
  induction n with
  | zero =>
    intro x4 x6 v0 hf
    simp [Mod_arrival_67] at hf
  | succ n ih =>
    intro x4 x6 v0 hf
    rw [Mod_arrival_67] at hf
    refine ww_iload C dX9_arrival_67 5 rfl ?_
    refine ww_iload C dX9_arrival_69 4 rfl ?_
    refine ww_icmp_gt (tgt := 111) C dX9_arrival_71 (by decide) (fun c_6 => ?_) (fun c_6 => ?_)
    · replace hf := ifT c_6 hf
      refine ww_iconst (v := (-1)) C dX9_arrival_111 (by decide) ?_
      obtain rfl := Option.some.inj hf
      exact ww_iret C ⟨rfl, rfl⟩ dX9_arrival_112
    · replace hf := ifF c_6 hf
      refine ww_iload C dX9_arrival_74 3 rfl ?_
      refine ww_if_eq (tgt := 111) C dX9_arrival_76 (by decide) (fun c_7 => ?_) (fun c_7 => ?_)
      · replace hf := ifT c_7 hf
        refine ww_iconst (v := (-1)) C dX9_arrival_111 (by decide) ?_
        obtain rfl := Option.some.inj hf
        exact ww_iret C ⟨rfl, rfl⟩ dX9_arrival_112
      · replace hf := ifF c_7 hf
        refine ww_iload C dX9_arrival_79 3 rfl ?_
        refine ww_iload_n C dX9_arrival_81 rfl 1 rfl ?_
        obtain ⟨p82, hp82, hf⟩ := bdE hf
        refine ww_callS C (As := [.int x4, .int x2]) (st := []) (gr := [wModel E a0 (rf2 (a0 1) h0_1) v0]) (c_X9_has (E := E)  hp82) gX9_arrival_X9_has rfl ysk_X9_has ⟨by decide, by decide⟩ ⟨by decide, by decide⟩ [] [0] 1 rfl (by decide) rfl rfl (Nat.le_of_ble_eq_true rfl) dX9_arrival_82 ?_
        rintro _ _ ⟨rfl, rfl⟩
        refine ww_perm (gs' := [wModel E a0 (rf2 (a0 1) h0_1) v0]) [0] 1 rfl (by decide) rfl ?_
        refine ww_if_eqB (tgt := 93) C dX9_arrival_85 (by decide) (fun c_8 => ?_) (fun c_8 => ?_)
        · replace hf := bfE c_8 hf
          refine ww_aload_n C dX9_arrival_93 rfl 0 rfl ?_
          refine ww_iload C dX9_arrival_94 3 rfl ?_
          refine ww_iload_n C dX9_arrival_96 rfl 2 rfl ?_
          refine ww_iload C dX9_arrival_97 5 rfl ?_
          refine ww_iadd C dX9_arrival_99 ?_
          obtain ⟨p100, hp100, hf⟩ := bdE hf
          refine ww_callV C (As := [.int x4, .int (x3 + x6)]) (st := []) (gr := []) (c_X9_nextRooms (E := E) (a0 := a0) (h0_1 := h0_1) hp100) gX9_arrival_X9_nextRooms rfl yk_X9_nextRooms ⟨by decide, by decide⟩ ⟨by decide, by decide⟩ clOK9 0 0 rfl rfl [0] [] 1 rfl (by decide) rfl rfl (Nat.le_of_ble_eq_true rfl) dX9_arrival_100 ?_
          rintro _ _ ⟨rfl, rfl⟩
          refine ww_perm (gs' := [wModel E a0 (rf2 (a0 1) h0_1) v0]) [0] 1 rfl (by decide) rfl ?_
          refine ww_istore (lv' := [(4, .int p100), (0, .ref (a0 0)), (2, .int x2), (3, .int x3), (5, .int x5), (6, .int x6)]) C dX9_arrival_103 (by decide) rfl ?_
          obtain ⟨x6_105, e_x6_105⟩ : ∃ y : Int32, y = x6 + 1 := ⟨_, rfl⟩
          replace hf := ltE e_x6_105 hf
          refine ww_iinc (v := x6_105) (lv' := [(6, .int x6_105), (4, .int p100), (0, .ref (a0 0)), (2, .int x2), (3, .int x3), (5, .int x5)]) C dX9_arrival_105 5 rfl (by rw [e_x6_105]; rfl) (by decide) rfl ?_
          refine ww_goto (tgt := 67) C dX9_arrival_108 (by decide) ?_
          refine ww_sub C (lv' := [(0, .ref (a0 0)), (2, .int x2), (3, .int x3), (4, .int p100), (5, .int x5), (6, .int x6_105)]) [2, 3, 4, 1, 5, 0] rfl ?_
          exact ih _ _ _ hf
        · replace hf := btE c_8 hf
          refine ww_iload_n C dX9_arrival_88 rfl 2 rfl ?_
          refine ww_iload C dX9_arrival_89 5 rfl ?_
          refine ww_iadd C dX9_arrival_91 ?_
          obtain rfl := Option.some.inj hf
          exact ww_iret C ⟨rfl, rfl⟩ dX9_arrival_92

set_option maxHeartbeats 4000000 in
set_option maxRecDepth 100000 in
theorem w_X9_arrival_33 {E : Ex} {K : Kx} (C : Cx E K cX9_arrival 7 (some .int) RX9 wsX9_arrival rmX9_arrival) {a0 : Nat → Nat} {h0_1 : Nat} {x1 : Int32} {x2 : Int32} {x3 : Int32}  {s0 : Int32} {v0 : ModelV} {r : (Int32 × ModelV)} (hf : Mod_arrival_33 x1 x2 x3 s0 v0 = some r) : WW E K 0 0 (QQ E K (fun rv g => rv = some (.int r.1) ∧ g = [wModel E a0 (rf2 (a0 1) h0_1) r.2]) 0 0) 33 [(0, .ref (a0 0)), (1, .int x1), (2, .int x2), (3, .int x3)] [.int s0, .ref (a0 0)] [wModel E a0 (rf2 (a0 1) h0_1) v0] := by
  rw [Mod_arrival_33] at hf
  obtain ⟨v0_33, e_v0_33⟩ : ∃ y : ModelV, y = Model_set_thrown v0 s0 := ⟨_, rfl⟩
  replace hf := ltE e_v0_33 hf
  refine ww_put C clOK9 in_X9_arrival_X9 (w := wModel E a0 (rf2 (a0 1) h0_1) v0) (fs := fsModel a0 (rf2 (a0 1) h0_1) v0) (w' := wModel E a0 (rf2 (a0 1) h0_1) v0_33) (gs' := [wModel E a0 (rf2 (a0 1) h0_1) v0_33]) 0 0 5 rfl q_Model (by decide) (by decide +kernel) rfl rfl rfl rfl l_Model (by rw [e_v0_33]; exact p_Model_thrown) rfl dX9_arrival_33 ?_
  refine ww_aload_n C dX9_arrival_36 rfl 0 rfl ?_
  refine ww_get C clOK9 in_X9_arrival_X9 (w := wModel E a0 (rf2 (a0 1) h0_1) v0_33) (fs := fsModel a0 (rf2 (a0 1) h0_1) v0_33) (v := .int (Model_thrown v0_33)) 0 0 5 rfl q_Model (by decide) (by decide +kernel) g_Model_thrown dX9_arrival_37 ?_
  refine ww_if_eq (tgt := 45) C dX9_arrival_40 (by decide) (fun c_4 => ?_) (fun c_4 => ?_)
  · replace hf := ifT c_4 hf
    refine ww_aload_n C dX9_arrival_45 rfl 0 rfl ?_
    refine ww_iload_n C dX9_arrival_46 rfl 1 rfl ?_
    refine ww_iload_n C dX9_arrival_47 rfl 3 rfl ?_
    obtain ⟨p48, hp48, hf⟩ := bdE hf
    refine ww_callV C (As := [.int x1, .int x3]) (st := []) (gr := []) (c_X9_firstRooms (E := E) (a0 := a0) (h0_1 := h0_1) hp48) gX9_arrival_X9_firstRooms rfl yk_X9_firstRooms ⟨by decide, by decide⟩ ⟨by decide, by decide⟩ clOK9 0 0 rfl rfl [0] [] 1 rfl (by decide) rfl rfl (Nat.le_of_ble_eq_true rfl) dX9_arrival_48 ?_
    rintro _ _ ⟨rfl, rfl⟩
    refine ww_perm (gs' := [wModel E a0 (rf2 (a0 1) h0_1) p48.2]) [0] 1 rfl (by decide) rfl ?_
    refine ww_istore (lv' := [(4, .int p48.1), (0, .ref (a0 0)), (1, .int x1), (2, .int x2), (3, .int x3)]) C dX9_arrival_51 (by decide) rfl ?_
    refine ww_aload_n C dX9_arrival_53 rfl 1 rfl ?_
    obtain ⟨p54, hp54, hf⟩ := bdE hf
    refine ww_callV C (As := []) (st := []) (gr := []) (c_X9_cycle (E := E) (a0 := a0) (h0_1 := h0_1) hp54) gX9_arrival_X9_cycle rfl yk_X9_cycle ⟨by decide, by decide⟩ ⟨by decide, by decide⟩ clOK9 0 0 rfl rfl [0] [] 1 rfl (by decide) rfl rfl (Nat.le_of_ble_eq_true rfl) dX9_arrival_54 ?_
    rintro _ _ ⟨rfl, rfl⟩
    refine ww_perm (gs' := [wModel E a0 (rf2 (a0 1) h0_1) p48.2]) [0] 1 rfl (by decide) rfl ?_
    refine ww_aload_n C dX9_arrival_57 rfl 1 rfl ?_
    obtain ⟨p58, hp58, hf⟩ := bdE hf
    refine ww_callV C (As := []) (st := [.int p54]) (gr := []) (c_X9_rooms (E := E) (a0 := a0) (h0_1 := h0_1) hp58) gX9_arrival_X9_rooms rfl yk_X9_rooms ⟨by decide, by decide⟩ ⟨by decide, by decide⟩ clOK9 0 0 rfl rfl [0] [] 1 rfl (by decide) rfl rfl (Nat.le_of_ble_eq_true rfl) dX9_arrival_58 ?_
    rintro _ _ ⟨rfl, rfl⟩
    refine ww_perm (gs' := [wModel E a0 (rf2 (a0 1) h0_1) p48.2]) [0] 1 rfl (by decide) rfl ?_
    refine ww_imul C dX9_arrival_61 ?_
    refine ww_topi (fun x5_62 e_x5_62 => ?_)
    replace hf := ltE e_x5_62 hf
    refine ww_istore (lv' := [(5, .int x5_62), (4, .int p48.1), (0, .ref (a0 0)), (1, .int x1), (2, .int x2), (3, .int x3)]) C dX9_arrival_62 (by decide) rfl ?_
    refine ww_iconst (v := 0) C dX9_arrival_64 (by decide) ?_
    refine ww_istore (lv' := [(6, .int 0), (5, .int x5_62), (4, .int p48.1), (0, .ref (a0 0)), (1, .int x1), (2, .int x2), (3, .int x3)]) C dX9_arrival_65 (by decide) rfl ?_
    refine ww_sub C (lv' := [(0, .ref (a0 0)), (2, .int x2), (3, .int x3), (4, .int p48.1), (5, .int x5_62), (6, .int 0)]) [3, 5, 6, 2, 1, 0] rfl ?_
    exact w_X9_arrival_67 C FU _ _ _ hf
  · replace hf := ifF c_4 hf
    refine ww_iconst (v := 0) C dX9_arrival_43 (by decide) ?_
    obtain rfl := Option.some.inj hf
    exact ww_iret C ⟨rfl, rfl⟩ dX9_arrival_44

set_option maxHeartbeats 4000000 in
set_option maxRecDepth 100000 in
theorem w_X9_arrival_17 {E : Ex} {K : Kx} (C : Cx E K cX9_arrival 7 (some .int) RX9 wsX9_arrival rmX9_arrival) {a0 : Nat → Nat} {h0_1 : Nat} {x1 : Int32} {x2 : Int32} {x3 : Int32}  {v0 : ModelV} {r : (Int32 × ModelV)} (hf : Mod_arrival_17 x1 x2 x3 v0 = some r) : WW E K 0 0 (QQ E K (fun rv g => rv = some (.int r.1) ∧ g = [wModel E a0 (rf2 (a0 1) h0_1) r.2]) 0 0) 17 [(0, .ref (a0 0)), (1, .int x1), (2, .int x2), (3, .int x3)] [.ref (a0 0)] [wModel E a0 (rf2 (a0 1) h0_1) v0] := by
  rw [Mod_arrival_17] at hf
  refine ww_iconst (v := 1) C dX9_arrival_17 (by decide) ?_
  refine ww_goto (tgt := 33) C dX9_arrival_18 (by decide) ?_
  refine ww_sub C (lv' := [(0, .ref (a0 0)), (1, .int x1), (2, .int x2), (3, .int x3)]) [0, 1, 2, 3] rfl ?_
  exact w_X9_arrival_33 C hf

set_option maxHeartbeats 4000000 in
set_option maxRecDepth 100000 in
theorem c_X9_arrival {E : Ex} {a0 : Nat → Nat} {h0_1 : Nat} {x1 : Int32} {x2 : Int32} {x3 : Int32} {v0 : ModelV} {r : (Int32 × ModelV)} (hf : Mod_arrival x1 x2 x3 v0 = some r) : Ct E yX9_arrival wsX9_arrival rmX9_arrival [.ref (a0 0), .int x1, .int x2, .int x3] [wModel E a0 (rf2 (a0 1) h0_1) v0] (fun rv g => rv = some (.int r.1) ∧ g = [wModel E a0 (rf2 (a0 1) h0_1) r.2]) := by
  refine ct_of (own := RX9) (by decide +kernel) rfl rfl (Nat.le_of_ble_eq_true rfl) (fun K C => ?_)
  refine ww_sub C (lv' := [(0, .ref (a0 0)), (1, .int x1), (2, .int x2), (3, .int x3)]) [0, 1, 2, 3] rfl ?_
  rw [Mod_arrival] at hf
  refine ww_aload_n C dX9_arrival_0 rfl 0 rfl ?_
  refine ww_aload_n C dX9_arrival_1 rfl 0 rfl ?_
  refine ww_iload_n C dX9_arrival_2 rfl 1 rfl ?_
  obtain ⟨p3, hp3, hf⟩ := bdE hf
  refine ww_callV C (As := [.int x1]) (st := [.ref (a0 0)]) (gr := []) (c_X9_isRoom (E := E) (a0 := a0) (h0_1 := h0_1) hp3) gX9_arrival_X9_isRoom rfl yk_X9_isRoom ⟨by decide, by decide⟩ ⟨by decide, by decide⟩ clOK9 0 0 rfl rfl [0] [] 1 rfl (by decide) rfl rfl (Nat.le_of_ble_eq_true rfl) dX9_arrival_3 ?_
  rintro _ _ ⟨rfl, rfl⟩
  refine ww_perm (gs' := [wModel E a0 (rf2 (a0 1) h0_1) v0]) [0] 1 rfl (by decide) rfl ?_
  refine ww_if_eqB (tgt := 17) C dX9_arrival_6 (by decide) (fun c_1 => ?_) (fun c_1 => ?_)
  · replace hf := bfE c_1 hf
    refine ww_sub C (lv' := [(0, .ref (a0 0)), (1, .int x1), (2, .int x2), (3, .int x3)]) [0, 1, 2, 3] rfl ?_
    exact w_X9_arrival_17 C hf
  · replace hf := btE c_1 hf
    refine ww_aload_n C dX9_arrival_9 rfl 0 rfl ?_
    refine ww_iload_n C dX9_arrival_10 rfl 2 rfl ?_
    obtain ⟨p11, hp11, hf⟩ := bdE hf
    refine ww_callV C (As := [.int x2]) (st := [.ref (a0 0)]) (gr := []) (c_X9_isRoom (E := E) (a0 := a0) (h0_1 := h0_1) hp11) gX9_arrival_X9_isRoom rfl yk_X9_isRoom ⟨by decide, by decide⟩ ⟨by decide, by decide⟩ clOK9 0 0 rfl rfl [0] [] 1 rfl (by decide) rfl rfl (Nat.le_of_ble_eq_true rfl) dX9_arrival_11 ?_
    rintro _ _ ⟨rfl, rfl⟩
    refine ww_perm (gs' := [wModel E a0 (rf2 (a0 1) h0_1) v0]) [0] 1 rfl (by decide) rfl ?_
    refine ww_if_neB (tgt := 21) C dX9_arrival_14 (by decide) (fun c_2 => ?_) (fun c_2 => ?_)
    · replace hf := btE c_2 hf
      refine ww_iload_n C dX9_arrival_21 rfl 3 rfl ?_
      obtain ⟨p22, hp22, hf⟩ := bdE hf
      refine ww_callS C (As := [.int x3]) (st := [.ref (a0 0)]) (gr := [wModel E a0 (rf2 (a0 1) h0_1) v0]) (c_X9_isMinute (E := E)  hp22) gX9_arrival_X9_isMinute rfl ysk_X9_isMinute ⟨by decide, by decide⟩ ⟨by decide, by decide⟩ [] [0] 1 rfl (by decide) rfl rfl (Nat.le_of_ble_eq_true rfl) dX9_arrival_22 ?_
      rintro _ _ ⟨rfl, rfl⟩
      refine ww_perm (gs' := [wModel E a0 (rf2 (a0 1) h0_1) v0]) [0] 1 rfl (by decide) rfl ?_
      refine ww_if_eqB (tgt := 32) C dX9_arrival_25 (by decide) (fun c_3 => ?_) (fun c_3 => ?_)
      · replace hf := bfE c_3 hf
        refine ww_iconst (v := 2) C dX9_arrival_32 (by decide) ?_
        refine ww_sub C (lv' := [(0, .ref (a0 0)), (1, .int x1), (2, .int x2), (3, .int x3)]) [0, 1, 2, 3] rfl ?_
        exact w_X9_arrival_33 C hf
      · replace hf := btE c_3 hf
        refine ww_iconst (v := 0) C dX9_arrival_28 (by decide) ?_
        refine ww_goto (tgt := 33) C dX9_arrival_29 (by decide) ?_
        refine ww_sub C (lv' := [(0, .ref (a0 0)), (1, .int x1), (2, .int x2), (3, .int x3)]) [0, 1, 2, 3] rfl ?_
        exact w_X9_arrival_33 C hf
    · replace hf := bfE c_2 hf
      refine ww_sub C (lv' := [(0, .ref (a0 0)), (1, .int x1), (2, .int x2), (3, .int x3)]) [0, 1, 2, 3] rfl ?_
      exact w_X9_arrival_17 C hf

theorem yk_X9_arrival : yX9_arrival.cls = RX9 ∧ yX9_arrival.cls ≠ "java/lang/invoke/MethodHandle" ∧ yX9_arrival.cls ≠ "java/lang/invoke/VarHandle" ∧ (parseMethodDescriptor yX9_arrival.desc).map (fun d => d.parameters.length) = some 3 := by decide +kernel
abbrev rmX9_hiding : Room := { frames := 6, cells := 0, slots := 0, locals := 138 }
set_option maxRecDepth 20000 in
theorem in_X9_hiding_X9 : ∀ w ∈ u_ws RX9 TX9 35, w ∈ wsX9_hiding := by decide +kernel
set_option maxHeartbeats 4000000 in
set_option maxRecDepth 100000 in
theorem w_X9_hiding_58 {E : Ex} {K : Kx} (C : Cx E K cX9_hiding 6 (some .int) RX9 wsX9_hiding rmX9_hiding) {a0 : Nat → Nat} {h0_1 : Nat} {x1 : Int32} {x2 : Int32} {x3 : Int32}  {r : (Int32 × ModelV)} : ∀ (n : Nat) (x4 : Int32) (x5 : Int32) (v0 : ModelV), Mod_hiding_58 x1 x2 x3 n x4 x5 v0 = some r → WW E K 0 0 (QQ E K (fun rv g => rv = some (.int r.1) ∧ g = [wModel E a0 (rf2 (a0 1) h0_1) r.2]) 0 0) 58 [(0, .ref (a0 0)), (2, .int x2), (3, .int x3), (4, .int x4), (5, .int x5)] [] [wModel E a0 (rf2 (a0 1) h0_1) v0] := by
  intro n
  induction n with
  | zero =>
    intro x4 x5 v0 hf
    simp [Mod_hiding_58] at hf
  | succ n ih =>
    intro x4 x5 v0 hf
    rw [Mod_hiding_58] at hf
    refine ww_iload C dX9_hiding_58 4 rfl ?_
    refine ww_iload_n C dX9_hiding_60 rfl 2 rfl ?_
    refine ww_icmp_ge (tgt := 82) C dX9_hiding_61 (by decide) (fun c_5 => ?_) (fun c_5 => ?_)
    · replace hf := ifT c_5 hf
      refine ww_iload C dX9_hiding_82 3 rfl ?_
      obtain rfl := Option.some.inj hf
      exact ww_iret C ⟨rfl, rfl⟩ dX9_hiding_84
    · replace hf := ifF c_5 hf
      refine ww_aload_n C dX9_hiding_64 rfl 0 rfl ?_
      refine ww_iload C dX9_hiding_65 3 rfl ?_
      refine ww_iload_n C dX9_hiding_67 rfl 1 rfl ?_
      refine ww_iload C dX9_hiding_68 4 rfl ?_
      refine ww_iadd C dX9_hiding_70 ?_
      obtain ⟨p71, hp71, hf⟩ := bdE hf
      refine ww_callV C (As := [.int x4, .int (x2 + x5)]) (st := []) (gr := []) (c_X9_nextRooms (E := E) (a0 := a0) (h0_1 := h0_1) hp71) gX9_hiding_X9_nextRooms rfl yk_X9_nextRooms ⟨by decide, by decide⟩ ⟨by decide, by decide⟩ clOK9 0 0 rfl rfl [0] [] 1 rfl (by decide) rfl rfl (Nat.le_of_ble_eq_true rfl) dX9_hiding_71 ?_
      rintro _ _ ⟨rfl, rfl⟩
      refine ww_perm (gs' := [wModel E a0 (rf2 (a0 1) h0_1) v0]) [0] 1 rfl (by decide) rfl ?_
      refine ww_istore (lv' := [(4, .int p71), (0, .ref (a0 0)), (2, .int x2), (3, .int x3), (5, .int x5)]) C dX9_hiding_74 (by decide) rfl ?_
      obtain ⟨x5_76, e_x5_76⟩ : ∃ y : Int32, y = x5 + 1 := ⟨_, rfl⟩
      replace hf := ltE e_x5_76 hf
      refine ww_iinc (v := x5_76) (lv' := [(5, .int x5_76), (4, .int p71), (0, .ref (a0 0)), (2, .int x2), (3, .int x3)]) C dX9_hiding_76 4 rfl (by rw [e_x5_76]; rfl) (by decide) rfl ?_
      refine ww_goto (tgt := 58) C dX9_hiding_79 (by decide) ?_
      refine ww_sub C (lv' := [(0, .ref (a0 0)), (2, .int x2), (3, .int x3), (4, .int p71), (5, .int x5_76)]) [2, 3, 4, 1, 0] rfl ?_
      exact ih _ _ _ hf

set_option maxHeartbeats 4000000 in
set_option maxRecDepth 100000 in
theorem w_X9_hiding_35 {E : Ex} {K : Kx} (C : Cx E K cX9_hiding 6 (some .int) RX9 wsX9_hiding rmX9_hiding) {a0 : Nat → Nat} {h0_1 : Nat} {x1 : Int32} {x2 : Int32} {x3 : Int32}  {s0 : Int32} {v0 : ModelV} {r : (Int32 × ModelV)} (hf : Mod_hiding_35 x1 x2 x3 s0 v0 = some r) : WW E K 0 0 (QQ E K (fun rv g => rv = some (.int r.1) ∧ g = [wModel E a0 (rf2 (a0 1) h0_1) r.2]) 0 0) 35 [(0, .ref (a0 0)), (1, .int x1), (2, .int x2), (3, .int x3)] [.int s0, .ref (a0 0)] [wModel E a0 (rf2 (a0 1) h0_1) v0] := by
  rw [Mod_hiding_35] at hf
  obtain ⟨v0_35, e_v0_35⟩ : ∃ y : ModelV, y = Model_set_thrown v0 s0 := ⟨_, rfl⟩
  replace hf := ltE e_v0_35 hf
  refine ww_put C clOK9 in_X9_hiding_X9 (w := wModel E a0 (rf2 (a0 1) h0_1) v0) (fs := fsModel a0 (rf2 (a0 1) h0_1) v0) (w' := wModel E a0 (rf2 (a0 1) h0_1) v0_35) (gs' := [wModel E a0 (rf2 (a0 1) h0_1) v0_35]) 0 0 5 rfl q_Model (by decide) (by decide +kernel) rfl rfl rfl rfl l_Model (by rw [e_v0_35]; exact p_Model_thrown) rfl dX9_hiding_35 ?_
  refine ww_aload_n C dX9_hiding_38 rfl 0 rfl ?_
  refine ww_get C clOK9 in_X9_hiding_X9 (w := wModel E a0 (rf2 (a0 1) h0_1) v0_35) (fs := fsModel a0 (rf2 (a0 1) h0_1) v0_35) (v := .int (Model_thrown v0_35)) 0 0 5 rfl q_Model (by decide) (by decide +kernel) g_Model_thrown dX9_hiding_39 ?_
  refine ww_if_eq (tgt := 47) C dX9_hiding_42 (by decide) (fun c_4 => ?_) (fun c_4 => ?_)
  · replace hf := ifT c_4 hf
    refine ww_aload_n C dX9_hiding_47 rfl 0 rfl ?_
    refine ww_iload_n C dX9_hiding_48 rfl 1 rfl ?_
    refine ww_iload_n C dX9_hiding_49 rfl 2 rfl ?_
    obtain ⟨p50, hp50, hf⟩ := bdE hf
    refine ww_callV C (As := [.int x1, .int x2]) (st := []) (gr := []) (c_X9_firstRooms (E := E) (a0 := a0) (h0_1 := h0_1) hp50) gX9_hiding_X9_firstRooms rfl yk_X9_firstRooms ⟨by decide, by decide⟩ ⟨by decide, by decide⟩ clOK9 0 0 rfl rfl [0] [] 1 rfl (by decide) rfl rfl (Nat.le_of_ble_eq_true rfl) dX9_hiding_50 ?_
    rintro _ _ ⟨rfl, rfl⟩
    refine ww_perm (gs' := [wModel E a0 (rf2 (a0 1) h0_1) p50.2]) [0] 1 rfl (by decide) rfl ?_
    refine ww_istore (lv' := [(4, .int p50.1), (0, .ref (a0 0)), (1, .int x1), (2, .int x2), (3, .int x3)]) C dX9_hiding_53 (by decide) rfl ?_
    refine ww_iconst (v := 0) C dX9_hiding_55 (by decide) ?_
    refine ww_istore (lv' := [(5, .int 0), (4, .int p50.1), (0, .ref (a0 0)), (1, .int x1), (2, .int x2), (3, .int x3)]) C dX9_hiding_56 (by decide) rfl ?_
    refine ww_sub C (lv' := [(0, .ref (a0 0)), (2, .int x2), (3, .int x3), (4, .int p50.1), (5, .int 0)]) [2, 4, 5, 1, 0] rfl ?_
    exact w_X9_hiding_58 C FU _ _ _ hf
  · replace hf := ifF c_4 hf
    refine ww_iconst (v := 0) C dX9_hiding_45 (by decide) ?_
    obtain rfl := Option.some.inj hf
    exact ww_iret C ⟨rfl, rfl⟩ dX9_hiding_46

set_option maxHeartbeats 4000000 in
set_option maxRecDepth 100000 in
theorem w_X9_hiding_34 {E : Ex} {K : Kx} (C : Cx E K cX9_hiding 6 (some .int) RX9 wsX9_hiding rmX9_hiding) {a0 : Nat → Nat} {h0_1 : Nat} {x1 : Int32} {x2 : Int32} {x3 : Int32}  {v0 : ModelV} {r : (Int32 × ModelV)} (hf : Mod_hiding_34 x1 x2 x3 v0 = some r) : WW E K 0 0 (QQ E K (fun rv g => rv = some (.int r.1) ∧ g = [wModel E a0 (rf2 (a0 1) h0_1) r.2]) 0 0) 34 [(0, .ref (a0 0)), (1, .int x1), (2, .int x2), (3, .int x3)] [.ref (a0 0)] [wModel E a0 (rf2 (a0 1) h0_1) v0] := by
  rw [Mod_hiding_34] at hf
  refine ww_iconst (v := 2) C dX9_hiding_34 (by decide) ?_
  refine ww_sub C (lv' := [(0, .ref (a0 0)), (1, .int x1), (2, .int x2), (3, .int x3)]) [0, 1, 2, 3] rfl ?_
  exact w_X9_hiding_35 C hf

set_option maxHeartbeats 4000000 in
set_option maxRecDepth 100000 in
theorem c_X9_hiding {E : Ex} {a0 : Nat → Nat} {h0_1 : Nat} {x1 : Int32} {x2 : Int32} {x3 : Int32} {v0 : ModelV} {r : (Int32 × ModelV)} (hf : Mod_hiding x1 x2 x3 v0 = some r) : Ct E yX9_hiding wsX9_hiding rmX9_hiding [.ref (a0 0), .int x1, .int x2, .int x3] [wModel E a0 (rf2 (a0 1) h0_1) v0] (fun rv g => rv = some (.int r.1) ∧ g = [wModel E a0 (rf2 (a0 1) h0_1) r.2]) := by
  refine ct_of (own := RX9) (by decide +kernel) rfl rfl (Nat.le_of_ble_eq_true rfl) (fun K C => ?_)
  refine ww_sub C (lv' := [(0, .ref (a0 0)), (1, .int x1), (2, .int x2), (3, .int x3)]) [0, 1, 2, 3] rfl ?_
  rw [Mod_hiding] at hf
  refine ww_aload_n C dX9_hiding_0 rfl 0 rfl ?_
  refine ww_aload_n C dX9_hiding_1 rfl 0 rfl ?_
  refine ww_iload_n C dX9_hiding_2 rfl 1 rfl ?_
  obtain ⟨p3, hp3, hf⟩ := bdE hf
  refine ww_callV C (As := [.int x1]) (st := [.ref (a0 0)]) (gr := []) (c_X9_isRoom (E := E) (a0 := a0) (h0_1 := h0_1) hp3) gX9_hiding_X9_isRoom rfl yk_X9_isRoom ⟨by decide, by decide⟩ ⟨by decide, by decide⟩ clOK9 0 0 rfl rfl [0] [] 1 rfl (by decide) rfl rfl (Nat.le_of_ble_eq_true rfl) dX9_hiding_3 ?_
  rintro _ _ ⟨rfl, rfl⟩
  refine ww_perm (gs' := [wModel E a0 (rf2 (a0 1) h0_1) v0]) [0] 1 rfl (by decide) rfl ?_
  refine ww_if_neB (tgt := 13) C dX9_hiding_6 (by decide) (fun c_1 => ?_) (fun c_1 => ?_)
  · replace hf := btE c_1 hf
    refine ww_iload_n C dX9_hiding_13 rfl 2 rfl ?_
    obtain ⟨p14, hp14, hf⟩ := bdE hf
    refine ww_callS C (As := [.int x2]) (st := [.ref (a0 0)]) (gr := [wModel E a0 (rf2 (a0 1) h0_1) v0]) (c_X9_isMinute (E := E)  hp14) gX9_hiding_X9_isMinute rfl ysk_X9_isMinute ⟨by decide, by decide⟩ ⟨by decide, by decide⟩ [] [0] 1 rfl (by decide) rfl rfl (Nat.le_of_ble_eq_true rfl) dX9_hiding_14 ?_
    rintro _ _ ⟨rfl, rfl⟩
    refine ww_perm (gs' := [wModel E a0 (rf2 (a0 1) h0_1) v0]) [0] 1 rfl (by decide) rfl ?_
    refine ww_if_eqB (tgt := 34) C dX9_hiding_17 (by decide) (fun c_2 => ?_) (fun c_2 => ?_)
    · replace hf := bfE c_2 hf
      refine ww_sub C (lv' := [(0, .ref (a0 0)), (1, .int x1), (2, .int x2), (3, .int x3)]) [0, 1, 2, 3] rfl ?_
      exact w_X9_hiding_34 C hf
    · replace hf := btE c_2 hf
      refine ww_iload_n C dX9_hiding_20 rfl 3 rfl ?_
      refine ww_iconst (v := 0) C dX9_hiding_21 (by decide) ?_
      refine ww_bipush (v := 100) C dX9_hiding_22 (by decide) ?_
      obtain ⟨p24, hp24, hf⟩ := bdE hf
      refine ww_callS C (As := [.int x3, .int 0, .int 100]) (st := [.ref (a0 0)]) (gr := [wModel E a0 (rf2 (a0 1) h0_1) v0]) (c_X9_inRange (E := E)  hp24) gX9_hiding_X9_inRange rfl ysk_X9_inRange ⟨by decide, by decide⟩ ⟨by decide, by decide⟩ [] [0] 1 rfl (by decide) rfl rfl (Nat.le_of_ble_eq_true rfl) dX9_hiding_24 ?_
      rintro _ _ ⟨rfl, rfl⟩
      refine ww_perm (gs' := [wModel E a0 (rf2 (a0 1) h0_1) v0]) [0] 1 rfl (by decide) rfl ?_
      refine ww_if_eqB (tgt := 34) C dX9_hiding_27 (by decide) (fun c_3 => ?_) (fun c_3 => ?_)
      · replace hf := bfE c_3 hf
        refine ww_sub C (lv' := [(0, .ref (a0 0)), (1, .int x1), (2, .int x2), (3, .int x3)]) [0, 1, 2, 3] rfl ?_
        exact w_X9_hiding_34 C hf
      · replace hf := btE c_3 hf
        refine ww_iconst (v := 0) C dX9_hiding_30 (by decide) ?_
        refine ww_goto (tgt := 35) C dX9_hiding_31 (by decide) ?_
        refine ww_sub C (lv' := [(0, .ref (a0 0)), (1, .int x1), (2, .int x2), (3, .int x3)]) [0, 1, 2, 3] rfl ?_
        exact w_X9_hiding_35 C hf
  · replace hf := bfE c_1 hf
    refine ww_iconst (v := 1) C dX9_hiding_9 (by decide) ?_
    refine ww_goto (tgt := 35) C dX9_hiding_10 (by decide) ?_
    refine ww_sub C (lv' := [(0, .ref (a0 0)), (1, .int x1), (2, .int x2), (3, .int x3)]) [0, 1, 2, 3] rfl ?_
    exact w_X9_hiding_35 C hf

theorem yk_X9_hiding : yX9_hiding.cls = RX9 ∧ yX9_hiding.cls ≠ "java/lang/invoke/MethodHandle" ∧ yX9_hiding.cls ≠ "java/lang/invoke/VarHandle" ∧ (parseMethodDescriptor yX9_hiding.desc).map (fun d => d.parameters.length) = some 3 := by decide +kernel
abbrev rmX9_longestStay : Room := { frames := 6, cells := 0, slots := 0, locals := 138 }
set_option maxRecDepth 20000 in
theorem in_X9_longestStay_X9 : ∀ w ∈ u_ws RX9 TX9 35, w ∈ wsX9_longestStay := by decide +kernel
set_option maxHeartbeats 4000000 in
set_option maxRecDepth 100000 in
theorem w_X9_longestStay_37 {E : Ex} {K : Kx} (C : Cx E K cX9_longestStay 3 (some .int) RX9 wsX9_longestStay rmX9_longestStay) {a0 : Nat → Nat} {h0_1 : Nat}   {r : (Int32 × ModelV)} : ∀ (n : Nat) (x1 : Int32) (x2 : Int32) (v0 : ModelV), Mod_longestStay_37 n x1 x2 v0 = some r → WW E K 0 0 (QQ E K (fun rv g => rv = some (.int r.1) ∧ g = [wModel E a0 (rf2 (a0 1) h0_1) r.2]) 0 0) 37 [(0, .ref (a0 0)), (1, .int x1), (2, .int x2)] [] [wModel E a0 (rf2 (a0 1) h0_1) v0] := by
  intro n
  induction n with
  | zero =>
    intro x1 x2 v0 hf
    simp [Mod_longestStay_37] at hf
  | succ n ih =>
    intro x1 x2 v0 hf
    rw [Mod_longestStay_37] at hf
    refine ww_iload_n C dX9_longestStay_37 rfl 1 rfl ?_
    refine ww_if_eq (tgt := 67) C dX9_longestStay_38 (by decide) (fun c_3 => ?_) (fun c_3 => ?_)
    · replace hf := ifT c_3 hf
      refine ww_iload_n C dX9_longestStay_67 rfl 2 rfl ?_
      obtain rfl := Option.some.inj hf
      exact ww_iret C ⟨rfl, rfl⟩ dX9_longestStay_68
    · replace hf := ifF c_3 hf
      refine ww_iload_n C dX9_longestStay_41 rfl 2 rfl ?_
      refine ww_bipush (v := 100) C dX9_longestStay_42 (by decide) ?_
      refine ww_icmp_ge (tgt := 67) C dX9_longestStay_44 (by decide) (fun c_4 => ?_) (fun c_4 => ?_)
      · replace hf := ifT c_4 hf
        refine ww_iload_n C dX9_longestStay_67 rfl 2 rfl ?_
        obtain rfl := Option.some.inj hf
        exact ww_iret C ⟨rfl, rfl⟩ dX9_longestStay_68
      · replace hf := ifF c_4 hf
        obtain ⟨x2_47, e_x2_47⟩ : ∃ y : Int32, y = x2 + 1 := ⟨_, rfl⟩
        replace hf := ltE e_x2_47 hf
        refine ww_iinc (v := x2_47) (lv' := [(2, .int x2_47), (0, .ref (a0 0)), (1, .int x1)]) C dX9_longestStay_47 2 rfl (by rw [e_x2_47]; rfl) (by decide) rfl ?_
        refine ww_aload_n C dX9_longestStay_50 rfl 1 rfl ?_
        refine ww_iload_n C dX9_longestStay_51 rfl 2 rfl ?_
        refine ww_aload_n C dX9_longestStay_52 rfl 1 rfl ?_
        refine ww_get C clOK9 in_X9_longestStay_X9 (w := wModel E a0 (rf2 (a0 1) h0_1) v0) (fs := fsModel a0 (rf2 (a0 1) h0_1) v0) (v := .ref (a0 1)) 0 0 0 rfl q_Model (by decide) (by decide +kernel) g_Model_now dX9_longestStay_53 ?_
        refine ww_iconst (v := 3) C dX9_longestStay_56 (by decide) ?_
        obtain ⟨g_5, hf⟩ := gdE hf
        refine ww_iald C (f := Model_now v0) (w := wModel E a0 (rf2 (a0 1) h0_1) v0) 0 1 rfl c_Model_now (inB_vp g_5) dX9_longestStay_57 ?_
        refine ww_iload_n C dX9_longestStay_58 rfl 0 rfl ?_
        refine ww_iadd C dX9_longestStay_59 ?_
        obtain ⟨p60, hp60, hf⟩ := bdE hf
        refine ww_callV C (As := [.int x1, .int (((Model_now v0) (Int32.toNatClampNeg 3)) + x2_47)]) (st := []) (gr := []) (c_X9_nextRooms (E := E) (a0 := a0) (h0_1 := h0_1) hp60) gX9_longestStay_X9_nextRooms rfl yk_X9_nextRooms ⟨by decide, by decide⟩ ⟨by decide, by decide⟩ clOK9 0 0 rfl rfl [0] [] 1 rfl (by decide) rfl rfl (Nat.le_of_ble_eq_true rfl) dX9_longestStay_60 ?_
        rintro _ _ ⟨rfl, rfl⟩
        refine ww_perm (gs' := [wModel E a0 (rf2 (a0 1) h0_1) v0]) [0] 1 rfl (by decide) rfl ?_
        refine ww_istore_n (lv' := [(1, .int p60), (2, .int x2_47), (0, .ref (a0 0))]) C dX9_longestStay_63 rfl (by decide) rfl ?_
        refine ww_goto (tgt := 37) C dX9_longestStay_64 (by decide) ?_
        refine ww_sub C (lv' := [(0, .ref (a0 0)), (1, .int p60), (2, .int x2_47)]) [2, 0, 1] rfl ?_
        exact ih _ _ _ hf

set_option maxHeartbeats 4000000 in
set_option maxRecDepth 100000 in
theorem c_X9_longestStay {E : Ex} {a0 : Nat → Nat} {h0_1 : Nat} {v0 : ModelV} {r : (Int32 × ModelV)} (hf : Mod_longestStay v0 = some r) : Ct E yX9_longestStay wsX9_longestStay rmX9_longestStay [.ref (a0 0)] [wModel E a0 (rf2 (a0 1) h0_1) v0] (fun rv g => rv = some (.int r.1) ∧ g = [wModel E a0 (rf2 (a0 1) h0_1) r.2]) := by
  refine ct_of (own := RX9) (by decide +kernel) rfl rfl (Nat.le_of_ble_eq_true rfl) (fun K C => ?_)
  refine ww_sub C (lv' := [(0, .ref (a0 0))]) [0] rfl ?_
  rw [Mod_longestStay] at hf
  refine ww_aload_n C dX9_longestStay_0 rfl 0 rfl ?_
  refine ww_iconst (v := 0) C dX9_longestStay_1 (by decide) ?_
  obtain ⟨v0_2, e_v0_2⟩ : ∃ y : ModelV, y = Model_set_thrown v0 0 := ⟨_, rfl⟩
  replace hf := ltE e_v0_2 hf
  refine ww_put C clOK9 in_X9_longestStay_X9 (w := wModel E a0 (rf2 (a0 1) h0_1) v0) (fs := fsModel a0 (rf2 (a0 1) h0_1) v0) (w' := wModel E a0 (rf2 (a0 1) h0_1) v0_2) (gs' := [wModel E a0 (rf2 (a0 1) h0_1) v0_2]) 0 0 5 rfl q_Model (by decide) (by decide +kernel) rfl rfl rfl rfl l_Model (by rw [e_v0_2]; exact p_Model_thrown) rfl dX9_longestStay_2 ?_
  refine ww_aload_n C dX9_longestStay_5 rfl 0 rfl ?_
  obtain ⟨p6, hp6, hf⟩ := bdE hf
  refine ww_callV C (As := []) (st := []) (gr := []) (c_X9_takePhases (E := E) (a0 := a0) (h0_1 := h0_1) hp6) gX9_longestStay_X9_takePhases rfl yk_X9_takePhases ⟨by decide, by decide⟩ ⟨by decide, by decide⟩ clOK9 0 0 rfl rfl [0] [] 1 rfl (by decide) rfl rfl (Nat.le_of_ble_eq_true rfl) dX9_longestStay_6 ?_
  rintro _ _ ⟨rfl, rfl⟩
  refine ww_perm (gs' := [wModel E a0 (rf2 (a0 1) h0_1) p6]) [0] 1 rfl (by decide) rfl ?_
  refine ww_aload_n C dX9_longestStay_9 rfl 0 rfl ?_
  obtain ⟨p10, hp10, hf⟩ := bdE hf
  refine ww_callV C (As := []) (st := []) (gr := []) (c_X9_layJoined (E := E) (a0 := a0) (h0_1 := h0_1) hp10) gX9_longestStay_X9_layJoined rfl yk_X9_layJoined ⟨by decide, by decide⟩ ⟨by decide, by decide⟩ clOK9 0 0 rfl rfl [0] [] 1 rfl (by decide) rfl rfl (Nat.le_of_ble_eq_true rfl) dX9_longestStay_10 ?_
  rintro _ _ ⟨rfl, rfl⟩
  refine ww_perm (gs' := [wModel E a0 (rf2 (a0 1) h0_1) p10]) [0] 1 rfl (by decide) rfl ?_
  refine ww_iconst (v := 1) C dX9_longestStay_13 (by decide) ?_
  refine ww_aload_n C dX9_longestStay_14 rfl 0 rfl ?_
  obtain ⟨p15, hp15, hf⟩ := bdE hf
  refine ww_callV C (As := []) (st := [.int 1]) (gr := []) (c_X9_rooms (E := E) (a0 := a0) (h0_1 := h0_1) hp15) gX9_longestStay_X9_rooms rfl yk_X9_rooms ⟨by decide, by decide⟩ ⟨by decide, by decide⟩ clOK9 0 0 rfl rfl [0] [] 1 rfl (by decide) rfl rfl (Nat.le_of_ble_eq_true rfl) dX9_longestStay_15 ?_
  rintro _ _ ⟨rfl, rfl⟩
  refine ww_perm (gs' := [wModel E a0 (rf2 (a0 1) h0_1) p10]) [0] 1 rfl (by decide) rfl ?_
  refine ww_ishl C dX9_longestStay_18 ?_
  refine ww_iconst (v := 1) C dX9_longestStay_19 (by decide) ?_
  refine ww_isub C dX9_longestStay_20 ?_
  refine ww_aload_n C dX9_longestStay_21 rfl 0 rfl ?_
  refine ww_aload_n C dX9_longestStay_22 rfl 0 rfl ?_
  refine ww_get C clOK9 in_X9_longestStay_X9 (w := wModel E a0 (rf2 (a0 1) h0_1) p10) (fs := fsModel a0 (rf2 (a0 1) h0_1) p10) (v := .ref (a0 1)) 0 0 0 rfl q_Model (by decide) (by decide +kernel) g_Model_now dX9_longestStay_23 ?_
  refine ww_iconst (v := 3) C dX9_longestStay_26 (by decide) ?_
  obtain ⟨g_1, hf⟩ := gdE hf
  refine ww_iald C (f := Model_now p10) (w := wModel E a0 (rf2 (a0 1) h0_1) p10) 0 1 rfl c_Model_now (inB_vp g_1) dX9_longestStay_27 ?_
  obtain ⟨p28, hp28, hf⟩ := bdE hf
  refine ww_callV C (As := [.int ((Model_now p10) (Int32.toNatClampNeg 3))]) (st := [.int ((1 <<< (p15 &&& 31)) - 1)]) (gr := []) (c_X9_seenAt (E := E) (a0 := a0) (h0_1 := h0_1) hp28) gX9_longestStay_X9_seenAt rfl yk_X9_seenAt ⟨by decide, by decide⟩ ⟨by decide, by decide⟩ clOK9 0 0 rfl rfl [0] [] 1 rfl (by decide) rfl rfl (Nat.le_of_ble_eq_true rfl) dX9_longestStay_28 ?_
  rintro _ _ ⟨rfl, rfl⟩
  refine ww_perm (gs' := [wModel E a0 (rf2 (a0 1) h0_1) p10]) [0] 1 rfl (by decide) rfl ?_
  refine ww_iconst (v := (-1)) C dX9_longestStay_31 (by decide) ?_
  refine ww_ixor C dX9_longestStay_32 ?_
  refine ww_iand C dX9_longestStay_33 ?_
  refine ww_topi (fun x1_34 e_x1_34 => ?_)
  replace hf := ltE e_x1_34 hf
  refine ww_istore_n (lv' := [(1, .int x1_34), (0, .ref (a0 0))]) C dX9_longestStay_34 rfl (by decide) rfl ?_
  refine ww_iconst (v := (-1)) C dX9_longestStay_35 (by decide) ?_
  refine ww_istore_n (lv' := [(2, .int (-1)), (1, .int x1_34), (0, .ref (a0 0))]) C dX9_longestStay_36 rfl (by decide) rfl ?_
  refine ww_sub C (lv' := [(0, .ref (a0 0)), (1, .int x1_34), (2, .int (-1))]) [2, 1, 0] rfl ?_
  exact w_X9_longestStay_37 C FU _ _ _ hf

theorem yk_X9_longestStay : yX9_longestStay.cls = RX9 ∧ yX9_longestStay.cls ≠ "java/lang/invoke/MethodHandle" ∧ yX9_longestStay.cls ≠ "java/lang/invoke/VarHandle" ∧ (parseMethodDescriptor yX9_longestStay.desc).map (fun d => d.parameters.length) = some 0 := by decide +kernel
abbrev rmX9_coverage : Room := { frames := 6, cells := 0, slots := 0, locals := 130 }
set_option maxRecDepth 20000 in
theorem in_X9_coverage_X9 : ∀ w ∈ u_ws RX9 TX9 35, w ∈ wsX9_coverage := by decide +kernel
set_option maxHeartbeats 4000000 in
set_option maxRecDepth 100000 in
theorem c_X9_coverage {E : Ex} {a0 : Nat → Nat} {h0_1 : Nat} {v0 : ModelV} {r : (UInt64 × ModelV)} (hf : Mod_coverage v0 = some r) : Ct E yX9_coverage wsX9_coverage rmX9_coverage [.ref (a0 0)] [wModel E a0 (rf2 (a0 1) h0_1) v0] (fun rv g => rv = some (.double r.1) ∧ g = [wModel E a0 (rf2 (a0 1) h0_1) r.2]) := by
  refine ct_of (own := RX9) (by decide +kernel) rfl rfl (Nat.le_of_ble_eq_true rfl) (fun K C => ?_)
  refine ww_sub C (lv' := [(0, .ref (a0 0))]) [0] rfl ?_
  rw [Mod_coverage] at hf
  refine ww_aload_n C dX9_coverage_0 rfl 0 rfl ?_
  refine ww_iconst (v := 0) C dX9_coverage_1 (by decide) ?_
  obtain ⟨v0_2, e_v0_2⟩ : ∃ y : ModelV, y = Model_set_thrown v0 0 := ⟨_, rfl⟩
  replace hf := ltE e_v0_2 hf
  refine ww_put C clOK9 in_X9_coverage_X9 (w := wModel E a0 (rf2 (a0 1) h0_1) v0) (fs := fsModel a0 (rf2 (a0 1) h0_1) v0) (w' := wModel E a0 (rf2 (a0 1) h0_1) v0_2) (gs' := [wModel E a0 (rf2 (a0 1) h0_1) v0_2]) 0 0 5 rfl q_Model (by decide) (by decide +kernel) rfl rfl rfl rfl l_Model (by rw [e_v0_2]; exact p_Model_thrown) rfl dX9_coverage_2 ?_
  refine ww_aload_n C dX9_coverage_5 rfl 0 rfl ?_
  obtain ⟨p6, hp6, hf⟩ := bdE hf
  refine ww_callV C (As := []) (st := []) (gr := []) (c_X9_layNow (E := E) (a0 := a0) (h0_1 := h0_1) hp6) gX9_coverage_X9_layNow rfl yk_X9_layNow ⟨by decide, by decide⟩ ⟨by decide, by decide⟩ clOK9 0 0 rfl rfl [0] [] 1 rfl (by decide) rfl rfl (Nat.le_of_ble_eq_true rfl) dX9_coverage_6 ?_
  rintro _ _ ⟨rfl, rfl⟩
  refine ww_perm (gs' := [wModel E a0 (rf2 (a0 1) h0_1) p6]) [0] 1 rfl (by decide) rfl ?_
  refine ww_aload_n C dX9_coverage_9 rfl 0 rfl ?_
  obtain ⟨p10, hp10, hf⟩ := bdE hf
  refine ww_callV C (As := []) (st := []) (gr := []) (c_X9_seenInCycle (E := E) (a0 := a0) (h0_1 := h0_1) hp10) gX9_coverage_X9_seenInCycle rfl yk_X9_seenInCycle ⟨by decide, by decide⟩ ⟨by decide, by decide⟩ clOK9 0 0 rfl rfl [0] [] 1 rfl (by decide) rfl rfl (Nat.le_of_ble_eq_true rfl) dX9_coverage_10 ?_
  rintro _ _ ⟨rfl, rfl⟩
  refine ww_perm (gs' := [wModel E a0 (rf2 (a0 1) h0_1) p6]) [0] 1 rfl (by decide) rfl ?_
  refine ww_i2d C dX9_coverage_13 ?_
  refine ww_aload_n C dX9_coverage_14 rfl 0 rfl ?_
  obtain ⟨p15, hp15, hf⟩ := bdE hf
  refine ww_callV C (As := []) (st := [.double (FP.i2d p10)]) (gr := []) (c_X9_rooms (E := E) (a0 := a0) (h0_1 := h0_1) hp15) gX9_coverage_X9_rooms rfl yk_X9_rooms ⟨by decide, by decide⟩ ⟨by decide, by decide⟩ clOK9 0 0 rfl rfl [0] [] 1 rfl (by decide) rfl rfl (Nat.le_of_ble_eq_true rfl) dX9_coverage_15 ?_
  rintro _ _ ⟨rfl, rfl⟩
  refine ww_perm (gs' := [wModel E a0 (rf2 (a0 1) h0_1) p6]) [0] 1 rfl (by decide) rfl ?_
  refine ww_aload_n C dX9_coverage_18 rfl 0 rfl ?_
  refine ww_get C clOK9 in_X9_coverage_X9 (w := wModel E a0 (rf2 (a0 1) h0_1) p6) (fs := fsModel a0 (rf2 (a0 1) h0_1) p6) (v := .int (Model_cycleNow p6)) 0 0 15 rfl q_Model (by decide) (by decide +kernel) g_Model_cycleNow dX9_coverage_19 ?_
  refine ww_imul C dX9_coverage_22 ?_
  refine ww_i2d C dX9_coverage_23 ?_
  obtain ⟨g_1, hf⟩ := gdE hf
  refine ww_ddiv C g_1 dX9_coverage_24 ?_
  obtain rfl := Option.some.inj hf
  exact ww_dret C ⟨rfl, rfl⟩ dX9_coverage_25

theorem yk_X9_coverage : yX9_coverage.cls = RX9 ∧ yX9_coverage.cls ≠ "java/lang/invoke/MethodHandle" ∧ yX9_coverage.cls ≠ "java/lang/invoke/VarHandle" ∧ (parseMethodDescriptor yX9_coverage.desc).map (fun d => d.parameters.length) = some 0 := by decide +kernel
abbrev rmX9_seenRate : Room := { frames := 3, cells := 0, slots := 0, locals := 65 }
set_option maxRecDepth 20000 in
theorem in_X9_seenRate_X9 : ∀ w ∈ u_ws RX9 TX9 35, w ∈ wsX9_seenRate := by decide +kernel
set_option maxHeartbeats 4000000 in
set_option maxRecDepth 100000 in
theorem c_X9_seenRate {E : Ex} {a0 : Nat → Nat} {h0_1 : Nat} {v0 : ModelV} {r : (UInt32 × ModelV)} (hf : Mod_seenRate v0 = some r) : Ct E yX9_seenRate wsX9_seenRate rmX9_seenRate [.ref (a0 0)] [wModel E a0 (rf2 (a0 1) h0_1) v0] (fun rv g => rv = some (.float r.1) ∧ g = [wModel E a0 (rf2 (a0 1) h0_1) r.2]) := by
  refine ct_of (own := RX9) (by decide +kernel) rfl rfl (Nat.le_of_ble_eq_true rfl) (fun K C => ?_)
  refine ww_sub C (lv' := [(0, .ref (a0 0))]) [0] rfl ?_
  rw [Mod_seenRate] at hf
  refine ww_aload_n C dX9_seenRate_0 rfl 0 rfl ?_
  refine ww_iconst (v := 0) C dX9_seenRate_1 (by decide) ?_
  obtain ⟨v0_2, e_v0_2⟩ : ∃ y : ModelV, y = Model_set_thrown v0 0 := ⟨_, rfl⟩
  replace hf := ltE e_v0_2 hf
  refine ww_put C clOK9 in_X9_seenRate_X9 (w := wModel E a0 (rf2 (a0 1) h0_1) v0) (fs := fsModel a0 (rf2 (a0 1) h0_1) v0) (w' := wModel E a0 (rf2 (a0 1) h0_1) v0_2) (gs' := [wModel E a0 (rf2 (a0 1) h0_1) v0_2]) 0 0 5 rfl q_Model (by decide) (by decide +kernel) rfl rfl rfl rfl l_Model (by rw [e_v0_2]; exact p_Model_thrown) rfl dX9_seenRate_2 ?_
  refine ww_aload_n C dX9_seenRate_5 rfl 0 rfl ?_
  refine ww_get C clOK9 in_X9_seenRate_X9 (w := wModel E a0 (rf2 (a0 1) h0_1) v0_2) (fs := fsModel a0 (rf2 (a0 1) h0_1) v0_2) (v := .ref (a0 1)) 0 0 0 rfl q_Model (by decide) (by decide +kernel) g_Model_now dX9_seenRate_6 ?_
  refine ww_iconst (v := 3) C dX9_seenRate_9 (by decide) ?_
  obtain ⟨g_1, hf⟩ := gdE hf
  refine ww_iald C (f := Model_now v0_2) (w := wModel E a0 (rf2 (a0 1) h0_1) v0_2) 0 1 rfl c_Model_now (inB_vp g_1) dX9_seenRate_10 ?_
  refine ww_if_ne (tgt := 18) C dX9_seenRate_11 (by decide) (fun c_2 => ?_) (fun c_2 => ?_)
  · replace hf := ifF c_2 hf
    refine ww_aload_n C dX9_seenRate_18 rfl 0 rfl ?_
    obtain ⟨p19, hp19, hf⟩ := bdE hf
    refine ww_callV C (As := []) (st := []) (gr := []) (c_X9_sightings (E := E) (a0 := a0) (h0_1 := h0_1) hp19) gX9_seenRate_X9_sightings rfl yk_X9_sightings ⟨by decide, by decide⟩ ⟨by decide, by decide⟩ clOK9 0 0 rfl rfl [0] [] 1 rfl (by decide) rfl rfl (Nat.le_of_ble_eq_true rfl) dX9_seenRate_19 ?_
    rintro _ _ ⟨rfl, rfl⟩
    refine ww_perm (gs' := [wModel E a0 (rf2 (a0 1) h0_1) v0_2]) [0] 1 rfl (by decide) rfl ?_
    refine ww_i2f C dX9_seenRate_22 ?_
    refine ww_aload_n C dX9_seenRate_23 rfl 0 rfl ?_
    refine ww_get C clOK9 in_X9_seenRate_X9 (w := wModel E a0 (rf2 (a0 1) h0_1) v0_2) (fs := fsModel a0 (rf2 (a0 1) h0_1) v0_2) (v := .ref (a0 1)) 0 0 0 rfl q_Model (by decide) (by decide +kernel) g_Model_now dX9_seenRate_24 ?_
    refine ww_iconst (v := 3) C dX9_seenRate_27 (by decide) ?_
    refine ww_iald C (f := Model_now v0_2) (w := wModel E a0 (rf2 (a0 1) h0_1) v0_2) 0 1 rfl c_Model_now (inB_vp g_1) dX9_seenRate_28 ?_
    refine ww_i2f C dX9_seenRate_29 ?_
    obtain ⟨g_3, hf⟩ := gdE hf
    refine ww_fdiv C g_3 dX9_seenRate_30 ?_
    obtain rfl := Option.some.inj hf
    exact ww_fret C ⟨rfl, rfl⟩ dX9_seenRate_31
  · replace hf := ifT c_2 hf
    refine ww_fconst0 C dX9_seenRate_14 ?_
    refine ww_goto (tgt := 31) C dX9_seenRate_15 (by decide) ?_
    obtain rfl := Option.some.inj hf
    exact ww_fret C ⟨rfl, rfl⟩ dX9_seenRate_31

theorem yk_X9_seenRate : yX9_seenRate.cls = RX9 ∧ yX9_seenRate.cls ≠ "java/lang/invoke/MethodHandle" ∧ yX9_seenRate.cls ≠ "java/lang/invoke/VarHandle" ∧ (parseMethodDescriptor yX9_seenRate.desc).map (fun d => d.parameters.length) = some 0 := by decide +kernel
abbrev rmX9_passRoom : Room := { frames := 2, cells := 0, slots := 0, locals := 43 }
set_option maxRecDepth 20000 in
theorem in_X9_passRoom_X9 : ∀ w ∈ u_ws RX9 TX9 35, w ∈ wsX9_passRoom := by decide +kernel
set_option maxHeartbeats 4000000 in
set_option maxRecDepth 100000 in
theorem w_X9_passRoom_68 {E : Ex} {K : Kx} (C : Cx E K cX9_passRoom 4 none RX9 wsX9_passRoom rmX9_passRoom) {a0 : Nat → Nat} {h0_1 : Nat} {x1 : Int32} {x2 : Bool}  {s0 : Int32} {s1 : Int32} {s2 : Int32} {v0 : ModelV} {r : ModelV} (hf : Mod_passRoom_68 x1 x2 s0 s1 s2 v0 = some r) : WW E K 0 0 (QQ E K (fun rv g => rv = none ∧ g = [wModel E a0 (rf2 (a0 1) h0_1) r]) 0 0) 68 [(0, .ref (a0 0)), (1, .int x1), (2, .int (b2i x2))] [.int s0, .int s1, .int s2, .ref (a0 1)] [wModel E a0 (rf2 (a0 1) h0_1) v0] := by
  rw [Mod_passRoom_68] at hf
  refine ww_iadd C dX9_passRoom_68 ?_
  obtain ⟨g_6, hf⟩ := gdE hf
  obtain ⟨v0_69, e_v0_69⟩ : ∃ y : ModelV, y = Model_set_now v0 (upd (Model_now v0) (Int32.toNatClampNeg s2) (s1 + s0)) := ⟨_, rfl⟩
  replace hf := ltE e_v0_69 hf
  refine ww_iast C (f := Model_now v0) (w := wModel E a0 (rf2 (a0 1) h0_1) v0) (w' := wModel E a0 (rf2 (a0 1) h0_1) v0_69) (gs' := [wModel E a0 (rf2 (a0 1) h0_1) v0_69]) 0 1 rfl c_Model_now (inB_vp g_6) (by rw [e_v0_69]; exact s_Model_now) rfl dX9_passRoom_69 ?_
  refine ww_aload_n C dX9_passRoom_70 rfl 0 rfl ?_
  refine ww_get C clOK9 in_X9_passRoom_X9 (w := wModel E a0 (rf2 (a0 1) h0_1) v0_69) (fs := fsModel a0 (rf2 (a0 1) h0_1) v0_69) (v := .ref (a0 1)) 0 0 0 rfl q_Model (by decide) (by decide +kernel) g_Model_now dX9_passRoom_71 ?_
  refine ww_iload_n C dX9_passRoom_74 rfl 1 rfl ?_
  refine ww_iconst (v := 2) C dX9_passRoom_75 (by decide) ?_
  obtain ⟨p76, hp76, hf⟩ := bdE hf
  refine ww_callS C (As := [.int x1, .int 2]) (st := [.ref (a0 1)]) (gr := [wModel E a0 (rf2 (a0 1) h0_1) v0_69]) (c_X9_roomAt (E := E)  hp76) gX9_passRoom_X9_roomAt rfl ysk_X9_roomAt ⟨by decide, by decide⟩ ⟨by decide, by decide⟩ [] [0] 1 rfl (by decide) rfl rfl (Nat.le_of_ble_eq_true rfl) dX9_passRoom_76 ?_
  rintro _ _ ⟨rfl, rfl⟩
  refine ww_perm (gs' := [wModel E a0 (rf2 (a0 1) h0_1) v0_69]) [0] 1 rfl (by decide) rfl ?_
  refine ww_iload_n C dX9_passRoom_79 rfl 2 rfl ?_
  refine ww_if_eqB (tgt := 92) C dX9_passRoom_80 (by decide) (fun c_7 => ?_) (fun c_7 => ?_)
  · replace hf := bfE c_7 hf
    refine ww_aload_n C dX9_passRoom_92 rfl 0 rfl ?_
    refine ww_iload_n C dX9_passRoom_93 rfl 1 rfl ?_
    refine ww_iconst (v := 2) C dX9_passRoom_94 (by decide) ?_
    obtain ⟨p95, hp95, hf⟩ := bdE hf
    refine ww_callV C (As := [.int x1, .int 2]) (st := [.int p76, .ref (a0 1)]) (gr := []) (c_X9_ofRoom (E := E) (a0 := a0) (h0_1 := h0_1) hp95) gX9_passRoom_X9_ofRoom rfl yk_X9_ofRoom ⟨by decide, by decide⟩ ⟨by decide, by decide⟩ clOK9 0 0 rfl rfl [0] [] 1 rfl (by decide) rfl rfl (Nat.le_of_ble_eq_true rfl) dX9_passRoom_95 ?_
    rintro _ _ ⟨rfl, rfl⟩
    refine ww_perm (gs' := [wModel E a0 (rf2 (a0 1) h0_1) v0_69]) [0] 1 rfl (by decide) rfl ?_
    obtain ⟨g_8, hf⟩ := gdE hf
    obtain ⟨v0_98, e_v0_98⟩ : ∃ y : ModelV, y = Model_set_now v0_69 (upd (Model_now v0_69) (Int32.toNatClampNeg p76) p95) := ⟨_, rfl⟩
    replace hf := ltE e_v0_98 hf
    refine ww_iast C (f := Model_now v0_69) (w := wModel E a0 (rf2 (a0 1) h0_1) v0_69) (w' := wModel E a0 (rf2 (a0 1) h0_1) v0_98) (gs' := [wModel E a0 (rf2 (a0 1) h0_1) v0_98]) 0 1 rfl c_Model_now (inB_vp g_8) (by rw [e_v0_98]; exact s_Model_now) rfl dX9_passRoom_98 ?_
    obtain rfl := Option.some.inj hf
    exact ww_vret C ⟨rfl, rfl⟩ dX9_passRoom_99
  · replace hf := btE c_7 hf
    refine ww_aload_n C dX9_passRoom_83 rfl 0 rfl ?_
    refine ww_get C clOK9 in_X9_passRoom_X9 (w := wModel E a0 (rf2 (a0 1) h0_1) v0_69) (fs := fsModel a0 (rf2 (a0 1) h0_1) v0_69) (v := .ref (a0 1)) 0 0 0 rfl q_Model (by decide) (by decide +kernel) g_Model_now dX9_passRoom_84 ?_
    refine ww_iconst (v := 3) C dX9_passRoom_87 (by decide) ?_
    obtain ⟨g_9, hf⟩ := gdE hf
    refine ww_iald C (f := Model_now v0_69) (w := wModel E a0 (rf2 (a0 1) h0_1) v0_69) 0 1 rfl c_Model_now (inB_vp g_9) dX9_passRoom_88 ?_
    refine ww_goto (tgt := 98) C dX9_passRoom_89 (by decide) ?_
    obtain ⟨g_10, hf⟩ := gdE hf
    obtain ⟨v0_98, e_v0_98⟩ : ∃ y : ModelV, y = Model_set_now v0_69 (upd (Model_now v0_69) (Int32.toNatClampNeg p76) ((Model_now v0_69) (Int32.toNatClampNeg 3))) := ⟨_, rfl⟩
    replace hf := ltE e_v0_98 hf
    refine ww_iast C (f := Model_now v0_69) (w := wModel E a0 (rf2 (a0 1) h0_1) v0_69) (w' := wModel E a0 (rf2 (a0 1) h0_1) v0_98) (gs' := [wModel E a0 (rf2 (a0 1) h0_1) v0_98]) 0 1 rfl c_Model_now (inB_vp g_10) (by rw [e_v0_98]; exact s_Model_now) rfl dX9_passRoom_98 ?_
    obtain rfl := Option.some.inj hf
    exact ww_vret C ⟨rfl, rfl⟩ dX9_passRoom_99

set_option maxHeartbeats 4000000 in
set_option maxRecDepth 100000 in
theorem w_X9_passRoom_16 {E : Ex} {K : Kx} (C : Cx E K cX9_passRoom 4 none RX9 wsX9_passRoom rmX9_passRoom) {a0 : Nat → Nat} {h0_1 : Nat} {x1 : Int32} {x2 : Bool}  {s0 : Int32} {v0 : ModelV} {r : ModelV} (hf : Mod_passRoom_16 x1 x2 s0 v0 = some r) : WW E K 0 0 (QQ E K (fun rv g => rv = none ∧ g = [wModel E a0 (rf2 (a0 1) h0_1) r]) 0 0) 16 [(0, .ref (a0 0)), (1, .int x1), (2, .int (b2i x2))] [.int s0] [wModel E a0 (rf2 (a0 1) h0_1) v0] := by
  rw [Mod_passRoom_16] at hf
  refine ww_istore_n (lv' := [(3, .int s0), (0, .ref (a0 0)), (1, .int x1), (2, .int (b2i x2))]) C dX9_passRoom_16 rfl (by decide) rfl ?_
  refine ww_aload_n C dX9_passRoom_17 rfl 1 rfl ?_
  refine ww_get C clOK9 in_X9_passRoom_X9 (w := wModel E a0 (rf2 (a0 1) h0_1) v0) (fs := fsModel a0 (rf2 (a0 1) h0_1) v0) (v := .ref (a0 1)) 0 0 0 rfl q_Model (by decide) (by decide +kernel) g_Model_now dX9_passRoom_18 ?_
  refine ww_iload_n C dX9_passRoom_21 rfl 2 rfl ?_
  refine ww_iconst (v := 3) C dX9_passRoom_22 (by decide) ?_
  obtain ⟨p23, hp23, hf⟩ := bdE hf
  refine ww_callS C (As := [.int x1, .int 3]) (st := [.ref (a0 1)]) (gr := [wModel E a0 (rf2 (a0 1) h0_1) v0]) (c_X9_roomAt (E := E)  hp23) gX9_passRoom_X9_roomAt rfl ysk_X9_roomAt ⟨by decide, by decide⟩ ⟨by decide, by decide⟩ [] [0] 1 rfl (by decide) rfl rfl (Nat.le_of_ble_eq_true rfl) dX9_passRoom_23 ?_
  rintro _ _ ⟨rfl, rfl⟩
  refine ww_perm (gs' := [wModel E a0 (rf2 (a0 1) h0_1) v0]) [0] 1 rfl (by decide) rfl ?_
  refine ww_iload_n C dX9_passRoom_26 rfl 0 rfl ?_
  obtain ⟨g_2, hf⟩ := gdE hf
  obtain ⟨v0_27, e_v0_27⟩ : ∃ y : ModelV, y = Model_set_now v0 (upd (Model_now v0) (Int32.toNatClampNeg p23) s0) := ⟨_, rfl⟩
  replace hf := ltE e_v0_27 hf
  refine ww_iast C (f := Model_now v0) (w := wModel E a0 (rf2 (a0 1) h0_1) v0) (w' := wModel E a0 (rf2 (a0 1) h0_1) v0_27) (gs' := [wModel E a0 (rf2 (a0 1) h0_1) v0_27]) 0 1 rfl c_Model_now (inB_vp g_2) (by rw [e_v0_27]; exact s_Model_now) rfl dX9_passRoom_27 ?_
  refine ww_aload_n C dX9_passRoom_28 rfl 1 rfl ?_
  refine ww_get C clOK9 in_X9_passRoom_X9 (w := wModel E a0 (rf2 (a0 1) h0_1) v0_27) (fs := fsModel a0 (rf2 (a0 1) h0_1) v0_27) (v := .ref (a0 1)) 0 0 0 rfl q_Model (by decide) (by decide +kernel) g_Model_now dX9_passRoom_29 ?_
  refine ww_iload_n C dX9_passRoom_32 rfl 2 rfl ?_
  refine ww_iconst (v := 4) C dX9_passRoom_33 (by decide) ?_
  obtain ⟨p34, hp34, hf⟩ := bdE hf
  refine ww_callS C (As := [.int x1, .int 4]) (st := [.ref (a0 1)]) (gr := [wModel E a0 (rf2 (a0 1) h0_1) v0_27]) (c_X9_roomAt (E := E)  hp34) gX9_passRoom_X9_roomAt rfl ysk_X9_roomAt ⟨by decide, by decide⟩ ⟨by decide, by decide⟩ [] [0] 1 rfl (by decide) rfl rfl (Nat.le_of_ble_eq_true rfl) dX9_passRoom_34 ?_
  rintro _ _ ⟨rfl, rfl⟩
  refine ww_perm (gs' := [wModel E a0 (rf2 (a0 1) h0_1) v0_27]) [0] 1 rfl (by decide) rfl ?_
  refine ww_aload_n C dX9_passRoom_37 rfl 1 rfl ?_
  refine ww_iload_n C dX9_passRoom_38 rfl 2 rfl ?_
  refine ww_iconst (v := 4) C dX9_passRoom_39 (by decide) ?_
  obtain ⟨p40, hp40, hf⟩ := bdE hf
  refine ww_callV C (As := [.int x1, .int 4]) (st := [.int p34, .ref (a0 1)]) (gr := []) (c_X9_ofRoom (E := E) (a0 := a0) (h0_1 := h0_1) hp40) gX9_passRoom_X9_ofRoom rfl yk_X9_ofRoom ⟨by decide, by decide⟩ ⟨by decide, by decide⟩ clOK9 0 0 rfl rfl [0] [] 1 rfl (by decide) rfl rfl (Nat.le_of_ble_eq_true rfl) dX9_passRoom_40 ?_
  rintro _ _ ⟨rfl, rfl⟩
  refine ww_perm (gs' := [wModel E a0 (rf2 (a0 1) h0_1) v0_27]) [0] 1 rfl (by decide) rfl ?_
  refine ww_iload_n C dX9_passRoom_43 rfl 0 rfl ?_
  refine ww_max C (by decide +kernel) (by decide +kernel) (by decide +kernel) (by decide +kernel) (by decide) (Nat.le_of_ble_eq_true rfl) (by decide) (by decide) dX9_passRoom_44 ?_
  obtain ⟨g_3, hf⟩ := gdE hf
  obtain ⟨v0_47, e_v0_47⟩ : ∃ y : ModelV, y = Model_set_now v0_27 (upd (Model_now v0_27) (Int32.toNatClampNeg p34) (imax p40 s0)) := ⟨_, rfl⟩
  replace hf := ltE e_v0_47 hf
  refine ww_iast C (f := Model_now v0_27) (w := wModel E a0 (rf2 (a0 1) h0_1) v0_27) (w' := wModel E a0 (rf2 (a0 1) h0_1) v0_47) (gs' := [wModel E a0 (rf2 (a0 1) h0_1) v0_47]) 0 1 rfl c_Model_now (inB_vp g_3) (by rw [e_v0_47]; exact s_Model_now) rfl dX9_passRoom_47 ?_
  refine ww_aload_n C dX9_passRoom_48 rfl 1 rfl ?_
  refine ww_get C clOK9 in_X9_passRoom_X9 (w := wModel E a0 (rf2 (a0 1) h0_1) v0_47) (fs := fsModel a0 (rf2 (a0 1) h0_1) v0_47) (v := .ref (a0 1)) 0 0 0 rfl q_Model (by decide) (by decide +kernel) g_Model_now dX9_passRoom_49 ?_
  refine ww_iload_n C dX9_passRoom_52 rfl 2 rfl ?_
  refine ww_iconst (v := 1) C dX9_passRoom_53 (by decide) ?_
  obtain ⟨p54, hp54, hf⟩ := bdE hf
  refine ww_callS C (As := [.int x1, .int 1]) (st := [.ref (a0 1)]) (gr := [wModel E a0 (rf2 (a0 1) h0_1) v0_47]) (c_X9_roomAt (E := E)  hp54) gX9_passRoom_X9_roomAt rfl ysk_X9_roomAt ⟨by decide, by decide⟩ ⟨by decide, by decide⟩ [] [0] 1 rfl (by decide) rfl rfl (Nat.le_of_ble_eq_true rfl) dX9_passRoom_54 ?_
  rintro _ _ ⟨rfl, rfl⟩
  refine ww_perm (gs' := [wModel E a0 (rf2 (a0 1) h0_1) v0_47]) [0] 1 rfl (by decide) rfl ?_
  refine ww_dup2 C dX9_passRoom_57 rfl rfl ?_
  obtain ⟨g_4, hf⟩ := gdE hf
  refine ww_iald C (f := Model_now v0_47) (w := wModel E a0 (rf2 (a0 1) h0_1) v0_47) 0 1 rfl c_Model_now (inB_vp g_4) dX9_passRoom_58 ?_
  refine ww_iload_n C dX9_passRoom_59 rfl 3 rfl ?_
  refine ww_if_eqB (tgt := 67) C dX9_passRoom_60 (by decide) (fun c_5 => ?_) (fun c_5 => ?_)
  · replace hf := bfE c_5 hf
    refine ww_iconst (v := 0) C dX9_passRoom_67 (by decide) ?_
    refine ww_sub C (lv' := [(0, .ref (a0 0)), (1, .int x1), (2, .int (b2i x2))]) [1, 2, 3] rfl ?_
    exact w_X9_passRoom_68 C hf
  · replace hf := btE c_5 hf
    refine ww_iconst (v := 1) C dX9_passRoom_63 (by decide) ?_
    refine ww_goto (tgt := 68) C dX9_passRoom_64 (by decide) ?_
    refine ww_sub C (lv' := [(0, .ref (a0 0)), (1, .int x1), (2, .int (b2i x2))]) [1, 2, 3] rfl ?_
    exact w_X9_passRoom_68 C hf

set_option maxHeartbeats 4000000 in
set_option maxRecDepth 100000 in
theorem c_X9_passRoom {E : Ex} {a0 : Nat → Nat} {h0_1 : Nat} {x1 : Int32} {x2 : Bool} {v0 : ModelV} {r : ModelV} (hf : Mod_passRoom x1 x2 v0 = some r) : Ct E yX9_passRoom wsX9_passRoom rmX9_passRoom [.ref (a0 0), .int x1, .int (b2i x2)] [wModel E a0 (rf2 (a0 1) h0_1) v0] (fun rv g => rv = none ∧ g = [wModel E a0 (rf2 (a0 1) h0_1) r]) := by
  refine ct_of (own := RX9) (by decide +kernel) rfl rfl (Nat.le_of_ble_eq_true rfl) (fun K C => ?_)
  refine ww_sub C (lv' := [(0, .ref (a0 0)), (1, .int x1), (2, .int (b2i x2))]) [0, 1, 2] rfl ?_
  rw [Mod_passRoom] at hf
  refine ww_iload_n C dX9_passRoom_0 rfl 2 rfl ?_
  refine ww_if_eqB (tgt := 8) C dX9_passRoom_1 (by decide) (fun c_1 => ?_) (fun c_1 => ?_)
  · replace hf := bfE c_1 hf
    refine ww_aload_n C dX9_passRoom_8 rfl 0 rfl ?_
    refine ww_iload_n C dX9_passRoom_9 rfl 1 rfl ?_
    refine ww_iconst (v := 3) C dX9_passRoom_10 (by decide) ?_
    obtain ⟨p11, hp11, hf⟩ := bdE hf
    refine ww_callV C (As := [.int x1, .int 3]) (st := []) (gr := []) (c_X9_ofRoom (E := E) (a0 := a0) (h0_1 := h0_1) hp11) gX9_passRoom_X9_ofRoom rfl yk_X9_ofRoom ⟨by decide, by decide⟩ ⟨by decide, by decide⟩ clOK9 0 0 rfl rfl [0] [] 1 rfl (by decide) rfl rfl (Nat.le_of_ble_eq_true rfl) dX9_passRoom_11 ?_
    rintro _ _ ⟨rfl, rfl⟩
    refine ww_perm (gs' := [wModel E a0 (rf2 (a0 1) h0_1) v0]) [0] 1 rfl (by decide) rfl ?_
    refine ww_iconst (v := 1) C dX9_passRoom_14 (by decide) ?_
    refine ww_iadd C dX9_passRoom_15 ?_
    refine ww_sub C (lv' := [(0, .ref (a0 0)), (1, .int x1), (2, .int (b2i x2))]) [0, 1, 2] rfl ?_
    exact w_X9_passRoom_16 C hf
  · replace hf := btE c_1 hf
    refine ww_iconst (v := 0) C dX9_passRoom_4 (by decide) ?_
    refine ww_goto (tgt := 16) C dX9_passRoom_5 (by decide) ?_
    refine ww_sub C (lv' := [(0, .ref (a0 0)), (1, .int x1), (2, .int (b2i x2))]) [0, 1, 2] rfl ?_
    exact w_X9_passRoom_16 C hf

theorem yk_X9_passRoom : yX9_passRoom.cls = RX9 ∧ yX9_passRoom.cls ≠ "java/lang/invoke/MethodHandle" ∧ yX9_passRoom.cls ≠ "java/lang/invoke/VarHandle" ∧ (parseMethodDescriptor yX9_passRoom.desc).map (fun d => d.parameters.length) = some 2 := by decide +kernel
abbrev rmX9_record : Room := { frames := 1, cells := 0, slots := 0, locals := 24 }
set_option maxRecDepth 20000 in
theorem in_X9_record_X9 : ∀ w ∈ u_ws RX9 TX9 35, w ∈ wsX9_record := by decide +kernel
set_option maxHeartbeats 4000000 in
set_option maxRecDepth 100000 in
theorem w_X9_record_48 {E : Ex} {K : Kx} (C : Cx E K cX9_record 2 none RX9 wsX9_record rmX9_record) {a0 : Nat → Nat} {h0_0 h0_1 : Nat}   {v0 : ModelV} {r : ModelV} (hf : Mod_record_48 v0 = some r) : WW E K 0 0 (QQ E K (fun rv g => rv = none ∧ g = [wModel E a0 (rf2 h0_0 h0_1) r]) 0 0) 48 [(0, .ref (a0 0))] [] [wModel E a0 (rf2 h0_0 h0_1) v0] := by
  rw [Mod_record_48] at hf
  refine ww_aload_n C dX9_record_48 rfl 0 rfl ?_
  refine ww_get C clOK9 in_X9_record_X9 (w := wModel E a0 (rf2 h0_0 h0_1) v0) (fs := fsModel a0 (rf2 h0_0 h0_1) v0) (v := .ref (a0 1)) 0 0 0 rfl q_Model (by decide) (by decide +kernel) g_Model_now dX9_record_49 ?_
  refine ww_iconst (v := 0) C dX9_record_52 (by decide) ?_
  refine ww_aload_n C dX9_record_53 rfl 0 rfl ?_
  refine ww_get C clOK9 in_X9_record_X9 (w := wModel E a0 (rf2 h0_0 h0_1) v0) (fs := fsModel a0 (rf2 h0_0 h0_1) v0) (v := .ref (a0 4)) 0 0 3 rfl q_Model (by decide) (by decide +kernel) g_Model_history dX9_record_54 ?_
  refine ww_aload_n C dX9_record_57 rfl 0 rfl ?_
  refine ww_get C clOK9 in_X9_record_X9 (w := wModel E a0 (rf2 h0_0 h0_1) v0) (fs := fsModel a0 (rf2 h0_0 h0_1) v0) (v := .int (Model_undoCount v0)) 0 0 4 rfl q_Model (by decide) (by decide +kernel) g_Model_undoCount dX9_record_58 ?_
  obtain ⟨p61, hp61, hf⟩ := bdE hf
  obtain ⟨v0_61, e_v0_61⟩ : ∃ y : ModelV, y = Model_set_history v0 p61 := ⟨_, rfl⟩
  replace hf := ltE e_v0_61 hf
  refine ww_regr (gs' := [(wModel E a0 (rf2 h0_0 h0_1) v0).take 1, wArr E (a0 1) 172 (Model_now v0), ((wModel E a0 (rf2 h0_0 h0_1) v0).drop 2).take 2, wArr E (a0 4) 1720 (Model_history v0), (wModel E a0 (rf2 h0_0 h0_1) v0).drop 5]) rfl ?_
  refine ww_callS C (As := [.ref (a0 1), .int 0, .ref (a0 4), .int (Model_undoCount v0)]) (st := []) (gr := [(wModel E a0 (rf2 h0_0 h0_1) v0).take 1, ((wModel E a0 (rf2 h0_0 h0_1) v0).drop 2).take 2, (wModel E a0 (rf2 h0_0 h0_1) v0).drop 5]) (c_X9_copy (E := E) (q0 := a0 1) (n0 := 172) (q1 := a0 4) (n1 := 1720) hp61) gX9_record_X9_copy rfl ysk_X9_copy ⟨by decide, by decide⟩ ⟨by decide, by decide⟩ [1, 3] [0, 2, 4] 5 rfl (by decide) rfl rfl (Nat.le_of_ble_eq_true rfl) dX9_record_61 ?_
  rintro _ _ ⟨rfl, rfl⟩
  refine ww_perm (gs' := [(wModel E a0 (rf2 h0_0 h0_1) v0).take 1, wArr E (a0 1) 172 (Model_now v0), ((wModel E a0 (rf2 h0_0 h0_1) v0).drop 2).take 2, wArr E (a0 4) 1720 p61, (wModel E a0 (rf2 h0_0 h0_1) v0).drop 5]) [2, 0, 3, 1, 4] 5 rfl (by decide) rfl ?_
  refine ww_regr (gs' := [wModel E a0 (rf2 h0_0 h0_1) v0_61]) (by rw [e_v0_61]; rfl) ?_
  refine ww_aload_n C dX9_record_64 rfl 0 rfl ?_
  refine ww_dup C dX9_record_65 rfl ?_
  refine ww_get C clOK9 in_X9_record_X9 (w := wModel E a0 (rf2 h0_0 h0_1) v0_61) (fs := fsModel a0 (rf2 h0_0 h0_1) v0_61) (v := .int (Model_undoCount v0_61)) 0 0 4 rfl q_Model (by decide) (by decide +kernel) g_Model_undoCount dX9_record_66 ?_
  refine ww_iconst (v := 1) C dX9_record_69 (by decide) ?_
  refine ww_iadd C dX9_record_70 ?_
  obtain ⟨v0_71, e_v0_71⟩ : ∃ y : ModelV, y = Model_set_undoCount v0_61 ((Model_undoCount v0_61) + 1) := ⟨_, rfl⟩
  replace hf := ltE e_v0_71 hf
  refine ww_put C clOK9 in_X9_record_X9 (w := wModel E a0 (rf2 h0_0 h0_1) v0_61) (fs := fsModel a0 (rf2 h0_0 h0_1) v0_61) (w' := wModel E a0 (rf2 h0_0 h0_1) v0_71) (gs' := [wModel E a0 (rf2 h0_0 h0_1) v0_71]) 0 0 4 rfl q_Model (by decide) (by decide +kernel) rfl rfl rfl rfl l_Model (by rw [e_v0_71]; exact p_Model_undoCount) rfl dX9_record_71 ?_
  obtain rfl := Option.some.inj hf
  exact ww_vret C ⟨rfl, rfl⟩ dX9_record_74

set_option maxHeartbeats 4000000 in
set_option maxRecDepth 100000 in
theorem w_X9_record_11 {E : Ex} {K : Kx} (C : Cx E K cX9_record 2 none RX9 wsX9_record rmX9_record) {a0 : Nat → Nat} {h0_0 h0_1 : Nat}   {r : ModelV} : ∀ (n : Nat) (x1 : Int32) (v0 : ModelV), Mod_record_11 n x1 v0 = some r → WW E K 0 0 (QQ E K (fun rv g => rv = none ∧ g = [wModel E a0 (rf2 h0_0 h0_1) r]) 0 0) 11 [(0, .ref (a0 0)), (1, .int x1)] [] [wModel E a0 (rf2 h0_0 h0_1) v0] := by
  intro n
  induction n with
  | zero =>
    intro x1 v0 hf
    simp [Mod_record_11] at hf
  | succ n ih =>
    intro x1 v0 hf
    rw [Mod_record_11] at hf
    refine ww_iload_n C dX9_record_11 rfl 1 rfl ?_
    refine ww_bipush (v := 10) C dX9_record_12 (by decide) ?_
    refine ww_icmp_ge (tgt := 38) C dX9_record_14 (by decide) (fun c_2 => ?_) (fun c_2 => ?_)
    · replace hf := ifT c_2 hf
      refine ww_aload_n C dX9_record_38 rfl 0 rfl ?_
      refine ww_dup C dX9_record_39 rfl ?_
      refine ww_get C clOK9 in_X9_record_X9 (w := wModel E a0 (rf2 h0_0 h0_1) v0) (fs := fsModel a0 (rf2 h0_0 h0_1) v0) (v := .int (Model_undoCount v0)) 0 0 4 rfl q_Model (by decide) (by decide +kernel) g_Model_undoCount dX9_record_40 ?_
      refine ww_iconst (v := 1) C dX9_record_43 (by decide) ?_
      refine ww_isub C dX9_record_44 ?_
      obtain ⟨v0_45, e_v0_45⟩ : ∃ y : ModelV, y = Model_set_undoCount v0 ((Model_undoCount v0) - 1) := ⟨_, rfl⟩
      replace hf := ltE e_v0_45 hf
      refine ww_put C clOK9 in_X9_record_X9 (w := wModel E a0 (rf2 h0_0 h0_1) v0) (fs := fsModel a0 (rf2 h0_0 h0_1) v0) (w' := wModel E a0 (rf2 h0_0 h0_1) v0_45) (gs' := [wModel E a0 (rf2 h0_0 h0_1) v0_45]) 0 0 4 rfl q_Model (by decide) (by decide +kernel) rfl rfl rfl rfl l_Model (by rw [e_v0_45]; exact p_Model_undoCount) rfl dX9_record_45 ?_
      refine ww_sub C (lv' := [(0, .ref (a0 0))]) [0] rfl ?_
      exact w_X9_record_48 C hf
    · replace hf := ifF c_2 hf
      refine ww_aload_n C dX9_record_17 rfl 0 rfl ?_
      refine ww_get C clOK9 in_X9_record_X9 (w := wModel E a0 (rf2 h0_0 h0_1) v0) (fs := fsModel a0 (rf2 h0_0 h0_1) v0) (v := .ref (a0 4)) 0 0 3 rfl q_Model (by decide) (by decide +kernel) g_Model_history dX9_record_18 ?_
      refine ww_iload_n C dX9_record_21 rfl 1 rfl ?_
      refine ww_aload_n C dX9_record_22 rfl 0 rfl ?_
      refine ww_get C clOK9 in_X9_record_X9 (w := wModel E a0 (rf2 h0_0 h0_1) v0) (fs := fsModel a0 (rf2 h0_0 h0_1) v0) (v := .ref (a0 4)) 0 0 3 rfl q_Model (by decide) (by decide +kernel) g_Model_history dX9_record_23 ?_
      refine ww_iload_n C dX9_record_26 rfl 1 rfl ?_
      refine ww_iconst (v := 1) C dX9_record_27 (by decide) ?_
      refine ww_isub C dX9_record_28 ?_
      obtain ⟨p29, hp29, hf⟩ := bdE hf
      obtain ⟨v0_29, e_v0_29⟩ : ∃ y : ModelV, y = Model_set_history v0 p29 := ⟨_, rfl⟩
      replace hf := ltE e_v0_29 hf
      refine ww_regr (gs' := [(wModel E a0 (rf2 h0_0 h0_1) v0).take 4, wArr E (a0 4) 1720 (Model_history v0), (wModel E a0 (rf2 h0_0 h0_1) v0).drop 5]) rfl ?_
      refine ww_callS C (As := [.ref (a0 4), .int x1, .ref (a0 4), .int (x1 - 1)]) (st := []) (gr := [(wModel E a0 (rf2 h0_0 h0_1) v0).take 4, (wModel E a0 (rf2 h0_0 h0_1) v0).drop 5]) (c_X9_copy_S (E := E) (q0 := a0 4) (n0 := 1720) hp29) gX9_record_X9_copy rfl ysk_X9_copy ⟨by decide, by decide⟩ ⟨by decide, by decide⟩ [1] [0, 2] 3 rfl (by decide) rfl rfl (Nat.le_of_ble_eq_true rfl) dX9_record_29 ?_
      rintro _ _ ⟨rfl, rfl⟩
      refine ww_perm (gs' := [(wModel E a0 (rf2 h0_0 h0_1) v0).take 4, wArr E (a0 4) 1720 p29, (wModel E a0 (rf2 h0_0 h0_1) v0).drop 5]) [1, 0, 2] 3 rfl (by decide) rfl ?_
      refine ww_regr (gs' := [wModel E a0 (rf2 h0_0 h0_1) v0_29]) (by rw [e_v0_29]; rfl) ?_
      obtain ⟨x1_32, e_x1_32⟩ : ∃ y : Int32, y = x1 + 1 := ⟨_, rfl⟩
      replace hf := ltE e_x1_32 hf
      refine ww_iinc (v := x1_32) (lv' := [(1, .int x1_32), (0, .ref (a0 0))]) C dX9_record_32 1 rfl (by rw [e_x1_32]; rfl) (by decide) rfl ?_
      refine ww_goto (tgt := 11) C dX9_record_35 (by decide) ?_
      refine ww_sub C (lv' := [(0, .ref (a0 0)), (1, .int x1_32)]) [1, 0] rfl ?_
      exact ih _ _ hf

set_option maxHeartbeats 4000000 in
set_option maxRecDepth 100000 in
theorem c_X9_record {E : Ex} {a0 : Nat → Nat} {h0_0 h0_1 : Nat} {v0 : ModelV} {r : ModelV} (hf : Mod_record v0 = some r) : Ct E yX9_record wsX9_record rmX9_record [.ref (a0 0)] [wModel E a0 (rf2 h0_0 h0_1) v0] (fun rv g => rv = none ∧ g = [wModel E a0 (rf2 h0_0 h0_1) r]) := by
  refine ct_of (own := RX9) (by decide +kernel) rfl rfl (Nat.le_of_ble_eq_true rfl) (fun K C => ?_)
  refine ww_sub C (lv' := [(0, .ref (a0 0))]) [0] rfl ?_
  rw [Mod_record] at hf
  refine ww_aload_n C dX9_record_0 rfl 0 rfl ?_
  refine ww_get C clOK9 in_X9_record_X9 (w := wModel E a0 (rf2 h0_0 h0_1) v0) (fs := fsModel a0 (rf2 h0_0 h0_1) v0) (v := .int (Model_undoCount v0)) 0 0 4 rfl q_Model (by decide) (by decide +kernel) g_Model_undoCount dX9_record_1 ?_
  refine ww_bipush (v := 10) C dX9_record_4 (by decide) ?_
  refine ww_icmp_ne (tgt := 48) C dX9_record_6 (by decide) (fun c_1 => ?_) (fun c_1 => ?_)
  · replace hf := ifF c_1 hf
    refine ww_sub C (lv' := [(0, .ref (a0 0))]) [0] rfl ?_
    exact w_X9_record_48 C hf
  · replace hf := ifT c_1 hf
    refine ww_iconst (v := 1) C dX9_record_9 (by decide) ?_
    refine ww_istore_n (lv' := [(1, .int 1), (0, .ref (a0 0))]) C dX9_record_10 rfl (by decide) rfl ?_
    refine ww_sub C (lv' := [(0, .ref (a0 0)), (1, .int 1)]) [1, 0] rfl ?_
    exact w_X9_record_11 C FU _ _ hf

theorem yk_X9_record : yX9_record.cls = RX9 ∧ yX9_record.cls ≠ "java/lang/invoke/MethodHandle" ∧ yX9_record.cls ≠ "java/lang/invoke/VarHandle" ∧ (parseMethodDescriptor yX9_record.desc).map (fun d => d.parameters.length) = some 0 := by decide +kernel
abbrev rmX9_pass : Room := { frames := 4, cells := 0, slots := 0, locals := 88 }
set_option maxRecDepth 20000 in
theorem in_X9_pass_X9 : ∀ w ∈ u_ws RX9 TX9 35, w ∈ wsX9_pass := by decide +kernel
set_option maxHeartbeats 4000000 in
set_option maxRecDepth 100000 in
theorem w_X9_pass_74 {E : Ex} {K : Kx} (C : Cx E K cX9_pass 6 (some .int) RX9 wsX9_pass rmX9_pass) {a0 : Nat → Nat} {h0_1 : Nat} {x1 : Int32} {x2 : Int32} {x3 : Int32} {x4 : Int32} {k54 : Int32 → ModelV → Option (Int32 × ModelV)} {r : (Int32 × ModelV)} (hk54 : ∀ (x3 : Int32) (v0 : ModelV), k54 x3 v0 = some r → WW E K 0 0 (QQ E K (fun rv g => rv = some (.int r.1) ∧ g = [wModel E a0 (rf2 (a0 1) h0_1) r.2]) 0 0) 54 [(0, .ref (a0 0)), (1, .int x1), (2, .int x2), (3, .int x3)] [] [wModel E a0 (rf2 (a0 1) h0_1) v0]) : ∀ (n : Nat) (x5 : Int32) (v0 : ModelV), Mod_pass_74 x1 x2 x3 x4 k54 n x5 v0 = some r → WW E K 0 0 (QQ E K (fun rv g => rv = some (.int r.1) ∧ g = [wModel E a0 (rf2 (a0 1) h0_1) r.2]) 0 0) 74 [(0, .ref (a0 0)), (1, .int x1), (2, .int x2), (3, .int x3), (4, .int x4), (5, .int x5)] [] [wModel E a0 (rf2 (a0 1) h0_1) v0] := by
  intro n
  induction n with
  | zero =>
    intro x5 v0 hf
    simp [Mod_pass_74] at hf
  | succ n ih =>
    intro x5 v0 hf
    rw [Mod_pass_74] at hf
    refine ww_iload C dX9_pass_74 5 rfl ?_
    refine ww_aload_n C dX9_pass_76 rfl 0 rfl ?_
    obtain ⟨p77, hp77, hf⟩ := bdE hf
    refine ww_callV C (As := []) (st := [.int x5]) (gr := []) (c_X9_rooms (E := E) (a0 := a0) (h0_1 := h0_1) hp77) gX9_pass_X9_rooms rfl yk_X9_rooms ⟨by decide, by decide⟩ ⟨by decide, by decide⟩ clOK9 0 0 rfl rfl [0] [] 1 rfl (by decide) rfl rfl (Nat.le_of_ble_eq_true rfl) dX9_pass_77 ?_
    rintro _ _ ⟨rfl, rfl⟩
    refine ww_perm (gs' := [wModel E a0 (rf2 (a0 1) h0_1) v0]) [0] 1 rfl (by decide) rfl ?_
    refine ww_icmp_ge (tgt := 102) C dX9_pass_80 (by decide) (fun c_6 => ?_) (fun c_6 => ?_)
    · replace hf := ifT c_6 hf
      refine ww_aload_n C dX9_pass_102 rfl 0 rfl ?_
      refine ww_get C clOK9 in_X9_pass_X9 (w := wModel E a0 (rf2 (a0 1) h0_1) v0) (fs := fsModel a0 (rf2 (a0 1) h0_1) v0) (v := .ref (a0 1)) 0 0 0 rfl q_Model (by decide) (by decide +kernel) g_Model_now dX9_pass_103 ?_
      refine ww_iconst (v := 3) C dX9_pass_106 (by decide) ?_
      refine ww_dup2 C dX9_pass_107 rfl rfl ?_
      obtain ⟨g_7, hf⟩ := gdE hf
      refine ww_iald C (f := Model_now v0) (w := wModel E a0 (rf2 (a0 1) h0_1) v0) 0 1 rfl c_Model_now (inB_vp g_7) dX9_pass_108 ?_
      refine ww_iconst (v := 1) C dX9_pass_109 (by decide) ?_
      refine ww_iadd C dX9_pass_110 ?_
      obtain ⟨v0_111, e_v0_111⟩ : ∃ y : ModelV, y = Model_set_now v0 (upd (Model_now v0) (Int32.toNatClampNeg 3) (((Model_now v0) (Int32.toNatClampNeg 3)) + 1)) := ⟨_, rfl⟩
      replace hf := ltE e_v0_111 hf
      refine ww_iast C (f := Model_now v0) (w := wModel E a0 (rf2 (a0 1) h0_1) v0) (w' := wModel E a0 (rf2 (a0 1) h0_1) v0_111) (gs' := [wModel E a0 (rf2 (a0 1) h0_1) v0_111]) 0 1 rfl c_Model_now (inB_vp g_7) (by rw [e_v0_111]; exact s_Model_now) rfl dX9_pass_111 ?_
      obtain ⟨x3_112, e_x3_112⟩ : ∃ y : Int32, y = x3 + 1 := ⟨_, rfl⟩
      replace hf := ltE e_x3_112 hf
      refine ww_iinc (v := x3_112) (lv' := [(3, .int x3_112), (0, .ref (a0 0)), (1, .int x1), (2, .int x2), (4, .int x4), (5, .int x5)]) C dX9_pass_112 3 rfl (by rw [e_x3_112]; rfl) (by decide) rfl ?_
      refine ww_goto (tgt := 54) C dX9_pass_115 (by decide) ?_
      refine ww_sub C (lv' := [(0, .ref (a0 0)), (1, .int x1), (2, .int x2), (3, .int x3_112)]) [1, 2, 3, 0] rfl ?_
      exact hk54 _ _ hf
    · replace hf := ifF c_6 hf
      refine ww_aload_n C dX9_pass_83 rfl 0 rfl ?_
      refine ww_iload C dX9_pass_84 5 rfl ?_
      refine ww_iload C dX9_pass_86 4 rfl ?_
      refine ww_iload C dX9_pass_88 5 rfl ?_
      obtain ⟨p90, hp90, hf⟩ := bdE hf
      refine ww_callS C (As := [.int x4, .int x5]) (st := [.int x5, .ref (a0 0)]) (gr := [wModel E a0 (rf2 (a0 1) h0_1) v0]) (c_X9_has (E := E)  hp90) gX9_pass_X9_has rfl ysk_X9_has ⟨by decide, by decide⟩ ⟨by decide, by decide⟩ [] [0] 1 rfl (by decide) rfl rfl (Nat.le_of_ble_eq_true rfl) dX9_pass_90 ?_
      rintro _ _ ⟨rfl, rfl⟩
      refine ww_perm (gs' := [wModel E a0 (rf2 (a0 1) h0_1) v0]) [0] 1 rfl (by decide) rfl ?_
      obtain ⟨p93, hp93, hf⟩ := bdE hf
      refine ww_callV C (As := [.int x5, .int (b2i p90)]) (st := []) (gr := []) (c_X9_passRoom (E := E) (a0 := a0) (h0_1 := h0_1) hp93) gX9_pass_X9_passRoom rfl yk_X9_passRoom ⟨by decide, by decide⟩ ⟨by decide, by decide⟩ clOK9 0 0 rfl rfl [0] [] 1 rfl (by decide) rfl rfl (Nat.le_of_ble_eq_true rfl) dX9_pass_93 ?_
      rintro _ _ ⟨rfl, rfl⟩
      refine ww_perm (gs' := [wModel E a0 (rf2 (a0 1) h0_1) p93]) [0] 1 rfl (by decide) rfl ?_
      obtain ⟨x5_96, e_x5_96⟩ : ∃ y : Int32, y = x5 + 1 := ⟨_, rfl⟩
      replace hf := ltE e_x5_96 hf
      refine ww_iinc (v := x5_96) (lv' := [(5, .int x5_96), (0, .ref (a0 0)), (1, .int x1), (2, .int x2), (3, .int x3), (4, .int x4)]) C dX9_pass_96 5 rfl (by rw [e_x5_96]; rfl) (by decide) rfl ?_
      refine ww_goto (tgt := 74) C dX9_pass_99 (by decide) ?_
      refine ww_sub C (lv' := [(0, .ref (a0 0)), (1, .int x1), (2, .int x2), (3, .int x3), (4, .int x4), (5, .int x5_96)]) [1, 2, 3, 4, 5, 0] rfl ?_
      exact ih _ _ hf

set_option maxHeartbeats 4000000 in
set_option maxRecDepth 100000 in
theorem w_X9_pass_54 {E : Ex} {K : Kx} (C : Cx E K cX9_pass 6 (some .int) RX9 wsX9_pass rmX9_pass) {a0 : Nat → Nat} {h0_1 : Nat} {x1 : Int32} {x2 : Int32} {r : (Int32 × ModelV)} : ∀ (n : Nat) (x3 : Int32) (v0 : ModelV), Mod_pass_54 x1 x2 n x3 v0 = some r → WW E K 0 0 (QQ E K (fun rv g => rv = some (.int r.1) ∧ g = [wModel E a0 (rf2 (a0 1) h0_1) r.2]) 0 0) 54 [(0, .ref (a0 0)), (1, .int x1), (2, .int x2), (3, .int x3)] [] [wModel E a0 (rf2 (a0 1) h0_1) v0] := by
  intro n
  induction n with
  | zero =>
    intro x3 v0 hf
    simp [Mod_pass_54] at hf
  | succ n ih =>
    intro x3 v0 hf
    rw [Mod_pass_54] at hf
    refine ww_iload_n C dX9_pass_54 rfl 3 rfl ?_
    refine ww_iload_n C dX9_pass_55 rfl 1 rfl ?_
    refine ww_icmp_ge (tgt := 118) C dX9_pass_56 (by decide) (fun c_4 => ?_) (fun c_4 => ?_)
    · replace hf := ifT c_4 hf
      refine ww_aload_n C dX9_pass_118 rfl 0 rfl ?_
      obtain ⟨p119, hp119, hf⟩ := bdE hf
      refine ww_callV C (As := []) (st := []) (gr := []) (c_X9_sightings (E := E) (a0 := a0) (h0_1 := h0_1) hp119) gX9_pass_X9_sightings rfl yk_X9_sightings ⟨by decide, by decide⟩ ⟨by decide, by decide⟩ clOK9 0 0 rfl rfl [0] [] 1 rfl (by decide) rfl rfl (Nat.le_of_ble_eq_true rfl) dX9_pass_119 ?_
      rintro _ _ ⟨rfl, rfl⟩
      refine ww_perm (gs' := [wModel E a0 (rf2 (a0 1) h0_1) v0]) [0] 1 rfl (by decide) rfl ?_
      refine ww_iload_n C dX9_pass_122 rfl 2 rfl ?_
      refine ww_isub C dX9_pass_123 ?_
      obtain rfl := Option.some.inj hf
      exact ww_iret C ⟨rfl, rfl⟩ dX9_pass_124
    · replace hf := ifF c_4 hf
      refine ww_aload_n C dX9_pass_59 rfl 0 rfl ?_
      refine ww_aload_n C dX9_pass_60 rfl 0 rfl ?_
      refine ww_get C clOK9 in_X9_pass_X9 (w := wModel E a0 (rf2 (a0 1) h0_1) v0) (fs := fsModel a0 (rf2 (a0 1) h0_1) v0) (v := .ref (a0 1)) 0 0 0 rfl q_Model (by decide) (by decide +kernel) g_Model_now dX9_pass_61 ?_
      refine ww_iconst (v := 3) C dX9_pass_64 (by decide) ?_
      obtain ⟨g_5, hf⟩ := gdE hf
      refine ww_iald C (f := Model_now v0) (w := wModel E a0 (rf2 (a0 1) h0_1) v0) 0 1 rfl c_Model_now (inB_vp g_5) dX9_pass_65 ?_
      obtain ⟨p66, hp66, hf⟩ := bdE hf
      refine ww_callV C (As := [.int ((Model_now v0) (Int32.toNatClampNeg 3))]) (st := []) (gr := []) (c_X9_seenAt (E := E) (a0 := a0) (h0_1 := h0_1) hp66) gX9_pass_X9_seenAt rfl yk_X9_seenAt ⟨by decide, by decide⟩ ⟨by decide, by decide⟩ clOK9 0 0 rfl rfl [0] [] 1 rfl (by decide) rfl rfl (Nat.le_of_ble_eq_true rfl) dX9_pass_66 ?_
      rintro _ _ ⟨rfl, rfl⟩
      refine ww_perm (gs' := [wModel E a0 (rf2 (a0 1) h0_1) v0]) [0] 1 rfl (by decide) rfl ?_
      refine ww_istore (lv' := [(4, .int p66), (0, .ref (a0 0)), (1, .int x1), (2, .int x2), (3, .int x3)]) C dX9_pass_69 (by decide) rfl ?_
      refine ww_iconst (v := 0) C dX9_pass_71 (by decide) ?_
      refine ww_istore (lv' := [(5, .int 0), (4, .int p66), (0, .ref (a0 0)), (1, .int x1), (2, .int x2), (3, .int x3)]) C dX9_pass_72 (by decide) rfl ?_
      refine ww_sub C (lv' := [(0, .ref (a0 0)), (1, .int x1), (2, .int x2), (3, .int x3), (4, .int p66), (5, .int 0)]) [2, 3, 4, 5, 1, 0] rfl ?_
      exact w_X9_pass_74 C (k54 := (fun (x3 : Int32) (v0 : ModelV) => Mod_pass_54 x1 x2 n x3 v0)) ih FU _ _ hf

set_option maxHeartbeats 4000000 in
set_option maxRecDepth 100000 in
theorem c_X9_pass {E : Ex} {a0 : Nat → Nat} {h0_1 : Nat} {x1 : Int32} {v0 : ModelV} {r : (Int32 × ModelV)} (hf : Mod_pass x1 v0 = some r) : Ct E yX9_pass wsX9_pass rmX9_pass [.ref (a0 0), .int x1] [wModel E a0 (rf2 (a0 1) h0_1) v0] (fun rv g => rv = some (.int r.1) ∧ g = [wModel E a0 (rf2 (a0 1) h0_1) r.2]) := by
  refine ct_of (own := RX9) (by decide +kernel) rfl rfl (Nat.le_of_ble_eq_true rfl) (fun K C => ?_)
  refine ww_sub C (lv' := [(0, .ref (a0 0)), (1, .int x1)]) [0, 1] rfl ?_
  rw [Mod_pass] at hf
  refine ww_aload_n C dX9_pass_0 rfl 0 rfl ?_
  refine ww_iconst (v := 0) C dX9_pass_1 (by decide) ?_
  obtain ⟨v0_2, e_v0_2⟩ : ∃ y : ModelV, y = Model_set_thrown v0 0 := ⟨_, rfl⟩
  replace hf := ltE e_v0_2 hf
  refine ww_put C clOK9 in_X9_pass_X9 (w := wModel E a0 (rf2 (a0 1) h0_1) v0) (fs := fsModel a0 (rf2 (a0 1) h0_1) v0) (w' := wModel E a0 (rf2 (a0 1) h0_1) v0_2) (gs' := [wModel E a0 (rf2 (a0 1) h0_1) v0_2]) 0 0 5 rfl q_Model (by decide) (by decide +kernel) rfl rfl rfl rfl l_Model (by rw [e_v0_2]; exact p_Model_thrown) rfl dX9_pass_2 ?_
  refine ww_iload_n C dX9_pass_5 rfl 1 rfl ?_
  refine ww_iconst (v := 1) C dX9_pass_6 (by decide) ?_
  refine ww_sipush (v := 500) C dX9_pass_7 (by decide) ?_
  obtain ⟨p10, hp10, hf⟩ := bdE hf
  refine ww_callS C (As := [.int x1, .int 1, .int 500]) (st := []) (gr := [wModel E a0 (rf2 (a0 1) h0_1) v0_2]) (c_X9_inRange (E := E)  hp10) gX9_pass_X9_inRange rfl ysk_X9_inRange ⟨by decide, by decide⟩ ⟨by decide, by decide⟩ [] [0] 1 rfl (by decide) rfl rfl (Nat.le_of_ble_eq_true rfl) dX9_pass_10 ?_
  rintro _ _ ⟨rfl, rfl⟩
  refine ww_perm (gs' := [wModel E a0 (rf2 (a0 1) h0_1) v0_2]) [0] 1 rfl (by decide) rfl ?_
  refine ww_if_neB (tgt := 22) C dX9_pass_13 (by decide) (fun c_1 => ?_) (fun c_1 => ?_)
  · replace hf := btE c_1 hf
    refine ww_aload_n C dX9_pass_22 rfl 0 rfl ?_
    refine ww_get C clOK9 in_X9_pass_X9 (w := wModel E a0 (rf2 (a0 1) h0_1) v0_2) (fs := fsModel a0 (rf2 (a0 1) h0_1) v0_2) (v := .ref (a0 1)) 0 0 0 rfl q_Model (by decide) (by decide +kernel) g_Model_now dX9_pass_23 ?_
    refine ww_iconst (v := 3) C dX9_pass_26 (by decide) ?_
    obtain ⟨g_2, hf⟩ := gdE hf
    refine ww_iald C (f := Model_now v0_2) (w := wModel E a0 (rf2 (a0 1) h0_1) v0_2) 0 1 rfl c_Model_now (inB_vp g_2) dX9_pass_27 ?_
    refine ww_iload_n C dX9_pass_28 rfl 1 rfl ?_
    refine ww_iadd C dX9_pass_29 ?_
    refine ww_ldcw (v := 99999) C (by decide +kernel) dX9_pass_30 ?_
    refine ww_icmp_le (tgt := 39) C dX9_pass_33 (by decide) (fun c_3 => ?_) (fun c_3 => ?_)
    · replace hf := ifT c_3 hf
      refine ww_aload_n C dX9_pass_39 rfl 0 rfl ?_
      obtain ⟨p40, hp40, hf⟩ := bdE hf
      refine ww_callV C (As := []) (st := []) (gr := []) (c_X9_record (E := E) (a0 := a0) (h0_0 := a0 1) (h0_1 := h0_1) hp40) gX9_pass_X9_record rfl yk_X9_record ⟨by decide, by decide⟩ ⟨by decide, by decide⟩ clOK9 0 0 rfl rfl [0] [] 1 rfl (by decide) rfl rfl (Nat.le_of_ble_eq_true rfl) dX9_pass_40 ?_
      rintro _ _ ⟨rfl, rfl⟩
      refine ww_perm (gs' := [wModel E a0 (rf2 (a0 1) h0_1) p40]) [0] 1 rfl (by decide) rfl ?_
      refine ww_aload_n C dX9_pass_43 rfl 0 rfl ?_
      obtain ⟨p44, hp44, hf⟩ := bdE hf
      refine ww_callV C (As := []) (st := []) (gr := []) (c_X9_takePhases (E := E) (a0 := a0) (h0_1 := h0_1) hp44) gX9_pass_X9_takePhases rfl yk_X9_takePhases ⟨by decide, by decide⟩ ⟨by decide, by decide⟩ clOK9 0 0 rfl rfl [0] [] 1 rfl (by decide) rfl rfl (Nat.le_of_ble_eq_true rfl) dX9_pass_44 ?_
      rintro _ _ ⟨rfl, rfl⟩
      refine ww_perm (gs' := [wModel E a0 (rf2 (a0 1) h0_1) p44]) [0] 1 rfl (by decide) rfl ?_
      refine ww_aload_n C dX9_pass_47 rfl 0 rfl ?_
      obtain ⟨p48, hp48, hf⟩ := bdE hf
      refine ww_callV C (As := []) (st := []) (gr := []) (c_X9_sightings (E := E) (a0 := a0) (h0_1 := h0_1) hp48) gX9_pass_X9_sightings rfl yk_X9_sightings ⟨by decide, by decide⟩ ⟨by decide, by decide⟩ clOK9 0 0 rfl rfl [0] [] 1 rfl (by decide) rfl rfl (Nat.le_of_ble_eq_true rfl) dX9_pass_48 ?_
      rintro _ _ ⟨rfl, rfl⟩
      refine ww_perm (gs' := [wModel E a0 (rf2 (a0 1) h0_1) p44]) [0] 1 rfl (by decide) rfl ?_
      refine ww_istore_n (lv' := [(2, .int p48), (0, .ref (a0 0)), (1, .int x1)]) C dX9_pass_51 rfl (by decide) rfl ?_
      refine ww_iconst (v := 0) C dX9_pass_52 (by decide) ?_
      refine ww_istore_n (lv' := [(3, .int 0), (2, .int p48), (0, .ref (a0 0)), (1, .int x1)]) C dX9_pass_53 rfl (by decide) rfl ?_
      refine ww_sub C (lv' := [(0, .ref (a0 0)), (1, .int x1), (2, .int p48), (3, .int 0)]) [2, 3, 1, 0] rfl ?_
      exact w_X9_pass_54 C FU _ _ hf
    · replace hf := ifF c_3 hf
      refine ww_bipush (v := (-2)) C dX9_pass_36 (by decide) ?_
      obtain rfl := Option.some.inj hf
      exact ww_iret C ⟨rfl, rfl⟩ dX9_pass_38
  · replace hf := bfE c_1 hf
    refine ww_aload_n C dX9_pass_16 rfl 0 rfl ?_
    refine ww_iconst (v := 1) C dX9_pass_17 (by decide) ?_
    obtain ⟨p18, hp18, hf⟩ := bdE hf
    refine ww_callV C (As := [.int 1]) (st := []) (gr := []) (c_X9_raise (E := E) (a0 := a0) (h0_0 := a0 1) (h0_1 := h0_1) hp18) gX9_pass_X9_raise rfl yk_X9_raise ⟨by decide, by decide⟩ ⟨by decide, by decide⟩ clOK9 0 0 rfl rfl [0] [] 1 rfl (by decide) rfl rfl (Nat.le_of_ble_eq_true rfl) dX9_pass_18 ?_
    rintro _ _ ⟨rfl, rfl⟩
    refine ww_perm (gs' := [wModel E a0 (rf2 (a0 1) h0_1) p18.2]) [0] 1 rfl (by decide) rfl ?_
    obtain rfl := Option.some.inj hf
    exact ww_iret C ⟨rfl, rfl⟩ dX9_pass_21

theorem yk_X9_pass : yX9_pass.cls = RX9 ∧ yX9_pass.cls ≠ "java/lang/invoke/MethodHandle" ∧ yX9_pass.cls ≠ "java/lang/invoke/VarHandle" ∧ (parseMethodDescriptor yX9_pass.desc).map (fun d => d.parameters.length) = some 1 := by decide +kernel
abbrev rmX9_shift : Room := { frames := 6, cells := 0, slots := 0, locals := 130 }
set_option maxRecDepth 20000 in
theorem in_X9_shift_X9 : ∀ w ∈ u_ws RX9 TX9 35, w ∈ wsX9_shift := by decide +kernel
set_option maxHeartbeats 4000000 in
set_option maxRecDepth 100000 in
theorem w_X9_shift_27 {E : Ex} {K : Kx} (C : Cx E K cX9_shift 3 (some .int) RX9 wsX9_shift rmX9_shift) {a0 : Nat → Nat} {h0_1 : Nat} {x1 : Int32} {x2 : Int32}  {s0 : Int32} {v0 : ModelV} {r : (Int32 × ModelV)} (hf : Mod_shift_27 x1 x2 s0 v0 = some r) : WW E K 0 0 (QQ E K (fun rv g => rv = some (.int r.1) ∧ g = [wModel E a0 (rf2 (a0 1) h0_1) r.2]) 0 0) 27 [(0, .ref (a0 0)), (1, .int x1), (2, .int x2)] [.int s0, .ref (a0 0)] [wModel E a0 (rf2 (a0 1) h0_1) v0] := by
  rw [Mod_shift_27] at hf
  obtain ⟨v0_27, e_v0_27⟩ : ∃ y : ModelV, y = Model_set_thrown v0 s0 := ⟨_, rfl⟩
  replace hf := ltE e_v0_27 hf
  refine ww_put C clOK9 in_X9_shift_X9 (w := wModel E a0 (rf2 (a0 1) h0_1) v0) (fs := fsModel a0 (rf2 (a0 1) h0_1) v0) (w' := wModel E a0 (rf2 (a0 1) h0_1) v0_27) (gs' := [wModel E a0 (rf2 (a0 1) h0_1) v0_27]) 0 0 5 rfl q_Model (by decide) (by decide +kernel) rfl rfl rfl rfl l_Model (by rw [e_v0_27]; exact p_Model_thrown) rfl dX9_shift_27 ?_
  refine ww_aload_n C dX9_shift_30 rfl 0 rfl ?_
  refine ww_get C clOK9 in_X9_shift_X9 (w := wModel E a0 (rf2 (a0 1) h0_1) v0_27) (fs := fsModel a0 (rf2 (a0 1) h0_1) v0_27) (v := .int (Model_thrown v0_27)) 0 0 5 rfl q_Model (by decide) (by decide +kernel) g_Model_thrown dX9_shift_31 ?_
  refine ww_if_eq (tgt := 39) C dX9_shift_34 (by decide) (fun c_3 => ?_) (fun c_3 => ?_)
  · replace hf := ifT c_3 hf
    refine ww_aload_n C dX9_shift_39 rfl 0 rfl ?_
    obtain ⟨p40, hp40, hf⟩ := bdE hf
    refine ww_callV C (As := []) (st := []) (gr := []) (c_X9_record (E := E) (a0 := a0) (h0_0 := a0 1) (h0_1 := h0_1) hp40) gX9_shift_X9_record rfl yk_X9_record ⟨by decide, by decide⟩ ⟨by decide, by decide⟩ clOK9 0 0 rfl rfl [0] [] 1 rfl (by decide) rfl rfl (Nat.le_of_ble_eq_true rfl) dX9_shift_40 ?_
    rintro _ _ ⟨rfl, rfl⟩
    refine ww_perm (gs' := [wModel E a0 (rf2 (a0 1) h0_1) p40]) [0] 1 rfl (by decide) rfl ?_
    refine ww_aload_n C dX9_shift_43 rfl 0 rfl ?_
    refine ww_get C clOK9 in_X9_shift_X9 (w := wModel E a0 (rf2 (a0 1) h0_1) p40) (fs := fsModel a0 (rf2 (a0 1) h0_1) p40) (v := .ref (a0 1)) 0 0 0 rfl q_Model (by decide) (by decide +kernel) g_Model_now dX9_shift_44 ?_
    refine ww_iload_n C dX9_shift_47 rfl 1 rfl ?_
    refine ww_iconst (v := 1) C dX9_shift_48 (by decide) ?_
    obtain ⟨p49, hp49, hf⟩ := bdE hf
    refine ww_callS C (As := [.int x1, .int 1]) (st := [.ref (a0 1)]) (gr := [wModel E a0 (rf2 (a0 1) h0_1) p40]) (c_X9_guardAt (E := E)  hp49) gX9_shift_X9_guardAt rfl ysk_X9_guardAt ⟨by decide, by decide⟩ ⟨by decide, by decide⟩ [] [0] 1 rfl (by decide) rfl rfl (Nat.le_of_ble_eq_true rfl) dX9_shift_49 ?_
    rintro _ _ ⟨rfl, rfl⟩
    refine ww_perm (gs' := [wModel E a0 (rf2 (a0 1) h0_1) p40]) [0] 1 rfl (by decide) rfl ?_
    refine ww_iload_n C dX9_shift_52 rfl 2 rfl ?_
    obtain ⟨g_4, hf⟩ := gdE hf
    obtain ⟨v0_53, e_v0_53⟩ : ∃ y : ModelV, y = Model_set_now p40 (upd (Model_now p40) (Int32.toNatClampNeg p49) x2) := ⟨_, rfl⟩
    replace hf := ltE e_v0_53 hf
    refine ww_iast C (f := Model_now p40) (w := wModel E a0 (rf2 (a0 1) h0_1) p40) (w' := wModel E a0 (rf2 (a0 1) h0_1) v0_53) (gs' := [wModel E a0 (rf2 (a0 1) h0_1) v0_53]) 0 1 rfl c_Model_now (inB_vp g_4) (by rw [e_v0_53]; exact s_Model_now) rfl dX9_shift_53 ?_
    refine ww_aload_n C dX9_shift_54 rfl 0 rfl ?_
    obtain ⟨p55, hp55, hf⟩ := bdE hf
    refine ww_callV C (As := []) (st := []) (gr := []) (c_X9_layNow (E := E) (a0 := a0) (h0_1 := h0_1) hp55) gX9_shift_X9_layNow rfl yk_X9_layNow ⟨by decide, by decide⟩ ⟨by decide, by decide⟩ clOK9 0 0 rfl rfl [0] [] 1 rfl (by decide) rfl rfl (Nat.le_of_ble_eq_true rfl) dX9_shift_55 ?_
    rintro _ _ ⟨rfl, rfl⟩
    refine ww_perm (gs' := [wModel E a0 (rf2 (a0 1) h0_1) p55]) [0] 1 rfl (by decide) rfl ?_
    refine ww_aload_n C dX9_shift_58 rfl 0 rfl ?_
    obtain ⟨p59, hp59, hf⟩ := bdE hf
    refine ww_callV C (As := []) (st := []) (gr := []) (c_X9_worstLaid (E := E) (a0 := a0) (h0_1 := h0_1) hp59) gX9_shift_X9_worstLaid rfl yk_X9_worstLaid ⟨by decide, by decide⟩ ⟨by decide, by decide⟩ clOK9 0 0 rfl rfl [0] [] 1 rfl (by decide) rfl rfl (Nat.le_of_ble_eq_true rfl) dX9_shift_59 ?_
    rintro _ _ ⟨rfl, rfl⟩
    refine ww_perm (gs' := [wModel E a0 (rf2 (a0 1) h0_1) p55]) [0] 1 rfl (by decide) rfl ?_
    obtain rfl := Option.some.inj hf
    exact ww_iret C ⟨rfl, rfl⟩ dX9_shift_62
  · replace hf := ifF c_3 hf
    refine ww_iconst (v := 0) C dX9_shift_37 (by decide) ?_
    obtain rfl := Option.some.inj hf
    exact ww_iret C ⟨rfl, rfl⟩ dX9_shift_38

set_option maxHeartbeats 4000000 in
set_option maxRecDepth 100000 in
theorem c_X9_shift {E : Ex} {a0 : Nat → Nat} {h0_1 : Nat} {x1 : Int32} {x2 : Int32} {v0 : ModelV} {r : (Int32 × ModelV)} (hf : Mod_shift x1 x2 v0 = some r) : Ct E yX9_shift wsX9_shift rmX9_shift [.ref (a0 0), .int x1, .int x2] [wModel E a0 (rf2 (a0 1) h0_1) v0] (fun rv g => rv = some (.int r.1) ∧ g = [wModel E a0 (rf2 (a0 1) h0_1) r.2]) := by
  refine ct_of (own := RX9) (by decide +kernel) rfl rfl (Nat.le_of_ble_eq_true rfl) (fun K C => ?_)
  refine ww_sub C (lv' := [(0, .ref (a0 0)), (1, .int x1), (2, .int x2)]) [0, 1, 2] rfl ?_
  rw [Mod_shift] at hf
  refine ww_aload_n C dX9_shift_0 rfl 0 rfl ?_
  refine ww_aload_n C dX9_shift_1 rfl 0 rfl ?_
  refine ww_iload_n C dX9_shift_2 rfl 1 rfl ?_
  obtain ⟨p3, hp3, hf⟩ := bdE hf
  refine ww_callV C (As := [.int x1]) (st := [.ref (a0 0)]) (gr := []) (c_X9_isGuard (E := E) (a0 := a0) (h0_1 := h0_1) hp3) gX9_shift_X9_isGuard rfl yk_X9_isGuard ⟨by decide, by decide⟩ ⟨by decide, by decide⟩ clOK9 0 0 rfl rfl [0] [] 1 rfl (by decide) rfl rfl (Nat.le_of_ble_eq_true rfl) dX9_shift_3 ?_
  rintro _ _ ⟨rfl, rfl⟩
  refine ww_perm (gs' := [wModel E a0 (rf2 (a0 1) h0_1) v0]) [0] 1 rfl (by decide) rfl ?_
  refine ww_if_neB (tgt := 13) C dX9_shift_6 (by decide) (fun c_1 => ?_) (fun c_1 => ?_)
  · replace hf := btE c_1 hf
    refine ww_aload_n C dX9_shift_13 rfl 0 rfl ?_
    refine ww_iload_n C dX9_shift_14 rfl 1 rfl ?_
    refine ww_iload_n C dX9_shift_15 rfl 2 rfl ?_
    obtain ⟨p16, hp16, hf⟩ := bdE hf
    refine ww_callV C (As := [.int x1, .int x2]) (st := [.ref (a0 0)]) (gr := []) (c_X9_isPhase (E := E) (a0 := a0) (h0_1 := h0_1) hp16) gX9_shift_X9_isPhase rfl yk_X9_isPhase ⟨by decide, by decide⟩ ⟨by decide, by decide⟩ clOK9 0 0 rfl rfl [0] [] 1 rfl (by decide) rfl rfl (Nat.le_of_ble_eq_true rfl) dX9_shift_16 ?_
    rintro _ _ ⟨rfl, rfl⟩
    refine ww_perm (gs' := [wModel E a0 (rf2 (a0 1) h0_1) v0]) [0] 1 rfl (by decide) rfl ?_
    refine ww_if_eqB (tgt := 26) C dX9_shift_19 (by decide) (fun c_2 => ?_) (fun c_2 => ?_)
    · replace hf := bfE c_2 hf
      refine ww_iconst (v := 2) C dX9_shift_26 (by decide) ?_
      refine ww_sub C (lv' := [(0, .ref (a0 0)), (1, .int x1), (2, .int x2)]) [0, 1, 2] rfl ?_
      exact w_X9_shift_27 C hf
    · replace hf := btE c_2 hf
      refine ww_iconst (v := 0) C dX9_shift_22 (by decide) ?_
      refine ww_goto (tgt := 27) C dX9_shift_23 (by decide) ?_
      refine ww_sub C (lv' := [(0, .ref (a0 0)), (1, .int x1), (2, .int x2)]) [0, 1, 2] rfl ?_
      exact w_X9_shift_27 C hf
  · replace hf := bfE c_1 hf
    refine ww_iconst (v := 1) C dX9_shift_9 (by decide) ?_
    refine ww_goto (tgt := 27) C dX9_shift_10 (by decide) ?_
    refine ww_sub C (lv' := [(0, .ref (a0 0)), (1, .int x1), (2, .int x2)]) [0, 1, 2] rfl ?_
    exact w_X9_shift_27 C hf

theorem yk_X9_shift : yX9_shift.cls = RX9 ∧ yX9_shift.cls ≠ "java/lang/invoke/MethodHandle" ∧ yX9_shift.cls ≠ "java/lang/invoke/VarHandle" ∧ (parseMethodDescriptor yX9_shift.desc).map (fun d => d.parameters.length) = some 2 := by decide +kernel
abbrev rmX9_adopt : Room := { frames := 9, cells := 0, slots := 0, locals := 203 }
set_option maxRecDepth 20000 in
theorem in_X9_adopt_X9 : ∀ w ∈ u_ws RX9 TX9 35, w ∈ wsX9_adopt := by decide +kernel
set_option maxHeartbeats 4000000 in
set_option maxRecDepth 100000 in
theorem w_X9_adopt_45 {E : Ex} {K : Kx} (C : Cx E K cX9_adopt 3 (some .int) RX9 wsX9_adopt rmX9_adopt) {a0 : Nat → Nat} {h0_1 : Nat}   {x2 : Int32} {s0 : Int32} {s1 : Int32} {v0 : ModelV} {k17 : Int32 → Int32 → ModelV → Option (Int32 × ModelV)} {r : (Int32 × ModelV)} (hk17 : ∀ (x1 : Int32) (x2 : Int32) (v0 : ModelV), k17 x1 x2 v0 = some r → WW E K 0 0 (QQ E K (fun rv g => rv = some (.int r.1) ∧ g = [wModel E a0 (rf2 (a0 1) h0_1) r.2]) 0 0) 17 [(0, .ref (a0 0)), (1, .int x1), (2, .int x2)] [] [wModel E a0 (rf2 (a0 1) h0_1) v0]) (hf : Mod_adopt_45 k17 x2 s0 s1 v0 = some r) : WW E K 0 0 (QQ E K (fun rv g => rv = some (.int r.1) ∧ g = [wModel E a0 (rf2 (a0 1) h0_1) r.2]) 0 0) 45 [(0, .ref (a0 0)), (2, .int x2)] [.int s0, .int s1] [wModel E a0 (rf2 (a0 1) h0_1) v0] := by
  rw [Mod_adopt_45] at hf
  refine ww_iadd C dX9_adopt_45 ?_
  refine ww_topi (fun x1_46 e_x1_46 => ?_)
  replace hf := ltE e_x1_46 hf
  refine ww_istore_n (lv' := [(1, .int x1_46), (0, .ref (a0 0)), (2, .int x2)]) C dX9_adopt_46 rfl (by decide) rfl ?_
  refine ww_aload_n C dX9_adopt_47 rfl 1 rfl ?_
  refine ww_get C clOK9 in_X9_adopt_X9 (w := wModel E a0 (rf2 (a0 1) h0_1) v0) (fs := fsModel a0 (rf2 (a0 1) h0_1) v0) (v := .ref (a0 1)) 0 0 0 rfl q_Model (by decide) (by decide +kernel) g_Model_now dX9_adopt_48 ?_
  refine ww_iload_n C dX9_adopt_51 rfl 2 rfl ?_
  refine ww_iconst (v := 1) C dX9_adopt_52 (by decide) ?_
  obtain ⟨p53, hp53, hf⟩ := bdE hf
  refine ww_callS C (As := [.int x2, .int 1]) (st := [.ref (a0 1)]) (gr := [wModel E a0 (rf2 (a0 1) h0_1) v0]) (c_X9_guardAt (E := E)  hp53) gX9_adopt_X9_guardAt rfl ysk_X9_guardAt ⟨by decide, by decide⟩ ⟨by decide, by decide⟩ [] [0] 1 rfl (by decide) rfl rfl (Nat.le_of_ble_eq_true rfl) dX9_adopt_53 ?_
  rintro _ _ ⟨rfl, rfl⟩
  refine ww_perm (gs' := [wModel E a0 (rf2 (a0 1) h0_1) v0]) [0] 1 rfl (by decide) rfl ?_
  refine ww_aload_n C dX9_adopt_56 rfl 1 rfl ?_
  refine ww_get C clOK9 in_X9_adopt_X9 (w := wModel E a0 (rf2 (a0 1) h0_1) v0) (fs := fsModel a0 (rf2 (a0 1) h0_1) v0) (v := .ref (a0 12)) 0 0 16 rfl q_Model (by decide) (by decide +kernel) g_Model_bestPhases dX9_adopt_57 ?_
  refine ww_iload_n C dX9_adopt_60 rfl 2 rfl ?_
  obtain ⟨g_5, hf⟩ := gdE hf
  refine ww_iald C (f := Model_bestPhases v0) (w := wModel E a0 (rf2 (a0 1) h0_1) v0) 0 12 rfl c_Model_bestPhases (inB_vp g_5) dX9_adopt_61 ?_
  obtain ⟨g_6, hf⟩ := gdE hf
  obtain ⟨v0_62, e_v0_62⟩ : ∃ y : ModelV, y = Model_set_now v0 (upd (Model_now v0) (Int32.toNatClampNeg p53) ((Model_bestPhases v0) (Int32.toNatClampNeg x2))) := ⟨_, rfl⟩
  replace hf := ltE e_v0_62 hf
  refine ww_iast C (f := Model_now v0) (w := wModel E a0 (rf2 (a0 1) h0_1) v0) (w' := wModel E a0 (rf2 (a0 1) h0_1) v0_62) (gs' := [wModel E a0 (rf2 (a0 1) h0_1) v0_62]) 0 1 rfl c_Model_now (inB_vp g_6) (by rw [e_v0_62]; exact s_Model_now) rfl dX9_adopt_62 ?_
  obtain ⟨x2_63, e_x2_63⟩ : ∃ y : Int32, y = x2 + 1 := ⟨_, rfl⟩
  replace hf := ltE e_x2_63 hf
  refine ww_iinc (v := x2_63) (lv' := [(2, .int x2_63), (1, .int x1_46), (0, .ref (a0 0))]) C dX9_adopt_63 2 rfl (by rw [e_x2_63]; rfl) (by decide) rfl ?_
  refine ww_goto (tgt := 17) C dX9_adopt_66 (by decide) ?_
  refine ww_sub C (lv' := [(0, .ref (a0 0)), (1, .int x1_46), (2, .int x2_63)]) [2, 1, 0] rfl ?_
  exact hk17 _ _ _ hf

set_option maxHeartbeats 4000000 in
set_option maxRecDepth 100000 in
theorem w_X9_adopt_17 {E : Ex} {K : Kx} (C : Cx E K cX9_adopt 3 (some .int) RX9 wsX9_adopt rmX9_adopt) {a0 : Nat → Nat} {h0_1 : Nat}   {r : (Int32 × ModelV)} : ∀ (n : Nat) (x1 : Int32) (x2 : Int32) (v0 : ModelV), Mod_adopt_17 n x1 x2 v0 = some r → WW E K 0 0 (QQ E K (fun rv g => rv = some (.int r.1) ∧ g = [wModel E a0 (rf2 (a0 1) h0_1) r.2]) 0 0) 17 [(0, .ref (a0 0)), (1, .int x1), (2, .int x2)] [] [wModel E a0 (rf2 (a0 1) h0_1) v0] := by
  intro n
  induction n with
  | zero =>
    intro x1 x2 v0 hf
    simp [Mod_adopt_17] at hf
  | succ n ih =>
    intro x1 x2 v0 hf
    rw [Mod_adopt_17] at hf
    refine ww_iload_n C dX9_adopt_17 rfl 2 rfl ?_
    refine ww_aload_n C dX9_adopt_18 rfl 0 rfl ?_
    obtain ⟨p19, hp19, hf⟩ := bdE hf
    refine ww_callV C (As := []) (st := [.int x2]) (gr := []) (c_X9_guards (E := E) (a0 := a0) (h0_1 := h0_1) hp19) gX9_adopt_X9_guards rfl yk_X9_guards ⟨by decide, by decide⟩ ⟨by decide, by decide⟩ clOK9 0 0 rfl rfl [0] [] 1 rfl (by decide) rfl rfl (Nat.le_of_ble_eq_true rfl) dX9_adopt_19 ?_
    rintro _ _ ⟨rfl, rfl⟩
    refine ww_perm (gs' := [wModel E a0 (rf2 (a0 1) h0_1) v0]) [0] 1 rfl (by decide) rfl ?_
    refine ww_icmp_ge (tgt := 69) C dX9_adopt_22 (by decide) (fun c_1 => ?_) (fun c_1 => ?_)
    · replace hf := ifT c_1 hf
      refine ww_iload_n C dX9_adopt_69 rfl 1 rfl ?_
      obtain rfl := Option.some.inj hf
      exact ww_iret C ⟨rfl, rfl⟩ dX9_adopt_70
    · replace hf := ifF c_1 hf
      refine ww_iload_n C dX9_adopt_25 rfl 1 rfl ?_
      refine ww_aload_n C dX9_adopt_26 rfl 0 rfl ?_
      refine ww_iload_n C dX9_adopt_27 rfl 2 rfl ?_
      obtain ⟨p28, hp28, hf⟩ := bdE hf
      refine ww_callV C (As := [.int x2]) (st := [.int x1]) (gr := []) (c_X9_phaseOf (E := E) (a0 := a0) (h0_1 := h0_1) hp28) gX9_adopt_X9_phaseOf rfl yk_X9_phaseOf ⟨by decide, by decide⟩ ⟨by decide, by decide⟩ clOK9 0 0 rfl rfl [0] [] 1 rfl (by decide) rfl rfl (Nat.le_of_ble_eq_true rfl) dX9_adopt_28 ?_
      rintro _ _ ⟨rfl, rfl⟩
      refine ww_perm (gs' := [wModel E a0 (rf2 (a0 1) h0_1) v0]) [0] 1 rfl (by decide) rfl ?_
      refine ww_aload_n C dX9_adopt_31 rfl 0 rfl ?_
      refine ww_get C clOK9 in_X9_adopt_X9 (w := wModel E a0 (rf2 (a0 1) h0_1) v0) (fs := fsModel a0 (rf2 (a0 1) h0_1) v0) (v := .ref (a0 12)) 0 0 16 rfl q_Model (by decide) (by decide +kernel) g_Model_bestPhases dX9_adopt_32 ?_
      refine ww_iload_n C dX9_adopt_35 rfl 2 rfl ?_
      obtain ⟨g_2, hf⟩ := gdE hf
      refine ww_iald C (f := Model_bestPhases v0) (w := wModel E a0 (rf2 (a0 1) h0_1) v0) 0 12 rfl c_Model_bestPhases (inB_vp g_2) dX9_adopt_36 ?_
      refine ww_icmp_ne (tgt := 44) C dX9_adopt_37 (by decide) (fun c_3 => ?_) (fun c_3 => ?_)
      · replace hf := ifF c_3 hf
        refine ww_iconst (v := 1) C dX9_adopt_44 (by decide) ?_
        refine ww_sub C (lv' := [(0, .ref (a0 0)), (2, .int x2)]) [0, 2] rfl ?_
        exact w_X9_adopt_45 C (k17 := (fun (x1 : Int32) (x2 : Int32) (v0 : ModelV) => Mod_adopt_17 n x1 x2 v0)) ih hf
      · replace hf := ifT c_3 hf
        refine ww_iconst (v := 0) C dX9_adopt_40 (by decide) ?_
        refine ww_goto (tgt := 45) C dX9_adopt_41 (by decide) ?_
        refine ww_sub C (lv' := [(0, .ref (a0 0)), (2, .int x2)]) [0, 2] rfl ?_
        exact w_X9_adopt_45 C (k17 := (fun (x1 : Int32) (x2 : Int32) (v0 : ModelV) => Mod_adopt_17 n x1 x2 v0)) ih hf

set_option maxHeartbeats 4000000 in
set_option maxRecDepth 100000 in
theorem c_X9_adopt {E : Ex} {a0 : Nat → Nat} {h0_1 : Nat} {v0 : ModelV} {r : (Int32 × ModelV)} (hf : Mod_adopt v0 = some r) : Ct E yX9_adopt wsX9_adopt rmX9_adopt [.ref (a0 0)] [wModel E a0 (rf2 (a0 1) h0_1) v0] (fun rv g => rv = some (.int r.1) ∧ g = [wModel E a0 (rf2 (a0 1) h0_1) r.2]) := by
  refine ct_of (own := RX9) (by decide +kernel) rfl rfl (Nat.le_of_ble_eq_true rfl) (fun K C => ?_)
  refine ww_sub C (lv' := [(0, .ref (a0 0))]) [0] rfl ?_
  rw [Mod_adopt] at hf
  refine ww_aload_n C dX9_adopt_0 rfl 0 rfl ?_
  refine ww_iconst (v := 0) C dX9_adopt_1 (by decide) ?_
  obtain ⟨v0_2, e_v0_2⟩ : ∃ y : ModelV, y = Model_set_thrown v0 0 := ⟨_, rfl⟩
  replace hf := ltE e_v0_2 hf
  refine ww_put C clOK9 in_X9_adopt_X9 (w := wModel E a0 (rf2 (a0 1) h0_1) v0) (fs := fsModel a0 (rf2 (a0 1) h0_1) v0) (w' := wModel E a0 (rf2 (a0 1) h0_1) v0_2) (gs' := [wModel E a0 (rf2 (a0 1) h0_1) v0_2]) 0 0 5 rfl q_Model (by decide) (by decide +kernel) rfl rfl rfl rfl l_Model (by rw [e_v0_2]; exact p_Model_thrown) rfl dX9_adopt_2 ?_
  refine ww_aload_n C dX9_adopt_5 rfl 0 rfl ?_
  obtain ⟨p6, hp6, hf⟩ := bdE hf
  refine ww_callV C (As := []) (st := []) (gr := []) (c_X9_record (E := E) (a0 := a0) (h0_0 := a0 1) (h0_1 := h0_1) hp6) gX9_adopt_X9_record rfl yk_X9_record ⟨by decide, by decide⟩ ⟨by decide, by decide⟩ clOK9 0 0 rfl rfl [0] [] 1 rfl (by decide) rfl rfl (Nat.le_of_ble_eq_true rfl) dX9_adopt_6 ?_
  rintro _ _ ⟨rfl, rfl⟩
  refine ww_perm (gs' := [wModel E a0 (rf2 (a0 1) h0_1) p6]) [0] 1 rfl (by decide) rfl ?_
  refine ww_aload_n C dX9_adopt_9 rfl 0 rfl ?_
  obtain ⟨p10, hp10, hf⟩ := bdE hf
  refine ww_callV C (As := []) (st := []) (gr := []) (c_X9_layBest (E := E) (a0 := a0) (h0_1 := h0_1) hp10) gX9_adopt_X9_layBest rfl yk_X9_layBest ⟨by decide, by decide⟩ ⟨by decide, by decide⟩ clOK9 0 0 rfl rfl [0] [] 1 rfl (by decide) rfl rfl (Nat.le_of_ble_eq_true rfl) dX9_adopt_10 ?_
  rintro _ _ ⟨rfl, rfl⟩
  refine ww_perm (gs' := [wModel E a0 (rf2 (a0 1) h0_1) p10]) [0] 1 rfl (by decide) rfl ?_
  refine ww_iconst (v := 0) C dX9_adopt_13 (by decide) ?_
  refine ww_istore_n (lv' := [(1, .int 0), (0, .ref (a0 0))]) C dX9_adopt_14 rfl (by decide) rfl ?_
  refine ww_iconst (v := 0) C dX9_adopt_15 (by decide) ?_
  refine ww_istore_n (lv' := [(2, .int 0), (1, .int 0), (0, .ref (a0 0))]) C dX9_adopt_16 rfl (by decide) rfl ?_
  refine ww_sub C (lv' := [(0, .ref (a0 0)), (1, .int 0), (2, .int 0)]) [2, 1, 0] rfl ?_
  exact w_X9_adopt_17 C FU _ _ _ hf

theorem yk_X9_adopt : yX9_adopt.cls = RX9 ∧ yX9_adopt.cls ≠ "java/lang/invoke/MethodHandle" ∧ yX9_adopt.cls ≠ "java/lang/invoke/VarHandle" ∧ (parseMethodDescriptor yX9_adopt.desc).map (fun d => d.parameters.length) = some 0 := by decide +kernel
abbrev rmX9_closeDoor : Room := { frames := 4, cells := 0, slots := 0, locals := 93 }
set_option maxRecDepth 20000 in
theorem in_X9_closeDoor_X9 : ∀ w ∈ u_ws RX9 TX9 35, w ∈ wsX9_closeDoor := by decide +kernel
set_option maxHeartbeats 4000000 in
set_option maxRecDepth 100000 in
theorem w_X9_closeDoor_62 {E : Ex} {K : Kx} (C : Cx E K cX9_closeDoor 2 (some .int) RX9 wsX9_closeDoor rmX9_closeDoor) {a0 : Nat → Nat} {h0_1 : Nat} {x1 : Int32}  {v0 : ModelV} {r : (Int32 × ModelV)} (hf : Mod_closeDoor_62 x1 v0 = some r) : WW E K 0 0 (QQ E K (fun rv g => rv = some (.int r.1) ∧ g = [wModel E a0 (rf2 (a0 1) h0_1) r.2]) 0 0) 62 [(0, .ref (a0 0)), (1, .int x1)] [] [wModel E a0 (rf2 (a0 1) h0_1) v0] := by
  rw [Mod_closeDoor_62] at hf
  refine ww_aload_n C dX9_closeDoor_62 rfl 0 rfl ?_
  obtain ⟨p63, hp63, hf⟩ := bdE hf
  refine ww_callV C (As := []) (st := []) (gr := []) (c_X9_record (E := E) (a0 := a0) (h0_0 := a0 1) (h0_1 := h0_1) hp63) gX9_closeDoor_X9_record rfl yk_X9_record ⟨by decide, by decide⟩ ⟨by decide, by decide⟩ clOK9 0 0 rfl rfl [0] [] 1 rfl (by decide) rfl rfl (Nat.le_of_ble_eq_true rfl) dX9_closeDoor_63 ?_
  rintro _ _ ⟨rfl, rfl⟩
  refine ww_perm (gs' := [wModel E a0 (rf2 (a0 1) h0_1) p63]) [0] 1 rfl (by decide) rfl ?_
  refine ww_aload_n C dX9_closeDoor_66 rfl 0 rfl ?_
  refine ww_get C clOK9 in_X9_closeDoor_X9 (w := wModel E a0 (rf2 (a0 1) h0_1) p63) (fs := fsModel a0 (rf2 (a0 1) h0_1) p63) (v := .ref (a0 1)) 0 0 0 rfl q_Model (by decide) (by decide +kernel) g_Model_now dX9_closeDoor_67 ?_
  refine ww_iload_n C dX9_closeDoor_70 rfl 1 rfl ?_
  refine ww_iconst (v := 2) C dX9_closeDoor_71 (by decide) ?_
  obtain ⟨p72, hp72, hf⟩ := bdE hf
  refine ww_callS C (As := [.int x1, .int 2]) (st := [.ref (a0 1)]) (gr := [wModel E a0 (rf2 (a0 1) h0_1) p63]) (c_X9_doorAt (E := E)  hp72) gX9_closeDoor_X9_doorAt rfl ysk_X9_doorAt ⟨by decide, by decide⟩ ⟨by decide, by decide⟩ [] [0] 1 rfl (by decide) rfl rfl (Nat.le_of_ble_eq_true rfl) dX9_closeDoor_72 ?_
  rintro _ _ ⟨rfl, rfl⟩
  refine ww_perm (gs' := [wModel E a0 (rf2 (a0 1) h0_1) p63]) [0] 1 rfl (by decide) rfl ?_
  refine ww_iconst (v := 0) C dX9_closeDoor_75 (by decide) ?_
  obtain ⟨g_5, hf⟩ := gdE hf
  obtain ⟨v0_76, e_v0_76⟩ : ∃ y : ModelV, y = Model_set_now p63 (upd (Model_now p63) (Int32.toNatClampNeg p72) 0) := ⟨_, rfl⟩
  replace hf := ltE e_v0_76 hf
  refine ww_iast C (f := Model_now p63) (w := wModel E a0 (rf2 (a0 1) h0_1) p63) (w' := wModel E a0 (rf2 (a0 1) h0_1) v0_76) (gs' := [wModel E a0 (rf2 (a0 1) h0_1) v0_76]) 0 1 rfl c_Model_now (inB_vp g_5) (by rw [e_v0_76]; exact s_Model_now) rfl dX9_closeDoor_76 ?_
  refine ww_aload_n C dX9_closeDoor_77 rfl 0 rfl ?_
  refine ww_iconst (v := (-1)) C dX9_closeDoor_78 (by decide) ?_
  obtain ⟨p79, hp79, hf⟩ := bdE hf
  refine ww_callV C (As := [.int (-1)]) (st := []) (gr := []) (c_X9_openAt (E := E) (a0 := a0) (h0_1 := h0_1) hp79) gX9_closeDoor_X9_openAt rfl yk_X9_openAt ⟨by decide, by decide⟩ ⟨by decide, by decide⟩ clOK9 0 0 rfl rfl [0] [] 1 rfl (by decide) rfl rfl (Nat.le_of_ble_eq_true rfl) dX9_closeDoor_79 ?_
  rintro _ _ ⟨rfl, rfl⟩
  refine ww_perm (gs' := [wModel E a0 (rf2 (a0 1) h0_1) v0_76]) [0] 1 rfl (by decide) rfl ?_
  obtain rfl := Option.some.inj hf
  exact ww_iret C ⟨rfl, rfl⟩ dX9_closeDoor_82

set_option maxHeartbeats 4000000 in
set_option maxRecDepth 100000 in
theorem c_X9_closeDoor {E : Ex} {a0 : Nat → Nat} {h0_1 : Nat} {x1 : Int32} {v0 : ModelV} {r : (Int32 × ModelV)} (hf : Mod_closeDoor x1 v0 = some r) : Ct E yX9_closeDoor wsX9_closeDoor rmX9_closeDoor [.ref (a0 0), .int x1] [wModel E a0 (rf2 (a0 1) h0_1) v0] (fun rv g => rv = some (.int r.1) ∧ g = [wModel E a0 (rf2 (a0 1) h0_1) r.2]) := by
  refine ct_of (own := RX9) (by decide +kernel) rfl rfl (Nat.le_of_ble_eq_true rfl) (fun K C => ?_)
  refine ww_sub C (lv' := [(0, .ref (a0 0)), (1, .int x1)]) [0, 1] rfl ?_
  rw [Mod_closeDoor] at hf
  refine ww_aload_n C dX9_closeDoor_0 rfl 0 rfl ?_
  refine ww_iconst (v := 0) C dX9_closeDoor_1 (by decide) ?_
  obtain ⟨v0_2, e_v0_2⟩ : ∃ y : ModelV, y = Model_set_thrown v0 0 := ⟨_, rfl⟩
  replace hf := ltE e_v0_2 hf
  refine ww_put C clOK9 in_X9_closeDoor_X9 (w := wModel E a0 (rf2 (a0 1) h0_1) v0) (fs := fsModel a0 (rf2 (a0 1) h0_1) v0) (w' := wModel E a0 (rf2 (a0 1) h0_1) v0_2) (gs' := [wModel E a0 (rf2 (a0 1) h0_1) v0_2]) 0 0 5 rfl q_Model (by decide) (by decide +kernel) rfl rfl rfl rfl l_Model (by rw [e_v0_2]; exact p_Model_thrown) rfl dX9_closeDoor_2 ?_
  refine ww_aload_n C dX9_closeDoor_5 rfl 0 rfl ?_
  refine ww_iload_n C dX9_closeDoor_6 rfl 1 rfl ?_
  obtain ⟨p7, hp7, hf⟩ := bdE hf
  refine ww_callV C (As := [.int x1]) (st := []) (gr := []) (c_X9_isDoor (E := E) (a0 := a0) (h0_1 := h0_1) hp7) gX9_closeDoor_X9_isDoor rfl yk_X9_isDoor ⟨by decide, by decide⟩ ⟨by decide, by decide⟩ clOK9 0 0 rfl rfl [0] [] 1 rfl (by decide) rfl rfl (Nat.le_of_ble_eq_true rfl) dX9_closeDoor_7 ?_
  rintro _ _ ⟨rfl, rfl⟩
  refine ww_perm (gs' := [wModel E a0 (rf2 (a0 1) h0_1) v0_2]) [0] 1 rfl (by decide) rfl ?_
  refine ww_if_neB (tgt := 19) C dX9_closeDoor_10 (by decide) (fun c_1 => ?_) (fun c_1 => ?_)
  · replace hf := btE c_1 hf
    refine ww_aload_n C dX9_closeDoor_19 rfl 0 rfl ?_
    refine ww_iload_n C dX9_closeDoor_20 rfl 1 rfl ?_
    refine ww_iconst (v := 2) C dX9_closeDoor_21 (by decide) ?_
    obtain ⟨p22, hp22, hf⟩ := bdE hf
    refine ww_callV C (As := [.int x1, .int 2]) (st := []) (gr := []) (c_X9_ofDoor (E := E) (a0 := a0) (h0_1 := h0_1) hp22) gX9_closeDoor_X9_ofDoor rfl yk_X9_ofDoor ⟨by decide, by decide⟩ ⟨by decide, by decide⟩ clOK9 0 0 rfl rfl [0] [] 1 rfl (by decide) rfl rfl (Nat.le_of_ble_eq_true rfl) dX9_closeDoor_22 ?_
    rintro _ _ ⟨rfl, rfl⟩
    refine ww_perm (gs' := [wModel E a0 (rf2 (a0 1) h0_1) v0_2]) [0] 1 rfl (by decide) rfl ?_
    refine ww_if_ne (tgt := 31) C dX9_closeDoor_25 (by decide) (fun c_2 => ?_) (fun c_2 => ?_)
    · replace hf := ifF c_2 hf
      refine ww_aload_n C dX9_closeDoor_31 rfl 0 rfl ?_
      refine ww_iload_n C dX9_closeDoor_32 rfl 1 rfl ?_
      obtain ⟨p33, hp33, hf⟩ := bdE hf
      refine ww_callV C (As := [.int x1]) (st := []) (gr := []) (c_X9_walksThrough (E := E) (a0 := a0) (h0_1 := h0_1) hp33) gX9_closeDoor_X9_walksThrough rfl yk_X9_walksThrough ⟨by decide, by decide⟩ ⟨by decide, by decide⟩ clOK9 0 0 rfl rfl [0] [] 1 rfl (by decide) rfl rfl (Nat.le_of_ble_eq_true rfl) dX9_closeDoor_33 ?_
      rintro _ _ ⟨rfl, rfl⟩
      refine ww_perm (gs' := [wModel E a0 (rf2 (a0 1) h0_1) v0_2]) [0] 1 rfl (by decide) rfl ?_
      refine ww_if_le (tgt := 62) C dX9_closeDoor_36 (by decide) (fun c_3 => ?_) (fun c_3 => ?_)
      · replace hf := ifT c_3 hf
        refine ww_sub C (lv' := [(0, .ref (a0 0)), (1, .int x1)]) [0, 1] rfl ?_
        exact w_X9_closeDoor_62 C hf
      · replace hf := ifF c_3 hf
        refine ww_aload_n C dX9_closeDoor_39 rfl 0 rfl ?_
        refine ww_aload_n C dX9_closeDoor_40 rfl 0 rfl ?_
        refine ww_iload_n C dX9_closeDoor_41 rfl 1 rfl ?_
        refine ww_iconst (v := 0) C dX9_closeDoor_42 (by decide) ?_
        obtain ⟨p43, hp43, hf⟩ := bdE hf
        refine ww_callV C (As := [.int x1, .int 0]) (st := [.ref (a0 0)]) (gr := []) (c_X9_ofDoor (E := E) (a0 := a0) (h0_1 := h0_1) hp43) gX9_closeDoor_X9_ofDoor rfl yk_X9_ofDoor ⟨by decide, by decide⟩ ⟨by decide, by decide⟩ clOK9 0 0 rfl rfl [0] [] 1 rfl (by decide) rfl rfl (Nat.le_of_ble_eq_true rfl) dX9_closeDoor_43 ?_
        rintro _ _ ⟨rfl, rfl⟩
        refine ww_perm (gs' := [wModel E a0 (rf2 (a0 1) h0_1) v0_2]) [0] 1 rfl (by decide) rfl ?_
        refine ww_aload_n C dX9_closeDoor_46 rfl 0 rfl ?_
        refine ww_iload_n C dX9_closeDoor_47 rfl 1 rfl ?_
        refine ww_iconst (v := 1) C dX9_closeDoor_48 (by decide) ?_
        obtain ⟨p49, hp49, hf⟩ := bdE hf
        refine ww_callV C (As := [.int x1, .int 1]) (st := [.int p43, .ref (a0 0)]) (gr := []) (c_X9_ofDoor (E := E) (a0 := a0) (h0_1 := h0_1) hp49) gX9_closeDoor_X9_ofDoor rfl yk_X9_ofDoor ⟨by decide, by decide⟩ ⟨by decide, by decide⟩ clOK9 0 0 rfl rfl [0] [] 1 rfl (by decide) rfl rfl (Nat.le_of_ble_eq_true rfl) dX9_closeDoor_49 ?_
        rintro _ _ ⟨rfl, rfl⟩
        refine ww_perm (gs' := [wModel E a0 (rf2 (a0 1) h0_1) v0_2]) [0] 1 rfl (by decide) rfl ?_
        obtain ⟨p52, hp52, hf⟩ := bdE hf
        refine ww_callV C (As := [.int p43, .int p49]) (st := []) (gr := []) (c_X9_openBetween (E := E) (a0 := a0) (h0_1 := h0_1) hp52) gX9_closeDoor_X9_openBetween rfl yk_X9_openBetween ⟨by decide, by decide⟩ ⟨by decide, by decide⟩ clOK9 0 0 rfl rfl [0] [] 1 rfl (by decide) rfl rfl (Nat.le_of_ble_eq_true rfl) dX9_closeDoor_52 ?_
        rintro _ _ ⟨rfl, rfl⟩
        refine ww_perm (gs' := [wModel E a0 (rf2 (a0 1) h0_1) v0_2]) [0] 1 rfl (by decide) rfl ?_
        refine ww_iconst (v := 1) C dX9_closeDoor_55 (by decide) ?_
        refine ww_icmp_ne (tgt := 62) C dX9_closeDoor_56 (by decide) (fun c_4 => ?_) (fun c_4 => ?_)
        · replace hf := ifF c_4 hf
          refine ww_sub C (lv' := [(0, .ref (a0 0)), (1, .int x1)]) [0, 1] rfl ?_
          exact w_X9_closeDoor_62 C hf
        · replace hf := ifT c_4 hf
          refine ww_bipush (v := (-3)) C dX9_closeDoor_59 (by decide) ?_
          obtain rfl := Option.some.inj hf
          exact ww_iret C ⟨rfl, rfl⟩ dX9_closeDoor_61
    · replace hf := ifT c_2 hf
      refine ww_bipush (v := (-2)) C dX9_closeDoor_28 (by decide) ?_
      obtain rfl := Option.some.inj hf
      exact ww_iret C ⟨rfl, rfl⟩ dX9_closeDoor_30
  · replace hf := bfE c_1 hf
    refine ww_aload_n C dX9_closeDoor_13 rfl 0 rfl ?_
    refine ww_iconst (v := 1) C dX9_closeDoor_14 (by decide) ?_
    obtain ⟨p15, hp15, hf⟩ := bdE hf
    refine ww_callV C (As := [.int 1]) (st := []) (gr := []) (c_X9_raise (E := E) (a0 := a0) (h0_0 := a0 1) (h0_1 := h0_1) hp15) gX9_closeDoor_X9_raise rfl yk_X9_raise ⟨by decide, by decide⟩ ⟨by decide, by decide⟩ clOK9 0 0 rfl rfl [0] [] 1 rfl (by decide) rfl rfl (Nat.le_of_ble_eq_true rfl) dX9_closeDoor_15 ?_
    rintro _ _ ⟨rfl, rfl⟩
    refine ww_perm (gs' := [wModel E a0 (rf2 (a0 1) h0_1) p15.2]) [0] 1 rfl (by decide) rfl ?_
    obtain rfl := Option.some.inj hf
    exact ww_iret C ⟨rfl, rfl⟩ dX9_closeDoor_18

theorem yk_X9_closeDoor : yX9_closeDoor.cls = RX9 ∧ yX9_closeDoor.cls ≠ "java/lang/invoke/MethodHandle" ∧ yX9_closeDoor.cls ≠ "java/lang/invoke/VarHandle" ∧ (parseMethodDescriptor yX9_closeDoor.desc).map (fun d => d.parameters.length) = some 1 := by decide +kernel
abbrev rmX9_openDoor : Room := { frames := 3, cells := 0, slots := 0, locals := 67 }
set_option maxRecDepth 20000 in
theorem in_X9_openDoor_X9 : ∀ w ∈ u_ws RX9 TX9 35, w ∈ wsX9_openDoor := by decide +kernel
set_option maxHeartbeats 4000000 in
set_option maxRecDepth 100000 in
theorem c_X9_openDoor {E : Ex} {a0 : Nat → Nat} {h0_1 : Nat} {x1 : Int32} {v0 : ModelV} {r : (Int32 × ModelV)} (hf : Mod_openDoor x1 v0 = some r) : Ct E yX9_openDoor wsX9_openDoor rmX9_openDoor [.ref (a0 0), .int x1] [wModel E a0 (rf2 (a0 1) h0_1) v0] (fun rv g => rv = some (.int r.1) ∧ g = [wModel E a0 (rf2 (a0 1) h0_1) r.2]) := by
  refine ct_of (own := RX9) (by decide +kernel) rfl rfl (Nat.le_of_ble_eq_true rfl) (fun K C => ?_)
  refine ww_sub C (lv' := [(0, .ref (a0 0)), (1, .int x1)]) [0, 1] rfl ?_
  rw [Mod_openDoor] at hf
  refine ww_aload_n C dX9_openDoor_0 rfl 0 rfl ?_
  refine ww_iconst (v := 0) C dX9_openDoor_1 (by decide) ?_
  obtain ⟨v0_2, e_v0_2⟩ : ∃ y : ModelV, y = Model_set_thrown v0 0 := ⟨_, rfl⟩
  replace hf := ltE e_v0_2 hf
  refine ww_put C clOK9 in_X9_openDoor_X9 (w := wModel E a0 (rf2 (a0 1) h0_1) v0) (fs := fsModel a0 (rf2 (a0 1) h0_1) v0) (w' := wModel E a0 (rf2 (a0 1) h0_1) v0_2) (gs' := [wModel E a0 (rf2 (a0 1) h0_1) v0_2]) 0 0 5 rfl q_Model (by decide) (by decide +kernel) rfl rfl rfl rfl l_Model (by rw [e_v0_2]; exact p_Model_thrown) rfl dX9_openDoor_2 ?_
  refine ww_aload_n C dX9_openDoor_5 rfl 0 rfl ?_
  refine ww_iload_n C dX9_openDoor_6 rfl 1 rfl ?_
  obtain ⟨p7, hp7, hf⟩ := bdE hf
  refine ww_callV C (As := [.int x1]) (st := []) (gr := []) (c_X9_isDoor (E := E) (a0 := a0) (h0_1 := h0_1) hp7) gX9_openDoor_X9_isDoor rfl yk_X9_isDoor ⟨by decide, by decide⟩ ⟨by decide, by decide⟩ clOK9 0 0 rfl rfl [0] [] 1 rfl (by decide) rfl rfl (Nat.le_of_ble_eq_true rfl) dX9_openDoor_7 ?_
  rintro _ _ ⟨rfl, rfl⟩
  refine ww_perm (gs' := [wModel E a0 (rf2 (a0 1) h0_1) v0_2]) [0] 1 rfl (by decide) rfl ?_
  refine ww_if_neB (tgt := 19) C dX9_openDoor_10 (by decide) (fun c_1 => ?_) (fun c_1 => ?_)
  · replace hf := btE c_1 hf
    refine ww_aload_n C dX9_openDoor_19 rfl 0 rfl ?_
    refine ww_iload_n C dX9_openDoor_20 rfl 1 rfl ?_
    refine ww_iconst (v := 2) C dX9_openDoor_21 (by decide) ?_
    obtain ⟨p22, hp22, hf⟩ := bdE hf
    refine ww_callV C (As := [.int x1, .int 2]) (st := []) (gr := []) (c_X9_ofDoor (E := E) (a0 := a0) (h0_1 := h0_1) hp22) gX9_openDoor_X9_ofDoor rfl yk_X9_ofDoor ⟨by decide, by decide⟩ ⟨by decide, by decide⟩ clOK9 0 0 rfl rfl [0] [] 1 rfl (by decide) rfl rfl (Nat.le_of_ble_eq_true rfl) dX9_openDoor_22 ?_
    rintro _ _ ⟨rfl, rfl⟩
    refine ww_perm (gs' := [wModel E a0 (rf2 (a0 1) h0_1) v0_2]) [0] 1 rfl (by decide) rfl ?_
    refine ww_iconst (v := 1) C dX9_openDoor_25 (by decide) ?_
    refine ww_icmp_ne (tgt := 32) C dX9_openDoor_26 (by decide) (fun c_2 => ?_) (fun c_2 => ?_)
    · replace hf := ifF c_2 hf
      refine ww_aload_n C dX9_openDoor_32 rfl 0 rfl ?_
      obtain ⟨p33, hp33, hf⟩ := bdE hf
      refine ww_callV C (As := []) (st := []) (gr := []) (c_X9_record (E := E) (a0 := a0) (h0_0 := a0 1) (h0_1 := h0_1) hp33) gX9_openDoor_X9_record rfl yk_X9_record ⟨by decide, by decide⟩ ⟨by decide, by decide⟩ clOK9 0 0 rfl rfl [0] [] 1 rfl (by decide) rfl rfl (Nat.le_of_ble_eq_true rfl) dX9_openDoor_33 ?_
      rintro _ _ ⟨rfl, rfl⟩
      refine ww_perm (gs' := [wModel E a0 (rf2 (a0 1) h0_1) p33]) [0] 1 rfl (by decide) rfl ?_
      refine ww_aload_n C dX9_openDoor_36 rfl 0 rfl ?_
      refine ww_get C clOK9 in_X9_openDoor_X9 (w := wModel E a0 (rf2 (a0 1) h0_1) p33) (fs := fsModel a0 (rf2 (a0 1) h0_1) p33) (v := .ref (a0 1)) 0 0 0 rfl q_Model (by decide) (by decide +kernel) g_Model_now dX9_openDoor_37 ?_
      refine ww_iload_n C dX9_openDoor_40 rfl 1 rfl ?_
      refine ww_iconst (v := 2) C dX9_openDoor_41 (by decide) ?_
      obtain ⟨p42, hp42, hf⟩ := bdE hf
      refine ww_callS C (As := [.int x1, .int 2]) (st := [.ref (a0 1)]) (gr := [wModel E a0 (rf2 (a0 1) h0_1) p33]) (c_X9_doorAt (E := E)  hp42) gX9_openDoor_X9_doorAt rfl ysk_X9_doorAt ⟨by decide, by decide⟩ ⟨by decide, by decide⟩ [] [0] 1 rfl (by decide) rfl rfl (Nat.le_of_ble_eq_true rfl) dX9_openDoor_42 ?_
      rintro _ _ ⟨rfl, rfl⟩
      refine ww_perm (gs' := [wModel E a0 (rf2 (a0 1) h0_1) p33]) [0] 1 rfl (by decide) rfl ?_
      refine ww_iconst (v := 1) C dX9_openDoor_45 (by decide) ?_
      obtain ⟨g_3, hf⟩ := gdE hf
      obtain ⟨v0_46, e_v0_46⟩ : ∃ y : ModelV, y = Model_set_now p33 (upd (Model_now p33) (Int32.toNatClampNeg p42) 1) := ⟨_, rfl⟩
      replace hf := ltE e_v0_46 hf
      refine ww_iast C (f := Model_now p33) (w := wModel E a0 (rf2 (a0 1) h0_1) p33) (w' := wModel E a0 (rf2 (a0 1) h0_1) v0_46) (gs' := [wModel E a0 (rf2 (a0 1) h0_1) v0_46]) 0 1 rfl c_Model_now (inB_vp g_3) (by rw [e_v0_46]; exact s_Model_now) rfl dX9_openDoor_46 ?_
      refine ww_aload_n C dX9_openDoor_47 rfl 0 rfl ?_
      refine ww_iconst (v := (-1)) C dX9_openDoor_48 (by decide) ?_
      obtain ⟨p49, hp49, hf⟩ := bdE hf
      refine ww_callV C (As := [.int (-1)]) (st := []) (gr := []) (c_X9_openAt (E := E) (a0 := a0) (h0_1 := h0_1) hp49) gX9_openDoor_X9_openAt rfl yk_X9_openAt ⟨by decide, by decide⟩ ⟨by decide, by decide⟩ clOK9 0 0 rfl rfl [0] [] 1 rfl (by decide) rfl rfl (Nat.le_of_ble_eq_true rfl) dX9_openDoor_49 ?_
      rintro _ _ ⟨rfl, rfl⟩
      refine ww_perm (gs' := [wModel E a0 (rf2 (a0 1) h0_1) v0_46]) [0] 1 rfl (by decide) rfl ?_
      obtain rfl := Option.some.inj hf
      exact ww_iret C ⟨rfl, rfl⟩ dX9_openDoor_52
    · replace hf := ifT c_2 hf
      refine ww_bipush (v := (-2)) C dX9_openDoor_29 (by decide) ?_
      obtain rfl := Option.some.inj hf
      exact ww_iret C ⟨rfl, rfl⟩ dX9_openDoor_31
  · replace hf := bfE c_1 hf
    refine ww_aload_n C dX9_openDoor_13 rfl 0 rfl ?_
    refine ww_iconst (v := 1) C dX9_openDoor_14 (by decide) ?_
    obtain ⟨p15, hp15, hf⟩ := bdE hf
    refine ww_callV C (As := [.int 1]) (st := []) (gr := []) (c_X9_raise (E := E) (a0 := a0) (h0_0 := a0 1) (h0_1 := h0_1) hp15) gX9_openDoor_X9_raise rfl yk_X9_raise ⟨by decide, by decide⟩ ⟨by decide, by decide⟩ clOK9 0 0 rfl rfl [0] [] 1 rfl (by decide) rfl rfl (Nat.le_of_ble_eq_true rfl) dX9_openDoor_15 ?_
    rintro _ _ ⟨rfl, rfl⟩
    refine ww_perm (gs' := [wModel E a0 (rf2 (a0 1) h0_1) p15.2]) [0] 1 rfl (by decide) rfl ?_
    obtain rfl := Option.some.inj hf
    exact ww_iret C ⟨rfl, rfl⟩ dX9_openDoor_18

theorem yk_X9_openDoor : yX9_openDoor.cls = RX9 ∧ yX9_openDoor.cls ≠ "java/lang/invoke/MethodHandle" ∧ yX9_openDoor.cls ≠ "java/lang/invoke/VarHandle" ∧ (parseMethodDescriptor yX9_openDoor.desc).map (fun d => d.parameters.length) = some 1 := by decide +kernel
abbrev rmX9_setLimit : Room := { frames := 6, cells := 0, slots := 0, locals := 130 }
set_option maxRecDepth 20000 in
theorem in_X9_setLimit_X9 : ∀ w ∈ u_ws RX9 TX9 35, w ∈ wsX9_setLimit := by decide +kernel
set_option maxHeartbeats 4000000 in
set_option maxRecDepth 100000 in
theorem w_X9_setLimit_28 {E : Ex} {K : Kx} (C : Cx E K cX9_setLimit 3 (some .int) RX9 wsX9_setLimit rmX9_setLimit) {a0 : Nat → Nat} {h0_1 : Nat} {x1 : Int32} {x2 : Int32}  {s0 : Int32} {v0 : ModelV} {r : (Int32 × ModelV)} (hf : Mod_setLimit_28 x1 x2 s0 v0 = some r) : WW E K 0 0 (QQ E K (fun rv g => rv = some (.int r.1) ∧ g = [wModel E a0 (rf2 (a0 1) h0_1) r.2]) 0 0) 28 [(0, .ref (a0 0)), (1, .int x1), (2, .int x2)] [.int s0, .ref (a0 0)] [wModel E a0 (rf2 (a0 1) h0_1) v0] := by
  rw [Mod_setLimit_28] at hf
  obtain ⟨v0_28, e_v0_28⟩ : ∃ y : ModelV, y = Model_set_thrown v0 s0 := ⟨_, rfl⟩
  replace hf := ltE e_v0_28 hf
  refine ww_put C clOK9 in_X9_setLimit_X9 (w := wModel E a0 (rf2 (a0 1) h0_1) v0) (fs := fsModel a0 (rf2 (a0 1) h0_1) v0) (w' := wModel E a0 (rf2 (a0 1) h0_1) v0_28) (gs' := [wModel E a0 (rf2 (a0 1) h0_1) v0_28]) 0 0 5 rfl q_Model (by decide) (by decide +kernel) rfl rfl rfl rfl l_Model (by rw [e_v0_28]; exact p_Model_thrown) rfl dX9_setLimit_28 ?_
  refine ww_aload_n C dX9_setLimit_31 rfl 0 rfl ?_
  refine ww_get C clOK9 in_X9_setLimit_X9 (w := wModel E a0 (rf2 (a0 1) h0_1) v0_28) (fs := fsModel a0 (rf2 (a0 1) h0_1) v0_28) (v := .int (Model_thrown v0_28)) 0 0 5 rfl q_Model (by decide) (by decide +kernel) g_Model_thrown dX9_setLimit_32 ?_
  refine ww_if_eq (tgt := 40) C dX9_setLimit_35 (by decide) (fun c_3 => ?_) (fun c_3 => ?_)
  · replace hf := ifT c_3 hf
    refine ww_aload_n C dX9_setLimit_40 rfl 0 rfl ?_
    obtain ⟨p41, hp41, hf⟩ := bdE hf
    refine ww_callV C (As := []) (st := []) (gr := []) (c_X9_record (E := E) (a0 := a0) (h0_0 := a0 1) (h0_1 := h0_1) hp41) gX9_setLimit_X9_record rfl yk_X9_record ⟨by decide, by decide⟩ ⟨by decide, by decide⟩ clOK9 0 0 rfl rfl [0] [] 1 rfl (by decide) rfl rfl (Nat.le_of_ble_eq_true rfl) dX9_setLimit_41 ?_
    rintro _ _ ⟨rfl, rfl⟩
    refine ww_perm (gs' := [wModel E a0 (rf2 (a0 1) h0_1) p41]) [0] 1 rfl (by decide) rfl ?_
    refine ww_aload_n C dX9_setLimit_44 rfl 0 rfl ?_
    refine ww_get C clOK9 in_X9_setLimit_X9 (w := wModel E a0 (rf2 (a0 1) h0_1) p41) (fs := fsModel a0 (rf2 (a0 1) h0_1) p41) (v := .ref (a0 1)) 0 0 0 rfl q_Model (by decide) (by decide +kernel) g_Model_now dX9_setLimit_45 ?_
    refine ww_iload_n C dX9_setLimit_48 rfl 1 rfl ?_
    refine ww_iconst (v := 0) C dX9_setLimit_49 (by decide) ?_
    obtain ⟨p50, hp50, hf⟩ := bdE hf
    refine ww_callS C (As := [.int x1, .int 0]) (st := [.ref (a0 1)]) (gr := [wModel E a0 (rf2 (a0 1) h0_1) p41]) (c_X9_roomAt (E := E)  hp50) gX9_setLimit_X9_roomAt rfl ysk_X9_roomAt ⟨by decide, by decide⟩ ⟨by decide, by decide⟩ [] [0] 1 rfl (by decide) rfl rfl (Nat.le_of_ble_eq_true rfl) dX9_setLimit_50 ?_
    rintro _ _ ⟨rfl, rfl⟩
    refine ww_perm (gs' := [wModel E a0 (rf2 (a0 1) h0_1) p41]) [0] 1 rfl (by decide) rfl ?_
    refine ww_iload_n C dX9_setLimit_53 rfl 2 rfl ?_
    obtain ⟨g_4, hf⟩ := gdE hf
    obtain ⟨v0_54, e_v0_54⟩ : ∃ y : ModelV, y = Model_set_now p41 (upd (Model_now p41) (Int32.toNatClampNeg p50) x2) := ⟨_, rfl⟩
    replace hf := ltE e_v0_54 hf
    refine ww_iast C (f := Model_now p41) (w := wModel E a0 (rf2 (a0 1) h0_1) p41) (w' := wModel E a0 (rf2 (a0 1) h0_1) v0_54) (gs' := [wModel E a0 (rf2 (a0 1) h0_1) v0_54]) 0 1 rfl c_Model_now (inB_vp g_4) (by rw [e_v0_54]; exact s_Model_now) rfl dX9_setLimit_54 ?_
    refine ww_aload_n C dX9_setLimit_55 rfl 0 rfl ?_
    obtain ⟨p56, hp56, hf⟩ := bdE hf
    refine ww_callV C (As := []) (st := []) (gr := []) (c_X9_layNow (E := E) (a0 := a0) (h0_1 := h0_1) hp56) gX9_setLimit_X9_layNow rfl yk_X9_layNow ⟨by decide, by decide⟩ ⟨by decide, by decide⟩ clOK9 0 0 rfl rfl [0] [] 1 rfl (by decide) rfl rfl (Nat.le_of_ble_eq_true rfl) dX9_setLimit_56 ?_
    rintro _ _ ⟨rfl, rfl⟩
    refine ww_perm (gs' := [wModel E a0 (rf2 (a0 1) h0_1) p56]) [0] 1 rfl (by decide) rfl ?_
    refine ww_aload_n C dX9_setLimit_59 rfl 0 rfl ?_
    obtain ⟨p60, hp60, hf⟩ := bdE hf
    refine ww_callV C (As := []) (st := []) (gr := []) (c_X9_lateLaid (E := E) (a0 := a0) (h0_1 := h0_1) hp60) gX9_setLimit_X9_lateLaid rfl yk_X9_lateLaid ⟨by decide, by decide⟩ ⟨by decide, by decide⟩ clOK9 0 0 rfl rfl [0] [] 1 rfl (by decide) rfl rfl (Nat.le_of_ble_eq_true rfl) dX9_setLimit_60 ?_
    rintro _ _ ⟨rfl, rfl⟩
    refine ww_perm (gs' := [wModel E a0 (rf2 (a0 1) h0_1) p56]) [0] 1 rfl (by decide) rfl ?_
    obtain rfl := Option.some.inj hf
    exact ww_iret C ⟨rfl, rfl⟩ dX9_setLimit_63
  · replace hf := ifF c_3 hf
    refine ww_iconst (v := 0) C dX9_setLimit_38 (by decide) ?_
    obtain rfl := Option.some.inj hf
    exact ww_iret C ⟨rfl, rfl⟩ dX9_setLimit_39

set_option maxHeartbeats 4000000 in
set_option maxRecDepth 100000 in
theorem c_X9_setLimit {E : Ex} {a0 : Nat → Nat} {h0_1 : Nat} {x1 : Int32} {x2 : Int32} {v0 : ModelV} {r : (Int32 × ModelV)} (hf : Mod_setLimit x1 x2 v0 = some r) : Ct E yX9_setLimit wsX9_setLimit rmX9_setLimit [.ref (a0 0), .int x1, .int x2] [wModel E a0 (rf2 (a0 1) h0_1) v0] (fun rv g => rv = some (.int r.1) ∧ g = [wModel E a0 (rf2 (a0 1) h0_1) r.2]) := by
  refine ct_of (own := RX9) (by decide +kernel) rfl rfl (Nat.le_of_ble_eq_true rfl) (fun K C => ?_)
  refine ww_sub C (lv' := [(0, .ref (a0 0)), (1, .int x1), (2, .int x2)]) [0, 1, 2] rfl ?_
  rw [Mod_setLimit] at hf
  refine ww_aload_n C dX9_setLimit_0 rfl 0 rfl ?_
  refine ww_aload_n C dX9_setLimit_1 rfl 0 rfl ?_
  refine ww_iload_n C dX9_setLimit_2 rfl 1 rfl ?_
  obtain ⟨p3, hp3, hf⟩ := bdE hf
  refine ww_callV C (As := [.int x1]) (st := [.ref (a0 0)]) (gr := []) (c_X9_isRoom (E := E) (a0 := a0) (h0_1 := h0_1) hp3) gX9_setLimit_X9_isRoom rfl yk_X9_isRoom ⟨by decide, by decide⟩ ⟨by decide, by decide⟩ clOK9 0 0 rfl rfl [0] [] 1 rfl (by decide) rfl rfl (Nat.le_of_ble_eq_true rfl) dX9_setLimit_3 ?_
  rintro _ _ ⟨rfl, rfl⟩
  refine ww_perm (gs' := [wModel E a0 (rf2 (a0 1) h0_1) v0]) [0] 1 rfl (by decide) rfl ?_
  refine ww_if_neB (tgt := 13) C dX9_setLimit_6 (by decide) (fun c_1 => ?_) (fun c_1 => ?_)
  · replace hf := btE c_1 hf
    refine ww_iload_n C dX9_setLimit_13 rfl 2 rfl ?_
    refine ww_iconst (v := 0) C dX9_setLimit_14 (by decide) ?_
    refine ww_bipush (v := 99) C dX9_setLimit_15 (by decide) ?_
    obtain ⟨p17, hp17, hf⟩ := bdE hf
    refine ww_callS C (As := [.int x2, .int 0, .int 99]) (st := [.ref (a0 0)]) (gr := [wModel E a0 (rf2 (a0 1) h0_1) v0]) (c_X9_inRange (E := E)  hp17) gX9_setLimit_X9_inRange rfl ysk_X9_inRange ⟨by decide, by decide⟩ ⟨by decide, by decide⟩ [] [0] 1 rfl (by decide) rfl rfl (Nat.le_of_ble_eq_true rfl) dX9_setLimit_17 ?_
    rintro _ _ ⟨rfl, rfl⟩
    refine ww_perm (gs' := [wModel E a0 (rf2 (a0 1) h0_1) v0]) [0] 1 rfl (by decide) rfl ?_
    refine ww_if_eqB (tgt := 27) C dX9_setLimit_20 (by decide) (fun c_2 => ?_) (fun c_2 => ?_)
    · replace hf := bfE c_2 hf
      refine ww_iconst (v := 2) C dX9_setLimit_27 (by decide) ?_
      refine ww_sub C (lv' := [(0, .ref (a0 0)), (1, .int x1), (2, .int x2)]) [0, 1, 2] rfl ?_
      exact w_X9_setLimit_28 C hf
    · replace hf := btE c_2 hf
      refine ww_iconst (v := 0) C dX9_setLimit_23 (by decide) ?_
      refine ww_goto (tgt := 28) C dX9_setLimit_24 (by decide) ?_
      refine ww_sub C (lv' := [(0, .ref (a0 0)), (1, .int x1), (2, .int x2)]) [0, 1, 2] rfl ?_
      exact w_X9_setLimit_28 C hf
  · replace hf := bfE c_1 hf
    refine ww_iconst (v := 1) C dX9_setLimit_9 (by decide) ?_
    refine ww_goto (tgt := 28) C dX9_setLimit_10 (by decide) ?_
    refine ww_sub C (lv' := [(0, .ref (a0 0)), (1, .int x1), (2, .int x2)]) [0, 1, 2] rfl ?_
    exact w_X9_setLimit_28 C hf

theorem yk_X9_setLimit : yX9_setLimit.cls = RX9 ∧ yX9_setLimit.cls ≠ "java/lang/invoke/MethodHandle" ∧ yX9_setLimit.cls ≠ "java/lang/invoke/VarHandle" ∧ (parseMethodDescriptor yX9_setLimit.desc).map (fun d => d.parameters.length) = some 2 := by decide +kernel
abbrev rmX9_write : Room := { frames := 0, cells := 0, slots := 0, locals := 0 }
set_option maxRecDepth 20000 in
theorem in_X9_write_X9 : ∀ w ∈ u_ws RX9 TX9 35, w ∈ wsX9_write := by decide +kernel
set_option maxHeartbeats 4000000 in
set_option maxRecDepth 100000 in
theorem c_X9_write {E : Ex} {a0 : Nat → Nat} {h0_0 h0_1 : Nat} {x1 : Int32} {v0 : ModelV} {r : ModelV} (hf : Mod_write x1 v0 = some r) : Ct E yX9_write wsX9_write rmX9_write [.ref (a0 0), .int x1] [wModel E a0 (rf2 h0_0 h0_1) v0] (fun rv g => rv = none ∧ g = [wModel E a0 (rf2 h0_0 h0_1) r]) := by
  refine ct_of (own := RX9) (by decide +kernel) rfl rfl (Nat.le_of_ble_eq_true rfl) (fun K C => ?_)
  refine ww_sub C (lv' := [(0, .ref (a0 0)), (1, .int x1)]) [0, 1] rfl ?_
  rw [Mod_write] at hf
  refine ww_aload_n C dX9_write_0 rfl 0 rfl ?_
  refine ww_get C clOK9 in_X9_write_X9 (w := wModel E a0 (rf2 h0_0 h0_1) v0) (fs := fsModel a0 (rf2 h0_0 h0_1) v0) (v := .ref (a0 13)) 0 0 19 rfl q_Model (by decide) (by decide +kernel) g_Model_formatted dX9_write_1 ?_
  refine ww_aload_n C dX9_write_4 rfl 0 rfl ?_
  refine ww_get C clOK9 in_X9_write_X9 (w := wModel E a0 (rf2 h0_0 h0_1) v0) (fs := fsModel a0 (rf2 h0_0 h0_1) v0) (v := .int (Model_formattedLength v0)) 0 0 20 rfl q_Model (by decide) (by decide +kernel) g_Model_formattedLength dX9_write_5 ?_
  refine ww_iload_n C dX9_write_8 rfl 1 rfl ?_
  obtain ⟨g_1, hf⟩ := gdE hf
  obtain ⟨v0_9, e_v0_9⟩ : ∃ y : ModelV, y = Model_set_formatted v0 (upd (Model_formatted v0) (Int32.toNatClampNeg (Model_formattedLength v0)) x1) := ⟨_, rfl⟩
  replace hf := ltE e_v0_9 hf
  refine ww_iast C (f := Model_formatted v0) (w := wModel E a0 (rf2 h0_0 h0_1) v0) (w' := wModel E a0 (rf2 h0_0 h0_1) v0_9) (gs' := [wModel E a0 (rf2 h0_0 h0_1) v0_9]) 0 13 rfl c_Model_formatted (inB_vp g_1) (by rw [e_v0_9]; exact s_Model_formatted) rfl dX9_write_9 ?_
  refine ww_aload_n C dX9_write_10 rfl 0 rfl ?_
  refine ww_dup C dX9_write_11 rfl ?_
  refine ww_get C clOK9 in_X9_write_X9 (w := wModel E a0 (rf2 h0_0 h0_1) v0_9) (fs := fsModel a0 (rf2 h0_0 h0_1) v0_9) (v := .int (Model_formattedLength v0_9)) 0 0 20 rfl q_Model (by decide) (by decide +kernel) g_Model_formattedLength dX9_write_12 ?_
  refine ww_iconst (v := 1) C dX9_write_15 (by decide) ?_
  refine ww_iadd C dX9_write_16 ?_
  obtain ⟨v0_17, e_v0_17⟩ : ∃ y : ModelV, y = Model_set_formattedLength v0_9 ((Model_formattedLength v0_9) + 1) := ⟨_, rfl⟩
  replace hf := ltE e_v0_17 hf
  refine ww_put C clOK9 in_X9_write_X9 (w := wModel E a0 (rf2 h0_0 h0_1) v0_9) (fs := fsModel a0 (rf2 h0_0 h0_1) v0_9) (w' := wModel E a0 (rf2 h0_0 h0_1) v0_17) (gs' := [wModel E a0 (rf2 h0_0 h0_1) v0_17]) 0 0 20 rfl q_Model (by decide) (by decide +kernel) rfl rfl rfl rfl l_Model (by rw [e_v0_17]; exact p_Model_formattedLength) rfl dX9_write_17 ?_
  obtain rfl := Option.some.inj hf
  exact ww_vret C ⟨rfl, rfl⟩ dX9_write_20

theorem yk_X9_write : yX9_write.cls = RX9 ∧ yX9_write.cls ≠ "java/lang/invoke/MethodHandle" ∧ yX9_write.cls ≠ "java/lang/invoke/VarHandle" ∧ (parseMethodDescriptor yX9_write.desc).map (fun d => d.parameters.length) = some 1 := by decide +kernel
abbrev rmX9_writeRoom : Room := { frames := 4, cells := 0, slots := 0, locals := 89 }
set_option maxRecDepth 20000 in
theorem in_X9_writeRoom_X9 : ∀ w ∈ u_ws RX9 TX9 35, w ∈ wsX9_writeRoom := by decide +kernel
set_option maxHeartbeats 4000000 in
set_option maxRecDepth 100000 in
theorem w_X9_writeRoom_42 {E : Ex} {K : Kx} (C : Cx E K cX9_writeRoom 4 none RX9 wsX9_writeRoom rmX9_writeRoom) {a0 : Nat → Nat} {h0_1 : Nat} {x1 : Int32} {x2 : Int32} {r : ModelV} : ∀ (n : Nat) (x3 : Int32) (v0 : ModelV), Mod_writeRoom_42 x1 x2 n x3 v0 = some r → WW E K 0 0 (QQ E K (fun rv g => rv = none ∧ g = [wModel E a0 (rf2 (a0 1) h0_1) r]) 0 0) 42 [(0, .ref (a0 0)), (1, .int x1), (2, .int x2), (3, .int x3)] [] [wModel E a0 (rf2 (a0 1) h0_1) v0] := by
  intro n
  induction n with
  | zero =>
    intro x3 v0 hf
    simp [Mod_writeRoom_42] at hf
  | succ n ih =>
    intro x3 v0 hf
    rw [Mod_writeRoom_42] at hf
    refine ww_iload_n C dX9_writeRoom_42 rfl 3 rfl ?_
    refine ww_aload_n C dX9_writeRoom_43 rfl 0 rfl ?_
    obtain ⟨p44, hp44, hf⟩ := bdE hf
    refine ww_callV C (As := []) (st := [.int x3]) (gr := []) (c_X9_guards (E := E) (a0 := a0) (h0_1 := h0_1) hp44) gX9_writeRoom_X9_guards rfl yk_X9_guards ⟨by decide, by decide⟩ ⟨by decide, by decide⟩ clOK9 0 0 rfl rfl [0] [] 1 rfl (by decide) rfl rfl (Nat.le_of_ble_eq_true rfl) dX9_writeRoom_44 ?_
    rintro _ _ ⟨rfl, rfl⟩
    refine ww_perm (gs' := [wModel E a0 (rf2 (a0 1) h0_1) v0]) [0] 1 rfl (by decide) rfl ?_
    refine ww_icmp_ge (tgt := 72) C dX9_writeRoom_47 (by decide) (fun c_5 => ?_) (fun c_5 => ?_)
    · replace hf := ifT c_5 hf
      refine ww_aload_n C dX9_writeRoom_72 rfl 0 rfl ?_
      refine ww_iload_n C dX9_writeRoom_73 rfl 1 rfl ?_
      obtain ⟨p74, hp74, hf⟩ := bdE hf
      refine ww_callV C (As := [.int x1]) (st := []) (gr := []) (c_X9_isLate (E := E) (a0 := a0) (h0_1 := h0_1) hp74) gX9_writeRoom_X9_isLate rfl yk_X9_isLate ⟨by decide, by decide⟩ ⟨by decide, by decide⟩ clOK9 0 0 rfl rfl [0] [] 1 rfl (by decide) rfl rfl (Nat.le_of_ble_eq_true rfl) dX9_writeRoom_74 ?_
      rintro _ _ ⟨rfl, rfl⟩
      refine ww_perm (gs' := [wModel E a0 (rf2 (a0 1) h0_1) v0]) [0] 1 rfl (by decide) rfl ?_
      refine ww_if_eqB (tgt := 86) C dX9_writeRoom_77 (by decide) (fun c_6 => ?_) (fun c_6 => ?_)
      · replace hf := bfE c_6 hf
        obtain rfl := Option.some.inj hf
        exact ww_vret C ⟨rfl, rfl⟩ dX9_writeRoom_86
      · replace hf := btE c_6 hf
        refine ww_aload_n C dX9_writeRoom_80 rfl 0 rfl ?_
        refine ww_bipush (v := 33) C dX9_writeRoom_81 (by decide) ?_
        obtain ⟨p83, hp83, hf⟩ := bdE hf
        refine ww_callV C (As := [.int 33]) (st := []) (gr := []) (c_X9_write (E := E) (a0 := a0) (h0_0 := a0 1) (h0_1 := h0_1) hp83) gX9_writeRoom_X9_write rfl yk_X9_write ⟨by decide, by decide⟩ ⟨by decide, by decide⟩ clOK9 0 0 rfl rfl [0] [] 1 rfl (by decide) rfl rfl (Nat.le_of_ble_eq_true rfl) dX9_writeRoom_83 ?_
        rintro _ _ ⟨rfl, rfl⟩
        refine ww_perm (gs' := [wModel E a0 (rf2 (a0 1) h0_1) p83]) [0] 1 rfl (by decide) rfl ?_
        obtain rfl := Option.some.inj hf
        exact ww_vret C ⟨rfl, rfl⟩ dX9_writeRoom_86
    · replace hf := ifF c_5 hf
      refine ww_iload_n C dX9_writeRoom_50 rfl 2 rfl ?_
      refine ww_iload_n C dX9_writeRoom_51 rfl 3 rfl ?_
      obtain ⟨p52, hp52, hf⟩ := bdE hf
      refine ww_callS C (As := [.int x2, .int x3]) (st := []) (gr := [wModel E a0 (rf2 (a0 1) h0_1) v0]) (c_X9_has (E := E)  hp52) gX9_writeRoom_X9_has rfl ysk_X9_has ⟨by decide, by decide⟩ ⟨by decide, by decide⟩ [] [0] 1 rfl (by decide) rfl rfl (Nat.le_of_ble_eq_true rfl) dX9_writeRoom_52 ?_
      rintro _ _ ⟨rfl, rfl⟩
      refine ww_perm (gs' := [wModel E a0 (rf2 (a0 1) h0_1) v0]) [0] 1 rfl (by decide) rfl ?_
      refine ww_if_eqB (tgt := 66) C dX9_writeRoom_55 (by decide) (fun c_7 => ?_) (fun c_7 => ?_)
      · replace hf := bfE c_7 hf
        obtain ⟨x3_66, e_x3_66⟩ : ∃ y : Int32, y = x3 + 1 := ⟨_, rfl⟩
        replace hf := ltE e_x3_66 hf
        refine ww_iinc (v := x3_66) (lv' := [(3, .int x3_66), (0, .ref (a0 0)), (1, .int x1), (2, .int x2)]) C dX9_writeRoom_66 3 rfl (by rw [e_x3_66]; rfl) (by decide) rfl ?_
        refine ww_goto (tgt := 42) C dX9_writeRoom_69 (by decide) ?_
        refine ww_sub C (lv' := [(0, .ref (a0 0)), (1, .int x1), (2, .int x2), (3, .int x3_66)]) [1, 2, 3, 0] rfl ?_
        exact ih _ _ hf
      · replace hf := btE c_7 hf
        refine ww_aload_n C dX9_writeRoom_58 rfl 0 rfl ?_
        refine ww_bipush (v := 97) C dX9_writeRoom_59 (by decide) ?_
        refine ww_iload_n C dX9_writeRoom_61 rfl 3 rfl ?_
        refine ww_iadd C dX9_writeRoom_62 ?_
        obtain ⟨p63, hp63, hf⟩ := bdE hf
        refine ww_callV C (As := [.int (97 + x3)]) (st := []) (gr := []) (c_X9_write (E := E) (a0 := a0) (h0_0 := a0 1) (h0_1 := h0_1) hp63) gX9_writeRoom_X9_write rfl yk_X9_write ⟨by decide, by decide⟩ ⟨by decide, by decide⟩ clOK9 0 0 rfl rfl [0] [] 1 rfl (by decide) rfl rfl (Nat.le_of_ble_eq_true rfl) dX9_writeRoom_63 ?_
        rintro _ _ ⟨rfl, rfl⟩
        refine ww_perm (gs' := [wModel E a0 (rf2 (a0 1) h0_1) p63]) [0] 1 rfl (by decide) rfl ?_
        obtain ⟨x3_66, e_x3_66⟩ : ∃ y : Int32, y = x3 + 1 := ⟨_, rfl⟩
        replace hf := ltE e_x3_66 hf
        refine ww_iinc (v := x3_66) (lv' := [(3, .int x3_66), (0, .ref (a0 0)), (1, .int x1), (2, .int x2)]) C dX9_writeRoom_66 3 rfl (by rw [e_x3_66]; rfl) (by decide) rfl ?_
        refine ww_goto (tgt := 42) C dX9_writeRoom_69 (by decide) ?_
        refine ww_sub C (lv' := [(0, .ref (a0 0)), (1, .int x1), (2, .int x2), (3, .int x3_66)]) [1, 2, 3, 0] rfl ?_
        exact ih _ _ hf

set_option maxHeartbeats 4000000 in
set_option maxRecDepth 100000 in
theorem w_X9_writeRoom_17 {E : Ex} {K : Kx} (C : Cx E K cX9_writeRoom 4 none RX9 wsX9_writeRoom rmX9_writeRoom) {a0 : Nat → Nat} {h0_1 : Nat} {x1 : Int32}  {v0 : ModelV} {r : ModelV} (hf : Mod_writeRoom_17 x1 v0 = some r) : WW E K 0 0 (QQ E K (fun rv g => rv = none ∧ g = [wModel E a0 (rf2 (a0 1) h0_1) r]) 0 0) 17 [(0, .ref (a0 0)), (1, .int x1)] [] [wModel E a0 (rf2 (a0 1) h0_1) v0] := by
  rw [Mod_writeRoom_17] at hf
  refine ww_aload_n C dX9_writeRoom_17 rfl 0 rfl ?_
  refine ww_bipush (v := 48) C dX9_writeRoom_18 (by decide) ?_
  refine ww_iload_n C dX9_writeRoom_20 rfl 1 rfl ?_
  refine ww_bipush (v := 10) C dX9_writeRoom_21 (by decide) ?_
  obtain ⟨g_3, hf⟩ := gdE hf
  refine ww_irem C dX9_writeRoom_23 (nz_ne g_3) ?_
  refine ww_iadd C dX9_writeRoom_24 ?_
  obtain ⟨p25, hp25, hf⟩ := bdE hf
  refine ww_callV C (As := [.int (48 + (x1 - x1 / 10 * 10))]) (st := []) (gr := []) (c_X9_write (E := E) (a0 := a0) (h0_0 := a0 1) (h0_1 := h0_1) hp25) gX9_writeRoom_X9_write rfl yk_X9_write ⟨by decide, by decide⟩ ⟨by decide, by decide⟩ clOK9 0 0 rfl rfl [0] [] 1 rfl (by decide) rfl rfl (Nat.le_of_ble_eq_true rfl) dX9_writeRoom_25 ?_
  rintro _ _ ⟨rfl, rfl⟩
  refine ww_perm (gs' := [wModel E a0 (rf2 (a0 1) h0_1) p25]) [0] 1 rfl (by decide) rfl ?_
  refine ww_aload_n C dX9_writeRoom_28 rfl 0 rfl ?_
  refine ww_iload_n C dX9_writeRoom_29 rfl 1 rfl ?_
  refine ww_aload_n C dX9_writeRoom_30 rfl 0 rfl ?_
  refine ww_get C clOK9 in_X9_writeRoom_X9 (w := wModel E a0 (rf2 (a0 1) h0_1) p25) (fs := fsModel a0 (rf2 (a0 1) h0_1) p25) (v := .ref (a0 1)) 0 0 0 rfl q_Model (by decide) (by decide +kernel) g_Model_now dX9_writeRoom_31 ?_
  refine ww_iconst (v := 3) C dX9_writeRoom_34 (by decide) ?_
  obtain ⟨g_4, hf⟩ := gdE hf
  refine ww_iald C (f := Model_now p25) (w := wModel E a0 (rf2 (a0 1) h0_1) p25) 0 1 rfl c_Model_now (inB_vp g_4) dX9_writeRoom_35 ?_
  obtain ⟨p36, hp36, hf⟩ := bdE hf
  refine ww_callV C (As := [.int x1, .int ((Model_now p25) (Int32.toNatClampNeg 3))]) (st := []) (gr := []) (c_X9_guardsAt (E := E) (a0 := a0) (h0_1 := h0_1) hp36) gX9_writeRoom_X9_guardsAt rfl yk_X9_guardsAt ⟨by decide, by decide⟩ ⟨by decide, by decide⟩ clOK9 0 0 rfl rfl [0] [] 1 rfl (by decide) rfl rfl (Nat.le_of_ble_eq_true rfl) dX9_writeRoom_36 ?_
  rintro _ _ ⟨rfl, rfl⟩
  refine ww_perm (gs' := [wModel E a0 (rf2 (a0 1) h0_1) p25]) [0] 1 rfl (by decide) rfl ?_
  refine ww_istore_n (lv' := [(2, .int p36), (0, .ref (a0 0)), (1, .int x1)]) C dX9_writeRoom_39 rfl (by decide) rfl ?_
  refine ww_iconst (v := 0) C dX9_writeRoom_40 (by decide) ?_
  refine ww_istore_n (lv' := [(3, .int 0), (2, .int p36), (0, .ref (a0 0)), (1, .int x1)]) C dX9_writeRoom_41 rfl (by decide) rfl ?_
  refine ww_sub C (lv' := [(0, .ref (a0 0)), (1, .int x1), (2, .int p36), (3, .int 0)]) [2, 3, 1, 0] rfl ?_
  exact w_X9_writeRoom_42 C FU _ _ hf

set_option maxHeartbeats 4000000 in
set_option maxRecDepth 100000 in
theorem c_X9_writeRoom {E : Ex} {a0 : Nat → Nat} {h0_1 : Nat} {x1 : Int32} {v0 : ModelV} {r : ModelV} (hf : Mod_writeRoom x1 v0 = some r) : Ct E yX9_writeRoom wsX9_writeRoom rmX9_writeRoom [.ref (a0 0), .int x1] [wModel E a0 (rf2 (a0 1) h0_1) v0] (fun rv g => rv = none ∧ g = [wModel E a0 (rf2 (a0 1) h0_1) r]) := by
  refine ct_of (own := RX9) (by decide +kernel) rfl rfl (Nat.le_of_ble_eq_true rfl) (fun K C => ?_)
  refine ww_sub C (lv' := [(0, .ref (a0 0)), (1, .int x1)]) [0, 1] rfl ?_
  rw [Mod_writeRoom] at hf
  refine ww_iload_n C dX9_writeRoom_0 rfl 1 rfl ?_
  refine ww_bipush (v := 9) C dX9_writeRoom_1 (by decide) ?_
  refine ww_icmp_le (tgt := 17) C dX9_writeRoom_3 (by decide) (fun c_1 => ?_) (fun c_1 => ?_)
  · replace hf := ifT c_1 hf
    refine ww_sub C (lv' := [(0, .ref (a0 0)), (1, .int x1)]) [0, 1] rfl ?_
    exact w_X9_writeRoom_17 C hf
  · replace hf := ifF c_1 hf
    refine ww_aload_n C dX9_writeRoom_6 rfl 0 rfl ?_
    refine ww_bipush (v := 48) C dX9_writeRoom_7 (by decide) ?_
    refine ww_iload_n C dX9_writeRoom_9 rfl 1 rfl ?_
    refine ww_bipush (v := 10) C dX9_writeRoom_10 (by decide) ?_
    obtain ⟨g_2, hf⟩ := gdE hf
    refine ww_idiv C dX9_writeRoom_12 (nz_ne g_2) ?_
    refine ww_iadd C dX9_writeRoom_13 ?_
    obtain ⟨p14, hp14, hf⟩ := bdE hf
    refine ww_callV C (As := [.int (48 + (x1 / 10))]) (st := []) (gr := []) (c_X9_write (E := E) (a0 := a0) (h0_0 := a0 1) (h0_1 := h0_1) hp14) gX9_writeRoom_X9_write rfl yk_X9_write ⟨by decide, by decide⟩ ⟨by decide, by decide⟩ clOK9 0 0 rfl rfl [0] [] 1 rfl (by decide) rfl rfl (Nat.le_of_ble_eq_true rfl) dX9_writeRoom_14 ?_
    rintro _ _ ⟨rfl, rfl⟩
    refine ww_perm (gs' := [wModel E a0 (rf2 (a0 1) h0_1) p14]) [0] 1 rfl (by decide) rfl ?_
    refine ww_sub C (lv' := [(0, .ref (a0 0)), (1, .int x1)]) [0, 1] rfl ?_
    exact w_X9_writeRoom_17 C hf

theorem yk_X9_writeRoom : yX9_writeRoom.cls = RX9 ∧ yX9_writeRoom.cls ≠ "java/lang/invoke/MethodHandle" ∧ yX9_writeRoom.cls ≠ "java/lang/invoke/VarHandle" ∧ (parseMethodDescriptor yX9_writeRoom.desc).map (fun d => d.parameters.length) = some 1 := by decide +kernel
abbrev rmX9_format : Room := { frames := 6, cells := 0, slots := 0, locals := 130 }
set_option maxRecDepth 20000 in
theorem in_X9_format_X9 : ∀ w ∈ u_ws RX9 TX9 35, w ∈ wsX9_format := by decide +kernel
set_option maxHeartbeats 4000000 in
set_option maxRecDepth 100000 in
theorem w_X9_format_34 {E : Ex} {K : Kx} (C : Cx E K cX9_format 2 (some .int) RX9 wsX9_format rmX9_format) {a0 : Nat → Nat} {h0_1 : Nat}   {x1 : Int32} {v0 : ModelV} {k16 : Int32 → ModelV → Option (Int32 × ModelV)} {r : (Int32 × ModelV)} (hk16 : ∀ (x1 : Int32) (v0 : ModelV), k16 x1 v0 = some r → WW E K 0 0 (QQ E K (fun rv g => rv = some (.int r.1) ∧ g = [wModel E a0 (rf2 (a0 1) h0_1) r.2]) 0 0) 16 [(0, .ref (a0 0)), (1, .int x1)] [] [wModel E a0 (rf2 (a0 1) h0_1) v0]) (hf : Mod_format_34 k16 x1 v0 = some r) : WW E K 0 0 (QQ E K (fun rv g => rv = some (.int r.1) ∧ g = [wModel E a0 (rf2 (a0 1) h0_1) r.2]) 0 0) 34 [(0, .ref (a0 0)), (1, .int x1)] [] [wModel E a0 (rf2 (a0 1) h0_1) v0] := by
  rw [Mod_format_34] at hf
  refine ww_aload_n C dX9_format_34 rfl 0 rfl ?_
  refine ww_iload_n C dX9_format_35 rfl 1 rfl ?_
  obtain ⟨p36, hp36, hf⟩ := bdE hf
  refine ww_callV C (As := [.int x1]) (st := []) (gr := []) (c_X9_writeRoom (E := E) (a0 := a0) (h0_1 := h0_1) hp36) gX9_format_X9_writeRoom rfl yk_X9_writeRoom ⟨by decide, by decide⟩ ⟨by decide, by decide⟩ clOK9 0 0 rfl rfl [0] [] 1 rfl (by decide) rfl rfl (Nat.le_of_ble_eq_true rfl) dX9_format_36 ?_
  rintro _ _ ⟨rfl, rfl⟩
  refine ww_perm (gs' := [wModel E a0 (rf2 (a0 1) h0_1) p36]) [0] 1 rfl (by decide) rfl ?_
  obtain ⟨x1_39, e_x1_39⟩ : ∃ y : Int32, y = x1 + 1 := ⟨_, rfl⟩
  replace hf := ltE e_x1_39 hf
  refine ww_iinc (v := x1_39) (lv' := [(1, .int x1_39), (0, .ref (a0 0))]) C dX9_format_39 1 rfl (by rw [e_x1_39]; rfl) (by decide) rfl ?_
  refine ww_goto (tgt := 16) C dX9_format_42 (by decide) ?_
  refine ww_sub C (lv' := [(0, .ref (a0 0)), (1, .int x1_39)]) [1, 0] rfl ?_
  exact hk16 _ _ hf

set_option maxHeartbeats 4000000 in
set_option maxRecDepth 100000 in
theorem w_X9_format_16 {E : Ex} {K : Kx} (C : Cx E K cX9_format 2 (some .int) RX9 wsX9_format rmX9_format) {a0 : Nat → Nat} {h0_1 : Nat}   {r : (Int32 × ModelV)} : ∀ (n : Nat) (x1 : Int32) (v0 : ModelV), Mod_format_16 n x1 v0 = some r → WW E K 0 0 (QQ E K (fun rv g => rv = some (.int r.1) ∧ g = [wModel E a0 (rf2 (a0 1) h0_1) r.2]) 0 0) 16 [(0, .ref (a0 0)), (1, .int x1)] [] [wModel E a0 (rf2 (a0 1) h0_1) v0] := by
  intro n
  induction n with
  | zero =>
    intro x1 v0 hf
    simp [Mod_format_16] at hf
  | succ n ih =>
    intro x1 v0 hf
    rw [Mod_format_16] at hf
    refine ww_iload_n C dX9_format_16 rfl 1 rfl ?_
    refine ww_aload_n C dX9_format_17 rfl 0 rfl ?_
    obtain ⟨p18, hp18, hf⟩ := bdE hf
    refine ww_callV C (As := []) (st := [.int x1]) (gr := []) (c_X9_rooms (E := E) (a0 := a0) (h0_1 := h0_1) hp18) gX9_format_X9_rooms rfl yk_X9_rooms ⟨by decide, by decide⟩ ⟨by decide, by decide⟩ clOK9 0 0 rfl rfl [0] [] 1 rfl (by decide) rfl rfl (Nat.le_of_ble_eq_true rfl) dX9_format_18 ?_
    rintro _ _ ⟨rfl, rfl⟩
    refine ww_perm (gs' := [wModel E a0 (rf2 (a0 1) h0_1) v0]) [0] 1 rfl (by decide) rfl ?_
    refine ww_icmp_ge (tgt := 45) C dX9_format_21 (by decide) (fun c_1 => ?_) (fun c_1 => ?_)
    · replace hf := ifT c_1 hf
      refine ww_aload_n C dX9_format_45 rfl 0 rfl ?_
      refine ww_get C clOK9 in_X9_format_X9 (w := wModel E a0 (rf2 (a0 1) h0_1) v0) (fs := fsModel a0 (rf2 (a0 1) h0_1) v0) (v := .int (Model_formattedLength v0)) 0 0 20 rfl q_Model (by decide) (by decide +kernel) g_Model_formattedLength dX9_format_46 ?_
      obtain rfl := Option.some.inj hf
      exact ww_iret C ⟨rfl, rfl⟩ dX9_format_49
    · replace hf := ifF c_1 hf
      refine ww_iload_n C dX9_format_24 rfl 1 rfl ?_
      refine ww_if_le (tgt := 34) C dX9_format_25 (by decide) (fun c_2 => ?_) (fun c_2 => ?_)
      · replace hf := ifT c_2 hf
        refine ww_sub C (lv' := [(0, .ref (a0 0)), (1, .int x1)]) [0, 1] rfl ?_
        exact w_X9_format_34 C (k16 := (fun (x1 : Int32) (v0 : ModelV) => Mod_format_16 n x1 v0)) ih hf
      · replace hf := ifF c_2 hf
        refine ww_aload_n C dX9_format_28 rfl 0 rfl ?_
        refine ww_bipush (v := 32) C dX9_format_29 (by decide) ?_
        obtain ⟨p31, hp31, hf⟩ := bdE hf
        refine ww_callV C (As := [.int 32]) (st := []) (gr := []) (c_X9_write (E := E) (a0 := a0) (h0_0 := a0 1) (h0_1 := h0_1) hp31) gX9_format_X9_write rfl yk_X9_write ⟨by decide, by decide⟩ ⟨by decide, by decide⟩ clOK9 0 0 rfl rfl [0] [] 1 rfl (by decide) rfl rfl (Nat.le_of_ble_eq_true rfl) dX9_format_31 ?_
        rintro _ _ ⟨rfl, rfl⟩
        refine ww_perm (gs' := [wModel E a0 (rf2 (a0 1) h0_1) p31]) [0] 1 rfl (by decide) rfl ?_
        refine ww_sub C (lv' := [(0, .ref (a0 0)), (1, .int x1)]) [0, 1] rfl ?_
        exact w_X9_format_34 C (k16 := (fun (x1 : Int32) (v0 : ModelV) => Mod_format_16 n x1 v0)) ih hf

set_option maxHeartbeats 4000000 in
set_option maxRecDepth 100000 in
theorem c_X9_format {E : Ex} {a0 : Nat → Nat} {h0_1 : Nat} {v0 : ModelV} {r : (Int32 × ModelV)} (hf : Mod_format v0 = some r) : Ct E yX9_format wsX9_format rmX9_format [.ref (a0 0)] [wModel E a0 (rf2 (a0 1) h0_1) v0] (fun rv g => rv = some (.int r.1) ∧ g = [wModel E a0 (rf2 (a0 1) h0_1) r.2]) := by
  refine ct_of (own := RX9) (by decide +kernel) rfl rfl (Nat.le_of_ble_eq_true rfl) (fun K C => ?_)
  refine ww_sub C (lv' := [(0, .ref (a0 0))]) [0] rfl ?_
  rw [Mod_format] at hf
  refine ww_aload_n C dX9_format_0 rfl 0 rfl ?_
  refine ww_iconst (v := 0) C dX9_format_1 (by decide) ?_
  obtain ⟨v0_2, e_v0_2⟩ : ∃ y : ModelV, y = Model_set_thrown v0 0 := ⟨_, rfl⟩
  replace hf := ltE e_v0_2 hf
  refine ww_put C clOK9 in_X9_format_X9 (w := wModel E a0 (rf2 (a0 1) h0_1) v0) (fs := fsModel a0 (rf2 (a0 1) h0_1) v0) (w' := wModel E a0 (rf2 (a0 1) h0_1) v0_2) (gs' := [wModel E a0 (rf2 (a0 1) h0_1) v0_2]) 0 0 5 rfl q_Model (by decide) (by decide +kernel) rfl rfl rfl rfl l_Model (by rw [e_v0_2]; exact p_Model_thrown) rfl dX9_format_2 ?_
  refine ww_aload_n C dX9_format_5 rfl 0 rfl ?_
  obtain ⟨p6, hp6, hf⟩ := bdE hf
  refine ww_callV C (As := []) (st := []) (gr := []) (c_X9_layNow (E := E) (a0 := a0) (h0_1 := h0_1) hp6) gX9_format_X9_layNow rfl yk_X9_layNow ⟨by decide, by decide⟩ ⟨by decide, by decide⟩ clOK9 0 0 rfl rfl [0] [] 1 rfl (by decide) rfl rfl (Nat.le_of_ble_eq_true rfl) dX9_format_6 ?_
  rintro _ _ ⟨rfl, rfl⟩
  refine ww_perm (gs' := [wModel E a0 (rf2 (a0 1) h0_1) p6]) [0] 1 rfl (by decide) rfl ?_
  refine ww_aload_n C dX9_format_9 rfl 0 rfl ?_
  refine ww_iconst (v := 0) C dX9_format_10 (by decide) ?_
  obtain ⟨v0_11, e_v0_11⟩ : ∃ y : ModelV, y = Model_set_formattedLength p6 0 := ⟨_, rfl⟩
  replace hf := ltE e_v0_11 hf
  refine ww_put C clOK9 in_X9_format_X9 (w := wModel E a0 (rf2 (a0 1) h0_1) p6) (fs := fsModel a0 (rf2 (a0 1) h0_1) p6) (w' := wModel E a0 (rf2 (a0 1) h0_1) v0_11) (gs' := [wModel E a0 (rf2 (a0 1) h0_1) v0_11]) 0 0 20 rfl q_Model (by decide) (by decide +kernel) rfl rfl rfl rfl l_Model (by rw [e_v0_11]; exact p_Model_formattedLength) rfl dX9_format_11 ?_
  refine ww_iconst (v := 0) C dX9_format_14 (by decide) ?_
  refine ww_istore_n (lv' := [(1, .int 0), (0, .ref (a0 0))]) C dX9_format_15 rfl (by decide) rfl ?_
  refine ww_sub C (lv' := [(0, .ref (a0 0)), (1, .int 0)]) [1, 0] rfl ?_
  exact w_X9_format_16 C FU _ _ hf

theorem yk_X9_format : yX9_format.cls = RX9 ∧ yX9_format.cls ≠ "java/lang/invoke/MethodHandle" ∧ yX9_format.cls ≠ "java/lang/invoke/VarHandle" ∧ (parseMethodDescriptor yX9_format.desc).map (fun d => d.parameters.length) = some 0 := by decide +kernel
abbrev rmX9_formattedByte : Room := { frames := 1, cells := 0, slots := 0, locals := 22 }
set_option maxRecDepth 20000 in
theorem in_X9_formattedByte_X9 : ∀ w ∈ u_ws RX9 TX9 35, w ∈ wsX9_formattedByte := by decide +kernel
set_option maxHeartbeats 4000000 in
set_option maxRecDepth 100000 in
theorem c_X9_formattedByte {E : Ex} {a0 : Nat → Nat} {h0_0 h0_1 : Nat} {x1 : Int32} {v0 : ModelV} {r : (Int32 × ModelV)} (hf : Mod_formattedByte x1 v0 = some r) : Ct E yX9_formattedByte wsX9_formattedByte rmX9_formattedByte [.ref (a0 0), .int x1] [wModel E a0 (rf2 h0_0 h0_1) v0] (fun rv g => rv = some (.int r.1) ∧ g = [wModel E a0 (rf2 h0_0 h0_1) r.2]) := by
  refine ct_of (own := RX9) (by decide +kernel) rfl rfl (Nat.le_of_ble_eq_true rfl) (fun K C => ?_)
  refine ww_sub C (lv' := [(0, .ref (a0 0)), (1, .int x1)]) [0, 1] rfl ?_
  rw [Mod_formattedByte] at hf
  refine ww_aload_n C dX9_formattedByte_0 rfl 0 rfl ?_
  refine ww_iconst (v := 0) C dX9_formattedByte_1 (by decide) ?_
  obtain ⟨v0_2, e_v0_2⟩ : ∃ y : ModelV, y = Model_set_thrown v0 0 := ⟨_, rfl⟩
  replace hf := ltE e_v0_2 hf
  refine ww_put C clOK9 in_X9_formattedByte_X9 (w := wModel E a0 (rf2 h0_0 h0_1) v0) (fs := fsModel a0 (rf2 h0_0 h0_1) v0) (w' := wModel E a0 (rf2 h0_0 h0_1) v0_2) (gs' := [wModel E a0 (rf2 h0_0 h0_1) v0_2]) 0 0 5 rfl q_Model (by decide) (by decide +kernel) rfl rfl rfl rfl l_Model (by rw [e_v0_2]; exact p_Model_thrown) rfl dX9_formattedByte_2 ?_
  refine ww_iload_n C dX9_formattedByte_5 rfl 1 rfl ?_
  refine ww_iconst (v := 0) C dX9_formattedByte_6 (by decide) ?_
  refine ww_aload_n C dX9_formattedByte_7 rfl 0 rfl ?_
  refine ww_get C clOK9 in_X9_formattedByte_X9 (w := wModel E a0 (rf2 h0_0 h0_1) v0_2) (fs := fsModel a0 (rf2 h0_0 h0_1) v0_2) (v := .int (Model_formattedLength v0_2)) 0 0 20 rfl q_Model (by decide) (by decide +kernel) g_Model_formattedLength dX9_formattedByte_8 ?_
  refine ww_iconst (v := 1) C dX9_formattedByte_11 (by decide) ?_
  refine ww_isub C dX9_formattedByte_12 ?_
  obtain ⟨p13, hp13, hf⟩ := bdE hf
  refine ww_callS C (As := [.int x1, .int 0, .int ((Model_formattedLength v0_2) - 1)]) (st := []) (gr := [wModel E a0 (rf2 h0_0 h0_1) v0_2]) (c_X9_inRange (E := E)  hp13) gX9_formattedByte_X9_inRange rfl ysk_X9_inRange ⟨by decide, by decide⟩ ⟨by decide, by decide⟩ [] [0] 1 rfl (by decide) rfl rfl (Nat.le_of_ble_eq_true rfl) dX9_formattedByte_13 ?_
  rintro _ _ ⟨rfl, rfl⟩
  refine ww_perm (gs' := [wModel E a0 (rf2 h0_0 h0_1) v0_2]) [0] 1 rfl (by decide) rfl ?_
  refine ww_if_eqB (tgt := 28) C dX9_formattedByte_16 (by decide) (fun c_1 => ?_) (fun c_1 => ?_)
  · replace hf := bfE c_1 hf
    refine ww_iconst (v := (-1)) C dX9_formattedByte_28 (by decide) ?_
    obtain rfl := Option.some.inj hf
    exact ww_iret C ⟨rfl, rfl⟩ dX9_formattedByte_29
  · replace hf := btE c_1 hf
    refine ww_aload_n C dX9_formattedByte_19 rfl 0 rfl ?_
    refine ww_get C clOK9 in_X9_formattedByte_X9 (w := wModel E a0 (rf2 h0_0 h0_1) v0_2) (fs := fsModel a0 (rf2 h0_0 h0_1) v0_2) (v := .ref (a0 13)) 0 0 19 rfl q_Model (by decide) (by decide +kernel) g_Model_formatted dX9_formattedByte_20 ?_
    refine ww_iload_n C dX9_formattedByte_23 rfl 1 rfl ?_
    obtain ⟨g_2, hf⟩ := gdE hf
    refine ww_iald C (f := Model_formatted v0_2) (w := wModel E a0 (rf2 h0_0 h0_1) v0_2) 0 13 rfl c_Model_formatted (inB_vp g_2) dX9_formattedByte_24 ?_
    refine ww_goto (tgt := 29) C dX9_formattedByte_25 (by decide) ?_
    obtain rfl := Option.some.inj hf
    exact ww_iret C ⟨rfl, rfl⟩ dX9_formattedByte_29

theorem yk_X9_formattedByte : yX9_formattedByte.cls = RX9 ∧ yX9_formattedByte.cls ≠ "java/lang/invoke/MethodHandle" ∧ yX9_formattedByte.cls ≠ "java/lang/invoke/VarHandle" ∧ (parseMethodDescriptor yX9_formattedByte.desc).map (fun d => d.parameters.length) = some 1 := by decide +kernel
abbrev rmX9_undoCount : Room := { frames := 0, cells := 0, slots := 0, locals := 0 }
set_option maxRecDepth 20000 in
theorem in_X9_undoCount_X9 : ∀ w ∈ u_ws RX9 TX9 35, w ∈ wsX9_undoCount := by decide +kernel
set_option maxHeartbeats 4000000 in
set_option maxRecDepth 100000 in
theorem c_X9_undoCount {E : Ex} {a0 : Nat → Nat} {h0_0 h0_1 : Nat} {v0 : ModelV} {r : (Int32 × ModelV)} (hf : Mod_undoCount v0 = some r) : Ct E yX9_undoCount wsX9_undoCount rmX9_undoCount [.ref (a0 0)] [wModel E a0 (rf2 h0_0 h0_1) v0] (fun rv g => rv = some (.int r.1) ∧ g = [wModel E a0 (rf2 h0_0 h0_1) r.2]) := by
  refine ct_of (own := RX9) (by decide +kernel) rfl rfl (Nat.le_of_ble_eq_true rfl) (fun K C => ?_)
  refine ww_sub C (lv' := [(0, .ref (a0 0))]) [0] rfl ?_
  rw [Mod_undoCount] at hf
  refine ww_aload_n C dX9_undoCount_0 rfl 0 rfl ?_
  refine ww_iconst (v := 0) C dX9_undoCount_1 (by decide) ?_
  obtain ⟨v0_2, e_v0_2⟩ : ∃ y : ModelV, y = Model_set_thrown v0 0 := ⟨_, rfl⟩
  replace hf := ltE e_v0_2 hf
  refine ww_put C clOK9 in_X9_undoCount_X9 (w := wModel E a0 (rf2 h0_0 h0_1) v0) (fs := fsModel a0 (rf2 h0_0 h0_1) v0) (w' := wModel E a0 (rf2 h0_0 h0_1) v0_2) (gs' := [wModel E a0 (rf2 h0_0 h0_1) v0_2]) 0 0 5 rfl q_Model (by decide) (by decide +kernel) rfl rfl rfl rfl l_Model (by rw [e_v0_2]; exact p_Model_thrown) rfl dX9_undoCount_2 ?_
  refine ww_aload_n C dX9_undoCount_5 rfl 0 rfl ?_
  refine ww_get C clOK9 in_X9_undoCount_X9 (w := wModel E a0 (rf2 h0_0 h0_1) v0_2) (fs := fsModel a0 (rf2 h0_0 h0_1) v0_2) (v := .int (Model_undoCount v0_2)) 0 0 4 rfl q_Model (by decide) (by decide +kernel) g_Model_undoCount dX9_undoCount_6 ?_
  obtain rfl := Option.some.inj hf
  exact ww_iret C ⟨rfl, rfl⟩ dX9_undoCount_9

theorem yk_X9_undoCount : yX9_undoCount.cls = RX9 ∧ yX9_undoCount.cls ≠ "java/lang/invoke/MethodHandle" ∧ yX9_undoCount.cls ≠ "java/lang/invoke/VarHandle" ∧ (parseMethodDescriptor yX9_undoCount.desc).map (fun d => d.parameters.length) = some 0 := by decide +kernel
abbrev rmX9_undo : Room := { frames := 1, cells := 0, slots := 0, locals := 24 }
set_option maxRecDepth 20000 in
theorem in_X9_undo_X9 : ∀ w ∈ u_ws RX9 TX9 35, w ∈ wsX9_undo := by decide +kernel
set_option maxHeartbeats 4000000 in
set_option maxRecDepth 100000 in
theorem c_X9_undo {E : Ex} {a0 : Nat → Nat} {h0_0 h0_1 : Nat} {v0 : ModelV} {r : (Int32 × ModelV)} (hf : Mod_undo v0 = some r) : Ct E yX9_undo wsX9_undo rmX9_undo [.ref (a0 0)] [wModel E a0 (rf2 h0_0 h0_1) v0] (fun rv g => rv = some (.int r.1) ∧ g = [wModel E a0 (rf2 h0_0 h0_1) r.2]) := by
  refine ct_of (own := RX9) (by decide +kernel) rfl rfl (Nat.le_of_ble_eq_true rfl) (fun K C => ?_)
  refine ww_sub C (lv' := [(0, .ref (a0 0))]) [0] rfl ?_
  rw [Mod_undo] at hf
  refine ww_aload_n C dX9_undo_0 rfl 0 rfl ?_
  refine ww_iconst (v := 0) C dX9_undo_1 (by decide) ?_
  obtain ⟨v0_2, e_v0_2⟩ : ∃ y : ModelV, y = Model_set_thrown v0 0 := ⟨_, rfl⟩
  replace hf := ltE e_v0_2 hf
  refine ww_put C clOK9 in_X9_undo_X9 (w := wModel E a0 (rf2 h0_0 h0_1) v0) (fs := fsModel a0 (rf2 h0_0 h0_1) v0) (w' := wModel E a0 (rf2 h0_0 h0_1) v0_2) (gs' := [wModel E a0 (rf2 h0_0 h0_1) v0_2]) 0 0 5 rfl q_Model (by decide) (by decide +kernel) rfl rfl rfl rfl l_Model (by rw [e_v0_2]; exact p_Model_thrown) rfl dX9_undo_2 ?_
  refine ww_aload_n C dX9_undo_5 rfl 0 rfl ?_
  refine ww_get C clOK9 in_X9_undo_X9 (w := wModel E a0 (rf2 h0_0 h0_1) v0_2) (fs := fsModel a0 (rf2 h0_0 h0_1) v0_2) (v := .int (Model_undoCount v0_2)) 0 0 4 rfl q_Model (by decide) (by decide +kernel) g_Model_undoCount dX9_undo_6 ?_
  refine ww_if_ne (tgt := 14) C dX9_undo_9 (by decide) (fun c_1 => ?_) (fun c_1 => ?_)
  · replace hf := ifF c_1 hf
    refine ww_aload_n C dX9_undo_14 rfl 0 rfl ?_
    refine ww_dup C dX9_undo_15 rfl ?_
    refine ww_get C clOK9 in_X9_undo_X9 (w := wModel E a0 (rf2 h0_0 h0_1) v0_2) (fs := fsModel a0 (rf2 h0_0 h0_1) v0_2) (v := .int (Model_undoCount v0_2)) 0 0 4 rfl q_Model (by decide) (by decide +kernel) g_Model_undoCount dX9_undo_16 ?_
    refine ww_iconst (v := 1) C dX9_undo_19 (by decide) ?_
    refine ww_isub C dX9_undo_20 ?_
    obtain ⟨v0_21, e_v0_21⟩ : ∃ y : ModelV, y = Model_set_undoCount v0_2 ((Model_undoCount v0_2) - 1) := ⟨_, rfl⟩
    replace hf := ltE e_v0_21 hf
    refine ww_put C clOK9 in_X9_undo_X9 (w := wModel E a0 (rf2 h0_0 h0_1) v0_2) (fs := fsModel a0 (rf2 h0_0 h0_1) v0_2) (w' := wModel E a0 (rf2 h0_0 h0_1) v0_21) (gs' := [wModel E a0 (rf2 h0_0 h0_1) v0_21]) 0 0 4 rfl q_Model (by decide) (by decide +kernel) rfl rfl rfl rfl l_Model (by rw [e_v0_21]; exact p_Model_undoCount) rfl dX9_undo_21 ?_
    refine ww_aload_n C dX9_undo_24 rfl 0 rfl ?_
    refine ww_get C clOK9 in_X9_undo_X9 (w := wModel E a0 (rf2 h0_0 h0_1) v0_21) (fs := fsModel a0 (rf2 h0_0 h0_1) v0_21) (v := .ref (a0 4)) 0 0 3 rfl q_Model (by decide) (by decide +kernel) g_Model_history dX9_undo_25 ?_
    refine ww_aload_n C dX9_undo_28 rfl 0 rfl ?_
    refine ww_get C clOK9 in_X9_undo_X9 (w := wModel E a0 (rf2 h0_0 h0_1) v0_21) (fs := fsModel a0 (rf2 h0_0 h0_1) v0_21) (v := .int (Model_undoCount v0_21)) 0 0 4 rfl q_Model (by decide) (by decide +kernel) g_Model_undoCount dX9_undo_29 ?_
    refine ww_aload_n C dX9_undo_32 rfl 0 rfl ?_
    refine ww_get C clOK9 in_X9_undo_X9 (w := wModel E a0 (rf2 h0_0 h0_1) v0_21) (fs := fsModel a0 (rf2 h0_0 h0_1) v0_21) (v := .ref (a0 1)) 0 0 0 rfl q_Model (by decide) (by decide +kernel) g_Model_now dX9_undo_33 ?_
    refine ww_iconst (v := 0) C dX9_undo_36 (by decide) ?_
    obtain ⟨p37, hp37, hf⟩ := bdE hf
    obtain ⟨v0_37, e_v0_37⟩ : ∃ y : ModelV, y = Model_set_now v0_21 p37 := ⟨_, rfl⟩
    replace hf := ltE e_v0_37 hf
    refine ww_regr (gs' := [(wModel E a0 (rf2 h0_0 h0_1) v0_21).take 1, wArr E (a0 1) 172 (Model_now v0_21), ((wModel E a0 (rf2 h0_0 h0_1) v0_21).drop 2).take 2, wArr E (a0 4) 1720 (Model_history v0_21), (wModel E a0 (rf2 h0_0 h0_1) v0_21).drop 5]) rfl ?_
    refine ww_callS C (As := [.ref (a0 4), .int (Model_undoCount v0_21), .ref (a0 1), .int 0]) (st := []) (gr := [(wModel E a0 (rf2 h0_0 h0_1) v0_21).take 1, ((wModel E a0 (rf2 h0_0 h0_1) v0_21).drop 2).take 2, (wModel E a0 (rf2 h0_0 h0_1) v0_21).drop 5]) (c_X9_copy (E := E) (q0 := a0 4) (n0 := 1720) (q1 := a0 1) (n1 := 172) hp37) gX9_undo_X9_copy rfl ysk_X9_copy ⟨by decide, by decide⟩ ⟨by decide, by decide⟩ [3, 1] [0, 2, 4] 5 rfl (by decide) rfl rfl (Nat.le_of_ble_eq_true rfl) dX9_undo_37 ?_
    rintro _ _ ⟨rfl, rfl⟩
    refine ww_perm (gs' := [(wModel E a0 (rf2 h0_0 h0_1) v0_21).take 1, wArr E (a0 1) 172 p37, ((wModel E a0 (rf2 h0_0 h0_1) v0_21).drop 2).take 2, wArr E (a0 4) 1720 (Model_history v0_21), (wModel E a0 (rf2 h0_0 h0_1) v0_21).drop 5]) [2, 1, 3, 0, 4] 5 rfl (by decide) rfl ?_
    refine ww_regr (gs' := [wModel E a0 (rf2 h0_0 h0_1) v0_37]) (by rw [e_v0_37]; rfl) ?_
    refine ww_aload_n C dX9_undo_40 rfl 0 rfl ?_
    refine ww_get C clOK9 in_X9_undo_X9 (w := wModel E a0 (rf2 h0_0 h0_1) v0_37) (fs := fsModel a0 (rf2 h0_0 h0_1) v0_37) (v := .int (Model_undoCount v0_37)) 0 0 4 rfl q_Model (by decide) (by decide +kernel) g_Model_undoCount dX9_undo_41 ?_
    obtain rfl := Option.some.inj hf
    exact ww_iret C ⟨rfl, rfl⟩ dX9_undo_44
  · replace hf := ifT c_1 hf
    refine ww_iconst (v := (-1)) C dX9_undo_12 (by decide) ?_
    obtain rfl := Option.some.inj hf
    exact ww_iret C ⟨rfl, rfl⟩ dX9_undo_13

theorem yk_X9_undo : yX9_undo.cls = RX9 ∧ yX9_undo.cls ≠ "java/lang/invoke/MethodHandle" ∧ yX9_undo.cls ≠ "java/lang/invoke/VarHandle" ∧ (parseMethodDescriptor yX9_undo.desc).map (fun d => d.parameters.length) = some 0 := by decide +kernel
abbrev rmX9_saveSnapshot : Room := { frames := 1, cells := 0, slots := 0, locals := 24 }
set_option maxRecDepth 20000 in
theorem in_X9_saveSnapshot_X9 : ∀ w ∈ u_ws RX9 TX9 35, w ∈ wsX9_saveSnapshot := by decide +kernel
set_option maxHeartbeats 4000000 in
set_option maxRecDepth 100000 in
theorem c_X9_saveSnapshot {E : Ex} {a0 : Nat → Nat} {h0_0 h0_1 : Nat} {v0 : ModelV} {r : ModelV} (hf : Mod_saveSnapshot v0 = some r) : Ct E yX9_saveSnapshot wsX9_saveSnapshot rmX9_saveSnapshot [.ref (a0 0)] [wModel E a0 (rf2 h0_0 h0_1) v0] (fun rv g => rv = none ∧ g = [wModel E a0 (rf2 h0_0 h0_1) r]) := by
  refine ct_of (own := RX9) (by decide +kernel) rfl rfl (Nat.le_of_ble_eq_true rfl) (fun K C => ?_)
  refine ww_sub C (lv' := [(0, .ref (a0 0))]) [0] rfl ?_
  rw [Mod_saveSnapshot] at hf
  refine ww_aload_n C dX9_saveSnapshot_0 rfl 0 rfl ?_
  refine ww_iconst (v := 0) C dX9_saveSnapshot_1 (by decide) ?_
  obtain ⟨v0_2, e_v0_2⟩ : ∃ y : ModelV, y = Model_set_thrown v0 0 := ⟨_, rfl⟩
  replace hf := ltE e_v0_2 hf
  refine ww_put C clOK9 in_X9_saveSnapshot_X9 (w := wModel E a0 (rf2 h0_0 h0_1) v0) (fs := fsModel a0 (rf2 h0_0 h0_1) v0) (w' := wModel E a0 (rf2 h0_0 h0_1) v0_2) (gs' := [wModel E a0 (rf2 h0_0 h0_1) v0_2]) 0 0 5 rfl q_Model (by decide) (by decide +kernel) rfl rfl rfl rfl l_Model (by rw [e_v0_2]; exact p_Model_thrown) rfl dX9_saveSnapshot_2 ?_
  refine ww_aload_n C dX9_saveSnapshot_5 rfl 0 rfl ?_
  refine ww_get C clOK9 in_X9_saveSnapshot_X9 (w := wModel E a0 (rf2 h0_0 h0_1) v0_2) (fs := fsModel a0 (rf2 h0_0 h0_1) v0_2) (v := .ref (a0 1)) 0 0 0 rfl q_Model (by decide) (by decide +kernel) g_Model_now dX9_saveSnapshot_6 ?_
  refine ww_iconst (v := 0) C dX9_saveSnapshot_9 (by decide) ?_
  refine ww_aload_n C dX9_saveSnapshot_10 rfl 0 rfl ?_
  refine ww_get C clOK9 in_X9_saveSnapshot_X9 (w := wModel E a0 (rf2 h0_0 h0_1) v0_2) (fs := fsModel a0 (rf2 h0_0 h0_1) v0_2) (v := .ref (a0 3)) 0 0 2 rfl q_Model (by decide) (by decide +kernel) g_Model_snapshot dX9_saveSnapshot_11 ?_
  refine ww_iconst (v := 0) C dX9_saveSnapshot_14 (by decide) ?_
  obtain ⟨p15, hp15, hf⟩ := bdE hf
  obtain ⟨v0_15, e_v0_15⟩ : ∃ y : ModelV, y = Model_set_snapshot v0_2 p15 := ⟨_, rfl⟩
  replace hf := ltE e_v0_15 hf
  refine ww_regr (gs' := [(wModel E a0 (rf2 h0_0 h0_1) v0_2).take 1, wArr E (a0 1) 172 (Model_now v0_2), ((wModel E a0 (rf2 h0_0 h0_1) v0_2).drop 2).take 1, wArr E (a0 3) 172 (Model_snapshot v0_2), (wModel E a0 (rf2 h0_0 h0_1) v0_2).drop 4]) rfl ?_
  refine ww_callS C (As := [.ref (a0 1), .int 0, .ref (a0 3), .int 0]) (st := []) (gr := [(wModel E a0 (rf2 h0_0 h0_1) v0_2).take 1, ((wModel E a0 (rf2 h0_0 h0_1) v0_2).drop 2).take 1, (wModel E a0 (rf2 h0_0 h0_1) v0_2).drop 4]) (c_X9_copy (E := E) (q0 := a0 1) (n0 := 172) (q1 := a0 3) (n1 := 172) hp15) gX9_saveSnapshot_X9_copy rfl ysk_X9_copy ⟨by decide, by decide⟩ ⟨by decide, by decide⟩ [1, 3] [0, 2, 4] 5 rfl (by decide) rfl rfl (Nat.le_of_ble_eq_true rfl) dX9_saveSnapshot_15 ?_
  rintro _ _ ⟨rfl, rfl⟩
  refine ww_perm (gs' := [(wModel E a0 (rf2 h0_0 h0_1) v0_2).take 1, wArr E (a0 1) 172 (Model_now v0_2), ((wModel E a0 (rf2 h0_0 h0_1) v0_2).drop 2).take 1, wArr E (a0 3) 172 p15, (wModel E a0 (rf2 h0_0 h0_1) v0_2).drop 4]) [2, 0, 3, 1, 4] 5 rfl (by decide) rfl ?_
  refine ww_regr (gs' := [wModel E a0 (rf2 h0_0 h0_1) v0_15]) (by rw [e_v0_15]; rfl) ?_
  refine ww_aload_n C dX9_saveSnapshot_18 rfl 0 rfl ?_
  refine ww_iconst (v := 1) C dX9_saveSnapshot_19 (by decide) ?_
  obtain ⟨v0_20, e_v0_20⟩ : ∃ y : ModelV, y = Model_set_hasSnapshot v0_15 true := ⟨_, rfl⟩
  replace hf := ltE e_v0_20 hf
  refine ww_put C clOK9 in_X9_saveSnapshot_X9 (v := .int (b2i true)) (w := wModel E a0 (rf2 h0_0 h0_1) v0_15) (fs := fsModel a0 (rf2 h0_0 h0_1) v0_15) (w' := wModel E a0 (rf2 h0_0 h0_1) v0_20) (gs' := [wModel E a0 (rf2 h0_0 h0_1) v0_20]) 0 0 6 rfl q_Model (by decide) (by decide +kernel) rfl rfl (nar_b _) (fits_b _) l_Model (by rw [e_v0_20]; exact p_Model_hasSnapshot) rfl dX9_saveSnapshot_20 ?_
  obtain rfl := Option.some.inj hf
  exact ww_vret C ⟨rfl, rfl⟩ dX9_saveSnapshot_23

theorem yk_X9_saveSnapshot : yX9_saveSnapshot.cls = RX9 ∧ yX9_saveSnapshot.cls ≠ "java/lang/invoke/MethodHandle" ∧ yX9_saveSnapshot.cls ≠ "java/lang/invoke/VarHandle" ∧ (parseMethodDescriptor yX9_saveSnapshot.desc).map (fun d => d.parameters.length) = some 0 := by decide +kernel
abbrev rmX9_restoreSnapshot : Room := { frames := 1, cells := 0, slots := 0, locals := 24 }
set_option maxRecDepth 20000 in
theorem in_X9_restoreSnapshot_X9 : ∀ w ∈ u_ws RX9 TX9 35, w ∈ wsX9_restoreSnapshot := by decide +kernel
set_option maxHeartbeats 4000000 in
set_option maxRecDepth 100000 in
theorem c_X9_restoreSnapshot {E : Ex} {a0 : Nat → Nat} {h0_0 h0_1 : Nat} {v0 : ModelV} {r : (Bool × ModelV)} (hf : Mod_restoreSnapshot v0 = some r) : Ct E yX9_restoreSnapshot wsX9_restoreSnapshot rmX9_restoreSnapshot [.ref (a0 0)] [wModel E a0 (rf2 h0_0 h0_1) v0] (fun rv g => rv = some (.int (b2i r.1)) ∧ g = [wModel E a0 (rf2 h0_0 h0_1) r.2]) := by
  refine ct_of (own := RX9) (by decide +kernel) rfl rfl (Nat.le_of_ble_eq_true rfl) (fun K C => ?_)
  refine ww_sub C (lv' := [(0, .ref (a0 0))]) [0] rfl ?_
  rw [Mod_restoreSnapshot] at hf
  refine ww_aload_n C dX9_restoreSnapshot_0 rfl 0 rfl ?_
  refine ww_iconst (v := 0) C dX9_restoreSnapshot_1 (by decide) ?_
  obtain ⟨v0_2, e_v0_2⟩ : ∃ y : ModelV, y = Model_set_thrown v0 0 := ⟨_, rfl⟩
  replace hf := ltE e_v0_2 hf
  refine ww_put C clOK9 in_X9_restoreSnapshot_X9 (w := wModel E a0 (rf2 h0_0 h0_1) v0) (fs := fsModel a0 (rf2 h0_0 h0_1) v0) (w' := wModel E a0 (rf2 h0_0 h0_1) v0_2) (gs' := [wModel E a0 (rf2 h0_0 h0_1) v0_2]) 0 0 5 rfl q_Model (by decide) (by decide +kernel) rfl rfl rfl rfl l_Model (by rw [e_v0_2]; exact p_Model_thrown) rfl dX9_restoreSnapshot_2 ?_
  refine ww_aload_n C dX9_restoreSnapshot_5 rfl 0 rfl ?_
  refine ww_get C clOK9 in_X9_restoreSnapshot_X9 (w := wModel E a0 (rf2 h0_0 h0_1) v0_2) (fs := fsModel a0 (rf2 h0_0 h0_1) v0_2) (v := .int (b2i (Model_hasSnapshot v0_2))) 0 0 6 rfl q_Model (by decide) (by decide +kernel) g_Model_hasSnapshot dX9_restoreSnapshot_6 ?_
  refine ww_if_neB (tgt := 14) C dX9_restoreSnapshot_9 (by decide) (fun c_1 => ?_) (fun c_1 => ?_)
  · replace hf := btE c_1 hf
    refine ww_aload_n C dX9_restoreSnapshot_14 rfl 0 rfl ?_
    refine ww_get C clOK9 in_X9_restoreSnapshot_X9 (w := wModel E a0 (rf2 h0_0 h0_1) v0_2) (fs := fsModel a0 (rf2 h0_0 h0_1) v0_2) (v := .ref (a0 3)) 0 0 2 rfl q_Model (by decide) (by decide +kernel) g_Model_snapshot dX9_restoreSnapshot_15 ?_
    refine ww_iconst (v := 0) C dX9_restoreSnapshot_18 (by decide) ?_
    refine ww_aload_n C dX9_restoreSnapshot_19 rfl 0 rfl ?_
    refine ww_get C clOK9 in_X9_restoreSnapshot_X9 (w := wModel E a0 (rf2 h0_0 h0_1) v0_2) (fs := fsModel a0 (rf2 h0_0 h0_1) v0_2) (v := .ref (a0 1)) 0 0 0 rfl q_Model (by decide) (by decide +kernel) g_Model_now dX9_restoreSnapshot_20 ?_
    refine ww_iconst (v := 0) C dX9_restoreSnapshot_23 (by decide) ?_
    obtain ⟨p24, hp24, hf⟩ := bdE hf
    obtain ⟨v0_24, e_v0_24⟩ : ∃ y : ModelV, y = Model_set_now v0_2 p24 := ⟨_, rfl⟩
    replace hf := ltE e_v0_24 hf
    refine ww_regr (gs' := [(wModel E a0 (rf2 h0_0 h0_1) v0_2).take 1, wArr E (a0 1) 172 (Model_now v0_2), ((wModel E a0 (rf2 h0_0 h0_1) v0_2).drop 2).take 1, wArr E (a0 3) 172 (Model_snapshot v0_2), (wModel E a0 (rf2 h0_0 h0_1) v0_2).drop 4]) rfl ?_
    refine ww_callS C (As := [.ref (a0 3), .int 0, .ref (a0 1), .int 0]) (st := []) (gr := [(wModel E a0 (rf2 h0_0 h0_1) v0_2).take 1, ((wModel E a0 (rf2 h0_0 h0_1) v0_2).drop 2).take 1, (wModel E a0 (rf2 h0_0 h0_1) v0_2).drop 4]) (c_X9_copy (E := E) (q0 := a0 3) (n0 := 172) (q1 := a0 1) (n1 := 172) hp24) gX9_restoreSnapshot_X9_copy rfl ysk_X9_copy ⟨by decide, by decide⟩ ⟨by decide, by decide⟩ [3, 1] [0, 2, 4] 5 rfl (by decide) rfl rfl (Nat.le_of_ble_eq_true rfl) dX9_restoreSnapshot_24 ?_
    rintro _ _ ⟨rfl, rfl⟩
    refine ww_perm (gs' := [(wModel E a0 (rf2 h0_0 h0_1) v0_2).take 1, wArr E (a0 1) 172 p24, ((wModel E a0 (rf2 h0_0 h0_1) v0_2).drop 2).take 1, wArr E (a0 3) 172 (Model_snapshot v0_2), (wModel E a0 (rf2 h0_0 h0_1) v0_2).drop 4]) [2, 1, 3, 0, 4] 5 rfl (by decide) rfl ?_
    refine ww_regr (gs' := [wModel E a0 (rf2 h0_0 h0_1) v0_24]) (by rw [e_v0_24]; rfl) ?_
    refine ww_aload_n C dX9_restoreSnapshot_27 rfl 0 rfl ?_
    refine ww_iconst (v := 0) C dX9_restoreSnapshot_28 (by decide) ?_
    obtain ⟨v0_29, e_v0_29⟩ : ∃ y : ModelV, y = Model_set_undoCount v0_24 0 := ⟨_, rfl⟩
    replace hf := ltE e_v0_29 hf
    refine ww_put C clOK9 in_X9_restoreSnapshot_X9 (w := wModel E a0 (rf2 h0_0 h0_1) v0_24) (fs := fsModel a0 (rf2 h0_0 h0_1) v0_24) (w' := wModel E a0 (rf2 h0_0 h0_1) v0_29) (gs' := [wModel E a0 (rf2 h0_0 h0_1) v0_29]) 0 0 4 rfl q_Model (by decide) (by decide +kernel) rfl rfl rfl rfl l_Model (by rw [e_v0_29]; exact p_Model_undoCount) rfl dX9_restoreSnapshot_29 ?_
    refine ww_iconst (v := 1) C dX9_restoreSnapshot_32 (by decide) ?_
    obtain rfl := Option.some.inj hf
    exact ww_zret C (nar_b true) ⟨rfl, rfl⟩ dX9_restoreSnapshot_33
  · replace hf := bfE c_1 hf
    refine ww_iconst (v := 0) C dX9_restoreSnapshot_12 (by decide) ?_
    obtain rfl := Option.some.inj hf
    exact ww_zret C (nar_b false) ⟨rfl, rfl⟩ dX9_restoreSnapshot_13

theorem yk_X9_restoreSnapshot : yX9_restoreSnapshot.cls = RX9 ∧ yX9_restoreSnapshot.cls ≠ "java/lang/invoke/MethodHandle" ∧ yX9_restoreSnapshot.cls ≠ "java/lang/invoke/VarHandle" ∧ (parseMethodDescriptor yX9_restoreSnapshot.desc).map (fun d => d.parameters.length) = some 0 := by decide +kernel
abbrev rmX9_load : Room := { frames := 10, cells := 0, slots := 0, locals := 309 }
set_option maxRecDepth 20000 in
theorem in_X9_load_X9 : ∀ w ∈ u_ws RX9 TX9 35, w ∈ wsX9_load := by decide +kernel
set_option maxHeartbeats 4000000 in
set_option maxRecDepth 100000 in
theorem c_X9_load {E : Ex} {a0 : Nat → Nat} {h0_1 : Nat} {x1 : Int32} {v0 : ModelV} {r : (Int32 × ModelV)} (hf : Mod_load x1 v0 = some r) : Ct E yX9_load wsX9_load rmX9_load [.ref (a0 0), .int x1] [wModel E a0 (rf2 (a0 1) h0_1) v0] (fun rv g => rv = some (.int r.1) ∧ g = [wModel E a0 (rf2 (a0 1) h0_1) r.2]) := by
  refine ct_of (own := RX9) (by decide +kernel) rfl rfl (Nat.le_of_ble_eq_true rfl) (fun K C => ?_)
  refine ww_sub C (lv' := [(0, .ref (a0 0)), (1, .int x1)]) [0, 1] rfl ?_
  rw [Mod_load] at hf
  refine ww_aload_n C dX9_load_0 rfl 0 rfl ?_
  refine ww_iconst (v := 0) C dX9_load_1 (by decide) ?_
  obtain ⟨v0_2, e_v0_2⟩ : ∃ y : ModelV, y = Model_set_thrown v0 0 := ⟨_, rfl⟩
  replace hf := ltE e_v0_2 hf
  refine ww_put C clOK9 in_X9_load_X9 (w := wModel E a0 (rf2 (a0 1) h0_1) v0) (fs := fsModel a0 (rf2 (a0 1) h0_1) v0) (w' := wModel E a0 (rf2 (a0 1) h0_1) v0_2) (gs' := [wModel E a0 (rf2 (a0 1) h0_1) v0_2]) 0 0 5 rfl q_Model (by decide) (by decide +kernel) rfl rfl rfl rfl l_Model (by rw [e_v0_2]; exact p_Model_thrown) rfl dX9_load_2 ?_
  refine ww_iload_n C dX9_load_5 rfl 1 rfl ?_
  refine ww_iconst (v := 0) C dX9_load_6 (by decide) ?_
  refine ww_aload_n C dX9_load_7 rfl 0 rfl ?_
  refine ww_get C clOK9 in_X9_load_X9 (w := wModel E a0 (rf2 (a0 1) h0_1) v0_2) (fs := fsModel a0 (rf2 (a0 1) h0_1) v0_2) (v := .int (Model_bufferLength v0_2)) 0 0 22 rfl q_Model (by decide) (by decide +kernel) g_Model_bufferLength dX9_load_8 ?_
  obtain ⟨p11, hp11, hf⟩ := bdE hf
  refine ww_callS C (As := [.int x1, .int 0, .int (Model_bufferLength v0_2)]) (st := []) (gr := [wModel E a0 (rf2 (a0 1) h0_1) v0_2]) (c_X9_inRange (E := E)  hp11) gX9_load_X9_inRange rfl ysk_X9_inRange ⟨by decide, by decide⟩ ⟨by decide, by decide⟩ [] [0] 1 rfl (by decide) rfl rfl (Nat.le_of_ble_eq_true rfl) dX9_load_11 ?_
  rintro _ _ ⟨rfl, rfl⟩
  refine ww_perm (gs' := [wModel E a0 (rf2 (a0 1) h0_1) v0_2]) [0] 1 rfl (by decide) rfl ?_
  refine ww_if_neB (tgt := 23) C dX9_load_14 (by decide) (fun c_1 => ?_) (fun c_1 => ?_)
  · replace hf := btE c_1 hf
    refine ww_aload_n C dX9_load_23 rfl 0 rfl ?_
    refine ww_get C clOK9 in_X9_load_X9 (w := wModel E a0 (rf2 (a0 1) h0_1) v0_2) (fs := fsModel a0 (rf2 (a0 1) h0_1) v0_2) (v := .ref (a0 2)) 0 0 1 rfl q_Model (by decide) (by decide +kernel) g_Model_draft dX9_load_24 ?_
    obtain ⟨p27, hp27, hf⟩ := bdE hf
    obtain ⟨v0_27, e_v0_27⟩ : ∃ y : ModelV, y = Model_set_draft v0_2 p27 := ⟨_, rfl⟩
    replace hf := ltE e_v0_27 hf
    refine ww_regr (gs' := [(wModel E a0 (rf2 (a0 1) h0_1) v0_2).take 2, wArr E (a0 2) 172 (Model_draft v0_2), (wModel E a0 (rf2 (a0 1) h0_1) v0_2).drop 3]) rfl ?_
    refine ww_callS C (As := [.ref (a0 2)]) (st := []) (gr := [(wModel E a0 (rf2 (a0 1) h0_1) v0_2).take 2, (wModel E a0 (rf2 (a0 1) h0_1) v0_2).drop 3]) (c_X9_clear (E := E) (q0 := a0 2) hp27) gX9_load_X9_clear rfl ysk_X9_clear ⟨by decide, by decide⟩ ⟨by decide, by decide⟩ [1] [0, 2] 3 rfl (by decide) rfl rfl (Nat.le_of_ble_eq_true rfl) dX9_load_27 ?_
    rintro _ _ ⟨rfl, rfl⟩
    refine ww_perm (gs' := [(wModel E a0 (rf2 (a0 1) h0_1) v0_2).take 2, wArr E (a0 2) 172 p27, (wModel E a0 (rf2 (a0 1) h0_1) v0_2).drop 3]) [1, 0, 2] 3 rfl (by decide) rfl ?_
    refine ww_regr (gs' := [wModel E a0 (rf2 (a0 1) h0_1) v0_27]) (by rw [e_v0_27]; rfl) ?_
    refine ww_aload_n C dX9_load_30 rfl 0 rfl ?_
    refine ww_aload_n C dX9_load_31 rfl 0 rfl ?_
    refine ww_get C clOK9 in_X9_load_X9 (w := wModel E a0 (rf2 (a0 1) h0_1) v0_27) (fs := fsModel a0 (rf2 (a0 1) h0_1) v0_27) (v := .ref (a0 2)) 0 0 1 rfl q_Model (by decide) (by decide +kernel) g_Model_draft dX9_load_32 ?_
    refine ww_put C clOK9 in_X9_load_X9 (w := wModel E a0 (rf2 (a0 1) h0_1) v0_27) (fs := fsModel a0 (rf2 (a0 1) h0_1) v0_27) (w' := wModel E a0 (rf2 (a0 2) h0_1) v0_27) (gs' := [wModel E a0 (rf2 (a0 2) h0_1) v0_27]) 0 0 7 rfl q_Model (by decide) (by decide +kernel) rfl rfl rfl rfl l_Model p_Model_house rfl dX9_load_35 ?_
    refine ww_aload_n C dX9_load_38 rfl 0 rfl ?_
    refine ww_iload_n C dX9_load_39 rfl 1 rfl ?_
    obtain ⟨p40, hp40, hf⟩ := bdE hf
    refine ww_callV C (As := [.int x1]) (st := []) (gr := []) (c_X9_startText (E := E) (a0 := a0) (h0_0 := a0 2) (h0_1 := h0_1) hp40) gX9_load_X9_startText rfl yk_X9_startText ⟨by decide, by decide⟩ ⟨by decide, by decide⟩ clOK9 0 0 rfl rfl [0] [] 1 rfl (by decide) rfl rfl (Nat.le_of_ble_eq_true rfl) dX9_load_40 ?_
    rintro _ _ ⟨rfl, rfl⟩
    refine ww_perm (gs' := [wModel E a0 (rf2 (a0 2) h0_1) p40]) [0] 1 rfl (by decide) rfl ?_
    refine ww_aload_n C dX9_load_43 rfl 0 rfl ?_
    obtain ⟨p44, hp44, hf⟩ := bdE hf
    refine ww_callV C (As := []) (st := []) (gr := []) (c_X9_readAll (E := E) (a0 := a0) (h0_1 := h0_1) hp44) gX9_load_X9_readAll rfl yk_X9_readAll ⟨by decide, by decide⟩ ⟨by decide, by decide⟩ clOK9 0 0 rfl rfl [0] [] 1 rfl (by decide) rfl rfl (Nat.le_of_ble_eq_true rfl) dX9_load_44 ?_
    rintro _ _ ⟨rfl, rfl⟩
    refine ww_perm (gs' := [wModel E a0 (rf2 (a0 2) h0_1) p44]) [0] 1 rfl (by decide) rfl ?_
    refine ww_aload_n C dX9_load_47 rfl 0 rfl ?_
    refine ww_aload_n C dX9_load_48 rfl 0 rfl ?_
    refine ww_get C clOK9 in_X9_load_X9 (w := wModel E a0 (rf2 (a0 2) h0_1) p44) (fs := fsModel a0 (rf2 (a0 2) h0_1) p44) (v := .ref (a0 1)) 0 0 0 rfl q_Model (by decide) (by decide +kernel) g_Model_now dX9_load_49 ?_
    refine ww_put C clOK9 in_X9_load_X9 (w := wModel E a0 (rf2 (a0 2) h0_1) p44) (fs := fsModel a0 (rf2 (a0 2) h0_1) p44) (w' := wModel E a0 (rf2 (a0 1) h0_1) p44) (gs' := [wModel E a0 (rf2 (a0 1) h0_1) p44]) 0 0 7 rfl q_Model (by decide) (by decide +kernel) rfl rfl rfl rfl l_Model p_Model_house rfl dX9_load_52 ?_
    refine ww_aload_n C dX9_load_55 rfl 0 rfl ?_
    obtain ⟨p56, hp56, hf⟩ := bdE hf
    refine ww_callV C (As := []) (st := []) (gr := []) (c_X9_finish (E := E) (a0 := a0) (h0_0 := a0 1) (h0_1 := h0_1) hp56) gX9_load_X9_finish rfl yk_X9_finish ⟨by decide, by decide⟩ ⟨by decide, by decide⟩ clOK9 0 0 rfl rfl [0] [] 1 rfl (by decide) rfl rfl (Nat.le_of_ble_eq_true rfl) dX9_load_56 ?_
    rintro _ _ ⟨rfl, rfl⟩
    refine ww_perm (gs' := [wModel E a0 (rf2 (a0 1) h0_1) p56.2]) [0] 1 rfl (by decide) rfl ?_
    refine ww_if_eq (tgt := 70) C dX9_load_59 (by decide) (fun c_2 => ?_) (fun c_2 => ?_)
    · replace hf := ifT c_2 hf
      refine ww_aload_n C dX9_load_70 rfl 0 rfl ?_
      refine ww_get C clOK9 in_X9_load_X9 (w := wModel E a0 (rf2 (a0 1) h0_1) p56.2) (fs := fsModel a0 (rf2 (a0 1) h0_1) p56.2) (v := .ref (a0 2)) 0 0 1 rfl q_Model (by decide) (by decide +kernel) g_Model_draft dX9_load_71 ?_
      refine ww_iconst (v := 0) C dX9_load_74 (by decide) ?_
      refine ww_aload_n C dX9_load_75 rfl 0 rfl ?_
      refine ww_get C clOK9 in_X9_load_X9 (w := wModel E a0 (rf2 (a0 1) h0_1) p56.2) (fs := fsModel a0 (rf2 (a0 1) h0_1) p56.2) (v := .ref (a0 1)) 0 0 0 rfl q_Model (by decide) (by decide +kernel) g_Model_now dX9_load_76 ?_
      refine ww_iconst (v := 0) C dX9_load_79 (by decide) ?_
      obtain ⟨p80, hp80, hf⟩ := bdE hf
      obtain ⟨v0_80, e_v0_80⟩ : ∃ y : ModelV, y = Model_set_now p56.2 p80 := ⟨_, rfl⟩
      replace hf := ltE e_v0_80 hf
      refine ww_regr (gs' := [(wModel E a0 (rf2 (a0 1) h0_1) p56.2).take 1, wArr E (a0 1) 172 (Model_now p56.2), ((wModel E a0 (rf2 (a0 1) h0_1) p56.2).drop 2).take 0, wArr E (a0 2) 172 (Model_draft p56.2), (wModel E a0 (rf2 (a0 1) h0_1) p56.2).drop 3]) rfl ?_
      refine ww_callS C (As := [.ref (a0 2), .int 0, .ref (a0 1), .int 0]) (st := []) (gr := [(wModel E a0 (rf2 (a0 1) h0_1) p56.2).take 1, ((wModel E a0 (rf2 (a0 1) h0_1) p56.2).drop 2).take 0, (wModel E a0 (rf2 (a0 1) h0_1) p56.2).drop 3]) (c_X9_copy (E := E) (q0 := a0 2) (n0 := 172) (q1 := a0 1) (n1 := 172) hp80) gX9_load_X9_copy rfl ysk_X9_copy ⟨by decide, by decide⟩ ⟨by decide, by decide⟩ [3, 1] [0, 2, 4] 5 rfl (by decide) rfl rfl (Nat.le_of_ble_eq_true rfl) dX9_load_80 ?_
      rintro _ _ ⟨rfl, rfl⟩
      refine ww_perm (gs' := [(wModel E a0 (rf2 (a0 1) h0_1) p56.2).take 1, wArr E (a0 1) 172 p80, ((wModel E a0 (rf2 (a0 1) h0_1) p56.2).drop 2).take 0, wArr E (a0 2) 172 (Model_draft p56.2), (wModel E a0 (rf2 (a0 1) h0_1) p56.2).drop 3]) [2, 1, 3, 0, 4] 5 rfl (by decide) rfl ?_
      refine ww_regr (gs' := [wModel E a0 (rf2 (a0 1) h0_1) v0_80]) (by rw [e_v0_80]; rfl) ?_
      refine ww_aload_n C dX9_load_83 rfl 0 rfl ?_
      refine ww_iconst (v := 0) C dX9_load_84 (by decide) ?_
      obtain ⟨v0_85, e_v0_85⟩ : ∃ y : ModelV, y = Model_set_undoCount v0_80 0 := ⟨_, rfl⟩
      replace hf := ltE e_v0_85 hf
      refine ww_put C clOK9 in_X9_load_X9 (w := wModel E a0 (rf2 (a0 1) h0_1) v0_80) (fs := fsModel a0 (rf2 (a0 1) h0_1) v0_80) (w' := wModel E a0 (rf2 (a0 1) h0_1) v0_85) (gs' := [wModel E a0 (rf2 (a0 1) h0_1) v0_85]) 0 0 4 rfl q_Model (by decide) (by decide +kernel) rfl rfl rfl rfl l_Model (by rw [e_v0_85]; exact p_Model_undoCount) rfl dX9_load_85 ?_
      refine ww_aload_n C dX9_load_88 rfl 0 rfl ?_
      refine ww_iconst (v := 0) C dX9_load_89 (by decide) ?_
      obtain ⟨v0_90, e_v0_90⟩ : ∃ y : ModelV, y = Model_set_hasSnapshot v0_85 false := ⟨_, rfl⟩
      replace hf := ltE e_v0_90 hf
      refine ww_put C clOK9 in_X9_load_X9 (v := .int (b2i false)) (w := wModel E a0 (rf2 (a0 1) h0_1) v0_85) (fs := fsModel a0 (rf2 (a0 1) h0_1) v0_85) (w' := wModel E a0 (rf2 (a0 1) h0_1) v0_90) (gs' := [wModel E a0 (rf2 (a0 1) h0_1) v0_90]) 0 0 6 rfl q_Model (by decide) (by decide +kernel) rfl rfl (nar_b _) (fits_b _) l_Model (by rw [e_v0_90]; exact p_Model_hasSnapshot) rfl dX9_load_90 ?_
      refine ww_aload_n C dX9_load_93 rfl 0 rfl ?_
      obtain ⟨p94, hp94, hf⟩ := bdE hf
      refine ww_callV C (As := []) (st := []) (gr := []) (c_X9_rooms (E := E) (a0 := a0) (h0_1 := h0_1) hp94) gX9_load_X9_rooms rfl yk_X9_rooms ⟨by decide, by decide⟩ ⟨by decide, by decide⟩ clOK9 0 0 rfl rfl [0] [] 1 rfl (by decide) rfl rfl (Nat.le_of_ble_eq_true rfl) dX9_load_94 ?_
      rintro _ _ ⟨rfl, rfl⟩
      refine ww_perm (gs' := [wModel E a0 (rf2 (a0 1) h0_1) v0_90]) [0] 1 rfl (by decide) rfl ?_
      obtain rfl := Option.some.inj hf
      exact ww_iret C ⟨rfl, rfl⟩ dX9_load_97
    · replace hf := ifF c_2 hf
      refine ww_bipush (v := (-10)) C dX9_load_62 (by decide) ?_
      refine ww_aload_n C dX9_load_64 rfl 0 rfl ?_
      refine ww_get C clOK9 in_X9_load_X9 (w := wModel E a0 (rf2 (a0 1) h0_1) p56.2) (fs := fsModel a0 (rf2 (a0 1) h0_1) p56.2) (v := .int (Model_error p56.2)) 0 0 27 rfl q_Model (by decide) (by decide +kernel) g_Model_error dX9_load_65 ?_
      refine ww_isub C dX9_load_68 ?_
      obtain rfl := Option.some.inj hf
      exact ww_iret C ⟨rfl, rfl⟩ dX9_load_69
  · replace hf := bfE c_1 hf
    refine ww_aload_n C dX9_load_17 rfl 0 rfl ?_
    refine ww_iconst (v := 1) C dX9_load_18 (by decide) ?_
    obtain ⟨p19, hp19, hf⟩ := bdE hf
    refine ww_callV C (As := [.int 1]) (st := []) (gr := []) (c_X9_raise (E := E) (a0 := a0) (h0_0 := a0 1) (h0_1 := h0_1) hp19) gX9_load_X9_raise rfl yk_X9_raise ⟨by decide, by decide⟩ ⟨by decide, by decide⟩ clOK9 0 0 rfl rfl [0] [] 1 rfl (by decide) rfl rfl (Nat.le_of_ble_eq_true rfl) dX9_load_19 ?_
    rintro _ _ ⟨rfl, rfl⟩
    refine ww_perm (gs' := [wModel E a0 (rf2 (a0 1) h0_1) p19.2]) [0] 1 rfl (by decide) rfl ?_
    obtain rfl := Option.some.inj hf
    exact ww_iret C ⟨rfl, rfl⟩ dX9_load_22

theorem yk_X9_load : yX9_load.cls = RX9 ∧ yX9_load.cls ≠ "java/lang/invoke/MethodHandle" ∧ yX9_load.cls ≠ "java/lang/invoke/VarHandle" ∧ (parseMethodDescriptor yX9_load.desc).map (fun d => d.parameters.length) = some 1 := by decide +kernel
abbrev rmX9_change : Room := { frames := 8, cells := 0, slots := 0, locals := 269 }
set_option maxRecDepth 20000 in
theorem in_X9_change_X9 : ∀ w ∈ u_ws RX9 TX9 35, w ∈ wsX9_change := by decide +kernel
set_option maxHeartbeats 4000000 in
set_option maxRecDepth 100000 in
theorem w_X9_change_101 {E : Ex} {K : Kx} (C : Cx E K cX9_change 3 (some .int) RX9 wsX9_change rmX9_change) {a0 : Nat → Nat} {h0_1 : Nat} {x1 : Int32}  {s0 : Int32} {v0 : ModelV} {r : (Int32 × ModelV)} (hf : Mod_change_101 x1 s0 v0 = some r) : WW E K 0 0 (QQ E K (fun rv g => rv = some (.int r.1) ∧ g = [wModel E a0 (rf2 (a0 1) h0_1) r.2]) 0 0) 101 [(0, .ref (a0 0))] [.int s0, .ref (a0 0)] [wModel E a0 (rf2 (a0 2) h0_1) v0] := by
  rw [Mod_change_101] at hf
  refine ww_iconst (v := 1) C dX9_change_101 (by decide) ?_
  obtain ⟨z_5, e_z_5, hf⟩ := asBE hf
  rw [e_z_5]
  obtain ⟨p102, hp102, hf⟩ := bdE hf
  refine ww_callV C (As := [.int (b2i z_5), .int 1]) (st := []) (gr := []) (c_X9_check (E := E) (a0 := a0) (h0_0 := a0 2) (h0_1 := h0_1) hp102) gX9_change_X9_check rfl yk_X9_check ⟨by decide, by decide⟩ ⟨by decide, by decide⟩ clOK9 0 0 rfl rfl [0] [] 1 rfl (by decide) rfl rfl (Nat.le_of_ble_eq_true rfl) dX9_change_102 ?_
  rintro _ _ ⟨rfl, rfl⟩
  refine ww_perm (gs' := [wModel E a0 (rf2 (a0 2) h0_1) p102]) [0] 1 rfl (by decide) rfl ?_
  refine ww_aload_n C dX9_change_105 rfl 0 rfl ?_
  refine ww_aload_n C dX9_change_106 rfl 0 rfl ?_
  refine ww_get C clOK9 in_X9_change_X9 (w := wModel E a0 (rf2 (a0 2) h0_1) p102) (fs := fsModel a0 (rf2 (a0 2) h0_1) p102) (v := .ref (a0 1)) 0 0 0 rfl q_Model (by decide) (by decide +kernel) g_Model_now dX9_change_107 ?_
  refine ww_put C clOK9 in_X9_change_X9 (w := wModel E a0 (rf2 (a0 2) h0_1) p102) (fs := fsModel a0 (rf2 (a0 2) h0_1) p102) (w' := wModel E a0 (rf2 (a0 1) h0_1) p102) (gs' := [wModel E a0 (rf2 (a0 1) h0_1) p102]) 0 0 7 rfl q_Model (by decide) (by decide +kernel) rfl rfl rfl rfl l_Model p_Model_house rfl dX9_change_110 ?_
  refine ww_aload_n C dX9_change_113 rfl 0 rfl ?_
  obtain ⟨p114, hp114, hf⟩ := bdE hf
  refine ww_callV C (As := []) (st := []) (gr := []) (c_X9_finish (E := E) (a0 := a0) (h0_0 := a0 1) (h0_1 := h0_1) hp114) gX9_change_X9_finish rfl yk_X9_finish ⟨by decide, by decide⟩ ⟨by decide, by decide⟩ clOK9 0 0 rfl rfl [0] [] 1 rfl (by decide) rfl rfl (Nat.le_of_ble_eq_true rfl) dX9_change_114 ?_
  rintro _ _ ⟨rfl, rfl⟩
  refine ww_perm (gs' := [wModel E a0 (rf2 (a0 1) h0_1) p114.2]) [0] 1 rfl (by decide) rfl ?_
  refine ww_if_eq (tgt := 128) C dX9_change_117 (by decide) (fun c_6 => ?_) (fun c_6 => ?_)
  · replace hf := ifT c_6 hf
    refine ww_aload_n C dX9_change_128 rfl 0 rfl ?_
    obtain ⟨p129, hp129, hf⟩ := bdE hf
    refine ww_callV C (As := []) (st := []) (gr := []) (c_X9_record (E := E) (a0 := a0) (h0_0 := a0 1) (h0_1 := h0_1) hp129) gX9_change_X9_record rfl yk_X9_record ⟨by decide, by decide⟩ ⟨by decide, by decide⟩ clOK9 0 0 rfl rfl [0] [] 1 rfl (by decide) rfl rfl (Nat.le_of_ble_eq_true rfl) dX9_change_129 ?_
    rintro _ _ ⟨rfl, rfl⟩
    refine ww_perm (gs' := [wModel E a0 (rf2 (a0 1) h0_1) p129]) [0] 1 rfl (by decide) rfl ?_
    refine ww_aload_n C dX9_change_132 rfl 0 rfl ?_
    refine ww_get C clOK9 in_X9_change_X9 (w := wModel E a0 (rf2 (a0 1) h0_1) p129) (fs := fsModel a0 (rf2 (a0 1) h0_1) p129) (v := .ref (a0 2)) 0 0 1 rfl q_Model (by decide) (by decide +kernel) g_Model_draft dX9_change_133 ?_
    refine ww_iconst (v := 0) C dX9_change_136 (by decide) ?_
    refine ww_aload_n C dX9_change_137 rfl 0 rfl ?_
    refine ww_get C clOK9 in_X9_change_X9 (w := wModel E a0 (rf2 (a0 1) h0_1) p129) (fs := fsModel a0 (rf2 (a0 1) h0_1) p129) (v := .ref (a0 1)) 0 0 0 rfl q_Model (by decide) (by decide +kernel) g_Model_now dX9_change_138 ?_
    refine ww_iconst (v := 0) C dX9_change_141 (by decide) ?_
    obtain ⟨p142, hp142, hf⟩ := bdE hf
    obtain ⟨v0_142, e_v0_142⟩ : ∃ y : ModelV, y = Model_set_now p129 p142 := ⟨_, rfl⟩
    replace hf := ltE e_v0_142 hf
    refine ww_regr (gs' := [(wModel E a0 (rf2 (a0 1) h0_1) p129).take 1, wArr E (a0 1) 172 (Model_now p129), ((wModel E a0 (rf2 (a0 1) h0_1) p129).drop 2).take 0, wArr E (a0 2) 172 (Model_draft p129), (wModel E a0 (rf2 (a0 1) h0_1) p129).drop 3]) rfl ?_
    refine ww_callS C (As := [.ref (a0 2), .int 0, .ref (a0 1), .int 0]) (st := []) (gr := [(wModel E a0 (rf2 (a0 1) h0_1) p129).take 1, ((wModel E a0 (rf2 (a0 1) h0_1) p129).drop 2).take 0, (wModel E a0 (rf2 (a0 1) h0_1) p129).drop 3]) (c_X9_copy (E := E) (q0 := a0 2) (n0 := 172) (q1 := a0 1) (n1 := 172) hp142) gX9_change_X9_copy rfl ysk_X9_copy ⟨by decide, by decide⟩ ⟨by decide, by decide⟩ [3, 1] [0, 2, 4] 5 rfl (by decide) rfl rfl (Nat.le_of_ble_eq_true rfl) dX9_change_142 ?_
    rintro _ _ ⟨rfl, rfl⟩
    refine ww_perm (gs' := [(wModel E a0 (rf2 (a0 1) h0_1) p129).take 1, wArr E (a0 1) 172 p142, ((wModel E a0 (rf2 (a0 1) h0_1) p129).drop 2).take 0, wArr E (a0 2) 172 (Model_draft p129), (wModel E a0 (rf2 (a0 1) h0_1) p129).drop 3]) [2, 1, 3, 0, 4] 5 rfl (by decide) rfl ?_
    refine ww_regr (gs' := [wModel E a0 (rf2 (a0 1) h0_1) v0_142]) (by rw [e_v0_142]; rfl) ?_
    refine ww_aload_n C dX9_change_145 rfl 0 rfl ?_
    obtain ⟨p146, hp146, hf⟩ := bdE hf
    refine ww_callV C (As := []) (st := []) (gr := []) (c_X9_cycle (E := E) (a0 := a0) (h0_1 := h0_1) hp146) gX9_change_X9_cycle rfl yk_X9_cycle ⟨by decide, by decide⟩ ⟨by decide, by decide⟩ clOK9 0 0 rfl rfl [0] [] 1 rfl (by decide) rfl rfl (Nat.le_of_ble_eq_true rfl) dX9_change_146 ?_
    rintro _ _ ⟨rfl, rfl⟩
    refine ww_perm (gs' := [wModel E a0 (rf2 (a0 1) h0_1) v0_142]) [0] 1 rfl (by decide) rfl ?_
    obtain rfl := Option.some.inj hf
    exact ww_iret C ⟨rfl, rfl⟩ dX9_change_149
  · replace hf := ifF c_6 hf
    refine ww_bipush (v := (-10)) C dX9_change_120 (by decide) ?_
    refine ww_aload_n C dX9_change_122 rfl 0 rfl ?_
    refine ww_get C clOK9 in_X9_change_X9 (w := wModel E a0 (rf2 (a0 1) h0_1) p114.2) (fs := fsModel a0 (rf2 (a0 1) h0_1) p114.2) (v := .int (Model_error p114.2)) 0 0 27 rfl q_Model (by decide) (by decide +kernel) g_Model_error dX9_change_123 ?_
    refine ww_isub C dX9_change_126 ?_
    obtain rfl := Option.some.inj hf
    exact ww_iret C ⟨rfl, rfl⟩ dX9_change_127

set_option maxHeartbeats 4000000 in
set_option maxRecDepth 100000 in
theorem w_X9_change_96 {E : Ex} {K : Kx} (C : Cx E K cX9_change 3 (some .int) RX9 wsX9_change rmX9_change) {a0 : Nat → Nat} {h0_1 : Nat} {x1 : Int32}  {v0 : ModelV} {r : (Int32 × ModelV)} (hf : Mod_change_96 x1 v0 = some r) : WW E K 0 0 (QQ E K (fun rv g => rv = some (.int r.1) ∧ g = [wModel E a0 (rf2 (a0 1) h0_1) r.2]) 0 0) 96 [(0, .ref (a0 0))] [.ref (a0 0)] [wModel E a0 (rf2 (a0 2) h0_1) v0] := by
  rw [Mod_change_96] at hf
  refine ww_iconst (v := 1) C dX9_change_96 (by decide) ?_
  refine ww_goto (tgt := 101) C dX9_change_97 (by decide) ?_
  refine ww_sub C (lv' := [(0, .ref (a0 0))]) [0] rfl ?_
  exact w_X9_change_101 C hf

set_option maxHeartbeats 4000000 in
set_option maxRecDepth 100000 in
theorem w_X9_change_81 {E : Ex} {K : Kx} (C : Cx E K cX9_change 3 (some .int) RX9 wsX9_change rmX9_change) {a0 : Nat → Nat} {h0_1 : Nat} {x1 : Int32}  {v0 : ModelV} {r : (Int32 × ModelV)} (hf : Mod_change_81 x1 v0 = some r) : WW E K 0 0 (QQ E K (fun rv g => rv = some (.int r.1) ∧ g = [wModel E a0 (rf2 (a0 1) h0_1) r.2]) 0 0) 81 [(0, .ref (a0 0))] [] [wModel E a0 (rf2 (a0 2) h0_1) v0] := by
  rw [Mod_change_81] at hf
  refine ww_aload_n C dX9_change_81 rfl 0 rfl ?_
  refine ww_aload_n C dX9_change_82 rfl 0 rfl ?_
  refine ww_get C clOK9 in_X9_change_X9 (w := wModel E a0 (rf2 (a0 2) h0_1) v0) (fs := fsModel a0 (rf2 (a0 2) h0_1) v0) (v := .int (Model_error v0)) 0 0 27 rfl q_Model (by decide) (by decide +kernel) g_Model_error dX9_change_83 ?_
  refine ww_if_ne (tgt := 96) C dX9_change_86 (by decide) (fun c_3 => ?_) (fun c_3 => ?_)
  · replace hf := ifF c_3 hf
    refine ww_sub C (lv' := [(0, .ref (a0 0))]) [0] rfl ?_
    exact w_X9_change_96 C hf
  · replace hf := ifT c_3 hf
    refine ww_aload_n C dX9_change_89 rfl 0 rfl ?_
    refine ww_get C clOK9 in_X9_change_X9 (w := wModel E a0 (rf2 (a0 2) h0_1) v0) (fs := fsModel a0 (rf2 (a0 2) h0_1) v0) (v := .int (Model_token v0)) 0 0 26 rfl q_Model (by decide) (by decide +kernel) g_Model_token dX9_change_90 ?_
    refine ww_if_ne (tgt := 100) C dX9_change_93 (by decide) (fun c_4 => ?_) (fun c_4 => ?_)
    · replace hf := ifF c_4 hf
      refine ww_iconst (v := 0) C dX9_change_100 (by decide) ?_
      refine ww_sub C (lv' := [(0, .ref (a0 0))]) [0] rfl ?_
      exact w_X9_change_101 C hf
    · replace hf := ifT c_4 hf
      refine ww_sub C (lv' := [(0, .ref (a0 0))]) [0] rfl ?_
      exact w_X9_change_96 C hf

set_option maxHeartbeats 4000000 in
set_option maxRecDepth 100000 in
theorem c_X9_change {E : Ex} {a0 : Nat → Nat} {h0_1 : Nat} {x1 : Int32} {v0 : ModelV} {r : (Int32 × ModelV)} (hf : Mod_change x1 v0 = some r) : Ct E yX9_change wsX9_change rmX9_change [.ref (a0 0), .int x1] [wModel E a0 (rf2 (a0 1) h0_1) v0] (fun rv g => rv = some (.int r.1) ∧ g = [wModel E a0 (rf2 (a0 1) h0_1) r.2]) := by
  refine ct_of (own := RX9) (by decide +kernel) rfl rfl (Nat.le_of_ble_eq_true rfl) (fun K C => ?_)
  refine ww_sub C (lv' := [(0, .ref (a0 0)), (1, .int x1)]) [0, 1] rfl ?_
  rw [Mod_change] at hf
  refine ww_aload_n C dX9_change_0 rfl 0 rfl ?_
  refine ww_iconst (v := 0) C dX9_change_1 (by decide) ?_
  obtain ⟨v0_2, e_v0_2⟩ : ∃ y : ModelV, y = Model_set_thrown v0 0 := ⟨_, rfl⟩
  replace hf := ltE e_v0_2 hf
  refine ww_put C clOK9 in_X9_change_X9 (w := wModel E a0 (rf2 (a0 1) h0_1) v0) (fs := fsModel a0 (rf2 (a0 1) h0_1) v0) (w' := wModel E a0 (rf2 (a0 1) h0_1) v0_2) (gs' := [wModel E a0 (rf2 (a0 1) h0_1) v0_2]) 0 0 5 rfl q_Model (by decide) (by decide +kernel) rfl rfl rfl rfl l_Model (by rw [e_v0_2]; exact p_Model_thrown) rfl dX9_change_2 ?_
  refine ww_iload_n C dX9_change_5 rfl 1 rfl ?_
  refine ww_iconst (v := 0) C dX9_change_6 (by decide) ?_
  refine ww_aload_n C dX9_change_7 rfl 0 rfl ?_
  refine ww_get C clOK9 in_X9_change_X9 (w := wModel E a0 (rf2 (a0 1) h0_1) v0_2) (fs := fsModel a0 (rf2 (a0 1) h0_1) v0_2) (v := .int (Model_bufferLength v0_2)) 0 0 22 rfl q_Model (by decide) (by decide +kernel) g_Model_bufferLength dX9_change_8 ?_
  obtain ⟨p11, hp11, hf⟩ := bdE hf
  refine ww_callS C (As := [.int x1, .int 0, .int (Model_bufferLength v0_2)]) (st := []) (gr := [wModel E a0 (rf2 (a0 1) h0_1) v0_2]) (c_X9_inRange (E := E)  hp11) gX9_change_X9_inRange rfl ysk_X9_inRange ⟨by decide, by decide⟩ ⟨by decide, by decide⟩ [] [0] 1 rfl (by decide) rfl rfl (Nat.le_of_ble_eq_true rfl) dX9_change_11 ?_
  rintro _ _ ⟨rfl, rfl⟩
  refine ww_perm (gs' := [wModel E a0 (rf2 (a0 1) h0_1) v0_2]) [0] 1 rfl (by decide) rfl ?_
  refine ww_if_neB (tgt := 23) C dX9_change_14 (by decide) (fun c_1 => ?_) (fun c_1 => ?_)
  · replace hf := btE c_1 hf
    refine ww_aload_n C dX9_change_23 rfl 0 rfl ?_
    refine ww_get C clOK9 in_X9_change_X9 (w := wModel E a0 (rf2 (a0 1) h0_1) v0_2) (fs := fsModel a0 (rf2 (a0 1) h0_1) v0_2) (v := .ref (a0 1)) 0 0 0 rfl q_Model (by decide) (by decide +kernel) g_Model_now dX9_change_24 ?_
    refine ww_iconst (v := 0) C dX9_change_27 (by decide) ?_
    refine ww_aload_n C dX9_change_28 rfl 0 rfl ?_
    refine ww_get C clOK9 in_X9_change_X9 (w := wModel E a0 (rf2 (a0 1) h0_1) v0_2) (fs := fsModel a0 (rf2 (a0 1) h0_1) v0_2) (v := .ref (a0 2)) 0 0 1 rfl q_Model (by decide) (by decide +kernel) g_Model_draft dX9_change_29 ?_
    refine ww_iconst (v := 0) C dX9_change_32 (by decide) ?_
    obtain ⟨p33, hp33, hf⟩ := bdE hf
    obtain ⟨v0_33, e_v0_33⟩ : ∃ y : ModelV, y = Model_set_draft v0_2 p33 := ⟨_, rfl⟩
    replace hf := ltE e_v0_33 hf
    refine ww_regr (gs' := [(wModel E a0 (rf2 (a0 1) h0_1) v0_2).take 1, wArr E (a0 1) 172 (Model_now v0_2), ((wModel E a0 (rf2 (a0 1) h0_1) v0_2).drop 2).take 0, wArr E (a0 2) 172 (Model_draft v0_2), (wModel E a0 (rf2 (a0 1) h0_1) v0_2).drop 3]) rfl ?_
    refine ww_callS C (As := [.ref (a0 1), .int 0, .ref (a0 2), .int 0]) (st := []) (gr := [(wModel E a0 (rf2 (a0 1) h0_1) v0_2).take 1, ((wModel E a0 (rf2 (a0 1) h0_1) v0_2).drop 2).take 0, (wModel E a0 (rf2 (a0 1) h0_1) v0_2).drop 3]) (c_X9_copy (E := E) (q0 := a0 1) (n0 := 172) (q1 := a0 2) (n1 := 172) hp33) gX9_change_X9_copy rfl ysk_X9_copy ⟨by decide, by decide⟩ ⟨by decide, by decide⟩ [1, 3] [0, 2, 4] 5 rfl (by decide) rfl rfl (Nat.le_of_ble_eq_true rfl) dX9_change_33 ?_
    rintro _ _ ⟨rfl, rfl⟩
    refine ww_perm (gs' := [(wModel E a0 (rf2 (a0 1) h0_1) v0_2).take 1, wArr E (a0 1) 172 (Model_now v0_2), ((wModel E a0 (rf2 (a0 1) h0_1) v0_2).drop 2).take 0, wArr E (a0 2) 172 p33, (wModel E a0 (rf2 (a0 1) h0_1) v0_2).drop 3]) [2, 0, 3, 1, 4] 5 rfl (by decide) rfl ?_
    refine ww_regr (gs' := [wModel E a0 (rf2 (a0 1) h0_1) v0_33]) (by rw [e_v0_33]; rfl) ?_
    refine ww_aload_n C dX9_change_36 rfl 0 rfl ?_
    refine ww_aload_n C dX9_change_37 rfl 0 rfl ?_
    refine ww_get C clOK9 in_X9_change_X9 (w := wModel E a0 (rf2 (a0 1) h0_1) v0_33) (fs := fsModel a0 (rf2 (a0 1) h0_1) v0_33) (v := .ref (a0 2)) 0 0 1 rfl q_Model (by decide) (by decide +kernel) g_Model_draft dX9_change_38 ?_
    refine ww_put C clOK9 in_X9_change_X9 (w := wModel E a0 (rf2 (a0 1) h0_1) v0_33) (fs := fsModel a0 (rf2 (a0 1) h0_1) v0_33) (w' := wModel E a0 (rf2 (a0 2) h0_1) v0_33) (gs' := [wModel E a0 (rf2 (a0 2) h0_1) v0_33]) 0 0 7 rfl q_Model (by decide) (by decide +kernel) rfl rfl rfl rfl l_Model p_Model_house rfl dX9_change_41 ?_
    refine ww_aload_n C dX9_change_44 rfl 0 rfl ?_
    refine ww_iload_n C dX9_change_45 rfl 1 rfl ?_
    obtain ⟨p46, hp46, hf⟩ := bdE hf
    refine ww_callV C (As := [.int x1]) (st := []) (gr := []) (c_X9_startText (E := E) (a0 := a0) (h0_0 := a0 2) (h0_1 := h0_1) hp46) gX9_change_X9_startText rfl yk_X9_startText ⟨by decide, by decide⟩ ⟨by decide, by decide⟩ clOK9 0 0 rfl rfl [0] [] 1 rfl (by decide) rfl rfl (Nat.le_of_ble_eq_true rfl) dX9_change_46 ?_
    rintro _ _ ⟨rfl, rfl⟩
    refine ww_perm (gs' := [wModel E a0 (rf2 (a0 2) h0_1) p46]) [0] 1 rfl (by decide) rfl ?_
    refine ww_aload_n C dX9_change_49 rfl 0 rfl ?_
    refine ww_ldcSw C (i := 48) rfl dX9_change_50 ?_
    obtain ⟨p53, hp53, hf⟩ := bdE hf
    refine ww_callV C (As := [.ref (eK E 48)]) (st := []) (gr := []) (c_X9_expectWord (E := E) (a0 := a0) (h0_0 := a0 2) (h0_1 := h0_1) hp53) gX9_change_X9_expectWord rfl yk_X9_expectWord ⟨by decide, by decide⟩ ⟨by decide, by decide⟩ clOK9 0 0 rfl rfl [0] [] 1 rfl (by decide) rfl rfl (Nat.le_of_ble_eq_true rfl) dX9_change_53 ?_
    rintro _ _ ⟨rfl, rfl⟩
    refine ww_perm (gs' := [wModel E a0 (rf2 (a0 2) h0_1) p53]) [0] 1 rfl (by decide) rfl ?_
    refine ww_aload_n C dX9_change_56 rfl 0 rfl ?_
    refine ww_iconst (v := 0) C dX9_change_57 (by decide) ?_
    refine ww_aload_n C dX9_change_58 rfl 0 rfl ?_
    obtain ⟨p59, hp59, hf⟩ := bdE hf
    refine ww_callV C (As := []) (st := [.int 0, .ref (a0 0)]) (gr := []) (c_X9_guards_D (E := E) (a0 := a0) (h0_1 := h0_1) hp59) gX9_change_X9_guards rfl yk_X9_guards ⟨by decide, by decide⟩ ⟨by decide, by decide⟩ clOK9 0 0 rfl rfl [0] [] 1 rfl (by decide) rfl rfl (Nat.le_of_ble_eq_true rfl) dX9_change_59 ?_
    rintro _ _ ⟨rfl, rfl⟩
    refine ww_perm (gs' := [wModel E a0 (rf2 (a0 2) h0_1) p53]) [0] 1 rfl (by decide) rfl ?_
    refine ww_iconst (v := 1) C dX9_change_62 (by decide) ?_
    refine ww_isub C dX9_change_63 ?_
    obtain ⟨p64, hp64, hf⟩ := bdE hf
    refine ww_callV C (As := [.int 0, .int (p59 - 1)]) (st := []) (gr := []) (c_X9_readNumber (E := E) (a0 := a0) (h0_0 := a0 2) (h0_1 := h0_1) hp64) gX9_change_X9_readNumber rfl yk_X9_readNumber ⟨by decide, by decide⟩ ⟨by decide, by decide⟩ clOK9 0 0 rfl rfl [0] [] 1 rfl (by decide) rfl rfl (Nat.le_of_ble_eq_true rfl) dX9_change_64 ?_
    rintro _ _ ⟨rfl, rfl⟩
    refine ww_perm (gs' := [wModel E a0 (rf2 (a0 2) h0_1) p64.2]) [0] 1 rfl (by decide) rfl ?_
    refine ww_istore_n (lv' := [(2, .int p64.1), (0, .ref (a0 0)), (1, .int x1)]) C dX9_change_67 rfl (by decide) rfl ?_
    refine ww_aload_n C dX9_change_68 rfl 1 rfl ?_
    refine ww_get C clOK9 in_X9_change_X9 (w := wModel E a0 (rf2 (a0 2) h0_1) p64.2) (fs := fsModel a0 (rf2 (a0 2) h0_1) p64.2) (v := .int (Model_error p64.2)) 0 0 27 rfl q_Model (by decide) (by decide +kernel) g_Model_error dX9_change_69 ?_
    refine ww_if_ne (tgt := 81) C dX9_change_72 (by decide) (fun c_2 => ?_) (fun c_2 => ?_)
    · replace hf := ifF c_2 hf
      refine ww_sub C (lv' := [(0, .ref (a0 0))]) [1] rfl ?_
      exact w_X9_change_81 C hf
    · replace hf := ifT c_2 hf
      refine ww_aload_n C dX9_change_75 rfl 1 rfl ?_
      refine ww_iload_n C dX9_change_76 rfl 0 rfl ?_
      refine ww_iconst (v := 1) C dX9_change_77 (by decide) ?_
      obtain ⟨p78, hp78, hf⟩ := bdE hf
      refine ww_callV C (As := [.int p64.1, .int (b2i true)]) (st := []) (gr := []) (c_X9_readWalk (E := E) (a0 := a0) (h0_1 := h0_1) hp78) gX9_change_X9_readWalk rfl yk_X9_readWalk ⟨by decide, by decide⟩ ⟨by decide, by decide⟩ clOK9 0 0 rfl rfl [0] [] 1 rfl (by decide) rfl rfl (Nat.le_of_ble_eq_true rfl) dX9_change_78 ?_
      rintro _ _ ⟨rfl, rfl⟩
      refine ww_perm (gs' := [wModel E a0 (rf2 (a0 2) h0_1) p78]) [0] 1 rfl (by decide) rfl ?_
      refine ww_sub C (lv' := [(0, .ref (a0 0))]) [1] rfl ?_
      exact w_X9_change_81 C hf
  · replace hf := bfE c_1 hf
    refine ww_aload_n C dX9_change_17 rfl 0 rfl ?_
    refine ww_iconst (v := 1) C dX9_change_18 (by decide) ?_
    obtain ⟨p19, hp19, hf⟩ := bdE hf
    refine ww_callV C (As := [.int 1]) (st := []) (gr := []) (c_X9_raise (E := E) (a0 := a0) (h0_0 := a0 1) (h0_1 := h0_1) hp19) gX9_change_X9_raise rfl yk_X9_raise ⟨by decide, by decide⟩ ⟨by decide, by decide⟩ clOK9 0 0 rfl rfl [0] [] 1 rfl (by decide) rfl rfl (Nat.le_of_ble_eq_true rfl) dX9_change_19 ?_
    rintro _ _ ⟨rfl, rfl⟩
    refine ww_perm (gs' := [wModel E a0 (rf2 (a0 1) h0_1) p19.2]) [0] 1 rfl (by decide) rfl ?_
    obtain rfl := Option.some.inj hf
    exact ww_iret C ⟨rfl, rfl⟩ dX9_change_22

theorem yk_X9_change : yX9_change.cls = RX9 ∧ yX9_change.cls ≠ "java/lang/invoke/MethodHandle" ∧ yX9_change.cls ≠ "java/lang/invoke/VarHandle" ∧ (parseMethodDescriptor yX9_change.desc).map (fun d => d.parameters.length) = some 1 := by decide +kernel
abbrev rmX9_walksIn : Room := { frames := 2, cells := 0, slots := 0, locals := 43 }
set_option maxHeartbeats 4000000 in
set_option maxRecDepth 100000 in
theorem w_X9_walksIn_18 {E : Ex} {K : Kx} (C : Cx E K cX9_walksIn 6 (some .int) RX9 wsX9_walksIn rmX9_walksIn) {a0 : Nat → Nat} {h0_1 : Nat} {x1 : Int32} {v0 : ModelV} {x2 : Int32} {x3 : Int32} {k4 : Int32 → Int32 → Option Int32} {r : Int32} (hk4 : ∀ (x2 : Int32) (x3 : Int32), k4 x2 x3 = some r → WW E K 0 0 (QQ E K (fun rv g => rv = some (.int r) ∧ g = [wModel E a0 (rf2 (a0 1) h0_1) v0]) 0 0) 4 [(0, .ref (a0 0)), (1, .int x1), (2, .int x2), (3, .int x3)] [] [wModel E a0 (rf2 (a0 1) h0_1) v0]) : ∀ (n : Nat) (x4 : Int32) (x5 : Int32), Mod_walksIn_18 x1 v0 x2 x3 k4 n x4 x5 = some r → WW E K 0 0 (QQ E K (fun rv g => rv = some (.int r) ∧ g = [wModel E a0 (rf2 (a0 1) h0_1) v0]) 0 0) 18 [(0, .ref (a0 0)), (1, .int x1), (2, .int x2), (3, .int x3), (4, .int x4), (5, .int x5)] [] [wModel E a0 (rf2 (a0 1) h0_1) v0] := by
  intro n
  induction n with
  | zero =>
    intro x4 x5 hf
    simp [Mod_walksIn_18] at hf
  | succ n ih =>
    intro x4 x5 hf
    rw [Mod_walksIn_18] at hf
    refine ww_iload C dX9_walksIn_18 5 rfl ?_
    refine ww_aload_n C dX9_walksIn_20 rfl 0 rfl ?_
    refine ww_iload_n C dX9_walksIn_21 rfl 3 rfl ?_
    obtain ⟨p22, hp22, hf⟩ := bdE hf
    refine ww_callV C (As := [.int x3]) (st := [.int x5]) (gr := []) (c_X9_period (E := E) (a0 := a0) (h0_1 := h0_1) hp22) gX9_walksIn_X9_period rfl yk_X9_period ⟨by decide, by decide⟩ ⟨by decide, by decide⟩ clOK9 0 0 rfl rfl [0] [] 1 rfl (by decide) rfl rfl (Nat.le_of_ble_eq_true rfl) dX9_walksIn_22 ?_
    rintro _ _ ⟨rfl, rfl⟩
    refine ww_perm (gs' := [wModel E a0 (rf2 (a0 1) h0_1) v0]) [0] 1 rfl (by decide) rfl ?_
    refine ww_icmp_ge (tgt := 55) C dX9_walksIn_25 (by decide) (fun c_2 => ?_) (fun c_2 => ?_)
    · replace hf := ifT c_2 hf
      refine ww_iload_n C dX9_walksIn_55 rfl 2 rfl ?_
      refine ww_iload C dX9_walksIn_56 4 rfl ?_
      refine ww_if_eq (tgt := 65) C dX9_walksIn_58 (by decide) (fun c_3 => ?_) (fun c_3 => ?_)
      · replace hf := ifT c_3 hf
        refine ww_iconst (v := 0) C dX9_walksIn_65 (by decide) ?_
        refine ww_iadd C dX9_walksIn_66 ?_
        refine ww_topi (fun x2_67 e_x2_67 => ?_)
        replace hf := ltE e_x2_67 hf
        refine ww_istore_n (lv' := [(2, .int x2_67), (0, .ref (a0 0)), (1, .int x1), (3, .int x3), (4, .int x4), (5, .int x5)]) C dX9_walksIn_67 rfl (by decide) rfl ?_
        obtain ⟨x3_68, e_x3_68⟩ : ∃ y : Int32, y = x3 + 1 := ⟨_, rfl⟩
        replace hf := ltE e_x3_68 hf
        refine ww_iinc (v := x3_68) (lv' := [(3, .int x3_68), (2, .int x2_67), (0, .ref (a0 0)), (1, .int x1), (4, .int x4), (5, .int x5)]) C dX9_walksIn_68 3 rfl (by rw [e_x3_68]; rfl) (by decide) rfl ?_
        refine ww_goto (tgt := 4) C dX9_walksIn_71 (by decide) ?_
        refine ww_sub C (lv' := [(0, .ref (a0 0)), (1, .int x1), (2, .int x2_67), (3, .int x3_68)]) [2, 3, 1, 0] rfl ?_
        exact hk4 _ _ hf
      · replace hf := ifF c_3 hf
        refine ww_iconst (v := 1) C dX9_walksIn_61 (by decide) ?_
        refine ww_goto (tgt := 66) C dX9_walksIn_62 (by decide) ?_
        refine ww_iadd C dX9_walksIn_66 ?_
        refine ww_topi (fun x2_67 e_x2_67 => ?_)
        replace hf := ltE e_x2_67 hf
        refine ww_istore_n (lv' := [(2, .int x2_67), (0, .ref (a0 0)), (1, .int x1), (3, .int x3), (4, .int x4), (5, .int x5)]) C dX9_walksIn_67 rfl (by decide) rfl ?_
        obtain ⟨x3_68, e_x3_68⟩ : ∃ y : Int32, y = x3 + 1 := ⟨_, rfl⟩
        replace hf := ltE e_x3_68 hf
        refine ww_iinc (v := x3_68) (lv' := [(3, .int x3_68), (2, .int x2_67), (0, .ref (a0 0)), (1, .int x1), (4, .int x4), (5, .int x5)]) C dX9_walksIn_68 3 rfl (by rw [e_x3_68]; rfl) (by decide) rfl ?_
        refine ww_goto (tgt := 4) C dX9_walksIn_71 (by decide) ?_
        refine ww_sub C (lv' := [(0, .ref (a0 0)), (1, .int x1), (2, .int x2_67), (3, .int x3_68)]) [2, 3, 1, 0] rfl ?_
        exact hk4 _ _ hf
    · replace hf := ifF c_2 hf
      refine ww_iload C dX9_walksIn_28 4 rfl ?_
      refine ww_aload_n C dX9_walksIn_30 rfl 0 rfl ?_
      refine ww_iload_n C dX9_walksIn_31 rfl 3 rfl ?_
      refine ww_iload C dX9_walksIn_32 5 rfl ?_
      obtain ⟨p34, hp34, hf⟩ := bdE hf
      refine ww_callV C (As := [.int x3, .int x5]) (st := [.int x4]) (gr := []) (c_X9_step (E := E) (a0 := a0) (h0_1 := h0_1) hp34) gX9_walksIn_X9_step rfl yk_X9_step ⟨by decide, by decide⟩ ⟨by decide, by decide⟩ clOK9 0 0 rfl rfl [0] [] 1 rfl (by decide) rfl rfl (Nat.le_of_ble_eq_true rfl) dX9_walksIn_34 ?_
      rintro _ _ ⟨rfl, rfl⟩
      refine ww_perm (gs' := [wModel E a0 (rf2 (a0 1) h0_1) v0]) [0] 1 rfl (by decide) rfl ?_
      refine ww_iload_n C dX9_walksIn_37 rfl 1 rfl ?_
      refine ww_icmp_ne (tgt := 45) C dX9_walksIn_38 (by decide) (fun c_6 => ?_) (fun c_6 => ?_)
      · replace hf := ifF c_6 hf
        refine ww_iconst (v := 0) C dX9_walksIn_45 (by decide) ?_
        refine ww_ior C dX9_walksIn_46 ?_
        refine ww_topi (fun x4_47 e_x4_47 => ?_)
        replace hf := ltE e_x4_47 hf
        refine ww_istore (lv' := [(4, .int x4_47), (0, .ref (a0 0)), (1, .int x1), (2, .int x2), (3, .int x3), (5, .int x5)]) C dX9_walksIn_47 (by decide) rfl ?_
        obtain ⟨x5_49, e_x5_49⟩ : ∃ y : Int32, y = x5 + 1 := ⟨_, rfl⟩
        replace hf := ltE e_x5_49 hf
        refine ww_iinc (v := x5_49) (lv' := [(5, .int x5_49), (4, .int x4_47), (0, .ref (a0 0)), (1, .int x1), (2, .int x2), (3, .int x3)]) C dX9_walksIn_49 5 rfl (by rw [e_x5_49]; rfl) (by decide) rfl ?_
        refine ww_goto (tgt := 18) C dX9_walksIn_52 (by decide) ?_
        refine ww_sub C (lv' := [(0, .ref (a0 0)), (1, .int x1), (2, .int x2), (3, .int x3), (4, .int x4_47), (5, .int x5_49)]) [2, 3, 4, 5, 1, 0] rfl ?_
        exact ih _ _ hf
      · replace hf := ifT c_6 hf
        refine ww_iconst (v := 1) C dX9_walksIn_41 (by decide) ?_
        refine ww_goto (tgt := 46) C dX9_walksIn_42 (by decide) ?_
        refine ww_ior C dX9_walksIn_46 ?_
        refine ww_topi (fun x4_47 e_x4_47 => ?_)
        replace hf := ltE e_x4_47 hf
        refine ww_istore (lv' := [(4, .int x4_47), (0, .ref (a0 0)), (1, .int x1), (2, .int x2), (3, .int x3), (5, .int x5)]) C dX9_walksIn_47 (by decide) rfl ?_
        obtain ⟨x5_49, e_x5_49⟩ : ∃ y : Int32, y = x5 + 1 := ⟨_, rfl⟩
        replace hf := ltE e_x5_49 hf
        refine ww_iinc (v := x5_49) (lv' := [(5, .int x5_49), (4, .int x4_47), (0, .ref (a0 0)), (1, .int x1), (2, .int x2), (3, .int x3)]) C dX9_walksIn_49 5 rfl (by rw [e_x5_49]; rfl) (by decide) rfl ?_
        refine ww_goto (tgt := 18) C dX9_walksIn_52 (by decide) ?_
        refine ww_sub C (lv' := [(0, .ref (a0 0)), (1, .int x1), (2, .int x2), (3, .int x3), (4, .int x4_47), (5, .int x5_49)]) [2, 3, 4, 5, 1, 0] rfl ?_
        exact ih _ _ hf

set_option maxHeartbeats 4000000 in
set_option maxRecDepth 100000 in
theorem w_X9_walksIn_4 {E : Ex} {K : Kx} (C : Cx E K cX9_walksIn 6 (some .int) RX9 wsX9_walksIn rmX9_walksIn) {a0 : Nat → Nat} {h0_1 : Nat} {x1 : Int32} {v0 : ModelV}  {r : Int32} : ∀ (n : Nat) (x2 : Int32) (x3 : Int32), Mod_walksIn_4 x1 v0 n x2 x3 = some r → WW E K 0 0 (QQ E K (fun rv g => rv = some (.int r) ∧ g = [wModel E a0 (rf2 (a0 1) h0_1) v0]) 0 0) 4 [(0, .ref (a0 0)), (1, .int x1), (2, .int x2), (3, .int x3)] [] [wModel E a0 (rf2 (a0 1) h0_1) v0] := by
  intro n
  induction n with
  | zero =>
    intro x2 x3 hf
    simp [Mod_walksIn_4] at hf
  | succ n ih =>
    intro x2 x3 hf
    rw [Mod_walksIn_4] at hf
    refine ww_iload_n C dX9_walksIn_4 rfl 3 rfl ?_
    refine ww_aload_n C dX9_walksIn_5 rfl 0 rfl ?_
    obtain ⟨p6, hp6, hf⟩ := bdE hf
    refine ww_callV C (As := []) (st := [.int x3]) (gr := []) (c_X9_guards (E := E) (a0 := a0) (h0_1 := h0_1) hp6) gX9_walksIn_X9_guards rfl yk_X9_guards ⟨by decide, by decide⟩ ⟨by decide, by decide⟩ clOK9 0 0 rfl rfl [0] [] 1 rfl (by decide) rfl rfl (Nat.le_of_ble_eq_true rfl) dX9_walksIn_6 ?_
    rintro _ _ ⟨rfl, rfl⟩
    refine ww_perm (gs' := [wModel E a0 (rf2 (a0 1) h0_1) v0]) [0] 1 rfl (by decide) rfl ?_
    refine ww_icmp_ge (tgt := 74) C dX9_walksIn_9 (by decide) (fun c_1 => ?_) (fun c_1 => ?_)
    · replace hf := ifT c_1 hf
      refine ww_iload_n C dX9_walksIn_74 rfl 2 rfl ?_
      obtain rfl := Option.some.inj hf
      exact ww_iret C ⟨rfl, rfl⟩ dX9_walksIn_75
    · replace hf := ifF c_1 hf
      refine ww_iconst (v := 0) C dX9_walksIn_12 (by decide) ?_
      refine ww_istore (lv' := [(4, .int 0), (0, .ref (a0 0)), (1, .int x1), (2, .int x2), (3, .int x3)]) C dX9_walksIn_13 (by decide) rfl ?_
      refine ww_iconst (v := 0) C dX9_walksIn_15 (by decide) ?_
      refine ww_istore (lv' := [(5, .int 0), (4, .int 0), (0, .ref (a0 0)), (1, .int x1), (2, .int x2), (3, .int x3)]) C dX9_walksIn_16 (by decide) rfl ?_
      refine ww_sub C (lv' := [(0, .ref (a0 0)), (1, .int x1), (2, .int x2), (3, .int x3), (4, .int 0), (5, .int 0)]) [2, 3, 4, 5, 1, 0] rfl ?_
      exact w_X9_walksIn_18 C (k4 := (fun (x2 : Int32) (x3 : Int32) => Mod_walksIn_4 x1 v0 n x2 x3)) ih FU _ _ hf

set_option maxHeartbeats 4000000 in
set_option maxRecDepth 100000 in
theorem c_X9_walksIn {E : Ex} {a0 : Nat → Nat} {h0_1 : Nat} {x1 : Int32} {v0 : ModelV} {r : Int32} (hf : Mod_walksIn x1 v0 = some r) : Ct E yX9_walksIn wsX9_walksIn rmX9_walksIn [.ref (a0 0), .int x1] [wModel E a0 (rf2 (a0 1) h0_1) v0] (fun rv g => rv = some (.int r) ∧ g = [wModel E a0 (rf2 (a0 1) h0_1) v0]) := by
  refine ct_of (own := RX9) (by decide +kernel) rfl rfl (Nat.le_of_ble_eq_true rfl) (fun K C => ?_)
  refine ww_sub C (lv' := [(0, .ref (a0 0)), (1, .int x1)]) [0, 1] rfl ?_
  rw [Mod_walksIn] at hf
  refine ww_iconst (v := 0) C dX9_walksIn_0 (by decide) ?_
  refine ww_istore_n (lv' := [(2, .int 0), (0, .ref (a0 0)), (1, .int x1)]) C dX9_walksIn_1 rfl (by decide) rfl ?_
  refine ww_iconst (v := 0) C dX9_walksIn_2 (by decide) ?_
  refine ww_istore_n (lv' := [(3, .int 0), (2, .int 0), (0, .ref (a0 0)), (1, .int x1)]) C dX9_walksIn_3 rfl (by decide) rfl ?_
  refine ww_sub C (lv' := [(0, .ref (a0 0)), (1, .int x1), (2, .int 0), (3, .int 0)]) [2, 3, 1, 0] rfl ?_
  exact w_X9_walksIn_4 C FU _ _ hf

theorem yk_X9_walksIn : yX9_walksIn.cls = RX9 ∧ yX9_walksIn.cls ≠ "java/lang/invoke/MethodHandle" ∧ yX9_walksIn.cls ≠ "java/lang/invoke/VarHandle" ∧ (parseMethodDescriptor yX9_walksIn.desc).map (fun d => d.parameters.length) = some 1 := by decide +kernel
abbrev rmX9_property : Room := { frames := 3, cells := 0, slots := 0, locals := 68 }
set_option maxRecDepth 20000 in
theorem in_X9_property_X9 : ∀ w ∈ u_ws RX9 TX9 35, w ∈ wsX9_property := by decide +kernel
set_option maxHeartbeats 4000000 in
set_option maxRecDepth 100000 in
theorem c_X9_property {E : Ex} {a0 : Nat → Nat} {h0_1 : Nat} {x1 : Int32} {x2 : Int32} {v0 : ModelV} {r : Int32} (hf : Mod_property x1 x2 v0 = some r) : Ct E yX9_property wsX9_property rmX9_property [.ref (a0 0), .int x1, .int x2] [wModel E a0 (rf2 (a0 1) h0_1) v0] (fun rv g => rv = some (.int r) ∧ g = [wModel E a0 (rf2 (a0 1) h0_1) v0]) := by
  refine ct_of (own := RX9) (by decide +kernel) rfl rfl (Nat.le_of_ble_eq_true rfl) (fun K C => ?_)
  refine ww_sub C (lv' := [(0, .ref (a0 0)), (1, .int x1), (2, .int x2)]) [0, 1, 2] rfl ?_
  rw [Mod_property] at hf
  refine ww_iload_n C dX9_property_0 rfl 2 rfl ?_
  by_cases c_6 : Int32.toInt x2 < 0 ∨ 9 < Int32.toInt x2
  · replace hf := ifT c_6 hf
    refine ww_tabOut (tgt := 139) C dX9_property_1 c_6 (by decide) ?_
    refine ww_aload_n C dX9_property_139 rfl 0 rfl ?_
    refine ww_iload_n C dX9_property_140 rfl 1 rfl ?_
    refine ww_iconst (v := 4) C dX9_property_141 (by decide) ?_
    obtain ⟨p142, hp142, hf⟩ := bdE hf
    refine ww_callV C (As := [.int x1, .int 4]) (st := []) (gr := []) (c_X9_ofRoom (E := E) (a0 := a0) (h0_1 := h0_1) hp142) gX9_property_X9_ofRoom rfl yk_X9_ofRoom ⟨by decide, by decide⟩ ⟨by decide, by decide⟩ clOK9 0 0 rfl rfl [0] [] 1 rfl (by decide) rfl rfl (Nat.le_of_ble_eq_true rfl) dX9_property_142 ?_
    rintro _ _ ⟨rfl, rfl⟩
    refine ww_perm (gs' := [wModel E a0 (rf2 (a0 1) h0_1) v0]) [0] 1 rfl (by decide) rfl ?_
    obtain rfl := Option.some.inj hf
    exact ww_iret C ⟨rfl, rfl⟩ dX9_property_145
  · replace hf := ifF c_6 hf
    by_cases c_7 : x2 = 0
    · replace hf := ifT c_7 hf
      refine ww_tabIn (off := 55) (tgt := 56) C dX9_property_1 (fun z => c_6 (Or.inl z)) (fun z => c_6 (Or.inr z)) (by rw [c_7]; decide) (by decide) ?_
      refine ww_iload_n C dX9_property_56 rfl 1 rfl ?_
      obtain rfl := Option.some.inj hf
      exact ww_iret C ⟨rfl, rfl⟩ dX9_property_57
    · replace hf := ifF c_7 hf
      by_cases c_8 : x2 = 1
      · replace hf := ifT c_8 hf
        refine ww_tabIn (off := 57) (tgt := 58) C dX9_property_1 (fun z => c_6 (Or.inl z)) (fun z => c_6 (Or.inr z)) (by rw [c_8]; decide) (by decide) ?_
        refine ww_aload_n C dX9_property_58 rfl 0 rfl ?_
        refine ww_iload_n C dX9_property_59 rfl 1 rfl ?_
        obtain ⟨p60, hp60, hf⟩ := bdE hf
        refine ww_callV C (As := [.int x1]) (st := []) (gr := []) (c_X9_openAt (E := E) (a0 := a0) (h0_1 := h0_1) hp60) gX9_property_X9_openAt rfl yk_X9_openAt ⟨by decide, by decide⟩ ⟨by decide, by decide⟩ clOK9 0 0 rfl rfl [0] [] 1 rfl (by decide) rfl rfl (Nat.le_of_ble_eq_true rfl) dX9_property_60 ?_
        rintro _ _ ⟨rfl, rfl⟩
        refine ww_perm (gs' := [wModel E a0 (rf2 (a0 1) h0_1) v0]) [0] 1 rfl (by decide) rfl ?_
        obtain rfl := Option.some.inj hf
        exact ww_iret C ⟨rfl, rfl⟩ dX9_property_63
      · replace hf := ifF c_8 hf
        by_cases c_9 : x2 = 2
        · replace hf := ifT c_9 hf
          refine ww_tabIn (off := 63) (tgt := 64) C dX9_property_1 (fun z => c_6 (Or.inl z)) (fun z => c_6 (Or.inr z)) (by rw [c_9]; decide) (by decide) ?_
          refine ww_aload_n C dX9_property_64 rfl 0 rfl ?_
          refine ww_iload_n C dX9_property_65 rfl 1 rfl ?_
          refine ww_iconst (v := 0) C dX9_property_66 (by decide) ?_
          obtain ⟨p67, hp67, hf⟩ := bdE hf
          refine ww_callV C (As := [.int x1, .int 0]) (st := []) (gr := []) (c_X9_ofRoom (E := E) (a0 := a0) (h0_1 := h0_1) hp67) gX9_property_X9_ofRoom rfl yk_X9_ofRoom ⟨by decide, by decide⟩ ⟨by decide, by decide⟩ clOK9 0 0 rfl rfl [0] [] 1 rfl (by decide) rfl rfl (Nat.le_of_ble_eq_true rfl) dX9_property_67 ?_
          rintro _ _ ⟨rfl, rfl⟩
          refine ww_perm (gs' := [wModel E a0 (rf2 (a0 1) h0_1) v0]) [0] 1 rfl (by decide) rfl ?_
          obtain rfl := Option.some.inj hf
          exact ww_iret C ⟨rfl, rfl⟩ dX9_property_70
        · replace hf := ifF c_9 hf
          by_cases c_10 : x2 = 3
          · replace hf := ifT c_10 hf
            refine ww_tabIn (off := 70) (tgt := 71) C dX9_property_1 (fun z => c_6 (Or.inl z)) (fun z => c_6 (Or.inr z)) (by rw [c_10]; decide) (by decide) ?_
            refine ww_iconst (v := 0) C dX9_property_71 (by decide) ?_
            refine ww_aload_n C dX9_property_72 rfl 0 rfl ?_
            refine ww_get C clOK9 in_X9_property_X9 (w := wModel E a0 (rf2 (a0 1) h0_1) v0) (fs := fsModel a0 (rf2 (a0 1) h0_1) v0) (v := .ref (a0 10)) 0 0 13 rfl q_Model (by decide) (by decide +kernel) g_Model_gap dX9_property_73 ?_
            refine ww_iload_n C dX9_property_76 rfl 1 rfl ?_
            obtain ⟨g_1, hf⟩ := gdE hf
            refine ww_iald C (f := Model_gap v0) (w := wModel E a0 (rf2 (a0 1) h0_1) v0) 0 10 rfl c_Model_gap (inB_vp g_1) dX9_property_77 ?_
            refine ww_max C (by decide +kernel) (by decide +kernel) (by decide +kernel) (by decide +kernel) (by decide) (Nat.le_of_ble_eq_true rfl) (by decide) (by decide) dX9_property_78 ?_
            obtain rfl := Option.some.inj hf
            exact ww_iret C ⟨rfl, rfl⟩ dX9_property_81
          · replace hf := ifF c_10 hf
            by_cases c_11 : x2 = 4
            · replace hf := ifT c_11 hf
              refine ww_tabIn (off := 81) (tgt := 82) C dX9_property_1 (fun z => c_6 (Or.inl z)) (fun z => c_6 (Or.inr z)) (by rw [c_11]; decide) (by decide) ?_
              refine ww_aload_n C dX9_property_82 rfl 0 rfl ?_
              refine ww_get C clOK9 in_X9_property_X9 (w := wModel E a0 (rf2 (a0 1) h0_1) v0) (fs := fsModel a0 (rf2 (a0 1) h0_1) v0) (v := .ref (a0 10)) 0 0 13 rfl q_Model (by decide) (by decide +kernel) g_Model_gap dX9_property_83 ?_
              refine ww_iload_n C dX9_property_86 rfl 1 rfl ?_
              obtain ⟨g_2, hf⟩ := gdE hf
              refine ww_iald C (f := Model_gap v0) (w := wModel E a0 (rf2 (a0 1) h0_1) v0) 0 10 rfl c_Model_gap (inB_vp g_2) dX9_property_87 ?_
              refine ww_iconst (v := (-1)) C dX9_property_88 (by decide) ?_
              refine ww_icmp_ne (tgt := 96) C dX9_property_89 (by decide) (fun c_3 => ?_) (fun c_3 => ?_)
              · replace hf := ifF c_3 hf
                refine ww_iconst (v := 0) C dX9_property_96 (by decide) ?_
                obtain rfl := Option.some.inj hf
                exact ww_iret C ⟨rfl, rfl⟩ dX9_property_97
              · replace hf := ifT c_3 hf
                refine ww_iconst (v := 1) C dX9_property_92 (by decide) ?_
                refine ww_goto (tgt := 97) C dX9_property_93 (by decide) ?_
                obtain rfl := Option.some.inj hf
                exact ww_iret C ⟨rfl, rfl⟩ dX9_property_97
            · replace hf := ifF c_11 hf
              by_cases c_12 : x2 = 5
              · replace hf := ifT c_12 hf
                refine ww_tabIn (off := 97) (tgt := 98) C dX9_property_1 (fun z => c_6 (Or.inl z)) (fun z => c_6 (Or.inr z)) (by rw [c_12]; decide) (by decide) ?_
                refine ww_aload_n C dX9_property_98 rfl 0 rfl ?_
                refine ww_iload_n C dX9_property_99 rfl 1 rfl ?_
                obtain ⟨p100, hp100, hf⟩ := bdE hf
                refine ww_callV C (As := [.int x1]) (st := []) (gr := []) (c_X9_isLate (E := E) (a0 := a0) (h0_1 := h0_1) hp100) gX9_property_X9_isLate rfl yk_X9_isLate ⟨by decide, by decide⟩ ⟨by decide, by decide⟩ clOK9 0 0 rfl rfl [0] [] 1 rfl (by decide) rfl rfl (Nat.le_of_ble_eq_true rfl) dX9_property_100 ?_
                rintro _ _ ⟨rfl, rfl⟩
                refine ww_perm (gs' := [wModel E a0 (rf2 (a0 1) h0_1) v0]) [0] 1 rfl (by decide) rfl ?_
                refine ww_if_eqB (tgt := 110) C dX9_property_103 (by decide) (fun c_4 => ?_) (fun c_4 => ?_)
                · replace hf := bfE c_4 hf
                  refine ww_iconst (v := 0) C dX9_property_110 (by decide) ?_
                  obtain rfl := Option.some.inj hf
                  exact ww_iret C ⟨rfl, rfl⟩ dX9_property_111
                · replace hf := btE c_4 hf
                  refine ww_iconst (v := 1) C dX9_property_106 (by decide) ?_
                  refine ww_goto (tgt := 111) C dX9_property_107 (by decide) ?_
                  obtain rfl := Option.some.inj hf
                  exact ww_iret C ⟨rfl, rfl⟩ dX9_property_111
              · replace hf := ifF c_12 hf
                by_cases c_13 : x2 = 6
                · replace hf := ifT c_13 hf
                  refine ww_tabIn (off := 111) (tgt := 112) C dX9_property_1 (fun z => c_6 (Or.inl z)) (fun z => c_6 (Or.inr z)) (by rw [c_13]; decide) (by decide) ?_
                  refine ww_aload_n C dX9_property_112 rfl 0 rfl ?_
                  refine ww_get C clOK9 in_X9_property_X9 (w := wModel E a0 (rf2 (a0 1) h0_1) v0) (fs := fsModel a0 (rf2 (a0 1) h0_1) v0) (v := .ref (a0 9)) 0 0 12 rfl q_Model (by decide) (by decide +kernel) g_Model_seenCount dX9_property_113 ?_
                  refine ww_iload_n C dX9_property_116 rfl 1 rfl ?_
                  obtain ⟨g_5, hf⟩ := gdE hf
                  refine ww_iald C (f := Model_seenCount v0) (w := wModel E a0 (rf2 (a0 1) h0_1) v0) 0 9 rfl c_Model_seenCount (inB_vp g_5) dX9_property_117 ?_
                  obtain rfl := Option.some.inj hf
                  exact ww_iret C ⟨rfl, rfl⟩ dX9_property_118
                · replace hf := ifF c_13 hf
                  by_cases c_14 : x2 = 7
                  · replace hf := ifT c_14 hf
                    refine ww_tabIn (off := 118) (tgt := 119) C dX9_property_1 (fun z => c_6 (Or.inl z)) (fun z => c_6 (Or.inr z)) (by rw [c_14]; decide) (by decide) ?_
                    refine ww_aload_n C dX9_property_119 rfl 0 rfl ?_
                    refine ww_iload_n C dX9_property_120 rfl 1 rfl ?_
                    obtain ⟨p121, hp121, hf⟩ := bdE hf
                    refine ww_callV C (As := [.int x1]) (st := []) (gr := []) (c_X9_walksIn (E := E) (a0 := a0) (h0_1 := h0_1) hp121) gX9_property_X9_walksIn rfl yk_X9_walksIn ⟨by decide, by decide⟩ ⟨by decide, by decide⟩ clOK9 0 0 rfl rfl [0] [] 1 rfl (by decide) rfl rfl (Nat.le_of_ble_eq_true rfl) dX9_property_121 ?_
                    rintro _ _ ⟨rfl, rfl⟩
                    refine ww_perm (gs' := [wModel E a0 (rf2 (a0 1) h0_1) v0]) [0] 1 rfl (by decide) rfl ?_
                    obtain rfl := Option.some.inj hf
                    exact ww_iret C ⟨rfl, rfl⟩ dX9_property_124
                  · replace hf := ifF c_14 hf
                    by_cases c_15 : x2 = 8
                    · replace hf := ifT c_15 hf
                      refine ww_tabIn (off := 124) (tgt := 125) C dX9_property_1 (fun z => c_6 (Or.inl z)) (fun z => c_6 (Or.inr z)) (by rw [c_15]; decide) (by decide) ?_
                      refine ww_aload_n C dX9_property_125 rfl 0 rfl ?_
                      refine ww_iload_n C dX9_property_126 rfl 1 rfl ?_
                      refine ww_iconst (v := 1) C dX9_property_127 (by decide) ?_
                      obtain ⟨p128, hp128, hf⟩ := bdE hf
                      refine ww_callV C (As := [.int x1, .int 1]) (st := []) (gr := []) (c_X9_ofRoom (E := E) (a0 := a0) (h0_1 := h0_1) hp128) gX9_property_X9_ofRoom rfl yk_X9_ofRoom ⟨by decide, by decide⟩ ⟨by decide, by decide⟩ clOK9 0 0 rfl rfl [0] [] 1 rfl (by decide) rfl rfl (Nat.le_of_ble_eq_true rfl) dX9_property_128 ?_
                      rintro _ _ ⟨rfl, rfl⟩
                      refine ww_perm (gs' := [wModel E a0 (rf2 (a0 1) h0_1) v0]) [0] 1 rfl (by decide) rfl ?_
                      obtain rfl := Option.some.inj hf
                      exact ww_iret C ⟨rfl, rfl⟩ dX9_property_131
                    · replace hf := ifF c_15 hf
                      by_cases c_16 : x2 = 9
                      · replace hf := ifT c_16 hf
                        refine ww_tabIn (off := 131) (tgt := 132) C dX9_property_1 (fun z => c_6 (Or.inl z)) (fun z => c_6 (Or.inr z)) (by rw [c_16]; decide) (by decide) ?_
                        refine ww_aload_n C dX9_property_132 rfl 0 rfl ?_
                        refine ww_iload_n C dX9_property_133 rfl 1 rfl ?_
                        refine ww_iconst (v := 3) C dX9_property_134 (by decide) ?_
                        obtain ⟨p135, hp135, hf⟩ := bdE hf
                        refine ww_callV C (As := [.int x1, .int 3]) (st := []) (gr := []) (c_X9_ofRoom (E := E) (a0 := a0) (h0_1 := h0_1) hp135) gX9_property_X9_ofRoom rfl yk_X9_ofRoom ⟨by decide, by decide⟩ ⟨by decide, by decide⟩ clOK9 0 0 rfl rfl [0] [] 1 rfl (by decide) rfl rfl (Nat.le_of_ble_eq_true rfl) dX9_property_135 ?_
                        rintro _ _ ⟨rfl, rfl⟩
                        refine ww_perm (gs' := [wModel E a0 (rf2 (a0 1) h0_1) v0]) [0] 1 rfl (by decide) rfl ?_
                        obtain rfl := Option.some.inj hf
                        exact ww_iret C ⟨rfl, rfl⟩ dX9_property_138
                      · replace hf := ifF c_16 hf
                        cases hf

theorem yk_X9_property : yX9_property.cls = RX9 ∧ yX9_property.cls ≠ "java/lang/invoke/MethodHandle" ∧ yX9_property.cls ≠ "java/lang/invoke/VarHandle" ∧ (parseMethodDescriptor yX9_property.desc).map (fun d => d.parameters.length) = some 2 := by decide +kernel
abbrev rmX9_holdsFor : Room := { frames := 4, cells := 0, slots := 0, locals := 90 }
set_option maxRecDepth 20000 in
theorem in_X9_holdsFor_X9 : ∀ w ∈ u_ws RX9 TX9 35, w ∈ wsX9_holdsFor := by decide +kernel
set_option maxHeartbeats 4000000 in
set_option maxRecDepth 100000 in
theorem w_X9_holdsFor_4 {E : Ex} {K : Kx} (C : Cx E K cX9_holdsFor 5 (some .boolean) RX9 wsX9_holdsFor rmX9_holdsFor) {a0 : Nat → Nat} {h0_1 : Nat} {x1 : Int32}  {r : (Bool × ModelV)} : ∀ (n : Nat) (x2 : Int32) (x3 : Int32) (v0 : ModelV), Mod_holdsFor_4 x1 n x2 x3 v0 = some r → WW E K 0 0 (QQ E K (fun rv g => rv = some (.int (b2i r.1)) ∧ g = [wModel E a0 (rf2 (a0 1) h0_1) r.2]) 0 0) 4 [(0, .ref (a0 0)), (1, .int x1), (2, .int x2), (3, .int x3)] [] [wModel E a0 (rf2 (a0 1) h0_1) v0] := by
  intro n
  induction n with
  | zero =>
    intro x2 x3 v0 hf
    simp [Mod_holdsFor_4] at hf
  | succ n ih =>
    intro x2 x3 v0 hf
    rw [Mod_holdsFor_4] at hf
    refine ww_iload_n C dX9_holdsFor_4 rfl 3 rfl ?_
    refine ww_aload_n C dX9_holdsFor_5 rfl 0 rfl ?_
    refine ww_get C clOK9 in_X9_holdsFor_X9 (w := wModel E a0 (rf2 (a0 1) h0_1) v0) (fs := fsModel a0 (rf2 (a0 1) h0_1) v0) (v := .int (Model_codeCount v0)) 0 0 34 rfl q_Model (by decide) (by decide +kernel) g_Model_codeCount dX9_holdsFor_6 ?_
    refine ww_icmp_ge (tgt := 124) C dX9_holdsFor_9 (by decide) (fun c_1 => ?_) (fun c_1 => ?_)
    · replace hf := ifT c_1 hf
      refine ww_aload_n C dX9_holdsFor_124 rfl 0 rfl ?_
      refine ww_get C clOK9 in_X9_holdsFor_X9 (w := wModel E a0 (rf2 (a0 1) h0_1) v0) (fs := fsModel a0 (rf2 (a0 1) h0_1) v0) (v := .ref (a0 16)) 0 0 33 rfl q_Model (by decide) (by decide +kernel) g_Model_stack dX9_holdsFor_125 ?_
      refine ww_iconst (v := 0) C dX9_holdsFor_128 (by decide) ?_
      obtain ⟨g_2, hf⟩ := gdE hf
      refine ww_lald C (f := Model_stack v0) (w := wModel E a0 (rf2 (a0 1) h0_1) v0) 0 16 rfl c_Model_stack (inB_vp g_2) dX9_holdsFor_129 ?_
      refine ww_lconst (v := 1) C dX9_holdsFor_130 (by decide) ?_
      refine ww_lcmp C dX9_holdsFor_131 ?_
      refine ww_if_ne (tgt := 139) C dX9_holdsFor_132 (by decide) (fun c_3 => ?_) (fun c_3 => ?_)
      · replace hf := ifF c_3 hf
        refine ww_iconst (v := 0) C dX9_holdsFor_139 (by decide) ?_
        obtain rfl := Option.some.inj hf
        exact ww_zret C (nar_b false) ⟨rfl, rfl⟩ dX9_holdsFor_140
      · replace hf := ifT c_3 hf
        refine ww_iconst (v := 1) C dX9_holdsFor_135 (by decide) ?_
        refine ww_goto (tgt := 140) C dX9_holdsFor_136 (by decide) ?_
        obtain rfl := Option.some.inj hf
        exact ww_zret C (nar_b true) ⟨rfl, rfl⟩ dX9_holdsFor_140
    · replace hf := ifF c_1 hf
      refine ww_aload_n C dX9_holdsFor_12 rfl 0 rfl ?_
      refine ww_get C clOK9 in_X9_holdsFor_X9 (w := wModel E a0 (rf2 (a0 1) h0_1) v0) (fs := fsModel a0 (rf2 (a0 1) h0_1) v0) (v := .ref (a0 15)) 0 0 32 rfl q_Model (by decide) (by decide +kernel) g_Model_codes dX9_holdsFor_13 ?_
      refine ww_iload_n C dX9_holdsFor_16 rfl 3 rfl ?_
      obtain ⟨g_4, hf⟩ := gdE hf
      refine ww_iald C (f := Model_codes v0) (w := wModel E a0 (rf2 (a0 1) h0_1) v0) 0 15 rfl c_Model_codes (inB_vp g_4) dX9_holdsFor_17 ?_
      refine ww_topi (fun x4_18 e_x4_18 => ?_)
      replace hf := ltE e_x4_18 hf
      refine ww_istore (lv' := [(4, .int x4_18), (0, .ref (a0 0)), (1, .int x1), (2, .int x2), (3, .int x3)]) C dX9_holdsFor_18 (by decide) rfl ?_
      refine ww_iload C dX9_holdsFor_20 0 rfl ?_
      refine ww_bipush (v := (-23)) C dX9_holdsFor_22 (by decide) ?_
      refine ww_icmp_ne (tgt := 48) C dX9_holdsFor_24 (by decide) (fun c_6 => ?_) (fun c_6 => ?_)
      · replace hf := ifF c_6 hf
        refine ww_iload C dX9_holdsFor_48 0 rfl ?_
        refine ww_bipush (v := (-20)) C dX9_holdsFor_50 (by decide) ?_
        refine ww_icmp_le (tgt := 88) C dX9_holdsFor_52 (by decide) (fun c_7 => ?_) (fun c_7 => ?_)
        · replace hf := ifT c_7 hf
          obtain ⟨x2_88, e_x2_88⟩ : ∃ y : Int32, y = x2 + (-1) := ⟨_, rfl⟩
          replace hf := ltE e_x2_88 hf
          refine ww_iinc (v := x2_88) (lv' := [(2, .int x2_88), (4, .int x4_18), (0, .ref (a0 0)), (1, .int x1), (3, .int x3)]) C dX9_holdsFor_88 3 rfl (by rw [e_x2_88]; rfl) (by decide) rfl ?_
          refine ww_aload_n C dX9_holdsFor_91 rfl 2 rfl ?_
          refine ww_get C clOK9 in_X9_holdsFor_X9 (w := wModel E a0 (rf2 (a0 1) h0_1) v0) (fs := fsModel a0 (rf2 (a0 1) h0_1) v0) (v := .ref (a0 16)) 0 0 33 rfl q_Model (by decide) (by decide +kernel) g_Model_stack dX9_holdsFor_92 ?_
          refine ww_iload_n C dX9_holdsFor_95 rfl 0 rfl ?_
          refine ww_iconst (v := 1) C dX9_holdsFor_96 (by decide) ?_
          refine ww_isub C dX9_holdsFor_97 ?_
          refine ww_iload C dX9_holdsFor_98 1 rfl ?_
          refine ww_aload_n C dX9_holdsFor_100 rfl 2 rfl ?_
          refine ww_get C clOK9 in_X9_holdsFor_X9 (w := wModel E a0 (rf2 (a0 1) h0_1) v0) (fs := fsModel a0 (rf2 (a0 1) h0_1) v0) (v := .ref (a0 16)) 0 0 33 rfl q_Model (by decide) (by decide +kernel) g_Model_stack dX9_holdsFor_101 ?_
          refine ww_iload_n C dX9_holdsFor_104 rfl 0 rfl ?_
          refine ww_iconst (v := 1) C dX9_holdsFor_105 (by decide) ?_
          refine ww_isub C dX9_holdsFor_106 ?_
          obtain ⟨g_8, hf⟩ := gdE hf
          refine ww_lald C (f := Model_stack v0) (w := wModel E a0 (rf2 (a0 1) h0_1) v0) 0 16 rfl c_Model_stack (inB_vp g_8) dX9_holdsFor_107 ?_
          refine ww_aload_n C dX9_holdsFor_108 rfl 2 rfl ?_
          refine ww_get C clOK9 in_X9_holdsFor_X9 (w := wModel E a0 (rf2 (a0 1) h0_1) v0) (fs := fsModel a0 (rf2 (a0 1) h0_1) v0) (v := .ref (a0 16)) 0 0 33 rfl q_Model (by decide) (by decide +kernel) g_Model_stack dX9_holdsFor_109 ?_
          refine ww_iload_n C dX9_holdsFor_112 rfl 0 rfl ?_
          obtain ⟨g_9, hf⟩ := gdE hf
          refine ww_lald C (f := Model_stack v0) (w := wModel E a0 (rf2 (a0 1) h0_1) v0) 0 16 rfl c_Model_stack (inB_vp g_9) dX9_holdsFor_113 ?_
          obtain ⟨p114, hp114, hf⟩ := bdE hf
          refine ww_callS C (As := [.int x4_18, .long ((Model_stack v0) (Int32.toNatClampNeg (x2_88 - 1))), .long ((Model_stack v0) (Int32.toNatClampNeg x2_88))]) (st := [.int (x2_88 - 1), .ref (a0 16)]) (gr := [wModel E a0 (rf2 (a0 1) h0_1) v0]) (c_X9_operate (E := E)  hp114) gX9_holdsFor_X9_operate rfl ysk_X9_operate ⟨by decide, by decide⟩ ⟨by decide, by decide⟩ [] [0] 1 rfl (by decide) rfl rfl (Nat.le_of_ble_eq_true rfl) dX9_holdsFor_114 ?_
          rintro _ _ ⟨rfl, rfl⟩
          refine ww_perm (gs' := [wModel E a0 (rf2 (a0 1) h0_1) v0]) [0] 1 rfl (by decide) rfl ?_
          obtain ⟨v0_117, e_v0_117⟩ : ∃ y : ModelV, y = Model_set_stack v0 (vp_updL (Model_stack v0) (Int32.toNatClampNeg (x2_88 - 1)) p114) := ⟨_, rfl⟩
          replace hf := ltE e_v0_117 hf
          refine ww_last C (f := Model_stack v0) (w := wModel E a0 (rf2 (a0 1) h0_1) v0) (w' := wModel E a0 (rf2 (a0 1) h0_1) v0_117) (gs' := [wModel E a0 (rf2 (a0 1) h0_1) v0_117]) 0 16 rfl c_Model_stack (inB_vp g_8) (by rw [e_v0_117]; exact s_Model_stack) rfl dX9_holdsFor_117 ?_
          obtain ⟨x3_118, e_x3_118⟩ : ∃ y : Int32, y = x3 + 1 := ⟨_, rfl⟩
          replace hf := ltE e_x3_118 hf
          refine ww_iinc (v := x3_118) (lv' := [(3, .int x3_118), (2, .int x2_88), (4, .int x4_18), (0, .ref (a0 0)), (1, .int x1)]) C dX9_holdsFor_118 4 rfl (by rw [e_x3_118]; rfl) (by decide) rfl ?_
          refine ww_goto (tgt := 4) C dX9_holdsFor_121 (by decide) ?_
          refine ww_sub C (lv' := [(0, .ref (a0 0)), (1, .int x1), (2, .int x2_88), (3, .int x3_118)]) [3, 4, 1, 0] rfl ?_
          exact ih _ _ _ hf
        · replace hf := ifF c_7 hf
          refine ww_aload_n C dX9_holdsFor_55 rfl 1 rfl ?_
          refine ww_get C clOK9 in_X9_holdsFor_X9 (w := wModel E a0 (rf2 (a0 1) h0_1) v0) (fs := fsModel a0 (rf2 (a0 1) h0_1) v0) (v := .ref (a0 16)) 0 0 33 rfl q_Model (by decide) (by decide +kernel) g_Model_stack dX9_holdsFor_56 ?_
          refine ww_iload_n C dX9_holdsFor_59 rfl 3 rfl ?_
          refine ww_iload C dX9_holdsFor_60 0 rfl ?_
          refine ww_if_lt (tgt := 71) C dX9_holdsFor_62 (by decide) (fun c_10 => ?_) (fun c_10 => ?_)
          · replace hf := ifT c_10 hf
            refine ww_aload_n C dX9_holdsFor_71 rfl 1 rfl ?_
            refine ww_iload_n C dX9_holdsFor_72 rfl 2 rfl ?_
            refine ww_iconst (v := (-1)) C dX9_holdsFor_73 (by decide) ?_
            refine ww_iload C dX9_holdsFor_74 0 rfl ?_
            refine ww_isub C dX9_holdsFor_76 ?_
            obtain ⟨p77, hp77, hf⟩ := bdE hf
            refine ww_callV C (As := [.int x1, .int ((-1) - x4_18)]) (st := [.int x2, .ref (a0 16)]) (gr := []) (c_X9_property (E := E) (a0 := a0) (h0_1 := h0_1) hp77) gX9_holdsFor_X9_property rfl yk_X9_property ⟨by decide, by decide⟩ ⟨by decide, by decide⟩ clOK9 0 0 rfl rfl [0] [] 1 rfl (by decide) rfl rfl (Nat.le_of_ble_eq_true rfl) dX9_holdsFor_77 ?_
            rintro _ _ ⟨rfl, rfl⟩
            refine ww_perm (gs' := [wModel E a0 (rf2 (a0 1) h0_1) v0]) [0] 1 rfl (by decide) rfl ?_
            refine ww_i2l C dX9_holdsFor_80 ?_
            obtain ⟨g_11, hf⟩ := gdE hf
            obtain ⟨v0_81, e_v0_81⟩ : ∃ y : ModelV, y = Model_set_stack v0 (vp_updL (Model_stack v0) (Int32.toNatClampNeg x2) (Int32.toInt64 p77)) := ⟨_, rfl⟩
            replace hf := ltE e_v0_81 hf
            refine ww_last C (f := Model_stack v0) (w := wModel E a0 (rf2 (a0 1) h0_1) v0) (w' := wModel E a0 (rf2 (a0 1) h0_1) v0_81) (gs' := [wModel E a0 (rf2 (a0 1) h0_1) v0_81]) 0 16 rfl c_Model_stack (inB_vp g_11) (by rw [e_v0_81]; exact s_Model_stack) rfl dX9_holdsFor_81 ?_
            obtain ⟨x2_82, e_x2_82⟩ : ∃ y : Int32, y = x2 + 1 := ⟨_, rfl⟩
            replace hf := ltE e_x2_82 hf
            refine ww_iinc (v := x2_82) (lv' := [(2, .int x2_82), (4, .int x4_18), (0, .ref (a0 0)), (1, .int x1), (3, .int x3)]) C dX9_holdsFor_82 3 rfl (by rw [e_x2_82]; rfl) (by decide) rfl ?_
            refine ww_goto (tgt := 118) C dX9_holdsFor_85 (by decide) ?_
            obtain ⟨x3_118, e_x3_118⟩ : ∃ y : Int32, y = x3 + 1 := ⟨_, rfl⟩
            replace hf := ltE e_x3_118 hf
            refine ww_iinc (v := x3_118) (lv' := [(3, .int x3_118), (2, .int x2_82), (4, .int x4_18), (0, .ref (a0 0)), (1, .int x1)]) C dX9_holdsFor_118 4 rfl (by rw [e_x3_118]; rfl) (by decide) rfl ?_
            refine ww_goto (tgt := 4) C dX9_holdsFor_121 (by decide) ?_
            refine ww_sub C (lv' := [(0, .ref (a0 0)), (1, .int x1), (2, .int x2_82), (3, .int x3_118)]) [3, 4, 1, 0] rfl ?_
            exact ih _ _ _ hf
          · replace hf := ifF c_10 hf
            refine ww_iload C dX9_holdsFor_65 0 rfl ?_
            refine ww_i2l C dX9_holdsFor_67 ?_
            refine ww_goto (tgt := 81) C dX9_holdsFor_68 (by decide) ?_
            obtain ⟨g_12, hf⟩ := gdE hf
            obtain ⟨v0_81, e_v0_81⟩ : ∃ y : ModelV, y = Model_set_stack v0 (vp_updL (Model_stack v0) (Int32.toNatClampNeg x2) (Int32.toInt64 x4_18)) := ⟨_, rfl⟩
            replace hf := ltE e_v0_81 hf
            refine ww_last C (f := Model_stack v0) (w := wModel E a0 (rf2 (a0 1) h0_1) v0) (w' := wModel E a0 (rf2 (a0 1) h0_1) v0_81) (gs' := [wModel E a0 (rf2 (a0 1) h0_1) v0_81]) 0 16 rfl c_Model_stack (inB_vp g_12) (by rw [e_v0_81]; exact s_Model_stack) rfl dX9_holdsFor_81 ?_
            obtain ⟨x2_82, e_x2_82⟩ : ∃ y : Int32, y = x2 + 1 := ⟨_, rfl⟩
            replace hf := ltE e_x2_82 hf
            refine ww_iinc (v := x2_82) (lv' := [(2, .int x2_82), (4, .int x4_18), (0, .ref (a0 0)), (1, .int x1), (3, .int x3)]) C dX9_holdsFor_82 3 rfl (by rw [e_x2_82]; rfl) (by decide) rfl ?_
            refine ww_goto (tgt := 118) C dX9_holdsFor_85 (by decide) ?_
            obtain ⟨x3_118, e_x3_118⟩ : ∃ y : Int32, y = x3 + 1 := ⟨_, rfl⟩
            replace hf := ltE e_x3_118 hf
            refine ww_iinc (v := x3_118) (lv' := [(3, .int x3_118), (2, .int x2_82), (4, .int x4_18), (0, .ref (a0 0)), (1, .int x1)]) C dX9_holdsFor_118 4 rfl (by rw [e_x3_118]; rfl) (by decide) rfl ?_
            refine ww_goto (tgt := 4) C dX9_holdsFor_121 (by decide) ?_
            refine ww_sub C (lv' := [(0, .ref (a0 0)), (1, .int x1), (2, .int x2_82), (3, .int x3_118)]) [3, 4, 1, 0] rfl ?_
            exact ih _ _ _ hf
      · replace hf := ifT c_6 hf
        refine ww_aload_n C dX9_holdsFor_27 rfl 1 rfl ?_
        refine ww_get C clOK9 in_X9_holdsFor_X9 (w := wModel E a0 (rf2 (a0 1) h0_1) v0) (fs := fsModel a0 (rf2 (a0 1) h0_1) v0) (v := .ref (a0 16)) 0 0 33 rfl q_Model (by decide) (by decide +kernel) g_Model_stack dX9_holdsFor_28 ?_
        refine ww_iload_n C dX9_holdsFor_31 rfl 3 rfl ?_
        refine ww_iconst (v := 1) C dX9_holdsFor_32 (by decide) ?_
        refine ww_isub C dX9_holdsFor_33 ?_
        refine ww_lconst (v := 1) C dX9_holdsFor_34 (by decide) ?_
        refine ww_aload_n C dX9_holdsFor_35 rfl 1 rfl ?_
        refine ww_get C clOK9 in_X9_holdsFor_X9 (w := wModel E a0 (rf2 (a0 1) h0_1) v0) (fs := fsModel a0 (rf2 (a0 1) h0_1) v0) (v := .ref (a0 16)) 0 0 33 rfl q_Model (by decide) (by decide +kernel) g_Model_stack dX9_holdsFor_36 ?_
        refine ww_iload_n C dX9_holdsFor_39 rfl 3 rfl ?_
        refine ww_iconst (v := 1) C dX9_holdsFor_40 (by decide) ?_
        refine ww_isub C dX9_holdsFor_41 ?_
        obtain ⟨g_13, hf⟩ := gdE hf
        refine ww_lald C (f := Model_stack v0) (w := wModel E a0 (rf2 (a0 1) h0_1) v0) 0 16 rfl c_Model_stack (inB_vp g_13) dX9_holdsFor_42 ?_
        refine ww_lsub C dX9_holdsFor_43 ?_
        obtain ⟨v0_44, e_v0_44⟩ : ∃ y : ModelV, y = Model_set_stack v0 (vp_updL (Model_stack v0) (Int32.toNatClampNeg (x2 - 1)) (1 - ((Model_stack v0) (Int32.toNatClampNeg (x2 - 1))))) := ⟨_, rfl⟩
        replace hf := ltE e_v0_44 hf
        refine ww_last C (f := Model_stack v0) (w := wModel E a0 (rf2 (a0 1) h0_1) v0) (w' := wModel E a0 (rf2 (a0 1) h0_1) v0_44) (gs' := [wModel E a0 (rf2 (a0 1) h0_1) v0_44]) 0 16 rfl c_Model_stack (inB_vp g_13) (by rw [e_v0_44]; exact s_Model_stack) rfl dX9_holdsFor_44 ?_
        refine ww_goto (tgt := 118) C dX9_holdsFor_45 (by decide) ?_
        obtain ⟨x3_118, e_x3_118⟩ : ∃ y : Int32, y = x3 + 1 := ⟨_, rfl⟩
        replace hf := ltE e_x3_118 hf
        refine ww_iinc (v := x3_118) (lv' := [(3, .int x3_118), (4, .int x4_18), (0, .ref (a0 0)), (1, .int x1), (2, .int x2)]) C dX9_holdsFor_118 4 rfl (by rw [e_x3_118]; rfl) (by decide) rfl ?_
        refine ww_goto (tgt := 4) C dX9_holdsFor_121 (by decide) ?_
        refine ww_sub C (lv' := [(0, .ref (a0 0)), (1, .int x1), (2, .int x2), (3, .int x3_118)]) [2, 3, 4, 0] rfl ?_
        exact ih _ _ _ hf

set_option maxHeartbeats 4000000 in
set_option maxRecDepth 100000 in
theorem c_X9_holdsFor {E : Ex} {a0 : Nat → Nat} {h0_1 : Nat} {x1 : Int32} {v0 : ModelV} {r : (Bool × ModelV)} (hf : Mod_holdsFor x1 v0 = some r) : Ct E yX9_holdsFor wsX9_holdsFor rmX9_holdsFor [.ref (a0 0), .int x1] [wModel E a0 (rf2 (a0 1) h0_1) v0] (fun rv g => rv = some (.int (b2i r.1)) ∧ g = [wModel E a0 (rf2 (a0 1) h0_1) r.2]) := by
  refine ct_of (own := RX9) (by decide +kernel) rfl rfl (Nat.le_of_ble_eq_true rfl) (fun K C => ?_)
  refine ww_sub C (lv' := [(0, .ref (a0 0)), (1, .int x1)]) [0, 1] rfl ?_
  rw [Mod_holdsFor] at hf
  refine ww_iconst (v := 0) C dX9_holdsFor_0 (by decide) ?_
  refine ww_istore_n (lv' := [(2, .int 0), (0, .ref (a0 0)), (1, .int x1)]) C dX9_holdsFor_1 rfl (by decide) rfl ?_
  refine ww_iconst (v := 0) C dX9_holdsFor_2 (by decide) ?_
  refine ww_istore_n (lv' := [(3, .int 0), (2, .int 0), (0, .ref (a0 0)), (1, .int x1)]) C dX9_holdsFor_3 rfl (by decide) rfl ?_
  refine ww_sub C (lv' := [(0, .ref (a0 0)), (1, .int x1), (2, .int 0), (3, .int 0)]) [2, 3, 1, 0] rfl ?_
  exact w_X9_holdsFor_4 C FU _ _ _ hf

theorem yk_X9_holdsFor : yX9_holdsFor.cls = RX9 ∧ yX9_holdsFor.cls ≠ "java/lang/invoke/MethodHandle" ∧ yX9_holdsFor.cls ≠ "java/lang/invoke/VarHandle" ∧ (parseMethodDescriptor yX9_holdsFor.desc).map (fun d => d.parameters.length) = some 1 := by decide +kernel
abbrev rmX9_query : Room := { frames := 81, cells := 0, slots := 0, locals := 4020 }
set_option maxRecDepth 20000 in
theorem in_X9_query_X9 : ∀ w ∈ u_ws RX9 TX9 35, w ∈ wsX9_query := by decide +kernel
set_option maxHeartbeats 4000000 in
set_option maxRecDepth 100000 in
theorem w_X9_query_128 {E : Ex} {K : Kx} (C : Cx E K cX9_query 5 (some .int) RX9 wsX9_query rmX9_query) {a0 : Nat → Nat} {q1 : Nat} {x1 : Int32} {x2 : Int32} {r : (Int32 × ModelV)} : ∀ (n : Nat) (x3 : Int32) (x4 : Int32) (v0 : ModelV), Mod_query_128 x1 x2 n x3 x4 v0 = some r → WW E K 0 0 (QQ E K (fun rv g => rv = some (.int r.1) ∧ g = [wModel E a0 (rf2 (a0 1) q1) r.2, wNm E q1]) 0 0) 128 [(0, .ref (a0 0)), (2, .int x2), (3, .int x3), (4, .int x4)] [] [wModel E a0 (rf2 (a0 1) q1) v0, wNm E q1] := by
  intro n
  induction n with
  | zero =>
    intro x3 x4 v0 hf
    simp [Mod_query_128] at hf
  | succ n ih =>
    intro x3 x4 v0 hf
    rw [Mod_query_128] at hf
    refine ww_iload C dX9_query_128 3 rfl ?_
    refine ww_aload_n C dX9_query_130 rfl 0 rfl ?_
    obtain ⟨p131, hp131, hf⟩ := bdE hf
    refine ww_callV C (As := []) (st := [.int x4]) (gr := [wNm E q1]) (c_X9_rooms (E := E) (a0 := a0) (h0_1 := q1) hp131) gX9_query_X9_rooms rfl yk_X9_rooms ⟨by decide, by decide⟩ ⟨by decide, by decide⟩ clOK9 0 0 rfl rfl [0] [1] 2 rfl (by decide) rfl rfl (Nat.le_of_ble_eq_true rfl) dX9_query_131 ?_
    rintro _ _ ⟨rfl, rfl⟩
    refine ww_perm (gs' := [wModel E a0 (rf2 (a0 1) q1) v0, wNm E q1]) [0, 1] 2 rfl (by decide) rfl ?_
    refine ww_icmp_ge (tgt := 165) C dX9_query_134 (by decide) (fun c_10 => ?_) (fun c_10 => ?_)
    · replace hf := ifT c_10 hf
      refine ww_iload_n C dX9_query_165 rfl 1 rfl ?_
      refine ww_if_eq (tgt := 173) C dX9_query_166 (by decide) (fun c_11 => ?_) (fun c_11 => ?_)
      · replace hf := ifT c_11 hf
        refine ww_iload_n C dX9_query_173 rfl 2 rfl ?_
        obtain rfl := Option.some.inj hf
        exact ww_iret C ⟨rfl, rfl⟩ dX9_query_174
      · replace hf := ifF c_11 hf
        refine ww_iconst (v := (-1)) C dX9_query_169 (by decide) ?_
        refine ww_goto (tgt := 174) C dX9_query_170 (by decide) ?_
        obtain rfl := Option.some.inj hf
        exact ww_iret C ⟨rfl, rfl⟩ dX9_query_174
    · replace hf := ifF c_10 hf
      refine ww_aload_n C dX9_query_137 rfl 0 rfl ?_
      refine ww_iload C dX9_query_138 3 rfl ?_
      obtain ⟨p140, hp140, hf⟩ := bdE hf
      refine ww_callV C (As := [.int x4]) (st := []) (gr := [wNm E q1]) (c_X9_holdsFor (E := E) (a0 := a0) (h0_1 := q1) hp140) gX9_query_X9_holdsFor rfl yk_X9_holdsFor ⟨by decide, by decide⟩ ⟨by decide, by decide⟩ clOK9 0 0 rfl rfl [0] [1] 2 rfl (by decide) rfl rfl (Nat.le_of_ble_eq_true rfl) dX9_query_140 ?_
      rintro _ _ ⟨rfl, rfl⟩
      refine ww_perm (gs' := [wModel E a0 (rf2 (a0 1) q1) p140.2, wNm E q1]) [0, 1] 2 rfl (by decide) rfl ?_
      refine ww_if_neB (tgt := 149) C dX9_query_143 (by decide) (fun c_12 => ?_) (fun c_12 => ?_)
      · replace hf := btE c_12 hf
        refine ww_iload_n C dX9_query_149 rfl 1 rfl ?_
        refine ww_if_eq (tgt := 156) C dX9_query_150 (by decide) (fun c_13 => ?_) (fun c_13 => ?_)
        · replace hf := ifT c_13 hf
          obtain ⟨x3_156, e_x3_156⟩ : ∃ y : Int32, y = x3 + 1 := ⟨_, rfl⟩
          replace hf := ltE e_x3_156 hf
          refine ww_iinc (v := x3_156) (lv' := [(3, .int x3_156), (0, .ref (a0 0)), (2, .int x2), (4, .int x4)]) C dX9_query_156 2 rfl (by rw [e_x3_156]; rfl) (by decide) rfl ?_
          obtain ⟨x4_159, e_x4_159⟩ : ∃ y : Int32, y = x4 + 1 := ⟨_, rfl⟩
          replace hf := ltE e_x4_159 hf
          refine ww_iinc (v := x4_159) (lv' := [(4, .int x4_159), (3, .int x3_156), (0, .ref (a0 0)), (2, .int x2)]) C dX9_query_159 3 rfl (by rw [e_x4_159]; rfl) (by decide) rfl ?_
          refine ww_goto (tgt := 128) C dX9_query_162 (by decide) ?_
          refine ww_sub C (lv' := [(0, .ref (a0 0)), (2, .int x2), (3, .int x3_156), (4, .int x4_159)]) [2, 3, 1, 0] rfl ?_
          exact ih _ _ _ hf
        · replace hf := ifF c_13 hf
          refine ww_iload C dX9_query_153 3 rfl ?_
          obtain rfl := Option.some.inj hf
          exact ww_iret C ⟨rfl, rfl⟩ dX9_query_155
      · replace hf := bfE c_12 hf
        refine ww_goto (tgt := 159) C dX9_query_146 (by decide) ?_
        obtain ⟨x4_159, e_x4_159⟩ : ∃ y : Int32, y = x4 + 1 := ⟨_, rfl⟩
        replace hf := ltE e_x4_159 hf
        refine ww_iinc (v := x4_159) (lv' := [(4, .int x4_159), (0, .ref (a0 0)), (2, .int x2), (3, .int x3)]) C dX9_query_159 3 rfl (by rw [e_x4_159]; rfl) (by decide) rfl ?_
        refine ww_goto (tgt := 128) C dX9_query_162 (by decide) ?_
        refine ww_sub C (lv' := [(0, .ref (a0 0)), (2, .int x2), (3, .int x3), (4, .int x4_159)]) [1, 2, 3, 0] rfl ?_
        exact ih _ _ _ hf

set_option maxHeartbeats 4000000 in
set_option maxRecDepth 100000 in
theorem w_X9_query_99 {E : Ex} {K : Kx} (C : Cx E K cX9_query 5 (some .int) RX9 wsX9_query rmX9_query) {a0 : Nat → Nat} {q1 : Nat} {x1 : Int32}  {x2 : Int32} {s0 : Int32} {v0 : ModelV} {r : (Int32 × ModelV)} (hf : Mod_query_99 x1 x2 s0 v0 = some r) : WW E K 0 0 (QQ E K (fun rv g => rv = some (.int r.1) ∧ g = [wModel E a0 (rf2 (a0 1) q1) r.2, wNm E q1]) 0 0) 99 [(0, .ref (a0 0)), (2, .int x2)] [.int s0, .ref (a0 0)] [wModel E a0 (rf2 (a0 1) q1) v0, wNm E q1] := by
  rw [Mod_query_99] at hf
  refine ww_iconst (v := 1) C dX9_query_99 (by decide) ?_
  obtain ⟨z_8, e_z_8, hf⟩ := asBE hf
  rw [e_z_8]
  obtain ⟨p100, hp100, hf⟩ := bdE hf
  refine ww_callV C (As := [.int (b2i z_8), .int 1]) (st := []) (gr := [wNm E q1]) (c_X9_check (E := E) (a0 := a0) (h0_0 := a0 1) (h0_1 := q1) hp100) gX9_query_X9_check rfl yk_X9_check ⟨by decide, by decide⟩ ⟨by decide, by decide⟩ clOK9 0 0 rfl rfl [0] [1] 2 rfl (by decide) rfl rfl (Nat.le_of_ble_eq_true rfl) dX9_query_100 ?_
  rintro _ _ ⟨rfl, rfl⟩
  refine ww_perm (gs' := [wModel E a0 (rf2 (a0 1) q1) p100, wNm E q1]) [0, 1] 2 rfl (by decide) rfl ?_
  refine ww_aload_n C dX9_query_103 rfl 0 rfl ?_
  obtain ⟨p104, hp104, hf⟩ := bdE hf
  refine ww_callV C (As := []) (st := []) (gr := [wNm E q1]) (c_X9_finish (E := E) (a0 := a0) (h0_0 := a0 1) (h0_1 := q1) hp104) gX9_query_X9_finish rfl yk_X9_finish ⟨by decide, by decide⟩ ⟨by decide, by decide⟩ clOK9 0 0 rfl rfl [0] [1] 2 rfl (by decide) rfl rfl (Nat.le_of_ble_eq_true rfl) dX9_query_104 ?_
  rintro _ _ ⟨rfl, rfl⟩
  refine ww_perm (gs' := [wModel E a0 (rf2 (a0 1) q1) p104.2, wNm E q1]) [0, 1] 2 rfl (by decide) rfl ?_
  refine ww_if_eq (tgt := 119) C dX9_query_107 (by decide) (fun c_9 => ?_) (fun c_9 => ?_)
  · replace hf := ifT c_9 hf
    refine ww_iconst (v := 0) C dX9_query_119 (by decide) ?_
    refine ww_istore_n (lv' := [(3, .int 0), (0, .ref (a0 0)), (2, .int x2)]) C dX9_query_120 rfl (by decide) rfl ?_
    refine ww_aload_n C dX9_query_121 rfl 1 rfl ?_
    obtain ⟨p122, hp122, hf⟩ := bdE hf
    refine ww_callV C (As := []) (st := []) (gr := [wNm E q1]) (c_X9_layNow (E := E) (a0 := a0) (h0_1 := q1) hp122) gX9_query_X9_layNow rfl yk_X9_layNow ⟨by decide, by decide⟩ ⟨by decide, by decide⟩ clOK9 0 0 rfl rfl [0] [1] 2 rfl (by decide) rfl rfl (Nat.le_of_ble_eq_true rfl) dX9_query_122 ?_
    rintro _ _ ⟨rfl, rfl⟩
    refine ww_perm (gs' := [wModel E a0 (rf2 (a0 1) q1) p122, wNm E q1]) [0, 1] 2 rfl (by decide) rfl ?_
    refine ww_iconst (v := 0) C dX9_query_125 (by decide) ?_
    refine ww_istore (lv' := [(4, .int 0), (3, .int 0), (0, .ref (a0 0)), (2, .int x2)]) C dX9_query_126 (by decide) rfl ?_
    refine ww_sub C (lv' := [(0, .ref (a0 0)), (2, .int x2), (3, .int 0), (4, .int 0)]) [2, 3, 1, 0] rfl ?_
    exact w_X9_query_128 C FU _ _ _ hf
  · replace hf := ifF c_9 hf
    refine ww_ldcw (v := (-1000000000)) C (by decide +kernel) dX9_query_110 ?_
    refine ww_aload_n C dX9_query_113 rfl 0 rfl ?_
    refine ww_get C clOK9 in_X9_query_X9 (w := wModel E a0 (rf2 (a0 1) q1) p104.2) (fs := fsModel a0 (rf2 (a0 1) q1) p104.2) (v := .int (Model_error p104.2)) 0 0 27 rfl q_Model (by decide) (by decide +kernel) g_Model_error dX9_query_114 ?_
    refine ww_isub C dX9_query_117 ?_
    obtain rfl := Option.some.inj hf
    exact ww_iret C ⟨rfl, rfl⟩ dX9_query_118

set_option maxHeartbeats 4000000 in
set_option maxRecDepth 100000 in
theorem w_X9_query_94 {E : Ex} {K : Kx} (C : Cx E K cX9_query 5 (some .int) RX9 wsX9_query rmX9_query) {a0 : Nat → Nat} {q1 : Nat} {x1 : Int32}  {x2 : Int32} {v0 : ModelV} {r : (Int32 × ModelV)} (hf : Mod_query_94 x1 x2 v0 = some r) : WW E K 0 0 (QQ E K (fun rv g => rv = some (.int r.1) ∧ g = [wModel E a0 (rf2 (a0 1) q1) r.2, wNm E q1]) 0 0) 94 [(0, .ref (a0 0)), (2, .int x2)] [.ref (a0 0)] [wModel E a0 (rf2 (a0 1) q1) v0, wNm E q1] := by
  rw [Mod_query_94] at hf
  refine ww_iconst (v := 1) C dX9_query_94 (by decide) ?_
  refine ww_goto (tgt := 99) C dX9_query_95 (by decide) ?_
  refine ww_sub C (lv' := [(0, .ref (a0 0)), (2, .int x2)]) [0, 1] rfl ?_
  exact w_X9_query_99 C hf

set_option maxHeartbeats 4000000 in
set_option maxRecDepth 100000 in
theorem w_X9_query_67 {E : Ex} {K : Kx} (C : Cx E K cX9_query 5 (some .int) RX9 wsX9_query rmX9_query) {a0 : Nat → Nat} {q1 : Nat} {x1 : Int32}  {x2 : Int32} {s0 : Int32} {v0 : ModelV} {r : (Int32 × ModelV)} (hf : Mod_query_67 x1 x2 s0 v0 = some r) : WW E K 0 0 (QQ E K (fun rv g => rv = some (.int r.1) ∧ g = [wModel E a0 (rf2 (a0 1) q1) r.2, wNm E q1]) 0 0) 67 [(0, .ref (a0 0)), (2, .int x2)] [.int s0, .ref (a0 0)] [wModel E a0 (rf2 (a0 1) q1) v0, wNm E q1] := by
  rw [Mod_query_67] at hf
  refine ww_iconst (v := 1) C dX9_query_67 (by decide) ?_
  obtain ⟨z_5, e_z_5, hf⟩ := asBE hf
  rw [e_z_5]
  obtain ⟨p68, hp68, hf⟩ := bdE hf
  refine ww_callV C (As := [.int (b2i z_5), .int 1]) (st := []) (gr := [wNm E q1]) (c_X9_check (E := E) (a0 := a0) (h0_0 := a0 1) (h0_1 := q1) hp68) gX9_query_X9_check rfl yk_X9_check ⟨by decide, by decide⟩ ⟨by decide, by decide⟩ clOK9 0 0 rfl rfl [0] [1] 2 rfl (by decide) rfl rfl (Nat.le_of_ble_eq_true rfl) dX9_query_68 ?_
  rintro _ _ ⟨rfl, rfl⟩
  refine ww_perm (gs' := [wModel E a0 (rf2 (a0 1) q1) p68, wNm E q1]) [0, 1] 2 rfl (by decide) rfl ?_
  refine ww_aload_n C dX9_query_71 rfl 0 rfl ?_
  obtain ⟨p72, hp72, hf⟩ := bdE hf
  refine ww_callV C (As := []) (st := []) (gr := [wNm E q1]) (c_X9_advance (E := E) (a0 := a0) (h0_0 := a0 1) (h0_1 := q1) hp72) gX9_query_X9_advance rfl yk_X9_advance ⟨by decide, by decide⟩ ⟨by decide, by decide⟩ clOK9 0 0 rfl rfl [0] [1] 2 rfl (by decide) rfl rfl (Nat.le_of_ble_eq_true rfl) dX9_query_72 ?_
  rintro _ _ ⟨rfl, rfl⟩
  refine ww_perm (gs' := [wModel E a0 (rf2 (a0 1) q1) p72, wNm E q1]) [0, 1] 2 rfl (by decide) rfl ?_
  refine ww_aload_n C dX9_query_75 rfl 0 rfl ?_
  obtain ⟨p76, hp76, hf⟩ := bdE hf
  refine ww_callV C (As := []) (st := []) (gr := []) (c_X9_compileTest (E := E) (k := 7) (a0 := a0) (h0_0 := a0 1) (q1 := q1) (c_X9_compileFactor_lev 7) hp76) gX9_query_X9_compileTest rfl yk_X9_compileTest ⟨by decide, by decide⟩ ⟨by decide, by decide⟩ clOK9 0 0 rfl rfl [0, 1] [] 2 rfl (by decide) rfl rfl (Nat.le_of_ble_eq_true rfl) dX9_query_76 ?_
  rintro _ _ ⟨rfl, rfl⟩
  refine ww_perm (gs' := [wModel E a0 (rf2 (a0 1) q1) p76, wNm E q1]) [0, 1] 2 rfl (by decide) rfl ?_
  refine ww_aload_n C dX9_query_79 rfl 0 rfl ?_
  refine ww_aload_n C dX9_query_80 rfl 0 rfl ?_
  refine ww_get C clOK9 in_X9_query_X9 (w := wModel E a0 (rf2 (a0 1) q1) p76) (fs := fsModel a0 (rf2 (a0 1) q1) p76) (v := .int (Model_error p76)) 0 0 27 rfl q_Model (by decide) (by decide +kernel) g_Model_error dX9_query_81 ?_
  refine ww_if_ne (tgt := 94) C dX9_query_84 (by decide) (fun c_6 => ?_) (fun c_6 => ?_)
  · replace hf := ifF c_6 hf
    refine ww_sub C (lv' := [(0, .ref (a0 0)), (2, .int x2)]) [0, 1] rfl ?_
    exact w_X9_query_94 C hf
  · replace hf := ifT c_6 hf
    refine ww_aload_n C dX9_query_87 rfl 0 rfl ?_
    refine ww_get C clOK9 in_X9_query_X9 (w := wModel E a0 (rf2 (a0 1) q1) p76) (fs := fsModel a0 (rf2 (a0 1) q1) p76) (v := .int (Model_token p76)) 0 0 26 rfl q_Model (by decide) (by decide +kernel) g_Model_token dX9_query_88 ?_
    refine ww_if_ne (tgt := 98) C dX9_query_91 (by decide) (fun c_7 => ?_) (fun c_7 => ?_)
    · replace hf := ifF c_7 hf
      refine ww_iconst (v := 0) C dX9_query_98 (by decide) ?_
      refine ww_sub C (lv' := [(0, .ref (a0 0)), (2, .int x2)]) [0, 1] rfl ?_
      exact w_X9_query_99 C hf
    · replace hf := ifT c_7 hf
      refine ww_sub C (lv' := [(0, .ref (a0 0)), (2, .int x2)]) [0, 1] rfl ?_
      exact w_X9_query_94 C hf

set_option maxHeartbeats 4000000 in
set_option maxRecDepth 100000 in
theorem w_X9_query_62 {E : Ex} {K : Kx} (C : Cx E K cX9_query 5 (some .int) RX9 wsX9_query rmX9_query) {a0 : Nat → Nat} {q1 : Nat} {x1 : Int32}  {x2 : Int32} {v0 : ModelV} {r : (Int32 × ModelV)} (hf : Mod_query_62 x1 x2 v0 = some r) : WW E K 0 0 (QQ E K (fun rv g => rv = some (.int r.1) ∧ g = [wModel E a0 (rf2 (a0 1) q1) r.2, wNm E q1]) 0 0) 62 [(0, .ref (a0 0)), (2, .int x2)] [.ref (a0 0)] [wModel E a0 (rf2 (a0 1) q1) v0, wNm E q1] := by
  rw [Mod_query_62] at hf
  refine ww_iconst (v := 1) C dX9_query_62 (by decide) ?_
  refine ww_goto (tgt := 67) C dX9_query_63 (by decide) ?_
  refine ww_sub C (lv' := [(0, .ref (a0 0)), (2, .int x2)]) [0, 1] rfl ?_
  exact w_X9_query_67 C hf

set_option maxHeartbeats 4000000 in
set_option maxRecDepth 100000 in
theorem c_X9_query {E : Ex} {a0 : Nat → Nat} {q1 : Nat} {x1 : Int32} {v0 : ModelV} {r : (Int32 × ModelV)} (hf : Mod_query x1 v0 = some r) : Ct E yX9_query wsX9_query rmX9_query [.ref (a0 0), .int x1] [wModel E a0 (rf2 (a0 1) q1) v0, wNm E q1] (fun rv g => rv = some (.int r.1) ∧ g = [wModel E a0 (rf2 (a0 1) q1) r.2, wNm E q1]) := by
  refine ct_of (own := RX9) (by decide +kernel) rfl rfl (Nat.le_of_ble_eq_true rfl) (fun K C => ?_)
  refine ww_sub C (lv' := [(0, .ref (a0 0)), (1, .int x1)]) [0, 1] rfl ?_
  rw [Mod_query] at hf
  refine ww_aload_n C dX9_query_0 rfl 0 rfl ?_
  refine ww_iconst (v := 0) C dX9_query_1 (by decide) ?_
  obtain ⟨v0_2, e_v0_2⟩ : ∃ y : ModelV, y = Model_set_thrown v0 0 := ⟨_, rfl⟩
  replace hf := ltE e_v0_2 hf
  refine ww_put C clOK9 in_X9_query_X9 (w := wModel E a0 (rf2 (a0 1) q1) v0) (fs := fsModel a0 (rf2 (a0 1) q1) v0) (w' := wModel E a0 (rf2 (a0 1) q1) v0_2) (gs' := [wModel E a0 (rf2 (a0 1) q1) v0_2, wNm E q1]) 0 0 5 rfl q_Model (by decide) (by decide +kernel) rfl rfl rfl rfl l_Model (by rw [e_v0_2]; exact p_Model_thrown) rfl dX9_query_2 ?_
  refine ww_iload_n C dX9_query_5 rfl 1 rfl ?_
  refine ww_iconst (v := 0) C dX9_query_6 (by decide) ?_
  refine ww_aload_n C dX9_query_7 rfl 0 rfl ?_
  refine ww_get C clOK9 in_X9_query_X9 (w := wModel E a0 (rf2 (a0 1) q1) v0_2) (fs := fsModel a0 (rf2 (a0 1) q1) v0_2) (v := .int (Model_bufferLength v0_2)) 0 0 22 rfl q_Model (by decide) (by decide +kernel) g_Model_bufferLength dX9_query_8 ?_
  refine ww_sipush (v := 200) C dX9_query_11 (by decide) ?_
  refine ww_min C (by decide +kernel) (by decide +kernel) (by decide +kernel) (by decide +kernel) (by decide) (Nat.le_of_ble_eq_true rfl) (by decide) (by decide) dX9_query_14 ?_
  obtain ⟨p17, hp17, hf⟩ := bdE hf
  refine ww_callS C (As := [.int x1, .int 0, .int (imin (Model_bufferLength v0_2) 200)]) (st := []) (gr := [wModel E a0 (rf2 (a0 1) q1) v0_2, wNm E q1]) (c_X9_inRange (E := E)  hp17) gX9_query_X9_inRange rfl ysk_X9_inRange ⟨by decide, by decide⟩ ⟨by decide, by decide⟩ [] [0, 1] 2 rfl (by decide) rfl rfl (Nat.le_of_ble_eq_true rfl) dX9_query_17 ?_
  rintro _ _ ⟨rfl, rfl⟩
  refine ww_perm (gs' := [wModel E a0 (rf2 (a0 1) q1) v0_2, wNm E q1]) [0, 1] 2 rfl (by decide) rfl ?_
  refine ww_if_neB (tgt := 29) C dX9_query_20 (by decide) (fun c_1 => ?_) (fun c_1 => ?_)
  · replace hf := btE c_1 hf
    refine ww_aload_n C dX9_query_29 rfl 0 rfl ?_
    refine ww_iconst (v := 0) C dX9_query_30 (by decide) ?_
    obtain ⟨v0_31, e_v0_31⟩ : ∃ y : ModelV, y = Model_set_codeCount v0_2 0 := ⟨_, rfl⟩
    replace hf := ltE e_v0_31 hf
    refine ww_put C clOK9 in_X9_query_X9 (w := wModel E a0 (rf2 (a0 1) q1) v0_2) (fs := fsModel a0 (rf2 (a0 1) q1) v0_2) (w' := wModel E a0 (rf2 (a0 1) q1) v0_31) (gs' := [wModel E a0 (rf2 (a0 1) q1) v0_31, wNm E q1]) 0 0 34 rfl q_Model (by decide) (by decide +kernel) rfl rfl rfl rfl l_Model (by rw [e_v0_31]; exact p_Model_codeCount) rfl dX9_query_31 ?_
    refine ww_aload_n C dX9_query_34 rfl 0 rfl ?_
    refine ww_iload_n C dX9_query_35 rfl 1 rfl ?_
    obtain ⟨p36, hp36, hf⟩ := bdE hf
    refine ww_callV C (As := [.int x1]) (st := []) (gr := [wNm E q1]) (c_X9_startText (E := E) (a0 := a0) (h0_0 := a0 1) (h0_1 := q1) hp36) gX9_query_X9_startText rfl yk_X9_startText ⟨by decide, by decide⟩ ⟨by decide, by decide⟩ clOK9 0 0 rfl rfl [0] [1] 2 rfl (by decide) rfl rfl (Nat.le_of_ble_eq_true rfl) dX9_query_36 ?_
    rintro _ _ ⟨rfl, rfl⟩
    refine ww_perm (gs' := [wModel E a0 (rf2 (a0 1) q1) p36, wNm E q1]) [0, 1] 2 rfl (by decide) rfl ?_
    refine ww_aload_n C dX9_query_39 rfl 0 rfl ?_
    refine ww_ldcSw C (i := 52) rfl dX9_query_40 ?_
    obtain ⟨p43, hp43, hf⟩ := bdE hf
    refine ww_callV C (As := [.ref (eK E 52)]) (st := []) (gr := [wNm E q1]) (c_X9_isWord (E := E) (a0 := a0) (h0_0 := a0 1) (h0_1 := q1) hp43) gX9_query_X9_isWord rfl yk_X9_isWord ⟨by decide, by decide⟩ ⟨by decide, by decide⟩ clOK9 0 0 rfl rfl [0] [1] 2 rfl (by decide) rfl rfl (Nat.le_of_ble_eq_true rfl) dX9_query_43 ?_
    rintro _ _ ⟨rfl, rfl⟩
    refine ww_perm (gs' := [wModel E a0 (rf2 (a0 1) q1) p36, wNm E q1]) [0, 1] 2 rfl (by decide) rfl ?_
    refine ww_topi (fun x2_46 e_x2_46 => ?_)
    replace hf := ltE e_x2_46 hf
    refine ww_istore_n (lv' := [(2, .int x2_46), (0, .ref (a0 0)), (1, .int x1)]) C dX9_query_46 rfl (by decide) rfl ?_
    refine ww_aload_n C dX9_query_47 rfl 1 rfl ?_
    refine ww_iload_n C dX9_query_48 rfl 0 rfl ?_
    refine ww_if_ne (tgt := 62) C dX9_query_49 (by decide) (fun c_3 => ?_) (fun c_3 => ?_)
    · replace hf := ifF c_3 hf
      refine ww_sub C (lv' := [(0, .ref (a0 0)), (2, .int x2_46)]) [1, 0] rfl ?_
      exact w_X9_query_62 C hf
    · replace hf := ifT c_3 hf
      refine ww_aload_n C dX9_query_52 rfl 1 rfl ?_
      refine ww_ldcSw C (i := 53) rfl dX9_query_53 ?_
      obtain ⟨p56, hp56, hf⟩ := bdE hf
      refine ww_callV C (As := [.ref (eK E 53)]) (st := [.ref (a0 0)]) (gr := [wNm E q1]) (c_X9_isWord (E := E) (a0 := a0) (h0_0 := a0 1) (h0_1 := q1) hp56) gX9_query_X9_isWord rfl yk_X9_isWord ⟨by decide, by decide⟩ ⟨by decide, by decide⟩ clOK9 0 0 rfl rfl [0] [1] 2 rfl (by decide) rfl rfl (Nat.le_of_ble_eq_true rfl) dX9_query_56 ?_
      rintro _ _ ⟨rfl, rfl⟩
      refine ww_perm (gs' := [wModel E a0 (rf2 (a0 1) q1) p36, wNm E q1]) [0, 1] 2 rfl (by decide) rfl ?_
      refine ww_if_eqB (tgt := 66) C dX9_query_59 (by decide) (fun c_4 => ?_) (fun c_4 => ?_)
      · replace hf := bfE c_4 hf
        refine ww_iconst (v := 0) C dX9_query_66 (by decide) ?_
        refine ww_sub C (lv' := [(0, .ref (a0 0)), (2, .int x2_46)]) [1, 0] rfl ?_
        exact w_X9_query_67 C hf
      · replace hf := btE c_4 hf
        refine ww_sub C (lv' := [(0, .ref (a0 0)), (2, .int x2_46)]) [1, 0] rfl ?_
        exact w_X9_query_62 C hf
  · replace hf := bfE c_1 hf
    refine ww_aload_n C dX9_query_23 rfl 0 rfl ?_
    refine ww_iconst (v := 1) C dX9_query_24 (by decide) ?_
    obtain ⟨p25, hp25, hf⟩ := bdE hf
    refine ww_callV C (As := [.int 1]) (st := []) (gr := [wNm E q1]) (c_X9_raise (E := E) (a0 := a0) (h0_0 := a0 1) (h0_1 := q1) hp25) gX9_query_X9_raise rfl yk_X9_raise ⟨by decide, by decide⟩ ⟨by decide, by decide⟩ clOK9 0 0 rfl rfl [0] [1] 2 rfl (by decide) rfl rfl (Nat.le_of_ble_eq_true rfl) dX9_query_25 ?_
    rintro _ _ ⟨rfl, rfl⟩
    refine ww_perm (gs' := [wModel E a0 (rf2 (a0 1) q1) p25.2, wNm E q1]) [0, 1] 2 rfl (by decide) rfl ?_
    obtain rfl := Option.some.inj hf
    exact ww_iret C ⟨rfl, rfl⟩ dX9_query_28

theorem yk_X9_query : yX9_query.cls = RX9 ∧ yX9_query.cls ≠ "java/lang/invoke/MethodHandle" ∧ yX9_query.cls ≠ "java/lang/invoke/VarHandle" ∧ (parseMethodDescriptor yX9_query.desc).map (fun d => d.parameters.length) = some 1 := by decide +kernel
