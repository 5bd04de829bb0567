abbrev rmX9_compileValue : Room := { frames := 6, cells := 0, slots := 0, locals := 223 }
set_option maxRecDepth 20000 in
theorem in_X9_compileValue_X9 : ∀ w ∈ u_ws RX9 TX9 35, w ∈ wsX9_compileValue := by decide +kernel
set_option maxHeartbeats 4000000 in
set_option maxRecDepth 100000 in
theorem w_X9_compileValue_15 {E : Ex} {K : Kx} (C : Cx E K cX9_compileValue 2 none RX9 wsX9_compileValue rmX9_compileValue) {a0 : Nat → Nat} {q1 : Nat} {h0_0 : Nat}   {v0 : ModelV} {r : ModelV} (hf : Mod_compileValue_15 v0 = some r) : WW E K 0 0 (QQ E K (fun rv g => rv = none ∧ g = [wModel E a0 (rf2 h0_0 q1) r, wNm E q1]) 0 0) 15 [(0, .ref (a0 0))] [] [wModel E a0 (rf2 h0_0 q1) v0, wNm E q1] := by
  rw [Mod_compileValue_15] at hf
  refine ww_aload_n C dX9_compileValue_15 rfl 0 rfl ?_
  refine ww_aload_n C dX9_compileValue_16 rfl 0 rfl ?_
  refine ww_iconst (v := 0) C dX9_compileValue_17 (by decide) ?_
  refine ww_sipush (v := 9999) C dX9_compileValue_18 (by decide) ?_
  obtain ⟨p21, hp21, hf⟩ := bdE hf
  refine ww_callV C (As := [.int 0, .int 9999]) (st := [.ref (a0 0)]) (gr := [wNm E q1]) (c_X9_readNumber (E := E) (a0 := a0) (h0_0 := h0_0) (h0_1 := q1) hp21) gX9_compileValue_X9_readNumber rfl yk_X9_readNumber ⟨by decide, by decide⟩ ⟨by decide, by decide⟩ clOK9 0 0 rfl rfl [0] [1] 2 rfl (by decide) rfl rfl (Nat.le_of_ble_eq_true rfl) dX9_compileValue_21 ?_
  rintro _ _ ⟨rfl, rfl⟩
  refine ww_perm (gs' := [wModel E a0 (rf2 h0_0 q1) p21.2, wNm E q1]) [0, 1] 2 rfl (by decide) rfl ?_
  obtain ⟨p24, hp24, hf⟩ := bdE hf
  refine ww_callV C (As := [.int p21.1]) (st := []) (gr := [wNm E q1]) (c_X9_emit (E := E) (a0 := a0) (h0_0 := h0_0) (h0_1 := q1) hp24) gX9_compileValue_X9_emit rfl yk_X9_emit ⟨by decide, by decide⟩ ⟨by decide, by decide⟩ clOK9 0 0 rfl rfl [0] [1] 2 rfl (by decide) rfl rfl (Nat.le_of_ble_eq_true rfl) dX9_compileValue_24 ?_
  rintro _ _ ⟨rfl, rfl⟩
  refine ww_perm (gs' := [wModel E a0 (rf2 h0_0 q1) p24, wNm E q1]) [0, 1] 2 rfl (by decide) rfl ?_
  obtain rfl := Option.some.inj hf
  exact ww_vret C ⟨rfl, rfl⟩ dX9_compileValue_27

set_option maxHeartbeats 4000000 in
set_option maxRecDepth 100000 in
theorem w_X9_compileValue_73 {E : Ex} {K : Kx} (C : Cx E K cX9_compileValue 2 none RX9 wsX9_compileValue rmX9_compileValue) {a0 : Nat → Nat} {q1 : Nat} {h0_0 : Nat}   {x1 : Int32} {s0 : Int32} {v0 : ModelV} {r : ModelV} (hf : Mod_compileValue_73 x1 s0 v0 = some r) : WW E K 0 0 (QQ E K (fun rv g => rv = none ∧ g = [wModel E a0 (rf2 h0_0 q1) r, wNm E q1]) 0 0) 73 [(0, .ref (a0 0)), (1, .int x1)] [.int s0, .ref (a0 0)] [wModel E a0 (rf2 h0_0 q1) v0, wNm E q1] := by
  rw [Mod_compileValue_73] at hf
  refine ww_iconst (v := 1) C dX9_compileValue_73 (by decide) ?_
  obtain ⟨z_7, e_z_7, hf⟩ := asBE hf
  rw [e_z_7]
  obtain ⟨p74, hp74, hf⟩ := bdE hf
  refine ww_callV C (As := [.int (b2i z_7), .int 1]) (st := []) (gr := [wNm E q1]) (c_X9_check (E := E) (a0 := a0) (h0_0 := h0_0) (h0_1 := q1) hp74) gX9_compileValue_X9_check rfl yk_X9_check ⟨by decide, by decide⟩ ⟨by decide, by decide⟩ clOK9 0 0 rfl rfl [0] [1] 2 rfl (by decide) rfl rfl (Nat.le_of_ble_eq_true rfl) dX9_compileValue_74 ?_
  rintro _ _ ⟨rfl, rfl⟩
  refine ww_perm (gs' := [wModel E a0 (rf2 h0_0 q1) p74, wNm E q1]) [0, 1] 2 rfl (by decide) rfl ?_
  refine ww_aload_n C dX9_compileValue_77 rfl 0 rfl ?_
  refine ww_iconst (v := (-1)) C dX9_compileValue_78 (by decide) ?_
  refine ww_iload_n C dX9_compileValue_79 rfl 1 rfl ?_
  refine ww_isub C dX9_compileValue_80 ?_
  obtain ⟨p81, hp81, hf⟩ := bdE hf
  refine ww_callV C (As := [.int ((-1) - x1)]) (st := []) (gr := [wNm E q1]) (c_X9_emit (E := E) (a0 := a0) (h0_0 := h0_0) (h0_1 := q1) hp81) gX9_compileValue_X9_emit rfl yk_X9_emit ⟨by decide, by decide⟩ ⟨by decide, by decide⟩ clOK9 0 0 rfl rfl [0] [1] 2 rfl (by decide) rfl rfl (Nat.le_of_ble_eq_true rfl) dX9_compileValue_81 ?_
  rintro _ _ ⟨rfl, rfl⟩
  refine ww_perm (gs' := [wModel E a0 (rf2 h0_0 q1) p81, wNm E q1]) [0, 1] 2 rfl (by decide) rfl ?_
  refine ww_aload_n C dX9_compileValue_84 rfl 0 rfl ?_
  obtain ⟨p85, hp85, hf⟩ := bdE hf
  refine ww_callV C (As := []) (st := []) (gr := [wNm E q1]) (c_X9_advance (E := E) (a0 := a0) (h0_0 := h0_0) (h0_1 := q1) hp85) gX9_compileValue_X9_advance rfl yk_X9_advance ⟨by decide, by decide⟩ ⟨by decide, by decide⟩ clOK9 0 0 rfl rfl [0] [1] 2 rfl (by decide) rfl rfl (Nat.le_of_ble_eq_true rfl) dX9_compileValue_85 ?_
  rintro _ _ ⟨rfl, rfl⟩
  refine ww_perm (gs' := [wModel E a0 (rf2 h0_0 q1) p85, wNm E q1]) [0, 1] 2 rfl (by decide) rfl ?_
  obtain rfl := Option.some.inj hf
  exact ww_vret C ⟨rfl, rfl⟩ dX9_compileValue_88

set_option maxHeartbeats 4000000 in
set_option maxRecDepth 100000 in
theorem w_X9_compileValue_58 {E : Ex} {K : Kx} (C : Cx E K cX9_compileValue 2 none RX9 wsX9_compileValue rmX9_compileValue) {a0 : Nat → Nat} {q1 : Nat} {h0_0 : Nat}   {x1 : Int32} {v0 : ModelV} {r : ModelV} (hf : Mod_compileValue_58 x1 v0 = some r) : WW E K 0 0 (QQ E K (fun rv g => rv = none ∧ g = [wModel E a0 (rf2 h0_0 q1) r, wNm E q1]) 0 0) 58 [(0, .ref (a0 0)), (1, .int x1)] [] [wModel E a0 (rf2 h0_0 q1) v0, wNm E q1] := by
  rw [Mod_compileValue_58] at hf
  refine ww_aload_n C dX9_compileValue_58 rfl 0 rfl ?_
  refine ww_iload_n C dX9_compileValue_59 rfl 1 rfl ?_
  refine ww_aload_n C dX9_compileValue_60 rfl 0 rfl ?_
  refine ww_get C clOK9 in_X9_compileValue_X9 (w := wModel E a0 (rf2 h0_0 q1) v0) (fs := fsModel a0 (rf2 h0_0 q1) v0) (v := .ref q1) 0 0 31 rfl q_Model (by decide) (by decide +kernel) g_Model_names dX9_compileValue_61 ?_
  refine ww_alenS C (v := 11) (w := wNm E q1) 1 0 rfl q_Nm rfl dX9_compileValue_64 ?_
  refine ww_icmp_ge (tgt := 72) C dX9_compileValue_65 (by decide) (fun c_6 => ?_) (fun c_6 => ?_)
  · replace hf := ifT c_6 hf
    refine ww_iconst (v := 0) C dX9_compileValue_72 (by decide) ?_
    refine ww_sub C (lv' := [(0, .ref (a0 0)), (1, .int x1)]) [0, 1] rfl ?_
    exact w_X9_compileValue_73 C hf
  · replace hf := ifF c_6 hf
    refine ww_iconst (v := 1) C dX9_compileValue_68 (by decide) ?_
    refine ww_goto (tgt := 73) C dX9_compileValue_69 (by decide) ?_
    refine ww_sub C (lv' := [(0, .ref (a0 0)), (1, .int x1)]) [0, 1] rfl ?_
    exact w_X9_compileValue_73 C hf

set_option maxHeartbeats 4000000 in
set_option maxRecDepth 100000 in
theorem w_X9_compileValue_30 {E : Ex} {K : Kx} (C : Cx E K cX9_compileValue 2 none RX9 wsX9_compileValue rmX9_compileValue) {a0 : Nat → Nat} {q1 : Nat} {h0_0 : Nat}   {r : ModelV} : ∀ (n : Nat) (x1 : Int32) (v0 : ModelV), Mod_compileValue_30 n x1 v0 = some r → WW E K 0 0 (QQ E K (fun rv g => rv = none ∧ g = [wModel E a0 (rf2 h0_0 q1) r, wNm E q1]) 0 0) 30 [(0, .ref (a0 0)), (1, .int x1)] [] [wModel E a0 (rf2 h0_0 q1) v0, wNm E q1] := by
  intro n
  induction n with
  | zero =>
    intro x1 v0 hf
    simp [Mod_compileValue_30] at hf
  | succ n ih =>
    intro x1 v0 hf
    rw [Mod_compileValue_30] at hf
    refine ww_iload_n C dX9_compileValue_30 rfl 1 rfl ?_
    refine ww_aload_n C dX9_compileValue_31 rfl 0 rfl ?_
    refine ww_get C clOK9 in_X9_compileValue_X9 (w := wModel E a0 (rf2 h0_0 q1) v0) (fs := fsModel a0 (rf2 h0_0 q1) v0) (v := .ref q1) 0 0 31 rfl q_Model (by decide) (by decide +kernel) g_Model_names dX9_compileValue_32 ?_
    refine ww_alenS C (v := 11) (w := wNm E q1) 1 0 rfl q_Nm rfl dX9_compileValue_35 ?_
    refine ww_icmp_ge (tgt := 58) C dX9_compileValue_36 (by decide) (fun c_3 => ?_) (fun c_3 => ?_)
    · replace hf := ifT c_3 hf
      refine ww_sub C (lv' := [(0, .ref (a0 0)), (1, .int x1)]) [0, 1] rfl ?_
      exact w_X9_compileValue_58 C hf
    · replace hf := ifF c_3 hf
      refine ww_aload_n C dX9_compileValue_39 rfl 0 rfl ?_
      refine ww_aload_n C dX9_compileValue_40 rfl 0 rfl ?_
      refine ww_get C clOK9 in_X9_compileValue_X9 (w := wModel E a0 (rf2 h0_0 q1) v0) (fs := fsModel a0 (rf2 h0_0 q1) v0) (v := .ref q1) 0 0 31 rfl q_Model (by decide) (by decide +kernel) g_Model_names dX9_compileValue_41 ?_
      refine ww_iload_n C dX9_compileValue_44 rfl 1 rfl ?_
      obtain ⟨g_4, hf⟩ := gdE hf
      refine ww_aldS C (f := nmF E) (w := wNm E q1) 1 0 rfl q_Nm (inB_vp g_4) rfl dX9_compileValue_45 ?_
      obtain ⟨p46, hp46, hf⟩ := bdE hf
      refine ww_callV C (As := [.ref (eK E (32 + Int32.toNatClampNeg x1))]) (st := []) (gr := [wNm E q1]) (c_X9_isWord (E := E) (a0 := a0) (h0_0 := h0_0) (h0_1 := q1) hp46) gX9_compileValue_X9_isWord rfl yk_X9_isWord ⟨by decide, by decide⟩ ⟨by decide, by decide⟩ clOK9 0 0 rfl rfl [0] [1] 2 rfl (by decide) rfl rfl (Nat.le_of_ble_eq_true rfl) dX9_compileValue_46 ?_
      rintro _ _ ⟨rfl, rfl⟩
      refine ww_perm (gs' := [wModel E a0 (rf2 h0_0 q1) v0, wNm E q1]) [0, 1] 2 rfl (by decide) rfl ?_
      refine ww_if_neB (tgt := 58) C dX9_compileValue_49 (by decide) (fun c_5 => ?_) (fun c_5 => ?_)
      · replace hf := btE c_5 hf
        refine ww_sub C (lv' := [(0, .ref (a0 0)), (1, .int x1)]) [0, 1] rfl ?_
        exact w_X9_compileValue_58 C hf
      · replace hf := bfE c_5 hf
        obtain ⟨x1_52, e_x1_52⟩ : ∃ y : Int32, y = x1 + 1 := ⟨_, rfl⟩
        replace hf := ltE e_x1_52 hf
        refine ww_iinc (v := x1_52) (lv' := [(1, .int x1_52), (0, .ref (a0 0))]) C dX9_compileValue_52 1 rfl (by rw [e_x1_52]; rfl) (by decide) rfl ?_
        refine ww_goto (tgt := 30) C dX9_compileValue_55 (by decide) ?_
        refine ww_sub C (lv' := [(0, .ref (a0 0)), (1, .int x1_52)]) [1, 0] rfl ?_
        exact ih _ _ hf

set_option maxHeartbeats 4000000 in
set_option maxRecDepth 100000 in
theorem c_X9_compileValue {E : Ex} {a0 : Nat → Nat} {q1 : Nat} {h0_0 : Nat} {v0 : ModelV} {r : ModelV} (hf : Mod_compileValue v0 = some r) : Ct E yX9_compileValue wsX9_compileValue rmX9_compileValue [.ref (a0 0)] [wModel E a0 (rf2 h0_0 q1) v0, wNm E q1] (fun rv g => rv = none ∧ g = [wModel E a0 (rf2 h0_0 q1) r, wNm E q1]) := by
  refine ct_of (own := RX9) (by decide +kernel) rfl rfl (Nat.le_of_ble_eq_true rfl) (fun K C => ?_)
  refine ww_sub C (lv' := [(0, .ref (a0 0))]) [0] rfl ?_
  rw [Mod_compileValue] at hf
  refine ww_aload_n C dX9_compileValue_0 rfl 0 rfl ?_
  refine ww_get C clOK9 in_X9_compileValue_X9 (w := wModel E a0 (rf2 h0_0 q1) v0) (fs := fsModel a0 (rf2 h0_0 q1) v0) (v := .int (Model_error v0)) 0 0 27 rfl q_Model (by decide) (by decide +kernel) g_Model_error dX9_compileValue_1 ?_
  refine ww_if_ne (tgt := 15) C dX9_compileValue_4 (by decide) (fun c_1 => ?_) (fun c_1 => ?_)
  · replace hf := ifF c_1 hf
    refine ww_sub C (lv' := [(0, .ref (a0 0))]) [0] rfl ?_
    exact w_X9_compileValue_15 C hf
  · replace hf := ifT c_1 hf
    refine ww_aload_n C dX9_compileValue_7 rfl 0 rfl ?_
    refine ww_get C clOK9 in_X9_compileValue_X9 (w := wModel E a0 (rf2 h0_0 q1) v0) (fs := fsModel a0 (rf2 h0_0 q1) v0) (v := .int (Model_token v0)) 0 0 26 rfl q_Model (by decide) (by decide +kernel) g_Model_token dX9_compileValue_8 ?_
    refine ww_iconst (v := 2) C dX9_compileValue_11 (by decide) ?_
    refine ww_icmp_ne (tgt := 28) C dX9_compileValue_12 (by decide) (fun c_2 => ?_) (fun c_2 => ?_)
    · replace hf := ifF c_2 hf
      refine ww_iconst (v := 0) C dX9_compileValue_28 (by decide) ?_
      refine ww_istore_n (lv' := [(1, .int 0), (0, .ref (a0 0))]) C dX9_compileValue_29 rfl (by decide) rfl ?_
      refine ww_sub C (lv' := [(0, .ref (a0 0)), (1, .int 0)]) [1, 0] rfl ?_
      exact w_X9_compileValue_30 C FU _ _ hf
    · replace hf := ifT c_2 hf
      refine ww_sub C (lv' := [(0, .ref (a0 0))]) [0] rfl ?_
      exact w_X9_compileValue_15 C hf

theorem yk_X9_compileValue : yX9_compileValue.cls = RX9 ∧ yX9_compileValue.cls ≠ "java/lang/invoke/MethodHandle" ∧ yX9_compileValue.cls ≠ "java/lang/invoke/VarHandle" ∧ (parseMethodDescriptor yX9_compileValue.desc).map (fun d => d.parameters.length) = some 0 := by decide +kernel
abbrev rmX9_compileFactor (k : Nat) : Room := { frames := 20 + 8 * k, cells := 0, slots := 0, locals := 1000 + 400 * k }
def HN_X9_compileFactor (E : Ex) (k : Nat) (a0 : Nat → Nat) (q1 : Nat) (h0_0 : Nat) (FN : nestMT) : Prop := ∀ (v0 : ModelV) (r : ModelV), FN v0 = some r → Ct E yX9_compileFactor wsX9_compileFactor (rmX9_compileFactor k) [.ref (a0 0)] [wModel E a0 (rf2 h0_0 q1) v0, wNm E q1] (fun rv g => rv = none ∧ g = [wModel E a0 (rf2 h0_0 q1) r, wNm E q1])
theorem yk_X9_compileFactor : yX9_compileFactor.cls = RX9 ∧ yX9_compileFactor.cls ≠ "java/lang/invoke/MethodHandle" ∧ yX9_compileFactor.cls ≠ "java/lang/invoke/VarHandle" ∧ (parseMethodDescriptor yX9_compileFactor.desc).map (fun d => d.parameters.length) = some 0 := by decide +kernel
abbrev rmX9_compileConjunction (k : Nat) : Room := { frames := 22 + 8 * k, cells := 0, slots := 0, locals := 1100 + 400 * k }
set_option maxHeartbeats 4000000 in
set_option maxRecDepth 100000 in
theorem w_X9_compileConjunction_4 {E : Ex} {K : Kx} {k : Nat} (C : Cx E K cX9_compileConjunction 1 none RX9 wsX9_compileConjunction (rmX9_compileConjunction k)) {a0 : Nat → Nat} {q1 : Nat} {h0_0 : Nat} {FN : nestMT}  {r : ModelV} (hN : HN_X9_compileFactor E k a0 q1 h0_0 FN) : ∀ (n : Nat) (v0 : ModelV), Mod_compileConjunction_4 FN n v0 = some r → WW E K 0 0 (QQ E K (fun rv g => rv = none ∧ g = [wModel E a0 (rf2 h0_0 q1) r, wNm E q1]) 0 0) 4 [(0, .ref (a0 0))] [] [wModel E a0 (rf2 h0_0 q1) v0, wNm E q1] := by
  intro n
  induction n with
  | zero =>
    intro v0 hf
    simp [Mod_compileConjunction_4] at hf
  | succ n ih =>
    intro v0 hf
    rw [Mod_compileConjunction_4] at hf
    refine ww_aload_n C dX9_compileConjunction_4 rfl 0 rfl ?_
    refine ww_ldcSw C (i := 50) rfl dX9_compileConjunction_5 ?_
    obtain ⟨p8, hp8, hf⟩ := bdE hf
    refine ww_callV C (As := [.ref (eK E 50)]) (st := []) (gr := [wNm E q1]) (c_X9_accept (E := E) (a0 := a0) (h0_0 := h0_0) (h0_1 := q1) hp8) gX9_compileConjunction_X9_accept rfl yk_X9_accept ⟨by dsimp only [rmX9_compileConjunction, rmX9_accept]; omega, by dsimp only [rmX9_compileConjunction, rmX9_accept]; omega⟩ ⟨Nat.le_refl _, Nat.le_refl _⟩ clOK9 0 0 rfl rfl [0] [1] 2 rfl (by decide) rfl rfl (Nat.le_of_ble_eq_true rfl) dX9_compileConjunction_8 ?_
    rintro _ _ ⟨rfl, rfl⟩
    refine ww_perm (gs' := [wModel E a0 (rf2 h0_0 q1) p8.2, wNm E q1]) [0, 1] 2 rfl (by decide) rfl ?_
    refine ww_if_eqB (tgt := 27) C dX9_compileConjunction_11 (by decide) (fun c_1 => ?_) (fun c_1 => ?_)
    · replace hf := bfE c_1 hf
      obtain rfl := Option.some.inj hf
      exact ww_vret C ⟨rfl, rfl⟩ dX9_compileConjunction_27
    · replace hf := btE c_1 hf
      refine ww_aload_n C dX9_compileConjunction_14 rfl 0 rfl ?_
      obtain ⟨p15, hp15, hf⟩ := bdE hf
      refine ww_callV C (As := []) (st := []) (gr := []) (hN _ _ hp15) gX9_compileConjunction_X9_compileFactor rfl yk_X9_compileFactor ⟨by dsimp only [rmX9_compileConjunction, rmX9_compileFactor]; omega, by dsimp only [rmX9_compileConjunction, rmX9_compileFactor]; omega⟩ ⟨Nat.le_refl _, Nat.le_refl _⟩ clOK9 0 0 rfl rfl [0, 1] [] 2 rfl (by decide) rfl rfl (Nat.le_of_ble_eq_true rfl) dX9_compileConjunction_15 ?_
      rintro _ _ ⟨rfl, rfl⟩
      refine ww_perm (gs' := [wModel E a0 (rf2 h0_0 q1) p15, wNm E q1]) [0, 1] 2 rfl (by decide) rfl ?_
      refine ww_aload_n C dX9_compileConjunction_18 rfl 0 rfl ?_
      refine ww_bipush (v := (-24)) C dX9_compileConjunction_19 (by decide) ?_
      obtain ⟨p21, hp21, hf⟩ := bdE hf
      refine ww_callV C (As := [.int (-24)]) (st := []) (gr := [wNm E q1]) (c_X9_emit (E := E) (a0 := a0) (h0_0 := h0_0) (h0_1 := q1) hp21) gX9_compileConjunction_X9_emit rfl yk_X9_emit ⟨by dsimp only [rmX9_compileConjunction, rmX9_emit]; omega, by dsimp only [rmX9_compileConjunction, rmX9_emit]; omega⟩ ⟨Nat.le_refl _, Nat.le_refl _⟩ clOK9 0 0 rfl rfl [0] [1] 2 rfl (by decide) rfl rfl (Nat.le_of_ble_eq_true rfl) dX9_compileConjunction_21 ?_
      rintro _ _ ⟨rfl, rfl⟩
      refine ww_perm (gs' := [wModel E a0 (rf2 h0_0 q1) p21, wNm E q1]) [0, 1] 2 rfl (by decide) rfl ?_
      refine ww_goto (tgt := 4) C dX9_compileConjunction_24 (by decide) ?_
      refine ww_sub C (lv' := [(0, .ref (a0 0))]) [0] rfl ?_
      exact ih _ hf

set_option maxHeartbeats 4000000 in
set_option maxRecDepth 100000 in
theorem c_X9_compileConjunction {E : Ex} {k : Nat} {a0 : Nat → Nat} {q1 : Nat} {h0_0 : Nat} {FN : nestMT} {v0 : ModelV} {r : ModelV} (hN : HN_X9_compileFactor E k a0 q1 h0_0 FN) (hf : Mod_compileConjunction FN v0 = some r) : Ct E yX9_compileConjunction wsX9_compileConjunction (rmX9_compileConjunction k) [.ref (a0 0)] [wModel E a0 (rf2 h0_0 q1) v0, wNm E q1] (fun rv g => rv = none ∧ g = [wModel E a0 (rf2 h0_0 q1) r, wNm E q1]) := by
  refine ct_of (own := RX9) (by decide +kernel) rfl rfl (Nat.le_of_ble_eq_true rfl) (fun K C => ?_)
  refine ww_sub C (lv' := [(0, .ref (a0 0))]) [0] rfl ?_
  rw [Mod_compileConjunction] at hf
  refine ww_aload_n C dX9_compileConjunction_0 rfl 0 rfl ?_
  obtain ⟨p1, hp1, hf⟩ := bdE hf
  refine ww_callV C (As := []) (st := []) (gr := []) (hN _ _ hp1) gX9_compileConjunction_X9_compileFactor rfl yk_X9_compileFactor ⟨by dsimp only [rmX9_compileConjunction, rmX9_compileFactor]; omega, by dsimp only [rmX9_compileConjunction, rmX9_compileFactor]; omega⟩ ⟨Nat.le_refl _, Nat.le_refl _⟩ clOK9 0 0 rfl rfl [0, 1] [] 2 rfl (by decide) rfl rfl (Nat.le_of_ble_eq_true rfl) dX9_compileConjunction_1 ?_
  rintro _ _ ⟨rfl, rfl⟩
  refine ww_perm (gs' := [wModel E a0 (rf2 h0_0 q1) p1, wNm E q1]) [0, 1] 2 rfl (by decide) rfl ?_
  refine ww_sub C (lv' := [(0, .ref (a0 0))]) [0] rfl ?_
  exact w_X9_compileConjunction_4 C hN FU _ hf

theorem yk_X9_compileConjunction : yX9_compileConjunction.cls = RX9 ∧ yX9_compileConjunction.cls ≠ "java/lang/invoke/MethodHandle" ∧ yX9_compileConjunction.cls ≠ "java/lang/invoke/VarHandle" ∧ (parseMethodDescriptor yX9_compileConjunction.desc).map (fun d => d.parameters.length) = some 0 := by decide +kernel
abbrev rmX9_compileTest (k : Nat) : Room := { frames := 24 + 8 * k, cells := 0, slots := 0, locals := 1200 + 400 * k }
set_option maxHeartbeats 4000000 in
set_option maxRecDepth 100000 in
theorem w_X9_compileTest_4 {E : Ex} {K : Kx} {k : Nat} (C : Cx E K cX9_compileTest 1 none RX9 wsX9_compileTest (rmX9_compileTest k)) {a0 : Nat → Nat} {q1 : Nat} {h0_0 : Nat} {FN : nestMT}  {r : ModelV} (hN : HN_X9_compileFactor E k a0 q1 h0_0 FN) : ∀ (n : Nat) (v0 : ModelV), Mod_compileTest_4 FN n v0 = some r → WW E K 0 0 (QQ E K (fun rv g => rv = none ∧ g = [wModel E a0 (rf2 h0_0 q1) r, wNm E q1]) 0 0) 4 [(0, .ref (a0 0))] [] [wModel E a0 (rf2 h0_0 q1) v0, wNm E q1] := by
  intro n
  induction n with
  | zero =>
    intro v0 hf
    simp [Mod_compileTest_4] at hf
  | succ n ih =>
    intro v0 hf
    rw [Mod_compileTest_4] at hf
    refine ww_aload_n C dX9_compileTest_4 rfl 0 rfl ?_
    refine ww_ldcSw C (i := 51) rfl dX9_compileTest_5 ?_
    obtain ⟨p8, hp8, hf⟩ := bdE hf
    refine ww_callV C (As := [.ref (eK E 51)]) (st := []) (gr := [wNm E q1]) (c_X9_accept (E := E) (a0 := a0) (h0_0 := h0_0) (h0_1 := q1) hp8) gX9_compileTest_X9_accept rfl yk_X9_accept ⟨by dsimp only [rmX9_compileTest, rmX9_accept]; omega, by dsimp only [rmX9_compileTest, rmX9_accept]; omega⟩ ⟨Nat.le_refl _, Nat.le_refl _⟩ clOK9 0 0 rfl rfl [0] [1] 2 rfl (by decide) rfl rfl (Nat.le_of_ble_eq_true rfl) dX9_compileTest_8 ?_
    rintro _ _ ⟨rfl, rfl⟩
    refine ww_perm (gs' := [wModel E a0 (rf2 h0_0 q1) p8.2, wNm E q1]) [0, 1] 2 rfl (by decide) rfl ?_
    refine ww_if_eqB (tgt := 27) C dX9_compileTest_11 (by decide) (fun c_1 => ?_) (fun c_1 => ?_)
    · replace hf := bfE c_1 hf
      obtain rfl := Option.some.inj hf
      exact ww_vret C ⟨rfl, rfl⟩ dX9_compileTest_27
    · replace hf := btE c_1 hf
      refine ww_aload_n C dX9_compileTest_14 rfl 0 rfl ?_
      obtain ⟨p15, hp15, hf⟩ := bdE hf
      refine ww_callV C (As := []) (st := []) (gr := []) (c_X9_compileConjunction (E := E) (k := k) (a0 := a0) (h0_0 := h0_0) (q1 := q1) hN hp15) gX9_compileTest_X9_compileConjunction rfl yk_X9_compileConjunction ⟨by dsimp only [rmX9_compileTest, rmX9_compileConjunction]; omega, by dsimp only [rmX9_compileTest, rmX9_compileConjunction]; omega⟩ ⟨Nat.le_refl _, Nat.le_refl _⟩ clOK9 0 0 rfl rfl [0, 1] [] 2 rfl (by decide) rfl rfl (Nat.le_of_ble_eq_true rfl) dX9_compileTest_15 ?_
      rintro _ _ ⟨rfl, rfl⟩
      refine ww_perm (gs' := [wModel E a0 (rf2 h0_0 q1) p15, wNm E q1]) [0, 1] 2 rfl (by decide) rfl ?_
      refine ww_aload_n C dX9_compileTest_18 rfl 0 rfl ?_
      refine ww_bipush (v := (-25)) C dX9_compileTest_19 (by decide) ?_
      obtain ⟨p21, hp21, hf⟩ := bdE hf
      refine ww_callV C (As := [.int (-25)]) (st := []) (gr := [wNm E q1]) (c_X9_emit (E := E) (a0 := a0) (h0_0 := h0_0) (h0_1 := q1) hp21) gX9_compileTest_X9_emit rfl yk_X9_emit ⟨by dsimp only [rmX9_compileTest, rmX9_emit]; omega, by dsimp only [rmX9_compileTest, rmX9_emit]; omega⟩ ⟨Nat.le_refl _, Nat.le_refl _⟩ clOK9 0 0 rfl rfl [0] [1] 2 rfl (by decide) rfl rfl (Nat.le_of_ble_eq_true rfl) dX9_compileTest_21 ?_
      rintro _ _ ⟨rfl, rfl⟩
      refine ww_perm (gs' := [wModel E a0 (rf2 h0_0 q1) p21, wNm E q1]) [0, 1] 2 rfl (by decide) rfl ?_
      refine ww_goto (tgt := 4) C dX9_compileTest_24 (by decide) ?_
      refine ww_sub C (lv' := [(0, .ref (a0 0))]) [0] rfl ?_
      exact ih _ hf

set_option maxHeartbeats 4000000 in
set_option maxRecDepth 100000 in
theorem c_X9_compileTest {E : Ex} {k : Nat} {a0 : Nat → Nat} {q1 : Nat} {h0_0 : Nat} {FN : nestMT} {v0 : ModelV} {r : ModelV} (hN : HN_X9_compileFactor E k a0 q1 h0_0 FN) (hf : Mod_compileTest FN v0 = some r) : Ct E yX9_compileTest wsX9_compileTest (rmX9_compileTest k) [.ref (a0 0)] [wModel E a0 (rf2 h0_0 q1) v0, wNm E q1] (fun rv g => rv = none ∧ g = [wModel E a0 (rf2 h0_0 q1) r, wNm E q1]) := by
  refine ct_of (own := RX9) (by decide +kernel) rfl rfl (Nat.le_of_ble_eq_true rfl) (fun K C => ?_)
  refine ww_sub C (lv' := [(0, .ref (a0 0))]) [0] rfl ?_
  rw [Mod_compileTest] at hf
  refine ww_aload_n C dX9_compileTest_0 rfl 0 rfl ?_
  obtain ⟨p1, hp1, hf⟩ := bdE hf
  refine ww_callV C (As := []) (st := []) (gr := []) (c_X9_compileConjunction (E := E) (k := k) (a0 := a0) (h0_0 := h0_0) (q1 := q1) hN hp1) gX9_compileTest_X9_compileConjunction rfl yk_X9_compileConjunction ⟨by dsimp only [rmX9_compileTest, rmX9_compileConjunction]; omega, by dsimp only [rmX9_compileTest, rmX9_compileConjunction]; omega⟩ ⟨Nat.le_refl _, Nat.le_refl _⟩ clOK9 0 0 rfl rfl [0, 1] [] 2 rfl (by decide) rfl rfl (Nat.le_of_ble_eq_true rfl) dX9_compileTest_1 ?_
  rintro _ _ ⟨rfl, rfl⟩
  refine ww_perm (gs' := [wModel E a0 (rf2 h0_0 q1) p1, wNm E q1]) [0, 1] 2 rfl (by decide) rfl ?_
  refine ww_sub C (lv' := [(0, .ref (a0 0))]) [0] rfl ?_
  exact w_X9_compileTest_4 C hN FU _ hf

theorem yk_X9_compileTest : yX9_compileTest.cls = RX9 ∧ yX9_compileTest.cls ≠ "java/lang/invoke/MethodHandle" ∧ yX9_compileTest.cls ≠ "java/lang/invoke/VarHandle" ∧ (parseMethodDescriptor yX9_compileTest.desc).map (fun d => d.parameters.length) = some 0 := by decide +kernel
set_option maxRecDepth 20000 in
theorem in_X9_compileFactor_X9 : ∀ w ∈ u_ws RX9 TX9 35, w ∈ wsX9_compileFactor := by decide +kernel
set_option maxHeartbeats 4000000 in
set_option maxRecDepth 100000 in
theorem w_X9_compileFactor_25 {E : Ex} {K : Kx} {k : Nat} (C : Cx E K cX9_compileFactor 2 none RX9 wsX9_compileFactor (rmX9_compileFactor (k + 1))) {a0 : Nat → Nat} {q1 : Nat} {h0_0 : Nat} {FN : nestMT}  {v0 : ModelV} {r : ModelV} (hN : HN_X9_compileFactor E k a0 q1 h0_0 FN) (hf : Mod_compileFactor_25 FN v0 = some r) : WW E K 0 0 (QQ E K (fun rv g => rv = none ∧ g = [wModel E a0 (rf2 h0_0 q1) r, wNm E q1]) 0 0) 25 [(0, .ref (a0 0))] [] [wModel E a0 (rf2 h0_0 q1) v0, wNm E q1] := by
  rw [Mod_compileFactor_25] at hf
  refine ww_aload_n C dX9_compileFactor_25 rfl 0 rfl ?_
  refine ww_bipush (v := (-23)) C dX9_compileFactor_26 (by decide) ?_
  obtain ⟨p28, hp28, hf⟩ := bdE hf
  refine ww_callV C (As := [.int (-23)]) (st := []) (gr := [wNm E q1]) (c_X9_emit (E := E) (a0 := a0) (h0_0 := h0_0) (h0_1 := q1) hp28) gX9_compileFactor_X9_emit rfl yk_X9_emit ⟨by dsimp only [rmX9_compileFactor, rmX9_emit]; omega, by dsimp only [rmX9_compileFactor, rmX9_emit]; omega⟩ ⟨Nat.le_refl _, Nat.le_refl _⟩ clOK9 0 0 rfl rfl [0] [1] 2 rfl (by decide) rfl rfl (Nat.le_of_ble_eq_true rfl) dX9_compileFactor_28 ?_
  rintro _ _ ⟨rfl, rfl⟩
  refine ww_perm (gs' := [wModel E a0 (rf2 h0_0 q1) p28, wNm E q1]) [0, 1] 2 rfl (by decide) rfl ?_
  refine ww_aload_n C dX9_compileFactor_31 rfl 0 rfl ?_
  refine ww_dup C dX9_compileFactor_32 rfl ?_
  refine ww_get C clOK9 in_X9_compileFactor_X9 (w := wModel E a0 (rf2 h0_0 q1) p28) (fs := fsModel a0 (rf2 h0_0 q1) p28) (v := .int (Model_nested p28)) 0 0 30 rfl q_Model (by decide) (by decide +kernel) g_Model_nested dX9_compileFactor_33 ?_
  refine ww_iconst (v := 1) C dX9_compileFactor_36 (by decide) ?_
  refine ww_isub C dX9_compileFactor_37 ?_
  obtain ⟨v0_38, e_v0_38⟩ : ∃ y : ModelV, y = Model_set_nested p28 ((Model_nested p28) - 1) := ⟨_, rfl⟩
  replace hf := ltE e_v0_38 hf
  refine ww_put C clOK9 in_X9_compileFactor_X9 (w := wModel E a0 (rf2 h0_0 q1) p28) (fs := fsModel a0 (rf2 h0_0 q1) p28) (w' := wModel E a0 (rf2 h0_0 q1) v0_38) (gs' := [wModel E a0 (rf2 h0_0 q1) v0_38, wNm E q1]) 0 0 30 rfl q_Model (by decide) (by decide +kernel) rfl rfl rfl rfl l_Model (by rw [e_v0_38]; exact p_Model_nested) rfl dX9_compileFactor_38 ?_
  refine ww_goto (tgt := 160) C dX9_compileFactor_41 (by decide) ?_
  obtain rfl := Option.some.inj hf
  exact ww_vret C ⟨rfl, rfl⟩ dX9_compileFactor_160

set_option maxHeartbeats 4000000 in
set_option maxRecDepth 100000 in
theorem w_X9_compileFactor_68 {E : Ex} {K : Kx} {k : Nat} (C : Cx E K cX9_compileFactor 2 none RX9 wsX9_compileFactor (rmX9_compileFactor (k + 1))) {a0 : Nat → Nat} {q1 : Nat} {h0_0 : Nat} {FN : nestMT}  {v0 : ModelV} {r : ModelV} (hN : HN_X9_compileFactor E k a0 q1 h0_0 FN) (hf : Mod_compileFactor_68 FN v0 = some r) : WW E K 0 0 (QQ E K (fun rv g => rv = none ∧ g = [wModel E a0 (rf2 h0_0 q1) r, wNm E q1]) 0 0) 68 [(0, .ref (a0 0))] [] [wModel E a0 (rf2 h0_0 q1) v0, wNm E q1] := by
  rw [Mod_compileFactor_68] at hf
  refine ww_aload_n C dX9_compileFactor_68 rfl 0 rfl ?_
  refine ww_bipush (v := 41) C dX9_compileFactor_69 (by decide) ?_
  obtain ⟨p71, hp71, hf⟩ := bdE hf
  refine ww_callV C (As := [.int 41]) (st := []) (gr := [wNm E q1]) (c_X9_expect (E := E) (a0 := a0) (h0_0 := h0_0) (h0_1 := q1) hp71) gX9_compileFactor_X9_expect rfl yk_X9_expect ⟨by dsimp only [rmX9_compileFactor, rmX9_expect]; omega, by dsimp only [rmX9_compileFactor, rmX9_expect]; omega⟩ ⟨Nat.le_refl _, Nat.le_refl _⟩ clOK9 0 0 rfl rfl [0] [1] 2 rfl (by decide) rfl rfl (Nat.le_of_ble_eq_true rfl) dX9_compileFactor_71 ?_
  rintro _ _ ⟨rfl, rfl⟩
  refine ww_perm (gs' := [wModel E a0 (rf2 h0_0 q1) p71, wNm E q1]) [0, 1] 2 rfl (by decide) rfl ?_
  refine ww_aload_n C dX9_compileFactor_74 rfl 0 rfl ?_
  refine ww_dup C dX9_compileFactor_75 rfl ?_
  refine ww_get C clOK9 in_X9_compileFactor_X9 (w := wModel E a0 (rf2 h0_0 q1) p71) (fs := fsModel a0 (rf2 h0_0 q1) p71) (v := .int (Model_nested p71)) 0 0 30 rfl q_Model (by decide) (by decide +kernel) g_Model_nested dX9_compileFactor_76 ?_
  refine ww_iconst (v := 1) C dX9_compileFactor_79 (by decide) ?_
  refine ww_isub C dX9_compileFactor_80 ?_
  obtain ⟨v0_81, e_v0_81⟩ : ∃ y : ModelV, y = Model_set_nested p71 ((Model_nested p71) - 1) := ⟨_, rfl⟩
  replace hf := ltE e_v0_81 hf
  refine ww_put C clOK9 in_X9_compileFactor_X9 (w := wModel E a0 (rf2 h0_0 q1) p71) (fs := fsModel a0 (rf2 h0_0 q1) p71) (w' := wModel E a0 (rf2 h0_0 q1) v0_81) (gs' := [wModel E a0 (rf2 h0_0 q1) v0_81, wNm E q1]) 0 0 30 rfl q_Model (by decide) (by decide +kernel) rfl rfl rfl rfl l_Model (by rw [e_v0_81]; exact p_Model_nested) rfl dX9_compileFactor_81 ?_
  refine ww_goto (tgt := 160) C dX9_compileFactor_84 (by decide) ?_
  obtain rfl := Option.some.inj hf
  exact ww_vret C ⟨rfl, rfl⟩ dX9_compileFactor_160

set_option maxHeartbeats 4000000 in
set_option maxRecDepth 100000 in
theorem w_X9_compileFactor_143 {E : Ex} {K : Kx} {k : Nat} (C : Cx E K cX9_compileFactor 2 none RX9 wsX9_compileFactor (rmX9_compileFactor (k + 1))) {a0 : Nat → Nat} {q1 : Nat} {h0_0 : Nat} {FN : nestMT}  {x1 : Int32} {s0 : Int32} {v0 : ModelV} {r : ModelV} (hN : HN_X9_compileFactor E k a0 q1 h0_0 FN) (hf : Mod_compileFactor_143 FN x1 s0 v0 = some r) : WW E K 0 0 (QQ E K (fun rv g => rv = none ∧ g = [wModel E a0 (rf2 h0_0 q1) r, wNm E q1]) 0 0) 143 [(0, .ref (a0 0)), (1, .int x1)] [.int s0, .ref (a0 0)] [wModel E a0 (rf2 h0_0 q1) v0, wNm E q1] := by
  rw [Mod_compileFactor_143] at hf
  refine ww_iconst (v := 1) C dX9_compileFactor_143 (by decide) ?_
  obtain ⟨z_9, e_z_9, hf⟩ := asBE hf
  rw [e_z_9]
  obtain ⟨p144, hp144, hf⟩ := bdE hf
  refine ww_callV C (As := [.int (b2i z_9), .int 1]) (st := []) (gr := [wNm E q1]) (c_X9_check (E := E) (a0 := a0) (h0_0 := h0_0) (h0_1 := q1) hp144) gX9_compileFactor_X9_check rfl yk_X9_check ⟨by dsimp only [rmX9_compileFactor, rmX9_check]; omega, by dsimp only [rmX9_compileFactor, rmX9_check]; omega⟩ ⟨Nat.le_refl _, Nat.le_refl _⟩ clOK9 0 0 rfl rfl [0] [1] 2 rfl (by decide) rfl rfl (Nat.le_of_ble_eq_true rfl) dX9_compileFactor_144 ?_
  rintro _ _ ⟨rfl, rfl⟩
  refine ww_perm (gs' := [wModel E a0 (rf2 h0_0 q1) p144, wNm E q1]) [0, 1] 2 rfl (by decide) rfl ?_
  refine ww_aload_n C dX9_compileFactor_147 rfl 0 rfl ?_
  obtain ⟨p148, hp148, hf⟩ := bdE hf
  refine ww_callV C (As := []) (st := []) (gr := [wNm E q1]) (c_X9_advance (E := E) (a0 := a0) (h0_0 := h0_0) (h0_1 := q1) hp148) gX9_compileFactor_X9_advance rfl yk_X9_advance ⟨by dsimp only [rmX9_compileFactor, rmX9_advance]; omega, by dsimp only [rmX9_compileFactor, rmX9_advance]; omega⟩ ⟨Nat.le_refl _, Nat.le_refl _⟩ clOK9 0 0 rfl rfl [0] [1] 2 rfl (by decide) rfl rfl (Nat.le_of_ble_eq_true rfl) dX9_compileFactor_148 ?_
  rintro _ _ ⟨rfl, rfl⟩
  refine ww_perm (gs' := [wModel E a0 (rf2 h0_0 q1) p148, wNm E q1]) [0, 1] 2 rfl (by decide) rfl ?_
  refine ww_aload_n C dX9_compileFactor_151 rfl 0 rfl ?_
  obtain ⟨p152, hp152, hf⟩ := bdE hf
  refine ww_callV C (As := []) (st := []) (gr := []) (c_X9_compileValue (E := E) (a0 := a0) (h0_0 := h0_0) (q1 := q1) hp152) gX9_compileFactor_X9_compileValue rfl yk_X9_compileValue ⟨by dsimp only [rmX9_compileFactor, rmX9_compileValue]; omega, by dsimp only [rmX9_compileFactor, rmX9_compileValue]; omega⟩ ⟨Nat.le_refl _, Nat.le_refl _⟩ clOK9 0 0 rfl rfl [0, 1] [] 2 rfl (by decide) rfl rfl (Nat.le_of_ble_eq_true rfl) dX9_compileFactor_152 ?_
  rintro _ _ ⟨rfl, rfl⟩
  refine ww_perm (gs' := [wModel E a0 (rf2 h0_0 q1) p152, wNm E q1]) [0, 1] 2 rfl (by decide) rfl ?_
  refine ww_aload_n C dX9_compileFactor_155 rfl 0 rfl ?_
  refine ww_iload_n C dX9_compileFactor_156 rfl 1 rfl ?_
  obtain ⟨p157, hp157, hf⟩ := bdE hf
  refine ww_callV C (As := [.int x1]) (st := []) (gr := [wNm E q1]) (c_X9_emit (E := E) (a0 := a0) (h0_0 := h0_0) (h0_1 := q1) hp157) gX9_compileFactor_X9_emit rfl yk_X9_emit ⟨by dsimp only [rmX9_compileFactor, rmX9_emit]; omega, by dsimp only [rmX9_compileFactor, rmX9_emit]; omega⟩ ⟨Nat.le_refl _, Nat.le_refl _⟩ clOK9 0 0 rfl rfl [0] [1] 2 rfl (by decide) rfl rfl (Nat.le_of_ble_eq_true rfl) dX9_compileFactor_157 ?_
  rintro _ _ ⟨rfl, rfl⟩
  refine ww_perm (gs' := [wModel E a0 (rf2 h0_0 q1) p157, wNm E q1]) [0, 1] 2 rfl (by decide) rfl ?_
  obtain rfl := Option.some.inj hf
  exact ww_vret C ⟨rfl, rfl⟩ dX9_compileFactor_160

set_option maxHeartbeats 4000000 in
set_option maxRecDepth 100000 in
theorem w_X9_compileFactor_138 {E : Ex} {K : Kx} {k : Nat} (C : Cx E K cX9_compileFactor 2 none RX9 wsX9_compileFactor (rmX9_compileFactor (k + 1))) {a0 : Nat → Nat} {q1 : Nat} {h0_0 : Nat} {FN : nestMT}  {x1 : Int32} {v0 : ModelV} {r : ModelV} (hN : HN_X9_compileFactor E k a0 q1 h0_0 FN) (hf : Mod_compileFactor_138 FN x1 v0 = some r) : WW E K 0 0 (QQ E K (fun rv g => rv = none ∧ g = [wModel E a0 (rf2 h0_0 q1) r, wNm E q1]) 0 0) 138 [(0, .ref (a0 0)), (1, .int x1)] [.ref (a0 0)] [wModel E a0 (rf2 h0_0 q1) v0, wNm E q1] := by
  rw [Mod_compileFactor_138] at hf
  refine ww_iconst (v := 1) C dX9_compileFactor_138 (by decide) ?_
  refine ww_goto (tgt := 143) C dX9_compileFactor_139 (by decide) ?_
  refine ww_sub C (lv' := [(0, .ref (a0 0)), (1, .int x1)]) [0, 1] rfl ?_
  exact w_X9_compileFactor_143 C hN hf

set_option maxHeartbeats 4000000 in
set_option maxRecDepth 100000 in
theorem w_X9_compileFactor_121 {E : Ex} {K : Kx} {k : Nat} (C : Cx E K cX9_compileFactor 2 none RX9 wsX9_compileFactor (rmX9_compileFactor (k + 1))) {a0 : Nat → Nat} {q1 : Nat} {h0_0 : Nat} {FN : nestMT}  {s0 : Int32} {v0 : ModelV} {r : ModelV} (hN : HN_X9_compileFactor E k a0 q1 h0_0 FN) (hf : Mod_compileFactor_121 FN s0 v0 = some r) : WW E K 0 0 (QQ E K (fun rv g => rv = none ∧ g = [wModel E a0 (rf2 h0_0 q1) r, wNm E q1]) 0 0) 121 [(0, .ref (a0 0))] [.int s0] [wModel E a0 (rf2 h0_0 q1) v0, wNm E q1] := by
  rw [Mod_compileFactor_121] at hf
  refine ww_istore_n (lv' := [(1, .int s0), (0, .ref (a0 0))]) C dX9_compileFactor_121 rfl (by decide) rfl ?_
  refine ww_aload_n C dX9_compileFactor_122 rfl 1 rfl ?_
  refine ww_iload_n C dX9_compileFactor_123 rfl 0 rfl ?_
  refine ww_bipush (v := (-22)) C dX9_compileFactor_124 (by decide) ?_
  refine ww_icmp_ne (tgt := 138) C dX9_compileFactor_126 (by decide) (fun c_7 => ?_) (fun c_7 => ?_)
  · replace hf := ifF c_7 hf
    refine ww_sub C (lv' := [(0, .ref (a0 0)), (1, .int s0)]) [1, 0] rfl ?_
    exact w_X9_compileFactor_138 C hN hf
  · replace hf := ifT c_7 hf
    refine ww_aload_n C dX9_compileFactor_129 rfl 1 rfl ?_
    refine ww_bipush (v := 62) C dX9_compileFactor_130 (by decide) ?_
    obtain ⟨p132, hp132, hf⟩ := bdE hf
    refine ww_callV C (As := [.int 62]) (st := [.ref (a0 0)]) (gr := [wNm E q1]) (c_X9_isSymbol (E := E) (a0 := a0) (h0_0 := h0_0) (h0_1 := q1) hp132) gX9_compileFactor_X9_isSymbol rfl yk_X9_isSymbol ⟨by dsimp only [rmX9_compileFactor, rmX9_isSymbol]; omega, by dsimp only [rmX9_compileFactor, rmX9_isSymbol]; omega⟩ ⟨Nat.le_refl _, Nat.le_refl _⟩ clOK9 0 0 rfl rfl [0] [1] 2 rfl (by decide) rfl rfl (Nat.le_of_ble_eq_true rfl) dX9_compileFactor_132 ?_
    rintro _ _ ⟨rfl, rfl⟩
    refine ww_perm (gs' := [wModel E a0 (rf2 h0_0 q1) v0, wNm E q1]) [0, 1] 2 rfl (by decide) rfl ?_
    refine ww_if_eqB (tgt := 142) C dX9_compileFactor_135 (by decide) (fun c_8 => ?_) (fun c_8 => ?_)
    · replace hf := bfE c_8 hf
      refine ww_iconst (v := 0) C dX9_compileFactor_142 (by decide) ?_
      refine ww_sub C (lv' := [(0, .ref (a0 0)), (1, .int s0)]) [1, 0] rfl ?_
      exact w_X9_compileFactor_143 C hN hf
    · replace hf := btE c_8 hf
      refine ww_sub C (lv' := [(0, .ref (a0 0)), (1, .int s0)]) [1, 0] rfl ?_
      exact w_X9_compileFactor_138 C hN hf

set_option maxHeartbeats 4000000 in
set_option maxRecDepth 100000 in
theorem c_X9_compileFactor {E : Ex} {k : Nat} {a0 : Nat → Nat} {q1 : Nat} {h0_0 : Nat} {FN : nestMT} {v0 : ModelV} {r : ModelV} (hN : HN_X9_compileFactor E k a0 q1 h0_0 FN) (hf : Mod_compileFactor FN v0 = some r) : Ct E yX9_compileFactor wsX9_compileFactor (rmX9_compileFactor (k + 1)) [.ref (a0 0)] [wModel E a0 (rf2 h0_0 q1) v0, wNm E q1] (fun rv g => rv = none ∧ g = [wModel E a0 (rf2 h0_0 q1) r, wNm E q1]) := by
  refine ct_of (own := RX9) (by decide +kernel) rfl rfl (Nat.le_of_ble_eq_true rfl) (fun K C => ?_)
  refine ww_sub C (lv' := [(0, .ref (a0 0))]) [0] rfl ?_
  rw [Mod_compileFactor] at hf
  refine ww_aload_n C dX9_compileFactor_0 rfl 0 rfl ?_
  refine ww_ldcSw C (i := 49) rfl dX9_compileFactor_1 ?_
  obtain ⟨p4, hp4, hf⟩ := bdE hf
  refine ww_callV C (As := [.ref (eK E 49)]) (st := []) (gr := [wNm E q1]) (c_X9_isWord (E := E) (a0 := a0) (h0_0 := h0_0) (h0_1 := q1) hp4) gX9_compileFactor_X9_isWord rfl yk_X9_isWord ⟨by dsimp only [rmX9_compileFactor, rmX9_isWord]; omega, by dsimp only [rmX9_compileFactor, rmX9_isWord]; omega⟩ ⟨Nat.le_refl _, Nat.le_refl _⟩ clOK9 0 0 rfl rfl [0] [1] 2 rfl (by decide) rfl rfl (Nat.le_of_ble_eq_true rfl) dX9_compileFactor_4 ?_
  rintro _ _ ⟨rfl, rfl⟩
  refine ww_perm (gs' := [wModel E a0 (rf2 h0_0 q1) v0, wNm E q1]) [0, 1] 2 rfl (by decide) rfl ?_
  refine ww_if_eqB (tgt := 44) C dX9_compileFactor_7 (by decide) (fun c_1 => ?_) (fun c_1 => ?_)
  · replace hf := bfE c_1 hf
    refine ww_aload_n C dX9_compileFactor_44 rfl 0 rfl ?_
    refine ww_bipush (v := 40) C dX9_compileFactor_45 (by decide) ?_
    obtain ⟨p47, hp47, hf⟩ := bdE hf
    refine ww_callV C (As := [.int 40]) (st := []) (gr := [wNm E q1]) (c_X9_isSymbol (E := E) (a0 := a0) (h0_0 := h0_0) (h0_1 := q1) hp47) gX9_compileFactor_X9_isSymbol rfl yk_X9_isSymbol ⟨by dsimp only [rmX9_compileFactor, rmX9_isSymbol]; omega, by dsimp only [rmX9_compileFactor, rmX9_isSymbol]; omega⟩ ⟨Nat.le_refl _, Nat.le_refl _⟩ clOK9 0 0 rfl rfl [0] [1] 2 rfl (by decide) rfl rfl (Nat.le_of_ble_eq_true rfl) dX9_compileFactor_47 ?_
    rintro _ _ ⟨rfl, rfl⟩
    refine ww_perm (gs' := [wModel E a0 (rf2 h0_0 q1) v0, wNm E q1]) [0, 1] 2 rfl (by decide) rfl ?_
    refine ww_if_eqB (tgt := 87) C dX9_compileFactor_50 (by decide) (fun c_2 => ?_) (fun c_2 => ?_)
    · replace hf := bfE c_2 hf
      refine ww_aload_n C dX9_compileFactor_87 rfl 0 rfl ?_
      obtain ⟨p88, hp88, hf⟩ := bdE hf
      refine ww_callV C (As := []) (st := []) (gr := []) (c_X9_compileValue (E := E) (a0 := a0) (h0_0 := h0_0) (q1 := q1) hp88) gX9_compileFactor_X9_compileValue rfl yk_X9_compileValue ⟨by dsimp only [rmX9_compileFactor, rmX9_compileValue]; omega, by dsimp only [rmX9_compileFactor, rmX9_compileValue]; omega⟩ ⟨Nat.le_refl _, Nat.le_refl _⟩ clOK9 0 0 rfl rfl [0, 1] [] 2 rfl (by decide) rfl rfl (Nat.le_of_ble_eq_true rfl) dX9_compileFactor_88 ?_
      rintro _ _ ⟨rfl, rfl⟩
      refine ww_perm (gs' := [wModel E a0 (rf2 h0_0 q1) p88, wNm E q1]) [0, 1] 2 rfl (by decide) rfl ?_
      refine ww_aload_n C dX9_compileFactor_91 rfl 0 rfl ?_
      refine ww_bipush (v := 60) C dX9_compileFactor_92 (by decide) ?_
      obtain ⟨p94, hp94, hf⟩ := bdE hf
      refine ww_callV C (As := [.int 60]) (st := []) (gr := [wNm E q1]) (c_X9_isSymbol (E := E) (a0 := a0) (h0_0 := h0_0) (h0_1 := q1) hp94) gX9_compileFactor_X9_isSymbol rfl yk_X9_isSymbol ⟨by dsimp only [rmX9_compileFactor, rmX9_isSymbol]; omega, by dsimp only [rmX9_compileFactor, rmX9_isSymbol]; omega⟩ ⟨Nat.le_refl _, Nat.le_refl _⟩ clOK9 0 0 rfl rfl [0] [1] 2 rfl (by decide) rfl rfl (Nat.le_of_ble_eq_true rfl) dX9_compileFactor_94 ?_
      rintro _ _ ⟨rfl, rfl⟩
      refine ww_perm (gs' := [wModel E a0 (rf2 h0_0 q1) p88, wNm E q1]) [0, 1] 2 rfl (by decide) rfl ?_
      refine ww_if_eqB (tgt := 105) C dX9_compileFactor_97 (by decide) (fun c_3 => ?_) (fun c_3 => ?_)
      · replace hf := bfE c_3 hf
        refine ww_aload_n C dX9_compileFactor_105 rfl 0 rfl ?_
        refine ww_bipush (v := 61) C dX9_compileFactor_106 (by decide) ?_
        obtain ⟨p108, hp108, hf⟩ := bdE hf
        refine ww_callV C (As := [.int 61]) (st := []) (gr := [wNm E q1]) (c_X9_isSymbol (E := E) (a0 := a0) (h0_0 := h0_0) (h0_1 := q1) hp108) gX9_compileFactor_X9_isSymbol rfl yk_X9_isSymbol ⟨by dsimp only [rmX9_compileFactor, rmX9_isSymbol]; omega, by dsimp only [rmX9_compileFactor, rmX9_isSymbol]; omega⟩ ⟨Nat.le_refl _, Nat.le_refl _⟩ clOK9 0 0 rfl rfl [0] [1] 2 rfl (by decide) rfl rfl (Nat.le_of_ble_eq_true rfl) dX9_compileFactor_108 ?_
        rintro _ _ ⟨rfl, rfl⟩
        refine ww_perm (gs' := [wModel E a0 (rf2 h0_0 q1) p88, wNm E q1]) [0, 1] 2 rfl (by decide) rfl ?_
        refine ww_if_eqB (tgt := 119) C dX9_compileFactor_111 (by decide) (fun c_4 => ?_) (fun c_4 => ?_)
        · replace hf := bfE c_4 hf
          refine ww_bipush (v := (-22)) C dX9_compileFactor_119 (by decide) ?_
          refine ww_sub C (lv' := [(0, .ref (a0 0))]) [0] rfl ?_
          exact w_X9_compileFactor_121 C hN hf
        · replace hf := btE c_4 hf
          refine ww_bipush (v := (-21)) C dX9_compileFactor_114 (by decide) ?_
          refine ww_goto (tgt := 121) C dX9_compileFactor_116 (by decide) ?_
          refine ww_sub C (lv' := [(0, .ref (a0 0))]) [0] rfl ?_
          exact w_X9_compileFactor_121 C hN hf
      · replace hf := btE c_3 hf
        refine ww_bipush (v := (-20)) C dX9_compileFactor_100 (by decide) ?_
        refine ww_goto (tgt := 121) C dX9_compileFactor_102 (by decide) ?_
        refine ww_sub C (lv' := [(0, .ref (a0 0))]) [0] rfl ?_
        exact w_X9_compileFactor_121 C hN hf
    · replace hf := btE c_2 hf
      refine ww_aload_n C dX9_compileFactor_53 rfl 0 rfl ?_
      obtain ⟨p54, hp54, hf⟩ := bdE hf
      refine ww_callV C (As := []) (st := []) (gr := [wNm E q1]) (c_X9_enter (E := E) (a0 := a0) (h0_0 := h0_0) (h0_1 := q1) hp54) gX9_compileFactor_X9_enter rfl yk_X9_enter ⟨by dsimp only [rmX9_compileFactor, rmX9_enter]; omega, by dsimp only [rmX9_compileFactor, rmX9_enter]; omega⟩ ⟨Nat.le_refl _, Nat.le_refl _⟩ clOK9 0 0 rfl rfl [0] [1] 2 rfl (by decide) rfl rfl (Nat.le_of_ble_eq_true rfl) dX9_compileFactor_54 ?_
      rintro _ _ ⟨rfl, rfl⟩
      refine ww_perm (gs' := [wModel E a0 (rf2 h0_0 q1) p54, wNm E q1]) [0, 1] 2 rfl (by decide) rfl ?_
      refine ww_aload_n C dX9_compileFactor_57 rfl 0 rfl ?_
      refine ww_get C clOK9 in_X9_compileFactor_X9 (w := wModel E a0 (rf2 h0_0 q1) p54) (fs := fsModel a0 (rf2 h0_0 q1) p54) (v := .int (Model_error p54)) 0 0 27 rfl q_Model (by decide) (by decide +kernel) g_Model_error dX9_compileFactor_58 ?_
      refine ww_if_ne (tgt := 68) C dX9_compileFactor_61 (by decide) (fun c_5 => ?_) (fun c_5 => ?_)
      · replace hf := ifF c_5 hf
        refine ww_sub C (lv' := [(0, .ref (a0 0))]) [0] rfl ?_
        exact w_X9_compileFactor_68 C hN hf
      · replace hf := ifT c_5 hf
        refine ww_aload_n C dX9_compileFactor_64 rfl 0 rfl ?_
        obtain ⟨p65, hp65, hf⟩ := bdE hf
        refine ww_callV C (As := []) (st := []) (gr := []) (c_X9_compileTest (E := E) (k := k) (a0 := a0) (h0_0 := h0_0) (q1 := q1) hN hp65) gX9_compileFactor_X9_compileTest rfl yk_X9_compileTest ⟨by dsimp only [rmX9_compileFactor, rmX9_compileTest]; omega, by dsimp only [rmX9_compileFactor, rmX9_compileTest]; omega⟩ ⟨Nat.le_refl _, Nat.le_refl _⟩ clOK9 0 0 rfl rfl [0, 1] [] 2 rfl (by decide) rfl rfl (Nat.le_of_ble_eq_true rfl) dX9_compileFactor_65 ?_
        rintro _ _ ⟨rfl, rfl⟩
        refine ww_perm (gs' := [wModel E a0 (rf2 h0_0 q1) p65, wNm E q1]) [0, 1] 2 rfl (by decide) rfl ?_
        refine ww_sub C (lv' := [(0, .ref (a0 0))]) [0] rfl ?_
        exact w_X9_compileFactor_68 C hN hf
  · replace hf := btE c_1 hf
    refine ww_aload_n C dX9_compileFactor_10 rfl 0 rfl ?_
    obtain ⟨p11, hp11, hf⟩ := bdE hf
    refine ww_callV C (As := []) (st := []) (gr := [wNm E q1]) (c_X9_enter (E := E) (a0 := a0) (h0_0 := h0_0) (h0_1 := q1) hp11) gX9_compileFactor_X9_enter rfl yk_X9_enter ⟨by dsimp only [rmX9_compileFactor, rmX9_enter]; omega, by dsimp only [rmX9_compileFactor, rmX9_enter]; omega⟩ ⟨Nat.le_refl _, Nat.le_refl _⟩ clOK9 0 0 rfl rfl [0] [1] 2 rfl (by decide) rfl rfl (Nat.le_of_ble_eq_true rfl) dX9_compileFactor_11 ?_
    rintro _ _ ⟨rfl, rfl⟩
    refine ww_perm (gs' := [wModel E a0 (rf2 h0_0 q1) p11, wNm E q1]) [0, 1] 2 rfl (by decide) rfl ?_
    refine ww_aload_n C dX9_compileFactor_14 rfl 0 rfl ?_
    refine ww_get C clOK9 in_X9_compileFactor_X9 (w := wModel E a0 (rf2 h0_0 q1) p11) (fs := fsModel a0 (rf2 h0_0 q1) p11) (v := .int (Model_error p11)) 0 0 27 rfl q_Model (by decide) (by decide +kernel) g_Model_error dX9_compileFactor_15 ?_
    refine ww_if_ne (tgt := 25) C dX9_compileFactor_18 (by decide) (fun c_6 => ?_) (fun c_6 => ?_)
    · replace hf := ifF c_6 hf
      refine ww_sub C (lv' := [(0, .ref (a0 0))]) [0] rfl ?_
      exact w_X9_compileFactor_25 C hN hf
    · replace hf := ifT c_6 hf
      refine ww_aload_n C dX9_compileFactor_21 rfl 0 rfl ?_
      obtain ⟨p22, hp22, hf⟩ := bdE hf
      refine ww_callV C (As := []) (st := []) (gr := []) (hN _ _ hp22) gX9_compileFactor_X9_compileFactor rfl yk_X9_compileFactor ⟨by dsimp only [rmX9_compileFactor, rmX9_compileFactor]; omega, by dsimp only [rmX9_compileFactor, rmX9_compileFactor]; omega⟩ ⟨Nat.le_refl _, Nat.le_refl _⟩ clOK9 0 0 rfl rfl [0, 1] [] 2 rfl (by decide) rfl rfl (Nat.le_of_ble_eq_true rfl) dX9_compileFactor_22 ?_
      rintro _ _ ⟨rfl, rfl⟩
      refine ww_perm (gs' := [wModel E a0 (rf2 h0_0 q1) p22, wNm E q1]) [0, 1] 2 rfl (by decide) rfl ?_
      refine ww_sub C (lv' := [(0, .ref (a0 0))]) [0] rfl ?_
      exact w_X9_compileFactor_25 C hN hf

theorem c_X9_compileFactor_lev {E : Ex} {a0 : Nat → Nat} {q1 : Nat} {h0_0 : Nat} : ∀ k, HN_X9_compileFactor E k a0 q1 h0_0 (nestM k) := by
  intro k
  induction k with
  | zero =>
    intro _ _ h
    cases h
  | succ k ih =>
    intro _ _ h
    exact c_X9_compileFactor ih h

abbrev rmX9_readDoor : Room := { frames := 7, cells := 0, slots := 0, locals := 245 }
set_option maxRecDepth 20000 in
theorem in_X9_readDoor_X9 : ∀ w ∈ u_ws RX9 TX9 35, w ∈ wsX9_readDoor := by decide +kernel
set_option maxHeartbeats 4000000 in
set_option maxRecDepth 100000 in
theorem w_X9_readDoor_139 {E : Ex} {K : Kx} (C : Cx E K cX9_readDoor 5 none RX9 wsX9_readDoor rmX9_readDoor) {a0 : Nat → Nat} {h0_1 : Nat}   {x1 : Int32} {x2 : Int32} {s0 : Int32} {v0 : ModelV} {r : ModelV} (hf : Mod_readDoor_139 x1 x2 s0 v0 = some r) : WW E K 0 0 (QQ E K (fun rv g => rv = none ∧ g = [wModel E a0 (rf2 (a0 2) h0_1) r]) 0 0) 139 [(0, .ref (a0 0)), (1, .int x1), (2, .int x2)] [.int s0] [wModel E a0 (rf2 (a0 2) h0_1) v0] := by
  rw [Mod_readDoor_139] at hf
  refine ww_istore_n (lv' := [(3, .int s0), (0, .ref (a0 0)), (1, .int x1), (2, .int x2)]) C dX9_readDoor_139 rfl (by decide) rfl ?_
  refine ww_aload_n C dX9_readDoor_140 rfl 1 rfl ?_
  refine ww_get C clOK9 in_X9_readDoor_X9 (w := wModel E a0 (rf2 (a0 2) h0_1) v0) (fs := fsModel a0 (rf2 (a0 2) h0_1) v0) (v := .int (Model_error v0)) 0 0 27 rfl q_Model (by decide) (by decide +kernel) g_Model_error dX9_readDoor_141 ?_
  refine ww_if_ne (tgt := 201) C dX9_readDoor_144 (by decide) (fun c_14 => ?_) (fun c_14 => ?_)
  · replace hf := ifF c_14 hf
    obtain rfl := Option.some.inj hf
    exact ww_vret C ⟨rfl, rfl⟩ dX9_readDoor_201
  · replace hf := ifT c_14 hf
    refine ww_aload_n C dX9_readDoor_147 rfl 1 rfl ?_
    refine ww_get C clOK9 in_X9_readDoor_X9 (w := wModel E a0 (rf2 (a0 2) h0_1) v0) (fs := fsModel a0 (rf2 (a0 2) h0_1) v0) (v := .ref (a0 2)) 0 0 1 rfl q_Model (by decide) (by decide +kernel) g_Model_draft dX9_readDoor_148 ?_
    refine ww_iconst (v := 1) C dX9_readDoor_151 (by decide) ?_
    obtain ⟨g_15, hf⟩ := gdE hf
    refine ww_iald C (f := Model_draft v0) (w := wModel E a0 (rf2 (a0 2) h0_1) v0) 0 2 rfl c_Model_draft (inB_vp g_15) dX9_readDoor_152 ?_
    refine ww_topi (fun x4_153 e_x4_153 => ?_)
    replace hf := ltE e_x4_153 hf
    refine ww_istore (lv' := [(4, .int x4_153), (3, .int s0), (0, .ref (a0 0)), (1, .int x1), (2, .int x2)]) C dX9_readDoor_153 (by decide) rfl ?_
    refine ww_aload_n C dX9_readDoor_155 rfl 2 rfl ?_
    refine ww_get C clOK9 in_X9_readDoor_X9 (w := wModel E a0 (rf2 (a0 2) h0_1) v0) (fs := fsModel a0 (rf2 (a0 2) h0_1) v0) (v := .ref (a0 2)) 0 0 1 rfl q_Model (by decide) (by decide +kernel) g_Model_draft dX9_readDoor_156 ?_
    refine ww_iload C dX9_readDoor_159 0 rfl ?_
    refine ww_iconst (v := 0) C dX9_readDoor_161 (by decide) ?_
    obtain ⟨p162, hp162, hf⟩ := bdE hf
    refine ww_callS C (As := [.int x4_153, .int 0]) (st := [.ref (a0 2)]) (gr := [wModel E a0 (rf2 (a0 2) h0_1) v0]) (c_X9_doorAt (E := E)  hp162) gX9_readDoor_X9_doorAt rfl ysk_X9_doorAt ⟨by decide, by decide⟩ ⟨by decide, by decide⟩ [] [0] 1 rfl (by decide) rfl rfl (Nat.le_of_ble_eq_true rfl) dX9_readDoor_162 ?_
    rintro _ _ ⟨rfl, rfl⟩
    refine ww_perm (gs' := [wModel E a0 (rf2 (a0 2) h0_1) v0]) [0] 1 rfl (by decide) rfl ?_
    refine ww_iload_n C dX9_readDoor_165 rfl 3 rfl ?_
    obtain ⟨g_17, hf⟩ := gdE hf
    obtain ⟨v0_166, e_v0_166⟩ : ∃ y : ModelV, y = Model_set_draft v0 (upd (Model_draft v0) (Int32.toNatClampNeg p162) x1) := ⟨_, rfl⟩
    replace hf := ltE e_v0_166 hf
    refine ww_iast C (f := Model_draft v0) (w := wModel E a0 (rf2 (a0 2) h0_1) v0) (w' := wModel E a0 (rf2 (a0 2) h0_1) v0_166) (gs' := [wModel E a0 (rf2 (a0 2) h0_1) v0_166]) 0 2 rfl c_Model_draft (inB_vp g_17) (by rw [e_v0_166]; exact s_Model_draft) rfl dX9_readDoor_166 ?_
    refine ww_aload_n C dX9_readDoor_167 rfl 2 rfl ?_
    refine ww_get C clOK9 in_X9_readDoor_X9 (w := wModel E a0 (rf2 (a0 2) h0_1) v0_166) (fs := fsModel a0 (rf2 (a0 2) h0_1) v0_166) (v := .ref (a0 2)) 0 0 1 rfl q_Model (by decide) (by decide +kernel) g_Model_draft dX9_readDoor_168 ?_
    refine ww_iload C dX9_readDoor_171 0 rfl ?_
    refine ww_iconst (v := 1) C dX9_readDoor_173 (by decide) ?_
    obtain ⟨p174, hp174, hf⟩ := bdE hf
    refine ww_callS C (As := [.int x4_153, .int 1]) (st := [.ref (a0 2)]) (gr := [wModel E a0 (rf2 (a0 2) h0_1) v0_166]) (c_X9_doorAt (E := E)  hp174) gX9_readDoor_X9_doorAt rfl ysk_X9_doorAt ⟨by decide, by decide⟩ ⟨by decide, by decide⟩ [] [0] 1 rfl (by decide) rfl rfl (Nat.le_of_ble_eq_true rfl) dX9_readDoor_174 ?_
    rintro _ _ ⟨rfl, rfl⟩
    refine ww_perm (gs' := [wModel E a0 (rf2 (a0 2) h0_1) v0_166]) [0] 1 rfl (by decide) rfl ?_
    refine ww_iload_n C dX9_readDoor_177 rfl 4 rfl ?_
    obtain ⟨g_18, hf⟩ := gdE hf
    obtain ⟨v0_178, e_v0_178⟩ : ∃ y : ModelV, y = Model_set_draft v0_166 (upd (Model_draft v0_166) (Int32.toNatClampNeg p174) x2) := ⟨_, rfl⟩
    replace hf := ltE e_v0_178 hf
    refine ww_iast C (f := Model_draft v0_166) (w := wModel E a0 (rf2 (a0 2) h0_1) v0_166) (w' := wModel E a0 (rf2 (a0 2) h0_1) v0_178) (gs' := [wModel E a0 (rf2 (a0 2) h0_1) v0_178]) 0 2 rfl c_Model_draft (inB_vp g_18) (by rw [e_v0_178]; exact s_Model_draft) rfl dX9_readDoor_178 ?_
    refine ww_aload_n C dX9_readDoor_179 rfl 2 rfl ?_
    refine ww_get C clOK9 in_X9_readDoor_X9 (w := wModel E a0 (rf2 (a0 2) h0_1) v0_178) (fs := fsModel a0 (rf2 (a0 2) h0_1) v0_178) (v := .ref (a0 2)) 0 0 1 rfl q_Model (by decide) (by decide +kernel) g_Model_draft dX9_readDoor_180 ?_
    refine ww_iload C dX9_readDoor_183 0 rfl ?_
    refine ww_iconst (v := 2) C dX9_readDoor_185 (by decide) ?_
    obtain ⟨p186, hp186, hf⟩ := bdE hf
    refine ww_callS C (As := [.int x4_153, .int 2]) (st := [.ref (a0 2)]) (gr := [wModel E a0 (rf2 (a0 2) h0_1) v0_178]) (c_X9_doorAt (E := E)  hp186) gX9_readDoor_X9_doorAt rfl ysk_X9_doorAt ⟨by decide, by decide⟩ ⟨by decide, by decide⟩ [] [0] 1 rfl (by decide) rfl rfl (Nat.le_of_ble_eq_true rfl) dX9_readDoor_186 ?_
    rintro _ _ ⟨rfl, rfl⟩
    refine ww_perm (gs' := [wModel E a0 (rf2 (a0 2) h0_1) v0_178]) [0] 1 rfl (by decide) rfl ?_
    refine ww_iload_n C dX9_readDoor_189 rfl 1 rfl ?_
    obtain ⟨g_19, hf⟩ := gdE hf
    obtain ⟨v0_190, e_v0_190⟩ : ∃ y : ModelV, y = Model_set_draft v0_178 (upd (Model_draft v0_178) (Int32.toNatClampNeg p186) s0) := ⟨_, rfl⟩
    replace hf := ltE e_v0_190 hf
    refine ww_iast C (f := Model_draft v0_178) (w := wModel E a0 (rf2 (a0 2) h0_1) v0_178) (w' := wModel E a0 (rf2 (a0 2) h0_1) v0_190) (gs' := [wModel E a0 (rf2 (a0 2) h0_1) v0_190]) 0 2 rfl c_Model_draft (inB_vp g_19) (by rw [e_v0_190]; exact s_Model_draft) rfl dX9_readDoor_190 ?_
    refine ww_aload_n C dX9_readDoor_191 rfl 2 rfl ?_
    refine ww_get C clOK9 in_X9_readDoor_X9 (w := wModel E a0 (rf2 (a0 2) h0_1) v0_190) (fs := fsModel a0 (rf2 (a0 2) h0_1) v0_190) (v := .ref (a0 2)) 0 0 1 rfl q_Model (by decide) (by decide +kernel) g_Model_draft dX9_readDoor_192 ?_
    refine ww_iconst (v := 1) C dX9_readDoor_195 (by decide) ?_
    refine ww_dup2 C dX9_readDoor_196 rfl rfl ?_
    refine ww_iald C (f := Model_draft v0_190) (w := wModel E a0 (rf2 (a0 2) h0_1) v0_190) 0 2 rfl c_Model_draft (inB_vp g_15) dX9_readDoor_197 ?_
    refine ww_iconst (v := 1) C dX9_readDoor_198 (by decide) ?_
    refine ww_iadd C dX9_readDoor_199 ?_
    obtain ⟨v0_200, e_v0_200⟩ : ∃ y : ModelV, y = Model_set_draft v0_190 (upd (Model_draft v0_190) (Int32.toNatClampNeg 1) (((Model_draft v0_190) (Int32.toNatClampNeg 1)) + 1)) := ⟨_, rfl⟩
    replace hf := ltE e_v0_200 hf
    refine ww_iast C (f := Model_draft v0_190) (w := wModel E a0 (rf2 (a0 2) h0_1) v0_190) (w' := wModel E a0 (rf2 (a0 2) h0_1) v0_200) (gs' := [wModel E a0 (rf2 (a0 2) h0_1) v0_200]) 0 2 rfl c_Model_draft (inB_vp g_15) (by rw [e_v0_200]; exact s_Model_draft) rfl dX9_readDoor_200 ?_
    obtain rfl := Option.some.inj hf
    exact ww_vret C ⟨rfl, rfl⟩ dX9_readDoor_201

set_option maxHeartbeats 4000000 in
set_option maxRecDepth 100000 in
theorem w_X9_readDoor_111 {E : Ex} {K : Kx} (C : Cx E K cX9_readDoor 5 none RX9 wsX9_readDoor rmX9_readDoor) {a0 : Nat → Nat} {h0_1 : Nat}   {x1 : Int32} {s0 : Int32} {v0 : ModelV} {r : ModelV} (hf : Mod_readDoor_111 x1 s0 v0 = some r) : WW E K 0 0 (QQ E K (fun rv g => rv = none ∧ g = [wModel E a0 (rf2 (a0 2) h0_1) r]) 0 0) 111 [(0, .ref (a0 0)), (1, .int x1)] [.int s0, .ref (a0 0)] [wModel E a0 (rf2 (a0 2) h0_1) v0] := by
  rw [Mod_readDoor_111] at hf
  refine ww_iconst (v := 4) C dX9_readDoor_111 (by decide) ?_
  obtain ⟨z_12, e_z_12, hf⟩ := asBE hf
  rw [e_z_12]
  obtain ⟨p112, hp112, hf⟩ := bdE hf
  refine ww_callV C (As := [.int (b2i z_12), .int 4]) (st := []) (gr := []) (c_X9_check (E := E) (a0 := a0) (h0_0 := a0 2) (h0_1 := h0_1) hp112) gX9_readDoor_X9_check rfl yk_X9_check ⟨by decide, by decide⟩ ⟨by decide, by decide⟩ clOK9 0 0 rfl rfl [0] [] 1 rfl (by decide) rfl rfl (Nat.le_of_ble_eq_true rfl) dX9_readDoor_112 ?_
  rintro _ _ ⟨rfl, rfl⟩
  refine ww_perm (gs' := [wModel E a0 (rf2 (a0 2) h0_1) p112]) [0] 1 rfl (by decide) rfl ?_
  refine ww_aload_n C dX9_readDoor_115 rfl 0 rfl ?_
  obtain ⟨p116, hp116, hf⟩ := bdE hf
  refine ww_callV C (As := []) (st := []) (gr := []) (c_X9_value (E := E) (a0 := a0) (h0_0 := a0 2) (h0_1 := h0_1) hp116) gX9_readDoor_X9_value rfl yk_X9_value ⟨by decide, by decide⟩ ⟨by decide, by decide⟩ clOK9 0 0 rfl rfl [0] [] 1 rfl (by decide) rfl rfl (Nat.le_of_ble_eq_true rfl) dX9_readDoor_116 ?_
  rintro _ _ ⟨rfl, rfl⟩
  refine ww_perm (gs' := [wModel E a0 (rf2 (a0 2) h0_1) p112]) [0] 1 rfl (by decide) rfl ?_
  refine ww_istore_n (lv' := [(2, .int p116), (0, .ref (a0 0)), (1, .int x1)]) C dX9_readDoor_119 rfl (by decide) rfl ?_
  refine ww_aload_n C dX9_readDoor_120 rfl 1 rfl ?_
  obtain ⟨p121, hp121, hf⟩ := bdE hf
  refine ww_callV C (As := []) (st := []) (gr := []) (c_X9_advance (E := E) (a0 := a0) (h0_0 := a0 2) (h0_1 := h0_1) hp121) gX9_readDoor_X9_advance rfl yk_X9_advance ⟨by decide, by decide⟩ ⟨by decide, by decide⟩ clOK9 0 0 rfl rfl [0] [] 1 rfl (by decide) rfl rfl (Nat.le_of_ble_eq_true rfl) dX9_readDoor_121 ?_
  rintro _ _ ⟨rfl, rfl⟩
  refine ww_perm (gs' := [wModel E a0 (rf2 (a0 2) h0_1) p121]) [0] 1 rfl (by decide) rfl ?_
  refine ww_aload_n C dX9_readDoor_124 rfl 1 rfl ?_
  refine ww_ldcSw C (i := 43) rfl dX9_readDoor_125 ?_
  obtain ⟨p128, hp128, hf⟩ := bdE hf
  refine ww_callV C (As := [.ref (eK E 43)]) (st := []) (gr := []) (c_X9_accept (E := E) (a0 := a0) (h0_0 := a0 2) (h0_1 := h0_1) hp128) gX9_readDoor_X9_accept rfl yk_X9_accept ⟨by decide, by decide⟩ ⟨by decide, by decide⟩ clOK9 0 0 rfl rfl [0] [] 1 rfl (by decide) rfl rfl (Nat.le_of_ble_eq_true rfl) dX9_readDoor_128 ?_
  rintro _ _ ⟨rfl, rfl⟩
  refine ww_perm (gs' := [wModel E a0 (rf2 (a0 2) h0_1) p128.2]) [0] 1 rfl (by decide) rfl ?_
  refine ww_if_eqB (tgt := 138) C dX9_readDoor_131 (by decide) (fun c_13 => ?_) (fun c_13 => ?_)
  · replace hf := bfE c_13 hf
    refine ww_iconst (v := 1) C dX9_readDoor_138 (by decide) ?_
    refine ww_sub C (lv' := [(0, .ref (a0 0)), (1, .int x1), (2, .int p116)]) [1, 2, 0] rfl ?_
    exact w_X9_readDoor_139 C hf
  · replace hf := btE c_13 hf
    refine ww_iconst (v := 0) C dX9_readDoor_134 (by decide) ?_
    refine ww_goto (tgt := 139) C dX9_readDoor_135 (by decide) ?_
    refine ww_sub C (lv' := [(0, .ref (a0 0)), (1, .int x1), (2, .int p116)]) [1, 2, 0] rfl ?_
    exact w_X9_readDoor_139 C hf

set_option maxHeartbeats 4000000 in
set_option maxRecDepth 100000 in
theorem w_X9_readDoor_106 {E : Ex} {K : Kx} (C : Cx E K cX9_readDoor 5 none RX9 wsX9_readDoor rmX9_readDoor) {a0 : Nat → Nat} {h0_1 : Nat}   {x1 : Int32} {v0 : ModelV} {r : ModelV} (hf : Mod_readDoor_106 x1 v0 = some r) : WW E K 0 0 (QQ E K (fun rv g => rv = none ∧ g = [wModel E a0 (rf2 (a0 2) h0_1) r]) 0 0) 106 [(0, .ref (a0 0)), (1, .int x1)] [.ref (a0 0)] [wModel E a0 (rf2 (a0 2) h0_1) v0] := by
  rw [Mod_readDoor_106] at hf
  refine ww_iconst (v := 1) C dX9_readDoor_106 (by decide) ?_
  refine ww_goto (tgt := 111) C dX9_readDoor_107 (by decide) ?_
  refine ww_sub C (lv' := [(0, .ref (a0 0)), (1, .int x1)]) [0, 1] rfl ?_
  exact w_X9_readDoor_111 C hf

set_option maxHeartbeats 4000000 in
set_option maxRecDepth 100000 in
theorem w_X9_readDoor_86 {E : Ex} {K : Kx} (C : Cx E K cX9_readDoor 5 none RX9 wsX9_readDoor rmX9_readDoor) {a0 : Nat → Nat} {h0_1 : Nat}   {x1 : Int32} {s0 : Int32} {v0 : ModelV} {r : ModelV} (hf : Mod_readDoor_86 x1 s0 v0 = some r) : WW E K 0 0 (QQ E K (fun rv g => rv = none ∧ g = [wModel E a0 (rf2 (a0 2) h0_1) r]) 0 0) 86 [(0, .ref (a0 0)), (1, .int x1)] [.int s0, .ref (a0 0)] [wModel E a0 (rf2 (a0 2) h0_1) v0] := by
  rw [Mod_readDoor_86] at hf
  refine ww_iconst (v := 2) C dX9_readDoor_86 (by decide) ?_
  obtain ⟨z_9, e_z_9, hf⟩ := asBE hf
  rw [e_z_9]
  obtain ⟨p87, hp87, hf⟩ := bdE hf
  refine ww_callV C (As := [.int (b2i z_9), .int 2]) (st := []) (gr := []) (c_X9_check (E := E) (a0 := a0) (h0_0 := a0 2) (h0_1 := h0_1) hp87) gX9_readDoor_X9_check rfl yk_X9_check ⟨by decide, by decide⟩ ⟨by decide, by decide⟩ clOK9 0 0 rfl rfl [0] [] 1 rfl (by decide) rfl rfl (Nat.le_of_ble_eq_true rfl) dX9_readDoor_87 ?_
  rintro _ _ ⟨rfl, rfl⟩
  refine ww_perm (gs' := [wModel E a0 (rf2 (a0 2) h0_1) p87]) [0] 1 rfl (by decide) rfl ?_
  refine ww_aload_n C dX9_readDoor_90 rfl 0 rfl ?_
  refine ww_aload_n C dX9_readDoor_91 rfl 0 rfl ?_
  refine ww_get C clOK9 in_X9_readDoor_X9 (w := wModel E a0 (rf2 (a0 2) h0_1) p87) (fs := fsModel a0 (rf2 (a0 2) h0_1) p87) (v := .int (Model_error p87)) 0 0 27 rfl q_Model (by decide) (by decide +kernel) g_Model_error dX9_readDoor_92 ?_
  refine ww_if_ne (tgt := 106) C dX9_readDoor_95 (by decide) (fun c_10 => ?_) (fun c_10 => ?_)
  · replace hf := ifF c_10 hf
    refine ww_sub C (lv' := [(0, .ref (a0 0)), (1, .int x1)]) [0, 1] rfl ?_
    exact w_X9_readDoor_106 C hf
  · replace hf := ifT c_10 hf
    refine ww_aload_n C dX9_readDoor_98 rfl 0 rfl ?_
    obtain ⟨p99, hp99, hf⟩ := bdE hf
    refine ww_callV C (As := []) (st := [.ref (a0 0)]) (gr := []) (c_X9_value (E := E) (a0 := a0) (h0_0 := a0 2) (h0_1 := h0_1) hp99) gX9_readDoor_X9_value rfl yk_X9_value ⟨by decide, by decide⟩ ⟨by decide, by decide⟩ clOK9 0 0 rfl rfl [0] [] 1 rfl (by decide) rfl rfl (Nat.le_of_ble_eq_true rfl) dX9_readDoor_99 ?_
    rintro _ _ ⟨rfl, rfl⟩
    refine ww_perm (gs' := [wModel E a0 (rf2 (a0 2) h0_1) p87]) [0] 1 rfl (by decide) rfl ?_
    refine ww_iload_n C dX9_readDoor_102 rfl 1 rfl ?_
    refine ww_icmp_eq (tgt := 110) C dX9_readDoor_103 (by decide) (fun c_11 => ?_) (fun c_11 => ?_)
    · replace hf := ifT c_11 hf
      refine ww_iconst (v := 0) C dX9_readDoor_110 (by decide) ?_
      refine ww_sub C (lv' := [(0, .ref (a0 0)), (1, .int x1)]) [0, 1] rfl ?_
      exact w_X9_readDoor_111 C hf
    · replace hf := ifF c_11 hf
      refine ww_sub C (lv' := [(0, .ref (a0 0)), (1, .int x1)]) [0, 1] rfl ?_
      exact w_X9_readDoor_106 C hf

set_option maxHeartbeats 4000000 in
set_option maxRecDepth 100000 in
theorem w_X9_readDoor_81 {E : Ex} {K : Kx} (C : Cx E K cX9_readDoor 5 none RX9 wsX9_readDoor rmX9_readDoor) {a0 : Nat → Nat} {h0_1 : Nat}   {x1 : Int32} {v0 : ModelV} {r : ModelV} (hf : Mod_readDoor_81 x1 v0 = some r) : WW E K 0 0 (QQ E K (fun rv g => rv = none ∧ g = [wModel E a0 (rf2 (a0 2) h0_1) r]) 0 0) 81 [(0, .ref (a0 0)), (1, .int x1)] [.ref (a0 0)] [wModel E a0 (rf2 (a0 2) h0_1) v0] := by
  rw [Mod_readDoor_81] at hf
  refine ww_iconst (v := 1) C dX9_readDoor_81 (by decide) ?_
  refine ww_goto (tgt := 86) C dX9_readDoor_82 (by decide) ?_
  refine ww_sub C (lv' := [(0, .ref (a0 0)), (1, .int x1)]) [0, 1] rfl ?_
  exact w_X9_readDoor_86 C hf

set_option maxHeartbeats 4000000 in
set_option maxRecDepth 100000 in
theorem w_X9_readDoor_58 {E : Ex} {K : Kx} (C : Cx E K cX9_readDoor 5 none RX9 wsX9_readDoor rmX9_readDoor) {a0 : Nat → Nat} {h0_1 : Nat}   {x1 : Int32} {s0 : Int32} {v0 : ModelV} {r : ModelV} (hf : Mod_readDoor_58 x1 s0 v0 = some r) : WW E K 0 0 (QQ E K (fun rv g => rv = none ∧ g = [wModel E a0 (rf2 (a0 2) h0_1) r]) 0 0) 58 [(0, .ref (a0 0)), (1, .int x1)] [.int s0, .ref (a0 0)] [wModel E a0 (rf2 (a0 2) h0_1) v0] := by
  rw [Mod_readDoor_58] at hf
  refine ww_iconst (v := 1) C dX9_readDoor_58 (by decide) ?_
  obtain ⟨z_6, e_z_6, hf⟩ := asBE hf
  rw [e_z_6]
  obtain ⟨p59, hp59, hf⟩ := bdE hf
  refine ww_callV C (As := [.int (b2i z_6), .int 1]) (st := []) (gr := []) (c_X9_check (E := E) (a0 := a0) (h0_0 := a0 2) (h0_1 := h0_1) hp59) gX9_readDoor_X9_check rfl yk_X9_check ⟨by decide, by decide⟩ ⟨by decide, by decide⟩ clOK9 0 0 rfl rfl [0] [] 1 rfl (by decide) rfl rfl (Nat.le_of_ble_eq_true rfl) dX9_readDoor_59 ?_
  rintro _ _ ⟨rfl, rfl⟩
  refine ww_perm (gs' := [wModel E a0 (rf2 (a0 2) h0_1) p59]) [0] 1 rfl (by decide) rfl ?_
  refine ww_aload_n C dX9_readDoor_62 rfl 0 rfl ?_
  refine ww_aload_n C dX9_readDoor_63 rfl 0 rfl ?_
  refine ww_get C clOK9 in_X9_readDoor_X9 (w := wModel E a0 (rf2 (a0 2) h0_1) p59) (fs := fsModel a0 (rf2 (a0 2) h0_1) p59) (v := .int (Model_error p59)) 0 0 27 rfl q_Model (by decide) (by decide +kernel) g_Model_error dX9_readDoor_64 ?_
  refine ww_if_ne (tgt := 81) C dX9_readDoor_67 (by decide) (fun c_7 => ?_) (fun c_7 => ?_)
  · replace hf := ifF c_7 hf
    refine ww_sub C (lv' := [(0, .ref (a0 0)), (1, .int x1)]) [0, 1] rfl ?_
    exact w_X9_readDoor_81 C hf
  · replace hf := ifT c_7 hf
    refine ww_aload_n C dX9_readDoor_70 rfl 0 rfl ?_
    refine ww_aload_n C dX9_readDoor_71 rfl 0 rfl ?_
    obtain ⟨p72, hp72, hf⟩ := bdE hf
    refine ww_callV C (As := []) (st := [.ref (a0 0), .ref (a0 0)]) (gr := []) (c_X9_value (E := E) (a0 := a0) (h0_0 := a0 2) (h0_1 := h0_1) hp72) gX9_readDoor_X9_value rfl yk_X9_value ⟨by decide, by decide⟩ ⟨by decide, by decide⟩ clOK9 0 0 rfl rfl [0] [] 1 rfl (by decide) rfl rfl (Nat.le_of_ble_eq_true rfl) dX9_readDoor_72 ?_
    rintro _ _ ⟨rfl, rfl⟩
    refine ww_perm (gs' := [wModel E a0 (rf2 (a0 2) h0_1) p59]) [0] 1 rfl (by decide) rfl ?_
    obtain ⟨p75, hp75, hf⟩ := bdE hf
    refine ww_callV C (As := [.int p72]) (st := [.ref (a0 0)]) (gr := []) (c_X9_isRoom_D (E := E) (a0 := a0) (h0_1 := h0_1) hp75) gX9_readDoor_X9_isRoom rfl yk_X9_isRoom ⟨by decide, by decide⟩ ⟨by decide, by decide⟩ clOK9 0 0 rfl rfl [0] [] 1 rfl (by decide) rfl rfl (Nat.le_of_ble_eq_true rfl) dX9_readDoor_75 ?_
    rintro _ _ ⟨rfl, rfl⟩
    refine ww_perm (gs' := [wModel E a0 (rf2 (a0 2) h0_1) p59]) [0] 1 rfl (by decide) rfl ?_
    refine ww_if_eqB (tgt := 85) C dX9_readDoor_78 (by decide) (fun c_8 => ?_) (fun c_8 => ?_)
    · replace hf := bfE c_8 hf
      refine ww_iconst (v := 0) C dX9_readDoor_85 (by decide) ?_
      refine ww_sub C (lv' := [(0, .ref (a0 0)), (1, .int x1)]) [0, 1] rfl ?_
      exact w_X9_readDoor_86 C hf
    · replace hf := btE c_8 hf
      refine ww_sub C (lv' := [(0, .ref (a0 0)), (1, .int x1)]) [0, 1] rfl ?_
      exact w_X9_readDoor_81 C hf

set_option maxHeartbeats 4000000 in
set_option maxRecDepth 100000 in
theorem w_X9_readDoor_53 {E : Ex} {K : Kx} (C : Cx E K cX9_readDoor 5 none RX9 wsX9_readDoor rmX9_readDoor) {a0 : Nat → Nat} {h0_1 : Nat}   {x1 : Int32} {v0 : ModelV} {r : ModelV} (hf : Mod_readDoor_53 x1 v0 = some r) : WW E K 0 0 (QQ E K (fun rv g => rv = none ∧ g = [wModel E a0 (rf2 (a0 2) h0_1) r]) 0 0) 53 [(0, .ref (a0 0)), (1, .int x1)] [.ref (a0 0)] [wModel E a0 (rf2 (a0 2) h0_1) v0] := by
  rw [Mod_readDoor_53] at hf
  refine ww_iconst (v := 1) C dX9_readDoor_53 (by decide) ?_
  refine ww_goto (tgt := 58) C dX9_readDoor_54 (by decide) ?_
  refine ww_sub C (lv' := [(0, .ref (a0 0)), (1, .int x1)]) [0, 1] rfl ?_
  exact w_X9_readDoor_58 C hf

set_option maxHeartbeats 4000000 in
set_option maxRecDepth 100000 in
theorem w_X9_readDoor_17 {E : Ex} {K : Kx} (C : Cx E K cX9_readDoor 5 none RX9 wsX9_readDoor rmX9_readDoor) {a0 : Nat → Nat} {h0_1 : Nat}   {s0 : Int32} {v0 : ModelV} {r : ModelV} (hf : Mod_readDoor_17 s0 v0 = some r) : WW E K 0 0 (QQ E K (fun rv g => rv = none ∧ g = [wModel E a0 (rf2 (a0 2) h0_1) r]) 0 0) 17 [(0, .ref (a0 0))] [.int s0, .ref (a0 0)] [wModel E a0 (rf2 (a0 2) h0_1) v0] := by
  rw [Mod_readDoor_17] at hf
  refine ww_iconst (v := 3) C dX9_readDoor_17 (by decide) ?_
  obtain ⟨z_3, e_z_3, hf⟩ := asBE hf
  rw [e_z_3]
  obtain ⟨p18, hp18, hf⟩ := bdE hf
  refine ww_callV C (As := [.int (b2i z_3), .int 3]) (st := []) (gr := []) (c_X9_check (E := E) (a0 := a0) (h0_0 := a0 2) (h0_1 := h0_1) hp18) gX9_readDoor_X9_check rfl yk_X9_check ⟨by decide, by decide⟩ ⟨by decide, by decide⟩ clOK9 0 0 rfl rfl [0] [] 1 rfl (by decide) rfl rfl (Nat.le_of_ble_eq_true rfl) dX9_readDoor_18 ?_
  rintro _ _ ⟨rfl, rfl⟩
  refine ww_perm (gs' := [wModel E a0 (rf2 (a0 2) h0_1) p18]) [0] 1 rfl (by decide) rfl ?_
  refine ww_aload_n C dX9_readDoor_21 rfl 0 rfl ?_
  obtain ⟨p22, hp22, hf⟩ := bdE hf
  refine ww_callV C (As := []) (st := []) (gr := []) (c_X9_advance (E := E) (a0 := a0) (h0_0 := a0 2) (h0_1 := h0_1) hp22) gX9_readDoor_X9_advance rfl yk_X9_advance ⟨by decide, by decide⟩ ⟨by decide, by decide⟩ clOK9 0 0 rfl rfl [0] [] 1 rfl (by decide) rfl rfl (Nat.le_of_ble_eq_true rfl) dX9_readDoor_22 ?_
  rintro _ _ ⟨rfl, rfl⟩
  refine ww_perm (gs' := [wModel E a0 (rf2 (a0 2) h0_1) p22]) [0] 1 rfl (by decide) rfl ?_
  refine ww_aload_n C dX9_readDoor_25 rfl 0 rfl ?_
  refine ww_iconst (v := 0) C dX9_readDoor_26 (by decide) ?_
  refine ww_aload_n C dX9_readDoor_27 rfl 0 rfl ?_
  obtain ⟨p28, hp28, hf⟩ := bdE hf
  refine ww_callV C (As := []) (st := [.int 0, .ref (a0 0)]) (gr := []) (c_X9_rooms_D (E := E) (a0 := a0) (h0_1 := h0_1) hp28) gX9_readDoor_X9_rooms rfl yk_X9_rooms ⟨by decide, by decide⟩ ⟨by decide, by decide⟩ clOK9 0 0 rfl rfl [0] [] 1 rfl (by decide) rfl rfl (Nat.le_of_ble_eq_true rfl) dX9_readDoor_28 ?_
  rintro _ _ ⟨rfl, rfl⟩
  refine ww_perm (gs' := [wModel E a0 (rf2 (a0 2) h0_1) p22]) [0] 1 rfl (by decide) rfl ?_
  refine ww_iconst (v := 1) C dX9_readDoor_31 (by decide) ?_
  refine ww_isub C dX9_readDoor_32 ?_
  obtain ⟨p33, hp33, hf⟩ := bdE hf
  refine ww_callV C (As := [.int 0, .int (p28 - 1)]) (st := []) (gr := []) (c_X9_readNumber (E := E) (a0 := a0) (h0_0 := a0 2) (h0_1 := h0_1) hp33) gX9_readDoor_X9_readNumber rfl yk_X9_readNumber ⟨by decide, by decide⟩ ⟨by decide, by decide⟩ clOK9 0 0 rfl rfl [0] [] 1 rfl (by decide) rfl rfl (Nat.le_of_ble_eq_true rfl) dX9_readDoor_33 ?_
  rintro _ _ ⟨rfl, rfl⟩
  refine ww_perm (gs' := [wModel E a0 (rf2 (a0 2) h0_1) p33.2]) [0] 1 rfl (by decide) rfl ?_
  refine ww_istore_n (lv' := [(1, .int p33.1), (0, .ref (a0 0))]) C dX9_readDoor_36 rfl (by decide) rfl ?_
  refine ww_aload_n C dX9_readDoor_37 rfl 1 rfl ?_
  refine ww_aload_n C dX9_readDoor_38 rfl 1 rfl ?_
  refine ww_get C clOK9 in_X9_readDoor_X9 (w := wModel E a0 (rf2 (a0 2) h0_1) p33.2) (fs := fsModel a0 (rf2 (a0 2) h0_1) p33.2) (v := .int (Model_error p33.2)) 0 0 27 rfl q_Model (by decide) (by decide +kernel) g_Model_error dX9_readDoor_39 ?_
  refine ww_if_ne (tgt := 53) C dX9_readDoor_42 (by decide) (fun c_4 => ?_) (fun c_4 => ?_)
  · replace hf := ifF c_4 hf
    refine ww_sub C (lv' := [(0, .ref (a0 0)), (1, .int p33.1)]) [1, 0] rfl ?_
    exact w_X9_readDoor_53 C hf
  · replace hf := ifT c_4 hf
    refine ww_aload_n C dX9_readDoor_45 rfl 1 rfl ?_
    refine ww_get C clOK9 in_X9_readDoor_X9 (w := wModel E a0 (rf2 (a0 2) h0_1) p33.2) (fs := fsModel a0 (rf2 (a0 2) h0_1) p33.2) (v := .int (Model_token p33.2)) 0 0 26 rfl q_Model (by decide) (by decide +kernel) g_Model_token dX9_readDoor_46 ?_
    refine ww_iconst (v := 2) C dX9_readDoor_49 (by decide) ?_
    refine ww_icmp_ne (tgt := 57) C dX9_readDoor_50 (by decide) (fun c_5 => ?_) (fun c_5 => ?_)
    · replace hf := ifF c_5 hf
      refine ww_iconst (v := 0) C dX9_readDoor_57 (by decide) ?_
      refine ww_sub C (lv' := [(0, .ref (a0 0)), (1, .int p33.1)]) [1, 0] rfl ?_
      exact w_X9_readDoor_58 C hf
    · replace hf := ifT c_5 hf
      refine ww_sub C (lv' := [(0, .ref (a0 0)), (1, .int p33.1)]) [1, 0] rfl ?_
      exact w_X9_readDoor_53 C hf

set_option maxHeartbeats 4000000 in
set_option maxRecDepth 100000 in
theorem c_X9_readDoor {E : Ex} {a0 : Nat → Nat} {h0_1 : Nat} {v0 : ModelV} {r : ModelV} (hf : Mod_readDoor v0 = some r) : Ct E yX9_readDoor wsX9_readDoor rmX9_readDoor [.ref (a0 0)] [wModel E a0 (rf2 (a0 2) h0_1) v0] (fun rv g => rv = none ∧ g = [wModel E a0 (rf2 (a0 2) h0_1) r]) := by
  refine ct_of (own := RX9) (by decide +kernel) rfl rfl (Nat.le_of_ble_eq_true rfl) (fun K C => ?_)
  refine ww_sub C (lv' := [(0, .ref (a0 0))]) [0] rfl ?_
  rw [Mod_readDoor] at hf
  refine ww_aload_n C dX9_readDoor_0 rfl 0 rfl ?_
  refine ww_aload_n C dX9_readDoor_1 rfl 0 rfl ?_
  refine ww_get C clOK9 in_X9_readDoor_X9 (w := wModel E a0 (rf2 (a0 2) h0_1) v0) (fs := fsModel a0 (rf2 (a0 2) h0_1) v0) (v := .ref (a0 2)) 0 0 1 rfl q_Model (by decide) (by decide +kernel) g_Model_draft dX9_readDoor_2 ?_
  refine ww_iconst (v := 1) C dX9_readDoor_5 (by decide) ?_
  obtain ⟨g_1, hf⟩ := gdE hf
  refine ww_iald C (f := Model_draft v0) (w := wModel E a0 (rf2 (a0 2) h0_1) v0) 0 2 rfl c_Model_draft (inB_vp g_1) dX9_readDoor_6 ?_
  refine ww_bipush (v := 20) C dX9_readDoor_7 (by decide) ?_
  refine ww_icmp_ge (tgt := 16) C dX9_readDoor_9 (by decide) (fun c_2 => ?_) (fun c_2 => ?_)
  · replace hf := ifT c_2 hf
    refine ww_iconst (v := 0) C dX9_readDoor_16 (by decide) ?_
    refine ww_sub C (lv' := [(0, .ref (a0 0))]) [0] rfl ?_
    exact w_X9_readDoor_17 C hf
  · replace hf := ifF c_2 hf
    refine ww_iconst (v := 1) C dX9_readDoor_12 (by decide) ?_
    refine ww_goto (tgt := 17) C dX9_readDoor_13 (by decide) ?_
    refine ww_sub C (lv' := [(0, .ref (a0 0))]) [0] rfl ?_
    exact w_X9_readDoor_17 C hf

theorem yk_X9_readDoor : yX9_readDoor.cls = RX9 ∧ yX9_readDoor.cls ≠ "java/lang/invoke/MethodHandle" ∧ yX9_readDoor.cls ≠ "java/lang/invoke/VarHandle" ∧ (parseMethodDescriptor yX9_readDoor.desc).map (fun d => d.parameters.length) = some 0 := by decide +kernel
abbrev rmX9_isStep : Room := { frames := 4, cells := 0, slots := 0, locals := 90 }
set_option maxHeartbeats 4000000 in
set_option maxRecDepth 100000 in
theorem c_X9_isStep {E : Ex} {a0 : Nat → Nat} {h0_1 : Nat} {x1 : Int32} {x2 : Int32} {v0 : ModelV} {r : Bool} (hf : Mod_isStep x1 x2 v0 = some r) : Ct E yX9_isStep wsX9_isStep rmX9_isStep [.ref (a0 0), .int x1, .int x2] [wModel E a0 (rf2 (a0 2) h0_1) v0] (fun rv g => rv = some (.int (b2i r)) ∧ g = [wModel E a0 (rf2 (a0 2) h0_1) v0]) := by
  refine ct_of (own := RX9) (by decide +kernel) rfl rfl (Nat.le_of_ble_eq_true rfl) (fun K C => ?_)
  refine ww_sub C (lv' := [(0, .ref (a0 0)), (1, .int x1), (2, .int x2)]) [0, 1, 2] rfl ?_
  rw [Mod_isStep] at hf
  refine ww_iload_n C dX9_isStep_0 rfl 1 rfl ?_
  refine ww_iload_n C dX9_isStep_1 rfl 2 rfl ?_
  refine ww_icmp_eq (tgt := 14) C dX9_isStep_2 (by decide) (fun c_1 => ?_) (fun c_1 => ?_)
  · replace hf := ifT c_1 hf
    refine ww_iconst (v := 1) C dX9_isStep_14 (by decide) ?_
    refine ww_goto (tgt := 19) C dX9_isStep_15 (by decide) ?_
    obtain rfl := Option.some.inj hf
    exact ww_zret C (nar_b true) ⟨rfl, rfl⟩ dX9_isStep_19
  · replace hf := ifF c_1 hf
    refine ww_aload_n C dX9_isStep_5 rfl 0 rfl ?_
    refine ww_iload_n C dX9_isStep_6 rfl 1 rfl ?_
    refine ww_iload_n C dX9_isStep_7 rfl 2 rfl ?_
    obtain ⟨p8, hp8, hf⟩ := bdE hf
    refine ww_callV C (As := [.int x1, .int x2]) (st := []) (gr := []) (c_X9_openBetween_D (E := E) (a0 := a0) (h0_1 := h0_1) hp8) gX9_isStep_X9_openBetween rfl yk_X9_openBetween ⟨by decide, by decide⟩ ⟨by decide, by decide⟩ clOK9 0 0 rfl rfl [0] [] 1 rfl (by decide) rfl rfl (Nat.le_of_ble_eq_true rfl) dX9_isStep_8 ?_
    rintro _ _ ⟨rfl, rfl⟩
    refine ww_perm (gs' := [wModel E a0 (rf2 (a0 2) h0_1) v0]) [0] 1 rfl (by decide) rfl ?_
    refine ww_if_le (tgt := 18) C dX9_isStep_11 (by decide) (fun c_2 => ?_) (fun c_2 => ?_)
    · replace hf := ifT c_2 hf
      refine ww_iconst (v := 0) C dX9_isStep_18 (by decide) ?_
      obtain rfl := Option.some.inj hf
      exact ww_zret C (nar_b false) ⟨rfl, rfl⟩ dX9_isStep_19
    · replace hf := ifF c_2 hf
      refine ww_iconst (v := 1) C dX9_isStep_14 (by decide) ?_
      refine ww_goto (tgt := 19) C dX9_isStep_15 (by decide) ?_
      obtain rfl := Option.some.inj hf
      exact ww_zret C (nar_b true) ⟨rfl, rfl⟩ dX9_isStep_19

theorem yk_X9_isStep : yX9_isStep.cls = RX9 ∧ yX9_isStep.cls ≠ "java/lang/invoke/MethodHandle" ∧ yX9_isStep.cls ≠ "java/lang/invoke/VarHandle" ∧ (parseMethodDescriptor yX9_isStep.desc).map (fun d => d.parameters.length) = some 2 := by decide +kernel
abbrev rmX9_readStep : Room := { frames := 5, cells := 0, slots := 0, locals := 112 }
set_option maxRecDepth 20000 in
theorem in_X9_readStep_X9 : ∀ w ∈ u_ws RX9 TX9 35, w ∈ wsX9_readStep := by decide +kernel
set_option maxHeartbeats 4000000 in
set_option maxRecDepth 100000 in
theorem w_X9_readStep_164 {E : Ex} {K : Kx} (C : Cx E K cX9_readStep 3 none RX9 wsX9_readStep rmX9_readStep) {a0 : Nat → Nat} {h0_1 : Nat} {x1 : Int32}  {v0 : ModelV} {r : ModelV} (hf : Mod_readStep_164 x1 v0 = some r) : WW E K 0 0 (QQ E K (fun rv g => rv = none ∧ g = [wModel E a0 (rf2 (a0 2) h0_1) r]) 0 0) 164 [(0, .ref (a0 0))] [] [wModel E a0 (rf2 (a0 2) h0_1) v0] := by
  rw [Mod_readStep_164] at hf
  refine ww_aload_n C dX9_readStep_164 rfl 0 rfl ?_
  obtain ⟨p165, hp165, hf⟩ := bdE hf
  refine ww_callV C (As := []) (st := []) (gr := []) (c_X9_advance (E := E) (a0 := a0) (h0_0 := a0 2) (h0_1 := h0_1) hp165) gX9_readStep_X9_advance rfl yk_X9_advance ⟨by decide, by decide⟩ ⟨by decide, by decide⟩ clOK9 0 0 rfl rfl [0] [] 1 rfl (by decide) rfl rfl (Nat.le_of_ble_eq_true rfl) dX9_readStep_165 ?_
  rintro _ _ ⟨rfl, rfl⟩
  refine ww_perm (gs' := [wModel E a0 (rf2 (a0 2) h0_1) p165]) [0] 1 rfl (by decide) rfl ?_
  obtain rfl := Option.some.inj hf
  exact ww_vret C ⟨rfl, rfl⟩ dX9_readStep_168

set_option maxHeartbeats 4000000 in
set_option maxRecDepth 100000 in
theorem w_X9_readStep_123 {E : Ex} {K : Kx} (C : Cx E K cX9_readStep 3 none RX9 wsX9_readStep rmX9_readStep) {a0 : Nat → Nat} {h0_1 : Nat} {x1 : Int32}  {x2 : Int32} {s0 : Int32} {v0 : ModelV} {r : ModelV} (hf : Mod_readStep_123 x1 x2 s0 v0 = some r) : WW E K 0 0 (QQ E K (fun rv g => rv = none ∧ g = [wModel E a0 (rf2 (a0 2) h0_1) r]) 0 0) 123 [(0, .ref (a0 0)), (1, .int x1), (2, .int x2)] [.int s0, .ref (a0 0)] [wModel E a0 (rf2 (a0 2) h0_1) v0] := by
  rw [Mod_readStep_123] at hf
  refine ww_iconst (v := 4) C dX9_readStep_123 (by decide) ?_
  obtain ⟨z_15, e_z_15, hf⟩ := asBE hf
  rw [e_z_15]
  obtain ⟨p124, hp124, hf⟩ := bdE hf
  refine ww_callV C (As := [.int (b2i z_15), .int 4]) (st := []) (gr := []) (c_X9_check (E := E) (a0 := a0) (h0_0 := a0 2) (h0_1 := h0_1) hp124) gX9_readStep_X9_check rfl yk_X9_check ⟨by decide, by decide⟩ ⟨by decide, by decide⟩ clOK9 0 0 rfl rfl [0] [] 1 rfl (by decide) rfl rfl (Nat.le_of_ble_eq_true rfl) dX9_readStep_124 ?_
  rintro _ _ ⟨rfl, rfl⟩
  refine ww_perm (gs' := [wModel E a0 (rf2 (a0 2) h0_1) p124]) [0] 1 rfl (by decide) rfl ?_
  refine ww_aload_n C dX9_readStep_127 rfl 0 rfl ?_
  refine ww_get C clOK9 in_X9_readStep_X9 (w := wModel E a0 (rf2 (a0 2) h0_1) p124) (fs := fsModel a0 (rf2 (a0 2) h0_1) p124) (v := .int (Model_error p124)) 0 0 27 rfl q_Model (by decide) (by decide +kernel) g_Model_error dX9_readStep_128 ?_
  refine ww_if_ne (tgt := 164) C dX9_readStep_131 (by decide) (fun c_16 => ?_) (fun c_16 => ?_)
  · replace hf := ifF c_16 hf
    refine ww_sub C (lv' := [(0, .ref (a0 0))]) [0] rfl ?_
    exact w_X9_readStep_164 C hf
  · replace hf := ifT c_16 hf
    refine ww_aload_n C dX9_readStep_134 rfl 0 rfl ?_
    refine ww_get C clOK9 in_X9_readStep_X9 (w := wModel E a0 (rf2 (a0 2) h0_1) p124) (fs := fsModel a0 (rf2 (a0 2) h0_1) p124) (v := .ref (a0 2)) 0 0 1 rfl q_Model (by decide) (by decide +kernel) g_Model_draft dX9_readStep_135 ?_
    refine ww_iload_n C dX9_readStep_138 rfl 1 rfl ?_
    refine ww_iconst (v := 2) C dX9_readStep_139 (by decide) ?_
    refine ww_iload_n C dX9_readStep_140 rfl 2 rfl ?_
    refine ww_iadd C dX9_readStep_141 ?_
    obtain ⟨p142, hp142, hf⟩ := bdE hf
    refine ww_callS C (As := [.int x1, .int (2 + x2)]) (st := [.ref (a0 2)]) (gr := [wModel E a0 (rf2 (a0 2) h0_1) p124]) (c_X9_guardAt (E := E)  hp142) gX9_readStep_X9_guardAt rfl ysk_X9_guardAt ⟨by decide, by decide⟩ ⟨by decide, by decide⟩ [] [0] 1 rfl (by decide) rfl rfl (Nat.le_of_ble_eq_true rfl) dX9_readStep_142 ?_
    rintro _ _ ⟨rfl, rfl⟩
    refine ww_perm (gs' := [wModel E a0 (rf2 (a0 2) h0_1) p124]) [0] 1 rfl (by decide) rfl ?_
    refine ww_aload_n C dX9_readStep_145 rfl 0 rfl ?_
    obtain ⟨p146, hp146, hf⟩ := bdE hf
    refine ww_callV C (As := []) (st := [.int p142, .ref (a0 2)]) (gr := []) (c_X9_value (E := E) (a0 := a0) (h0_0 := a0 2) (h0_1 := h0_1) hp146) gX9_readStep_X9_value rfl yk_X9_value ⟨by decide, by decide⟩ ⟨by decide, by decide⟩ clOK9 0 0 rfl rfl [0] [] 1 rfl (by decide) rfl rfl (Nat.le_of_ble_eq_true rfl) dX9_readStep_146 ?_
    rintro _ _ ⟨rfl, rfl⟩
    refine ww_perm (gs' := [wModel E a0 (rf2 (a0 2) h0_1) p124]) [0] 1 rfl (by decide) rfl ?_
    obtain ⟨g_17, hf⟩ := gdE hf
    obtain ⟨v0_149, e_v0_149⟩ : ∃ y : ModelV, y = Model_set_draft p124 (upd (Model_draft p124) (Int32.toNatClampNeg p142) p146) := ⟨_, rfl⟩
    replace hf := ltE e_v0_149 hf
    refine ww_iast C (f := Model_draft p124) (w := wModel E a0 (rf2 (a0 2) h0_1) p124) (w' := wModel E a0 (rf2 (a0 2) h0_1) v0_149) (gs' := [wModel E a0 (rf2 (a0 2) h0_1) v0_149]) 0 2 rfl c_Model_draft (inB_vp g_17) (by rw [e_v0_149]; exact s_Model_draft) rfl dX9_readStep_149 ?_
    refine ww_aload_n C dX9_readStep_150 rfl 0 rfl ?_
    refine ww_get C clOK9 in_X9_readStep_X9 (w := wModel E a0 (rf2 (a0 2) h0_1) v0_149) (fs := fsModel a0 (rf2 (a0 2) h0_1) v0_149) (v := .ref (a0 2)) 0 0 1 rfl q_Model (by decide) (by decide +kernel) g_Model_draft dX9_readStep_151 ?_
    refine ww_iload_n C dX9_readStep_154 rfl 1 rfl ?_
    refine ww_iconst (v := 0) C dX9_readStep_155 (by decide) ?_
    obtain ⟨p156, hp156, hf⟩ := bdE hf
    refine ww_callS C (As := [.int x1, .int 0]) (st := [.ref (a0 2)]) (gr := [wModel E a0 (rf2 (a0 2) h0_1) v0_149]) (c_X9_guardAt (E := E)  hp156) gX9_readStep_X9_guardAt rfl ysk_X9_guardAt ⟨by decide, by decide⟩ ⟨by decide, by decide⟩ [] [0] 1 rfl (by decide) rfl rfl (Nat.le_of_ble_eq_true rfl) dX9_readStep_156 ?_
    rintro _ _ ⟨rfl, rfl⟩
    refine ww_perm (gs' := [wModel E a0 (rf2 (a0 2) h0_1) v0_149]) [0] 1 rfl (by decide) rfl ?_
    refine ww_dup2 C dX9_readStep_159 rfl rfl ?_
    obtain ⟨g_18, hf⟩ := gdE hf
    refine ww_iald C (f := Model_draft v0_149) (w := wModel E a0 (rf2 (a0 2) h0_1) v0_149) 0 2 rfl c_Model_draft (inB_vp g_18) dX9_readStep_160 ?_
    refine ww_iconst (v := 1) C dX9_readStep_161 (by decide) ?_
    refine ww_iadd C dX9_readStep_162 ?_
    obtain ⟨v0_163, e_v0_163⟩ : ∃ y : ModelV, y = Model_set_draft v0_149 (upd (Model_draft v0_149) (Int32.toNatClampNeg p156) (((Model_draft v0_149) (Int32.toNatClampNeg p156)) + 1)) := ⟨_, rfl⟩
    replace hf := ltE e_v0_163 hf
    refine ww_iast C (f := Model_draft v0_149) (w := wModel E a0 (rf2 (a0 2) h0_1) v0_149) (w' := wModel E a0 (rf2 (a0 2) h0_1) v0_163) (gs' := [wModel E a0 (rf2 (a0 2) h0_1) v0_163]) 0 2 rfl c_Model_draft (inB_vp g_18) (by rw [e_v0_163]; exact s_Model_draft) rfl dX9_readStep_163 ?_
    refine ww_sub C (lv' := [(0, .ref (a0 0))]) [0] rfl ?_
    exact w_X9_readStep_164 C hf

set_option maxHeartbeats 4000000 in
set_option maxRecDepth 100000 in
theorem w_X9_readStep_118 {E : Ex} {K : Kx} (C : Cx E K cX9_readStep 3 none RX9 wsX9_readStep rmX9_readStep) {a0 : Nat → Nat} {h0_1 : Nat} {x1 : Int32}  {x2 : Int32} {v0 : ModelV} {r : ModelV} (hf : Mod_readStep_118 x1 x2 v0 = some r) : WW E K 0 0 (QQ E K (fun rv g => rv = none ∧ g = [wModel E a0 (rf2 (a0 2) h0_1) r]) 0 0) 118 [(0, .ref (a0 0)), (1, .int x1), (2, .int x2)] [.ref (a0 0)] [wModel E a0 (rf2 (a0 2) h0_1) v0] := by
  rw [Mod_readStep_118] at hf
  refine ww_iconst (v := 1) C dX9_readStep_118 (by decide) ?_
  refine ww_goto (tgt := 123) C dX9_readStep_119 (by decide) ?_
  refine ww_sub C (lv' := [(0, .ref (a0 0)), (1, .int x1), (2, .int x2)]) [0, 1, 2] rfl ?_
  exact w_X9_readStep_123 C hf

set_option maxHeartbeats 4000000 in
set_option maxRecDepth 100000 in
theorem w_X9_readStep_83 {E : Ex} {K : Kx} (C : Cx E K cX9_readStep 3 none RX9 wsX9_readStep rmX9_readStep) {a0 : Nat → Nat} {h0_1 : Nat} {x1 : Int32}  {x2 : Int32} {s0 : Int32} {v0 : ModelV} {r : ModelV} (hf : Mod_readStep_83 x1 x2 s0 v0 = some r) : WW E K 0 0 (QQ E K (fun rv g => rv = none ∧ g = [wModel E a0 (rf2 (a0 2) h0_1) r]) 0 0) 83 [(0, .ref (a0 0)), (1, .int x1), (2, .int x2)] [.int s0, .ref (a0 0)] [wModel E a0 (rf2 (a0 2) h0_1) v0] := by
  rw [Mod_readStep_83] at hf
  refine ww_iconst (v := 3) C dX9_readStep_83 (by decide) ?_
  obtain ⟨z_11, e_z_11, hf⟩ := asBE hf
  rw [e_z_11]
  obtain ⟨p84, hp84, hf⟩ := bdE hf
  refine ww_callV C (As := [.int (b2i z_11), .int 3]) (st := []) (gr := []) (c_X9_check (E := E) (a0 := a0) (h0_0 := a0 2) (h0_1 := h0_1) hp84) gX9_readStep_X9_check rfl yk_X9_check ⟨by decide, by decide⟩ ⟨by decide, by decide⟩ clOK9 0 0 rfl rfl [0] [] 1 rfl (by decide) rfl rfl (Nat.le_of_ble_eq_true rfl) dX9_readStep_84 ?_
  rintro _ _ ⟨rfl, rfl⟩
  refine ww_perm (gs' := [wModel E a0 (rf2 (a0 2) h0_1) p84]) [0] 1 rfl (by decide) rfl ?_
  refine ww_aload_n C dX9_readStep_87 rfl 0 rfl ?_
  refine ww_aload_n C dX9_readStep_88 rfl 0 rfl ?_
  refine ww_get C clOK9 in_X9_readStep_X9 (w := wModel E a0 (rf2 (a0 2) h0_1) p84) (fs := fsModel a0 (rf2 (a0 2) h0_1) p84) (v := .int (Model_error p84)) 0 0 27 rfl q_Model (by decide) (by decide +kernel) g_Model_error dX9_readStep_89 ?_
  refine ww_if_ne (tgt := 118) C dX9_readStep_92 (by decide) (fun c_12 => ?_) (fun c_12 => ?_)
  · replace hf := ifF c_12 hf
    refine ww_sub C (lv' := [(0, .ref (a0 0)), (1, .int x1), (2, .int x2)]) [0, 1, 2] rfl ?_
    exact w_X9_readStep_118 C hf
  · replace hf := ifT c_12 hf
    refine ww_iload_n C dX9_readStep_95 rfl 2 rfl ?_
    refine ww_if_eq (tgt := 118) C dX9_readStep_96 (by decide) (fun c_13 => ?_) (fun c_13 => ?_)
    · replace hf := ifT c_13 hf
      refine ww_sub C (lv' := [(0, .ref (a0 0)), (1, .int x1), (2, .int x2)]) [0, 1, 2] rfl ?_
      exact w_X9_readStep_118 C hf
    · replace hf := ifF c_13 hf
      refine ww_aload_n C dX9_readStep_99 rfl 0 rfl ?_
      refine ww_aload_n C dX9_readStep_100 rfl 0 rfl ?_
      refine ww_iload_n C dX9_readStep_101 rfl 1 rfl ?_
      refine ww_iload_n C dX9_readStep_102 rfl 2 rfl ?_
      refine ww_iconst (v := 1) C dX9_readStep_103 (by decide) ?_
      refine ww_isub C dX9_readStep_104 ?_
      obtain ⟨p105, hp105, hf⟩ := bdE hf
      refine ww_callV C (As := [.int x1, .int (x2 - 1)]) (st := [.ref (a0 0), .ref (a0 0)]) (gr := []) (c_X9_step_D (E := E) (a0 := a0) (h0_1 := h0_1) hp105) gX9_readStep_X9_step rfl yk_X9_step ⟨by decide, by decide⟩ ⟨by decide, by decide⟩ clOK9 0 0 rfl rfl [0] [] 1 rfl (by decide) rfl rfl (Nat.le_of_ble_eq_true rfl) dX9_readStep_105 ?_
      rintro _ _ ⟨rfl, rfl⟩
      refine ww_perm (gs' := [wModel E a0 (rf2 (a0 2) h0_1) p84]) [0] 1 rfl (by decide) rfl ?_
      refine ww_aload_n C dX9_readStep_108 rfl 0 rfl ?_
      obtain ⟨p109, hp109, hf⟩ := bdE hf
      refine ww_callV C (As := []) (st := [.int p105, .ref (a0 0), .ref (a0 0)]) (gr := []) (c_X9_value (E := E) (a0 := a0) (h0_0 := a0 2) (h0_1 := h0_1) hp109) gX9_readStep_X9_value rfl yk_X9_value ⟨by decide, by decide⟩ ⟨by decide, by decide⟩ clOK9 0 0 rfl rfl [0] [] 1 rfl (by decide) rfl rfl (Nat.le_of_ble_eq_true rfl) dX9_readStep_109 ?_
      rintro _ _ ⟨rfl, rfl⟩
      refine ww_perm (gs' := [wModel E a0 (rf2 (a0 2) h0_1) p84]) [0] 1 rfl (by decide) rfl ?_
      obtain ⟨p112, hp112, hf⟩ := bdE hf
      refine ww_callV C (As := [.int p105, .int p109]) (st := [.ref (a0 0)]) (gr := []) (c_X9_isStep (E := E) (a0 := a0) (h0_1 := h0_1) hp112) gX9_readStep_X9_isStep rfl yk_X9_isStep ⟨by decide, by decide⟩ ⟨by decide, by decide⟩ clOK9 0 0 rfl rfl [0] [] 1 rfl (by decide) rfl rfl (Nat.le_of_ble_eq_true rfl) dX9_readStep_112 ?_
      rintro _ _ ⟨rfl, rfl⟩
      refine ww_perm (gs' := [wModel E a0 (rf2 (a0 2) h0_1) p84]) [0] 1 rfl (by decide) rfl ?_
      refine ww_if_eqB (tgt := 122) C dX9_readStep_115 (by decide) (fun c_14 => ?_) (fun c_14 => ?_)
      · replace hf := bfE c_14 hf
        refine ww_iconst (v := 0) C dX9_readStep_122 (by decide) ?_
        refine ww_sub C (lv' := [(0, .ref (a0 0)), (1, .int x1), (2, .int x2)]) [0, 1, 2] rfl ?_
        exact w_X9_readStep_123 C hf
      · replace hf := btE c_14 hf
        refine ww_sub C (lv' := [(0, .ref (a0 0)), (1, .int x1), (2, .int x2)]) [0, 1, 2] rfl ?_
        exact w_X9_readStep_118 C hf

set_option maxHeartbeats 4000000 in
set_option maxRecDepth 100000 in
theorem w_X9_readStep_78 {E : Ex} {K : Kx} (C : Cx E K cX9_readStep 3 none RX9 wsX9_readStep rmX9_readStep) {a0 : Nat → Nat} {h0_1 : Nat} {x1 : Int32}  {x2 : Int32} {v0 : ModelV} {r : ModelV} (hf : Mod_readStep_78 x1 x2 v0 = some r) : WW E K 0 0 (QQ E K (fun rv g => rv = none ∧ g = [wModel E a0 (rf2 (a0 2) h0_1) r]) 0 0) 78 [(0, .ref (a0 0)), (1, .int x1), (2, .int x2)] [.ref (a0 0)] [wModel E a0 (rf2 (a0 2) h0_1) v0] := by
  rw [Mod_readStep_78] at hf
  refine ww_iconst (v := 1) C dX9_readStep_78 (by decide) ?_
  refine ww_goto (tgt := 83) C dX9_readStep_79 (by decide) ?_
  refine ww_sub C (lv' := [(0, .ref (a0 0)), (1, .int x1), (2, .int x2)]) [0, 1, 2] rfl ?_
  exact w_X9_readStep_83 C hf

set_option maxHeartbeats 4000000 in
set_option maxRecDepth 100000 in
theorem w_X9_readStep_60 {E : Ex} {K : Kx} (C : Cx E K cX9_readStep 3 none RX9 wsX9_readStep rmX9_readStep) {a0 : Nat → Nat} {h0_1 : Nat} {x1 : Int32}  {x2 : Int32} {s0 : Int32} {v0 : ModelV} {r : ModelV} (hf : Mod_readStep_60 x1 x2 s0 v0 = some r) : WW E K 0 0 (QQ E K (fun rv g => rv = none ∧ g = [wModel E a0 (rf2 (a0 2) h0_1) r]) 0 0) 60 [(0, .ref (a0 0)), (1, .int x1), (2, .int x2)] [.int s0, .ref (a0 0)] [wModel E a0 (rf2 (a0 2) h0_1) v0] := by
  rw [Mod_readStep_60] at hf
  refine ww_iconst (v := 2) C dX9_readStep_60 (by decide) ?_
  obtain ⟨z_8, e_z_8, hf⟩ := asBE hf
  rw [e_z_8]
  obtain ⟨p61, hp61, hf⟩ := bdE hf
  refine ww_callV C (As := [.int (b2i z_8), .int 2]) (st := []) (gr := []) (c_X9_check (E := E) (a0 := a0) (h0_0 := a0 2) (h0_1 := h0_1) hp61) gX9_readStep_X9_check rfl yk_X9_check ⟨by decide, by decide⟩ ⟨by decide, by decide⟩ clOK9 0 0 rfl rfl [0] [] 1 rfl (by decide) rfl rfl (Nat.le_of_ble_eq_true rfl) dX9_readStep_61 ?_
  rintro _ _ ⟨rfl, rfl⟩
  refine ww_perm (gs' := [wModel E a0 (rf2 (a0 2) h0_1) p61]) [0] 1 rfl (by decide) rfl ?_
  refine ww_aload_n C dX9_readStep_64 rfl 0 rfl ?_
  refine ww_aload_n C dX9_readStep_65 rfl 0 rfl ?_
  refine ww_get C clOK9 in_X9_readStep_X9 (w := wModel E a0 (rf2 (a0 2) h0_1) p61) (fs := fsModel a0 (rf2 (a0 2) h0_1) p61) (v := .int (Model_error p61)) 0 0 27 rfl q_Model (by decide) (by decide +kernel) g_Model_error dX9_readStep_66 ?_
  refine ww_if_ne (tgt := 78) C dX9_readStep_69 (by decide) (fun c_9 => ?_) (fun c_9 => ?_)
  · replace hf := ifF c_9 hf
    refine ww_sub C (lv' := [(0, .ref (a0 0)), (1, .int x1), (2, .int x2)]) [0, 1, 2] rfl ?_
    exact w_X9_readStep_78 C hf
  · replace hf := ifT c_9 hf
    refine ww_iload_n C dX9_readStep_72 rfl 2 rfl ?_
    refine ww_bipush (v := 10) C dX9_readStep_73 (by decide) ?_
    refine ww_icmp_ge (tgt := 82) C dX9_readStep_75 (by decide) (fun c_10 => ?_) (fun c_10 => ?_)
    · replace hf := ifT c_10 hf
      refine ww_iconst (v := 0) C dX9_readStep_82 (by decide) ?_
      refine ww_sub C (lv' := [(0, .ref (a0 0)), (1, .int x1), (2, .int x2)]) [0, 1, 2] rfl ?_
      exact w_X9_readStep_83 C hf
    · replace hf := ifF c_10 hf
      refine ww_sub C (lv' := [(0, .ref (a0 0)), (1, .int x1), (2, .int x2)]) [0, 1, 2] rfl ?_
      exact w_X9_readStep_78 C hf

set_option maxHeartbeats 4000000 in
set_option maxRecDepth 100000 in
theorem w_X9_readStep_55 {E : Ex} {K : Kx} (C : Cx E K cX9_readStep 3 none RX9 wsX9_readStep rmX9_readStep) {a0 : Nat → Nat} {h0_1 : Nat} {x1 : Int32}  {x2 : Int32} {v0 : ModelV} {r : ModelV} (hf : Mod_readStep_55 x1 x2 v0 = some r) : WW E K 0 0 (QQ E K (fun rv g => rv = none ∧ g = [wModel E a0 (rf2 (a0 2) h0_1) r]) 0 0) 55 [(0, .ref (a0 0)), (1, .int x1), (2, .int x2)] [.ref (a0 0)] [wModel E a0 (rf2 (a0 2) h0_1) v0] := by
  rw [Mod_readStep_55] at hf
  refine ww_iconst (v := 1) C dX9_readStep_55 (by decide) ?_
  refine ww_goto (tgt := 60) C dX9_readStep_56 (by decide) ?_
  refine ww_sub C (lv' := [(0, .ref (a0 0)), (1, .int x1), (2, .int x2)]) [0, 1, 2] rfl ?_
  exact w_X9_readStep_60 C hf

set_option maxHeartbeats 4000000 in
set_option maxRecDepth 100000 in
theorem w_X9_readStep_32 {E : Ex} {K : Kx} (C : Cx E K cX9_readStep 3 none RX9 wsX9_readStep rmX9_readStep) {a0 : Nat → Nat} {h0_1 : Nat} {x1 : Int32}  {x2 : Int32} {s0 : Int32} {v0 : ModelV} {r : ModelV} (hf : Mod_readStep_32 x1 x2 s0 v0 = some r) : WW E K 0 0 (QQ E K (fun rv g => rv = none ∧ g = [wModel E a0 (rf2 (a0 2) h0_1) r]) 0 0) 32 [(0, .ref (a0 0)), (1, .int x1), (2, .int x2)] [.int s0, .ref (a0 0)] [wModel E a0 (rf2 (a0 2) h0_1) v0] := by
  rw [Mod_readStep_32] at hf
  refine ww_iconst (v := 1) C dX9_readStep_32 (by decide) ?_
  obtain ⟨z_5, e_z_5, hf⟩ := asBE hf
  rw [e_z_5]
  obtain ⟨p33, hp33, hf⟩ := bdE hf
  refine ww_callV C (As := [.int (b2i z_5), .int 1]) (st := []) (gr := []) (c_X9_check (E := E) (a0 := a0) (h0_0 := a0 2) (h0_1 := h0_1) hp33) gX9_readStep_X9_check rfl yk_X9_check ⟨by decide, by decide⟩ ⟨by decide, by decide⟩ clOK9 0 0 rfl rfl [0] [] 1 rfl (by decide) rfl rfl (Nat.le_of_ble_eq_true rfl) dX9_readStep_33 ?_
  rintro _ _ ⟨rfl, rfl⟩
  refine ww_perm (gs' := [wModel E a0 (rf2 (a0 2) h0_1) p33]) [0] 1 rfl (by decide) rfl ?_
  refine ww_aload_n C dX9_readStep_36 rfl 0 rfl ?_
  refine ww_aload_n C dX9_readStep_37 rfl 0 rfl ?_
  refine ww_get C clOK9 in_X9_readStep_X9 (w := wModel E a0 (rf2 (a0 2) h0_1) p33) (fs := fsModel a0 (rf2 (a0 2) h0_1) p33) (v := .int (Model_error p33)) 0 0 27 rfl q_Model (by decide) (by decide +kernel) g_Model_error dX9_readStep_38 ?_
  refine ww_if_ne (tgt := 55) C dX9_readStep_41 (by decide) (fun c_6 => ?_) (fun c_6 => ?_)
  · replace hf := ifF c_6 hf
    refine ww_sub C (lv' := [(0, .ref (a0 0)), (1, .int x1), (2, .int x2)]) [0, 1, 2] rfl ?_
    exact w_X9_readStep_55 C hf
  · replace hf := ifT c_6 hf
    refine ww_aload_n C dX9_readStep_44 rfl 0 rfl ?_
    refine ww_aload_n C dX9_readStep_45 rfl 0 rfl ?_
    obtain ⟨p46, hp46, hf⟩ := bdE hf
    refine ww_callV C (As := []) (st := [.ref (a0 0), .ref (a0 0)]) (gr := []) (c_X9_value (E := E) (a0 := a0) (h0_0 := a0 2) (h0_1 := h0_1) hp46) gX9_readStep_X9_value rfl yk_X9_value ⟨by decide, by decide⟩ ⟨by decide, by decide⟩ clOK9 0 0 rfl rfl [0] [] 1 rfl (by decide) rfl rfl (Nat.le_of_ble_eq_true rfl) dX9_readStep_46 ?_
    rintro _ _ ⟨rfl, rfl⟩
    refine ww_perm (gs' := [wModel E a0 (rf2 (a0 2) h0_1) p33]) [0] 1 rfl (by decide) rfl ?_
    obtain ⟨p49, hp49, hf⟩ := bdE hf
    refine ww_callV C (As := [.int p46]) (st := [.ref (a0 0)]) (gr := []) (c_X9_isRoom_D (E := E) (a0 := a0) (h0_1 := h0_1) hp49) gX9_readStep_X9_isRoom rfl yk_X9_isRoom ⟨by decide, by decide⟩ ⟨by decide, by decide⟩ clOK9 0 0 rfl rfl [0] [] 1 rfl (by decide) rfl rfl (Nat.le_of_ble_eq_true rfl) dX9_readStep_49 ?_
    rintro _ _ ⟨rfl, rfl⟩
    refine ww_perm (gs' := [wModel E a0 (rf2 (a0 2) h0_1) p33]) [0] 1 rfl (by decide) rfl ?_
    refine ww_if_eqB (tgt := 59) C dX9_readStep_52 (by decide) (fun c_7 => ?_) (fun c_7 => ?_)
    · replace hf := bfE c_7 hf
      refine ww_iconst (v := 0) C dX9_readStep_59 (by decide) ?_
      refine ww_sub C (lv' := [(0, .ref (a0 0)), (1, .int x1), (2, .int x2)]) [0, 1, 2] rfl ?_
      exact w_X9_readStep_60 C hf
    · replace hf := btE c_7 hf
      refine ww_sub C (lv' := [(0, .ref (a0 0)), (1, .int x1), (2, .int x2)]) [0, 1, 2] rfl ?_
      exact w_X9_readStep_55 C hf

set_option maxHeartbeats 4000000 in
set_option maxRecDepth 100000 in
theorem w_X9_readStep_27 {E : Ex} {K : Kx} (C : Cx E K cX9_readStep 3 none RX9 wsX9_readStep rmX9_readStep) {a0 : Nat → Nat} {h0_1 : Nat} {x1 : Int32}  {x2 : Int32} {v0 : ModelV} {r : ModelV} (hf : Mod_readStep_27 x1 x2 v0 = some r) : WW E K 0 0 (QQ E K (fun rv g => rv = none ∧ g = [wModel E a0 (rf2 (a0 2) h0_1) r]) 0 0) 27 [(0, .ref (a0 0)), (1, .int x1), (2, .int x2)] [.ref (a0 0)] [wModel E a0 (rf2 (a0 2) h0_1) v0] := by
  rw [Mod_readStep_27] at hf
  refine ww_iconst (v := 1) C dX9_readStep_27 (by decide) ?_
  refine ww_goto (tgt := 32) C dX9_readStep_28 (by decide) ?_
  refine ww_sub C (lv' := [(0, .ref (a0 0)), (1, .int x1), (2, .int x2)]) [0, 1, 2] rfl ?_
  exact w_X9_readStep_32 C hf

set_option maxHeartbeats 4000000 in
set_option maxRecDepth 100000 in
theorem c_X9_readStep {E : Ex} {a0 : Nat → Nat} {h0_1 : Nat} {x1 : Int32} {v0 : ModelV} {r : ModelV} (hf : Mod_readStep x1 v0 = some r) : Ct E yX9_readStep wsX9_readStep rmX9_readStep [.ref (a0 0), .int x1] [wModel E a0 (rf2 (a0 2) h0_1) v0] (fun rv g => rv = none ∧ g = [wModel E a0 (rf2 (a0 2) h0_1) r]) := by
  refine ct_of (own := RX9) (by decide +kernel) rfl rfl (Nat.le_of_ble_eq_true rfl) (fun K C => ?_)
  refine ww_sub C (lv' := [(0, .ref (a0 0)), (1, .int x1)]) [0, 1] rfl ?_
  rw [Mod_readStep] at hf
  refine ww_aload_n C dX9_readStep_0 rfl 0 rfl ?_
  refine ww_get C clOK9 in_X9_readStep_X9 (w := wModel E a0 (rf2 (a0 2) h0_1) v0) (fs := fsModel a0 (rf2 (a0 2) h0_1) v0) (v := .ref (a0 2)) 0 0 1 rfl q_Model (by decide) (by decide +kernel) g_Model_draft dX9_readStep_1 ?_
  refine ww_iload_n C dX9_readStep_4 rfl 1 rfl ?_
  refine ww_iconst (v := 0) C dX9_readStep_5 (by decide) ?_
  obtain ⟨p6, hp6, hf⟩ := bdE hf
  refine ww_callS C (As := [.int x1, .int 0]) (st := [.ref (a0 2)]) (gr := [wModel E a0 (rf2 (a0 2) h0_1) v0]) (c_X9_guardAt (E := E)  hp6) gX9_readStep_X9_guardAt rfl ysk_X9_guardAt ⟨by decide, by decide⟩ ⟨by decide, by decide⟩ [] [0] 1 rfl (by decide) rfl rfl (Nat.le_of_ble_eq_true rfl) dX9_readStep_6 ?_
  rintro _ _ ⟨rfl, rfl⟩
  refine ww_perm (gs' := [wModel E a0 (rf2 (a0 2) h0_1) v0]) [0] 1 rfl (by decide) rfl ?_
  obtain ⟨g_1, hf⟩ := gdE hf
  refine ww_iald C (f := Model_draft v0) (w := wModel E a0 (rf2 (a0 2) h0_1) v0) 0 2 rfl c_Model_draft (inB_vp g_1) dX9_readStep_9 ?_
  refine ww_topi (fun x2_10 e_x2_10 => ?_)
  replace hf := ltE e_x2_10 hf
  refine ww_istore_n (lv' := [(2, .int x2_10), (0, .ref (a0 0)), (1, .int x1)]) C dX9_readStep_10 rfl (by decide) rfl ?_
  refine ww_aload_n C dX9_readStep_11 rfl 1 rfl ?_
  refine ww_aload_n C dX9_readStep_12 rfl 1 rfl ?_
  refine ww_get C clOK9 in_X9_readStep_X9 (w := wModel E a0 (rf2 (a0 2) h0_1) v0) (fs := fsModel a0 (rf2 (a0 2) h0_1) v0) (v := .int (Model_error v0)) 0 0 27 rfl q_Model (by decide) (by decide +kernel) g_Model_error dX9_readStep_13 ?_
  refine ww_if_ne (tgt := 27) C dX9_readStep_16 (by decide) (fun c_3 => ?_) (fun c_3 => ?_)
  · replace hf := ifF c_3 hf
    refine ww_sub C (lv' := [(0, .ref (a0 0)), (1, .int x1), (2, .int x2_10)]) [1, 2, 0] rfl ?_
    exact w_X9_readStep_27 C hf
  · replace hf := ifT c_3 hf
    refine ww_aload_n C dX9_readStep_19 rfl 1 rfl ?_
    refine ww_get C clOK9 in_X9_readStep_X9 (w := wModel E a0 (rf2 (a0 2) h0_1) v0) (fs := fsModel a0 (rf2 (a0 2) h0_1) v0) (v := .int (Model_token v0)) 0 0 26 rfl q_Model (by decide) (by decide +kernel) g_Model_token dX9_readStep_20 ?_
    refine ww_iconst (v := 2) C dX9_readStep_23 (by decide) ?_
    refine ww_icmp_ne (tgt := 31) C dX9_readStep_24 (by decide) (fun c_4 => ?_) (fun c_4 => ?_)
    · replace hf := ifF c_4 hf
      refine ww_iconst (v := 0) C dX9_readStep_31 (by decide) ?_
      refine ww_sub C (lv' := [(0, .ref (a0 0)), (1, .int x1), (2, .int x2_10)]) [1, 2, 0] rfl ?_
      exact w_X9_readStep_32 C hf
    · replace hf := ifT c_4 hf
      refine ww_sub C (lv' := [(0, .ref (a0 0)), (1, .int x1), (2, .int x2_10)]) [1, 2, 0] rfl ?_
      exact w_X9_readStep_27 C hf

theorem yk_X9_readStep : yX9_readStep.cls = RX9 ∧ yX9_readStep.cls ≠ "java/lang/invoke/MethodHandle" ∧ yX9_readStep.cls ≠ "java/lang/invoke/VarHandle" ∧ (parseMethodDescriptor yX9_readStep.desc).map (fun d => d.parameters.length) = some 1 := by decide +kernel
abbrev rmX9_readWalk : Room := { frames := 7, cells := 0, slots := 0, locals := 245 }
set_option maxRecDepth 20000 in
theorem in_X9_readWalk_X9 : ∀ w ∈ u_ws RX9 TX9 35, w ∈ wsX9_readWalk := by decide +kernel
set_option maxHeartbeats 4000000 in
set_option maxRecDepth 100000 in
theorem w_X9_readWalk_146 {E : Ex} {K : Kx} (C : Cx E K cX9_readWalk 5 none RX9 wsX9_readWalk rmX9_readWalk) {a0 : Nat → Nat} {h0_1 : Nat} {x1 : Int32} {x2 : Bool}  {x3 : Int32} {s0 : Int32} {v0 : ModelV} {r : ModelV} (hf : Mod_readWalk_146 x1 x2 x3 s0 v0 = some r) : WW E K 0 0 (QQ E K (fun rv g => rv = none ∧ g = [wModel E a0 (rf2 (a0 2) h0_1) r]) 0 0) 146 [(0, .ref (a0 0)), (1, .int x1), (3, .int x3)] [.int s0, .ref (a0 0)] [wModel E a0 (rf2 (a0 2) h0_1) v0] := by
  rw [Mod_readWalk_146] at hf
  refine ww_iconst (v := 4) C dX9_readWalk_146 (by decide) ?_
  obtain ⟨z_15, e_z_15, hf⟩ := asBE hf
  rw [e_z_15]
  obtain ⟨p147, hp147, hf⟩ := bdE hf
  refine ww_callV C (As := [.int (b2i z_15), .int 4]) (st := []) (gr := []) (c_X9_check (E := E) (a0 := a0) (h0_0 := a0 2) (h0_1 := h0_1) hp147) gX9_readWalk_X9_check rfl yk_X9_check ⟨by decide, by decide⟩ ⟨by decide, by decide⟩ clOK9 0 0 rfl rfl [0] [] 1 rfl (by decide) rfl rfl (Nat.le_of_ble_eq_true rfl) dX9_readWalk_147 ?_
  rintro _ _ ⟨rfl, rfl⟩
  refine ww_perm (gs' := [wModel E a0 (rf2 (a0 2) h0_1) p147]) [0] 1 rfl (by decide) rfl ?_
  refine ww_aload_n C dX9_readWalk_150 rfl 0 rfl ?_
  refine ww_ldcSw C (i := 44) rfl dX9_readWalk_151 ?_
  obtain ⟨p154, hp154, hf⟩ := bdE hf
  refine ww_callV C (As := [.ref (eK E 44)]) (st := []) (gr := []) (c_X9_accept (E := E) (a0 := a0) (h0_0 := a0 2) (h0_1 := h0_1) hp154) gX9_readWalk_X9_accept rfl yk_X9_accept ⟨by decide, by decide⟩ ⟨by decide, by decide⟩ clOK9 0 0 rfl rfl [0] [] 1 rfl (by decide) rfl rfl (Nat.le_of_ble_eq_true rfl) dX9_readWalk_154 ?_
  rintro _ _ ⟨rfl, rfl⟩
  refine ww_perm (gs' := [wModel E a0 (rf2 (a0 2) h0_1) p154.2]) [0] 1 rfl (by decide) rfl ?_
  refine ww_if_eqB (tgt := 193) C dX9_readWalk_157 (by decide) (fun c_16 => ?_) (fun c_16 => ?_)
  · replace hf := bfE c_16 hf
    obtain rfl := Option.some.inj hf
    exact ww_vret C ⟨rfl, rfl⟩ dX9_readWalk_193
  · replace hf := btE c_16 hf
    refine ww_aload_n C dX9_readWalk_160 rfl 0 rfl ?_
    refine ww_iconst (v := 0) C dX9_readWalk_161 (by decide) ?_
    refine ww_iload_n C dX9_readWalk_162 rfl 2 rfl ?_
    refine ww_iconst (v := 1) C dX9_readWalk_163 (by decide) ?_
    refine ww_isub C dX9_readWalk_164 ?_
    obtain ⟨p165, hp165, hf⟩ := bdE hf
    refine ww_callV C (As := [.int 0, .int (x3 - 1)]) (st := []) (gr := []) (c_X9_readNumber (E := E) (a0 := a0) (h0_0 := a0 2) (h0_1 := h0_1) hp165) gX9_readWalk_X9_readNumber rfl yk_X9_readNumber ⟨by decide, by decide⟩ ⟨by decide, by decide⟩ clOK9 0 0 rfl rfl [0] [] 1 rfl (by decide) rfl rfl (Nat.le_of_ble_eq_true rfl) dX9_readWalk_165 ?_
    rintro _ _ ⟨rfl, rfl⟩
    refine ww_perm (gs' := [wModel E a0 (rf2 (a0 2) h0_1) p165.2]) [0] 1 rfl (by decide) rfl ?_
    refine ww_istore (lv' := [(4, .int p165.1), (0, .ref (a0 0)), (1, .int x1), (3, .int x3)]) C dX9_readWalk_168 (by decide) rfl ?_
    refine ww_aload_n C dX9_readWalk_170 rfl 1 rfl ?_
    refine ww_get C clOK9 in_X9_readWalk_X9 (w := wModel E a0 (rf2 (a0 2) h0_1) p165.2) (fs := fsModel a0 (rf2 (a0 2) h0_1) p165.2) (v := .ref (a0 2)) 0 0 1 rfl q_Model (by decide) (by decide +kernel) g_Model_draft dX9_readWalk_171 ?_
    refine ww_iload_n C dX9_readWalk_174 rfl 2 rfl ?_
    refine ww_iconst (v := 1) C dX9_readWalk_175 (by decide) ?_
    obtain ⟨p176, hp176, hf⟩ := bdE hf
    refine ww_callS C (As := [.int x1, .int 1]) (st := [.ref (a0 2)]) (gr := [wModel E a0 (rf2 (a0 2) h0_1) p165.2]) (c_X9_guardAt (E := E)  hp176) gX9_readWalk_X9_guardAt rfl ysk_X9_guardAt ⟨by decide, by decide⟩ ⟨by decide, by decide⟩ [] [0] 1 rfl (by decide) rfl rfl (Nat.le_of_ble_eq_true rfl) dX9_readWalk_176 ?_
    rintro _ _ ⟨rfl, rfl⟩
    refine ww_perm (gs' := [wModel E a0 (rf2 (a0 2) h0_1) p165.2]) [0] 1 rfl (by decide) rfl ?_
    refine ww_aload_n C dX9_readWalk_179 rfl 1 rfl ?_
    refine ww_get C clOK9 in_X9_readWalk_X9 (w := wModel E a0 (rf2 (a0 2) h0_1) p165.2) (fs := fsModel a0 (rf2 (a0 2) h0_1) p165.2) (v := .int (Model_error p165.2)) 0 0 27 rfl q_Model (by decide) (by decide +kernel) g_Model_error dX9_readWalk_180 ?_
    refine ww_if_ne (tgt := 191) C dX9_readWalk_183 (by decide) (fun c_17 => ?_) (fun c_17 => ?_)
    · replace hf := ifF c_17 hf
      refine ww_iconst (v := 0) C dX9_readWalk_191 (by decide) ?_
      obtain ⟨g_18, hf⟩ := gdE hf
      obtain ⟨v0_192, e_v0_192⟩ : ∃ y : ModelV, y = Model_set_draft p165.2 (upd (Model_draft p165.2) (Int32.toNatClampNeg p176) 0) := ⟨_, rfl⟩
      replace hf := ltE e_v0_192 hf
      refine ww_iast C (f := Model_draft p165.2) (w := wModel E a0 (rf2 (a0 2) h0_1) p165.2) (w' := wModel E a0 (rf2 (a0 2) h0_1) v0_192) (gs' := [wModel E a0 (rf2 (a0 2) h0_1) v0_192]) 0 2 rfl c_Model_draft (inB_vp g_18) (by rw [e_v0_192]; exact s_Model_draft) rfl dX9_readWalk_192 ?_
      obtain rfl := Option.some.inj hf
      exact ww_vret C ⟨rfl, rfl⟩ dX9_readWalk_193
    · replace hf := ifT c_17 hf
      refine ww_iload C dX9_readWalk_186 0 rfl ?_
      refine ww_goto (tgt := 192) C dX9_readWalk_188 (by decide) ?_
      obtain ⟨g_19, hf⟩ := gdE hf
      obtain ⟨v0_192, e_v0_192⟩ : ∃ y : ModelV, y = Model_set_draft p165.2 (upd (Model_draft p165.2) (Int32.toNatClampNeg p176) p165.1) := ⟨_, rfl⟩
      replace hf := ltE e_v0_192 hf
      refine ww_iast C (f := Model_draft p165.2) (w := wModel E a0 (rf2 (a0 2) h0_1) p165.2) (w' := wModel E a0 (rf2 (a0 2) h0_1) v0_192) (gs' := [wModel E a0 (rf2 (a0 2) h0_1) v0_192]) 0 2 rfl c_Model_draft (inB_vp g_19) (by rw [e_v0_192]; exact s_Model_draft) rfl dX9_readWalk_192 ?_
      obtain rfl := Option.some.inj hf
      exact ww_vret C ⟨rfl, rfl⟩ dX9_readWalk_193

set_option maxHeartbeats 4000000 in
set_option maxRecDepth 100000 in
theorem w_X9_readWalk_141 {E : Ex} {K : Kx} (C : Cx E K cX9_readWalk 5 none RX9 wsX9_readWalk rmX9_readWalk) {a0 : Nat → Nat} {h0_1 : Nat} {x1 : Int32} {x2 : Bool}  {x3 : Int32} {v0 : ModelV} {r : ModelV} (hf : Mod_readWalk_141 x1 x2 x3 v0 = some r) : WW E K 0 0 (QQ E K (fun rv g => rv = none ∧ g = [wModel E a0 (rf2 (a0 2) h0_1) r]) 0 0) 141 [(0, .ref (a0 0)), (1, .int x1), (3, .int x3)] [.ref (a0 0)] [wModel E a0 (rf2 (a0 2) h0_1) v0] := by
  rw [Mod_readWalk_141] at hf
  refine ww_iconst (v := 1) C dX9_readWalk_141 (by decide) ?_
  refine ww_goto (tgt := 146) C dX9_readWalk_142 (by decide) ?_
  refine ww_sub C (lv' := [(0, .ref (a0 0)), (1, .int x1), (3, .int x3)]) [0, 1, 2] rfl ?_
  exact w_X9_readWalk_146 C hf

set_option maxHeartbeats 4000000 in
set_option maxRecDepth 100000 in
theorem w_X9_readWalk_108 {E : Ex} {K : Kx} (C : Cx E K cX9_readWalk 5 none RX9 wsX9_readWalk rmX9_readWalk) {a0 : Nat → Nat} {h0_1 : Nat} {x1 : Int32} {x2 : Bool}  {x3 : Int32} {s0 : Int32} {v0 : ModelV} {r : ModelV} (hf : Mod_readWalk_108 x1 x2 x3 s0 v0 = some r) : WW E K 0 0 (QQ E K (fun rv g => rv = none ∧ g = [wModel E a0 (rf2 (a0 2) h0_1) r]) 0 0) 108 [(0, .ref (a0 0)), (1, .int x1), (3, .int x3)] [.int s0, .ref (a0 0)] [wModel E a0 (rf2 (a0 2) h0_1) v0] := by
  rw [Mod_readWalk_108] at hf
  refine ww_iconst (v := 1) C dX9_readWalk_108 (by decide) ?_
  obtain ⟨z_12, e_z_12, hf⟩ := asBE hf
  rw [e_z_12]
  obtain ⟨p109, hp109, hf⟩ := bdE hf
  refine ww_callV C (As := [.int (b2i z_12), .int 1]) (st := []) (gr := []) (c_X9_check (E := E) (a0 := a0) (h0_0 := a0 2) (h0_1 := h0_1) hp109) gX9_readWalk_X9_check rfl yk_X9_check ⟨by decide, by decide⟩ ⟨by decide, by decide⟩ clOK9 0 0 rfl rfl [0] [] 1 rfl (by decide) rfl rfl (Nat.le_of_ble_eq_true rfl) dX9_readWalk_109 ?_
  rintro _ _ ⟨rfl, rfl⟩
  refine ww_perm (gs' := [wModel E a0 (rf2 (a0 2) h0_1) p109]) [0] 1 rfl (by decide) rfl ?_
  refine ww_aload_n C dX9_readWalk_112 rfl 0 rfl ?_
  refine ww_aload_n C dX9_readWalk_113 rfl 0 rfl ?_
  refine ww_get C clOK9 in_X9_readWalk_X9 (w := wModel E a0 (rf2 (a0 2) h0_1) p109) (fs := fsModel a0 (rf2 (a0 2) h0_1) p109) (v := .int (Model_error p109)) 0 0 27 rfl q_Model (by decide) (by decide +kernel) g_Model_error dX9_readWalk_114 ?_
  refine ww_if_ne (tgt := 141) C dX9_readWalk_117 (by decide) (fun c_13 => ?_) (fun c_13 => ?_)
  · replace hf := ifF c_13 hf
    refine ww_sub C (lv' := [(0, .ref (a0 0)), (1, .int x1), (3, .int x3)]) [0, 1, 2] rfl ?_
    exact w_X9_readWalk_141 C hf
  · replace hf := ifT c_13 hf
    refine ww_aload_n C dX9_readWalk_120 rfl 0 rfl ?_
    refine ww_aload_n C dX9_readWalk_121 rfl 0 rfl ?_
    refine ww_iload_n C dX9_readWalk_122 rfl 1 rfl ?_
    refine ww_iload_n C dX9_readWalk_123 rfl 2 rfl ?_
    refine ww_iconst (v := 1) C dX9_readWalk_124 (by decide) ?_
    refine ww_isub C dX9_readWalk_125 ?_
    obtain ⟨p126, hp126, hf⟩ := bdE hf
    refine ww_callV C (As := [.int x1, .int (x3 - 1)]) (st := [.ref (a0 0), .ref (a0 0)]) (gr := []) (c_X9_step_D (E := E) (a0 := a0) (h0_1 := h0_1) hp126) gX9_readWalk_X9_step rfl yk_X9_step ⟨by decide, by decide⟩ ⟨by decide, by decide⟩ clOK9 0 0 rfl rfl [0] [] 1 rfl (by decide) rfl rfl (Nat.le_of_ble_eq_true rfl) dX9_readWalk_126 ?_
    rintro _ _ ⟨rfl, rfl⟩
    refine ww_perm (gs' := [wModel E a0 (rf2 (a0 2) h0_1) p109]) [0] 1 rfl (by decide) rfl ?_
    refine ww_aload_n C dX9_readWalk_129 rfl 0 rfl ?_
    refine ww_iload_n C dX9_readWalk_130 rfl 1 rfl ?_
    refine ww_iconst (v := 0) C dX9_readWalk_131 (by decide) ?_
    obtain ⟨p132, hp132, hf⟩ := bdE hf
    refine ww_callV C (As := [.int x1, .int 0]) (st := [.int p126, .ref (a0 0), .ref (a0 0)]) (gr := []) (c_X9_step_D (E := E) (a0 := a0) (h0_1 := h0_1) hp132) gX9_readWalk_X9_step rfl yk_X9_step ⟨by decide, by decide⟩ ⟨by decide, by decide⟩ clOK9 0 0 rfl rfl [0] [] 1 rfl (by decide) rfl rfl (Nat.le_of_ble_eq_true rfl) dX9_readWalk_132 ?_
    rintro _ _ ⟨rfl, rfl⟩
    refine ww_perm (gs' := [wModel E a0 (rf2 (a0 2) h0_1) p109]) [0] 1 rfl (by decide) rfl ?_
    obtain ⟨p135, hp135, hf⟩ := bdE hf
    refine ww_callV C (As := [.int p126, .int p132]) (st := [.ref (a0 0)]) (gr := []) (c_X9_isStep (E := E) (a0 := a0) (h0_1 := h0_1) hp135) gX9_readWalk_X9_isStep rfl yk_X9_isStep ⟨by decide, by decide⟩ ⟨by decide, by decide⟩ clOK9 0 0 rfl rfl [0] [] 1 rfl (by decide) rfl rfl (Nat.le_of_ble_eq_true rfl) dX9_readWalk_135 ?_
    rintro _ _ ⟨rfl, rfl⟩
    refine ww_perm (gs' := [wModel E a0 (rf2 (a0 2) h0_1) p109]) [0] 1 rfl (by decide) rfl ?_
    refine ww_if_eqB (tgt := 145) C dX9_readWalk_138 (by decide) (fun c_14 => ?_) (fun c_14 => ?_)
    · replace hf := bfE c_14 hf
      refine ww_iconst (v := 0) C dX9_readWalk_145 (by decide) ?_
      refine ww_sub C (lv' := [(0, .ref (a0 0)), (1, .int x1), (3, .int x3)]) [0, 1, 2] rfl ?_
      exact w_X9_readWalk_146 C hf
    · replace hf := btE c_14 hf
      refine ww_sub C (lv' := [(0, .ref (a0 0)), (1, .int x1), (3, .int x3)]) [0, 1, 2] rfl ?_
      exact w_X9_readWalk_141 C hf

set_option maxHeartbeats 4000000 in
set_option maxRecDepth 100000 in
theorem w_X9_readWalk_103 {E : Ex} {K : Kx} (C : Cx E K cX9_readWalk 5 none RX9 wsX9_readWalk rmX9_readWalk) {a0 : Nat → Nat} {h0_1 : Nat} {x1 : Int32} {x2 : Bool}  {x3 : Int32} {v0 : ModelV} {r : ModelV} (hf : Mod_readWalk_103 x1 x2 x3 v0 = some r) : WW E K 0 0 (QQ E K (fun rv g => rv = none ∧ g = [wModel E a0 (rf2 (a0 2) h0_1) r]) 0 0) 103 [(0, .ref (a0 0)), (1, .int x1), (3, .int x3)] [.ref (a0 0)] [wModel E a0 (rf2 (a0 2) h0_1) v0] := by
  rw [Mod_readWalk_103] at hf
  refine ww_iconst (v := 1) C dX9_readWalk_103 (by decide) ?_
  refine ww_goto (tgt := 108) C dX9_readWalk_104 (by decide) ?_
  refine ww_sub C (lv' := [(0, .ref (a0 0)), (1, .int x1), (3, .int x3)]) [0, 1, 2] rfl ?_
  exact w_X9_readWalk_108 C hf

set_option maxHeartbeats 4000000 in
set_option maxRecDepth 100000 in
theorem w_X9_readWalk_107 {E : Ex} {K : Kx} (C : Cx E K cX9_readWalk 5 none RX9 wsX9_readWalk rmX9_readWalk) {a0 : Nat → Nat} {h0_1 : Nat} {x1 : Int32} {x2 : Bool}  {x3 : Int32} {v0 : ModelV} {r : ModelV} (hf : Mod_readWalk_107 x1 x2 x3 v0 = some r) : WW E K 0 0 (QQ E K (fun rv g => rv = none ∧ g = [wModel E a0 (rf2 (a0 2) h0_1) r]) 0 0) 107 [(0, .ref (a0 0)), (1, .int x1), (3, .int x3)] [.ref (a0 0)] [wModel E a0 (rf2 (a0 2) h0_1) v0] := by
  rw [Mod_readWalk_107] at hf
  refine ww_iconst (v := 0) C dX9_readWalk_107 (by decide) ?_
  refine ww_sub C (lv' := [(0, .ref (a0 0)), (1, .int x1), (3, .int x3)]) [0, 1, 2] rfl ?_
  exact w_X9_readWalk_108 C hf

set_option maxHeartbeats 4000000 in
set_option maxRecDepth 100000 in
theorem w_X9_readWalk_50 {E : Ex} {K : Kx} (C : Cx E K cX9_readWalk 5 none RX9 wsX9_readWalk rmX9_readWalk) {a0 : Nat → Nat} {h0_1 : Nat} {x1 : Int32} {x2 : Bool}  {v0 : ModelV} {r : ModelV} (hf : Mod_readWalk_50 x1 x2 v0 = some r) : WW E K 0 0 (QQ E K (fun rv g => rv = none ∧ g = [wModel E a0 (rf2 (a0 2) h0_1) r]) 0 0) 50 [(0, .ref (a0 0)), (1, .int x1), (2, .int (b2i x2))] [] [wModel E a0 (rf2 (a0 2) h0_1) v0] := by
  rw [Mod_readWalk_50] at hf
  refine ww_aload_n C dX9_readWalk_50 rfl 0 rfl ?_
  refine ww_get C clOK9 in_X9_readWalk_X9 (w := wModel E a0 (rf2 (a0 2) h0_1) v0) (fs := fsModel a0 (rf2 (a0 2) h0_1) v0) (v := .int (Model_error v0)) 0 0 27 rfl q_Model (by decide) (by decide +kernel) g_Model_error dX9_readWalk_51 ?_
  refine ww_if_eq (tgt := 58) C dX9_readWalk_54 (by decide) (fun c_5 => ?_) (fun c_5 => ?_)
  · replace hf := ifT c_5 hf
    refine ww_aload_n C dX9_readWalk_58 rfl 0 rfl ?_
    refine ww_get C clOK9 in_X9_readWalk_X9 (w := wModel E a0 (rf2 (a0 2) h0_1) v0) (fs := fsModel a0 (rf2 (a0 2) h0_1) v0) (v := .ref (a0 2)) 0 0 1 rfl q_Model (by decide) (by decide +kernel) g_Model_draft dX9_readWalk_59 ?_
    refine ww_iload_n C dX9_readWalk_62 rfl 1 rfl ?_
    refine ww_iconst (v := 0) C dX9_readWalk_63 (by decide) ?_
    obtain ⟨p64, hp64, hf⟩ := bdE hf
    refine ww_callS C (As := [.int x1, .int 0]) (st := [.ref (a0 2)]) (gr := [wModel E a0 (rf2 (a0 2) h0_1) v0]) (c_X9_guardAt (E := E)  hp64) gX9_readWalk_X9_guardAt rfl ysk_X9_guardAt ⟨by decide, by decide⟩ ⟨by decide, by decide⟩ [] [0] 1 rfl (by decide) rfl rfl (Nat.le_of_ble_eq_true rfl) dX9_readWalk_64 ?_
    rintro _ _ ⟨rfl, rfl⟩
    refine ww_perm (gs' := [wModel E a0 (rf2 (a0 2) h0_1) v0]) [0] 1 rfl (by decide) rfl ?_
    obtain ⟨g_6, hf⟩ := gdE hf
    refine ww_iald C (f := Model_draft v0) (w := wModel E a0 (rf2 (a0 2) h0_1) v0) 0 2 rfl c_Model_draft (inB_vp g_6) dX9_readWalk_67 ?_
    refine ww_topi (fun x3_68 e_x3_68 => ?_)
    replace hf := ltE e_x3_68 hf
    refine ww_istore_n (lv' := [(3, .int x3_68), (0, .ref (a0 0)), (1, .int x1), (2, .int (b2i x2))]) C dX9_readWalk_68 rfl (by decide) rfl ?_
    refine ww_aload_n C dX9_readWalk_69 rfl 1 rfl ?_
    refine ww_aload_n C dX9_readWalk_70 rfl 1 rfl ?_
    refine ww_ldcSw C (i := 44) rfl dX9_readWalk_71 ?_
    obtain ⟨p74, hp74, hf⟩ := bdE hf
    refine ww_callV C (As := [.ref (eK E 44)]) (st := [.ref (a0 0)]) (gr := []) (c_X9_isWord (E := E) (a0 := a0) (h0_0 := a0 2) (h0_1 := h0_1) hp74) gX9_readWalk_X9_isWord rfl yk_X9_isWord ⟨by decide, by decide⟩ ⟨by decide, by decide⟩ clOK9 0 0 rfl rfl [0] [] 1 rfl (by decide) rfl rfl (Nat.le_of_ble_eq_true rfl) dX9_readWalk_74 ?_
    rintro _ _ ⟨rfl, rfl⟩
    refine ww_perm (gs' := [wModel E a0 (rf2 (a0 2) h0_1) v0]) [0] 1 rfl (by decide) rfl ?_
    refine ww_if_neB (tgt := 103) C dX9_readWalk_77 (by decide) (fun c_8 => ?_) (fun c_8 => ?_)
    · replace hf := btE c_8 hf
      refine ww_sub C (lv' := [(0, .ref (a0 0)), (1, .int x1), (3, .int x3_68)]) [1, 2, 0] rfl ?_
      exact w_X9_readWalk_103 C hf
    · replace hf := bfE c_8 hf
      refine ww_iload_n C dX9_readWalk_80 rfl 3 rfl ?_
      refine ww_if_eqB (tgt := 94) C dX9_readWalk_81 (by decide) (fun c_9 => ?_) (fun c_9 => ?_)
      · replace hf := bfE c_9 hf
        refine ww_aload_n C dX9_readWalk_94 rfl 1 rfl ?_
        refine ww_bipush (v := 59) C dX9_readWalk_95 (by decide) ?_
        obtain ⟨p97, hp97, hf⟩ := bdE hf
        refine ww_callV C (As := [.int 59]) (st := [.ref (a0 0)]) (gr := []) (c_X9_isSymbol (E := E) (a0 := a0) (h0_0 := a0 2) (h0_1 := h0_1) hp97) gX9_readWalk_X9_isSymbol rfl yk_X9_isSymbol ⟨by decide, by decide⟩ ⟨by decide, by decide⟩ clOK9 0 0 rfl rfl [0] [] 1 rfl (by decide) rfl rfl (Nat.le_of_ble_eq_true rfl) dX9_readWalk_97 ?_
        rintro _ _ ⟨rfl, rfl⟩
        refine ww_perm (gs' := [wModel E a0 (rf2 (a0 2) h0_1) v0]) [0] 1 rfl (by decide) rfl ?_
        refine ww_if_eqB (tgt := 107) C dX9_readWalk_100 (by decide) (fun c_10 => ?_) (fun c_10 => ?_)
        · replace hf := bfE c_10 hf
          refine ww_sub C (lv' := [(0, .ref (a0 0)), (1, .int x1), (3, .int x3_68)]) [1, 2, 0] rfl ?_
          exact w_X9_readWalk_107 C hf
        · replace hf := btE c_10 hf
          refine ww_sub C (lv' := [(0, .ref (a0 0)), (1, .int x1), (3, .int x3_68)]) [1, 2, 0] rfl ?_
          exact w_X9_readWalk_103 C hf
      · replace hf := btE c_9 hf
        refine ww_aload_n C dX9_readWalk_84 rfl 1 rfl ?_
        refine ww_get C clOK9 in_X9_readWalk_X9 (w := wModel E a0 (rf2 (a0 2) h0_1) v0) (fs := fsModel a0 (rf2 (a0 2) h0_1) v0) (v := .int (Model_token v0)) 0 0 26 rfl q_Model (by decide) (by decide +kernel) g_Model_token dX9_readWalk_85 ?_
        refine ww_if_ne (tgt := 107) C dX9_readWalk_88 (by decide) (fun c_11 => ?_) (fun c_11 => ?_)
        · replace hf := ifF c_11 hf
          refine ww_sub C (lv' := [(0, .ref (a0 0)), (1, .int x1), (3, .int x3_68)]) [1, 2, 0] rfl ?_
          exact w_X9_readWalk_107 C hf
        · replace hf := ifT c_11 hf
          refine ww_goto (tgt := 103) C dX9_readWalk_91 (by decide) ?_
          refine ww_sub C (lv' := [(0, .ref (a0 0)), (1, .int x1), (3, .int x3_68)]) [1, 2, 0] rfl ?_
          exact w_X9_readWalk_103 C hf
  · replace hf := ifF c_5 hf
    obtain rfl := Option.some.inj hf
    exact ww_vret C ⟨rfl, rfl⟩ dX9_readWalk_57

set_option maxHeartbeats 4000000 in
set_option maxRecDepth 100000 in
theorem w_X9_readWalk_27 {E : Ex} {K : Kx} (C : Cx E K cX9_readWalk 5 none RX9 wsX9_readWalk rmX9_readWalk) {a0 : Nat → Nat} {h0_1 : Nat} {x1 : Int32} {x2 : Bool}  {r : ModelV} : ∀ (n : Nat) (v0 : ModelV), Mod_readWalk_27 x1 x2 n v0 = some r → WW E K 0 0 (QQ E K (fun rv g => rv = none ∧ g = [wModel E a0 (rf2 (a0 2) h0_1) r]) 0 0) 27 [(0, .ref (a0 0)), (1, .int x1), (2, .int (b2i x2))] [] [wModel E a0 (rf2 (a0 2) h0_1) v0] := by
  intro n
  induction n with
  | zero =>
    intro v0 hf
    simp [Mod_readWalk_27] at hf
  | succ n ih =>
    intro v0 hf
    rw [Mod_readWalk_27] at hf
    refine ww_aload_n C dX9_readWalk_27 rfl 0 rfl ?_
    refine ww_get C clOK9 in_X9_readWalk_X9 (w := wModel E a0 (rf2 (a0 2) h0_1) v0) (fs := fsModel a0 (rf2 (a0 2) h0_1) v0) (v := .int (Model_error v0)) 0 0 27 rfl q_Model (by decide) (by decide +kernel) g_Model_error dX9_readWalk_28 ?_
    refine ww_if_ne (tgt := 50) C dX9_readWalk_31 (by decide) (fun c_3 => ?_) (fun c_3 => ?_)
    · replace hf := ifF c_3 hf
      refine ww_sub C (lv' := [(0, .ref (a0 0)), (1, .int x1), (2, .int (b2i x2))]) [0, 1, 2] rfl ?_
      exact w_X9_readWalk_50 C hf
    · replace hf := ifT c_3 hf
      refine ww_aload_n C dX9_readWalk_34 rfl 0 rfl ?_
      refine ww_get C clOK9 in_X9_readWalk_X9 (w := wModel E a0 (rf2 (a0 2) h0_1) v0) (fs := fsModel a0 (rf2 (a0 2) h0_1) v0) (v := .int (Model_token v0)) 0 0 26 rfl q_Model (by decide) (by decide +kernel) g_Model_token dX9_readWalk_35 ?_
      refine ww_iconst (v := 2) C dX9_readWalk_38 (by decide) ?_
      refine ww_icmp_ne (tgt := 50) C dX9_readWalk_39 (by decide) (fun c_4 => ?_) (fun c_4 => ?_)
      · replace hf := ifF c_4 hf
        refine ww_sub C (lv' := [(0, .ref (a0 0)), (1, .int x1), (2, .int (b2i x2))]) [0, 1, 2] rfl ?_
        exact w_X9_readWalk_50 C hf
      · replace hf := ifT c_4 hf
        refine ww_aload_n C dX9_readWalk_42 rfl 0 rfl ?_
        refine ww_iload_n C dX9_readWalk_43 rfl 1 rfl ?_
        obtain ⟨p44, hp44, hf⟩ := bdE hf
        refine ww_callV C (As := [.int x1]) (st := []) (gr := []) (c_X9_readStep (E := E) (a0 := a0) (h0_1 := h0_1) hp44) gX9_readWalk_X9_readStep rfl yk_X9_readStep ⟨by decide, by decide⟩ ⟨by decide, by decide⟩ clOK9 0 0 rfl rfl [0] [] 1 rfl (by decide) rfl rfl (Nat.le_of_ble_eq_true rfl) dX9_readWalk_44 ?_
        rintro _ _ ⟨rfl, rfl⟩
        refine ww_perm (gs' := [wModel E a0 (rf2 (a0 2) h0_1) p44]) [0] 1 rfl (by decide) rfl ?_
        refine ww_goto (tgt := 27) C dX9_readWalk_47 (by decide) ?_
        refine ww_sub C (lv' := [(0, .ref (a0 0)), (1, .int x1), (2, .int (b2i x2))]) [0, 1, 2] rfl ?_
        exact ih _ hf

set_option maxHeartbeats 4000000 in
set_option maxRecDepth 100000 in
theorem c_X9_readWalk {E : Ex} {a0 : Nat → Nat} {h0_1 : Nat} {x1 : Int32} {x2 : Bool} {v0 : ModelV} {r : ModelV} (hf : Mod_readWalk x1 x2 v0 = some r) : Ct E yX9_readWalk wsX9_readWalk rmX9_readWalk [.ref (a0 0), .int x1, .int (b2i x2)] [wModel E a0 (rf2 (a0 2) h0_1) v0] (fun rv g => rv = none ∧ g = [wModel E a0 (rf2 (a0 2) h0_1) r]) := by
  refine ct_of (own := RX9) (by decide +kernel) rfl rfl (Nat.le_of_ble_eq_true rfl) (fun K C => ?_)
  refine ww_sub C (lv' := [(0, .ref (a0 0)), (1, .int x1), (2, .int (b2i x2))]) [0, 1, 2] rfl ?_
  rw [Mod_readWalk] at hf
  refine ww_aload_n C dX9_readWalk_0 rfl 0 rfl ?_
  refine ww_get C clOK9 in_X9_readWalk_X9 (w := wModel E a0 (rf2 (a0 2) h0_1) v0) (fs := fsModel a0 (rf2 (a0 2) h0_1) v0) (v := .ref (a0 2)) 0 0 1 rfl q_Model (by decide) (by decide +kernel) g_Model_draft dX9_readWalk_1 ?_
  refine ww_iload_n C dX9_readWalk_4 rfl 1 rfl ?_
  refine ww_iconst (v := 0) C dX9_readWalk_5 (by decide) ?_
  obtain ⟨p6, hp6, hf⟩ := bdE hf
  refine ww_callS C (As := [.int x1, .int 0]) (st := [.ref (a0 2)]) (gr := [wModel E a0 (rf2 (a0 2) h0_1) v0]) (c_X9_guardAt (E := E)  hp6) gX9_readWalk_X9_guardAt rfl ysk_X9_guardAt ⟨by decide, by decide⟩ ⟨by decide, by decide⟩ [] [0] 1 rfl (by decide) rfl rfl (Nat.le_of_ble_eq_true rfl) dX9_readWalk_6 ?_
  rintro _ _ ⟨rfl, rfl⟩
  refine ww_perm (gs' := [wModel E a0 (rf2 (a0 2) h0_1) v0]) [0] 1 rfl (by decide) rfl ?_
  refine ww_iconst (v := 0) C dX9_readWalk_9 (by decide) ?_
  obtain ⟨g_1, hf⟩ := gdE hf
  obtain ⟨v0_10, e_v0_10⟩ : ∃ y : ModelV, y = Model_set_draft v0 (upd (Model_draft v0) (Int32.toNatClampNeg p6) 0) := ⟨_, rfl⟩
  replace hf := ltE e_v0_10 hf
  refine ww_iast C (f := Model_draft v0) (w := wModel E a0 (rf2 (a0 2) h0_1) v0) (w' := wModel E a0 (rf2 (a0 2) h0_1) v0_10) (gs' := [wModel E a0 (rf2 (a0 2) h0_1) v0_10]) 0 2 rfl c_Model_draft (inB_vp g_1) (by rw [e_v0_10]; exact s_Model_draft) rfl dX9_readWalk_10 ?_
  refine ww_aload_n C dX9_readWalk_11 rfl 0 rfl ?_
  refine ww_get C clOK9 in_X9_readWalk_X9 (w := wModel E a0 (rf2 (a0 2) h0_1) v0_10) (fs := fsModel a0 (rf2 (a0 2) h0_1) v0_10) (v := .ref (a0 2)) 0 0 1 rfl q_Model (by decide) (by decide +kernel) g_Model_draft dX9_readWalk_12 ?_
  refine ww_iload_n C dX9_readWalk_15 rfl 1 rfl ?_
  refine ww_iconst (v := 1) C dX9_readWalk_16 (by decide) ?_
  obtain ⟨p17, hp17, hf⟩ := bdE hf
  refine ww_callS C (As := [.int x1, .int 1]) (st := [.ref (a0 2)]) (gr := [wModel E a0 (rf2 (a0 2) h0_1) v0_10]) (c_X9_guardAt (E := E)  hp17) gX9_readWalk_X9_guardAt rfl ysk_X9_guardAt ⟨by decide, by decide⟩ ⟨by decide, by decide⟩ [] [0] 1 rfl (by decide) rfl rfl (Nat.le_of_ble_eq_true rfl) dX9_readWalk_17 ?_
  rintro _ _ ⟨rfl, rfl⟩
  refine ww_perm (gs' := [wModel E a0 (rf2 (a0 2) h0_1) v0_10]) [0] 1 rfl (by decide) rfl ?_
  refine ww_iconst (v := 0) C dX9_readWalk_20 (by decide) ?_
  obtain ⟨g_2, hf⟩ := gdE hf
  obtain ⟨v0_21, e_v0_21⟩ : ∃ y : ModelV, y = Model_set_draft v0_10 (upd (Model_draft v0_10) (Int32.toNatClampNeg p17) 0) := ⟨_, rfl⟩
  replace hf := ltE e_v0_21 hf
  refine ww_iast C (f := Model_draft v0_10) (w := wModel E a0 (rf2 (a0 2) h0_1) v0_10) (w' := wModel E a0 (rf2 (a0 2) h0_1) v0_21) (gs' := [wModel E a0 (rf2 (a0 2) h0_1) v0_21]) 0 2 rfl c_Model_draft (inB_vp g_2) (by rw [e_v0_21]; exact s_Model_draft) rfl dX9_readWalk_21 ?_
  refine ww_aload_n C dX9_readWalk_22 rfl 0 rfl ?_
  refine ww_iload_n C dX9_readWalk_23 rfl 1 rfl ?_
  obtain ⟨p24, hp24, hf⟩ := bdE hf
  refine ww_callV C (As := [.int x1]) (st := []) (gr := []) (c_X9_readStep (E := E) (a0 := a0) (h0_1 := h0_1) hp24) gX9_readWalk_X9_readStep rfl yk_X9_readStep ⟨by decide, by decide⟩ ⟨by decide, by decide⟩ clOK9 0 0 rfl rfl [0] [] 1 rfl (by decide) rfl rfl (Nat.le_of_ble_eq_true rfl) dX9_readWalk_24 ?_
  rintro _ _ ⟨rfl, rfl⟩
  refine ww_perm (gs' := [wModel E a0 (rf2 (a0 2) h0_1) p24]) [0] 1 rfl (by decide) rfl ?_
  refine ww_sub C (lv' := [(0, .ref (a0 0)), (1, .int x1), (2, .int (b2i x2))]) [0, 1, 2] rfl ?_
  exact w_X9_readWalk_27 C FU _ hf

theorem yk_X9_readWalk : yX9_readWalk.cls = RX9 ∧ yX9_readWalk.cls ≠ "java/lang/invoke/MethodHandle" ∧ yX9_readWalk.cls ≠ "java/lang/invoke/VarHandle" ∧ (parseMethodDescriptor yX9_readWalk.desc).map (fun d => d.parameters.length) = some 2 := by decide +kernel
abbrev rmX9_readLimit : Room := { frames := 5, cells := 0, slots := 0, locals := 105 }
set_option maxRecDepth 20000 in
theorem in_X9_readLimit_X9 : ∀ w ∈ u_ws RX9 TX9 35, w ∈ wsX9_readLimit := by decide +kernel
set_option maxHeartbeats 4000000 in
set_option maxRecDepth 100000 in
theorem c_X9_readLimit {E : Ex} {a0 : Nat → Nat} {h0_1 : Nat} {v0 : ModelV} {r : ModelV} (hf : Mod_readLimit v0 = some r) : Ct E yX9_readLimit wsX9_readLimit rmX9_readLimit [.ref (a0 0)] [wModel E a0 (rf2 (a0 2) h0_1) v0] (fun rv g => rv = none ∧ g = [wModel E a0 (rf2 (a0 2) h0_1) r]) := by
  refine ct_of (own := RX9) (by decide +kernel) rfl rfl (Nat.le_of_ble_eq_true rfl) (fun K C => ?_)
  refine ww_sub C (lv' := [(0, .ref (a0 0))]) [0] rfl ?_
  rw [Mod_readLimit] at hf
  refine ww_aload_n C dX9_readLimit_0 rfl 0 rfl ?_
  refine ww_iconst (v := 0) C dX9_readLimit_1 (by decide) ?_
  refine ww_aload_n C dX9_readLimit_2 rfl 0 rfl ?_
  obtain ⟨p3, hp3, hf⟩ := bdE hf
  refine ww_callV C (As := []) (st := [.int 0, .ref (a0 0)]) (gr := []) (c_X9_rooms_D (E := E) (a0 := a0) (h0_1 := h0_1) hp3) gX9_readLimit_X9_rooms rfl yk_X9_rooms ⟨by decide, by decide⟩ ⟨by decide, by decide⟩ clOK9 0 0 rfl rfl [0] [] 1 rfl (by decide) rfl rfl (Nat.le_of_ble_eq_true rfl) dX9_readLimit_3 ?_
  rintro _ _ ⟨rfl, rfl⟩
  refine ww_perm (gs' := [wModel E a0 (rf2 (a0 2) h0_1) v0]) [0] 1 rfl (by decide) rfl ?_
  refine ww_iconst (v := 1) C dX9_readLimit_6 (by decide) ?_
  refine ww_isub C dX9_readLimit_7 ?_
  obtain ⟨p8, hp8, hf⟩ := bdE hf
  refine ww_callV C (As := [.int 0, .int (p3 - 1)]) (st := []) (gr := []) (c_X9_readNumber (E := E) (a0 := a0) (h0_0 := a0 2) (h0_1 := h0_1) hp8) gX9_readLimit_X9_readNumber rfl yk_X9_readNumber ⟨by decide, by decide⟩ ⟨by decide, by decide⟩ clOK9 0 0 rfl rfl [0] [] 1 rfl (by decide) rfl rfl (Nat.le_of_ble_eq_true rfl) dX9_readLimit_8 ?_
  rintro _ _ ⟨rfl, rfl⟩
  refine ww_perm (gs' := [wModel E a0 (rf2 (a0 2) h0_1) p8.2]) [0] 1 rfl (by decide) rfl ?_
  refine ww_istore_n (lv' := [(1, .int p8.1), (0, .ref (a0 0))]) C dX9_readLimit_11 rfl (by decide) rfl ?_
  refine ww_aload_n C dX9_readLimit_12 rfl 1 rfl ?_
  refine ww_iconst (v := 0) C dX9_readLimit_13 (by decide) ?_
  refine ww_bipush (v := 99) C dX9_readLimit_14 (by decide) ?_
  obtain ⟨p16, hp16, hf⟩ := bdE hf
  refine ww_callV C (As := [.int 0, .int 99]) (st := []) (gr := []) (c_X9_readNumber (E := E) (a0 := a0) (h0_0 := a0 2) (h0_1 := h0_1) hp16) gX9_readLimit_X9_readNumber rfl yk_X9_readNumber ⟨by decide, by decide⟩ ⟨by decide, by decide⟩ clOK9 0 0 rfl rfl [0] [] 1 rfl (by decide) rfl rfl (Nat.le_of_ble_eq_true rfl) dX9_readLimit_16 ?_
  rintro _ _ ⟨rfl, rfl⟩
  refine ww_perm (gs' := [wModel E a0 (rf2 (a0 2) h0_1) p16.2]) [0] 1 rfl (by decide) rfl ?_
  refine ww_istore_n (lv' := [(2, .int p16.1), (1, .int p8.1), (0, .ref (a0 0))]) C dX9_readLimit_19 rfl (by decide) rfl ?_
  refine ww_aload_n C dX9_readLimit_20 rfl 2 rfl ?_
  refine ww_get C clOK9 in_X9_readLimit_X9 (w := wModel E a0 (rf2 (a0 2) h0_1) p16.2) (fs := fsModel a0 (rf2 (a0 2) h0_1) p16.2) (v := .int (Model_error p16.2)) 0 0 27 rfl q_Model (by decide) (by decide +kernel) g_Model_error dX9_readLimit_21 ?_
  refine ww_if_ne (tgt := 38) C dX9_readLimit_24 (by decide) (fun c_1 => ?_) (fun c_1 => ?_)
  · replace hf := ifF c_1 hf
    obtain rfl := Option.some.inj hf
    exact ww_vret C ⟨rfl, rfl⟩ dX9_readLimit_38
  · replace hf := ifT c_1 hf
    refine ww_aload_n C dX9_readLimit_27 rfl 2 rfl ?_
    refine ww_get C clOK9 in_X9_readLimit_X9 (w := wModel E a0 (rf2 (a0 2) h0_1) p16.2) (fs := fsModel a0 (rf2 (a0 2) h0_1) p16.2) (v := .ref (a0 2)) 0 0 1 rfl q_Model (by decide) (by decide +kernel) g_Model_draft dX9_readLimit_28 ?_
    refine ww_iload_n C dX9_readLimit_31 rfl 1 rfl ?_
    refine ww_iconst (v := 0) C dX9_readLimit_32 (by decide) ?_
    obtain ⟨p33, hp33, hf⟩ := bdE hf
    refine ww_callS C (As := [.int p8.1, .int 0]) (st := [.ref (a0 2)]) (gr := [wModel E a0 (rf2 (a0 2) h0_1) p16.2]) (c_X9_roomAt (E := E)  hp33) gX9_readLimit_X9_roomAt rfl ysk_X9_roomAt ⟨by decide, by decide⟩ ⟨by decide, by decide⟩ [] [0] 1 rfl (by decide) rfl rfl (Nat.le_of_ble_eq_true rfl) dX9_readLimit_33 ?_
    rintro _ _ ⟨rfl, rfl⟩
    refine ww_perm (gs' := [wModel E a0 (rf2 (a0 2) h0_1) p16.2]) [0] 1 rfl (by decide) rfl ?_
    refine ww_iload_n C dX9_readLimit_36 rfl 0 rfl ?_
    obtain ⟨g_2, hf⟩ := gdE hf
    obtain ⟨v0_37, e_v0_37⟩ : ∃ y : ModelV, y = Model_set_draft p16.2 (upd (Model_draft p16.2) (Int32.toNatClampNeg p33) p16.1) := ⟨_, rfl⟩
    replace hf := ltE e_v0_37 hf
    refine ww_iast C (f := Model_draft p16.2) (w := wModel E a0 (rf2 (a0 2) h0_1) p16.2) (w' := wModel E a0 (rf2 (a0 2) h0_1) v0_37) (gs' := [wModel E a0 (rf2 (a0 2) h0_1) v0_37]) 0 2 rfl c_Model_draft (inB_vp g_2) (by rw [e_v0_37]; exact s_Model_draft) rfl dX9_readLimit_37 ?_
    obtain rfl := Option.some.inj hf
    exact ww_vret C ⟨rfl, rfl⟩ dX9_readLimit_38

theorem yk_X9_readLimit : yX9_readLimit.cls = RX9 ∧ yX9_readLimit.cls ≠ "java/lang/invoke/MethodHandle" ∧ yX9_readLimit.cls ≠ "java/lang/invoke/VarHandle" ∧ (parseMethodDescriptor yX9_readLimit.desc).map (fun d => d.parameters.length) = some 0 := by decide +kernel
abbrev rmX9_readGuard : Room := { frames := 8, cells := 0, slots := 0, locals := 269 }
set_option maxRecDepth 20000 in
theorem in_X9_readGuard_X9 : ∀ w ∈ u_ws RX9 TX9 35, w ∈ wsX9_readGuard := by decide +kernel
set_option maxHeartbeats 4000000 in
set_option maxRecDepth 100000 in
theorem w_X9_readGuard_16 {E : Ex} {K : Kx} (C : Cx E K cX9_readGuard 1 none RX9 wsX9_readGuard rmX9_readGuard) {a0 : Nat → Nat} {h0_1 : Nat}   {s0 : Int32} {v0 : ModelV} {r : ModelV} (hf : Mod_readGuard_16 s0 v0 = some r) : WW E K 0 0 (QQ E K (fun rv g => rv = none ∧ g = [wModel E a0 (rf2 (a0 2) h0_1) r]) 0 0) 16 [(0, .ref (a0 0))] [.int s0, .ref (a0 0)] [wModel E a0 (rf2 (a0 2) h0_1) v0] := by
  rw [Mod_readGuard_16] at hf
  refine ww_iconst (v := 3) C dX9_readGuard_16 (by decide) ?_
  obtain ⟨z_3, e_z_3, hf⟩ := asBE hf
  rw [e_z_3]
  obtain ⟨p17, hp17, hf⟩ := bdE hf
  refine ww_callV C (As := [.int (b2i z_3), .int 3]) (st := []) (gr := []) (c_X9_check (E := E) (a0 := a0) (h0_0 := a0 2) (h0_1 := h0_1) hp17) gX9_readGuard_X9_check rfl yk_X9_check ⟨by decide, by decide⟩ ⟨by decide, by decide⟩ clOK9 0 0 rfl rfl [0] [] 1 rfl (by decide) rfl rfl (Nat.le_of_ble_eq_true rfl) dX9_readGuard_17 ?_
  rintro _ _ ⟨rfl, rfl⟩
  refine ww_perm (gs' := [wModel E a0 (rf2 (a0 2) h0_1) p17]) [0] 1 rfl (by decide) rfl ?_
  refine ww_aload_n C dX9_readGuard_20 rfl 0 rfl ?_
  obtain ⟨p21, hp21, hf⟩ := bdE hf
  refine ww_callV C (As := []) (st := []) (gr := []) (c_X9_advance (E := E) (a0 := a0) (h0_0 := a0 2) (h0_1 := h0_1) hp21) gX9_readGuard_X9_advance rfl yk_X9_advance ⟨by decide, by decide⟩ ⟨by decide, by decide⟩ clOK9 0 0 rfl rfl [0] [] 1 rfl (by decide) rfl rfl (Nat.le_of_ble_eq_true rfl) dX9_readGuard_21 ?_
  rintro _ _ ⟨rfl, rfl⟩
  refine ww_perm (gs' := [wModel E a0 (rf2 (a0 2) h0_1) p21]) [0] 1 rfl (by decide) rfl ?_
  refine ww_aload_n C dX9_readGuard_24 rfl 0 rfl ?_
  refine ww_get C clOK9 in_X9_readGuard_X9 (w := wModel E a0 (rf2 (a0 2) h0_1) p21) (fs := fsModel a0 (rf2 (a0 2) h0_1) p21) (v := .int (Model_error p21)) 0 0 27 rfl q_Model (by decide) (by decide +kernel) g_Model_error dX9_readGuard_25 ?_
  refine ww_if_ne (tgt := 52) C dX9_readGuard_28 (by decide) (fun c_4 => ?_) (fun c_4 => ?_)
  · replace hf := ifF c_4 hf
    obtain rfl := Option.some.inj hf
    exact ww_vret C ⟨rfl, rfl⟩ dX9_readGuard_52
  · replace hf := ifT c_4 hf
    refine ww_aload_n C dX9_readGuard_31 rfl 0 rfl ?_
    refine ww_aload_n C dX9_readGuard_32 rfl 0 rfl ?_
    refine ww_get C clOK9 in_X9_readGuard_X9 (w := wModel E a0 (rf2 (a0 2) h0_1) p21) (fs := fsModel a0 (rf2 (a0 2) h0_1) p21) (v := .ref (a0 2)) 0 0 1 rfl q_Model (by decide) (by decide +kernel) g_Model_draft dX9_readGuard_33 ?_
    refine ww_iconst (v := 2) C dX9_readGuard_36 (by decide) ?_
    obtain ⟨g_5, hf⟩ := gdE hf
    refine ww_iald C (f := Model_draft p21) (w := wModel E a0 (rf2 (a0 2) h0_1) p21) 0 2 rfl c_Model_draft (inB_vp g_5) dX9_readGuard_37 ?_
    refine ww_iconst (v := 0) C dX9_readGuard_38 (by decide) ?_
    obtain ⟨p39, hp39, hf⟩ := bdE hf
    refine ww_callV C (As := [.int ((Model_draft p21) (Int32.toNatClampNeg 2)), .int (b2i false)]) (st := []) (gr := []) (c_X9_readWalk (E := E) (a0 := a0) (h0_1 := h0_1) hp39) gX9_readGuard_X9_readWalk rfl yk_X9_readWalk ⟨by decide, by decide⟩ ⟨by decide, by decide⟩ clOK9 0 0 rfl rfl [0] [] 1 rfl (by decide) rfl rfl (Nat.le_of_ble_eq_true rfl) dX9_readGuard_39 ?_
    rintro _ _ ⟨rfl, rfl⟩
    refine ww_perm (gs' := [wModel E a0 (rf2 (a0 2) h0_1) p39]) [0] 1 rfl (by decide) rfl ?_
    refine ww_aload_n C dX9_readGuard_42 rfl 0 rfl ?_
    refine ww_get C clOK9 in_X9_readGuard_X9 (w := wModel E a0 (rf2 (a0 2) h0_1) p39) (fs := fsModel a0 (rf2 (a0 2) h0_1) p39) (v := .ref (a0 2)) 0 0 1 rfl q_Model (by decide) (by decide +kernel) g_Model_draft dX9_readGuard_43 ?_
    refine ww_iconst (v := 2) C dX9_readGuard_46 (by decide) ?_
    refine ww_dup2 C dX9_readGuard_47 rfl rfl ?_
    refine ww_iald C (f := Model_draft p39) (w := wModel E a0 (rf2 (a0 2) h0_1) p39) 0 2 rfl c_Model_draft (inB_vp g_5) dX9_readGuard_48 ?_
    refine ww_iconst (v := 1) C dX9_readGuard_49 (by decide) ?_
    refine ww_iadd C dX9_readGuard_50 ?_
    obtain ⟨v0_51, e_v0_51⟩ : ∃ y : ModelV, y = Model_set_draft p39 (upd (Model_draft p39) (Int32.toNatClampNeg 2) (((Model_draft p39) (Int32.toNatClampNeg 2)) + 1)) := ⟨_, rfl⟩
    replace hf := ltE e_v0_51 hf
    refine ww_iast C (f := Model_draft p39) (w := wModel E a0 (rf2 (a0 2) h0_1) p39) (w' := wModel E a0 (rf2 (a0 2) h0_1) v0_51) (gs' := [wModel E a0 (rf2 (a0 2) h0_1) v0_51]) 0 2 rfl c_Model_draft (inB_vp g_5) (by rw [e_v0_51]; exact s_Model_draft) rfl dX9_readGuard_51 ?_
    obtain rfl := Option.some.inj hf
    exact ww_vret C ⟨rfl, rfl⟩ dX9_readGuard_52

set_option maxHeartbeats 4000000 in
set_option maxRecDepth 100000 in
theorem c_X9_readGuard {E : Ex} {a0 : Nat → Nat} {h0_1 : Nat} {v0 : ModelV} {r : ModelV} (hf : Mod_readGuard v0 = some r) : Ct E yX9_readGuard wsX9_readGuard rmX9_readGuard [.ref (a0 0)] [wModel E a0 (rf2 (a0 2) h0_1) v0] (fun rv g => rv = none ∧ g = [wModel E a0 (rf2 (a0 2) h0_1) r]) := by
  refine ct_of (own := RX9) (by decide +kernel) rfl rfl (Nat.le_of_ble_eq_true rfl) (fun K C => ?_)
  refine ww_sub C (lv' := [(0, .ref (a0 0))]) [0] rfl ?_
  rw [Mod_readGuard] at hf
  refine ww_aload_n C dX9_readGuard_0 rfl 0 rfl ?_
  refine ww_aload_n C dX9_readGuard_1 rfl 0 rfl ?_
  refine ww_get C clOK9 in_X9_readGuard_X9 (w := wModel E a0 (rf2 (a0 2) h0_1) v0) (fs := fsModel a0 (rf2 (a0 2) h0_1) v0) (v := .ref (a0 2)) 0 0 1 rfl q_Model (by decide) (by decide +kernel) g_Model_draft dX9_readGuard_2 ?_
  refine ww_iconst (v := 2) C dX9_readGuard_5 (by decide) ?_
  obtain ⟨g_1, hf⟩ := gdE hf
  refine ww_iald C (f := Model_draft v0) (w := wModel E a0 (rf2 (a0 2) h0_1) v0) 0 2 rfl c_Model_draft (inB_vp g_1) dX9_readGuard_6 ?_
  refine ww_iconst (v := 4) C dX9_readGuard_7 (by decide) ?_
  refine ww_icmp_ge (tgt := 15) C dX9_readGuard_8 (by decide) (fun c_2 => ?_) (fun c_2 => ?_)
  · replace hf := ifT c_2 hf
    refine ww_iconst (v := 0) C dX9_readGuard_15 (by decide) ?_
    refine ww_sub C (lv' := [(0, .ref (a0 0))]) [0] rfl ?_
    exact w_X9_readGuard_16 C hf
  · replace hf := ifF c_2 hf
    refine ww_iconst (v := 1) C dX9_readGuard_11 (by decide) ?_
    refine ww_goto (tgt := 16) C dX9_readGuard_12 (by decide) ?_
    refine ww_sub C (lv' := [(0, .ref (a0 0))]) [0] rfl ?_
    exact w_X9_readGuard_16 C hf

theorem yk_X9_readGuard : yX9_readGuard.cls = RX9 ∧ yX9_readGuard.cls ≠ "java/lang/invoke/MethodHandle" ∧ yX9_readGuard.cls ≠ "java/lang/invoke/VarHandle" ∧ (parseMethodDescriptor yX9_readGuard.desc).map (fun d => d.parameters.length) = some 0 := by decide +kernel
abbrev rmX9_readAll : Room := { frames := 9, cells := 0, slots := 0, locals := 289 }
set_option maxRecDepth 20000 in
theorem in_X9_readAll_X9 : ∀ w ∈ u_ws RX9 TX9 35, w ∈ wsX9_readAll := by decide +kernel
set_option maxHeartbeats 4000000 in
set_option maxRecDepth 100000 in
theorem w_X9_readAll_84 {E : Ex} {K : Kx} (C : Cx E K cX9_readAll 1 none RX9 wsX9_readAll rmX9_readAll) {a0 : Nat → Nat} {h0_1 : Nat}   {v0 : ModelV} {k26 : ModelV → Option ModelV} {r : ModelV} (hk26 : ∀ (v0 : ModelV), k26 v0 = some r → WW E K 0 0 (QQ E K (fun rv g => rv = none ∧ g = [wModel E a0 (rf2 (a0 2) h0_1) r]) 0 0) 26 [(0, .ref (a0 0))] [] [wModel E a0 (rf2 (a0 2) h0_1) v0]) (hf : Mod_readAll_84 k26 v0 = some r) : WW E K 0 0 (QQ E K (fun rv g => rv = none ∧ g = [wModel E a0 (rf2 (a0 2) h0_1) r]) 0 0) 84 [(0, .ref (a0 0))] [] [wModel E a0 (rf2 (a0 2) h0_1) v0] := by
  rw [Mod_readAll_84] at hf
  refine ww_aload_n C dX9_readAll_84 rfl 0 rfl ?_
  refine ww_bipush (v := 59) C dX9_readAll_85 (by decide) ?_
  obtain ⟨p87, hp87, hf⟩ := bdE hf
  refine ww_callV C (As := [.int 59]) (st := []) (gr := []) (c_X9_expect (E := E) (a0 := a0) (h0_0 := a0 2) (h0_1 := h0_1) hp87) gX9_readAll_X9_expect rfl yk_X9_expect ⟨by decide, by decide⟩ ⟨by decide, by decide⟩ clOK9 0 0 rfl rfl [0] [] 1 rfl (by decide) rfl rfl (Nat.le_of_ble_eq_true rfl) dX9_readAll_87 ?_
  rintro _ _ ⟨rfl, rfl⟩
  refine ww_perm (gs' := [wModel E a0 (rf2 (a0 2) h0_1) p87]) [0] 1 rfl (by decide) rfl ?_
  refine ww_goto (tgt := 26) C dX9_readAll_90 (by decide) ?_
  refine ww_sub C (lv' := [(0, .ref (a0 0))]) [0] rfl ?_
  exact hk26 _ hf

set_option maxHeartbeats 4000000 in
set_option maxRecDepth 100000 in
theorem w_X9_readAll_26 {E : Ex} {K : Kx} (C : Cx E K cX9_readAll 1 none RX9 wsX9_readAll rmX9_readAll) {a0 : Nat → Nat} {h0_1 : Nat}   {r : ModelV} : ∀ (n : Nat) (v0 : ModelV), Mod_readAll_26 n v0 = some r → WW E K 0 0 (QQ E K (fun rv g => rv = none ∧ g = [wModel E a0 (rf2 (a0 2) h0_1) r]) 0 0) 26 [(0, .ref (a0 0))] [] [wModel E a0 (rf2 (a0 2) h0_1) v0] := by
  intro n
  induction n with
  | zero =>
    intro v0 hf
    simp [Mod_readAll_26] at hf
  | succ n ih =>
    intro v0 hf
    rw [Mod_readAll_26] at hf
    refine ww_aload_n C dX9_readAll_26 rfl 0 rfl ?_
    refine ww_get C clOK9 in_X9_readAll_X9 (w := wModel E a0 (rf2 (a0 2) h0_1) v0) (fs := fsModel a0 (rf2 (a0 2) h0_1) v0) (v := .int (Model_error v0)) 0 0 27 rfl q_Model (by decide) (by decide +kernel) g_Model_error dX9_readAll_27 ?_
    refine ww_if_ne (tgt := 93) C dX9_readAll_30 (by decide) (fun c_2 => ?_) (fun c_2 => ?_)
    · replace hf := ifF c_2 hf
      obtain rfl := Option.some.inj hf
      exact ww_vret C ⟨rfl, rfl⟩ dX9_readAll_93
    · replace hf := ifT c_2 hf
      refine ww_aload_n C dX9_readAll_33 rfl 0 rfl ?_
      refine ww_get C clOK9 in_X9_readAll_X9 (w := wModel E a0 (rf2 (a0 2) h0_1) v0) (fs := fsModel a0 (rf2 (a0 2) h0_1) v0) (v := .int (Model_token v0)) 0 0 26 rfl q_Model (by decide) (by decide +kernel) g_Model_token dX9_readAll_34 ?_
      refine ww_if_eq (tgt := 93) C dX9_readAll_37 (by decide) (fun c_3 => ?_) (fun c_3 => ?_)
      · replace hf := ifT c_3 hf
        obtain rfl := Option.some.inj hf
        exact ww_vret C ⟨rfl, rfl⟩ dX9_readAll_93
      · replace hf := ifF c_3 hf
        refine ww_aload_n C dX9_readAll_40 rfl 0 rfl ?_
        refine ww_ldcSw C (i := 46) rfl dX9_readAll_41 ?_
        obtain ⟨p44, hp44, hf⟩ := bdE hf
        refine ww_callV C (As := [.ref (eK E 46)]) (st := []) (gr := []) (c_X9_isWord (E := E) (a0 := a0) (h0_0 := a0 2) (h0_1 := h0_1) hp44) gX9_readAll_X9_isWord rfl yk_X9_isWord ⟨by decide, by decide⟩ ⟨by decide, by decide⟩ clOK9 0 0 rfl rfl [0] [] 1 rfl (by decide) rfl rfl (Nat.le_of_ble_eq_true rfl) dX9_readAll_44 ?_
        rintro _ _ ⟨rfl, rfl⟩
        refine ww_perm (gs' := [wModel E a0 (rf2 (a0 2) h0_1) v0]) [0] 1 rfl (by decide) rfl ?_
        refine ww_if_eqB (tgt := 57) C dX9_readAll_47 (by decide) (fun c_4 => ?_) (fun c_4 => ?_)
        · replace hf := bfE c_4 hf
          refine ww_aload_n C dX9_readAll_57 rfl 0 rfl ?_
          refine ww_ldcSw C (i := 47) rfl dX9_readAll_58 ?_
          obtain ⟨p61, hp61, hf⟩ := bdE hf
          refine ww_callV C (As := [.ref (eK E 47)]) (st := []) (gr := []) (c_X9_isWord (E := E) (a0 := a0) (h0_0 := a0 2) (h0_1 := h0_1) hp61) gX9_readAll_X9_isWord rfl yk_X9_isWord ⟨by decide, by decide⟩ ⟨by decide, by decide⟩ clOK9 0 0 rfl rfl [0] [] 1 rfl (by decide) rfl rfl (Nat.le_of_ble_eq_true rfl) dX9_readAll_61 ?_
          rintro _ _ ⟨rfl, rfl⟩
          refine ww_perm (gs' := [wModel E a0 (rf2 (a0 2) h0_1) v0]) [0] 1 rfl (by decide) rfl ?_
          refine ww_if_eqB (tgt := 74) C dX9_readAll_64 (by decide) (fun c_5 => ?_) (fun c_5 => ?_)
          · replace hf := bfE c_5 hf
            refine ww_aload_n C dX9_readAll_74 rfl 0 rfl ?_
            refine ww_ldcS C (i := 34) rfl dX9_readAll_75 ?_
            obtain ⟨p77, hp77, hf⟩ := bdE hf
            refine ww_callV C (As := [.ref (eK E 34)]) (st := []) (gr := []) (c_X9_expectWord (E := E) (a0 := a0) (h0_0 := a0 2) (h0_1 := h0_1) hp77) gX9_readAll_X9_expectWord rfl yk_X9_expectWord ⟨by decide, by decide⟩ ⟨by decide, by decide⟩ clOK9 0 0 rfl rfl [0] [] 1 rfl (by decide) rfl rfl (Nat.le_of_ble_eq_true rfl) dX9_readAll_77 ?_
            rintro _ _ ⟨rfl, rfl⟩
            refine ww_perm (gs' := [wModel E a0 (rf2 (a0 2) h0_1) p77]) [0] 1 rfl (by decide) rfl ?_
            refine ww_aload_n C dX9_readAll_80 rfl 0 rfl ?_
            obtain ⟨p81, hp81, hf⟩ := bdE hf
            refine ww_callV C (As := []) (st := []) (gr := []) (c_X9_readLimit (E := E) (a0 := a0) (h0_1 := h0_1) hp81) gX9_readAll_X9_readLimit rfl yk_X9_readLimit ⟨by decide, by decide⟩ ⟨by decide, by decide⟩ clOK9 0 0 rfl rfl [0] [] 1 rfl (by decide) rfl rfl (Nat.le_of_ble_eq_true rfl) dX9_readAll_81 ?_
            rintro _ _ ⟨rfl, rfl⟩
            refine ww_perm (gs' := [wModel E a0 (rf2 (a0 2) h0_1) p81]) [0] 1 rfl (by decide) rfl ?_
            refine ww_sub C (lv' := [(0, .ref (a0 0))]) [0] rfl ?_
            exact w_X9_readAll_84 C (k26 := (fun (v0 : ModelV) => Mod_readAll_26 n v0)) ih hf
          · replace hf := btE c_5 hf
            refine ww_aload_n C dX9_readAll_67 rfl 0 rfl ?_
            obtain ⟨p68, hp68, hf⟩ := bdE hf
            refine ww_callV C (As := []) (st := []) (gr := []) (c_X9_readGuard (E := E) (a0 := a0) (h0_1 := h0_1) hp68) gX9_readAll_X9_readGuard rfl yk_X9_readGuard ⟨by decide, by decide⟩ ⟨by decide, by decide⟩ clOK9 0 0 rfl rfl [0] [] 1 rfl (by decide) rfl rfl (Nat.le_of_ble_eq_true rfl) dX9_readAll_68 ?_
            rintro _ _ ⟨rfl, rfl⟩
            refine ww_perm (gs' := [wModel E a0 (rf2 (a0 2) h0_1) p68]) [0] 1 rfl (by decide) rfl ?_
            refine ww_goto (tgt := 84) C dX9_readAll_71 (by decide) ?_
            refine ww_sub C (lv' := [(0, .ref (a0 0))]) [0] rfl ?_
            exact w_X9_readAll_84 C (k26 := (fun (v0 : ModelV) => Mod_readAll_26 n v0)) ih hf
        · replace hf := btE c_4 hf
          refine ww_aload_n C dX9_readAll_50 rfl 0 rfl ?_
          obtain ⟨p51, hp51, hf⟩ := bdE hf
          refine ww_callV C (As := []) (st := []) (gr := []) (c_X9_readDoor (E := E) (a0 := a0) (h0_1 := h0_1) hp51) gX9_readAll_X9_readDoor rfl yk_X9_readDoor ⟨by decide, by decide⟩ ⟨by decide, by decide⟩ clOK9 0 0 rfl rfl [0] [] 1 rfl (by decide) rfl rfl (Nat.le_of_ble_eq_true rfl) dX9_readAll_51 ?_
          rintro _ _ ⟨rfl, rfl⟩
          refine ww_perm (gs' := [wModel E a0 (rf2 (a0 2) h0_1) p51]) [0] 1 rfl (by decide) rfl ?_
          refine ww_goto (tgt := 84) C dX9_readAll_54 (by decide) ?_
          refine ww_sub C (lv' := [(0, .ref (a0 0))]) [0] rfl ?_
          exact w_X9_readAll_84 C (k26 := (fun (v0 : ModelV) => Mod_readAll_26 n v0)) ih hf

set_option maxHeartbeats 4000000 in
set_option maxRecDepth 100000 in
theorem c_X9_readAll {E : Ex} {a0 : Nat → Nat} {h0_1 : Nat} {v0 : ModelV} {r : ModelV} (hf : Mod_readAll v0 = some r) : Ct E yX9_readAll wsX9_readAll rmX9_readAll [.ref (a0 0)] [wModel E a0 (rf2 (a0 2) h0_1) v0] (fun rv g => rv = none ∧ g = [wModel E a0 (rf2 (a0 2) h0_1) r]) := by
  refine ct_of (own := RX9) (by decide +kernel) rfl rfl (Nat.le_of_ble_eq_true rfl) (fun K C => ?_)
  refine ww_sub C (lv' := [(0, .ref (a0 0))]) [0] rfl ?_
  rw [Mod_readAll] at hf
  refine ww_aload_n C dX9_readAll_0 rfl 0 rfl ?_
  refine ww_ldcSw C (i := 45) rfl dX9_readAll_1 ?_
  obtain ⟨p4, hp4, hf⟩ := bdE hf
  refine ww_callV C (As := [.ref (eK E 45)]) (st := []) (gr := []) (c_X9_expectWord (E := E) (a0 := a0) (h0_0 := a0 2) (h0_1 := h0_1) hp4) gX9_readAll_X9_expectWord rfl yk_X9_expectWord ⟨by decide, by decide⟩ ⟨by decide, by decide⟩ clOK9 0 0 rfl rfl [0] [] 1 rfl (by decide) rfl rfl (Nat.le_of_ble_eq_true rfl) dX9_readAll_4 ?_
  rintro _ _ ⟨rfl, rfl⟩
  refine ww_perm (gs' := [wModel E a0 (rf2 (a0 2) h0_1) p4]) [0] 1 rfl (by decide) rfl ?_
  refine ww_aload_n C dX9_readAll_7 rfl 0 rfl ?_
  refine ww_get C clOK9 in_X9_readAll_X9 (w := wModel E a0 (rf2 (a0 2) h0_1) p4) (fs := fsModel a0 (rf2 (a0 2) h0_1) p4) (v := .ref (a0 2)) 0 0 1 rfl q_Model (by decide) (by decide +kernel) g_Model_draft dX9_readAll_8 ?_
  refine ww_iconst (v := 0) C dX9_readAll_11 (by decide) ?_
  refine ww_aload_n C dX9_readAll_12 rfl 0 rfl ?_
  refine ww_iconst (v := 1) C dX9_readAll_13 (by decide) ?_
  refine ww_bipush (v := 12) C dX9_readAll_14 (by decide) ?_
  obtain ⟨p16, hp16, hf⟩ := bdE hf
  refine ww_callV C (As := [.int 1, .int 12]) (st := [.int 0, .ref (a0 2)]) (gr := []) (c_X9_readNumber (E := E) (a0 := a0) (h0_0 := a0 2) (h0_1 := h0_1) hp16) gX9_readAll_X9_readNumber rfl yk_X9_readNumber ⟨by decide, by decide⟩ ⟨by decide, by decide⟩ clOK9 0 0 rfl rfl [0] [] 1 rfl (by decide) rfl rfl (Nat.le_of_ble_eq_true rfl) dX9_readAll_16 ?_
  rintro _ _ ⟨rfl, rfl⟩
  refine ww_perm (gs' := [wModel E a0 (rf2 (a0 2) h0_1) p16.2]) [0] 1 rfl (by decide) rfl ?_
  obtain ⟨g_1, hf⟩ := gdE hf
  obtain ⟨v0_19, e_v0_19⟩ : ∃ y : ModelV, y = Model_set_draft p16.2 (upd (Model_draft p16.2) (Int32.toNatClampNeg 0) p16.1) := ⟨_, rfl⟩
  replace hf := ltE e_v0_19 hf
  refine ww_iast C (f := Model_draft p16.2) (w := wModel E a0 (rf2 (a0 2) h0_1) p16.2) (w' := wModel E a0 (rf2 (a0 2) h0_1) v0_19) (gs' := [wModel E a0 (rf2 (a0 2) h0_1) v0_19]) 0 2 rfl c_Model_draft (inB_vp g_1) (by rw [e_v0_19]; exact s_Model_draft) rfl dX9_readAll_19 ?_
  refine ww_aload_n C dX9_readAll_20 rfl 0 rfl ?_
  refine ww_bipush (v := 59) C dX9_readAll_21 (by decide) ?_
  obtain ⟨p23, hp23, hf⟩ := bdE hf
  refine ww_callV C (As := [.int 59]) (st := []) (gr := []) (c_X9_expect (E := E) (a0 := a0) (h0_0 := a0 2) (h0_1 := h0_1) hp23) gX9_readAll_X9_expect rfl yk_X9_expect ⟨by decide, by decide⟩ ⟨by decide, by decide⟩ clOK9 0 0 rfl rfl [0] [] 1 rfl (by decide) rfl rfl (Nat.le_of_ble_eq_true rfl) dX9_readAll_23 ?_
  rintro _ _ ⟨rfl, rfl⟩
  refine ww_perm (gs' := [wModel E a0 (rf2 (a0 2) h0_1) p23]) [0] 1 rfl (by decide) rfl ?_
  refine ww_sub C (lv' := [(0, .ref (a0 0))]) [0] rfl ?_
  exact w_X9_readAll_26 C FU _ hf

theorem yk_X9_readAll : yX9_readAll.cls = RX9 ∧ yX9_readAll.cls ≠ "java/lang/invoke/MethodHandle" ∧ yX9_readAll.cls ≠ "java/lang/invoke/VarHandle" ∧ (parseMethodDescriptor yX9_readAll.desc).map (fun d => d.parameters.length) = some 0 := by decide +kernel
