abbrev rmX7_kindOf : Room := { frames := 0, cells := 0, slots := 0, locals := 0 }
set_option maxHeartbeats 4000000 in
set_option maxRecDepth 100000 in
theorem w_X7_kindOf_14 {E : Ex} {K : Kx} (C : Cx E K cX7_kindOf 1 (some .int) RX7 wsX7_kindOf rmX7_kindOf)  {x0 : Int32}   {r : Int32} (hf : Toks_kindOf_14 x0  = some r) : WW E K 0 0 (QQ E K (fun rv g => rv = some (.int r) ∧ g = []) 0 0) 14 [(0, .int x0)] [] [] := by
  rw [Toks_kindOf_14] at hf
  refine ww_iload_n C dX7_kindOf_14 rfl 0 rfl ?_
  refine ww_bipush (v := 48) C dX7_kindOf_15 (by decide) ?_
  refine ww_icmp_lt (tgt := 30) C dX7_kindOf_17 (by decide) (fun c_3 => ?_) (fun c_3 => ?_)
  · replace hf := ifT c_3 hf
    refine ww_iconst (v := 3) C dX7_kindOf_30 (by decide) ?_
    obtain rfl := Option.some.inj hf
    exact ww_iret C ⟨rfl, rfl⟩ dX7_kindOf_31
  · replace hf := ifF c_3 hf
    refine ww_iload_n C dX7_kindOf_20 rfl 0 rfl ?_
    refine ww_bipush (v := 57) C dX7_kindOf_21 (by decide) ?_
    refine ww_icmp_gt (tgt := 30) C dX7_kindOf_23 (by decide) (fun c_4 => ?_) (fun c_4 => ?_)
    · replace hf := ifT c_4 hf
      refine ww_iconst (v := 3) C dX7_kindOf_30 (by decide) ?_
      obtain rfl := Option.some.inj hf
      exact ww_iret C ⟨rfl, rfl⟩ dX7_kindOf_31
    · replace hf := ifF c_4 hf
      refine ww_iconst (v := 2) C dX7_kindOf_26 (by decide) ?_
      refine ww_goto (tgt := 31) C dX7_kindOf_27 (by decide) ?_
      obtain rfl := Option.some.inj hf
      exact ww_iret C ⟨rfl, rfl⟩ dX7_kindOf_31

set_option maxHeartbeats 4000000 in
set_option maxRecDepth 100000 in
theorem c_X7_kindOf {E : Ex}  {x0 : Int32} {r : Int32} (hf : Toks_kindOf x0 = some r) : Ct E yX7_kindOf wsX7_kindOf rmX7_kindOf [.int x0] [] (fun rv g => rv = some (.int r) ∧ g = []) := by
  refine ct_of (own := RX7) (by decide +kernel) rfl rfl (Nat.le_of_ble_eq_true rfl) (fun K C => ?_)
  refine ww_sub C (lv' := [(0, .int x0)]) [0] rfl ?_
  rw [Toks_kindOf] at hf
  refine ww_iload_n C dX7_kindOf_0 rfl 0 rfl ?_
  refine ww_bipush (v := 97) C dX7_kindOf_1 (by decide) ?_
  refine ww_icmp_lt (tgt := 14) C dX7_kindOf_3 (by decide) (fun c_1 => ?_) (fun c_1 => ?_)
  · replace hf := ifT c_1 hf
    refine ww_sub C (lv' := [(0, .int x0)]) [0] rfl ?_
    exact w_X7_kindOf_14 C hf
  · replace hf := ifF c_1 hf
    refine ww_iload_n C dX7_kindOf_6 rfl 0 rfl ?_
    refine ww_bipush (v := 122) C dX7_kindOf_7 (by decide) ?_
    refine ww_icmp_gt (tgt := 14) C dX7_kindOf_9 (by decide) (fun c_2 => ?_) (fun c_2 => ?_)
    · replace hf := ifT c_2 hf
      refine ww_sub C (lv' := [(0, .int x0)]) [0] rfl ?_
      exact w_X7_kindOf_14 C hf
    · replace hf := ifF c_2 hf
      refine ww_iconst (v := 1) C dX7_kindOf_12 (by decide) ?_
      obtain rfl := Option.some.inj hf
      exact ww_iret C ⟨rfl, rfl⟩ dX7_kindOf_13

theorem ysk_X7_kindOf : yX7_kindOf.cls ≠ "java/lang/invoke/MethodHandle" ∧ yX7_kindOf.cls ≠ "java/lang/invoke/VarHandle" ∧ (parseMethodDescriptor yX7_kindOf.desc).map (fun d => d.parameters.length) = some 1 := by decide +kernel
abbrev rmX7_advance : Room := { frames := 1, cells := 0, slots := 0, locals := 20 }
set_option maxRecDepth 20000 in
theorem in_X7_advance_X7 : ∀ w ∈ u_ws RX7 TX7 7, w ∈ wsX7_advance := by decide +kernel
set_option maxHeartbeats 4000000 in
set_option maxRecDepth 100000 in
theorem w_X7_advance_129 {E : Ex} {K : Kx} (C : Cx E K cX7_advance 1 none RX7 wsX7_advance rmX7_advance) {a0 : Nat → Nat}   {r : ToksV} : ∀ (n : Nat) (v0 : ToksV), Toks_advance_129 n v0 = some r → WW E K 0 0 (QQ E K (fun rv g => rv = none ∧ g = [wToks E a0 r]) 0 0) 129 [(0, .ref (a0 0))] [] [wToks E a0 v0] := by
  intro n
  induction n with
  | zero =>
    intro v0 hf
    simp [Toks_advance_129] at hf
  | succ n ih =>
    intro v0 hf
    rw [Toks_advance_129] at hf
    refine ww_aload_n C dX7_advance_129 rfl 0 rfl ?_
    refine ww_get C clOK7 in_X7_advance_X7 (w := wToks E a0 v0) (fs := fsToks a0 v0) (v := .int (Toks_to v0)) 0 0 4 rfl q_Toks (by decide) (by decide +kernel) g_Toks_to dX7_advance_130 ?_
    refine ww_if_lt (tgt := 221) C dX7_advance_133 (by decide) (fun c_10 => ?_) (fun c_10 => ?_)
    · replace hf := ifT c_10 hf
      obtain rfl := Option.some.inj hf
      exact ww_vret C ⟨rfl, rfl⟩ dX7_advance_221
    · replace hf := ifF c_10 hf
      refine ww_aload_n C dX7_advance_136 rfl 0 rfl ?_
      refine ww_get C clOK7 in_X7_advance_X7 (w := wToks E a0 v0) (fs := fsToks a0 v0) (v := .int (Toks_to v0)) 0 0 4 rfl q_Toks (by decide) (by decide +kernel) g_Toks_to dX7_advance_137 ?_
      refine ww_aload_n C dX7_advance_140 rfl 0 rfl ?_
      refine ww_get C clOK7 in_X7_advance_X7 (w := wToks E a0 v0) (fs := fsToks a0 v0) (v := .int (Toks_limit v0)) 0 0 5 rfl q_Toks (by decide) (by decide +kernel) g_Toks_limit dX7_advance_141 ?_
      refine ww_icmp_ge (tgt := 221) C dX7_advance_144 (by decide) (fun c_11 => ?_) (fun c_11 => ?_)
      · replace hf := ifT c_11 hf
        obtain rfl := Option.some.inj hf
        exact ww_vret C ⟨rfl, rfl⟩ dX7_advance_221
      · replace hf := ifF c_11 hf
        refine ww_aload_n C dX7_advance_147 rfl 0 rfl ?_
        refine ww_get C clOK7 in_X7_advance_X7 (w := wToks E a0 v0) (fs := fsToks a0 v0) (v := .ref (a0 1)) 0 0 0 rfl q_Toks (by decide) (by decide +kernel) g_Toks_bytes dX7_advance_148 ?_
        refine ww_aload_n C dX7_advance_151 rfl 0 rfl ?_
        refine ww_get C clOK7 in_X7_advance_X7 (w := wToks E a0 v0) (fs := fsToks a0 v0) (v := .int (Toks_to v0)) 0 0 4 rfl q_Toks (by decide) (by decide +kernel) g_Toks_to dX7_advance_152 ?_
        obtain ⟨g_12, hf⟩ := gdE hf
        refine ww_iald C (f := Toks_bytes v0) (w := wToks E a0 v0) 0 1 rfl c_Toks_bytes (inB_vp g_12) dX7_advance_155 ?_
        obtain ⟨p156, hp156, hf⟩ := bdE hf
        refine ww_callS C (As := [.int ((Toks_bytes v0) (Int32.toNatClampNeg (Toks_to v0)))]) (st := []) (gr := [wToks E a0 v0]) (c_X7_kindOf (E := E)  hp156) gX7_advance_X7_kindOf rfl ysk_X7_kindOf ⟨by decide, by decide⟩ ⟨by decide, by decide⟩ [] [0] 1 rfl (by decide) rfl rfl (Nat.le_of_ble_eq_true rfl) dX7_advance_156 ?_
        rintro _ _ ⟨rfl, rfl⟩
        refine ww_perm (gs' := [wToks E a0 v0]) [0] 1 rfl (by decide) rfl ?_
        refine ww_aload_n C dX7_advance_159 rfl 0 rfl ?_
        refine ww_get C clOK7 in_X7_advance_X7 (w := wToks E a0 v0) (fs := fsToks a0 v0) (v := .int (Toks_kind v0)) 0 0 6 rfl q_Toks (by decide) (by decide +kernel) g_Toks_kind dX7_advance_160 ?_
        refine ww_icmp_ne (tgt := 221) C dX7_advance_163 (by decide) (fun c_13 => ?_) (fun c_13 => ?_)
        · replace hf := ifF c_13 hf
          obtain rfl := Option.some.inj hf
          exact ww_vret C ⟨rfl, rfl⟩ dX7_advance_221
        · replace hf := ifT c_13 hf
          refine ww_aload_n C dX7_advance_166 rfl 0 rfl ?_
          refine ww_get C clOK7 in_X7_advance_X7 (w := wToks E a0 v0) (fs := fsToks a0 v0) (v := .int (Toks_kind v0)) 0 0 6 rfl q_Toks (by decide) (by decide +kernel) g_Toks_kind dX7_advance_167 ?_
          refine ww_iconst (v := 2) C dX7_advance_170 (by decide) ?_
          refine ww_icmp_ne (tgt := 208) C dX7_advance_171 (by decide) (fun c_14 => ?_) (fun c_14 => ?_)
          · replace hf := ifF c_14 hf
            refine ww_aload_n C dX7_advance_208 rfl 0 rfl ?_
            refine ww_dup C dX7_advance_209 rfl ?_
            refine ww_get C clOK7 in_X7_advance_X7 (w := wToks E a0 v0) (fs := fsToks a0 v0) (v := .int (Toks_to v0)) 0 0 4 rfl q_Toks (by decide) (by decide +kernel) g_Toks_to dX7_advance_210 ?_
            refine ww_iconst (v := 1) C dX7_advance_213 (by decide) ?_
            refine ww_iadd C dX7_advance_214 ?_
            obtain ⟨v0_215, e_v0_215⟩ : ∃ y : ToksV, y = Toks_set_to v0 ((Toks_to v0) + 1) := ⟨_, rfl⟩
            replace hf := ltE e_v0_215 hf
            refine ww_put C clOK7 in_X7_advance_X7 (w := wToks E a0 v0) (fs := fsToks a0 v0) (w' := wToks E a0 v0_215) (gs' := [wToks E a0 v0_215]) 0 0 4 rfl q_Toks (by decide) (by decide +kernel) rfl rfl rfl rfl l_Toks (by rw [e_v0_215]; exact p_Toks_to) rfl dX7_advance_215 ?_
            refine ww_goto (tgt := 129) C dX7_advance_218 (by decide) ?_
            refine ww_sub C (lv' := [(0, .ref (a0 0))]) [0] rfl ?_
            exact ih _ hf
          · replace hf := ifT c_14 hf
            refine ww_aload_n C dX7_advance_174 rfl 0 rfl ?_
            refine ww_get C clOK7 in_X7_advance_X7 (w := wToks E a0 v0) (fs := fsToks a0 v0) (v := .int (Toks_number v0)) 0 0 3 rfl q_Toks (by decide) (by decide +kernel) g_Toks_number dX7_advance_175 ?_
            refine ww_sipush (v := 9999) C dX7_advance_178 (by decide) ?_
            refine ww_icmp_gt (tgt := 208) C dX7_advance_181 (by decide) (fun c_15 => ?_) (fun c_15 => ?_)
            · replace hf := ifT c_15 hf
              refine ww_aload_n C dX7_advance_208 rfl 0 rfl ?_
              refine ww_dup C dX7_advance_209 rfl ?_
              refine ww_get C clOK7 in_X7_advance_X7 (w := wToks E a0 v0) (fs := fsToks a0 v0) (v := .int (Toks_to v0)) 0 0 4 rfl q_Toks (by decide) (by decide +kernel) g_Toks_to dX7_advance_210 ?_
              refine ww_iconst (v := 1) C dX7_advance_213 (by decide) ?_
              refine ww_iadd C dX7_advance_214 ?_
              obtain ⟨v0_215, e_v0_215⟩ : ∃ y : ToksV, y = Toks_set_to v0 ((Toks_to v0) + 1) := ⟨_, rfl⟩
              replace hf := ltE e_v0_215 hf
              refine ww_put C clOK7 in_X7_advance_X7 (w := wToks E a0 v0) (fs := fsToks a0 v0) (w' := wToks E a0 v0_215) (gs' := [wToks E a0 v0_215]) 0 0 4 rfl q_Toks (by decide) (by decide +kernel) rfl rfl rfl rfl l_Toks (by rw [e_v0_215]; exact p_Toks_to) rfl dX7_advance_215 ?_
              refine ww_goto (tgt := 129) C dX7_advance_218 (by decide) ?_
              refine ww_sub C (lv' := [(0, .ref (a0 0))]) [0] rfl ?_
              exact ih _ hf
            · replace hf := ifF c_15 hf
              refine ww_aload_n C dX7_advance_184 rfl 0 rfl ?_
              refine ww_aload_n C dX7_advance_185 rfl 0 rfl ?_
              refine ww_get C clOK7 in_X7_advance_X7 (w := wToks E a0 v0) (fs := fsToks a0 v0) (v := .int (Toks_number v0)) 0 0 3 rfl q_Toks (by decide) (by decide +kernel) g_Toks_number dX7_advance_186 ?_
              refine ww_bipush (v := 10) C dX7_advance_189 (by decide) ?_
              refine ww_imul C dX7_advance_191 ?_
              refine ww_aload_n C dX7_advance_192 rfl 0 rfl ?_
              refine ww_get C clOK7 in_X7_advance_X7 (w := wToks E a0 v0) (fs := fsToks a0 v0) (v := .ref (a0 1)) 0 0 0 rfl q_Toks (by decide) (by decide +kernel) g_Toks_bytes dX7_advance_193 ?_
              refine ww_aload_n C dX7_advance_196 rfl 0 rfl ?_
              refine ww_get C clOK7 in_X7_advance_X7 (w := wToks E a0 v0) (fs := fsToks a0 v0) (v := .int (Toks_to v0)) 0 0 4 rfl q_Toks (by decide) (by decide +kernel) g_Toks_to dX7_advance_197 ?_
              refine ww_iald C (f := Toks_bytes v0) (w := wToks E a0 v0) 0 1 rfl c_Toks_bytes (inB_vp g_12) dX7_advance_200 ?_
              refine ww_iadd C dX7_advance_201 ?_
              refine ww_bipush (v := 48) C dX7_advance_202 (by decide) ?_
              refine ww_isub C dX7_advance_204 ?_
              obtain ⟨v0_205, e_v0_205⟩ : ∃ y : ToksV, y = Toks_set_number v0 ((((Toks_number v0) * 10) + ((Toks_bytes v0) (Int32.toNatClampNeg (Toks_to v0)))) - 48) := ⟨_, rfl⟩
              replace hf := ltE e_v0_205 hf
              refine ww_put C clOK7 in_X7_advance_X7 (w := wToks E a0 v0) (fs := fsToks a0 v0) (w' := wToks E a0 v0_205) (gs' := [wToks E a0 v0_205]) 0 0 3 rfl q_Toks (by decide) (by decide +kernel) rfl rfl rfl rfl l_Toks (by rw [e_v0_205]; exact p_Toks_number) rfl dX7_advance_205 ?_
              refine ww_aload_n C dX7_advance_208 rfl 0 rfl ?_
              refine ww_dup C dX7_advance_209 rfl ?_
              refine ww_get C clOK7 in_X7_advance_X7 (w := wToks E a0 v0_205) (fs := fsToks a0 v0_205) (v := .int (Toks_to v0_205)) 0 0 4 rfl q_Toks (by decide) (by decide +kernel) g_Toks_to dX7_advance_210 ?_
              refine ww_iconst (v := 1) C dX7_advance_213 (by decide) ?_
              refine ww_iadd C dX7_advance_214 ?_
              obtain ⟨v0_215, e_v0_215⟩ : ∃ y : ToksV, y = Toks_set_to v0_205 ((Toks_to v0_205) + 1) := ⟨_, rfl⟩
              replace hf := ltE e_v0_215 hf
              refine ww_put C clOK7 in_X7_advance_X7 (w := wToks E a0 v0_205) (fs := fsToks a0 v0_205) (w' := wToks E a0 v0_215) (gs' := [wToks E a0 v0_215]) 0 0 4 rfl q_Toks (by decide) (by decide +kernel) rfl rfl rfl rfl l_Toks (by rw [e_v0_215]; exact p_Toks_to) rfl dX7_advance_215 ?_
              refine ww_goto (tgt := 129) C dX7_advance_218 (by decide) ?_
              refine ww_sub C (lv' := [(0, .ref (a0 0))]) [0] rfl ?_
              exact ih _ hf

set_option maxHeartbeats 4000000 in
set_option maxRecDepth 100000 in
theorem w_X7_advance_107 {E : Ex} {K : Kx} (C : Cx E K cX7_advance 1 none RX7 wsX7_advance rmX7_advance) {a0 : Nat → Nat}   {s0 : Int32} {v0 : ToksV} {r : ToksV} (hf : Toks_advance_107 s0 v0 = some r) : WW E K 0 0 (QQ E K (fun rv g => rv = none ∧ g = [wToks E a0 r]) 0 0) 107 [(0, .ref (a0 0))] [.int s0, .ref (a0 0)] [wToks E a0 v0] := by
  rw [Toks_advance_107] at hf
  obtain ⟨v0_107, e_v0_107⟩ : ∃ y : ToksV, y = Toks_set_kind v0 s0 := ⟨_, rfl⟩
  replace hf := ltE e_v0_107 hf
  refine ww_put C clOK7 in_X7_advance_X7 (w := wToks E a0 v0) (fs := fsToks a0 v0) (w' := wToks E a0 v0_107) (gs' := [wToks E a0 v0_107]) 0 0 6 rfl q_Toks (by decide) (by decide +kernel) rfl rfl rfl rfl l_Toks (by rw [e_v0_107]; exact p_Toks_kind) rfl dX7_advance_107 ?_
  refine ww_aload_n C dX7_advance_110 rfl 0 rfl ?_
  refine ww_get C clOK7 in_X7_advance_X7 (w := wToks E a0 v0_107) (fs := fsToks a0 v0_107) (v := .int (Toks_kind v0_107)) 0 0 6 rfl q_Toks (by decide) (by decide +kernel) g_Toks_kind dX7_advance_111 ?_
  refine ww_iconst (v := 3) C dX7_advance_114 (by decide) ?_
  refine ww_icmp_ne (tgt := 129) C dX7_advance_115 (by decide) (fun c_9 => ?_) (fun c_9 => ?_)
  · replace hf := ifF c_9 hf
    refine ww_sub C (lv' := [(0, .ref (a0 0))]) [0] rfl ?_
    exact w_X7_advance_129 C FU _ hf
  · replace hf := ifT c_9 hf
    refine ww_aload_n C dX7_advance_118 rfl 0 rfl ?_
    refine ww_dup C dX7_advance_119 rfl ?_
    refine ww_get C clOK7 in_X7_advance_X7 (w := wToks E a0 v0_107) (fs := fsToks a0 v0_107) (v := .int (Toks_to v0_107)) 0 0 4 rfl q_Toks (by decide) (by decide +kernel) g_Toks_to dX7_advance_120 ?_
    refine ww_iconst (v := 1) C dX7_advance_123 (by decide) ?_
    refine ww_iadd C dX7_advance_124 ?_
    obtain ⟨v0_125, e_v0_125⟩ : ∃ y : ToksV, y = Toks_set_to v0_107 ((Toks_to v0_107) + 1) := ⟨_, rfl⟩
    replace hf := ltE e_v0_125 hf
    refine ww_put C clOK7 in_X7_advance_X7 (w := wToks E a0 v0_107) (fs := fsToks a0 v0_107) (w' := wToks E a0 v0_125) (gs' := [wToks E a0 v0_125]) 0 0 4 rfl q_Toks (by decide) (by decide +kernel) rfl rfl rfl rfl l_Toks (by rw [e_v0_125]; exact p_Toks_to) rfl dX7_advance_125 ?_
    obtain rfl := Option.some.inj hf
    exact ww_vret C ⟨rfl, rfl⟩ dX7_advance_128

set_option maxHeartbeats 4000000 in
set_option maxRecDepth 100000 in
theorem w_X7_advance_106 {E : Ex} {K : Kx} (C : Cx E K cX7_advance 1 none RX7 wsX7_advance rmX7_advance) {a0 : Nat → Nat}   {v0 : ToksV} {r : ToksV} (hf : Toks_advance_106 v0 = some r) : WW E K 0 0 (QQ E K (fun rv g => rv = none ∧ g = [wToks E a0 r]) 0 0) 106 [(0, .ref (a0 0))] [.ref (a0 0)] [wToks E a0 v0] := by
  rw [Toks_advance_106] at hf
  refine ww_iconst (v := 0) C dX7_advance_106 (by decide) ?_
  refine ww_sub C (lv' := [(0, .ref (a0 0))]) [0] rfl ?_
  exact w_X7_advance_107 C hf

set_option maxHeartbeats 4000000 in
set_option maxRecDepth 100000 in
theorem w_X7_advance_59 {E : Ex} {K : Kx} (C : Cx E K cX7_advance 1 none RX7 wsX7_advance rmX7_advance) {a0 : Nat → Nat}   {v0 : ToksV} {r : ToksV} (hf : Toks_advance_59 v0 = some r) : WW E K 0 0 (QQ E K (fun rv g => rv = none ∧ g = [wToks E a0 r]) 0 0) 59 [(0, .ref (a0 0))] [] [wToks E a0 v0] := by
  rw [Toks_advance_59] at hf
  refine ww_aload_n C dX7_advance_59 rfl 0 rfl ?_
  refine ww_aload_n C dX7_advance_60 rfl 0 rfl ?_
  refine ww_get C clOK7 in_X7_advance_X7 (w := wToks E a0 v0) (fs := fsToks a0 v0) (v := .int (Toks_to v0)) 0 0 4 rfl q_Toks (by decide) (by decide +kernel) g_Toks_to dX7_advance_61 ?_
  obtain ⟨v0_64, e_v0_64⟩ : ∃ y : ToksV, y = Toks_set_from v0 (Toks_to v0) := ⟨_, rfl⟩
  replace hf := ltE e_v0_64 hf
  refine ww_put C clOK7 in_X7_advance_X7 (w := wToks E a0 v0) (fs := fsToks a0 v0) (w' := wToks E a0 v0_64) (gs' := [wToks E a0 v0_64]) 0 0 2 rfl q_Toks (by decide) (by decide +kernel) rfl rfl rfl rfl l_Toks (by rw [e_v0_64]; exact p_Toks_from) rfl dX7_advance_64 ?_
  refine ww_aload_n C dX7_advance_67 rfl 0 rfl ?_
  refine ww_iconst (v := 0) C dX7_advance_68 (by decide) ?_
  obtain ⟨v0_69, e_v0_69⟩ : ∃ y : ToksV, y = Toks_set_number v0_64 0 := ⟨_, rfl⟩
  replace hf := ltE e_v0_69 hf
  refine ww_put C clOK7 in_X7_advance_X7 (w := wToks E a0 v0_64) (fs := fsToks a0 v0_64) (w' := wToks E a0 v0_69) (gs' := [wToks E a0 v0_69]) 0 0 3 rfl q_Toks (by decide) (by decide +kernel) rfl rfl rfl rfl l_Toks (by rw [e_v0_69]; exact p_Toks_number) rfl dX7_advance_69 ?_
  refine ww_aload_n C dX7_advance_72 rfl 0 rfl ?_
  refine ww_aload_n C dX7_advance_73 rfl 0 rfl ?_
  refine ww_get C clOK7 in_X7_advance_X7 (w := wToks E a0 v0_69) (fs := fsToks a0 v0_69) (v := .int (Toks_from v0_69)) 0 0 2 rfl q_Toks (by decide) (by decide +kernel) g_Toks_from dX7_advance_74 ?_
  refine ww_if_lt (tgt := 106) C dX7_advance_77 (by decide) (fun c_6 => ?_) (fun c_6 => ?_)
  · replace hf := ifT c_6 hf
    refine ww_sub C (lv' := [(0, .ref (a0 0))]) [0] rfl ?_
    exact w_X7_advance_106 C hf
  · replace hf := ifF c_6 hf
    refine ww_aload_n C dX7_advance_80 rfl 0 rfl ?_
    refine ww_get C clOK7 in_X7_advance_X7 (w := wToks E a0 v0_69) (fs := fsToks a0 v0_69) (v := .int (Toks_from v0_69)) 0 0 2 rfl q_Toks (by decide) (by decide +kernel) g_Toks_from dX7_advance_81 ?_
    refine ww_aload_n C dX7_advance_84 rfl 0 rfl ?_
    refine ww_get C clOK7 in_X7_advance_X7 (w := wToks E a0 v0_69) (fs := fsToks a0 v0_69) (v := .int (Toks_limit v0_69)) 0 0 5 rfl q_Toks (by decide) (by decide +kernel) g_Toks_limit dX7_advance_85 ?_
    refine ww_icmp_ge (tgt := 106) C dX7_advance_88 (by decide) (fun c_7 => ?_) (fun c_7 => ?_)
    · replace hf := ifT c_7 hf
      refine ww_sub C (lv' := [(0, .ref (a0 0))]) [0] rfl ?_
      exact w_X7_advance_106 C hf
    · replace hf := ifF c_7 hf
      refine ww_aload_n C dX7_advance_91 rfl 0 rfl ?_
      refine ww_get C clOK7 in_X7_advance_X7 (w := wToks E a0 v0_69) (fs := fsToks a0 v0_69) (v := .ref (a0 1)) 0 0 0 rfl q_Toks (by decide) (by decide +kernel) g_Toks_bytes dX7_advance_92 ?_
      refine ww_aload_n C dX7_advance_95 rfl 0 rfl ?_
      refine ww_get C clOK7 in_X7_advance_X7 (w := wToks E a0 v0_69) (fs := fsToks a0 v0_69) (v := .int (Toks_from v0_69)) 0 0 2 rfl q_Toks (by decide) (by decide +kernel) g_Toks_from dX7_advance_96 ?_
      obtain ⟨g_8, hf⟩ := gdE hf
      refine ww_iald C (f := Toks_bytes v0_69) (w := wToks E a0 v0_69) 0 1 rfl c_Toks_bytes (inB_vp g_8) dX7_advance_99 ?_
      obtain ⟨p100, hp100, hf⟩ := bdE hf
      refine ww_callS C (As := [.int ((Toks_bytes v0_69) (Int32.toNatClampNeg (Toks_from v0_69)))]) (st := [.ref (a0 0)]) (gr := [wToks E a0 v0_69]) (c_X7_kindOf (E := E)  hp100) gX7_advance_X7_kindOf rfl ysk_X7_kindOf ⟨by decide, by decide⟩ ⟨by decide, by decide⟩ [] [0] 1 rfl (by decide) rfl rfl (Nat.le_of_ble_eq_true rfl) dX7_advance_100 ?_
      rintro _ _ ⟨rfl, rfl⟩
      refine ww_perm (gs' := [wToks E a0 v0_69]) [0] 1 rfl (by decide) rfl ?_
      refine ww_goto (tgt := 107) C dX7_advance_103 (by decide) ?_
      refine ww_sub C (lv' := [(0, .ref (a0 0))]) [0] rfl ?_
      exact w_X7_advance_107 C hf

set_option maxHeartbeats 4000000 in
set_option maxRecDepth 100000 in
theorem w_X7_advance_0 {E : Ex} {K : Kx} (C : Cx E K cX7_advance 1 none RX7 wsX7_advance rmX7_advance) {a0 : Nat → Nat}   {r : ToksV} : ∀ (n : Nat) (v0 : ToksV), Toks_advance_0 n v0 = some r → WW E K 0 0 (QQ E K (fun rv g => rv = none ∧ g = [wToks E a0 r]) 0 0) 0 [(0, .ref (a0 0))] [] [wToks E a0 v0] := by
  intro n
  induction n with
  | zero =>
    intro v0 hf
    simp [Toks_advance_0] at hf
  | succ n ih =>
    intro v0 hf
    rw [Toks_advance_0] at hf
    refine ww_aload_n C dX7_advance_0 rfl 0 rfl ?_
    refine ww_get C clOK7 in_X7_advance_X7 (w := wToks E a0 v0) (fs := fsToks a0 v0) (v := .int (Toks_to v0)) 0 0 4 rfl q_Toks (by decide) (by decide +kernel) g_Toks_to dX7_advance_1 ?_
    refine ww_if_lt (tgt := 59) C dX7_advance_4 (by decide) (fun c_1 => ?_) (fun c_1 => ?_)
    · replace hf := ifT c_1 hf
      refine ww_sub C (lv' := [(0, .ref (a0 0))]) [0] rfl ?_
      exact w_X7_advance_59 C hf
    · replace hf := ifF c_1 hf
      refine ww_aload_n C dX7_advance_7 rfl 0 rfl ?_
      refine ww_get C clOK7 in_X7_advance_X7 (w := wToks E a0 v0) (fs := fsToks a0 v0) (v := .int (Toks_to v0)) 0 0 4 rfl q_Toks (by decide) (by decide +kernel) g_Toks_to dX7_advance_8 ?_
      refine ww_aload_n C dX7_advance_11 rfl 0 rfl ?_
      refine ww_get C clOK7 in_X7_advance_X7 (w := wToks E a0 v0) (fs := fsToks a0 v0) (v := .int (Toks_limit v0)) 0 0 5 rfl q_Toks (by decide) (by decide +kernel) g_Toks_limit dX7_advance_12 ?_
      refine ww_icmp_ge (tgt := 59) C dX7_advance_15 (by decide) (fun c_2 => ?_) (fun c_2 => ?_)
      · replace hf := ifT c_2 hf
        refine ww_sub C (lv' := [(0, .ref (a0 0))]) [0] rfl ?_
        exact w_X7_advance_59 C hf
      · replace hf := ifF c_2 hf
        refine ww_aload_n C dX7_advance_18 rfl 0 rfl ?_
        refine ww_get C clOK7 in_X7_advance_X7 (w := wToks E a0 v0) (fs := fsToks a0 v0) (v := .ref (a0 1)) 0 0 0 rfl q_Toks (by decide) (by decide +kernel) g_Toks_bytes dX7_advance_19 ?_
        refine ww_aload_n C dX7_advance_22 rfl 0 rfl ?_
        refine ww_get C clOK7 in_X7_advance_X7 (w := wToks E a0 v0) (fs := fsToks a0 v0) (v := .int (Toks_to v0)) 0 0 4 rfl q_Toks (by decide) (by decide +kernel) g_Toks_to dX7_advance_23 ?_
        obtain ⟨g_3, hf⟩ := gdE hf
        refine ww_iald C (f := Toks_bytes v0) (w := wToks E a0 v0) 0 1 rfl c_Toks_bytes (inB_vp g_3) dX7_advance_26 ?_
        refine ww_bipush (v := 32) C dX7_advance_27 (by decide) ?_
        refine ww_icmp_eq (tgt := 46) C dX7_advance_29 (by decide) (fun c_4 => ?_) (fun c_4 => ?_)
        · replace hf := ifT c_4 hf
          refine ww_aload_n C dX7_advance_46 rfl 0 rfl ?_
          refine ww_dup C dX7_advance_47 rfl ?_
          refine ww_get C clOK7 in_X7_advance_X7 (w := wToks E a0 v0) (fs := fsToks a0 v0) (v := .int (Toks_to v0)) 0 0 4 rfl q_Toks (by decide) (by decide +kernel) g_Toks_to dX7_advance_48 ?_
          refine ww_iconst (v := 1) C dX7_advance_51 (by decide) ?_
          refine ww_iadd C dX7_advance_52 ?_
          obtain ⟨v0_53, e_v0_53⟩ : ∃ y : ToksV, y = Toks_set_to v0 ((Toks_to v0) + 1) := ⟨_, rfl⟩
          replace hf := ltE e_v0_53 hf
          refine ww_put C clOK7 in_X7_advance_X7 (w := wToks E a0 v0) (fs := fsToks a0 v0) (w' := wToks E a0 v0_53) (gs' := [wToks E a0 v0_53]) 0 0 4 rfl q_Toks (by decide) (by decide +kernel) rfl rfl rfl rfl l_Toks (by rw [e_v0_53]; exact p_Toks_to) rfl dX7_advance_53 ?_
          refine ww_goto (tgt := 0) C dX7_advance_56 (by decide) ?_
          refine ww_sub C (lv' := [(0, .ref (a0 0))]) [0] rfl ?_
          exact ih _ hf
        · replace hf := ifF c_4 hf
          refine ww_aload_n C dX7_advance_32 rfl 0 rfl ?_
          refine ww_get C clOK7 in_X7_advance_X7 (w := wToks E a0 v0) (fs := fsToks a0 v0) (v := .ref (a0 1)) 0 0 0 rfl q_Toks (by decide) (by decide +kernel) g_Toks_bytes dX7_advance_33 ?_
          refine ww_aload_n C dX7_advance_36 rfl 0 rfl ?_
          refine ww_get C clOK7 in_X7_advance_X7 (w := wToks E a0 v0) (fs := fsToks a0 v0) (v := .int (Toks_to v0)) 0 0 4 rfl q_Toks (by decide) (by decide +kernel) g_Toks_to dX7_advance_37 ?_
          refine ww_iald C (f := Toks_bytes v0) (w := wToks E a0 v0) 0 1 rfl c_Toks_bytes (inB_vp g_3) dX7_advance_40 ?_
          refine ww_bipush (v := 10) C dX7_advance_41 (by decide) ?_
          refine ww_icmp_ne (tgt := 59) C dX7_advance_43 (by decide) (fun c_5 => ?_) (fun c_5 => ?_)
          · replace hf := ifF c_5 hf
            refine ww_sub C (lv' := [(0, .ref (a0 0))]) [0] rfl ?_
            exact w_X7_advance_59 C hf
          · replace hf := ifT c_5 hf
            refine ww_aload_n C dX7_advance_46 rfl 0 rfl ?_
            refine ww_dup C dX7_advance_47 rfl ?_
            refine ww_get C clOK7 in_X7_advance_X7 (w := wToks E a0 v0) (fs := fsToks a0 v0) (v := .int (Toks_to v0)) 0 0 4 rfl q_Toks (by decide) (by decide +kernel) g_Toks_to dX7_advance_48 ?_
            refine ww_iconst (v := 1) C dX7_advance_51 (by decide) ?_
            refine ww_iadd C dX7_advance_52 ?_
            obtain ⟨v0_53, e_v0_53⟩ : ∃ y : ToksV, y = Toks_set_to v0 ((Toks_to v0) + 1) := ⟨_, rfl⟩
            replace hf := ltE e_v0_53 hf
            refine ww_put C clOK7 in_X7_advance_X7 (w := wToks E a0 v0) (fs := fsToks a0 v0) (w' := wToks E a0 v0_53) (gs' := [wToks E a0 v0_53]) 0 0 4 rfl q_Toks (by decide) (by decide +kernel) rfl rfl rfl rfl l_Toks (by rw [e_v0_53]; exact p_Toks_to) rfl dX7_advance_53 ?_
            refine ww_goto (tgt := 0) C dX7_advance_56 (by decide) ?_
            refine ww_sub C (lv' := [(0, .ref (a0 0))]) [0] rfl ?_
            exact ih _ hf

set_option maxHeartbeats 4000000 in
set_option maxRecDepth 100000 in
theorem c_X7_advance {E : Ex} {a0 : Nat → Nat} {v0 : ToksV} {r : ToksV} (hf : Toks_advance v0 = some r) : Ct E yX7_advance wsX7_advance rmX7_advance [.ref (a0 0)] [wToks E a0 v0] (fun rv g => rv = none ∧ g = [wToks E a0 r]) := by
  refine ct_of (own := RX7) (by decide +kernel) rfl rfl (Nat.le_of_ble_eq_true rfl) (fun K C => ?_)
  refine ww_sub C (lv' := [(0, .ref (a0 0))]) [0] rfl ?_
  rw [Toks_advance] at hf
  refine ww_sub C (lv' := [(0, .ref (a0 0))]) [0] rfl ?_
  exact w_X7_advance_0 C FU _ hf

theorem yk_X7_advance : yX7_advance.cls = RX7 ∧ yX7_advance.cls ≠ "java/lang/invoke/MethodHandle" ∧ yX7_advance.cls ≠ "java/lang/invoke/VarHandle" ∧ (parseMethodDescriptor yX7_advance.desc).map (fun d => d.parameters.length) = some 0 := by decide +kernel
abbrev rmX7_begin : Room := { frames := 2, cells := 0, slots := 0, locals := 40 }
set_option maxRecDepth 20000 in
theorem in_X7_begin_X7 : ∀ w ∈ u_ws RX7 TX7 7, w ∈ wsX7_begin := by decide +kernel
set_option maxHeartbeats 4000000 in
set_option maxRecDepth 100000 in
theorem c_X7_begin {E : Ex} {a0 : Nat → Nat} {x1 : Int32} {v0 : ToksV} {r : ToksV} (hf : Toks_begin x1 v0 = some r) : Ct E yX7_begin wsX7_begin rmX7_begin [.ref (a0 0), .int x1] [wToks E a0 v0] (fun rv g => rv = none ∧ g = [wToks E a0 r]) := by
  refine ct_of (own := RX7) (by decide +kernel) rfl rfl (Nat.le_of_ble_eq_true rfl) (fun K C => ?_)
  refine ww_sub C (lv' := [(0, .ref (a0 0)), (1, .int x1)]) [0, 1] rfl ?_
  rw [Toks_begin] at hf
  refine ww_aload_n C dX7_begin_0 rfl 0 rfl ?_
  refine ww_iload_n C dX7_begin_1 rfl 1 rfl ?_
  refine ww_sipush (v := 600) C dX7_begin_2 (by decide) ?_
  refine ww_min C (by decide +kernel) (by decide +kernel) (by decide +kernel) (by decide +kernel) (by decide) (Nat.le_of_ble_eq_true rfl) (by decide) (by decide) dX7_begin_5 ?_
  obtain ⟨v0_8, e_v0_8⟩ : ∃ y : ToksV, y = Toks_set_limit v0 (imin x1 600) := ⟨_, rfl⟩
  replace hf := ltE e_v0_8 hf
  refine ww_put C clOK7 in_X7_begin_X7 (w := wToks E a0 v0) (fs := fsToks a0 v0) (w' := wToks E a0 v0_8) (gs' := [wToks E a0 v0_8]) 0 0 5 rfl q_Toks (by decide) (by decide +kernel) rfl rfl rfl rfl l_Toks (by rw [e_v0_8]; exact p_Toks_limit) rfl dX7_begin_8 ?_
  refine ww_aload_n C dX7_begin_11 rfl 0 rfl ?_
  refine ww_iconst (v := 0) C dX7_begin_12 (by decide) ?_
  obtain ⟨v0_13, e_v0_13⟩ : ∃ y : ToksV, y = Toks_set_to v0_8 0 := ⟨_, rfl⟩
  replace hf := ltE e_v0_13 hf
  refine ww_put C clOK7 in_X7_begin_X7 (w := wToks E a0 v0_8) (fs := fsToks a0 v0_8) (w' := wToks E a0 v0_13) (gs' := [wToks E a0 v0_13]) 0 0 4 rfl q_Toks (by decide) (by decide +kernel) rfl rfl rfl rfl l_Toks (by rw [e_v0_13]; exact p_Toks_to) rfl dX7_begin_13 ?_
  refine ww_aload_n C dX7_begin_16 rfl 0 rfl ?_
  obtain ⟨p17, hp17, hf⟩ := bdE hf
  refine ww_callV C (As := []) (st := []) (gr := []) (c_X7_advance (E := E) (a0 := a0) hp17) gX7_begin_X7_advance rfl yk_X7_advance ⟨by decide, by decide⟩ ⟨by decide, by decide⟩ clOK7 0 0 rfl rfl [0] [] 1 rfl (by decide) rfl rfl (Nat.le_of_ble_eq_true rfl) dX7_begin_17 ?_
  rintro _ _ ⟨rfl, rfl⟩
  refine ww_perm (gs' := [wToks E a0 p17]) [0] 1 rfl (by decide) rfl ?_
  obtain rfl := Option.some.inj hf
  exact ww_vret C ⟨rfl, rfl⟩ dX7_begin_20

theorem yk_X7_begin : yX7_begin.cls = RX7 ∧ yX7_begin.cls ≠ "java/lang/invoke/MethodHandle" ∧ yX7_begin.cls ≠ "java/lang/invoke/VarHandle" ∧ (parseMethodDescriptor yX7_begin.desc).map (fun d => d.parameters.length) = some 1 := by decide +kernel
abbrev rmX7_addBytes : Room := { frames := 0, cells := 0, slots := 0, locals := 0 }
set_option maxRecDepth 20000 in
theorem in_X7_addBytes_X7 : ∀ w ∈ u_ws RX7 TX7 7, w ∈ wsX7_addBytes := by decide +kernel
set_option maxHeartbeats 4000000 in
set_option maxRecDepth 100000 in
theorem w_X7_addBytes_3 {E : Ex} {K : Kx} (C : Cx E K cX7_addBytes 3 none RX7 wsX7_addBytes rmX7_addBytes) {a0 : Nat → Nat} {x1 : Int32}  {r : ToksV} : ∀ (n : Nat) (x2 : Int32) (v0 : ToksV), Toks_addBytes_3 x1 n x2 v0 = some r → WW E K 0 0 (QQ E K (fun rv g => rv = none ∧ g = [wToks E a0 r]) 0 0) 3 [(0, .ref (a0 0)), (1, .int x1), (2, .int x2)] [] [wToks E a0 v0] := by
  intro n
  induction n with
  | zero =>
    intro x2 v0 hf
    simp [Toks_addBytes_3] at hf
  | succ n ih =>
    intro x2 v0 hf
    rw [Toks_addBytes_3] at hf
    refine ww_iload_n C dX7_addBytes_3 rfl 2 rfl ?_
    refine ww_if_lt (tgt := 56) C dX7_addBytes_4 (by decide) (fun c_1 => ?_) (fun c_1 => ?_)
    · replace hf := ifT c_1 hf
      obtain rfl := Option.some.inj hf
      exact ww_vret C ⟨rfl, rfl⟩ dX7_addBytes_56
    · replace hf := ifF c_1 hf
      refine ww_aload_n C dX7_addBytes_7 rfl 0 rfl ?_
      refine ww_get C clOK7 in_X7_addBytes_X7 (w := wToks E a0 v0) (fs := fsToks a0 v0) (v := .int (Toks_filled v0)) 0 0 1 rfl q_Toks (by decide) (by decide +kernel) g_Toks_filled dX7_addBytes_8 ?_
      refine ww_if_lt (tgt := 50) C dX7_addBytes_11 (by decide) (fun c_2 => ?_) (fun c_2 => ?_)
      · replace hf := ifT c_2 hf
        obtain ⟨x2_50, e_x2_50⟩ : ∃ y : Int32, y = x2 + (-8) := ⟨_, rfl⟩
        replace hf := ltE e_x2_50 hf
        refine ww_iinc (v := x2_50) (lv' := [(2, .int x2_50), (0, .ref (a0 0)), (1, .int x1)]) C dX7_addBytes_50 2 rfl (by rw [e_x2_50]; rfl) (by decide) rfl ?_
        refine ww_goto (tgt := 3) C dX7_addBytes_53 (by decide) ?_
        refine ww_sub C (lv' := [(0, .ref (a0 0)), (1, .int x1), (2, .int x2_50)]) [1, 2, 0] rfl ?_
        exact ih _ _ hf
      · replace hf := ifF c_2 hf
        refine ww_aload_n C dX7_addBytes_14 rfl 0 rfl ?_
        refine ww_get C clOK7 in_X7_addBytes_X7 (w := wToks E a0 v0) (fs := fsToks a0 v0) (v := .int (Toks_filled v0)) 0 0 1 rfl q_Toks (by decide) (by decide +kernel) g_Toks_filled dX7_addBytes_15 ?_
        refine ww_sipush (v := 600) C dX7_addBytes_18 (by decide) ?_
        refine ww_icmp_ge (tgt := 50) C dX7_addBytes_21 (by decide) (fun c_3 => ?_) (fun c_3 => ?_)
        · replace hf := ifT c_3 hf
          obtain ⟨x2_50, e_x2_50⟩ : ∃ y : Int32, y = x2 + (-8) := ⟨_, rfl⟩
          replace hf := ltE e_x2_50 hf
          refine ww_iinc (v := x2_50) (lv' := [(2, .int x2_50), (0, .ref (a0 0)), (1, .int x1)]) C dX7_addBytes_50 2 rfl (by rw [e_x2_50]; rfl) (by decide) rfl ?_
          refine ww_goto (tgt := 3) C dX7_addBytes_53 (by decide) ?_
          refine ww_sub C (lv' := [(0, .ref (a0 0)), (1, .int x1), (2, .int x2_50)]) [1, 2, 0] rfl ?_
          exact ih _ _ hf
        · replace hf := ifF c_3 hf
          refine ww_aload_n C dX7_addBytes_24 rfl 0 rfl ?_
          refine ww_get C clOK7 in_X7_addBytes_X7 (w := wToks E a0 v0) (fs := fsToks a0 v0) (v := .ref (a0 1)) 0 0 0 rfl q_Toks (by decide) (by decide +kernel) g_Toks_bytes dX7_addBytes_25 ?_
          refine ww_aload_n C dX7_addBytes_28 rfl 0 rfl ?_
          refine ww_get C clOK7 in_X7_addBytes_X7 (w := wToks E a0 v0) (fs := fsToks a0 v0) (v := .int (Toks_filled v0)) 0 0 1 rfl q_Toks (by decide) (by decide +kernel) g_Toks_filled dX7_addBytes_29 ?_
          refine ww_iload_n C dX7_addBytes_32 rfl 1 rfl ?_
          refine ww_iload_n C dX7_addBytes_33 rfl 2 rfl ?_
          refine ww_ishr C dX7_addBytes_34 ?_
          refine ww_sipush (v := 255) C dX7_addBytes_35 (by decide) ?_
          refine ww_iand C dX7_addBytes_38 ?_
          obtain ⟨g_4, hf⟩ := gdE hf
          obtain ⟨v0_39, e_v0_39⟩ : ∃ y : ToksV, y = Toks_set_bytes v0 (upd (Toks_bytes v0) (Int32.toNatClampNeg (Toks_filled v0)) ((x1 >>> (x2 &&& 31)) &&& 255)) := ⟨_, rfl⟩
          replace hf := ltE e_v0_39 hf
          refine ww_iast C (f := Toks_bytes v0) (w := wToks E a0 v0) (w' := wToks E a0 v0_39) (gs' := [wToks E a0 v0_39]) 0 1 rfl c_Toks_bytes (inB_vp g_4) (by rw [e_v0_39]; exact s_Toks_bytes) rfl dX7_addBytes_39 ?_
          refine ww_aload_n C dX7_addBytes_40 rfl 0 rfl ?_
          refine ww_dup C dX7_addBytes_41 rfl ?_
          refine ww_get C clOK7 in_X7_addBytes_X7 (w := wToks E a0 v0_39) (fs := fsToks a0 v0_39) (v := .int (Toks_filled v0_39)) 0 0 1 rfl q_Toks (by decide) (by decide +kernel) g_Toks_filled dX7_addBytes_42 ?_
          refine ww_iconst (v := 1) C dX7_addBytes_45 (by decide) ?_
          refine ww_iadd C dX7_addBytes_46 ?_
          obtain ⟨v0_47, e_v0_47⟩ : ∃ y : ToksV, y = Toks_set_filled v0_39 ((Toks_filled v0_39) + 1) := ⟨_, rfl⟩
          replace hf := ltE e_v0_47 hf
          refine ww_put C clOK7 in_X7_addBytes_X7 (w := wToks E a0 v0_39) (fs := fsToks a0 v0_39) (w' := wToks E a0 v0_47) (gs' := [wToks E a0 v0_47]) 0 0 1 rfl q_Toks (by decide) (by decide +kernel) rfl rfl rfl rfl l_Toks (by rw [e_v0_47]; exact p_Toks_filled) rfl dX7_addBytes_47 ?_
          obtain ⟨x2_50, e_x2_50⟩ : ∃ y : Int32, y = x2 + (-8) := ⟨_, rfl⟩
          replace hf := ltE e_x2_50 hf
          refine ww_iinc (v := x2_50) (lv' := [(2, .int x2_50), (0, .ref (a0 0)), (1, .int x1)]) C dX7_addBytes_50 2 rfl (by rw [e_x2_50]; rfl) (by decide) rfl ?_
          refine ww_goto (tgt := 3) C dX7_addBytes_53 (by decide) ?_
          refine ww_sub C (lv' := [(0, .ref (a0 0)), (1, .int x1), (2, .int x2_50)]) [1, 2, 0] rfl ?_
          exact ih _ _ hf

set_option maxHeartbeats 4000000 in
set_option maxRecDepth 100000 in
theorem c_X7_addBytes {E : Ex} {a0 : Nat → Nat} {x1 : Int32} {v0 : ToksV} {r : ToksV} (hf : Toks_addBytes x1 v0 = some r) : Ct E yX7_addBytes wsX7_addBytes rmX7_addBytes [.ref (a0 0), .int x1] [wToks E a0 v0] (fun rv g => rv = none ∧ g = [wToks E a0 r]) := by
  refine ct_of (own := RX7) (by decide +kernel) rfl rfl (Nat.le_of_ble_eq_true rfl) (fun K C => ?_)
  refine ww_sub C (lv' := [(0, .ref (a0 0)), (1, .int x1)]) [0, 1] rfl ?_
  rw [Toks_addBytes] at hf
  refine ww_bipush (v := 24) C dX7_addBytes_0 (by decide) ?_
  refine ww_istore_n (lv' := [(2, .int 24), (0, .ref (a0 0)), (1, .int x1)]) C dX7_addBytes_2 rfl (by decide) rfl ?_
  refine ww_sub C (lv' := [(0, .ref (a0 0)), (1, .int x1), (2, .int 24)]) [1, 2, 0] rfl ?_
  exact w_X7_addBytes_3 C FU _ _ hf

theorem yk_X7_addBytes : yX7_addBytes.cls = RX7 ∧ yX7_addBytes.cls ≠ "java/lang/invoke/MethodHandle" ∧ yX7_addBytes.cls ≠ "java/lang/invoke/VarHandle" ∧ (parseMethodDescriptor yX7_addBytes.desc).map (fun d => d.parameters.length) = some 1 := by decide +kernel
abbrev rmX7_isEnd : Room := { frames := 0, cells := 0, slots := 0, locals := 0 }
set_option maxRecDepth 20000 in
theorem in_X7_isEnd_X7 : ∀ w ∈ u_ws RX7 TX7 7, w ∈ wsX7_isEnd := by decide +kernel
set_option maxHeartbeats 4000000 in
set_option maxRecDepth 100000 in
theorem c_X7_isEnd {E : Ex} {a0 : Nat → Nat} {v0 : ToksV} {r : Bool} (hf : Toks_isEnd v0 = some r) : Ct E yX7_isEnd wsX7_isEnd rmX7_isEnd [.ref (a0 0)] [wToks E a0 v0] (fun rv g => rv = some (.int (b2i r)) ∧ g = [wToks E a0 v0]) := by
  refine ct_of (own := RX7) (by decide +kernel) rfl rfl (Nat.le_of_ble_eq_true rfl) (fun K C => ?_)
  refine ww_sub C (lv' := [(0, .ref (a0 0))]) [0] rfl ?_
  rw [Toks_isEnd] at hf
  refine ww_aload_n C dX7_isEnd_0 rfl 0 rfl ?_
  refine ww_get C clOK7 in_X7_isEnd_X7 (w := wToks E a0 v0) (fs := fsToks a0 v0) (v := .int (Toks_kind v0)) 0 0 6 rfl q_Toks (by decide) (by decide +kernel) g_Toks_kind dX7_isEnd_1 ?_
  refine ww_if_ne (tgt := 11) C dX7_isEnd_4 (by decide) (fun c_1 => ?_) (fun c_1 => ?_)
  · replace hf := ifF c_1 hf
    refine ww_iconst (v := 0) C dX7_isEnd_11 (by decide) ?_
    obtain rfl := Option.some.inj hf
    exact ww_zret C (nar_b false) ⟨rfl, rfl⟩ dX7_isEnd_12
  · replace hf := ifT c_1 hf
    refine ww_iconst (v := 1) C dX7_isEnd_7 (by decide) ?_
    refine ww_goto (tgt := 12) C dX7_isEnd_8 (by decide) ?_
    obtain rfl := Option.some.inj hf
    exact ww_zret C (nar_b true) ⟨rfl, rfl⟩ dX7_isEnd_12

theorem yk_X7_isEnd : yX7_isEnd.cls = RX7 ∧ yX7_isEnd.cls ≠ "java/lang/invoke/MethodHandle" ∧ yX7_isEnd.cls ≠ "java/lang/invoke/VarHandle" ∧ (parseMethodDescriptor yX7_isEnd.desc).map (fun d => d.parameters.length) = some 0 := by decide +kernel
abbrev rmX7_isNumber : Room := { frames := 0, cells := 0, slots := 0, locals := 0 }
set_option maxRecDepth 20000 in
theorem in_X7_isNumber_X7 : ∀ w ∈ u_ws RX7 TX7 7, w ∈ wsX7_isNumber := by decide +kernel
set_option maxHeartbeats 4000000 in
set_option maxRecDepth 100000 in
theorem c_X7_isNumber {E : Ex} {a0 : Nat → Nat} {v0 : ToksV} {r : Bool} (hf : Toks_isNumber v0 = some r) : Ct E yX7_isNumber wsX7_isNumber rmX7_isNumber [.ref (a0 0)] [wToks E a0 v0] (fun rv g => rv = some (.int (b2i r)) ∧ g = [wToks E a0 v0]) := by
  refine ct_of (own := RX7) (by decide +kernel) rfl rfl (Nat.le_of_ble_eq_true rfl) (fun K C => ?_)
  refine ww_sub C (lv' := [(0, .ref (a0 0))]) [0] rfl ?_
  rw [Toks_isNumber] at hf
  refine ww_aload_n C dX7_isNumber_0 rfl 0 rfl ?_
  refine ww_get C clOK7 in_X7_isNumber_X7 (w := wToks E a0 v0) (fs := fsToks a0 v0) (v := .int (Toks_kind v0)) 0 0 6 rfl q_Toks (by decide) (by decide +kernel) g_Toks_kind dX7_isNumber_1 ?_
  refine ww_iconst (v := 2) C dX7_isNumber_4 (by decide) ?_
  refine ww_icmp_ne (tgt := 12) C dX7_isNumber_5 (by decide) (fun c_1 => ?_) (fun c_1 => ?_)
  · replace hf := ifF c_1 hf
    refine ww_iconst (v := 0) C dX7_isNumber_12 (by decide) ?_
    obtain rfl := Option.some.inj hf
    exact ww_zret C (nar_b false) ⟨rfl, rfl⟩ dX7_isNumber_13
  · replace hf := ifT c_1 hf
    refine ww_iconst (v := 1) C dX7_isNumber_8 (by decide) ?_
    refine ww_goto (tgt := 13) C dX7_isNumber_9 (by decide) ?_
    obtain rfl := Option.some.inj hf
    exact ww_zret C (nar_b true) ⟨rfl, rfl⟩ dX7_isNumber_13

theorem yk_X7_isNumber : yX7_isNumber.cls = RX7 ∧ yX7_isNumber.cls ≠ "java/lang/invoke/MethodHandle" ∧ yX7_isNumber.cls ≠ "java/lang/invoke/VarHandle" ∧ (parseMethodDescriptor yX7_isNumber.desc).map (fun d => d.parameters.length) = some 0 := by decide +kernel
abbrev rmX7_isSign : Room := { frames := 0, cells := 0, slots := 0, locals := 0 }
set_option maxRecDepth 20000 in
theorem in_X7_isSign_X7 : ∀ w ∈ u_ws RX7 TX7 7, w ∈ wsX7_isSign := by decide +kernel
set_option maxHeartbeats 4000000 in
set_option maxRecDepth 100000 in
theorem c_X7_isSign {E : Ex} {a0 : Nat → Nat} {x1 : Int32} {v0 : ToksV} {r : Bool} (hf : Toks_isSign x1 v0 = some r) : Ct E yX7_isSign wsX7_isSign rmX7_isSign [.ref (a0 0), .int x1] [wToks E a0 v0] (fun rv g => rv = some (.int (b2i r)) ∧ g = [wToks E a0 v0]) := by
  refine ct_of (own := RX7) (by decide +kernel) rfl rfl (Nat.le_of_ble_eq_true rfl) (fun K C => ?_)
  refine ww_sub C (lv' := [(0, .ref (a0 0)), (1, .int x1)]) [0, 1] rfl ?_
  rw [Toks_isSign] at hf
  refine ww_aload_n C dX7_isSign_0 rfl 0 rfl ?_
  refine ww_get C clOK7 in_X7_isSign_X7 (w := wToks E a0 v0) (fs := fsToks a0 v0) (v := .int (Toks_kind v0)) 0 0 6 rfl q_Toks (by decide) (by decide +kernel) g_Toks_kind dX7_isSign_1 ?_
  refine ww_iconst (v := 3) C dX7_isSign_4 (by decide) ?_
  refine ww_icmp_ne (tgt := 42) C dX7_isSign_5 (by decide) (fun c_1 => ?_) (fun c_1 => ?_)
  · replace hf := ifF c_1 hf
    refine ww_iconst (v := 0) C dX7_isSign_42 (by decide) ?_
    obtain rfl := Option.some.inj hf
    exact ww_zret C (nar_b false) ⟨rfl, rfl⟩ dX7_isSign_43
  · replace hf := ifT c_1 hf
    refine ww_aload_n C dX7_isSign_8 rfl 0 rfl ?_
    refine ww_get C clOK7 in_X7_isSign_X7 (w := wToks E a0 v0) (fs := fsToks a0 v0) (v := .int (Toks_from v0)) 0 0 2 rfl q_Toks (by decide) (by decide +kernel) g_Toks_from dX7_isSign_9 ?_
    refine ww_if_lt (tgt := 42) C dX7_isSign_12 (by decide) (fun c_2 => ?_) (fun c_2 => ?_)
    · replace hf := ifT c_2 hf
      refine ww_iconst (v := 0) C dX7_isSign_42 (by decide) ?_
      obtain rfl := Option.some.inj hf
      exact ww_zret C (nar_b false) ⟨rfl, rfl⟩ dX7_isSign_43
    · replace hf := ifF c_2 hf
      refine ww_aload_n C dX7_isSign_15 rfl 0 rfl ?_
      refine ww_get C clOK7 in_X7_isSign_X7 (w := wToks E a0 v0) (fs := fsToks a0 v0) (v := .int (Toks_from v0)) 0 0 2 rfl q_Toks (by decide) (by decide +kernel) g_Toks_from dX7_isSign_16 ?_
      refine ww_sipush (v := 600) C dX7_isSign_19 (by decide) ?_
      refine ww_icmp_ge (tgt := 42) C dX7_isSign_22 (by decide) (fun c_3 => ?_) (fun c_3 => ?_)
      · replace hf := ifT c_3 hf
        refine ww_iconst (v := 0) C dX7_isSign_42 (by decide) ?_
        obtain rfl := Option.some.inj hf
        exact ww_zret C (nar_b false) ⟨rfl, rfl⟩ dX7_isSign_43
      · replace hf := ifF c_3 hf
        refine ww_aload_n C dX7_isSign_25 rfl 0 rfl ?_
        refine ww_get C clOK7 in_X7_isSign_X7 (w := wToks E a0 v0) (fs := fsToks a0 v0) (v := .ref (a0 1)) 0 0 0 rfl q_Toks (by decide) (by decide +kernel) g_Toks_bytes dX7_isSign_26 ?_
        refine ww_aload_n C dX7_isSign_29 rfl 0 rfl ?_
        refine ww_get C clOK7 in_X7_isSign_X7 (w := wToks E a0 v0) (fs := fsToks a0 v0) (v := .int (Toks_from v0)) 0 0 2 rfl q_Toks (by decide) (by decide +kernel) g_Toks_from dX7_isSign_30 ?_
        obtain ⟨g_4, hf⟩ := gdE hf
        refine ww_iald C (f := Toks_bytes v0) (w := wToks E a0 v0) 0 1 rfl c_Toks_bytes (inB_vp g_4) dX7_isSign_33 ?_
        refine ww_iload_n C dX7_isSign_34 rfl 1 rfl ?_
        refine ww_icmp_ne (tgt := 42) C dX7_isSign_35 (by decide) (fun c_5 => ?_) (fun c_5 => ?_)
        · replace hf := ifF c_5 hf
          refine ww_iconst (v := 0) C dX7_isSign_42 (by decide) ?_
          obtain rfl := Option.some.inj hf
          exact ww_zret C (nar_b false) ⟨rfl, rfl⟩ dX7_isSign_43
        · replace hf := ifT c_5 hf
          refine ww_iconst (v := 1) C dX7_isSign_38 (by decide) ?_
          refine ww_goto (tgt := 43) C dX7_isSign_39 (by decide) ?_
          obtain rfl := Option.some.inj hf
          exact ww_zret C (nar_b true) ⟨rfl, rfl⟩ dX7_isSign_43

theorem yk_X7_isSign : yX7_isSign.cls = RX7 ∧ yX7_isSign.cls ≠ "java/lang/invoke/MethodHandle" ∧ yX7_isSign.cls ≠ "java/lang/invoke/VarHandle" ∧ (parseMethodDescriptor yX7_isSign.desc).map (fun d => d.parameters.length) = some 1 := by decide +kernel
abbrev rmX7_numberCode : Room := { frames := 0, cells := 0, slots := 0, locals := 0 }
set_option maxRecDepth 20000 in
theorem in_X7_numberCode_X7 : ∀ w ∈ u_ws RX7 TX7 7, w ∈ wsX7_numberCode := by decide +kernel
set_option maxHeartbeats 4000000 in
set_option maxRecDepth 100000 in
theorem c_X7_numberCode {E : Ex} {a0 : Nat → Nat} {x1 : Int32} {x2 : Int32} {v0 : ToksV} {r : Int32} (hf : Toks_numberCode x1 x2 v0 = some r) : Ct E yX7_numberCode wsX7_numberCode rmX7_numberCode [.ref (a0 0), .int x1, .int x2] [wToks E a0 v0] (fun rv g => rv = some (.int r) ∧ g = [wToks E a0 v0]) := by
  refine ct_of (own := RX7) (by decide +kernel) rfl rfl (Nat.le_of_ble_eq_true rfl) (fun K C => ?_)
  refine ww_sub C (lv' := [(0, .ref (a0 0)), (1, .int x1), (2, .int x2)]) [0, 1, 2] rfl ?_
  rw [Toks_numberCode] at hf
  refine ww_aload_n C dX7_numberCode_0 rfl 0 rfl ?_
  refine ww_get C clOK7 in_X7_numberCode_X7 (w := wToks E a0 v0) (fs := fsToks a0 v0) (v := .int (Toks_kind v0)) 0 0 6 rfl q_Toks (by decide) (by decide +kernel) g_Toks_kind dX7_numberCode_1 ?_
  refine ww_iconst (v := 2) C dX7_numberCode_4 (by decide) ?_
  refine ww_icmp_eq (tgt := 10) C dX7_numberCode_5 (by decide) (fun c_1 => ?_) (fun c_1 => ?_)
  · replace hf := ifT c_1 hf
    refine ww_aload_n C dX7_numberCode_10 rfl 0 rfl ?_
    refine ww_get C clOK7 in_X7_numberCode_X7 (w := wToks E a0 v0) (fs := fsToks a0 v0) (v := .int (Toks_number v0)) 0 0 3 rfl q_Toks (by decide) (by decide +kernel) g_Toks_number dX7_numberCode_11 ?_
    refine ww_iload_n C dX7_numberCode_14 rfl 1 rfl ?_
    refine ww_icmp_lt (tgt := 26) C dX7_numberCode_15 (by decide) (fun c_2 => ?_) (fun c_2 => ?_)
    · replace hf := ifT c_2 hf
      refine ww_iconst (v := 2) C dX7_numberCode_26 (by decide) ?_
      refine ww_goto (tgt := 31) C dX7_numberCode_27 (by decide) ?_
      obtain rfl := Option.some.inj hf
      exact ww_iret C ⟨rfl, rfl⟩ dX7_numberCode_31
    · replace hf := ifF c_2 hf
      refine ww_aload_n C dX7_numberCode_18 rfl 0 rfl ?_
      refine ww_get C clOK7 in_X7_numberCode_X7 (w := wToks E a0 v0) (fs := fsToks a0 v0) (v := .int (Toks_number v0)) 0 0 3 rfl q_Toks (by decide) (by decide +kernel) g_Toks_number dX7_numberCode_19 ?_
      refine ww_iload_n C dX7_numberCode_22 rfl 2 rfl ?_
      refine ww_icmp_le (tgt := 30) C dX7_numberCode_23 (by decide) (fun c_3 => ?_) (fun c_3 => ?_)
      · replace hf := ifT c_3 hf
        refine ww_iconst (v := 0) C dX7_numberCode_30 (by decide) ?_
        obtain rfl := Option.some.inj hf
        exact ww_iret C ⟨rfl, rfl⟩ dX7_numberCode_31
      · replace hf := ifF c_3 hf
        refine ww_iconst (v := 2) C dX7_numberCode_26 (by decide) ?_
        refine ww_goto (tgt := 31) C dX7_numberCode_27 (by decide) ?_
        obtain rfl := Option.some.inj hf
        exact ww_iret C ⟨rfl, rfl⟩ dX7_numberCode_31
  · replace hf := ifF c_1 hf
    refine ww_iconst (v := 1) C dX7_numberCode_8 (by decide) ?_
    obtain rfl := Option.some.inj hf
    exact ww_iret C ⟨rfl, rfl⟩ dX7_numberCode_9

theorem yk_X7_numberCode : yX7_numberCode.cls = RX7 ∧ yX7_numberCode.cls ≠ "java/lang/invoke/MethodHandle" ∧ yX7_numberCode.cls ≠ "java/lang/invoke/VarHandle" ∧ (parseMethodDescriptor yX7_numberCode.desc).map (fun d => d.parameters.length) = some 2 := by decide +kernel
abbrev rmX7_isWord : Room := { frames := 5, cells := 0, slots := 0, locals := 200 }
set_option maxRecDepth 20000 in
theorem in_X7_isWord_X7 : ∀ w ∈ u_ws RX7 TX7 7, w ∈ wsX7_isWord := by decide +kernel
set_option maxHeartbeats 4000000 in
set_option maxRecDepth 100000 in
theorem w_X7_isWord_28 {E : Ex} {K : Kx} (C : Cx E K cX7_isWord 3 (some .boolean) RX7 wsX7_isWord rmX7_isWord) {a0 : Nat → Nat} {x1 : Nat} {v0 : ToksV}  {r : Bool} : ∀ (n : Nat) (x2 : Int32), Toks_isWord_28 x1 v0 n x2 = some r → WW E K 0 0 (QQ E K (fun rv g => rv = some (.int (b2i r)) ∧ g = [wToks E a0 v0]) 0 0) 28 [(0, .ref (a0 0)), (1, .ref (eK E x1)), (2, .int x2)] [] [wToks E a0 v0] := by
  intro n
  induction n with
  | zero =>
    intro x2 hf
    simp [Toks_isWord_28] at hf
  | succ n ih =>
    intro x2 hf
    rw [Toks_isWord_28] at hf
    refine ww_iload_n C dX7_isWord_28 rfl 2 rfl ?_
    refine ww_aload_n C dX7_isWord_29 rfl 1 rfl ?_
    obtain ⟨g_4, hf⟩ := gdE hf
    refine ww_strlen C g_4 gX7_isWord_J0_length_8abf5 (by decide) (by decide) ⟨by decide, by decide⟩ (Nat.le_of_ble_eq_true rfl) dX7_isWord_30 ?_
    refine ww_icmp_ge (tgt := 84) C dX7_isWord_33 (by decide) (fun c_5 => ?_) (fun c_5 => ?_)
    · replace hf := ifT c_5 hf
      refine ww_iconst (v := 1) C dX7_isWord_84 (by decide) ?_
      obtain rfl := Option.some.inj hf
      exact ww_zret C (nar_b true) ⟨rfl, rfl⟩ dX7_isWord_85
    · replace hf := ifF c_5 hf
      refine ww_aload_n C dX7_isWord_36 rfl 0 rfl ?_
      refine ww_get C clOK7 in_X7_isWord_X7 (w := wToks E a0 v0) (fs := fsToks a0 v0) (v := .int (Toks_from v0)) 0 0 2 rfl q_Toks (by decide) (by decide +kernel) g_Toks_from dX7_isWord_37 ?_
      refine ww_iload_n C dX7_isWord_40 rfl 2 rfl ?_
      refine ww_iadd C dX7_isWord_41 ?_
      refine ww_if_lt (tgt := 76) C dX7_isWord_42 (by decide) (fun c_6 => ?_) (fun c_6 => ?_)
      · replace hf := ifT c_6 hf
        refine ww_iconst (v := 0) C dX7_isWord_76 (by decide) ?_
        obtain rfl := Option.some.inj hf
        exact ww_zret C (nar_b false) ⟨rfl, rfl⟩ dX7_isWord_77
      · replace hf := ifF c_6 hf
        refine ww_aload_n C dX7_isWord_45 rfl 0 rfl ?_
        refine ww_get C clOK7 in_X7_isWord_X7 (w := wToks E a0 v0) (fs := fsToks a0 v0) (v := .int (Toks_from v0)) 0 0 2 rfl q_Toks (by decide) (by decide +kernel) g_Toks_from dX7_isWord_46 ?_
        refine ww_iload_n C dX7_isWord_49 rfl 2 rfl ?_
        refine ww_iadd C dX7_isWord_50 ?_
        refine ww_sipush (v := 600) C dX7_isWord_51 (by decide) ?_
        refine ww_icmp_ge (tgt := 76) C dX7_isWord_54 (by decide) (fun c_7 => ?_) (fun c_7 => ?_)
        · replace hf := ifT c_7 hf
          refine ww_iconst (v := 0) C dX7_isWord_76 (by decide) ?_
          obtain rfl := Option.some.inj hf
          exact ww_zret C (nar_b false) ⟨rfl, rfl⟩ dX7_isWord_77
        · replace hf := ifF c_7 hf
          refine ww_aload_n C dX7_isWord_57 rfl 0 rfl ?_
          refine ww_get C clOK7 in_X7_isWord_X7 (w := wToks E a0 v0) (fs := fsToks a0 v0) (v := .ref (a0 1)) 0 0 0 rfl q_Toks (by decide) (by decide +kernel) g_Toks_bytes dX7_isWord_58 ?_
          refine ww_aload_n C dX7_isWord_61 rfl 0 rfl ?_
          refine ww_get C clOK7 in_X7_isWord_X7 (w := wToks E a0 v0) (fs := fsToks a0 v0) (v := .int (Toks_from v0)) 0 0 2 rfl q_Toks (by decide) (by decide +kernel) g_Toks_from dX7_isWord_62 ?_
          refine ww_iload_n C dX7_isWord_65 rfl 2 rfl ?_
          refine ww_iadd C dX7_isWord_66 ?_
          obtain ⟨g_8, hf⟩ := gdE hf
          refine ww_iald C (f := Toks_bytes v0) (w := wToks E a0 v0) 0 1 rfl c_Toks_bytes (inB_vp g_8) dX7_isWord_67 ?_
          refine ww_aload_n C dX7_isWord_68 rfl 1 rfl ?_
          refine ww_iload_n C dX7_isWord_69 rfl 2 rfl ?_
          obtain ⟨g_9, hf⟩ := gdE hf
          refine ww_strchar C g_4 g_9 gX7_isWord_J0_charAt_5068e (by decide) (by decide) ⟨by decide, by decide⟩ (Nat.le_of_ble_eq_true rfl) dX7_isWord_70 ?_
          refine ww_icmp_eq (tgt := 78) C dX7_isWord_73 (by decide) (fun c_10 => ?_) (fun c_10 => ?_)
          · replace hf := ifT c_10 hf
            obtain ⟨x2_78, e_x2_78⟩ : ∃ y : Int32, y = x2 + 1 := ⟨_, rfl⟩
            replace hf := ltE e_x2_78 hf
            refine ww_iinc (v := x2_78) (lv' := [(2, .int x2_78), (0, .ref (a0 0)), (1, .ref (eK E x1))]) C dX7_isWord_78 2 rfl (by rw [e_x2_78]; rfl) (by decide) rfl ?_
            refine ww_goto (tgt := 28) C dX7_isWord_81 (by decide) ?_
            refine ww_sub C (lv' := [(0, .ref (a0 0)), (1, .ref (eK E x1)), (2, .int x2_78)]) [1, 2, 0] rfl ?_
            exact ih _ hf
          · replace hf := ifF c_10 hf
            refine ww_iconst (v := 0) C dX7_isWord_76 (by decide) ?_
            obtain rfl := Option.some.inj hf
            exact ww_zret C (nar_b false) ⟨rfl, rfl⟩ dX7_isWord_77

set_option maxHeartbeats 4000000 in
set_option maxRecDepth 100000 in
theorem c_X7_isWord {E : Ex} {a0 : Nat → Nat} {x1 : Nat} {v0 : ToksV} {r : Bool} (hf : Toks_isWord x1 v0 = some r) : Ct E yX7_isWord wsX7_isWord rmX7_isWord [.ref (a0 0), .ref (eK E x1)] [wToks E a0 v0] (fun rv g => rv = some (.int (b2i r)) ∧ g = [wToks E a0 v0]) := by
  refine ct_of (own := RX7) (by decide +kernel) rfl rfl (Nat.le_of_ble_eq_true rfl) (fun K C => ?_)
  refine ww_sub C (lv' := [(0, .ref (a0 0)), (1, .ref (eK E x1))]) [0, 1] rfl ?_
  rw [Toks_isWord] at hf
  refine ww_aload_n C dX7_isWord_0 rfl 0 rfl ?_
  refine ww_get C clOK7 in_X7_isWord_X7 (w := wToks E a0 v0) (fs := fsToks a0 v0) (v := .int (Toks_kind v0)) 0 0 6 rfl q_Toks (by decide) (by decide +kernel) g_Toks_kind dX7_isWord_1 ?_
  refine ww_iconst (v := 1) C dX7_isWord_4 (by decide) ?_
  refine ww_icmp_ne (tgt := 24) C dX7_isWord_5 (by decide) (fun c_1 => ?_) (fun c_1 => ?_)
  · replace hf := ifF c_1 hf
    refine ww_iconst (v := 0) C dX7_isWord_24 (by decide) ?_
    obtain rfl := Option.some.inj hf
    exact ww_zret C (nar_b false) ⟨rfl, rfl⟩ dX7_isWord_25
  · replace hf := ifT c_1 hf
    refine ww_aload_n C dX7_isWord_8 rfl 0 rfl ?_
    refine ww_get C clOK7 in_X7_isWord_X7 (w := wToks E a0 v0) (fs := fsToks a0 v0) (v := .int (Toks_to v0)) 0 0 4 rfl q_Toks (by decide) (by decide +kernel) g_Toks_to dX7_isWord_9 ?_
    refine ww_aload_n C dX7_isWord_12 rfl 0 rfl ?_
    refine ww_get C clOK7 in_X7_isWord_X7 (w := wToks E a0 v0) (fs := fsToks a0 v0) (v := .int (Toks_from v0)) 0 0 2 rfl q_Toks (by decide) (by decide +kernel) g_Toks_from dX7_isWord_13 ?_
    refine ww_isub C dX7_isWord_16 ?_
    refine ww_aload_n C dX7_isWord_17 rfl 1 rfl ?_
    obtain ⟨g_2, hf⟩ := gdE hf
    refine ww_strlen C g_2 gX7_isWord_J0_length_8abf5 (by decide) (by decide) ⟨by decide, by decide⟩ (Nat.le_of_ble_eq_true rfl) dX7_isWord_18 ?_
    refine ww_icmp_eq (tgt := 26) C dX7_isWord_21 (by decide) (fun c_3 => ?_) (fun c_3 => ?_)
    · replace hf := ifT c_3 hf
      refine ww_iconst (v := 0) C dX7_isWord_26 (by decide) ?_
      refine ww_istore_n (lv' := [(2, .int 0), (0, .ref (a0 0)), (1, .ref (eK E x1))]) C dX7_isWord_27 rfl (by decide) rfl ?_
      refine ww_sub C (lv' := [(0, .ref (a0 0)), (1, .ref (eK E x1)), (2, .int 0)]) [1, 2, 0] rfl ?_
      exact w_X7_isWord_28 C FU _ hf
    · replace hf := ifF c_3 hf
      refine ww_iconst (v := 0) C dX7_isWord_24 (by decide) ?_
      obtain rfl := Option.some.inj hf
      exact ww_zret C (nar_b false) ⟨rfl, rfl⟩ dX7_isWord_25

theorem yk_X7_isWord : yX7_isWord.cls = RX7 ∧ yX7_isWord.cls ≠ "java/lang/invoke/MethodHandle" ∧ yX7_isWord.cls ≠ "java/lang/invoke/VarHandle" ∧ (parseMethodDescriptor yX7_isWord.desc).map (fun d => d.parameters.length) = some 1 := by decide +kernel
