abbrev rmL_all : Room := { frames := 6, cells := 0, slots := 0, locals := 131 }
set_option maxHeartbeats 4000000 in
set_option maxRecDepth 100000 in
theorem w_L_all_168 {E : Ex} {K : Kx} (C : Cx E K cL_all 5 (some .long) RL wsL_all rmL_all) {a0 : Nat → Nat} {a1 : Nat → Nat} {a2 : Nat → Nat} {h0_1 h0_2 h0_4 h0_5 h0_6 h0_7 h0_8 h0_9 : Nat} {v0 : GWV} {v1 : HouseV} {x3 : Int32} {k126 : Int64 → Int32 → SightV → Option (Int64 × SightV)} {r : (Int64 × SightV)} (hk126 : ∀  (x1 : Int64) (x3 : Int32) (v2 : SightV), k126 x1 x3 v2 = some r → WW E K 0 0 (QQ E K (fun rv g => rv = some (.long r.1) ∧ g = [wGW E a0 (rf10 (a1 0) h0_1 h0_2 (a2 0) h0_4 h0_5 h0_6 h0_7 h0_8 h0_9) v0, wHouse E a1 v1, wSight E a2 r.2]) 0 0) 126 [(0, .ref (a0 0)), (1, .long x1), (3, .int x3)] [] [wGW E a0 (rf10 (a1 0) h0_1 h0_2 (a2 0) h0_4 h0_5 h0_6 h0_7 h0_8 h0_9) v0, wHouse E a1 v1, wSight E a2 v2]) : ∀ (n : Nat)  (x1 : Int64) (x4 : Int32) (v2 : SightV), L_all_168 v0 v1 x3 k126 n x1 x4 v2 = some r → WW E K 0 0 (QQ E K (fun rv g => rv = some (.long r.1) ∧ g = [wGW E a0 (rf10 (a1 0) h0_1 h0_2 (a2 0) h0_4 h0_5 h0_6 h0_7 h0_8 h0_9) v0, wHouse E a1 v1, wSight E a2 r.2]) 0 0) 168 [(0, .ref (a0 0)), (1, .long x1), (3, .int x3), (4, .int x4)] [] [wGW E a0 (rf10 (a1 0) h0_1 h0_2 (a2 0) h0_4 h0_5 h0_6 h0_7 h0_8 h0_9) v0, wHouse E a1 v1, wSight E a2 v2] := by
  intro n
  induction n with
  | zero =>
    intro  x1 x4 v2 hf
    simp [L_all_168] at hf
  | succ n ih =>
    intro  x1 x4 v2 hf
    rw [L_all_168] at hf
    refine ww_iload C dL_all_168 3 rfl ?_
    refine ww_aload_n C dL_all_170 rfl 0 rfl ?_
    refine ww_iload_n C dL_all_171 rfl 2 rfl ?_
    refine ww_iconst (v := 0) C dL_all_172 (by decide) ?_
    obtain ⟨p173, hp173, hf⟩ := bdE hf
    refine ww_callV C (As := [.int x3, .int 0]) (st := [.int x4]) (gr := [wSight E a2 v2]) (c_X8_guard (E := E) (a0 := a0) (h0_1 := h0_1) (h0_2 := h0_2) (h0_3 := a2 0) (h0_4 := h0_4) (h0_5 := h0_5) (h0_6 := h0_6) (h0_7 := h0_7) (h0_8 := h0_8) (h0_9 := h0_9) (a1 := a1) hp173) gL_all_X8_guard rfl yk_X8_guard ⟨by decide, Nat.le_of_ble_eq_true rfl⟩ ⟨by decide, by decide⟩ clOK8 0 0 rfl rfl [0, 1] [2] 3 rfl (by decide) rfl rfl (Nat.le_of_ble_eq_true rfl) dL_all_173 ?_
    rintro _ _ ⟨rfl, rfl⟩
    refine ww_perm (gs' := [wGW E a0 (rf10 (a1 0) h0_1 h0_2 (a2 0) h0_4 h0_5 h0_6 h0_7 h0_8 h0_9) v0, wHouse E a1 v1, wSight E a2 v2]) [0, 1, 2] 3 rfl (by decide) rfl ?_
    refine ww_icmp_ge (tgt := 200) C dL_all_176 (by decide) (fun c_8 => ?_) (fun c_8 => ?_)
    · replace hf := ifT c_8 hf
      obtain ⟨x3_200, e_x3_200⟩ : ∃ y : Int32, y = x3 + 1 := ⟨_, rfl⟩
      replace hf := ltE e_x3_200 hf
      refine ww_iinc (v := x3_200) (lv' := [(3, .int x3_200), (0, .ref (a0 0)), (1, .long x1), (4, .int x4)]) C dL_all_200 2 rfl (by rw [e_x3_200]; rfl) (by decide) rfl ?_
      refine ww_goto (tgt := 126) C dL_all_203 (by decide) ?_
      refine ww_sub C (lv' := [(0, .ref (a0 0)), (1, .long x1), (3, .int x3_200)]) [1, 2, 0] rfl ?_
      exact hk126 _ _ _ hf
    · replace hf := ifF c_8 hf
      refine ww_ldc2 (v := 31) C (by decide +kernel) dL_all_179 ?_
      refine ww_lload_n C dL_all_182 rfl 1 rfl ?_
      refine ww_lmul C dL_all_183 ?_
      refine ww_aload_n C dL_all_184 rfl 0 rfl ?_
      refine ww_iload_n C dL_all_185 rfl 2 rfl ?_
      refine ww_iload C dL_all_186 3 rfl ?_
      obtain ⟨p188, hp188, hf⟩ := bdE hf
      refine ww_callV C (As := [.int x3, .int x4]) (st := [.long (31 * x1)]) (gr := [wSight E a2 v2]) (c_X8_walk (E := E) (a0 := a0) (h0_1 := h0_1) (h0_2 := h0_2) (h0_3 := a2 0) (h0_4 := h0_4) (h0_5 := h0_5) (h0_6 := h0_6) (h0_7 := h0_7) (h0_8 := h0_8) (h0_9 := h0_9) (a1 := a1) hp188) gL_all_X8_walk rfl yk_X8_walk ⟨by decide, Nat.le_of_ble_eq_true rfl⟩ ⟨by decide, by decide⟩ clOK8 0 0 rfl rfl [0, 1] [2] 3 rfl (by decide) rfl rfl (Nat.le_of_ble_eq_true rfl) dL_all_188 ?_
      rintro _ _ ⟨rfl, rfl⟩
      refine ww_perm (gs' := [wGW E a0 (rf10 (a1 0) h0_1 h0_2 (a2 0) h0_4 h0_5 h0_6 h0_7 h0_8 h0_9) v0, wHouse E a1 v1, wSight E a2 v2]) [0, 1, 2] 3 rfl (by decide) rfl ?_
      refine ww_i2l C dL_all_191 ?_
      refine ww_ladd C dL_all_192 ?_
      refine ww_lstore_n (lv' := [(1, .long ((31 * x1) + (Int32.toInt64 p188))), (0, .ref (a0 0)), (3, .int x3), (4, .int x4)]) C dL_all_193 rfl (by decide) rfl ?_
      obtain ⟨x4_194, e_x4_194⟩ : ∃ y : Int32, y = x4 + 1 := ⟨_, rfl⟩
      replace hf := ltE e_x4_194 hf
      refine ww_iinc (v := x4_194) (lv' := [(4, .int x4_194), (1, .long ((31 * x1) + (Int32.toInt64 p188))), (0, .ref (a0 0)), (3, .int x3)]) C dL_all_194 3 rfl (by rw [e_x4_194]; rfl) (by decide) rfl ?_
      refine ww_goto (tgt := 168) C dL_all_197 (by decide) ?_
      refine ww_sub C (lv' := [(0, .ref (a0 0)), (1, .long ((31 * x1) + (Int32.toInt64 p188))), (3, .int x3), (4, .int x4_194)]) [2, 1, 3, 0] rfl ?_
      exact ih _ _ _ hf

set_option maxHeartbeats 4000000 in
set_option maxRecDepth 100000 in
theorem w_L_all_138 {E : Ex} {K : Kx} (C : Cx E K cL_all 5 (some .long) RL wsL_all rmL_all) {a0 : Nat → Nat} {a1 : Nat → Nat} {a2 : Nat → Nat} {h0_1 h0_2 h0_4 h0_5 h0_6 h0_7 h0_8 h0_9 : Nat} {v0 : GWV} {v1 : HouseV} {x3 : Int32} {k126 : Int64 → Int32 → SightV → Option (Int64 × SightV)} {r : (Int64 × SightV)} (hk126 : ∀  (x1 : Int64) (x3 : Int32) (v2 : SightV), k126 x1 x3 v2 = some r → WW E K 0 0 (QQ E K (fun rv g => rv = some (.long r.1) ∧ g = [wGW E a0 (rf10 (a1 0) h0_1 h0_2 (a2 0) h0_4 h0_5 h0_6 h0_7 h0_8 h0_9) v0, wHouse E a1 v1, wSight E a2 r.2]) 0 0) 126 [(0, .ref (a0 0)), (1, .long x1), (3, .int x3)] [] [wGW E a0 (rf10 (a1 0) h0_1 h0_2 (a2 0) h0_4 h0_5 h0_6 h0_7 h0_8 h0_9) v0, wHouse E a1 v1, wSight E a2 v2]) : ∀ (n : Nat)  (x1 : Int64) (x4 : Int32) (v2 : SightV), L_all_138 v0 v1 x3 k126 n x1 x4 v2 = some r → WW E K 0 0 (QQ E K (fun rv g => rv = some (.long r.1) ∧ g = [wGW E a0 (rf10 (a1 0) h0_1 h0_2 (a2 0) h0_4 h0_5 h0_6 h0_7 h0_8 h0_9) v0, wHouse E a1 v1, wSight E a2 r.2]) 0 0) 138 [(0, .ref (a0 0)), (1, .long x1), (3, .int x3), (4, .int x4)] [] [wGW E a0 (rf10 (a1 0) h0_1 h0_2 (a2 0) h0_4 h0_5 h0_6 h0_7 h0_8 h0_9) v0, wHouse E a1 v1, wSight E a2 v2] := by
  intro n
  induction n with
  | zero =>
    intro  x1 x4 v2 hf
    simp [L_all_138] at hf
  | succ n ih =>
    intro  x1 x4 v2 hf
    rw [L_all_138] at hf
    refine ww_iload C dL_all_138 3 rfl ?_
    refine ww_iconst (v := 4) C dL_all_140 (by decide) ?_
    refine ww_icmp_ge (tgt := 165) C dL_all_141 (by decide) (fun c_7 => ?_) (fun c_7 => ?_)
    · replace hf := ifT c_7 hf
      refine ww_iconst (v := 0) C dL_all_165 (by decide) ?_
      refine ww_istore (lv' := [(4, .int 0), (0, .ref (a0 0)), (1, .long x1), (3, .int x3)]) C dL_all_166 (by decide) rfl ?_
      refine ww_sub C (lv' := [(0, .ref (a0 0)), (1, .long x1), (3, .int x3), (4, .int 0)]) [1, 2, 3, 0] rfl ?_
      exact w_L_all_168 C (k126 := k126) hk126 FU _ _ _ hf
    · replace hf := ifF c_7 hf
      refine ww_ldc2 (v := 31) C (by decide +kernel) dL_all_144 ?_
      refine ww_lload_n C dL_all_147 rfl 1 rfl ?_
      refine ww_lmul C dL_all_148 ?_
      refine ww_aload_n C dL_all_149 rfl 0 rfl ?_
      refine ww_iload_n C dL_all_150 rfl 2 rfl ?_
      refine ww_iload C dL_all_151 3 rfl ?_
      obtain ⟨p153, hp153, hf⟩ := bdE hf
      refine ww_callV C (As := [.int x3, .int x4]) (st := [.long (31 * x1)]) (gr := [wSight E a2 v2]) (c_X8_guard (E := E) (a0 := a0) (h0_1 := h0_1) (h0_2 := h0_2) (h0_3 := a2 0) (h0_4 := h0_4) (h0_5 := h0_5) (h0_6 := h0_6) (h0_7 := h0_7) (h0_8 := h0_8) (h0_9 := h0_9) (a1 := a1) hp153) gL_all_X8_guard rfl yk_X8_guard ⟨by decide, Nat.le_of_ble_eq_true rfl⟩ ⟨by decide, by decide⟩ clOK8 0 0 rfl rfl [0, 1] [2] 3 rfl (by decide) rfl rfl (Nat.le_of_ble_eq_true rfl) dL_all_153 ?_
      rintro _ _ ⟨rfl, rfl⟩
      refine ww_perm (gs' := [wGW E a0 (rf10 (a1 0) h0_1 h0_2 (a2 0) h0_4 h0_5 h0_6 h0_7 h0_8 h0_9) v0, wHouse E a1 v1, wSight E a2 v2]) [0, 1, 2] 3 rfl (by decide) rfl ?_
      refine ww_i2l C dL_all_156 ?_
      refine ww_ladd C dL_all_157 ?_
      refine ww_lstore_n (lv' := [(1, .long ((31 * x1) + (Int32.toInt64 p153))), (0, .ref (a0 0)), (3, .int x3), (4, .int x4)]) C dL_all_158 rfl (by decide) rfl ?_
      obtain ⟨x4_159, e_x4_159⟩ : ∃ y : Int32, y = x4 + 1 := ⟨_, rfl⟩
      replace hf := ltE e_x4_159 hf
      refine ww_iinc (v := x4_159) (lv' := [(4, .int x4_159), (1, .long ((31 * x1) + (Int32.toInt64 p153))), (0, .ref (a0 0)), (3, .int x3)]) C dL_all_159 3 rfl (by rw [e_x4_159]; rfl) (by decide) rfl ?_
      refine ww_goto (tgt := 138) C dL_all_162 (by decide) ?_
      refine ww_sub C (lv' := [(0, .ref (a0 0)), (1, .long ((31 * x1) + (Int32.toInt64 p153))), (3, .int x3), (4, .int x4_159)]) [2, 1, 3, 0] rfl ?_
      exact ih _ _ _ hf

set_option maxHeartbeats 4000000 in
set_option maxRecDepth 100000 in
theorem w_L_all_126 {E : Ex} {K : Kx} (C : Cx E K cL_all 5 (some .long) RL wsL_all rmL_all) {a0 : Nat → Nat} {a1 : Nat → Nat} {a2 : Nat → Nat} {h0_1 h0_2 h0_4 h0_5 h0_6 h0_7 h0_8 h0_9 : Nat} {v0 : GWV} {v1 : HouseV}  {r : (Int64 × SightV)} : ∀ (n : Nat)  (x1 : Int64) (x3 : Int32) (v2 : SightV), L_all_126 v0 v1 n x1 x3 v2 = some r → WW E K 0 0 (QQ E K (fun rv g => rv = some (.long r.1) ∧ g = [wGW E a0 (rf10 (a1 0) h0_1 h0_2 (a2 0) h0_4 h0_5 h0_6 h0_7 h0_8 h0_9) v0, wHouse E a1 v1, wSight E a2 r.2]) 0 0) 126 [(0, .ref (a0 0)), (1, .long x1), (3, .int x3)] [] [wGW E a0 (rf10 (a1 0) h0_1 h0_2 (a2 0) h0_4 h0_5 h0_6 h0_7 h0_8 h0_9) v0, wHouse E a1 v1, wSight E a2 v2] := by
  intro n
  induction n with
  | zero =>
    intro  x1 x3 v2 hf
    simp [L_all_126] at hf
  | succ n ih =>
    intro  x1 x3 v2 hf
    rw [L_all_126] at hf
    refine ww_iload_n C dL_all_126 rfl 2 rfl ?_
    refine ww_aload_n C dL_all_127 rfl 0 rfl ?_
    refine ww_iconst (v := 2) C dL_all_128 (by decide) ?_
    obtain ⟨p129, hp129, hf⟩ := bdE hf
    refine ww_callV C (As := [.int 2]) (st := [.int x3]) (gr := []) (c_X8_size (E := E) (a0 := a0) (h0_1 := h0_1) (h0_2 := h0_2) (h0_4 := h0_4) (h0_5 := h0_5) (h0_6 := h0_6) (h0_7 := h0_7) (h0_8 := h0_8) (h0_9 := h0_9) (a1 := a1) (a2 := a2) hp129) gL_all_X8_size rfl yk_X8_size ⟨by decide, Nat.le_of_ble_eq_true rfl⟩ ⟨by decide, by decide⟩ clOK8 0 0 rfl rfl [0, 1, 2] [] 3 rfl (by decide) rfl rfl (Nat.le_of_ble_eq_true rfl) dL_all_129 ?_
    rintro _ _ ⟨rfl, rfl⟩
    refine ww_perm (gs' := [wGW E a0 (rf10 (a1 0) h0_1 h0_2 (a2 0) h0_4 h0_5 h0_6 h0_7 h0_8 h0_9) v0, wHouse E a1 v1, wSight E a2 p129.2]) [0, 1, 2] 3 rfl (by decide) rfl ?_
    refine ww_icmp_ge (tgt := 206) C dL_all_132 (by decide) (fun c_6 => ?_) (fun c_6 => ?_)
    · replace hf := ifT c_6 hf
      refine ww_lload_n C dL_all_206 rfl 1 rfl ?_
      obtain rfl := Option.some.inj hf
      exact ww_lret C ⟨rfl, rfl⟩ dL_all_207
    · replace hf := ifF c_6 hf
      refine ww_iconst (v := 0) C dL_all_135 (by decide) ?_
      refine ww_istore (lv' := [(4, .int 0), (0, .ref (a0 0)), (1, .long x1), (3, .int x3)]) C dL_all_136 (by decide) rfl ?_
      refine ww_sub C (lv' := [(0, .ref (a0 0)), (1, .long x1), (3, .int x3), (4, .int 0)]) [1, 2, 3, 0] rfl ?_
      exact w_L_all_138 C (k126 := (fun (x1 : Int64) (x3 : Int32) (v2 : SightV) => L_all_126 v0 v1 n x1 x3 v2)) ih FU _ _ _ hf

set_option maxHeartbeats 4000000 in
set_option maxRecDepth 100000 in
theorem w_L_all_43 {E : Ex} {K : Kx} (C : Cx E K cL_all 5 (some .long) RL wsL_all rmL_all) {a0 : Nat → Nat} {a1 : Nat → Nat} {a2 : Nat → Nat} {h0_1 h0_2 h0_4 h0_5 h0_6 h0_7 h0_8 h0_9 : Nat} {v0 : GWV} {v1 : HouseV} {x3 : Int32} {k31 : Int64 → Int32 → SightV → Option (Int64 × SightV)} {r : (Int64 × SightV)} (hk31 : ∀  (x1 : Int64) (x3 : Int32) (v2 : SightV), k31 x1 x3 v2 = some r → WW E K 0 0 (QQ E K (fun rv g => rv = some (.long r.1) ∧ g = [wGW E a0 (rf10 (a1 0) h0_1 h0_2 (a2 0) h0_4 h0_5 h0_6 h0_7 h0_8 h0_9) v0, wHouse E a1 v1, wSight E a2 r.2]) 0 0) 31 [(0, .ref (a0 0)), (1, .long x1), (3, .int x3)] [] [wGW E a0 (rf10 (a1 0) h0_1 h0_2 (a2 0) h0_4 h0_5 h0_6 h0_7 h0_8 h0_9) v0, wHouse E a1 v1, wSight E a2 v2]) : ∀ (n : Nat)  (x1 : Int64) (x4 : Int32) (v2 : SightV), L_all_43 v0 v1 x3 k31 n x1 x4 v2 = some r → WW E K 0 0 (QQ E K (fun rv g => rv = some (.long r.1) ∧ g = [wGW E a0 (rf10 (a1 0) h0_1 h0_2 (a2 0) h0_4 h0_5 h0_6 h0_7 h0_8 h0_9) v0, wHouse E a1 v1, wSight E a2 r.2]) 0 0) 43 [(0, .ref (a0 0)), (1, .long x1), (3, .int x3), (4, .int x4)] [] [wGW E a0 (rf10 (a1 0) h0_1 h0_2 (a2 0) h0_4 h0_5 h0_6 h0_7 h0_8 h0_9) v0, wHouse E a1 v1, wSight E a2 v2] := by
  intro n
  induction n with
  | zero =>
    intro  x1 x4 v2 hf
    simp [L_all_43] at hf
  | succ n ih =>
    intro  x1 x4 v2 hf
    rw [L_all_43] at hf
    refine ww_iload C dL_all_43 3 rfl ?_
    refine ww_bipush (v := 8) C dL_all_45 (by decide) ?_
    refine ww_icmp_ge (tgt := 71) C dL_all_47 (by decide) (fun c_3 => ?_) (fun c_3 => ?_)
    · replace hf := ifT c_3 hf
      obtain ⟨x3_71, e_x3_71⟩ : ∃ y : Int32, y = x3 + 1 := ⟨_, rfl⟩
      replace hf := ltE e_x3_71 hf
      refine ww_iinc (v := x3_71) (lv' := [(3, .int x3_71), (0, .ref (a0 0)), (1, .long x1), (4, .int x4)]) C dL_all_71 2 rfl (by rw [e_x3_71]; rfl) (by decide) rfl ?_
      refine ww_goto (tgt := 31) C dL_all_74 (by decide) ?_
      refine ww_sub C (lv' := [(0, .ref (a0 0)), (1, .long x1), (3, .int x3_71)]) [1, 2, 0] rfl ?_
      exact hk31 _ _ _ hf
    · replace hf := ifF c_3 hf
      refine ww_ldc2 (v := 31) C (by decide +kernel) dL_all_50 ?_
      refine ww_lload_n C dL_all_53 rfl 1 rfl ?_
      refine ww_lmul C dL_all_54 ?_
      refine ww_aload_n C dL_all_55 rfl 0 rfl ?_
      refine ww_iload_n C dL_all_56 rfl 2 rfl ?_
      refine ww_iload C dL_all_57 3 rfl ?_
      obtain ⟨p59, hp59, hf⟩ := bdE hf
      refine ww_callV C (As := [.int x3, .int x4]) (st := [.long (31 * x1)]) (gr := []) (c_X8_room (E := E) (a0 := a0) (h0_1 := h0_1) (h0_2 := h0_2) (h0_4 := h0_4) (h0_5 := h0_5) (h0_6 := h0_6) (h0_7 := h0_7) (h0_8 := h0_8) (h0_9 := h0_9) (a1 := a1) (a2 := a2) hp59) gL_all_X8_room rfl yk_X8_room ⟨by decide, Nat.le_of_ble_eq_true rfl⟩ ⟨by decide, by decide⟩ clOK8 0 0 rfl rfl [0, 1, 2] [] 3 rfl (by decide) rfl rfl (Nat.le_of_ble_eq_true rfl) dL_all_59 ?_
      rintro _ _ ⟨rfl, rfl⟩
      refine ww_perm (gs' := [wGW E a0 (rf10 (a1 0) h0_1 h0_2 (a2 0) h0_4 h0_5 h0_6 h0_7 h0_8 h0_9) v0, wHouse E a1 v1, wSight E a2 p59.2]) [0, 1, 2] 3 rfl (by decide) rfl ?_
      refine ww_i2l C dL_all_62 ?_
      refine ww_ladd C dL_all_63 ?_
      refine ww_lstore_n (lv' := [(1, .long ((31 * x1) + (Int32.toInt64 p59.1))), (0, .ref (a0 0)), (3, .int x3), (4, .int x4)]) C dL_all_64 rfl (by decide) rfl ?_
      obtain ⟨x4_65, e_x4_65⟩ : ∃ y : Int32, y = x4 + 1 := ⟨_, rfl⟩
      replace hf := ltE e_x4_65 hf
      refine ww_iinc (v := x4_65) (lv' := [(4, .int x4_65), (1, .long ((31 * x1) + (Int32.toInt64 p59.1))), (0, .ref (a0 0)), (3, .int x3)]) C dL_all_65 3 rfl (by rw [e_x4_65]; rfl) (by decide) rfl ?_
      refine ww_goto (tgt := 43) C dL_all_68 (by decide) ?_
      refine ww_sub C (lv' := [(0, .ref (a0 0)), (1, .long ((31 * x1) + (Int32.toInt64 p59.1))), (3, .int x3), (4, .int x4_65)]) [2, 1, 3, 0] rfl ?_
      exact ih _ _ _ hf

set_option maxHeartbeats 4000000 in
set_option maxRecDepth 100000 in
theorem w_L_all_91 {E : Ex} {K : Kx} (C : Cx E K cL_all 5 (some .long) RL wsL_all rmL_all) {a0 : Nat → Nat} {a1 : Nat → Nat} {a2 : Nat → Nat} {h0_1 h0_2 h0_4 h0_5 h0_6 h0_7 h0_8 h0_9 : Nat} {v0 : GWV} {v1 : HouseV} {x3 : Int32} {k79 : Int64 → Int32 → SightV → Option (Int64 × SightV)} {r : (Int64 × SightV)} (hk79 : ∀  (x1 : Int64) (x3 : Int32) (v2 : SightV), k79 x1 x3 v2 = some r → WW E K 0 0 (QQ E K (fun rv g => rv = some (.long r.1) ∧ g = [wGW E a0 (rf10 (a1 0) h0_1 h0_2 (a2 0) h0_4 h0_5 h0_6 h0_7 h0_8 h0_9) v0, wHouse E a1 v1, wSight E a2 r.2]) 0 0) 79 [(0, .ref (a0 0)), (1, .long x1), (3, .int x3)] [] [wGW E a0 (rf10 (a1 0) h0_1 h0_2 (a2 0) h0_4 h0_5 h0_6 h0_7 h0_8 h0_9) v0, wHouse E a1 v1, wSight E a2 v2]) : ∀ (n : Nat)  (x1 : Int64) (x4 : Int32) (v2 : SightV), L_all_91 v0 v1 x3 k79 n x1 x4 v2 = some r → WW E K 0 0 (QQ E K (fun rv g => rv = some (.long r.1) ∧ g = [wGW E a0 (rf10 (a1 0) h0_1 h0_2 (a2 0) h0_4 h0_5 h0_6 h0_7 h0_8 h0_9) v0, wHouse E a1 v1, wSight E a2 r.2]) 0 0) 91 [(0, .ref (a0 0)), (1, .long x1), (3, .int x3), (4, .int x4)] [] [wGW E a0 (rf10 (a1 0) h0_1 h0_2 (a2 0) h0_4 h0_5 h0_6 h0_7 h0_8 h0_9) v0, wHouse E a1 v1, wSight E a2 v2] := by
  intro n
  induction n with
  | zero =>
    intro  x1 x4 v2 hf
    simp [L_all_91] at hf
  | succ n ih =>
    intro  x1 x4 v2 hf
    rw [L_all_91] at hf
    refine ww_iload C dL_all_91 3 rfl ?_
    refine ww_iconst (v := 4) C dL_all_93 (by decide) ?_
    refine ww_icmp_ge (tgt := 118) C dL_all_94 (by decide) (fun c_5 => ?_) (fun c_5 => ?_)
    · replace hf := ifT c_5 hf
      obtain ⟨x3_118, e_x3_118⟩ : ∃ y : Int32, y = x3 + 1 := ⟨_, rfl⟩
      replace hf := ltE e_x3_118 hf
      refine ww_iinc (v := x3_118) (lv' := [(3, .int x3_118), (0, .ref (a0 0)), (1, .long x1), (4, .int x4)]) C dL_all_118 2 rfl (by rw [e_x3_118]; rfl) (by decide) rfl ?_
      refine ww_goto (tgt := 79) C dL_all_121 (by decide) ?_
      refine ww_sub C (lv' := [(0, .ref (a0 0)), (1, .long x1), (3, .int x3_118)]) [1, 2, 0] rfl ?_
      exact hk79 _ _ _ hf
    · replace hf := ifF c_5 hf
      refine ww_ldc2 (v := 31) C (by decide +kernel) dL_all_97 ?_
      refine ww_lload_n C dL_all_100 rfl 1 rfl ?_
      refine ww_lmul C dL_all_101 ?_
      refine ww_aload_n C dL_all_102 rfl 0 rfl ?_
      refine ww_iload_n C dL_all_103 rfl 2 rfl ?_
      refine ww_iload C dL_all_104 3 rfl ?_
      obtain ⟨p106, hp106, hf⟩ := bdE hf
      refine ww_callV C (As := [.int x3, .int x4]) (st := [.long (31 * x1)]) (gr := [wSight E a2 v2]) (c_X8_door (E := E) (a0 := a0) (h0_1 := h0_1) (h0_2 := h0_2) (h0_3 := a2 0) (h0_4 := h0_4) (h0_5 := h0_5) (h0_6 := h0_6) (h0_7 := h0_7) (h0_8 := h0_8) (h0_9 := h0_9) (a1 := a1) hp106) gL_all_X8_door rfl yk_X8_door ⟨by decide, Nat.le_of_ble_eq_true rfl⟩ ⟨by decide, by decide⟩ clOK8 0 0 rfl rfl [0, 1] [2] 3 rfl (by decide) rfl rfl (Nat.le_of_ble_eq_true rfl) dL_all_106 ?_
      rintro _ _ ⟨rfl, rfl⟩
      refine ww_perm (gs' := [wGW E a0 (rf10 (a1 0) h0_1 h0_2 (a2 0) h0_4 h0_5 h0_6 h0_7 h0_8 h0_9) v0, wHouse E a1 v1, wSight E a2 v2]) [0, 1, 2] 3 rfl (by decide) rfl ?_
      refine ww_i2l C dL_all_109 ?_
      refine ww_ladd C dL_all_110 ?_
      refine ww_lstore_n (lv' := [(1, .long ((31 * x1) + (Int32.toInt64 p106))), (0, .ref (a0 0)), (3, .int x3), (4, .int x4)]) C dL_all_111 rfl (by decide) rfl ?_
      obtain ⟨x4_112, e_x4_112⟩ : ∃ y : Int32, y = x4 + 1 := ⟨_, rfl⟩
      replace hf := ltE e_x4_112 hf
      refine ww_iinc (v := x4_112) (lv' := [(4, .int x4_112), (1, .long ((31 * x1) + (Int32.toInt64 p106))), (0, .ref (a0 0)), (3, .int x3)]) C dL_all_112 3 rfl (by rw [e_x4_112]; rfl) (by decide) rfl ?_
      refine ww_goto (tgt := 91) C dL_all_115 (by decide) ?_
      refine ww_sub C (lv' := [(0, .ref (a0 0)), (1, .long ((31 * x1) + (Int32.toInt64 p106))), (3, .int x3), (4, .int x4_112)]) [2, 1, 3, 0] rfl ?_
      exact ih _ _ _ hf

set_option maxHeartbeats 4000000 in
set_option maxRecDepth 100000 in
theorem w_L_all_79 {E : Ex} {K : Kx} (C : Cx E K cL_all 5 (some .long) RL wsL_all rmL_all) {a0 : Nat → Nat} {a1 : Nat → Nat} {a2 : Nat → Nat} {h0_1 h0_2 h0_4 h0_5 h0_6 h0_7 h0_8 h0_9 : Nat} {v0 : GWV} {v1 : HouseV}  {r : (Int64 × SightV)} : ∀ (n : Nat)  (x1 : Int64) (x3 : Int32) (v2 : SightV), L_all_79 v0 v1 n x1 x3 v2 = some r → WW E K 0 0 (QQ E K (fun rv g => rv = some (.long r.1) ∧ g = [wGW E a0 (rf10 (a1 0) h0_1 h0_2 (a2 0) h0_4 h0_5 h0_6 h0_7 h0_8 h0_9) v0, wHouse E a1 v1, wSight E a2 r.2]) 0 0) 79 [(0, .ref (a0 0)), (1, .long x1), (3, .int x3)] [] [wGW E a0 (rf10 (a1 0) h0_1 h0_2 (a2 0) h0_4 h0_5 h0_6 h0_7 h0_8 h0_9) v0, wHouse E a1 v1, wSight E a2 v2] := by
  intro n
  induction n with
  | zero =>
    intro  x1 x3 v2 hf
    simp [L_all_79] at hf
  | succ n ih =>
    intro  x1 x3 v2 hf
    rw [L_all_79] at hf
    refine ww_iload_n C dL_all_79 rfl 2 rfl ?_
    refine ww_aload_n C dL_all_80 rfl 0 rfl ?_
    refine ww_iconst (v := 1) C dL_all_81 (by decide) ?_
    obtain ⟨p82, hp82, hf⟩ := bdE hf
    refine ww_callV C (As := [.int 1]) (st := [.int x3]) (gr := []) (c_X8_size (E := E) (a0 := a0) (h0_1 := h0_1) (h0_2 := h0_2) (h0_4 := h0_4) (h0_5 := h0_5) (h0_6 := h0_6) (h0_7 := h0_7) (h0_8 := h0_8) (h0_9 := h0_9) (a1 := a1) (a2 := a2) hp82) gL_all_X8_size rfl yk_X8_size ⟨by decide, Nat.le_of_ble_eq_true rfl⟩ ⟨by decide, by decide⟩ clOK8 0 0 rfl rfl [0, 1, 2] [] 3 rfl (by decide) rfl rfl (Nat.le_of_ble_eq_true rfl) dL_all_82 ?_
    rintro _ _ ⟨rfl, rfl⟩
    refine ww_perm (gs' := [wGW E a0 (rf10 (a1 0) h0_1 h0_2 (a2 0) h0_4 h0_5 h0_6 h0_7 h0_8 h0_9) v0, wHouse E a1 v1, wSight E a2 p82.2]) [0, 1, 2] 3 rfl (by decide) rfl ?_
    refine ww_icmp_ge (tgt := 124) C dL_all_85 (by decide) (fun c_4 => ?_) (fun c_4 => ?_)
    · replace hf := ifT c_4 hf
      refine ww_iconst (v := 0) C dL_all_124 (by decide) ?_
      refine ww_istore_n (lv' := [(3, .int 0), (0, .ref (a0 0)), (1, .long x1)]) C dL_all_125 rfl (by decide) rfl ?_
      refine ww_sub C (lv' := [(0, .ref (a0 0)), (1, .long x1), (3, .int 0)]) [1, 2, 0] rfl ?_
      exact w_L_all_126 C FU _ _ _ hf
    · replace hf := ifF c_4 hf
      refine ww_iconst (v := 0) C dL_all_88 (by decide) ?_
      refine ww_istore (lv' := [(4, .int 0), (0, .ref (a0 0)), (1, .long x1), (3, .int x3)]) C dL_all_89 (by decide) rfl ?_
      refine ww_sub C (lv' := [(0, .ref (a0 0)), (1, .long x1), (3, .int x3), (4, .int 0)]) [1, 2, 3, 0] rfl ?_
      exact w_L_all_91 C (k79 := (fun (x1 : Int64) (x3 : Int32) (v2 : SightV) => L_all_79 v0 v1 n x1 x3 v2)) ih FU _ _ _ hf

set_option maxHeartbeats 4000000 in
set_option maxRecDepth 100000 in
theorem w_L_all_31 {E : Ex} {K : Kx} (C : Cx E K cL_all 5 (some .long) RL wsL_all rmL_all) {a0 : Nat → Nat} {a1 : Nat → Nat} {a2 : Nat → Nat} {h0_1 h0_2 h0_4 h0_5 h0_6 h0_7 h0_8 h0_9 : Nat} {v0 : GWV} {v1 : HouseV}  {r : (Int64 × SightV)} : ∀ (n : Nat)  (x1 : Int64) (x3 : Int32) (v2 : SightV), L_all_31 v0 v1 n x1 x3 v2 = some r → WW E K 0 0 (QQ E K (fun rv g => rv = some (.long r.1) ∧ g = [wGW E a0 (rf10 (a1 0) h0_1 h0_2 (a2 0) h0_4 h0_5 h0_6 h0_7 h0_8 h0_9) v0, wHouse E a1 v1, wSight E a2 r.2]) 0 0) 31 [(0, .ref (a0 0)), (1, .long x1), (3, .int x3)] [] [wGW E a0 (rf10 (a1 0) h0_1 h0_2 (a2 0) h0_4 h0_5 h0_6 h0_7 h0_8 h0_9) v0, wHouse E a1 v1, wSight E a2 v2] := by
  intro n
  induction n with
  | zero =>
    intro  x1 x3 v2 hf
    simp [L_all_31] at hf
  | succ n ih =>
    intro  x1 x3 v2 hf
    rw [L_all_31] at hf
    refine ww_iload_n C dL_all_31 rfl 2 rfl ?_
    refine ww_aload_n C dL_all_32 rfl 0 rfl ?_
    refine ww_iconst (v := 0) C dL_all_33 (by decide) ?_
    obtain ⟨p34, hp34, hf⟩ := bdE hf
    refine ww_callV C (As := [.int 0]) (st := [.int x3]) (gr := []) (c_X8_size (E := E) (a0 := a0) (h0_1 := h0_1) (h0_2 := h0_2) (h0_4 := h0_4) (h0_5 := h0_5) (h0_6 := h0_6) (h0_7 := h0_7) (h0_8 := h0_8) (h0_9 := h0_9) (a1 := a1) (a2 := a2) hp34) gL_all_X8_size rfl yk_X8_size ⟨by decide, Nat.le_of_ble_eq_true rfl⟩ ⟨by decide, by decide⟩ clOK8 0 0 rfl rfl [0, 1, 2] [] 3 rfl (by decide) rfl rfl (Nat.le_of_ble_eq_true rfl) dL_all_34 ?_
    rintro _ _ ⟨rfl, rfl⟩
    refine ww_perm (gs' := [wGW E a0 (rf10 (a1 0) h0_1 h0_2 (a2 0) h0_4 h0_5 h0_6 h0_7 h0_8 h0_9) v0, wHouse E a1 v1, wSight E a2 p34.2]) [0, 1, 2] 3 rfl (by decide) rfl ?_
    refine ww_icmp_ge (tgt := 77) C dL_all_37 (by decide) (fun c_2 => ?_) (fun c_2 => ?_)
    · replace hf := ifT c_2 hf
      refine ww_iconst (v := 0) C dL_all_77 (by decide) ?_
      refine ww_istore_n (lv' := [(3, .int 0), (0, .ref (a0 0)), (1, .long x1)]) C dL_all_78 rfl (by decide) rfl ?_
      refine ww_sub C (lv' := [(0, .ref (a0 0)), (1, .long x1), (3, .int 0)]) [1, 2, 0] rfl ?_
      exact w_L_all_79 C FU _ _ _ hf
    · replace hf := ifF c_2 hf
      refine ww_iconst (v := 0) C dL_all_40 (by decide) ?_
      refine ww_istore (lv' := [(4, .int 0), (0, .ref (a0 0)), (1, .long x1), (3, .int x3)]) C dL_all_41 (by decide) rfl ?_
      refine ww_sub C (lv' := [(0, .ref (a0 0)), (1, .long x1), (3, .int x3), (4, .int 0)]) [1, 2, 3, 0] rfl ?_
      exact w_L_all_43 C (k31 := (fun (x1 : Int64) (x3 : Int32) (v2 : SightV) => L_all_31 v0 v1 n x1 x3 v2)) ih FU _ _ _ hf

set_option maxHeartbeats 4000000 in
set_option maxRecDepth 100000 in
theorem w_L_all_4 {E : Ex} {K : Kx} (C : Cx E K cL_all 5 (some .long) RL wsL_all rmL_all) {a0 : Nat → Nat} {a1 : Nat → Nat} {a2 : Nat → Nat} {h0_1 h0_2 h0_4 h0_5 h0_6 h0_7 h0_8 h0_9 : Nat} {v0 : GWV} {v1 : HouseV}  {r : (Int64 × SightV)} : ∀ (n : Nat)  (x1 : Int64) (x3 : Int32) (v2 : SightV), L_all_4 v0 v1 n x1 x3 v2 = some r → WW E K 0 0 (QQ E K (fun rv g => rv = some (.long r.1) ∧ g = [wGW E a0 (rf10 (a1 0) h0_1 h0_2 (a2 0) h0_4 h0_5 h0_6 h0_7 h0_8 h0_9) v0, wHouse E a1 v1, wSight E a2 r.2]) 0 0) 4 [(0, .ref (a0 0)), (1, .long x1), (3, .int x3)] [] [wGW E a0 (rf10 (a1 0) h0_1 h0_2 (a2 0) h0_4 h0_5 h0_6 h0_7 h0_8 h0_9) v0, wHouse E a1 v1, wSight E a2 v2] := by
  intro n
  induction n with
  | zero =>
    intro  x1 x3 v2 hf
    simp [L_all_4] at hf
  | succ n ih =>
    intro  x1 x3 v2 hf
    rw [L_all_4] at hf
    refine ww_iload_n C dL_all_4 rfl 2 rfl ?_
    refine ww_bipush (v := 10) C dL_all_5 (by decide) ?_
    refine ww_icmp_ge (tgt := 29) C dL_all_7 (by decide) (fun c_1 => ?_) (fun c_1 => ?_)
    · replace hf := ifT c_1 hf
      refine ww_iconst (v := 0) C dL_all_29 (by decide) ?_
      refine ww_istore_n (lv' := [(3, .int 0), (0, .ref (a0 0)), (1, .long x1)]) C dL_all_30 rfl (by decide) rfl ?_
      refine ww_sub C (lv' := [(0, .ref (a0 0)), (1, .long x1), (3, .int 0)]) [1, 2, 0] rfl ?_
      exact w_L_all_31 C FU _ _ _ hf
    · replace hf := ifF c_1 hf
      refine ww_ldc2 (v := 31) C (by decide +kernel) dL_all_10 ?_
      refine ww_lload_n C dL_all_13 rfl 1 rfl ?_
      refine ww_lmul C dL_all_14 ?_
      refine ww_aload_n C dL_all_15 rfl 0 rfl ?_
      refine ww_iload_n C dL_all_16 rfl 2 rfl ?_
      obtain ⟨p17, hp17, hf⟩ := bdE hf
      refine ww_callV C (As := [.int x3]) (st := [.long (31 * x1)]) (gr := []) (c_X8_size (E := E) (a0 := a0) (h0_1 := h0_1) (h0_2 := h0_2) (h0_4 := h0_4) (h0_5 := h0_5) (h0_6 := h0_6) (h0_7 := h0_7) (h0_8 := h0_8) (h0_9 := h0_9) (a1 := a1) (a2 := a2) hp17) gL_all_X8_size rfl yk_X8_size ⟨by decide, Nat.le_of_ble_eq_true rfl⟩ ⟨by decide, by decide⟩ clOK8 0 0 rfl rfl [0, 1, 2] [] 3 rfl (by decide) rfl rfl (Nat.le_of_ble_eq_true rfl) dL_all_17 ?_
      rintro _ _ ⟨rfl, rfl⟩
      refine ww_perm (gs' := [wGW E a0 (rf10 (a1 0) h0_1 h0_2 (a2 0) h0_4 h0_5 h0_6 h0_7 h0_8 h0_9) v0, wHouse E a1 v1, wSight E a2 p17.2]) [0, 1, 2] 3 rfl (by decide) rfl ?_
      refine ww_i2l C dL_all_20 ?_
      refine ww_ladd C dL_all_21 ?_
      refine ww_lstore_n (lv' := [(1, .long ((31 * x1) + (Int32.toInt64 p17.1))), (0, .ref (a0 0)), (3, .int x3)]) C dL_all_22 rfl (by decide) rfl ?_
      obtain ⟨x3_23, e_x3_23⟩ : ∃ y : Int32, y = x3 + 1 := ⟨_, rfl⟩
      replace hf := ltE e_x3_23 hf
      refine ww_iinc (v := x3_23) (lv' := [(3, .int x3_23), (1, .long ((31 * x1) + (Int32.toInt64 p17.1))), (0, .ref (a0 0))]) C dL_all_23 2 rfl (by rw [e_x3_23]; rfl) (by decide) rfl ?_
      refine ww_goto (tgt := 4) C dL_all_26 (by decide) ?_
      refine ww_sub C (lv' := [(0, .ref (a0 0)), (1, .long ((31 * x1) + (Int32.toInt64 p17.1))), (3, .int x3_23)]) [2, 1, 0] rfl ?_
      exact ih _ _ _ hf

set_option maxHeartbeats 4000000 in
set_option maxRecDepth 100000 in
theorem c_L_all {E : Ex} {a0 : Nat → Nat} {a1 : Nat → Nat} {a2 : Nat → Nat} {h0_1 h0_2 h0_4 h0_5 h0_6 h0_7 h0_8 h0_9 : Nat} {v0 : GWV} {v1 : HouseV} {v2 : SightV} {r : (Int64 × SightV)} (hf : L_all v0 v1 v2 = some r) : Ct E yL_all wsL_all rmL_all [.ref (a0 0)] [wGW E a0 (rf10 (a1 0) h0_1 h0_2 (a2 0) h0_4 h0_5 h0_6 h0_7 h0_8 h0_9) v0, wHouse E a1 v1, wSight E a2 v2] (fun rv g => rv = some (.long r.1) ∧ g = [wGW E a0 (rf10 (a1 0) h0_1 h0_2 (a2 0) h0_4 h0_5 h0_6 h0_7 h0_8 h0_9) v0, wHouse E a1 v1, wSight E a2 r.2]) := by
  refine ct_of (own := RL) (by decide +kernel) rfl rfl (Nat.le_of_ble_eq_true rfl) (fun K C => ?_)
  refine ww_sub C (lv' := [(0, .ref (a0 0))]) [0] rfl ?_
  rw [L_all] at hf
  refine ww_lconst (v := 0) C dL_all_0 (by decide) ?_
  refine ww_lstore_n (lv' := [(1, .long 0), (0, .ref (a0 0))]) C dL_all_1 rfl (by decide) rfl ?_
  refine ww_iconst (v := 0) C dL_all_2 (by decide) ?_
  refine ww_istore_n (lv' := [(3, .int 0), (1, .long 0), (0, .ref (a0 0))]) C dL_all_3 rfl (by decide) rfl ?_
  refine ww_sub C (lv' := [(0, .ref (a0 0)), (1, .long 0), (3, .int 0)]) [2, 1, 0] rfl ?_
  exact w_L_all_4 C FU _ _ _ hf

theorem ysk_L_all : yL_all.cls ≠ "java/lang/invoke/MethodHandle" ∧ yL_all.cls ≠ "java/lang/invoke/VarHandle" ∧ (parseMethodDescriptor yL_all.desc).map (fun d => d.parameters.length) = some 1 := by decide +kernel
abbrev rmL_isQuick : Room := { frames := 6, cells := 0, slots := 0, locals := 145 }
set_option maxHeartbeats 4000000 in
set_option maxRecDepth 100000 in
theorem w_L_isQuick_205 {E : Ex} {K : Kx} (C : Cx E K cL_isQuick 10 (some .boolean) RL wsL_isQuick rmL_isQuick) {a0 : Nat → Nat} {a1 : Nat → Nat} {a2 : Nat → Nat} {a3 : Nat → Nat} {h0_1 h0_2 h0_4 h0_5 h0_7 h0_8 h0_9 : Nat} {x1 : Int32} {v0 : GWV} {v1 : HouseV}   {x2 : Int32} {x3 : Int32} {x4 : Int32} {x5 : Int32} {x6 : Int32} {x7 : Int32} {s0 : Int32} {s1 : Int32} {v2 : SightV} {v3 : IntrV} {k111 : Int32 → SightV → IntrV → Option (Bool × SightV × IntrV)} {r : (Bool × SightV × IntrV)} (hk111 : ∀  (x7 : Int32) (v2 : SightV) (v3 : IntrV), k111 x7 v2 v3 = some r → WW E K 0 0 (QQ E K (fun rv g => rv = some (.int (b2i r.1)) ∧ g = [wGW E a0 (rf10 (a1 0) h0_1 h0_2 (a2 0) h0_4 h0_5 (a3 0) h0_7 h0_8 h0_9) v0, wHouse E a1 v1, wSight E a2 r.2.1, wIntr E a3 r.2.2]) 0 0) 111 [(0, .ref (a0 0)), (2, .int x2), (3, .int x3), (4, .int x4), (5, .int x5), (6, .int x6), (7, .int x7)] [] [wGW E a0 (rf10 (a1 0) h0_1 h0_2 (a2 0) h0_4 h0_5 (a3 0) h0_7 h0_8 h0_9) v0, wHouse E a1 v1, wSight E a2 v2, wIntr E a3 v3]) (hf : L_isQuick_205 x1 v0 v1 k111 x2 x3 x4 x5 x6 x7 s0 s1 v2 v3 = some r) : WW E K 0 0 (QQ E K (fun rv g => rv = some (.int (b2i r.1)) ∧ g = [wGW E a0 (rf10 (a1 0) h0_1 h0_2 (a2 0) h0_4 h0_5 (a3 0) h0_7 h0_8 h0_9) v0, wHouse E a1 v1, wSight E a2 r.2.1, wIntr E a3 r.2.2]) 0 0) 205 [(0, .ref (a0 0)), (2, .int x2), (3, .int x3), (4, .int x4), (5, .int x5), (6, .int x6), (7, .int x7)] [.int s0, .int s1] [wGW E a0 (rf10 (a1 0) h0_1 h0_2 (a2 0) h0_4 h0_5 (a3 0) h0_7 h0_8 h0_9) v0, wHouse E a1 v1, wSight E a2 v2, wIntr E a3 v3] := by
  rw [L_isQuick_205] at hf
  refine ww_icmp_eq (tgt := 210) C dL_isQuick_205 (by decide) (fun c_16 => ?_) (fun c_16 => ?_)
  · replace hf := ifT c_16 hf
    obtain ⟨x7_210, e_x7_210⟩ : ∃ y : Int32, y = x7 + 1 := ⟨_, rfl⟩
    replace hf := ltE e_x7_210 hf
    refine ww_iinc (v := x7_210) (lv' := [(7, .int x7_210), (0, .ref (a0 0)), (2, .int x2), (3, .int x3), (4, .int x4), (5, .int x5), (6, .int x6)]) C dL_isQuick_210 6 rfl (by rw [e_x7_210]; rfl) (by decide) rfl ?_
    refine ww_goto (tgt := 111) C dL_isQuick_213 (by decide) ?_
    refine ww_sub C (lv' := [(0, .ref (a0 0)), (2, .int x2), (3, .int x3), (4, .int x4), (5, .int x5), (6, .int x6), (7, .int x7_210)]) [1, 2, 3, 4, 5, 6, 0] rfl ?_
    exact hk111 _ _ _ hf
  · replace hf := ifF c_16 hf
    refine ww_iconst (v := 0) C dL_isQuick_208 (by decide) ?_
    obtain rfl := Option.some.inj hf
    exact ww_zret C (nar_b false) ⟨rfl, rfl⟩ dL_isQuick_209

set_option maxHeartbeats 4000000 in
set_option maxRecDepth 100000 in
theorem w_L_isQuick_190 {E : Ex} {K : Kx} (C : Cx E K cL_isQuick 10 (some .boolean) RL wsL_isQuick rmL_isQuick) {a0 : Nat → Nat} {a1 : Nat → Nat} {a2 : Nat → Nat} {a3 : Nat → Nat} {h0_1 h0_2 h0_4 h0_5 h0_7 h0_8 h0_9 : Nat} {x1 : Int32} {v0 : GWV} {v1 : HouseV}   {x2 : Int32} {x3 : Int32} {x4 : Int32} {x5 : Int32} {x6 : Int32} {x7 : Int32} {s0 : Int32} {v2 : SightV} {v3 : IntrV} {k111 : Int32 → SightV → IntrV → Option (Bool × SightV × IntrV)} {r : (Bool × SightV × IntrV)} (hk111 : ∀  (x7 : Int32) (v2 : SightV) (v3 : IntrV), k111 x7 v2 v3 = some r → WW E K 0 0 (QQ E K (fun rv g => rv = some (.int (b2i r.1)) ∧ g = [wGW E a0 (rf10 (a1 0) h0_1 h0_2 (a2 0) h0_4 h0_5 (a3 0) h0_7 h0_8 h0_9) v0, wHouse E a1 v1, wSight E a2 r.2.1, wIntr E a3 r.2.2]) 0 0) 111 [(0, .ref (a0 0)), (2, .int x2), (3, .int x3), (4, .int x4), (5, .int x5), (6, .int x6), (7, .int x7)] [] [wGW E a0 (rf10 (a1 0) h0_1 h0_2 (a2 0) h0_4 h0_5 (a3 0) h0_7 h0_8 h0_9) v0, wHouse E a1 v1, wSight E a2 v2, wIntr E a3 v3]) (hf : L_isQuick_190 x1 v0 v1 k111 x2 x3 x4 x5 x6 x7 s0 v2 v3 = some r) : WW E K 0 0 (QQ E K (fun rv g => rv = some (.int (b2i r.1)) ∧ g = [wGW E a0 (rf10 (a1 0) h0_1 h0_2 (a2 0) h0_4 h0_5 (a3 0) h0_7 h0_8 h0_9) v0, wHouse E a1 v1, wSight E a2 r.2.1, wIntr E a3 r.2.2]) 0 0) 190 [(0, .ref (a0 0)), (2, .int x2), (3, .int x3), (4, .int x4), (5, .int x5), (6, .int x6), (7, .int x7)] [.int s0] [wGW E a0 (rf10 (a1 0) h0_1 h0_2 (a2 0) h0_4 h0_5 (a3 0) h0_7 h0_8 h0_9) v0, wHouse E a1 v1, wSight E a2 v2, wIntr E a3 v3] := by
  rw [L_isQuick_190] at hf
  refine ww_iload C dL_isQuick_190 3 rfl ?_
  refine ww_iload C dL_isQuick_192 6 rfl ?_
  refine ww_iadd C dL_isQuick_194 ?_
  refine ww_iload C dL_isQuick_195 4 rfl ?_
  refine ww_icmp_ne (tgt := 204) C dL_isQuick_197 (by decide) (fun c_15 => ?_) (fun c_15 => ?_)
  · replace hf := ifF c_15 hf
    refine ww_iconst (v := 0) C dL_isQuick_204 (by decide) ?_
    refine ww_sub C (lv' := [(0, .ref (a0 0)), (2, .int x2), (3, .int x3), (4, .int x4), (5, .int x5), (6, .int x6), (7, .int x7)]) [0, 1, 2, 3, 4, 5, 6] rfl ?_
    exact w_L_isQuick_205 C (k111 := k111) hk111 hf
  · replace hf := ifT c_15 hf
    refine ww_iconst (v := 1) C dL_isQuick_200 (by decide) ?_
    refine ww_goto (tgt := 205) C dL_isQuick_201 (by decide) ?_
    refine ww_sub C (lv' := [(0, .ref (a0 0)), (2, .int x2), (3, .int x3), (4, .int x4), (5, .int x5), (6, .int x6), (7, .int x7)]) [0, 1, 2, 3, 4, 5, 6] rfl ?_
    exact w_L_isQuick_205 C (k111 := k111) hk111 hf

set_option maxHeartbeats 4000000 in
set_option maxRecDepth 100000 in
theorem w_L_isQuick_132 {E : Ex} {K : Kx} (C : Cx E K cL_isQuick 10 (some .boolean) RL wsL_isQuick rmL_isQuick) {a0 : Nat → Nat} {a1 : Nat → Nat} {a2 : Nat → Nat} {a3 : Nat → Nat} {h0_1 h0_2 h0_4 h0_5 h0_7 h0_8 h0_9 : Nat} {x1 : Int32} {v0 : GWV} {v1 : HouseV} {x2 : Int32} {x3 : Int32} {x4 : Int32} {x5 : Int32} {x6 : Int32} {x7 : Int32} {x8 : Int32} {k111 : Int32 → SightV → IntrV → Option (Bool × SightV × IntrV)} {r : (Bool × SightV × IntrV)} (hk111 : ∀  (x7 : Int32) (v2 : SightV) (v3 : IntrV), k111 x7 v2 v3 = some r → WW E K 0 0 (QQ E K (fun rv g => rv = some (.int (b2i r.1)) ∧ g = [wGW E a0 (rf10 (a1 0) h0_1 h0_2 (a2 0) h0_4 h0_5 (a3 0) h0_7 h0_8 h0_9) v0, wHouse E a1 v1, wSight E a2 r.2.1, wIntr E a3 r.2.2]) 0 0) 111 [(0, .ref (a0 0)), (2, .int x2), (3, .int x3), (4, .int x4), (5, .int x5), (6, .int x6), (7, .int x7)] [] [wGW E a0 (rf10 (a1 0) h0_1 h0_2 (a2 0) h0_4 h0_5 (a3 0) h0_7 h0_8 h0_9) v0, wHouse E a1 v1, wSight E a2 v2, wIntr E a3 v3]) : ∀ (n : Nat)  (x9 : Int32) (v2 : SightV) (v3 : IntrV), L_isQuick_132 x1 v0 v1 x2 x3 x4 x5 x6 x7 x8 k111 n x9 v2 v3 = some r → WW E K 0 0 (QQ E K (fun rv g => rv = some (.int (b2i r.1)) ∧ g = [wGW E a0 (rf10 (a1 0) h0_1 h0_2 (a2 0) h0_4 h0_5 (a3 0) h0_7 h0_8 h0_9) v0, wHouse E a1 v1, wSight E a2 r.2.1, wIntr E a3 r.2.2]) 0 0) 132 [(0, .ref (a0 0)), (2, .int x2), (3, .int x3), (4, .int x4), (5, .int x5), (6, .int x6), (7, .int x7), (8, .int x8), (9, .int x9)] [] [wGW E a0 (rf10 (a1 0) h0_1 h0_2 (a2 0) h0_4 h0_5 (a3 0) h0_7 h0_8 h0_9) v0, wHouse E a1 v1, wSight E a2 v2, wIntr E a3 v3] := by
  intro n
  induction n with
  | zero =>
    intro  x9 v2 v3 hf
    simp [L_isQuick_132] at hf
  | succ n ih =>
    intro  x9 v2 v3 hf
    rw [L_isQuick_132] at hf
    refine ww_iload C dL_isQuick_132 8 rfl ?_
    refine ww_aload_n C dL_isQuick_134 rfl 0 rfl ?_
    refine ww_iconst (v := 0) C dL_isQuick_135 (by decide) ?_
    obtain ⟨p136, hp136, hf⟩ := bdE hf
    refine ww_callV C (As := [.int 0]) (st := [.int x9]) (gr := [wIntr E a3 v3]) (c_X8_size (E := E) (a0 := a0) (h0_1 := h0_1) (h0_2 := h0_2) (h0_4 := h0_4) (h0_5 := h0_5) (h0_6 := a3 0) (h0_7 := h0_7) (h0_8 := h0_8) (h0_9 := h0_9) (a1 := a1) (a2 := a2) hp136) gL_isQuick_X8_size rfl yk_X8_size ⟨by decide, Nat.le_of_ble_eq_true rfl⟩ ⟨by decide, by decide⟩ clOK8 0 0 rfl rfl [0, 1, 2] [3] 4 rfl (by decide) rfl rfl (Nat.le_of_ble_eq_true rfl) dL_isQuick_136 ?_
    rintro _ _ ⟨rfl, rfl⟩
    refine ww_perm (gs' := [wGW E a0 (rf10 (a1 0) h0_1 h0_2 (a2 0) h0_4 h0_5 (a3 0) h0_7 h0_8 h0_9) v0, wHouse E a1 v1, wSight E a2 p136.2, wIntr E a3 v3]) [0, 1, 2, 3] 4 rfl (by decide) rfl ?_
    refine ww_icmp_ge (tgt := 175) C dL_isQuick_139 (by decide) (fun c_11 => ?_) (fun c_11 => ?_)
    · replace hf := ifT c_11 hf
      refine ww_iload C dL_isQuick_175 7 rfl ?_
      refine ww_iload_n C dL_isQuick_177 rfl 2 rfl ?_
      refine ww_ishr C dL_isQuick_178 ?_
      refine ww_iconst (v := 1) C dL_isQuick_179 (by decide) ?_
      refine ww_iand C dL_isQuick_180 ?_
      refine ww_iconst (v := 1) C dL_isQuick_181 (by decide) ?_
      refine ww_icmp_ne (tgt := 189) C dL_isQuick_182 (by decide) (fun c_12 => ?_) (fun c_12 => ?_)
      · replace hf := ifF c_12 hf
        refine ww_iconst (v := 0) C dL_isQuick_189 (by decide) ?_
        refine ww_sub C (lv' := [(0, .ref (a0 0)), (2, .int x2), (3, .int x3), (4, .int x4), (5, .int x5), (6, .int x6), (7, .int x7)]) [0, 1, 2, 3, 4, 5, 6] rfl ?_
        exact w_L_isQuick_190 C (k111 := k111) hk111 hf
      · replace hf := ifT c_12 hf
        refine ww_iconst (v := 1) C dL_isQuick_185 (by decide) ?_
        refine ww_goto (tgt := 190) C dL_isQuick_186 (by decide) ?_
        refine ww_sub C (lv' := [(0, .ref (a0 0)), (2, .int x2), (3, .int x3), (4, .int x4), (5, .int x5), (6, .int x6), (7, .int x7)]) [0, 1, 2, 3, 4, 5, 6] rfl ?_
        exact w_L_isQuick_190 C (k111 := k111) hk111 hf
    · replace hf := ifF c_11 hf
      refine ww_iload C dL_isQuick_142 7 rfl ?_
      refine ww_iload C dL_isQuick_144 8 rfl ?_
      refine ww_ishr C dL_isQuick_146 ?_
      refine ww_iconst (v := 1) C dL_isQuick_147 (by decide) ?_
      refine ww_iand C dL_isQuick_148 ?_
      refine ww_iconst (v := 1) C dL_isQuick_149 (by decide) ?_
      refine ww_icmp_ne (tgt := 169) C dL_isQuick_150 (by decide) (fun c_13 => ?_) (fun c_13 => ?_)
      · replace hf := ifF c_13 hf
        obtain ⟨x9_169, e_x9_169⟩ : ∃ y : Int32, y = x9 + 1 := ⟨_, rfl⟩
        replace hf := ltE e_x9_169 hf
        refine ww_iinc (v := x9_169) (lv' := [(9, .int x9_169), (0, .ref (a0 0)), (2, .int x2), (3, .int x3), (4, .int x4), (5, .int x5), (6, .int x6), (7, .int x7), (8, .int x8)]) C dL_isQuick_169 8 rfl (by rw [e_x9_169]; rfl) (by decide) rfl ?_
        refine ww_goto (tgt := 132) C dL_isQuick_172 (by decide) ?_
        refine ww_sub C (lv' := [(0, .ref (a0 0)), (2, .int x2), (3, .int x3), (4, .int x4), (5, .int x5), (6, .int x6), (7, .int x7), (8, .int x8), (9, .int x9_169)]) [1, 2, 3, 4, 5, 6, 7, 8, 0] rfl ?_
        exact ih _ _ _ hf
      · replace hf := ifT c_13 hf
        refine ww_aload_n C dL_isQuick_153 rfl 0 rfl ?_
        refine ww_iload C dL_isQuick_154 8 rfl ?_
        refine ww_iload C dL_isQuick_156 3 rfl ?_
        refine ww_iload C dL_isQuick_158 6 rfl ?_
        refine ww_iadd C dL_isQuick_160 ?_
        obtain ⟨p161, hp161, hf⟩ := bdE hf
        refine ww_callV C (As := [.int x9, .int (x4 + x7)]) (st := []) (gr := [wSight E a2 p136.2, wIntr E a3 v3]) (c_X8_guardsIn (E := E) (a0 := a0) (h0_1 := h0_1) (h0_2 := h0_2) (h0_3 := a2 0) (h0_4 := h0_4) (h0_5 := h0_5) (h0_6 := a3 0) (h0_7 := h0_7) (h0_8 := h0_8) (h0_9 := h0_9) (a1 := a1) hp161) gL_isQuick_X8_guardsIn rfl yk_X8_guardsIn ⟨by decide, Nat.le_of_ble_eq_true rfl⟩ ⟨by decide, by decide⟩ clOK8 0 0 rfl rfl [0, 1] [2, 3] 4 rfl (by decide) rfl rfl (Nat.le_of_ble_eq_true rfl) dL_isQuick_161 ?_
        rintro _ _ ⟨rfl, rfl⟩
        refine ww_perm (gs' := [wGW E a0 (rf10 (a1 0) h0_1 h0_2 (a2 0) h0_4 h0_5 (a3 0) h0_7 h0_8 h0_9) v0, wHouse E a1 v1, wSight E a2 p136.2, wIntr E a3 v3]) [0, 1, 2, 3] 4 rfl (by decide) rfl ?_
        refine ww_if_eq (tgt := 169) C dL_isQuick_164 (by decide) (fun c_14 => ?_) (fun c_14 => ?_)
        · replace hf := ifT c_14 hf
          obtain ⟨x9_169, e_x9_169⟩ : ∃ y : Int32, y = x9 + 1 := ⟨_, rfl⟩
          replace hf := ltE e_x9_169 hf
          refine ww_iinc (v := x9_169) (lv' := [(9, .int x9_169), (0, .ref (a0 0)), (2, .int x2), (3, .int x3), (4, .int x4), (5, .int x5), (6, .int x6), (7, .int x7), (8, .int x8)]) C dL_isQuick_169 8 rfl (by rw [e_x9_169]; rfl) (by decide) rfl ?_
          refine ww_goto (tgt := 132) C dL_isQuick_172 (by decide) ?_
          refine ww_sub C (lv' := [(0, .ref (a0 0)), (2, .int x2), (3, .int x3), (4, .int x4), (5, .int x5), (6, .int x6), (7, .int x7), (8, .int x8), (9, .int x9_169)]) [1, 2, 3, 4, 5, 6, 7, 8, 0] rfl ?_
          exact ih _ _ _ hf
        · replace hf := ifF c_14 hf
          refine ww_iconst (v := 0) C dL_isQuick_167 (by decide) ?_
          obtain rfl := Option.some.inj hf
          exact ww_zret C (nar_b false) ⟨rfl, rfl⟩ dL_isQuick_168

set_option maxHeartbeats 4000000 in
set_option maxRecDepth 100000 in
theorem w_L_isQuick_111 {E : Ex} {K : Kx} (C : Cx E K cL_isQuick 10 (some .boolean) RL wsL_isQuick rmL_isQuick) {a0 : Nat → Nat} {a1 : Nat → Nat} {a2 : Nat → Nat} {a3 : Nat → Nat} {h0_1 h0_2 h0_4 h0_5 h0_7 h0_8 h0_9 : Nat} {x1 : Int32} {v0 : GWV} {v1 : HouseV} {x2 : Int32} {x3 : Int32} {x4 : Int32} {x5 : Int32} {x6 : Int32} {r : (Bool × SightV × IntrV)} : ∀ (n : Nat)  (x7 : Int32) (v2 : SightV) (v3 : IntrV), L_isQuick_111 x1 v0 v1 x2 x3 x4 x5 x6 n x7 v2 v3 = some r → WW E K 0 0 (QQ E K (fun rv g => rv = some (.int (b2i r.1)) ∧ g = [wGW E a0 (rf10 (a1 0) h0_1 h0_2 (a2 0) h0_4 h0_5 (a3 0) h0_7 h0_8 h0_9) v0, wHouse E a1 v1, wSight E a2 r.2.1, wIntr E a3 r.2.2]) 0 0) 111 [(0, .ref (a0 0)), (2, .int x2), (3, .int x3), (4, .int x4), (5, .int x5), (6, .int x6), (7, .int x7)] [] [wGW E a0 (rf10 (a1 0) h0_1 h0_2 (a2 0) h0_4 h0_5 (a3 0) h0_7 h0_8 h0_9) v0, wHouse E a1 v1, wSight E a2 v2, wIntr E a3 v3] := by
  intro n
  induction n with
  | zero =>
    intro  x7 v2 v3 hf
    simp [L_isQuick_111] at hf
  | succ n ih =>
    intro  x7 v2 v3 hf
    rw [L_isQuick_111] at hf
    refine ww_iload C dL_isQuick_111 6 rfl ?_
    refine ww_iload C dL_isQuick_113 5 rfl ?_
    refine ww_icmp_gt (tgt := 216) C dL_isQuick_115 (by decide) (fun c_7 => ?_) (fun c_7 => ?_)
    · replace hf := ifT c_7 hf
      refine ww_iload C dL_isQuick_216 4 rfl ?_
      refine ww_if_lt (tgt := 244) C dL_isQuick_218 (by decide) (fun c_8 => ?_) (fun c_8 => ?_)
      · replace hf := ifT c_8 hf
        refine ww_iconst (v := 1) C dL_isQuick_244 (by decide) ?_
        refine ww_goto (tgt := 249) C dL_isQuick_245 (by decide) ?_
        obtain rfl := Option.some.inj hf
        exact ww_zret C (nar_b true) ⟨rfl, rfl⟩ dL_isQuick_249
      · replace hf := ifF c_8 hf
        refine ww_aload_n C dL_isQuick_221 rfl 0 rfl ?_
        refine ww_iload_n C dL_isQuick_222 rfl 1 rfl ?_
        refine ww_iload_n C dL_isQuick_223 rfl 2 rfl ?_
        obtain ⟨p224, hp224, hf⟩ := bdE hf
        refine ww_callV C (As := [.int x2, .int x3]) (st := []) (gr := [wSight E a2 v2, wIntr E a3 v3]) (c_X8_distance (E := E) (a0 := a0) (h0_1 := h0_1) (h0_2 := h0_2) (h0_3 := a2 0) (h0_4 := h0_4) (h0_5 := h0_5) (h0_6 := a3 0) (h0_7 := h0_7) (h0_8 := h0_8) (h0_9 := h0_9) (a1 := a1) hp224) gL_isQuick_X8_distance rfl yk_X8_distance ⟨by decide, Nat.le_of_ble_eq_true rfl⟩ ⟨by decide, by decide⟩ clOK8 0 0 rfl rfl [0, 1] [2, 3] 4 rfl (by decide) rfl rfl (Nat.le_of_ble_eq_true rfl) dL_isQuick_224 ?_
        rintro _ _ ⟨rfl, rfl⟩
        refine ww_perm (gs' := [wGW E a0 (rf10 (a1 0) h0_1 h0_2 (a2 0) h0_4 h0_5 (a3 0) h0_7 h0_8 h0_9) v0, wHouse E a1 v1, wSight E a2 v2, wIntr E a3 v3]) [0, 1, 2, 3] 4 rfl (by decide) rfl ?_
        refine ww_if_lt (tgt := 248) C dL_isQuick_227 (by decide) (fun c_9 => ?_) (fun c_9 => ?_)
        · replace hf := ifT c_9 hf
          refine ww_iconst (v := 0) C dL_isQuick_248 (by decide) ?_
          obtain rfl := Option.some.inj hf
          exact ww_zret C (nar_b false) ⟨rfl, rfl⟩ dL_isQuick_249
        · replace hf := ifF c_9 hf
          refine ww_iload C dL_isQuick_230 4 rfl ?_
          refine ww_iload C dL_isQuick_232 3 rfl ?_
          refine ww_isub C dL_isQuick_234 ?_
          refine ww_aload_n C dL_isQuick_235 rfl 0 rfl ?_
          refine ww_iload_n C dL_isQuick_236 rfl 1 rfl ?_
          refine ww_iload_n C dL_isQuick_237 rfl 2 rfl ?_
          obtain ⟨p238, hp238, hf⟩ := bdE hf
          refine ww_callV C (As := [.int x2, .int x3]) (st := [.int (x5 - x4)]) (gr := [wSight E a2 v2, wIntr E a3 v3]) (c_X8_distance (E := E) (a0 := a0) (h0_1 := h0_1) (h0_2 := h0_2) (h0_3 := a2 0) (h0_4 := h0_4) (h0_5 := h0_5) (h0_6 := a3 0) (h0_7 := h0_7) (h0_8 := h0_8) (h0_9 := h0_9) (a1 := a1) hp238) gL_isQuick_X8_distance rfl yk_X8_distance ⟨by decide, Nat.le_of_ble_eq_true rfl⟩ ⟨by decide, by decide⟩ clOK8 0 0 rfl rfl [0, 1] [2, 3] 4 rfl (by decide) rfl rfl (Nat.le_of_ble_eq_true rfl) dL_isQuick_238 ?_
          rintro _ _ ⟨rfl, rfl⟩
          refine ww_perm (gs' := [wGW E a0 (rf10 (a1 0) h0_1 h0_2 (a2 0) h0_4 h0_5 (a3 0) h0_7 h0_8 h0_9) v0, wHouse E a1 v1, wSight E a2 v2, wIntr E a3 v3]) [0, 1, 2, 3] 4 rfl (by decide) rfl ?_
          refine ww_icmp_lt (tgt := 248) C dL_isQuick_241 (by decide) (fun c_10 => ?_) (fun c_10 => ?_)
          · replace hf := ifT c_10 hf
            refine ww_iconst (v := 0) C dL_isQuick_248 (by decide) ?_
            obtain rfl := Option.some.inj hf
            exact ww_zret C (nar_b false) ⟨rfl, rfl⟩ dL_isQuick_249
          · replace hf := ifF c_10 hf
            refine ww_iconst (v := 1) C dL_isQuick_244 (by decide) ?_
            refine ww_goto (tgt := 249) C dL_isQuick_245 (by decide) ?_
            obtain rfl := Option.some.inj hf
            exact ww_zret C (nar_b true) ⟨rfl, rfl⟩ dL_isQuick_249
    · replace hf := ifF c_7 hf
      refine ww_aload_n C dL_isQuick_118 rfl 0 rfl ?_
      refine ww_iload_n C dL_isQuick_119 rfl 1 rfl ?_
      refine ww_iload C dL_isQuick_120 3 rfl ?_
      refine ww_iload C dL_isQuick_122 6 rfl ?_
      obtain ⟨p124, hp124, hf⟩ := bdE hf
      refine ww_callV C (As := [.int x2, .int x4, .int x7]) (st := []) (gr := [wSight E a2 v2]) (c_X8_hiding (E := E) (a0 := a0) (h0_1 := h0_1) (h0_2 := h0_2) (h0_3 := a2 0) (h0_4 := h0_4) (h0_5 := h0_5) (h0_7 := h0_7) (h0_8 := h0_8) (h0_9 := h0_9) (a1 := a1) (a2 := a3) hp124) gL_isQuick_X8_hiding rfl yk_X8_hiding ⟨by decide, Nat.le_of_ble_eq_true rfl⟩ ⟨by decide, by decide⟩ clOK8 0 0 rfl rfl [0, 1, 3] [2] 4 rfl (by decide) rfl rfl (Nat.le_of_ble_eq_true rfl) dL_isQuick_124 ?_
      rintro _ _ ⟨rfl, rfl⟩
      refine ww_perm (gs' := [wGW E a0 (rf10 (a1 0) h0_1 h0_2 (a2 0) h0_4 h0_5 (a3 0) h0_7 h0_8 h0_9) v0, wHouse E a1 v1, wSight E a2 v2, wIntr E a3 p124.2]) [0, 1, 3, 2] 4 rfl (by decide) rfl ?_
      refine ww_istore (lv' := [(8, .int p124.1), (0, .ref (a0 0)), (2, .int x2), (3, .int x3), (4, .int x4), (5, .int x5), (6, .int x6), (7, .int x7)]) C dL_isQuick_127 (by decide) rfl ?_
      refine ww_iconst (v := 0) C dL_isQuick_129 (by decide) ?_
      refine ww_istore (lv' := [(9, .int 0), (8, .int p124.1), (0, .ref (a0 0)), (2, .int x2), (3, .int x3), (4, .int x4), (5, .int x5), (6, .int x6), (7, .int x7)]) C dL_isQuick_130 (by decide) rfl ?_
      refine ww_sub C (lv' := [(0, .ref (a0 0)), (2, .int x2), (3, .int x3), (4, .int x4), (5, .int x5), (6, .int x6), (7, .int x7), (8, .int p124.1), (9, .int 0)]) [2, 3, 4, 5, 6, 7, 8, 1, 0] rfl ?_
      exact w_L_isQuick_132 C (k111 := (fun (x7 : Int32) (v2 : SightV) (v3 : IntrV) => L_isQuick_111 x1 v0 v1 x2 x3 x4 x5 x6 n x7 v2 v3)) ih FU _ _ _ hf

set_option maxHeartbeats 4000000 in
set_option maxRecDepth 100000 in
theorem c_L_isQuick {E : Ex} {a0 : Nat → Nat} {a1 : Nat → Nat} {a2 : Nat → Nat} {a3 : Nat → Nat} {h0_1 h0_2 h0_4 h0_5 h0_7 h0_8 h0_9 : Nat} {x1 : Int32} {v0 : GWV} {v1 : HouseV} {v2 : SightV} {v3 : IntrV} {r : (Bool × SightV × IntrV)} (hf : L_isQuick x1 v0 v1 v2 v3 = some r) : Ct E yL_isQuick wsL_isQuick rmL_isQuick [.ref (a0 0), .int x1] [wGW E a0 (rf10 (a1 0) h0_1 h0_2 (a2 0) h0_4 h0_5 (a3 0) h0_7 h0_8 h0_9) v0, wHouse E a1 v1, wSight E a2 v2, wIntr E a3 v3] (fun rv g => rv = some (.int (b2i r.1)) ∧ g = [wGW E a0 (rf10 (a1 0) h0_1 h0_2 (a2 0) h0_4 h0_5 (a3 0) h0_7 h0_8 h0_9) v0, wHouse E a1 v1, wSight E a2 r.2.1, wIntr E a3 r.2.2]) := by
  refine ct_of (own := RL) (by decide +kernel) rfl rfl (Nat.le_of_ble_eq_true rfl) (fun K C => ?_)
  refine ww_sub C (lv' := [(0, .ref (a0 0)), (1, .int x1)]) [0, 1] rfl ?_
  rw [L_isQuick] at hf
  refine ww_iload_n C dL_isQuick_0 rfl 1 rfl ?_
  refine ww_aload_n C dL_isQuick_1 rfl 0 rfl ?_
  refine ww_iconst (v := 0) C dL_isQuick_2 (by decide) ?_
  obtain ⟨p3, hp3, hf⟩ := bdE hf
  refine ww_callV C (As := [.int 0]) (st := [.int x1]) (gr := [wIntr E a3 v3]) (c_X8_size (E := E) (a0 := a0) (h0_1 := h0_1) (h0_2 := h0_2) (h0_4 := h0_4) (h0_5 := h0_5) (h0_6 := a3 0) (h0_7 := h0_7) (h0_8 := h0_8) (h0_9 := h0_9) (a1 := a1) (a2 := a2) hp3) gL_isQuick_X8_size rfl yk_X8_size ⟨by decide, Nat.le_of_ble_eq_true rfl⟩ ⟨by decide, by decide⟩ clOK8 0 0 rfl rfl [0, 1, 2] [3] 4 rfl (by decide) rfl rfl (Nat.le_of_ble_eq_true rfl) dL_isQuick_3 ?_
  rintro _ _ ⟨rfl, rfl⟩
  refine ww_perm (gs' := [wGW E a0 (rf10 (a1 0) h0_1 h0_2 (a2 0) h0_4 h0_5 (a3 0) h0_7 h0_8 h0_9) v0, wHouse E a1 v1, wSight E a2 p3.2, wIntr E a3 v3]) [0, 1, 2, 3] 4 rfl (by decide) rfl ?_
  obtain ⟨p6, hp6, hf⟩ := bdE hf
  refine ww_callS C (As := [.int x1, .int p3.1]) (st := []) (gr := [wGW E a0 (rf10 (a1 0) h0_1 h0_2 (a2 0) h0_4 h0_5 (a3 0) h0_7 h0_8 h0_9) v0, wHouse E a1 v1, wSight E a2 p3.2, wIntr E a3 v3]) (c_L_most (E := E)  hp6) gL_isQuick_L_most rfl ysk_L_most ⟨by decide, Nat.le_of_ble_eq_true rfl⟩ ⟨by decide, by decide⟩ [] [0, 1, 2, 3] 4 rfl (by decide) rfl rfl (Nat.le_of_ble_eq_true rfl) dL_isQuick_6 ?_
  rintro _ _ ⟨rfl, rfl⟩
  refine ww_perm (gs' := [wGW E a0 (rf10 (a1 0) h0_1 h0_2 (a2 0) h0_4 h0_5 (a3 0) h0_7 h0_8 h0_9) v0, wHouse E a1 v1, wSight E a2 p3.2, wIntr E a3 v3]) [0, 1, 2, 3] 4 rfl (by decide) rfl ?_
  refine ww_istore_n (lv' := [(2, .int p6), (0, .ref (a0 0)), (1, .int x1)]) C dL_isQuick_9 rfl (by decide) rfl ?_
  refine ww_iload_n C dL_isQuick_10 rfl 2 rfl ?_
  refine ww_iconst (v := 3) C dL_isQuick_11 (by decide) ?_
  refine ww_ishr C dL_isQuick_12 ?_
  refine ww_aload_n C dL_isQuick_13 rfl 1 rfl ?_
  refine ww_iconst (v := 0) C dL_isQuick_14 (by decide) ?_
  obtain ⟨p15, hp15, hf⟩ := bdE hf
  refine ww_callV C (As := [.int 0]) (st := [.int (x1 >>> (3 &&& 31))]) (gr := [wIntr E a3 v3]) (c_X8_size (E := E) (a0 := a0) (h0_1 := h0_1) (h0_2 := h0_2) (h0_4 := h0_4) (h0_5 := h0_5) (h0_6 := a3 0) (h0_7 := h0_7) (h0_8 := h0_8) (h0_9 := h0_9) (a1 := a1) (a2 := a2) hp15) gL_isQuick_X8_size rfl yk_X8_size ⟨by decide, Nat.le_of_ble_eq_true rfl⟩ ⟨by decide, by decide⟩ clOK8 0 0 rfl rfl [0, 1, 2] [3] 4 rfl (by decide) rfl rfl (Nat.le_of_ble_eq_true rfl) dL_isQuick_15 ?_
  rintro _ _ ⟨rfl, rfl⟩
  refine ww_perm (gs' := [wGW E a0 (rf10 (a1 0) h0_1 h0_2 (a2 0) h0_4 h0_5 (a3 0) h0_7 h0_8 h0_9) v0, wHouse E a1 v1, wSight E a2 p15.2, wIntr E a3 v3]) [0, 1, 2, 3] 4 rfl (by decide) rfl ?_
  obtain ⟨p18, hp18, hf⟩ := bdE hf
  refine ww_callS C (As := [.int (x1 >>> (3 &&& 31)), .int p15.1]) (st := []) (gr := [wGW E a0 (rf10 (a1 0) h0_1 h0_2 (a2 0) h0_4 h0_5 (a3 0) h0_7 h0_8 h0_9) v0, wHouse E a1 v1, wSight E a2 p15.2, wIntr E a3 v3]) (c_L_most (E := E)  hp18) gL_isQuick_L_most rfl ysk_L_most ⟨by decide, Nat.le_of_ble_eq_true rfl⟩ ⟨by decide, by decide⟩ [] [0, 1, 2, 3] 4 rfl (by decide) rfl rfl (Nat.le_of_ble_eq_true rfl) dL_isQuick_18 ?_
  rintro _ _ ⟨rfl, rfl⟩
  refine ww_perm (gs' := [wGW E a0 (rf10 (a1 0) h0_1 h0_2 (a2 0) h0_4 h0_5 (a3 0) h0_7 h0_8 h0_9) v0, wHouse E a1 v1, wSight E a2 p15.2, wIntr E a3 v3]) [0, 1, 2, 3] 4 rfl (by decide) rfl ?_
  refine ww_istore_n (lv' := [(3, .int p18), (2, .int p6), (0, .ref (a0 0)), (1, .int x1)]) C dL_isQuick_21 rfl (by decide) rfl ?_
  refine ww_iload_n C dL_isQuick_22 rfl 3 rfl ?_
  refine ww_iconst (v := 5) C dL_isQuick_23 (by decide) ?_
  refine ww_ishr C dL_isQuick_24 ?_
  refine ww_bipush (v := 50) C dL_isQuick_25 (by decide) ?_
  obtain ⟨p27, hp27, hf⟩ := bdE hf
  refine ww_callS C (As := [.int (x1 >>> (5 &&& 31)), .int 50]) (st := []) (gr := [wGW E a0 (rf10 (a1 0) h0_1 h0_2 (a2 0) h0_4 h0_5 (a3 0) h0_7 h0_8 h0_9) v0, wHouse E a1 v1, wSight E a2 p15.2, wIntr E a3 v3]) (c_L_most (E := E)  hp27) gL_isQuick_L_most rfl ysk_L_most ⟨by decide, Nat.le_of_ble_eq_true rfl⟩ ⟨by decide, by decide⟩ [] [0, 1, 2, 3] 4 rfl (by decide) rfl rfl (Nat.le_of_ble_eq_true rfl) dL_isQuick_27 ?_
  rintro _ _ ⟨rfl, rfl⟩
  refine ww_perm (gs' := [wGW E a0 (rf10 (a1 0) h0_1 h0_2 (a2 0) h0_4 h0_5 (a3 0) h0_7 h0_8 h0_9) v0, wHouse E a1 v1, wSight E a2 p15.2, wIntr E a3 v3]) [0, 1, 2, 3] 4 rfl (by decide) rfl ?_
  refine ww_istore (lv' := [(4, .int p27), (3, .int p18), (2, .int p6), (0, .ref (a0 0)), (1, .int x1)]) C dL_isQuick_30 (by decide) rfl ?_
  refine ww_aload_n C dL_isQuick_32 rfl 3 rfl ?_
  refine ww_iload_n C dL_isQuick_33 rfl 2 rfl ?_
  refine ww_iload_n C dL_isQuick_34 rfl 1 rfl ?_
  refine ww_iload C dL_isQuick_35 0 rfl ?_
  obtain ⟨p37, hp37, hf⟩ := bdE hf
  refine ww_callV C (As := [.int p6, .int p18, .int p27]) (st := []) (gr := [wSight E a2 p15.2]) (c_X8_arrival (E := E) (a0 := a0) (h0_1 := h0_1) (h0_2 := h0_2) (h0_3 := a2 0) (h0_4 := h0_4) (h0_5 := h0_5) (h0_7 := h0_7) (h0_8 := h0_8) (h0_9 := h0_9) (a1 := a1) (a2 := a3) hp37) gL_isQuick_X8_arrival rfl yk_X8_arrival ⟨by decide, Nat.le_of_ble_eq_true rfl⟩ ⟨by decide, by decide⟩ clOK8 0 0 rfl rfl [0, 1, 3] [2] 4 rfl (by decide) rfl rfl (Nat.le_of_ble_eq_true rfl) dL_isQuick_37 ?_
  rintro _ _ ⟨rfl, rfl⟩
  refine ww_perm (gs' := [wGW E a0 (rf10 (a1 0) h0_1 h0_2 (a2 0) h0_4 h0_5 (a3 0) h0_7 h0_8 h0_9) v0, wHouse E a1 v1, wSight E a2 p15.2, wIntr E a3 p37.2]) [0, 1, 3, 2] 4 rfl (by decide) rfl ?_
  refine ww_istore (lv' := [(5, .int p37.1), (4, .int p27), (3, .int p18), (2, .int p6), (0, .ref (a0 0)), (1, .int x1)]) C dL_isQuick_40 (by decide) rfl ?_
  refine ww_aload_n C dL_isQuick_42 rfl 4 rfl ?_
  refine ww_iload_n C dL_isQuick_43 rfl 3 rfl ?_
  refine ww_iload C dL_isQuick_44 1 rfl ?_
  obtain ⟨p46, hp46, hf⟩ := bdE hf
  refine ww_callV C (As := [.int p6, .int p27]) (st := []) (gr := [wSight E a2 p15.2, wIntr E a3 p37.2]) (c_X8_guardsIn (E := E) (a0 := a0) (h0_1 := h0_1) (h0_2 := h0_2) (h0_3 := a2 0) (h0_4 := h0_4) (h0_5 := h0_5) (h0_6 := a3 0) (h0_7 := h0_7) (h0_8 := h0_8) (h0_9 := h0_9) (a1 := a1) hp46) gL_isQuick_X8_guardsIn rfl yk_X8_guardsIn ⟨by decide, Nat.le_of_ble_eq_true rfl⟩ ⟨by decide, by decide⟩ clOK8 0 0 rfl rfl [0, 1] [2, 3] 4 rfl (by decide) rfl rfl (Nat.le_of_ble_eq_true rfl) dL_isQuick_46 ?_
  rintro _ _ ⟨rfl, rfl⟩
  refine ww_perm (gs' := [wGW E a0 (rf10 (a1 0) h0_1 h0_2 (a2 0) h0_4 h0_5 (a3 0) h0_7 h0_8 h0_9) v0, wHouse E a1 v1, wSight E a2 p15.2, wIntr E a3 p37.2]) [0, 1, 2, 3] 4 rfl (by decide) rfl ?_
  refine ww_if_eq (tgt := 86) C dL_isQuick_49 (by decide) (fun c_1 => ?_) (fun c_1 => ?_)
  · replace hf := ifT c_1 hf
    refine ww_iload C dL_isQuick_86 0 rfl ?_
    refine ww_if_ge (tgt := 96) C dL_isQuick_88 (by decide) (fun c_2 => ?_) (fun c_2 => ?_)
    · replace hf := ifT c_2 hf
      refine ww_bipush (v := 100) C dL_isQuick_96 (by decide) ?_
      refine ww_iload C dL_isQuick_98 0 rfl ?_
      refine ww_iload C dL_isQuick_100 1 rfl ?_
      refine ww_isub C dL_isQuick_102 ?_
      refine ww_min C (by decide +kernel) (by decide +kernel) (by decide +kernel) (by decide +kernel) (by decide) (Nat.le_of_ble_eq_true rfl) (by decide) (by decide) dL_isQuick_103 ?_
      refine ww_topi (fun x6_106 e_x6_106 => ?_)
      replace hf := ltE e_x6_106 hf
      refine ww_istore (lv' := [(6, .int x6_106), (5, .int p37.1), (4, .int p27), (3, .int p18), (2, .int p6), (0, .ref (a0 0)), (1, .int x1)]) C dL_isQuick_106 (by decide) rfl ?_
      refine ww_iconst (v := 0) C dL_isQuick_108 (by decide) ?_
      refine ww_istore (lv' := [(7, .int 0), (6, .int x6_106), (5, .int p37.1), (4, .int p27), (3, .int p18), (2, .int p6), (0, .ref (a0 0)), (1, .int x1)]) C dL_isQuick_109 (by decide) rfl ?_
      refine ww_sub C (lv' := [(0, .ref (a0 0)), (2, .int p6), (3, .int p18), (4, .int p27), (5, .int p37.1), (6, .int x6_106), (7, .int 0)]) [6, 5, 4, 3, 2, 1, 0] rfl ?_
      exact w_L_isQuick_111 C FU _ _ _ hf
    · replace hf := ifF c_2 hf
      refine ww_bipush (v := 40) C dL_isQuick_91 (by decide) ?_
      refine ww_goto (tgt := 106) C dL_isQuick_93 (by decide) ?_
      refine ww_istore (lv' := [(6, .int 40), (5, .int p37.1), (4, .int p27), (3, .int p18), (2, .int p6), (0, .ref (a0 0)), (1, .int x1)]) C dL_isQuick_106 (by decide) rfl ?_
      refine ww_iconst (v := 0) C dL_isQuick_108 (by decide) ?_
      refine ww_istore (lv' := [(7, .int 0), (6, .int 40), (5, .int p37.1), (4, .int p27), (3, .int p18), (2, .int p6), (0, .ref (a0 0)), (1, .int x1)]) C dL_isQuick_109 (by decide) rfl ?_
      refine ww_sub C (lv' := [(0, .ref (a0 0)), (2, .int p6), (3, .int p18), (4, .int p27), (5, .int p37.1), (6, .int 40), (7, .int 0)]) [6, 5, 4, 3, 2, 1, 0] rfl ?_
      exact w_L_isQuick_111 C FU _ _ _ hf
  · replace hf := ifF c_1 hf
    refine ww_iload C dL_isQuick_52 0 rfl ?_
    refine ww_if_ge (tgt := 84) C dL_isQuick_54 (by decide) (fun c_4 => ?_) (fun c_4 => ?_)
    · replace hf := ifT c_4 hf
      refine ww_iconst (v := 0) C dL_isQuick_84 (by decide) ?_
      obtain rfl := Option.some.inj hf
      exact ww_zret C (nar_b false) ⟨rfl, rfl⟩ dL_isQuick_85
    · replace hf := ifF c_4 hf
      refine ww_aload_n C dL_isQuick_57 rfl 4 rfl ?_
      refine ww_iload_n C dL_isQuick_58 rfl 3 rfl ?_
      refine ww_iload C dL_isQuick_59 1 rfl ?_
      refine ww_iconst (v := 0) C dL_isQuick_61 (by decide) ?_
      obtain ⟨p62, hp62, hf⟩ := bdE hf
      refine ww_callV C (As := [.int p6, .int p27, .int 0]) (st := []) (gr := [wSight E a2 p15.2]) (c_X8_hiding (E := E) (a0 := a0) (h0_1 := h0_1) (h0_2 := h0_2) (h0_3 := a2 0) (h0_4 := h0_4) (h0_5 := h0_5) (h0_7 := h0_7) (h0_8 := h0_8) (h0_9 := h0_9) (a1 := a1) (a2 := a3) hp62) gL_isQuick_X8_hiding rfl yk_X8_hiding ⟨by decide, Nat.le_of_ble_eq_true rfl⟩ ⟨by decide, by decide⟩ clOK8 0 0 rfl rfl [0, 1, 3] [2] 4 rfl (by decide) rfl rfl (Nat.le_of_ble_eq_true rfl) dL_isQuick_62 ?_
      rintro _ _ ⟨rfl, rfl⟩
      refine ww_perm (gs' := [wGW E a0 (rf10 (a1 0) h0_1 h0_2 (a2 0) h0_4 h0_5 (a3 0) h0_7 h0_8 h0_9) v0, wHouse E a1 v1, wSight E a2 p15.2, wIntr E a3 p62.2]) [0, 1, 3, 2] 4 rfl (by decide) rfl ?_
      refine ww_if_ne (tgt := 84) C dL_isQuick_65 (by decide) (fun c_5 => ?_) (fun c_5 => ?_)
      · replace hf := ifF c_5 hf
        refine ww_iconst (v := 0) C dL_isQuick_84 (by decide) ?_
        obtain rfl := Option.some.inj hf
        exact ww_zret C (nar_b false) ⟨rfl, rfl⟩ dL_isQuick_85
      · replace hf := ifT c_5 hf
        refine ww_aload_n C dL_isQuick_68 rfl 4 rfl ?_
        refine ww_iload_n C dL_isQuick_69 rfl 3 rfl ?_
        refine ww_iload C dL_isQuick_70 1 rfl ?_
        refine ww_bipush (v := 9) C dL_isQuick_72 (by decide) ?_
        obtain ⟨p74, hp74, hf⟩ := bdE hf
        refine ww_callV C (As := [.int p6, .int p27, .int 9]) (st := []) (gr := [wSight E a2 p15.2]) (c_X8_hiding (E := E) (a0 := a0) (h0_1 := h0_1) (h0_2 := h0_2) (h0_3 := a2 0) (h0_4 := h0_4) (h0_5 := h0_5) (h0_7 := h0_7) (h0_8 := h0_8) (h0_9 := h0_9) (a1 := a1) (a2 := a3) hp74) gL_isQuick_X8_hiding rfl yk_X8_hiding ⟨by decide, Nat.le_of_ble_eq_true rfl⟩ ⟨by decide, by decide⟩ clOK8 0 0 rfl rfl [0, 1, 3] [2] 4 rfl (by decide) rfl rfl (Nat.le_of_ble_eq_true rfl) dL_isQuick_74 ?_
        rintro _ _ ⟨rfl, rfl⟩
        refine ww_perm (gs' := [wGW E a0 (rf10 (a1 0) h0_1 h0_2 (a2 0) h0_4 h0_5 (a3 0) h0_7 h0_8 h0_9) v0, wHouse E a1 v1, wSight E a2 p15.2, wIntr E a3 p74.2]) [0, 1, 3, 2] 4 rfl (by decide) rfl ?_
        refine ww_if_ne (tgt := 84) C dL_isQuick_77 (by decide) (fun c_6 => ?_) (fun c_6 => ?_)
        · replace hf := ifF c_6 hf
          refine ww_iconst (v := 0) C dL_isQuick_84 (by decide) ?_
          obtain rfl := Option.some.inj hf
          exact ww_zret C (nar_b false) ⟨rfl, rfl⟩ dL_isQuick_85
        · replace hf := ifT c_6 hf
          refine ww_iconst (v := 1) C dL_isQuick_80 (by decide) ?_
          refine ww_goto (tgt := 85) C dL_isQuick_81 (by decide) ?_
          obtain rfl := Option.some.inj hf
          exact ww_zret C (nar_b true) ⟨rfl, rfl⟩ dL_isQuick_85

theorem ysk_L_isQuick : yL_isQuick.cls ≠ "java/lang/invoke/MethodHandle" ∧ yL_isQuick.cls ≠ "java/lang/invoke/VarHandle" ∧ (parseMethodDescriptor yL_isQuick.desc).map (fun d => d.parameters.length) = some 2 := by decide +kernel
