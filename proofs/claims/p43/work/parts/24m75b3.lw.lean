abbrev rmL_isSound : Room := { frames := 7, cells := 0, slots := 0, locals := 174 }
set_option maxHeartbeats 4000000 in
set_option maxRecDepth 100000 in
theorem w_L_isSound_231 {E : Ex} {K : Kx} (C : Cx E K cL_isSound 10 (some .boolean) RL wsL_isSound rmL_isSound) {a0 : Nat → Nat} {a1 : Nat → Nat} {a2 : Nat → Nat} {a3 : Nat → Nat} {h0_1 h0_2 h0_4 h0_5 h0_7 h0_8 h0_9 : Nat} {x1 : Int32} {v0 : GWV} {v1 : HouseV}   {x2 : Int32} {x3 : Int32} {x4 : Int32} {v2 : SightV} {v3 : IntrV} {k11 : Int32 → Int32 → SightV → IntrV → Option (Bool × SightV × IntrV)} {r : (Bool × SightV × IntrV)} (hk11 : ∀  (x3 : Int32) (x4 : Int32) (v2 : SightV) (v3 : IntrV), k11 x3 x4 v2 v3 = some r → WW E K 0 0 (QQ E K (fun rv g => rv = some (.int (b2i r.1)) ∧ g = [wGW E a0 (rf10 (a1 0) h0_1 h0_2 (a2 0) h0_4 h0_5 (a3 0) h0_7 h0_8 h0_9) v0, wHouse E a1 v1, wSight E a2 r.2.1, wIntr E a3 r.2.2]) 0 0) 11 [(0, .ref (a0 0)), (1, .int x1), (2, .int x2), (3, .int x3), (4, .int x4)] [] [wGW E a0 (rf10 (a1 0) h0_1 h0_2 (a2 0) h0_4 h0_5 (a3 0) h0_7 h0_8 h0_9) v0, wHouse E a1 v1, wSight E a2 v2, wIntr E a3 v3]) (hf : L_isSound_231 x1 v0 v1 k11 x2 x3 x4 v2 v3 = some r) : WW E K 0 0 (QQ E K (fun rv g => rv = some (.int (b2i r.1)) ∧ g = [wGW E a0 (rf10 (a1 0) h0_1 h0_2 (a2 0) h0_4 h0_5 (a3 0) h0_7 h0_8 h0_9) v0, wHouse E a1 v1, wSight E a2 r.2.1, wIntr E a3 r.2.2]) 0 0) 231 [(0, .ref (a0 0)), (1, .int x1), (2, .int x2), (3, .int x3), (4, .int x4)] [] [wGW E a0 (rf10 (a1 0) h0_1 h0_2 (a2 0) h0_4 h0_5 (a3 0) h0_7 h0_8 h0_9) v0, wHouse E a1 v1, wSight E a2 v2, wIntr E a3 v3] := by
  rw [L_isSound_231] at hf
  refine ww_aload_n C dL_isSound_231 rfl 0 rfl ?_
  refine ww_iload C dL_isSound_232 4 rfl ?_
  refine ww_bipush (v := 6) C dL_isSound_234 (by decide) ?_
  obtain ⟨p236, hp236, hf⟩ := bdE hf
  refine ww_callV C (As := [.int x4, .int 6]) (st := []) (gr := [wIntr E a3 v3]) (c_X8_room (E := E) (a0 := a0) (h0_1 := h0_1) (h0_2 := h0_2) (h0_4 := h0_4) (h0_5 := h0_5) (h0_6 := a3 0) (h0_7 := h0_7) (h0_8 := h0_8) (h0_9 := h0_9) (a1 := a1) (a2 := a2) hp236) gL_isSound_X8_room rfl yk_X8_room ⟨by decide, Nat.le_of_ble_eq_true rfl⟩ ⟨by decide, by decide⟩ clOK8 0 0 rfl rfl [0, 1, 2] [3] 4 rfl (by decide) rfl rfl (Nat.le_of_ble_eq_true rfl) dL_isSound_236 ?_
  rintro _ _ ⟨rfl, rfl⟩
  refine ww_perm (gs' := [wGW E a0 (rf10 (a1 0) h0_1 h0_2 (a2 0) h0_4 h0_5 (a3 0) h0_7 h0_8 h0_9) v0, wHouse E a1 v1, wSight E a2 p236.2, wIntr E a3 v3]) [0, 1, 2, 3] 4 rfl (by decide) rfl ?_
  refine ww_aload_n C dL_isSound_239 rfl 0 rfl ?_
  refine ww_iload C dL_isSound_240 4 rfl ?_
  refine ww_bipush (v := 7) C dL_isSound_242 (by decide) ?_
  obtain ⟨p244, hp244, hf⟩ := bdE hf
  refine ww_callV C (As := [.int x4, .int 7]) (st := [.int p236.1]) (gr := [wIntr E a3 v3]) (c_X8_room (E := E) (a0 := a0) (h0_1 := h0_1) (h0_2 := h0_2) (h0_4 := h0_4) (h0_5 := h0_5) (h0_6 := a3 0) (h0_7 := h0_7) (h0_8 := h0_8) (h0_9 := h0_9) (a1 := a1) (a2 := a2) hp244) gL_isSound_X8_room rfl yk_X8_room ⟨by decide, Nat.le_of_ble_eq_true rfl⟩ ⟨by decide, by decide⟩ clOK8 0 0 rfl rfl [0, 1, 2] [3] 4 rfl (by decide) rfl rfl (Nat.le_of_ble_eq_true rfl) dL_isSound_244 ?_
  rintro _ _ ⟨rfl, rfl⟩
  refine ww_perm (gs' := [wGW E a0 (rf10 (a1 0) h0_1 h0_2 (a2 0) h0_4 h0_5 (a3 0) h0_7 h0_8 h0_9) v0, wHouse E a1 v1, wSight E a2 p244.2, wIntr E a3 v3]) [0, 1, 2, 3] 4 rfl (by decide) rfl ?_
  refine ww_icmp_gt (tgt := 265) C dL_isSound_247 (by decide) (fun c_21 => ?_) (fun c_21 => ?_)
  · replace hf := ifT c_21 hf
    refine ww_iconst (v := 0) C dL_isSound_265 (by decide) ?_
    obtain rfl := Option.some.inj hf
    exact ww_zret C (nar_b false) ⟨rfl, rfl⟩ dL_isSound_266
  · replace hf := ifF c_21 hf
    refine ww_aload_n C dL_isSound_250 rfl 0 rfl ?_
    refine ww_iload C dL_isSound_251 4 rfl ?_
    refine ww_iconst (v := 5) C dL_isSound_253 (by decide) ?_
    obtain ⟨p254, hp254, hf⟩ := bdE hf
    refine ww_callV C (As := [.int x4, .int 5]) (st := []) (gr := [wIntr E a3 v3]) (c_X8_room (E := E) (a0 := a0) (h0_1 := h0_1) (h0_2 := h0_2) (h0_4 := h0_4) (h0_5 := h0_5) (h0_6 := a3 0) (h0_7 := h0_7) (h0_8 := h0_8) (h0_9 := h0_9) (a1 := a1) (a2 := a2) hp254) gL_isSound_X8_room rfl yk_X8_room ⟨by decide, Nat.le_of_ble_eq_true rfl⟩ ⟨by decide, by decide⟩ clOK8 0 0 rfl rfl [0, 1, 2] [3] 4 rfl (by decide) rfl rfl (Nat.le_of_ble_eq_true rfl) dL_isSound_254 ?_
    rintro _ _ ⟨rfl, rfl⟩
    refine ww_perm (gs' := [wGW E a0 (rf10 (a1 0) h0_1 h0_2 (a2 0) h0_4 h0_5 (a3 0) h0_7 h0_8 h0_9) v0, wHouse E a1 v1, wSight E a2 p254.2, wIntr E a3 v3]) [0, 1, 2, 3] 4 rfl (by decide) rfl ?_
    refine ww_aload_n C dL_isSound_257 rfl 0 rfl ?_
    refine ww_iconst (v := 4) C dL_isSound_258 (by decide) ?_
    obtain ⟨p259, hp259, hf⟩ := bdE hf
    refine ww_callV C (As := [.int 4]) (st := [.int p254.1]) (gr := [wIntr E a3 v3]) (c_X8_size (E := E) (a0 := a0) (h0_1 := h0_1) (h0_2 := h0_2) (h0_4 := h0_4) (h0_5 := h0_5) (h0_6 := a3 0) (h0_7 := h0_7) (h0_8 := h0_8) (h0_9 := h0_9) (a1 := a1) (a2 := a2) hp259) gL_isSound_X8_size rfl yk_X8_size ⟨by decide, Nat.le_of_ble_eq_true rfl⟩ ⟨by decide, by decide⟩ clOK8 0 0 rfl rfl [0, 1, 2] [3] 4 rfl (by decide) rfl rfl (Nat.le_of_ble_eq_true rfl) dL_isSound_259 ?_
    rintro _ _ ⟨rfl, rfl⟩
    refine ww_perm (gs' := [wGW E a0 (rf10 (a1 0) h0_1 h0_2 (a2 0) h0_4 h0_5 (a3 0) h0_7 h0_8 h0_9) v0, wHouse E a1 v1, wSight E a2 p259.2, wIntr E a3 v3]) [0, 1, 2, 3] 4 rfl (by decide) rfl ?_
    refine ww_icmp_lt (tgt := 267) C dL_isSound_262 (by decide) (fun c_22 => ?_) (fun c_22 => ?_)
    · replace hf := ifT c_22 hf
      obtain ⟨x4_267, e_x4_267⟩ : ∃ y : Int32, y = x4 + 1 := ⟨_, rfl⟩
      replace hf := ltE e_x4_267 hf
      refine ww_iinc (v := x4_267) (lv' := [(4, .int x4_267), (0, .ref (a0 0)), (1, .int x1), (2, .int x2), (3, .int x3)]) C dL_isSound_267 4 rfl (by rw [e_x4_267]; rfl) (by decide) rfl ?_
      refine ww_goto (tgt := 11) C dL_isSound_270 (by decide) ?_
      refine ww_sub C (lv' := [(0, .ref (a0 0)), (1, .int x1), (2, .int x2), (3, .int x3), (4, .int x4_267)]) [1, 2, 3, 4, 0] rfl ?_
      exact hk11 _ _ _ _ hf
    · replace hf := ifF c_22 hf
      refine ww_iconst (v := 0) C dL_isSound_265 (by decide) ?_
      obtain rfl := Option.some.inj hf
      exact ww_zret C (nar_b false) ⟨rfl, rfl⟩ dL_isSound_266

set_option maxHeartbeats 4000000 in
set_option maxRecDepth 100000 in
theorem w_L_isSound_150 {E : Ex} {K : Kx} (C : Cx E K cL_isSound 10 (some .boolean) RL wsL_isSound rmL_isSound) {a0 : Nat → Nat} {a1 : Nat → Nat} {a2 : Nat → Nat} {a3 : Nat → Nat} {h0_1 h0_2 h0_4 h0_5 h0_7 h0_8 h0_9 : Nat} {x1 : Int32} {v0 : GWV} {v1 : HouseV} {x2 : Int32} {x3 : Int32} {x4 : Int32} {x5 : Int32} {x6 : Int32} {k11 : Int32 → Int32 → SightV → IntrV → Option (Bool × SightV × IntrV)} {r : (Bool × SightV × IntrV)} (hk11 : ∀  (x3 : Int32) (x4 : Int32) (v2 : SightV) (v3 : IntrV), k11 x3 x4 v2 v3 = some r → WW E K 0 0 (QQ E K (fun rv g => rv = some (.int (b2i r.1)) ∧ g = [wGW E a0 (rf10 (a1 0) h0_1 h0_2 (a2 0) h0_4 h0_5 (a3 0) h0_7 h0_8 h0_9) v0, wHouse E a1 v1, wSight E a2 r.2.1, wIntr E a3 r.2.2]) 0 0) 11 [(0, .ref (a0 0)), (1, .int x1), (2, .int x2), (3, .int x3), (4, .int x4)] [] [wGW E a0 (rf10 (a1 0) h0_1 h0_2 (a2 0) h0_4 h0_5 (a3 0) h0_7 h0_8 h0_9) v0, wHouse E a1 v1, wSight E a2 v2, wIntr E a3 v3]) : ∀ (n : Nat)  (x7 : Int32) (v2 : SightV) (v3 : IntrV), L_isSound_150 x1 v0 v1 x2 x3 x4 x5 x6 k11 n x7 v2 v3 = some r → WW E K 0 0 (QQ E K (fun rv g => rv = some (.int (b2i r.1)) ∧ g = [wGW E a0 (rf10 (a1 0) h0_1 h0_2 (a2 0) h0_4 h0_5 (a3 0) h0_7 h0_8 h0_9) v0, wHouse E a1 v1, wSight E a2 r.2.1, wIntr E a3 r.2.2]) 0 0) 150 [(0, .ref (a0 0)), (1, .int x1), (2, .int x2), (3, .int x3), (4, .int x4), (5, .int x5), (6, .int x6), (7, .int x7)] [] [wGW E a0 (rf10 (a1 0) h0_1 h0_2 (a2 0) h0_4 h0_5 (a3 0) h0_7 h0_8 h0_9) v0, wHouse E a1 v1, wSight E a2 v2, wIntr E a3 v3] := by
  intro n
  induction n with
  | zero =>
    intro  x7 v2 v3 hf
    simp [L_isSound_150] at hf
  | succ n ih =>
    intro  x7 v2 v3 hf
    rw [L_isSound_150] at hf
    refine ww_iload C dL_isSound_150 7 rfl ?_
    refine ww_iload C dL_isSound_152 5 rfl ?_
    refine ww_icmp_ge (tgt := 179) C dL_isSound_154 (by decide) (fun c_15 => ?_) (fun c_15 => ?_)
    · replace hf := ifT c_15 hf
      refine ww_iload C dL_isSound_179 5 rfl ?_
      refine ww_if_le (tgt := 231) C dL_isSound_181 (by decide) (fun c_16 => ?_) (fun c_16 => ?_)
      · replace hf := ifT c_16 hf
        refine ww_sub C (lv' := [(0, .ref (a0 0)), (1, .int x1), (2, .int x2), (3, .int x3), (4, .int x4)]) [0, 1, 2, 3, 4] rfl ?_
        exact w_L_isSound_231 C (k11 := k11) hk11 hf
      · replace hf := ifF c_16 hf
        refine ww_aload_n C dL_isSound_184 rfl 0 rfl ?_
        refine ww_iload C dL_isSound_185 4 rfl ?_
        refine ww_iload C dL_isSound_187 6 rfl ?_
        refine ww_iload C dL_isSound_189 5 rfl ?_
        refine ww_iadd C dL_isSound_191 ?_
        obtain ⟨p192, hp192, hf⟩ := bdE hf
        refine ww_callV C (As := [.int x4, .int (x6 + x5)]) (st := []) (gr := [wSight E a2 v2, wIntr E a3 v3]) (c_X8_guardsIn (E := E) (a0 := a0) (h0_1 := h0_1) (h0_2 := h0_2) (h0_3 := a2 0) (h0_4 := h0_4) (h0_5 := h0_5) (h0_6 := a3 0) (h0_7 := h0_7) (h0_8 := h0_8) (h0_9 := h0_9) (a1 := a1) hp192) gL_isSound_X8_guardsIn rfl yk_X8_guardsIn ⟨by decide, Nat.le_of_ble_eq_true rfl⟩ ⟨by decide, by decide⟩ clOK8 0 0 rfl rfl [0, 1] [2, 3] 4 rfl (by decide) rfl rfl (Nat.le_of_ble_eq_true rfl) dL_isSound_192 ?_
        rintro _ _ ⟨rfl, rfl⟩
        refine ww_perm (gs' := [wGW E a0 (rf10 (a1 0) h0_1 h0_2 (a2 0) h0_4 h0_5 (a3 0) h0_7 h0_8 h0_9) v0, wHouse E a1 v1, wSight E a2 v2, wIntr E a3 v3]) [0, 1, 2, 3] 4 rfl (by decide) rfl ?_
        refine ww_if_eq (tgt := 229) C dL_isSound_195 (by decide) (fun c_17 => ?_) (fun c_17 => ?_)
        · replace hf := ifT c_17 hf
          refine ww_iconst (v := 0) C dL_isSound_229 (by decide) ?_
          obtain rfl := Option.some.inj hf
          exact ww_zret C (nar_b false) ⟨rfl, rfl⟩ dL_isSound_230
        · replace hf := ifF c_17 hf
          refine ww_aload_n C dL_isSound_198 rfl 0 rfl ?_
          refine ww_iload C dL_isSound_199 4 rfl ?_
          refine ww_iload C dL_isSound_201 6 rfl ?_
          refine ww_iload_n C dL_isSound_203 rfl 2 rfl ?_
          refine ww_iadd C dL_isSound_204 ?_
          refine ww_iconst (v := 1) C dL_isSound_205 (by decide) ?_
          refine ww_isub C dL_isSound_206 ?_
          obtain ⟨p207, hp207, hf⟩ := bdE hf
          refine ww_callV C (As := [.int x4, .int ((x6 + x2) - 1)]) (st := []) (gr := [wSight E a2 v2, wIntr E a3 v3]) (c_X8_guardsIn (E := E) (a0 := a0) (h0_1 := h0_1) (h0_2 := h0_2) (h0_3 := a2 0) (h0_4 := h0_4) (h0_5 := h0_5) (h0_6 := a3 0) (h0_7 := h0_7) (h0_8 := h0_8) (h0_9 := h0_9) (a1 := a1) hp207) gL_isSound_X8_guardsIn rfl yk_X8_guardsIn ⟨by decide, Nat.le_of_ble_eq_true rfl⟩ ⟨by decide, by decide⟩ clOK8 0 0 rfl rfl [0, 1] [2, 3] 4 rfl (by decide) rfl rfl (Nat.le_of_ble_eq_true rfl) dL_isSound_207 ?_
          rintro _ _ ⟨rfl, rfl⟩
          refine ww_perm (gs' := [wGW E a0 (rf10 (a1 0) h0_1 h0_2 (a2 0) h0_4 h0_5 (a3 0) h0_7 h0_8 h0_9) v0, wHouse E a1 v1, wSight E a2 v2, wIntr E a3 v3]) [0, 1, 2, 3] 4 rfl (by decide) rfl ?_
          refine ww_if_eq (tgt := 229) C dL_isSound_210 (by decide) (fun c_18 => ?_) (fun c_18 => ?_)
          · replace hf := ifT c_18 hf
            refine ww_iconst (v := 0) C dL_isSound_229 (by decide) ?_
            obtain rfl := Option.some.inj hf
            exact ww_zret C (nar_b false) ⟨rfl, rfl⟩ dL_isSound_230
          · replace hf := ifF c_18 hf
            refine ww_aload_n C dL_isSound_213 rfl 0 rfl ?_
            refine ww_iload C dL_isSound_214 4 rfl ?_
            refine ww_iload C dL_isSound_216 6 rfl ?_
            obtain ⟨p218, hp218, hf⟩ := bdE hf
            refine ww_callV C (As := [.int x4, .int x6]) (st := []) (gr := [wSight E a2 v2, wIntr E a3 v3]) (c_X8_nextSeen (E := E) (a0 := a0) (h0_1 := h0_1) (h0_2 := h0_2) (h0_3 := a2 0) (h0_4 := h0_4) (h0_5 := h0_5) (h0_6 := a3 0) (h0_7 := h0_7) (h0_8 := h0_8) (h0_9 := h0_9) (a1 := a1) hp218) gL_isSound_X8_nextSeen rfl yk_X8_nextSeen ⟨by decide, Nat.le_of_ble_eq_true rfl⟩ ⟨by decide, by decide⟩ clOK8 0 0 rfl rfl [0, 1] [2, 3] 4 rfl (by decide) rfl rfl (Nat.le_of_ble_eq_true rfl) dL_isSound_218 ?_
            rintro _ _ ⟨rfl, rfl⟩
            refine ww_perm (gs' := [wGW E a0 (rf10 (a1 0) h0_1 h0_2 (a2 0) h0_4 h0_5 (a3 0) h0_7 h0_8 h0_9) v0, wHouse E a1 v1, wSight E a2 v2, wIntr E a3 v3]) [0, 1, 2, 3] 4 rfl (by decide) rfl ?_
            refine ww_iload C dL_isSound_221 6 rfl ?_
            refine ww_iload C dL_isSound_223 5 rfl ?_
            refine ww_iadd C dL_isSound_225 ?_
            refine ww_icmp_eq (tgt := 231) C dL_isSound_226 (by decide) (fun c_19 => ?_) (fun c_19 => ?_)
            · replace hf := ifT c_19 hf
              refine ww_sub C (lv' := [(0, .ref (a0 0)), (1, .int x1), (2, .int x2), (3, .int x3), (4, .int x4)]) [0, 1, 2, 3, 4] rfl ?_
              exact w_L_isSound_231 C (k11 := k11) hk11 hf
            · replace hf := ifF c_19 hf
              refine ww_iconst (v := 0) C dL_isSound_229 (by decide) ?_
              obtain rfl := Option.some.inj hf
              exact ww_zret C (nar_b false) ⟨rfl, rfl⟩ dL_isSound_230
    · replace hf := ifF c_15 hf
      refine ww_aload_n C dL_isSound_157 rfl 0 rfl ?_
      refine ww_iload C dL_isSound_158 4 rfl ?_
      refine ww_iload C dL_isSound_160 6 rfl ?_
      refine ww_iload C dL_isSound_162 7 rfl ?_
      refine ww_iadd C dL_isSound_164 ?_
      obtain ⟨p165, hp165, hf⟩ := bdE hf
      refine ww_callV C (As := [.int x4, .int (x6 + x7)]) (st := []) (gr := [wSight E a2 v2, wIntr E a3 v3]) (c_X8_guardsIn (E := E) (a0 := a0) (h0_1 := h0_1) (h0_2 := h0_2) (h0_3 := a2 0) (h0_4 := h0_4) (h0_5 := h0_5) (h0_6 := a3 0) (h0_7 := h0_7) (h0_8 := h0_8) (h0_9 := h0_9) (a1 := a1) hp165) gL_isSound_X8_guardsIn rfl yk_X8_guardsIn ⟨by decide, Nat.le_of_ble_eq_true rfl⟩ ⟨by decide, by decide⟩ clOK8 0 0 rfl rfl [0, 1] [2, 3] 4 rfl (by decide) rfl rfl (Nat.le_of_ble_eq_true rfl) dL_isSound_165 ?_
      rintro _ _ ⟨rfl, rfl⟩
      refine ww_perm (gs' := [wGW E a0 (rf10 (a1 0) h0_1 h0_2 (a2 0) h0_4 h0_5 (a3 0) h0_7 h0_8 h0_9) v0, wHouse E a1 v1, wSight E a2 v2, wIntr E a3 v3]) [0, 1, 2, 3] 4 rfl (by decide) rfl ?_
      refine ww_if_eq (tgt := 173) C dL_isSound_168 (by decide) (fun c_20 => ?_) (fun c_20 => ?_)
      · replace hf := ifT c_20 hf
        obtain ⟨x7_173, e_x7_173⟩ : ∃ y : Int32, y = x7 + 1 := ⟨_, rfl⟩
        replace hf := ltE e_x7_173 hf
        refine ww_iinc (v := x7_173) (lv' := [(7, .int x7_173), (0, .ref (a0 0)), (1, .int x1), (2, .int x2), (3, .int x3), (4, .int x4), (5, .int x5), (6, .int x6)]) C dL_isSound_173 7 rfl (by rw [e_x7_173]; rfl) (by decide) rfl ?_
        refine ww_goto (tgt := 150) C dL_isSound_176 (by decide) ?_
        refine ww_sub C (lv' := [(0, .ref (a0 0)), (1, .int x1), (2, .int x2), (3, .int x3), (4, .int x4), (5, .int x5), (6, .int x6), (7, .int x7_173)]) [1, 2, 3, 4, 5, 6, 7, 0] rfl ?_
        exact ih _ _ _ hf
      · replace hf := ifF c_20 hf
        refine ww_iconst (v := 0) C dL_isSound_171 (by decide) ?_
        obtain rfl := Option.some.inj hf
        exact ww_zret C (nar_b false) ⟨rfl, rfl⟩ dL_isSound_172

set_option maxHeartbeats 4000000 in
set_option maxRecDepth 100000 in
theorem w_L_isSound_142 {E : Ex} {K : Kx} (C : Cx E K cL_isSound 10 (some .boolean) RL wsL_isSound rmL_isSound) {a0 : Nat → Nat} {a1 : Nat → Nat} {a2 : Nat → Nat} {a3 : Nat → Nat} {h0_1 h0_2 h0_4 h0_5 h0_7 h0_8 h0_9 : Nat} {x1 : Int32} {v0 : GWV} {v1 : HouseV}   {x2 : Int32} {x3 : Int32} {x4 : Int32} {x5 : Int32} {x6 : Int32} {s0 : Int32} {s1 : Int32} {v2 : SightV} {v3 : IntrV} {k11 : Int32 → Int32 → SightV → IntrV → Option (Bool × SightV × IntrV)} {r : (Bool × SightV × IntrV)} (hk11 : ∀  (x3 : Int32) (x4 : Int32) (v2 : SightV) (v3 : IntrV), k11 x3 x4 v2 v3 = some r → WW E K 0 0 (QQ E K (fun rv g => rv = some (.int (b2i r.1)) ∧ g = [wGW E a0 (rf10 (a1 0) h0_1 h0_2 (a2 0) h0_4 h0_5 (a3 0) h0_7 h0_8 h0_9) v0, wHouse E a1 v1, wSight E a2 r.2.1, wIntr E a3 r.2.2]) 0 0) 11 [(0, .ref (a0 0)), (1, .int x1), (2, .int x2), (3, .int x3), (4, .int x4)] [] [wGW E a0 (rf10 (a1 0) h0_1 h0_2 (a2 0) h0_4 h0_5 (a3 0) h0_7 h0_8 h0_9) v0, wHouse E a1 v1, wSight E a2 v2, wIntr E a3 v3]) (hf : L_isSound_142 x1 v0 v1 k11 x2 x3 x4 x5 x6 s0 s1 v2 v3 = some r) : WW E K 0 0 (QQ E K (fun rv g => rv = some (.int (b2i r.1)) ∧ g = [wGW E a0 (rf10 (a1 0) h0_1 h0_2 (a2 0) h0_4 h0_5 (a3 0) h0_7 h0_8 h0_9) v0, wHouse E a1 v1, wSight E a2 r.2.1, wIntr E a3 r.2.2]) 0 0) 142 [(0, .ref (a0 0)), (1, .int x1), (2, .int x2), (3, .int x3), (4, .int x4), (5, .int x5), (6, .int x6)] [.int s0, .int s1] [wGW E a0 (rf10 (a1 0) h0_1 h0_2 (a2 0) h0_4 h0_5 (a3 0) h0_7 h0_8 h0_9) v0, wHouse E a1 v1, wSight E a2 v2, wIntr E a3 v3] := by
  rw [L_isSound_142] at hf
  refine ww_icmp_eq (tgt := 147) C dL_isSound_142 (by decide) (fun c_14 => ?_) (fun c_14 => ?_)
  · replace hf := ifT c_14 hf
    refine ww_iconst (v := 0) C dL_isSound_147 (by decide) ?_
    refine ww_istore (lv' := [(7, .int 0), (0, .ref (a0 0)), (1, .int x1), (2, .int x2), (3, .int x3), (4, .int x4), (5, .int x5), (6, .int x6)]) C dL_isSound_148 (by decide) rfl ?_
    refine ww_sub C (lv' := [(0, .ref (a0 0)), (1, .int x1), (2, .int x2), (3, .int x3), (4, .int x4), (5, .int x5), (6, .int x6), (7, .int 0)]) [1, 2, 3, 4, 5, 6, 7, 0] rfl ?_
    exact w_L_isSound_150 C (k11 := k11) hk11 FU _ _ _ hf
  · replace hf := ifF c_14 hf
    refine ww_iconst (v := 0) C dL_isSound_145 (by decide) ?_
    obtain rfl := Option.some.inj hf
    exact ww_zret C (nar_b false) ⟨rfl, rfl⟩ dL_isSound_146

set_option maxHeartbeats 4000000 in
set_option maxRecDepth 100000 in
theorem w_L_isSound_137 {E : Ex} {K : Kx} (C : Cx E K cL_isSound 10 (some .boolean) RL wsL_isSound rmL_isSound) {a0 : Nat → Nat} {a1 : Nat → Nat} {a2 : Nat → Nat} {a3 : Nat → Nat} {h0_1 h0_2 h0_4 h0_5 h0_7 h0_8 h0_9 : Nat} {x1 : Int32} {v0 : GWV} {v1 : HouseV}   {x2 : Int32} {x3 : Int32} {x4 : Int32} {x5 : Int32} {x6 : Int32} {s0 : Int32} {v2 : SightV} {v3 : IntrV} {k11 : Int32 → Int32 → SightV → IntrV → Option (Bool × SightV × IntrV)} {r : (Bool × SightV × IntrV)} (hk11 : ∀  (x3 : Int32) (x4 : Int32) (v2 : SightV) (v3 : IntrV), k11 x3 x4 v2 v3 = some r → WW E K 0 0 (QQ E K (fun rv g => rv = some (.int (b2i r.1)) ∧ g = [wGW E a0 (rf10 (a1 0) h0_1 h0_2 (a2 0) h0_4 h0_5 (a3 0) h0_7 h0_8 h0_9) v0, wHouse E a1 v1, wSight E a2 r.2.1, wIntr E a3 r.2.2]) 0 0) 11 [(0, .ref (a0 0)), (1, .int x1), (2, .int x2), (3, .int x3), (4, .int x4)] [] [wGW E a0 (rf10 (a1 0) h0_1 h0_2 (a2 0) h0_4 h0_5 (a3 0) h0_7 h0_8 h0_9) v0, wHouse E a1 v1, wSight E a2 v2, wIntr E a3 v3]) (hf : L_isSound_137 x1 v0 v1 k11 x2 x3 x4 x5 x6 s0 v2 v3 = some r) : WW E K 0 0 (QQ E K (fun rv g => rv = some (.int (b2i r.1)) ∧ g = [wGW E a0 (rf10 (a1 0) h0_1 h0_2 (a2 0) h0_4 h0_5 (a3 0) h0_7 h0_8 h0_9) v0, wHouse E a1 v1, wSight E a2 r.2.1, wIntr E a3 r.2.2]) 0 0) 137 [(0, .ref (a0 0)), (1, .int x1), (2, .int x2), (3, .int x3), (4, .int x4), (5, .int x5), (6, .int x6)] [.int s0] [wGW E a0 (rf10 (a1 0) h0_1 h0_2 (a2 0) h0_4 h0_5 (a3 0) h0_7 h0_8 h0_9) v0, wHouse E a1 v1, wSight E a2 v2, wIntr E a3 v3] := by
  rw [L_isSound_137] at hf
  refine ww_iconst (v := 1) C dL_isSound_137 (by decide) ?_
  refine ww_goto (tgt := 142) C dL_isSound_138 (by decide) ?_
  refine ww_sub C (lv' := [(0, .ref (a0 0)), (1, .int x1), (2, .int x2), (3, .int x3), (4, .int x4), (5, .int x5), (6, .int x6)]) [0, 1, 2, 3, 4, 5, 6] rfl ?_
  exact w_L_isSound_142 C (k11 := k11) hk11 hf

set_option maxHeartbeats 4000000 in
set_option maxRecDepth 100000 in
theorem w_L_isSound_120 {E : Ex} {K : Kx} (C : Cx E K cL_isSound 10 (some .boolean) RL wsL_isSound rmL_isSound) {a0 : Nat → Nat} {a1 : Nat → Nat} {a2 : Nat → Nat} {a3 : Nat → Nat} {h0_1 h0_2 h0_4 h0_5 h0_7 h0_8 h0_9 : Nat} {x1 : Int32} {v0 : GWV} {v1 : HouseV}   {x2 : Int32} {x3 : Int32} {x4 : Int32} {x5 : Int32} {x6 : Int32} {s0 : Int32} {v2 : SightV} {v3 : IntrV} {k11 : Int32 → Int32 → SightV → IntrV → Option (Bool × SightV × IntrV)} {r : (Bool × SightV × IntrV)} (hk11 : ∀  (x3 : Int32) (x4 : Int32) (v2 : SightV) (v3 : IntrV), k11 x3 x4 v2 v3 = some r → WW E K 0 0 (QQ E K (fun rv g => rv = some (.int (b2i r.1)) ∧ g = [wGW E a0 (rf10 (a1 0) h0_1 h0_2 (a2 0) h0_4 h0_5 (a3 0) h0_7 h0_8 h0_9) v0, wHouse E a1 v1, wSight E a2 r.2.1, wIntr E a3 r.2.2]) 0 0) 11 [(0, .ref (a0 0)), (1, .int x1), (2, .int x2), (3, .int x3), (4, .int x4)] [] [wGW E a0 (rf10 (a1 0) h0_1 h0_2 (a2 0) h0_4 h0_5 (a3 0) h0_7 h0_8 h0_9) v0, wHouse E a1 v1, wSight E a2 v2, wIntr E a3 v3]) (hf : L_isSound_120 x1 v0 v1 k11 x2 x3 x4 x5 x6 s0 v2 v3 = some r) : WW E K 0 0 (QQ E K (fun rv g => rv = some (.int (b2i r.1)) ∧ g = [wGW E a0 (rf10 (a1 0) h0_1 h0_2 (a2 0) h0_4 h0_5 (a3 0) h0_7 h0_8 h0_9) v0, wHouse E a1 v1, wSight E a2 r.2.1, wIntr E a3 r.2.2]) 0 0) 120 [(0, .ref (a0 0)), (1, .int x1), (2, .int x2), (3, .int x3), (4, .int x4), (5, .int x5), (6, .int x6)] [.int s0] [wGW E a0 (rf10 (a1 0) h0_1 h0_2 (a2 0) h0_4 h0_5 (a3 0) h0_7 h0_8 h0_9) v0, wHouse E a1 v1, wSight E a2 v2, wIntr E a3 v3] := by
  rw [L_isSound_120] at hf
  refine ww_iload C dL_isSound_120 5 rfl ?_
  refine ww_if_lt (tgt := 137) C dL_isSound_122 (by decide) (fun c_12 => ?_) (fun c_12 => ?_)
  · replace hf := ifT c_12 hf
    refine ww_sub C (lv' := [(0, .ref (a0 0)), (1, .int x1), (2, .int x2), (3, .int x3), (4, .int x4), (5, .int x5), (6, .int x6)]) [0, 1, 2, 3, 4, 5, 6] rfl ?_
    exact w_L_isSound_137 C (k11 := k11) hk11 hf
  · replace hf := ifF c_12 hf
    refine ww_iload C dL_isSound_125 5 rfl ?_
    refine ww_aload_n C dL_isSound_127 rfl 0 rfl ?_
    refine ww_iload C dL_isSound_128 4 rfl ?_
    refine ww_iconst (v := 0) C dL_isSound_130 (by decide) ?_
    obtain ⟨p131, hp131, hf⟩ := bdE hf
    refine ww_callV C (As := [.int x4, .int 0]) (st := [.int x5, .int s0]) (gr := [wIntr E a3 v3]) (c_X8_room (E := E) (a0 := a0) (h0_1 := h0_1) (h0_2 := h0_2) (h0_4 := h0_4) (h0_5 := h0_5) (h0_6 := a3 0) (h0_7 := h0_7) (h0_8 := h0_8) (h0_9 := h0_9) (a1 := a1) (a2 := a2) hp131) gL_isSound_X8_room rfl yk_X8_room ⟨by decide, Nat.le_of_ble_eq_true rfl⟩ ⟨by decide, by decide⟩ clOK8 0 0 rfl rfl [0, 1, 2] [3] 4 rfl (by decide) rfl rfl (Nat.le_of_ble_eq_true rfl) dL_isSound_131 ?_
    rintro _ _ ⟨rfl, rfl⟩
    refine ww_perm (gs' := [wGW E a0 (rf10 (a1 0) h0_1 h0_2 (a2 0) h0_4 h0_5 (a3 0) h0_7 h0_8 h0_9) v0, wHouse E a1 v1, wSight E a2 p131.2, wIntr E a3 v3]) [0, 1, 2, 3] 4 rfl (by decide) rfl ?_
    refine ww_icmp_le (tgt := 141) C dL_isSound_134 (by decide) (fun c_13 => ?_) (fun c_13 => ?_)
    · replace hf := ifT c_13 hf
      refine ww_iconst (v := 0) C dL_isSound_141 (by decide) ?_
      refine ww_sub C (lv' := [(0, .ref (a0 0)), (1, .int x1), (2, .int x2), (3, .int x3), (4, .int x4), (5, .int x5), (6, .int x6)]) [0, 1, 2, 3, 4, 5, 6] rfl ?_
      exact w_L_isSound_142 C (k11 := k11) hk11 hf
    · replace hf := ifF c_13 hf
      refine ww_sub C (lv' := [(0, .ref (a0 0)), (1, .int x1), (2, .int x2), (3, .int x3), (4, .int x4), (5, .int x5), (6, .int x6)]) [0, 1, 2, 3, 4, 5, 6] rfl ?_
      exact w_L_isSound_137 C (k11 := k11) hk11 hf

set_option maxHeartbeats 4000000 in
set_option maxRecDepth 100000 in
theorem w_L_isSound_101 {E : Ex} {K : Kx} (C : Cx E K cL_isSound 10 (some .boolean) RL wsL_isSound rmL_isSound) {a0 : Nat → Nat} {a1 : Nat → Nat} {a2 : Nat → Nat} {a3 : Nat → Nat} {h0_1 h0_2 h0_4 h0_5 h0_7 h0_8 h0_9 : Nat} {x1 : Int32} {v0 : GWV} {v1 : HouseV}   {x2 : Int32} {x3 : Int32} {x4 : Int32} {x5 : Int32} {x6 : Int32} {s0 : Int32} {s1 : Int32} {v2 : SightV} {v3 : IntrV} {k11 : Int32 → Int32 → SightV → IntrV → Option (Bool × SightV × IntrV)} {r : (Bool × SightV × IntrV)} (hk11 : ∀  (x3 : Int32) (x4 : Int32) (v2 : SightV) (v3 : IntrV), k11 x3 x4 v2 v3 = some r → WW E K 0 0 (QQ E K (fun rv g => rv = some (.int (b2i r.1)) ∧ g = [wGW E a0 (rf10 (a1 0) h0_1 h0_2 (a2 0) h0_4 h0_5 (a3 0) h0_7 h0_8 h0_9) v0, wHouse E a1 v1, wSight E a2 r.2.1, wIntr E a3 r.2.2]) 0 0) 11 [(0, .ref (a0 0)), (1, .int x1), (2, .int x2), (3, .int x3), (4, .int x4)] [] [wGW E a0 (rf10 (a1 0) h0_1 h0_2 (a2 0) h0_4 h0_5 (a3 0) h0_7 h0_8 h0_9) v0, wHouse E a1 v1, wSight E a2 v2, wIntr E a3 v3]) (hf : L_isSound_101 x1 v0 v1 k11 x2 x3 x4 x5 x6 s0 s1 v2 v3 = some r) : WW E K 0 0 (QQ E K (fun rv g => rv = some (.int (b2i r.1)) ∧ g = [wGW E a0 (rf10 (a1 0) h0_1 h0_2 (a2 0) h0_4 h0_5 (a3 0) h0_7 h0_8 h0_9) v0, wHouse E a1 v1, wSight E a2 r.2.1, wIntr E a3 r.2.2]) 0 0) 101 [(0, .ref (a0 0)), (1, .int x1), (2, .int x2), (3, .int x3), (4, .int x4), (5, .int x5), (6, .int x6)] [.int s0, .int s1] [wGW E a0 (rf10 (a1 0) h0_1 h0_2 (a2 0) h0_4 h0_5 (a3 0) h0_7 h0_8 h0_9) v0, wHouse E a1 v1, wSight E a2 v2, wIntr E a3 v3] := by
  rw [L_isSound_101] at hf
  refine ww_icmp_ne (tgt := 145) C dL_isSound_101 (by decide) (fun c_10 => ?_) (fun c_10 => ?_)
  · replace hf := ifF c_10 hf
    refine ww_iconst (v := 0) C dL_isSound_145 (by decide) ?_
    obtain rfl := Option.some.inj hf
    exact ww_zret C (nar_b false) ⟨rfl, rfl⟩ dL_isSound_146
  · replace hf := ifT c_10 hf
    refine ww_aload_n C dL_isSound_104 rfl 0 rfl ?_
    refine ww_iload C dL_isSound_105 4 rfl ?_
    refine ww_iconst (v := 2) C dL_isSound_107 (by decide) ?_
    obtain ⟨p108, hp108, hf⟩ := bdE hf
    refine ww_callV C (As := [.int x4, .int 2]) (st := []) (gr := [wIntr E a3 v3]) (c_X8_room (E := E) (a0 := a0) (h0_1 := h0_1) (h0_2 := h0_2) (h0_4 := h0_4) (h0_5 := h0_5) (h0_6 := a3 0) (h0_7 := h0_7) (h0_8 := h0_8) (h0_9 := h0_9) (a1 := a1) (a2 := a2) hp108) gL_isSound_X8_room rfl yk_X8_room ⟨by decide, Nat.le_of_ble_eq_true rfl⟩ ⟨by decide, by decide⟩ clOK8 0 0 rfl rfl [0, 1, 2] [3] 4 rfl (by decide) rfl rfl (Nat.le_of_ble_eq_true rfl) dL_isSound_108 ?_
    rintro _ _ ⟨rfl, rfl⟩
    refine ww_perm (gs' := [wGW E a0 (rf10 (a1 0) h0_1 h0_2 (a2 0) h0_4 h0_5 (a3 0) h0_7 h0_8 h0_9) v0, wHouse E a1 v1, wSight E a2 p108.2, wIntr E a3 v3]) [0, 1, 2, 3] 4 rfl (by decide) rfl ?_
    refine ww_iconst (v := 1) C dL_isSound_111 (by decide) ?_
    refine ww_icmp_ne (tgt := 119) C dL_isSound_112 (by decide) (fun c_11 => ?_) (fun c_11 => ?_)
    · replace hf := ifF c_11 hf
      refine ww_iconst (v := 0) C dL_isSound_119 (by decide) ?_
      refine ww_sub C (lv' := [(0, .ref (a0 0)), (1, .int x1), (2, .int x2), (3, .int x3), (4, .int x4), (5, .int x5), (6, .int x6)]) [0, 1, 2, 3, 4, 5, 6] rfl ?_
      exact w_L_isSound_120 C (k11 := k11) hk11 hf
    · replace hf := ifT c_11 hf
      refine ww_iconst (v := 1) C dL_isSound_115 (by decide) ?_
      refine ww_goto (tgt := 120) C dL_isSound_116 (by decide) ?_
      refine ww_sub C (lv' := [(0, .ref (a0 0)), (1, .int x1), (2, .int x2), (3, .int x3), (4, .int x4), (5, .int x5), (6, .int x6)]) [0, 1, 2, 3, 4, 5, 6] rfl ?_
      exact w_L_isSound_120 C (k11 := k11) hk11 hf

set_option maxHeartbeats 4000000 in
set_option maxRecDepth 100000 in
theorem w_L_isSound_400 {E : Ex} {K : Kx} (C : Cx E K cL_isSound 10 (some .boolean) RL wsL_isSound rmL_isSound) {a0 : Nat → Nat} {a1 : Nat → Nat} {a2 : Nat → Nat} {a3 : Nat → Nat} {h0_1 h0_2 h0_4 h0_5 h0_7 h0_8 h0_9 : Nat} {x1 : Int32} {v0 : GWV} {v1 : HouseV}   {x4 : Int32} {x5 : Int32} {x6 : Int32} {x7 : Int32} {v2 : SightV} {v3 : IntrV} {k290 : Int32 → Int32 → SightV → IntrV → Option (Bool × SightV × IntrV)} {k350 : Int32 → SightV → IntrV → Option (Bool × SightV × IntrV)} {r : (Bool × SightV × IntrV)} (hk290 : ∀  (x4 : Int32) (x5 : Int32) (v2 : SightV) (v3 : IntrV), k290 x4 x5 v2 v3 = some r → WW E K 0 0 (QQ E K (fun rv g => rv = some (.int (b2i r.1)) ∧ g = [wGW E a0 (rf10 (a1 0) h0_1 h0_2 (a2 0) h0_4 h0_5 (a3 0) h0_7 h0_8 h0_9) v0, wHouse E a1 v1, wSight E a2 r.2.1, wIntr E a3 r.2.2]) 0 0) 290 [(0, .ref (a0 0)), (1, .int x1), (4, .int x4), (5, .int x5)] [] [wGW E a0 (rf10 (a1 0) h0_1 h0_2 (a2 0) h0_4 h0_5 (a3 0) h0_7 h0_8 h0_9) v0, wHouse E a1 v1, wSight E a2 v2, wIntr E a3 v3]) (hk350 : ∀  (x7 : Int32) (v2 : SightV) (v3 : IntrV), k350 x7 v2 v3 = some r → WW E K 0 0 (QQ E K (fun rv g => rv = some (.int (b2i r.1)) ∧ g = [wGW E a0 (rf10 (a1 0) h0_1 h0_2 (a2 0) h0_4 h0_5 (a3 0) h0_7 h0_8 h0_9) v0, wHouse E a1 v1, wSight E a2 r.2.1, wIntr E a3 r.2.2]) 0 0) 350 [(0, .ref (a0 0)), (1, .int x1), (4, .int x4), (5, .int x5), (6, .int x6), (7, .int x7)] [] [wGW E a0 (rf10 (a1 0) h0_1 h0_2 (a2 0) h0_4 h0_5 (a3 0) h0_7 h0_8 h0_9) v0, wHouse E a1 v1, wSight E a2 v2, wIntr E a3 v3]) (hf : L_isSound_400 x1 v0 v1 k290 k350 x4 x5 x6 x7 v2 v3 = some r) : WW E K 0 0 (QQ E K (fun rv g => rv = some (.int (b2i r.1)) ∧ g = [wGW E a0 (rf10 (a1 0) h0_1 h0_2 (a2 0) h0_4 h0_5 (a3 0) h0_7 h0_8 h0_9) v0, wHouse E a1 v1, wSight E a2 r.2.1, wIntr E a3 r.2.2]) 0 0) 400 [(0, .ref (a0 0)), (1, .int x1), (4, .int x4), (5, .int x5), (6, .int x6), (7, .int x7)] [] [wGW E a0 (rf10 (a1 0) h0_1 h0_2 (a2 0) h0_4 h0_5 (a3 0) h0_7 h0_8 h0_9) v0, wHouse E a1 v1, wSight E a2 v2, wIntr E a3 v3] := by
  rw [L_isSound_400] at hf
  refine ww_aload_n C dL_isSound_400 rfl 0 rfl ?_
  refine ww_iload C dL_isSound_401 3 rfl ?_
  refine ww_iload C dL_isSound_403 5 rfl ?_
  obtain ⟨p405, hp405, hf⟩ := bdE hf
  refine ww_callV C (As := [.int x5, .int x7]) (st := []) (gr := [wSight E a2 v2, wIntr E a3 v3]) (c_X8_roomOf (E := E) (a0 := a0) (h0_1 := h0_1) (h0_2 := h0_2) (h0_3 := a2 0) (h0_4 := h0_4) (h0_5 := h0_5) (h0_6 := a3 0) (h0_7 := h0_7) (h0_8 := h0_8) (h0_9 := h0_9) (a1 := a1) hp405) gL_isSound_X8_roomOf rfl yk_X8_roomOf ⟨by decide, Nat.le_of_ble_eq_true rfl⟩ ⟨by decide, by decide⟩ clOK8 0 0 rfl rfl [0, 1] [2, 3] 4 rfl (by decide) rfl rfl (Nat.le_of_ble_eq_true rfl) dL_isSound_405 ?_
  rintro _ _ ⟨rfl, rfl⟩
  refine ww_perm (gs' := [wGW E a0 (rf10 (a1 0) h0_1 h0_2 (a2 0) h0_4 h0_5 (a3 0) h0_7 h0_8 h0_9) v0, wHouse E a1 v1, wSight E a2 v2, wIntr E a3 v3]) [0, 1, 2, 3] 4 rfl (by decide) rfl ?_
  refine ww_aload_n C dL_isSound_408 rfl 0 rfl ?_
  refine ww_iload C dL_isSound_409 3 rfl ?_
  refine ww_iload C dL_isSound_411 5 rfl ?_
  refine ww_aload_n C dL_isSound_413 rfl 0 rfl ?_
  refine ww_iload C dL_isSound_414 3 rfl ?_
  refine ww_iconst (v := 1) C dL_isSound_416 (by decide) ?_
  obtain ⟨p417, hp417, hf⟩ := bdE hf
  refine ww_callV C (As := [.int x5, .int 1]) (st := [.int x7, .int x5, .ref (a0 0), .int p405]) (gr := [wSight E a2 v2, wIntr E a3 v3]) (c_X8_guard (E := E) (a0 := a0) (h0_1 := h0_1) (h0_2 := h0_2) (h0_3 := a2 0) (h0_4 := h0_4) (h0_5 := h0_5) (h0_6 := a3 0) (h0_7 := h0_7) (h0_8 := h0_8) (h0_9 := h0_9) (a1 := a1) hp417) gL_isSound_X8_guard rfl yk_X8_guard ⟨by decide, Nat.le_of_ble_eq_true rfl⟩ ⟨by decide, by decide⟩ clOK8 0 0 rfl rfl [0, 1] [2, 3] 4 rfl (by decide) rfl rfl (Nat.le_of_ble_eq_true rfl) dL_isSound_417 ?_
  rintro _ _ ⟨rfl, rfl⟩
  refine ww_perm (gs' := [wGW E a0 (rf10 (a1 0) h0_1 h0_2 (a2 0) h0_4 h0_5 (a3 0) h0_7 h0_8 h0_9) v0, wHouse E a1 v1, wSight E a2 v2, wIntr E a3 v3]) [0, 1, 2, 3] 4 rfl (by decide) rfl ?_
  refine ww_iadd C dL_isSound_420 ?_
  refine ww_iload C dL_isSound_421 4 rfl ?_
  obtain ⟨g_31, hf⟩ := gdE hf
  refine ww_irem C dL_isSound_423 (nz_ne g_31) ?_
  obtain ⟨p424, hp424, hf⟩ := bdE hf
  refine ww_callV C (As := [.int x5, .int ((x7 + p417) - (x7 + p417) / x6 * x6)]) (st := [.int p405]) (gr := [wSight E a2 v2, wIntr E a3 v3]) (c_X8_walk (E := E) (a0 := a0) (h0_1 := h0_1) (h0_2 := h0_2) (h0_3 := a2 0) (h0_4 := h0_4) (h0_5 := h0_5) (h0_6 := a3 0) (h0_7 := h0_7) (h0_8 := h0_8) (h0_9 := h0_9) (a1 := a1) hp424) gL_isSound_X8_walk rfl yk_X8_walk ⟨by decide, Nat.le_of_ble_eq_true rfl⟩ ⟨by decide, by decide⟩ clOK8 0 0 rfl rfl [0, 1] [2, 3] 4 rfl (by decide) rfl rfl (Nat.le_of_ble_eq_true rfl) dL_isSound_424 ?_
  rintro _ _ ⟨rfl, rfl⟩
  refine ww_perm (gs' := [wGW E a0 (rf10 (a1 0) h0_1 h0_2 (a2 0) h0_4 h0_5 (a3 0) h0_7 h0_8 h0_9) v0, wHouse E a1 v1, wSight E a2 v2, wIntr E a3 v3]) [0, 1, 2, 3] 4 rfl (by decide) rfl ?_
  refine ww_icmp_eq (tgt := 432) C dL_isSound_427 (by decide) (fun c_32 => ?_) (fun c_32 => ?_)
  · replace hf := ifT c_32 hf
    obtain ⟨x7_432, e_x7_432⟩ : ∃ y : Int32, y = x7 + 1 := ⟨_, rfl⟩
    replace hf := ltE e_x7_432 hf
    refine ww_iinc (v := x7_432) (lv' := [(7, .int x7_432), (0, .ref (a0 0)), (1, .int x1), (4, .int x4), (5, .int x5), (6, .int x6)]) C dL_isSound_432 5 rfl (by rw [e_x7_432]; rfl) (by decide) rfl ?_
    refine ww_goto (tgt := 350) C dL_isSound_435 (by decide) ?_
    refine ww_sub C (lv' := [(0, .ref (a0 0)), (1, .int x1), (4, .int x4), (5, .int x5), (6, .int x6), (7, .int x7_432)]) [1, 2, 3, 4, 5, 0] rfl ?_
    exact hk350 _ _ _ hf
  · replace hf := ifF c_32 hf
    refine ww_iconst (v := 0) C dL_isSound_430 (by decide) ?_
    obtain rfl := Option.some.inj hf
    exact ww_zret C (nar_b false) ⟨rfl, rfl⟩ dL_isSound_431

set_option maxHeartbeats 4000000 in
set_option maxRecDepth 100000 in
theorem w_L_isSound_350 {E : Ex} {K : Kx} (C : Cx E K cL_isSound 10 (some .boolean) RL wsL_isSound rmL_isSound) {a0 : Nat → Nat} {a1 : Nat → Nat} {a2 : Nat → Nat} {a3 : Nat → Nat} {h0_1 h0_2 h0_4 h0_5 h0_7 h0_8 h0_9 : Nat} {x1 : Int32} {v0 : GWV} {v1 : HouseV} {x4 : Int32} {x5 : Int32} {x6 : Int32} {k290 : Int32 → Int32 → SightV → IntrV → Option (Bool × SightV × IntrV)} {r : (Bool × SightV × IntrV)} (hk290 : ∀  (x4 : Int32) (x5 : Int32) (v2 : SightV) (v3 : IntrV), k290 x4 x5 v2 v3 = some r → WW E K 0 0 (QQ E K (fun rv g => rv = some (.int (b2i r.1)) ∧ g = [wGW E a0 (rf10 (a1 0) h0_1 h0_2 (a2 0) h0_4 h0_5 (a3 0) h0_7 h0_8 h0_9) v0, wHouse E a1 v1, wSight E a2 r.2.1, wIntr E a3 r.2.2]) 0 0) 290 [(0, .ref (a0 0)), (1, .int x1), (4, .int x4), (5, .int x5)] [] [wGW E a0 (rf10 (a1 0) h0_1 h0_2 (a2 0) h0_4 h0_5 (a3 0) h0_7 h0_8 h0_9) v0, wHouse E a1 v1, wSight E a2 v2, wIntr E a3 v3]) : ∀ (n : Nat)  (x7 : Int32) (v2 : SightV) (v3 : IntrV), L_isSound_350 x1 v0 v1 x4 x5 x6 k290 n x7 v2 v3 = some r → WW E K 0 0 (QQ E K (fun rv g => rv = some (.int (b2i r.1)) ∧ g = [wGW E a0 (rf10 (a1 0) h0_1 h0_2 (a2 0) h0_4 h0_5 (a3 0) h0_7 h0_8 h0_9) v0, wHouse E a1 v1, wSight E a2 r.2.1, wIntr E a3 r.2.2]) 0 0) 350 [(0, .ref (a0 0)), (1, .int x1), (4, .int x4), (5, .int x5), (6, .int x6), (7, .int x7)] [] [wGW E a0 (rf10 (a1 0) h0_1 h0_2 (a2 0) h0_4 h0_5 (a3 0) h0_7 h0_8 h0_9) v0, wHouse E a1 v1, wSight E a2 v2, wIntr E a3 v3] := by
  intro n
  induction n with
  | zero =>
    intro  x7 v2 v3 hf
    simp [L_isSound_350] at hf
  | succ n ih =>
    intro  x7 v2 v3 hf
    rw [L_isSound_350] at hf
    refine ww_iload C dL_isSound_350 5 rfl ?_
    refine ww_iload C dL_isSound_352 4 rfl ?_
    refine ww_icmp_ge (tgt := 438) C dL_isSound_354 (by decide) (fun c_27 => ?_) (fun c_27 => ?_)
    · replace hf := ifT c_27 hf
      obtain ⟨x5_438, e_x5_438⟩ : ∃ y : Int32, y = x5 + 1 := ⟨_, rfl⟩
      replace hf := ltE e_x5_438 hf
      refine ww_iinc (v := x5_438) (lv' := [(5, .int x5_438), (0, .ref (a0 0)), (1, .int x1), (4, .int x4), (6, .int x6), (7, .int x7)]) C dL_isSound_438 3 rfl (by rw [e_x5_438]; rfl) (by decide) rfl ?_
      refine ww_goto (tgt := 290) C dL_isSound_441 (by decide) ?_
      refine ww_sub C (lv' := [(0, .ref (a0 0)), (1, .int x1), (4, .int x4), (5, .int x5_438)]) [1, 2, 3, 0] rfl ?_
      exact hk290 _ _ _ _ hf
    · replace hf := ifF c_27 hf
      refine ww_aload_n C dL_isSound_357 rfl 0 rfl ?_
      refine ww_iload C dL_isSound_358 3 rfl ?_
      refine ww_iload C dL_isSound_360 5 rfl ?_
      obtain ⟨p362, hp362, hf⟩ := bdE hf
      refine ww_callV C (As := [.int x5, .int x7]) (st := []) (gr := [wSight E a2 v2, wIntr E a3 v3]) (c_X8_walk (E := E) (a0 := a0) (h0_1 := h0_1) (h0_2 := h0_2) (h0_3 := a2 0) (h0_4 := h0_4) (h0_5 := h0_5) (h0_6 := a3 0) (h0_7 := h0_7) (h0_8 := h0_8) (h0_9 := h0_9) (a1 := a1) hp362) gL_isSound_X8_walk rfl yk_X8_walk ⟨by decide, Nat.le_of_ble_eq_true rfl⟩ ⟨by decide, by decide⟩ clOK8 0 0 rfl rfl [0, 1] [2, 3] 4 rfl (by decide) rfl rfl (Nat.le_of_ble_eq_true rfl) dL_isSound_362 ?_
      rintro _ _ ⟨rfl, rfl⟩
      refine ww_perm (gs' := [wGW E a0 (rf10 (a1 0) h0_1 h0_2 (a2 0) h0_4 h0_5 (a3 0) h0_7 h0_8 h0_9) v0, wHouse E a1 v1, wSight E a2 v2, wIntr E a3 v3]) [0, 1, 2, 3] 4 rfl (by decide) rfl ?_
      refine ww_istore (lv' := [(8, .int p362), (0, .ref (a0 0)), (1, .int x1), (4, .int x4), (5, .int x5), (6, .int x6), (7, .int x7)]) C dL_isSound_365 (by decide) rfl ?_
      refine ww_aload_n C dL_isSound_367 rfl 1 rfl ?_
      refine ww_iload C dL_isSound_368 4 rfl ?_
      refine ww_iload C dL_isSound_370 6 rfl ?_
      refine ww_iconst (v := 1) C dL_isSound_372 (by decide) ?_
      refine ww_iadd C dL_isSound_373 ?_
      refine ww_iload C dL_isSound_374 5 rfl ?_
      obtain ⟨g_28, hf⟩ := gdE hf
      refine ww_irem C dL_isSound_376 (nz_ne g_28) ?_
      obtain ⟨p377, hp377, hf⟩ := bdE hf
      refine ww_callV C (As := [.int x5, .int ((x7 + 1) - (x7 + 1) / x6 * x6)]) (st := []) (gr := [wSight E a2 v2, wIntr E a3 v3]) (c_X8_walk (E := E) (a0 := a0) (h0_1 := h0_1) (h0_2 := h0_2) (h0_3 := a2 0) (h0_4 := h0_4) (h0_5 := h0_5) (h0_6 := a3 0) (h0_7 := h0_7) (h0_8 := h0_8) (h0_9 := h0_9) (a1 := a1) hp377) gL_isSound_X8_walk rfl yk_X8_walk ⟨by decide, Nat.le_of_ble_eq_true rfl⟩ ⟨by decide, by decide⟩ clOK8 0 0 rfl rfl [0, 1] [2, 3] 4 rfl (by decide) rfl rfl (Nat.le_of_ble_eq_true rfl) dL_isSound_377 ?_
      rintro _ _ ⟨rfl, rfl⟩
      refine ww_perm (gs' := [wGW E a0 (rf10 (a1 0) h0_1 h0_2 (a2 0) h0_4 h0_5 (a3 0) h0_7 h0_8 h0_9) v0, wHouse E a1 v1, wSight E a2 v2, wIntr E a3 v3]) [0, 1, 2, 3] 4 rfl (by decide) rfl ?_
      refine ww_istore (lv' := [(9, .int p377), (8, .int p362), (0, .ref (a0 0)), (1, .int x1), (4, .int x4), (5, .int x5), (6, .int x6), (7, .int x7)]) C dL_isSound_380 (by decide) rfl ?_
      refine ww_iload C dL_isSound_382 1 rfl ?_
      refine ww_iload C dL_isSound_384 0 rfl ?_
      refine ww_icmp_eq (tgt := 400) C dL_isSound_386 (by decide) (fun c_29 => ?_) (fun c_29 => ?_)
      · replace hf := ifT c_29 hf
        refine ww_sub C (lv' := [(0, .ref (a0 0)), (1, .int x1), (4, .int x4), (5, .int x5), (6, .int x6), (7, .int x7)]) [2, 3, 4, 5, 6, 7] rfl ?_
        exact w_L_isSound_400 C (k290 := k290) hk290 (k350 := (fun (x7 : Int32) (v2 : SightV) (v3 : IntrV) => L_isSound_350 x1 v0 v1 x4 x5 x6 k290 n x7 v2 v3)) ih hf
      · replace hf := ifF c_29 hf
        refine ww_aload_n C dL_isSound_389 rfl 2 rfl ?_
        refine ww_iload C dL_isSound_390 1 rfl ?_
        refine ww_iload C dL_isSound_392 0 rfl ?_
        obtain ⟨p394, hp394, hf⟩ := bdE hf
        refine ww_callV C (As := [.int p362, .int p377]) (st := []) (gr := [wSight E a2 v2, wIntr E a3 v3]) (c_X8_isJoined (E := E) (a0 := a0) (h0_1 := h0_1) (h0_2 := h0_2) (h0_3 := a2 0) (h0_4 := h0_4) (h0_5 := h0_5) (h0_6 := a3 0) (h0_7 := h0_7) (h0_8 := h0_8) (h0_9 := h0_9) (a1 := a1) hp394) gL_isSound_X8_isJoined rfl yk_X8_isJoined ⟨by decide, Nat.le_of_ble_eq_true rfl⟩ ⟨by decide, by decide⟩ clOK8 0 0 rfl rfl [0, 1] [2, 3] 4 rfl (by decide) rfl rfl (Nat.le_of_ble_eq_true rfl) dL_isSound_394 ?_
        rintro _ _ ⟨rfl, rfl⟩
        refine ww_perm (gs' := [wGW E a0 (rf10 (a1 0) h0_1 h0_2 (a2 0) h0_4 h0_5 (a3 0) h0_7 h0_8 h0_9) v0, wHouse E a1 v1, wSight E a2 v2, wIntr E a3 v3]) [0, 1, 2, 3] 4 rfl (by decide) rfl ?_
        refine ww_if_eqB (tgt := 430) C dL_isSound_397 (by decide) (fun c_30 => ?_) (fun c_30 => ?_)
        · replace hf := bfE c_30 hf
          refine ww_iconst (v := 0) C dL_isSound_430 (by decide) ?_
          obtain rfl := Option.some.inj hf
          exact ww_zret C (nar_b false) ⟨rfl, rfl⟩ dL_isSound_431
        · replace hf := btE c_30 hf
          refine ww_sub C (lv' := [(0, .ref (a0 0)), (1, .int x1), (4, .int x4), (5, .int x5), (6, .int x6), (7, .int x7)]) [2, 3, 4, 5, 6, 7] rfl ?_
          exact w_L_isSound_400 C (k290 := k290) hk290 (k350 := (fun (x7 : Int32) (v2 : SightV) (v3 : IntrV) => L_isSound_350 x1 v0 v1 x4 x5 x6 k290 n x7 v2 v3)) ih hf

set_option maxHeartbeats 4000000 in
set_option maxRecDepth 100000 in
theorem w_L_isSound_303 {E : Ex} {K : Kx} (C : Cx E K cL_isSound 10 (some .boolean) RL wsL_isSound rmL_isSound) {a0 : Nat → Nat} {a1 : Nat → Nat} {a2 : Nat → Nat} {a3 : Nat → Nat} {h0_1 h0_2 h0_4 h0_5 h0_7 h0_8 h0_9 : Nat} {x1 : Int32} {v0 : GWV} {v1 : HouseV} {x5 : Int32} {k290 : Int32 → Int32 → SightV → IntrV → Option (Bool × SightV × IntrV)} {r : (Bool × SightV × IntrV)} (hk290 : ∀  (x4 : Int32) (x5 : Int32) (v2 : SightV) (v3 : IntrV), k290 x4 x5 v2 v3 = some r → WW E K 0 0 (QQ E K (fun rv g => rv = some (.int (b2i r.1)) ∧ g = [wGW E a0 (rf10 (a1 0) h0_1 h0_2 (a2 0) h0_4 h0_5 (a3 0) h0_7 h0_8 h0_9) v0, wHouse E a1 v1, wSight E a2 r.2.1, wIntr E a3 r.2.2]) 0 0) 290 [(0, .ref (a0 0)), (1, .int x1), (4, .int x4), (5, .int x5)] [] [wGW E a0 (rf10 (a1 0) h0_1 h0_2 (a2 0) h0_4 h0_5 (a3 0) h0_7 h0_8 h0_9) v0, wHouse E a1 v1, wSight E a2 v2, wIntr E a3 v3]) : ∀ (n : Nat)  (x4 : Int32) (x6 : Int32) (v2 : SightV) (v3 : IntrV), L_isSound_303 x1 v0 v1 x5 k290 n x4 x6 v2 v3 = some r → WW E K 0 0 (QQ E K (fun rv g => rv = some (.int (b2i r.1)) ∧ g = [wGW E a0 (rf10 (a1 0) h0_1 h0_2 (a2 0) h0_4 h0_5 (a3 0) h0_7 h0_8 h0_9) v0, wHouse E a1 v1, wSight E a2 r.2.1, wIntr E a3 r.2.2]) 0 0) 303 [(0, .ref (a0 0)), (1, .int x1), (4, .int x4), (5, .int x5), (6, .int x6)] [] [wGW E a0 (rf10 (a1 0) h0_1 h0_2 (a2 0) h0_4 h0_5 (a3 0) h0_7 h0_8 h0_9) v0, wHouse E a1 v1, wSight E a2 v2, wIntr E a3 v3] := by
  intro n
  induction n with
  | zero =>
    intro  x4 x6 v2 v3 hf
    simp [L_isSound_303] at hf
  | succ n ih =>
    intro  x4 x6 v2 v3 hf
    rw [L_isSound_303] at hf
    refine ww_iload C dL_isSound_303 4 rfl ?_
    refine ww_iload C dL_isSound_305 3 rfl ?_
    refine ww_icmp_ge (tgt := 338) C dL_isSound_307 (by decide) (fun c_25 => ?_) (fun c_25 => ?_)
    · replace hf := ifT c_25 hf
      refine ww_aload_n C dL_isSound_338 rfl 0 rfl ?_
      refine ww_iload C dL_isSound_339 3 rfl ?_
      refine ww_iconst (v := 0) C dL_isSound_341 (by decide) ?_
      obtain ⟨p342, hp342, hf⟩ := bdE hf
      refine ww_callV C (As := [.int x5, .int 0]) (st := []) (gr := [wSight E a2 v2, wIntr E a3 v3]) (c_X8_guard (E := E) (a0 := a0) (h0_1 := h0_1) (h0_2 := h0_2) (h0_3 := a2 0) (h0_4 := h0_4) (h0_5 := h0_5) (h0_6 := a3 0) (h0_7 := h0_7) (h0_8 := h0_8) (h0_9 := h0_9) (a1 := a1) hp342) gL_isSound_X8_guard rfl yk_X8_guard ⟨by decide, Nat.le_of_ble_eq_true rfl⟩ ⟨by decide, by decide⟩ clOK8 0 0 rfl rfl [0, 1] [2, 3] 4 rfl (by decide) rfl rfl (Nat.le_of_ble_eq_true rfl) dL_isSound_342 ?_
      rintro _ _ ⟨rfl, rfl⟩
      refine ww_perm (gs' := [wGW E a0 (rf10 (a1 0) h0_1 h0_2 (a2 0) h0_4 h0_5 (a3 0) h0_7 h0_8 h0_9) v0, wHouse E a1 v1, wSight E a2 v2, wIntr E a3 v3]) [0, 1, 2, 3] 4 rfl (by decide) rfl ?_
      refine ww_istore (lv' := [(6, .int p342), (0, .ref (a0 0)), (1, .int x1), (4, .int x4), (5, .int x5)]) C dL_isSound_345 (by decide) rfl ?_
      refine ww_iconst (v := 0) C dL_isSound_347 (by decide) ?_
      refine ww_istore (lv' := [(7, .int 0), (6, .int p342), (0, .ref (a0 0)), (1, .int x1), (4, .int x4), (5, .int x5)]) C dL_isSound_348 (by decide) rfl ?_
      refine ww_sub C (lv' := [(0, .ref (a0 0)), (1, .int x1), (4, .int x4), (5, .int x5), (6, .int p342), (7, .int 0)]) [2, 3, 4, 5, 1, 0] rfl ?_
      exact w_L_isSound_350 C (k290 := k290) hk290 FU _ _ _ hf
    · replace hf := ifF c_25 hf
      refine ww_iload C dL_isSound_310 2 rfl ?_
      refine ww_aload_n C dL_isSound_312 rfl 0 rfl ?_
      refine ww_iload C dL_isSound_313 3 rfl ?_
      refine ww_iload C dL_isSound_315 4 rfl ?_
      obtain ⟨p317, hp317, hf⟩ := bdE hf
      refine ww_callV C (As := [.int x5, .int x6]) (st := [.int x4]) (gr := [wSight E a2 v2, wIntr E a3 v3]) (c_X8_meetings (E := E) (a0 := a0) (h0_1 := h0_1) (h0_2 := h0_2) (h0_3 := a2 0) (h0_4 := h0_4) (h0_5 := h0_5) (h0_6 := a3 0) (h0_7 := h0_7) (h0_8 := h0_8) (h0_9 := h0_9) (a1 := a1) hp317) gL_isSound_X8_meetings rfl yk_X8_meetings ⟨by decide, Nat.le_of_ble_eq_true rfl⟩ ⟨by decide, by decide⟩ clOK8 0 0 rfl rfl [0, 1] [2, 3] 4 rfl (by decide) rfl rfl (Nat.le_of_ble_eq_true rfl) dL_isSound_317 ?_
      rintro _ _ ⟨rfl, rfl⟩
      refine ww_perm (gs' := [wGW E a0 (rf10 (a1 0) h0_1 h0_2 (a2 0) h0_4 h0_5 (a3 0) h0_7 h0_8 h0_9) v0, wHouse E a1 v1, wSight E a2 v2, wIntr E a3 v3]) [0, 1, 2, 3] 4 rfl (by decide) rfl ?_
      refine ww_aload_n C dL_isSound_320 rfl 0 rfl ?_
      refine ww_iload C dL_isSound_321 3 rfl ?_
      refine ww_iload C dL_isSound_323 4 rfl ?_
      obtain ⟨p325, hp325, hf⟩ := bdE hf
      refine ww_callV C (As := [.int x5, .int x6]) (st := [.int p317, .int x4]) (gr := [wSight E a2 v2, wIntr E a3 v3]) (c_X8_passings (E := E) (a0 := a0) (h0_1 := h0_1) (h0_2 := h0_2) (h0_3 := a2 0) (h0_4 := h0_4) (h0_5 := h0_5) (h0_6 := a3 0) (h0_7 := h0_7) (h0_8 := h0_8) (h0_9 := h0_9) (a1 := a1) hp325) gL_isSound_X8_passings rfl yk_X8_passings ⟨by decide, Nat.le_of_ble_eq_true rfl⟩ ⟨by decide, by decide⟩ clOK8 0 0 rfl rfl [0, 1] [2, 3] 4 rfl (by decide) rfl rfl (Nat.le_of_ble_eq_true rfl) dL_isSound_325 ?_
      rintro _ _ ⟨rfl, rfl⟩
      refine ww_perm (gs' := [wGW E a0 (rf10 (a1 0) h0_1 h0_2 (a2 0) h0_4 h0_5 (a3 0) h0_7 h0_8 h0_9) v0, wHouse E a1 v1, wSight E a2 v2, wIntr E a3 v3]) [0, 1, 2, 3] 4 rfl (by decide) rfl ?_
      refine ww_iadd C dL_isSound_328 ?_
      refine ww_iadd C dL_isSound_329 ?_
      refine ww_topi (fun x4_330 e_x4_330 => ?_)
      replace hf := ltE e_x4_330 hf
      refine ww_istore (lv' := [(4, .int x4_330), (0, .ref (a0 0)), (1, .int x1), (5, .int x5), (6, .int x6)]) C dL_isSound_330 (by decide) rfl ?_
      obtain ⟨x6_332, e_x6_332⟩ : ∃ y : Int32, y = x6 + 1 := ⟨_, rfl⟩
      replace hf := ltE e_x6_332 hf
      refine ww_iinc (v := x6_332) (lv' := [(6, .int x6_332), (4, .int x4_330), (0, .ref (a0 0)), (1, .int x1), (5, .int x5)]) C dL_isSound_332 4 rfl (by rw [e_x6_332]; rfl) (by decide) rfl ?_
      refine ww_goto (tgt := 303) C dL_isSound_335 (by decide) ?_
      refine ww_sub C (lv' := [(0, .ref (a0 0)), (1, .int x1), (4, .int x4_330), (5, .int x5), (6, .int x6_332)]) [2, 3, 1, 4, 0] rfl ?_
      exact ih _ _ _ _ hf

set_option maxHeartbeats 4000000 in
set_option maxRecDepth 100000 in
theorem w_L_isSound_502 {E : Ex} {K : Kx} (C : Cx E K cL_isSound 10 (some .boolean) RL wsL_isSound rmL_isSound) {a0 : Nat → Nat} {a1 : Nat → Nat} {a2 : Nat → Nat} {a3 : Nat → Nat} {h0_1 h0_2 h0_4 h0_5 h0_7 h0_8 h0_9 : Nat} {x1 : Int32} {v0 : GWV} {v1 : HouseV}   {x5 : Int32} {v2 : SightV} {v3 : IntrV} {k460 : Int32 → SightV → IntrV → Option (Bool × SightV × IntrV)} {r : (Bool × SightV × IntrV)} (hk460 : ∀  (x5 : Int32) (v2 : SightV) (v3 : IntrV), k460 x5 v2 v3 = some r → WW E K 0 0 (QQ E K (fun rv g => rv = some (.int (b2i r.1)) ∧ g = [wGW E a0 (rf10 (a1 0) h0_1 h0_2 (a2 0) h0_4 h0_5 (a3 0) h0_7 h0_8 h0_9) v0, wHouse E a1 v1, wSight E a2 r.2.1, wIntr E a3 r.2.2]) 0 0) 460 [(0, .ref (a0 0)), (1, .int x1), (5, .int x5)] [] [wGW E a0 (rf10 (a1 0) h0_1 h0_2 (a2 0) h0_4 h0_5 (a3 0) h0_7 h0_8 h0_9) v0, wHouse E a1 v1, wSight E a2 v2, wIntr E a3 v3]) (hf : L_isSound_502 x1 v0 v1 k460 x5 v2 v3 = some r) : WW E K 0 0 (QQ E K (fun rv g => rv = some (.int (b2i r.1)) ∧ g = [wGW E a0 (rf10 (a1 0) h0_1 h0_2 (a2 0) h0_4 h0_5 (a3 0) h0_7 h0_8 h0_9) v0, wHouse E a1 v1, wSight E a2 r.2.1, wIntr E a3 r.2.2]) 0 0) 502 [(0, .ref (a0 0)), (1, .int x1), (5, .int x5)] [] [wGW E a0 (rf10 (a1 0) h0_1 h0_2 (a2 0) h0_4 h0_5 (a3 0) h0_7 h0_8 h0_9) v0, wHouse E a1 v1, wSight E a2 v2, wIntr E a3 v3] := by
  rw [L_isSound_502] at hf
  refine ww_aload_n C dL_isSound_502 rfl 0 rfl ?_
  refine ww_iload C dL_isSound_503 2 rfl ?_
  refine ww_iconst (v := 3) C dL_isSound_505 (by decide) ?_
  obtain ⟨p506, hp506, hf⟩ := bdE hf
  refine ww_callV C (As := [.int x5, .int 3]) (st := []) (gr := [wSight E a2 v2, wIntr E a3 v3]) (c_X8_door (E := E) (a0 := a0) (h0_1 := h0_1) (h0_2 := h0_2) (h0_3 := a2 0) (h0_4 := h0_4) (h0_5 := h0_5) (h0_6 := a3 0) (h0_7 := h0_7) (h0_8 := h0_8) (h0_9 := h0_9) (a1 := a1) hp506) gL_isSound_X8_door rfl yk_X8_door ⟨by decide, Nat.le_of_ble_eq_true rfl⟩ ⟨by decide, by decide⟩ clOK8 0 0 rfl rfl [0, 1] [2, 3] 4 rfl (by decide) rfl rfl (Nat.le_of_ble_eq_true rfl) dL_isSound_506 ?_
  rintro _ _ ⟨rfl, rfl⟩
  refine ww_perm (gs' := [wGW E a0 (rf10 (a1 0) h0_1 h0_2 (a2 0) h0_4 h0_5 (a3 0) h0_7 h0_8 h0_9) v0, wHouse E a1 v1, wSight E a2 v2, wIntr E a3 v3]) [0, 1, 2, 3] 4 rfl (by decide) rfl ?_
  refine ww_if_le (tgt := 535) C dL_isSound_509 (by decide) (fun c_36 => ?_) (fun c_36 => ?_)
  · replace hf := ifT c_36 hf
    obtain ⟨x5_535, e_x5_535⟩ : ∃ y : Int32, y = x5 + 1 := ⟨_, rfl⟩
    replace hf := ltE e_x5_535 hf
    refine ww_iinc (v := x5_535) (lv' := [(5, .int x5_535), (0, .ref (a0 0)), (1, .int x1)]) C dL_isSound_535 2 rfl (by rw [e_x5_535]; rfl) (by decide) rfl ?_
    refine ww_goto (tgt := 460) C dL_isSound_538 (by decide) ?_
    refine ww_sub C (lv' := [(0, .ref (a0 0)), (1, .int x1), (5, .int x5_535)]) [1, 2, 0] rfl ?_
    exact hk460 _ _ _ hf
  · replace hf := ifF c_36 hf
    refine ww_aload_n C dL_isSound_512 rfl 0 rfl ?_
    refine ww_aload_n C dL_isSound_513 rfl 0 rfl ?_
    refine ww_iload C dL_isSound_514 2 rfl ?_
    refine ww_iconst (v := 0) C dL_isSound_516 (by decide) ?_
    obtain ⟨p517, hp517, hf⟩ := bdE hf
    refine ww_callV C (As := [.int x5, .int 0]) (st := [.ref (a0 0)]) (gr := [wSight E a2 v2, wIntr E a3 v3]) (c_X8_door (E := E) (a0 := a0) (h0_1 := h0_1) (h0_2 := h0_2) (h0_3 := a2 0) (h0_4 := h0_4) (h0_5 := h0_5) (h0_6 := a3 0) (h0_7 := h0_7) (h0_8 := h0_8) (h0_9 := h0_9) (a1 := a1) hp517) gL_isSound_X8_door rfl yk_X8_door ⟨by decide, Nat.le_of_ble_eq_true rfl⟩ ⟨by decide, by decide⟩ clOK8 0 0 rfl rfl [0, 1] [2, 3] 4 rfl (by decide) rfl rfl (Nat.le_of_ble_eq_true rfl) dL_isSound_517 ?_
    rintro _ _ ⟨rfl, rfl⟩
    refine ww_perm (gs' := [wGW E a0 (rf10 (a1 0) h0_1 h0_2 (a2 0) h0_4 h0_5 (a3 0) h0_7 h0_8 h0_9) v0, wHouse E a1 v1, wSight E a2 v2, wIntr E a3 v3]) [0, 1, 2, 3] 4 rfl (by decide) rfl ?_
    refine ww_aload_n C dL_isSound_520 rfl 0 rfl ?_
    refine ww_iload C dL_isSound_521 2 rfl ?_
    refine ww_iconst (v := 1) C dL_isSound_523 (by decide) ?_
    obtain ⟨p524, hp524, hf⟩ := bdE hf
    refine ww_callV C (As := [.int x5, .int 1]) (st := [.int p517, .ref (a0 0)]) (gr := [wSight E a2 v2, wIntr E a3 v3]) (c_X8_door (E := E) (a0 := a0) (h0_1 := h0_1) (h0_2 := h0_2) (h0_3 := a2 0) (h0_4 := h0_4) (h0_5 := h0_5) (h0_6 := a3 0) (h0_7 := h0_7) (h0_8 := h0_8) (h0_9 := h0_9) (a1 := a1) hp524) gL_isSound_X8_door rfl yk_X8_door ⟨by decide, Nat.le_of_ble_eq_true rfl⟩ ⟨by decide, by decide⟩ clOK8 0 0 rfl rfl [0, 1] [2, 3] 4 rfl (by decide) rfl rfl (Nat.le_of_ble_eq_true rfl) dL_isSound_524 ?_
    rintro _ _ ⟨rfl, rfl⟩
    refine ww_perm (gs' := [wGW E a0 (rf10 (a1 0) h0_1 h0_2 (a2 0) h0_4 h0_5 (a3 0) h0_7 h0_8 h0_9) v0, wHouse E a1 v1, wSight E a2 v2, wIntr E a3 v3]) [0, 1, 2, 3] 4 rfl (by decide) rfl ?_
    obtain ⟨p527, hp527, hf⟩ := bdE hf
    refine ww_callV C (As := [.int p517, .int p524]) (st := []) (gr := [wSight E a2 v2, wIntr E a3 v3]) (c_X8_isJoined (E := E) (a0 := a0) (h0_1 := h0_1) (h0_2 := h0_2) (h0_3 := a2 0) (h0_4 := h0_4) (h0_5 := h0_5) (h0_6 := a3 0) (h0_7 := h0_7) (h0_8 := h0_8) (h0_9 := h0_9) (a1 := a1) hp527) gL_isSound_X8_isJoined rfl yk_X8_isJoined ⟨by decide, Nat.le_of_ble_eq_true rfl⟩ ⟨by decide, by decide⟩ clOK8 0 0 rfl rfl [0, 1] [2, 3] 4 rfl (by decide) rfl rfl (Nat.le_of_ble_eq_true rfl) dL_isSound_527 ?_
    rintro _ _ ⟨rfl, rfl⟩
    refine ww_perm (gs' := [wGW E a0 (rf10 (a1 0) h0_1 h0_2 (a2 0) h0_4 h0_5 (a3 0) h0_7 h0_8 h0_9) v0, wHouse E a1 v1, wSight E a2 v2, wIntr E a3 v3]) [0, 1, 2, 3] 4 rfl (by decide) rfl ?_
    refine ww_if_neB (tgt := 535) C dL_isSound_530 (by decide) (fun c_37 => ?_) (fun c_37 => ?_)
    · replace hf := btE c_37 hf
      obtain ⟨x5_535, e_x5_535⟩ : ∃ y : Int32, y = x5 + 1 := ⟨_, rfl⟩
      replace hf := ltE e_x5_535 hf
      refine ww_iinc (v := x5_535) (lv' := [(5, .int x5_535), (0, .ref (a0 0)), (1, .int x1)]) C dL_isSound_535 2 rfl (by rw [e_x5_535]; rfl) (by decide) rfl ?_
      refine ww_goto (tgt := 460) C dL_isSound_538 (by decide) ?_
      refine ww_sub C (lv' := [(0, .ref (a0 0)), (1, .int x1), (5, .int x5_535)]) [1, 2, 0] rfl ?_
      exact hk460 _ _ _ hf
    · replace hf := bfE c_37 hf
      refine ww_iconst (v := 0) C dL_isSound_533 (by decide) ?_
      obtain rfl := Option.some.inj hf
      exact ww_zret C (nar_b false) ⟨rfl, rfl⟩ dL_isSound_534

set_option maxHeartbeats 4000000 in
set_option maxRecDepth 100000 in
theorem w_L_isSound_460 {E : Ex} {K : Kx} (C : Cx E K cL_isSound 10 (some .boolean) RL wsL_isSound rmL_isSound) {a0 : Nat → Nat} {a1 : Nat → Nat} {a2 : Nat → Nat} {a3 : Nat → Nat} {h0_1 h0_2 h0_4 h0_5 h0_7 h0_8 h0_9 : Nat} {x1 : Int32} {v0 : GWV} {v1 : HouseV}  {r : (Bool × SightV × IntrV)} : ∀ (n : Nat)  (x5 : Int32) (v2 : SightV) (v3 : IntrV), L_isSound_460 x1 v0 v1 n x5 v2 v3 = some r → WW E K 0 0 (QQ E K (fun rv g => rv = some (.int (b2i r.1)) ∧ g = [wGW E a0 (rf10 (a1 0) h0_1 h0_2 (a2 0) h0_4 h0_5 (a3 0) h0_7 h0_8 h0_9) v0, wHouse E a1 v1, wSight E a2 r.2.1, wIntr E a3 r.2.2]) 0 0) 460 [(0, .ref (a0 0)), (1, .int x1), (5, .int x5)] [] [wGW E a0 (rf10 (a1 0) h0_1 h0_2 (a2 0) h0_4 h0_5 (a3 0) h0_7 h0_8 h0_9) v0, wHouse E a1 v1, wSight E a2 v2, wIntr E a3 v3] := by
  intro n
  induction n with
  | zero =>
    intro  x5 v2 v3 hf
    simp [L_isSound_460] at hf
  | succ n ih =>
    intro  x5 v2 v3 hf
    rw [L_isSound_460] at hf
    refine ww_iload C dL_isSound_460 2 rfl ?_
    refine ww_aload_n C dL_isSound_462 rfl 0 rfl ?_
    refine ww_iconst (v := 1) C dL_isSound_463 (by decide) ?_
    obtain ⟨p464, hp464, hf⟩ := bdE hf
    refine ww_callV C (As := [.int 1]) (st := [.int x5]) (gr := [wIntr E a3 v3]) (c_X8_size (E := E) (a0 := a0) (h0_1 := h0_1) (h0_2 := h0_2) (h0_4 := h0_4) (h0_5 := h0_5) (h0_6 := a3 0) (h0_7 := h0_7) (h0_8 := h0_8) (h0_9 := h0_9) (a1 := a1) (a2 := a2) hp464) gL_isSound_X8_size rfl yk_X8_size ⟨by decide, Nat.le_of_ble_eq_true rfl⟩ ⟨by decide, by decide⟩ clOK8 0 0 rfl rfl [0, 1, 2] [3] 4 rfl (by decide) rfl rfl (Nat.le_of_ble_eq_true rfl) dL_isSound_464 ?_
    rintro _ _ ⟨rfl, rfl⟩
    refine ww_perm (gs' := [wGW E a0 (rf10 (a1 0) h0_1 h0_2 (a2 0) h0_4 h0_5 (a3 0) h0_7 h0_8 h0_9) v0, wHouse E a1 v1, wSight E a2 p464.2, wIntr E a3 v3]) [0, 1, 2, 3] 4 rfl (by decide) rfl ?_
    refine ww_icmp_ge (tgt := 541) C dL_isSound_467 (by decide) (fun c_33 => ?_) (fun c_33 => ?_)
    · replace hf := ifT c_33 hf
      refine ww_aload_n C dL_isSound_541 rfl 0 rfl ?_
      refine ww_iload_n C dL_isSound_542 rfl 1 rfl ?_
      obtain ⟨p543, hp543, hf⟩ := bdE hf
      refine ww_callS C (As := [.ref (a0 0), .int x1]) (st := []) (gr := []) (c_L_isQuick (E := E) (a0 := a0) (h0_1 := h0_1) (h0_2 := h0_2) (h0_4 := h0_4) (h0_5 := h0_5) (h0_7 := h0_7) (h0_8 := h0_8) (h0_9 := h0_9) (a1 := a1) (a2 := a2) (a3 := a3) hp543) gL_isSound_L_isQuick rfl ysk_L_isQuick ⟨by decide, Nat.le_of_ble_eq_true rfl⟩ ⟨by decide, by decide⟩ [0, 1, 2, 3] [] 4 rfl (by decide) rfl rfl (Nat.le_of_ble_eq_true rfl) dL_isSound_543 ?_
      rintro _ _ ⟨rfl, rfl⟩
      refine ww_perm (gs' := [wGW E a0 (rf10 (a1 0) h0_1 h0_2 (a2 0) h0_4 h0_5 (a3 0) h0_7 h0_8 h0_9) v0, wHouse E a1 v1, wSight E a2 p543.2.1, wIntr E a3 p543.2.2]) [0, 1, 2, 3] 4 rfl (by decide) rfl ?_
      obtain rfl := Option.some.inj hf
      exact ww_zret C (nar_b p543.1) ⟨rfl, rfl⟩ dL_isSound_546
    · replace hf := ifF c_33 hf
      refine ww_aload_n C dL_isSound_470 rfl 0 rfl ?_
      refine ww_iload C dL_isSound_471 2 rfl ?_
      refine ww_iconst (v := 2) C dL_isSound_473 (by decide) ?_
      obtain ⟨p474, hp474, hf⟩ := bdE hf
      refine ww_callV C (As := [.int x5, .int 2]) (st := []) (gr := [wSight E a2 p464.2, wIntr E a3 v3]) (c_X8_door (E := E) (a0 := a0) (h0_1 := h0_1) (h0_2 := h0_2) (h0_3 := a2 0) (h0_4 := h0_4) (h0_5 := h0_5) (h0_6 := a3 0) (h0_7 := h0_7) (h0_8 := h0_8) (h0_9 := h0_9) (a1 := a1) hp474) gL_isSound_X8_door rfl yk_X8_door ⟨by decide, Nat.le_of_ble_eq_true rfl⟩ ⟨by decide, by decide⟩ clOK8 0 0 rfl rfl [0, 1] [2, 3] 4 rfl (by decide) rfl rfl (Nat.le_of_ble_eq_true rfl) dL_isSound_474 ?_
      rintro _ _ ⟨rfl, rfl⟩
      refine ww_perm (gs' := [wGW E a0 (rf10 (a1 0) h0_1 h0_2 (a2 0) h0_4 h0_5 (a3 0) h0_7 h0_8 h0_9) v0, wHouse E a1 v1, wSight E a2 p464.2, wIntr E a3 v3]) [0, 1, 2, 3] 4 rfl (by decide) rfl ?_
      refine ww_iconst (v := 1) C dL_isSound_477 (by decide) ?_
      refine ww_icmp_ne (tgt := 502) C dL_isSound_478 (by decide) (fun c_34 => ?_) (fun c_34 => ?_)
      · replace hf := ifF c_34 hf
        refine ww_sub C (lv' := [(0, .ref (a0 0)), (1, .int x1), (5, .int x5)]) [0, 1, 2] rfl ?_
        exact w_L_isSound_502 C (k460 := (fun (x5 : Int32) (v2 : SightV) (v3 : IntrV) => L_isSound_460 x1 v0 v1 n x5 v2 v3)) ih hf
      · replace hf := ifT c_34 hf
        refine ww_aload_n C dL_isSound_481 rfl 0 rfl ?_
        refine ww_aload_n C dL_isSound_482 rfl 0 rfl ?_
        refine ww_iload C dL_isSound_483 2 rfl ?_
        refine ww_iconst (v := 0) C dL_isSound_485 (by decide) ?_
        obtain ⟨p486, hp486, hf⟩ := bdE hf
        refine ww_callV C (As := [.int x5, .int 0]) (st := [.ref (a0 0)]) (gr := [wSight E a2 p464.2, wIntr E a3 v3]) (c_X8_door (E := E) (a0 := a0) (h0_1 := h0_1) (h0_2 := h0_2) (h0_3 := a2 0) (h0_4 := h0_4) (h0_5 := h0_5) (h0_6 := a3 0) (h0_7 := h0_7) (h0_8 := h0_8) (h0_9 := h0_9) (a1 := a1) hp486) gL_isSound_X8_door rfl yk_X8_door ⟨by decide, Nat.le_of_ble_eq_true rfl⟩ ⟨by decide, by decide⟩ clOK8 0 0 rfl rfl [0, 1] [2, 3] 4 rfl (by decide) rfl rfl (Nat.le_of_ble_eq_true rfl) dL_isSound_486 ?_
        rintro _ _ ⟨rfl, rfl⟩
        refine ww_perm (gs' := [wGW E a0 (rf10 (a1 0) h0_1 h0_2 (a2 0) h0_4 h0_5 (a3 0) h0_7 h0_8 h0_9) v0, wHouse E a1 v1, wSight E a2 p464.2, wIntr E a3 v3]) [0, 1, 2, 3] 4 rfl (by decide) rfl ?_
        refine ww_aload_n C dL_isSound_489 rfl 0 rfl ?_
        refine ww_iload C dL_isSound_490 2 rfl ?_
        refine ww_iconst (v := 1) C dL_isSound_492 (by decide) ?_
        obtain ⟨p493, hp493, hf⟩ := bdE hf
        refine ww_callV C (As := [.int x5, .int 1]) (st := [.int p486, .ref (a0 0)]) (gr := [wSight E a2 p464.2, wIntr E a3 v3]) (c_X8_door (E := E) (a0 := a0) (h0_1 := h0_1) (h0_2 := h0_2) (h0_3 := a2 0) (h0_4 := h0_4) (h0_5 := h0_5) (h0_6 := a3 0) (h0_7 := h0_7) (h0_8 := h0_8) (h0_9 := h0_9) (a1 := a1) hp493) gL_isSound_X8_door rfl yk_X8_door ⟨by decide, Nat.le_of_ble_eq_true rfl⟩ ⟨by decide, by decide⟩ clOK8 0 0 rfl rfl [0, 1] [2, 3] 4 rfl (by decide) rfl rfl (Nat.le_of_ble_eq_true rfl) dL_isSound_493 ?_
        rintro _ _ ⟨rfl, rfl⟩
        refine ww_perm (gs' := [wGW E a0 (rf10 (a1 0) h0_1 h0_2 (a2 0) h0_4 h0_5 (a3 0) h0_7 h0_8 h0_9) v0, wHouse E a1 v1, wSight E a2 p464.2, wIntr E a3 v3]) [0, 1, 2, 3] 4 rfl (by decide) rfl ?_
        obtain ⟨p496, hp496, hf⟩ := bdE hf
        refine ww_callV C (As := [.int p486, .int p493]) (st := []) (gr := [wSight E a2 p464.2, wIntr E a3 v3]) (c_X8_isJoined (E := E) (a0 := a0) (h0_1 := h0_1) (h0_2 := h0_2) (h0_3 := a2 0) (h0_4 := h0_4) (h0_5 := h0_5) (h0_6 := a3 0) (h0_7 := h0_7) (h0_8 := h0_8) (h0_9 := h0_9) (a1 := a1) hp496) gL_isSound_X8_isJoined rfl yk_X8_isJoined ⟨by decide, Nat.le_of_ble_eq_true rfl⟩ ⟨by decide, by decide⟩ clOK8 0 0 rfl rfl [0, 1] [2, 3] 4 rfl (by decide) rfl rfl (Nat.le_of_ble_eq_true rfl) dL_isSound_496 ?_
        rintro _ _ ⟨rfl, rfl⟩
        refine ww_perm (gs' := [wGW E a0 (rf10 (a1 0) h0_1 h0_2 (a2 0) h0_4 h0_5 (a3 0) h0_7 h0_8 h0_9) v0, wHouse E a1 v1, wSight E a2 p464.2, wIntr E a3 v3]) [0, 1, 2, 3] 4 rfl (by decide) rfl ?_
        refine ww_if_eqB (tgt := 533) C dL_isSound_499 (by decide) (fun c_35 => ?_) (fun c_35 => ?_)
        · replace hf := bfE c_35 hf
          refine ww_iconst (v := 0) C dL_isSound_533 (by decide) ?_
          obtain rfl := Option.some.inj hf
          exact ww_zret C (nar_b false) ⟨rfl, rfl⟩ dL_isSound_534
        · replace hf := btE c_35 hf
          refine ww_sub C (lv' := [(0, .ref (a0 0)), (1, .int x1), (5, .int x5)]) [0, 1, 2] rfl ?_
          exact w_L_isSound_502 C (k460 := (fun (x5 : Int32) (v2 : SightV) (v3 : IntrV) => L_isSound_460 x1 v0 v1 n x5 v2 v3)) ih hf

set_option maxHeartbeats 4000000 in
set_option maxRecDepth 100000 in
theorem w_L_isSound_290 {E : Ex} {K : Kx} (C : Cx E K cL_isSound 10 (some .boolean) RL wsL_isSound rmL_isSound) {a0 : Nat → Nat} {a1 : Nat → Nat} {a2 : Nat → Nat} {a3 : Nat → Nat} {h0_1 h0_2 h0_4 h0_5 h0_7 h0_8 h0_9 : Nat} {x1 : Int32} {v0 : GWV} {v1 : HouseV}  {r : (Bool × SightV × IntrV)} : ∀ (n : Nat)  (x4 : Int32) (x5 : Int32) (v2 : SightV) (v3 : IntrV), L_isSound_290 x1 v0 v1 n x4 x5 v2 v3 = some r → WW E K 0 0 (QQ E K (fun rv g => rv = some (.int (b2i r.1)) ∧ g = [wGW E a0 (rf10 (a1 0) h0_1 h0_2 (a2 0) h0_4 h0_5 (a3 0) h0_7 h0_8 h0_9) v0, wHouse E a1 v1, wSight E a2 r.2.1, wIntr E a3 r.2.2]) 0 0) 290 [(0, .ref (a0 0)), (1, .int x1), (4, .int x4), (5, .int x5)] [] [wGW E a0 (rf10 (a1 0) h0_1 h0_2 (a2 0) h0_4 h0_5 (a3 0) h0_7 h0_8 h0_9) v0, wHouse E a1 v1, wSight E a2 v2, wIntr E a3 v3] := by
  intro n
  induction n with
  | zero =>
    intro  x4 x5 v2 v3 hf
    simp [L_isSound_290] at hf
  | succ n ih =>
    intro  x4 x5 v2 v3 hf
    rw [L_isSound_290] at hf
    refine ww_iload C dL_isSound_290 3 rfl ?_
    refine ww_aload_n C dL_isSound_292 rfl 0 rfl ?_
    refine ww_iconst (v := 2) C dL_isSound_293 (by decide) ?_
    obtain ⟨p294, hp294, hf⟩ := bdE hf
    refine ww_callV C (As := [.int 2]) (st := [.int x5]) (gr := [wIntr E a3 v3]) (c_X8_size (E := E) (a0 := a0) (h0_1 := h0_1) (h0_2 := h0_2) (h0_4 := h0_4) (h0_5 := h0_5) (h0_6 := a3 0) (h0_7 := h0_7) (h0_8 := h0_8) (h0_9 := h0_9) (a1 := a1) (a2 := a2) hp294) gL_isSound_X8_size rfl yk_X8_size ⟨by decide, Nat.le_of_ble_eq_true rfl⟩ ⟨by decide, by decide⟩ clOK8 0 0 rfl rfl [0, 1, 2] [3] 4 rfl (by decide) rfl rfl (Nat.le_of_ble_eq_true rfl) dL_isSound_294 ?_
    rintro _ _ ⟨rfl, rfl⟩
    refine ww_perm (gs' := [wGW E a0 (rf10 (a1 0) h0_1 h0_2 (a2 0) h0_4 h0_5 (a3 0) h0_7 h0_8 h0_9) v0, wHouse E a1 v1, wSight E a2 p294.2, wIntr E a3 v3]) [0, 1, 2, 3] 4 rfl (by decide) rfl ?_
    refine ww_icmp_ge (tgt := 444) C dL_isSound_297 (by decide) (fun c_23 => ?_) (fun c_23 => ?_)
    · replace hf := ifT c_23 hf
      refine ww_iload C dL_isSound_444 2 rfl ?_
      refine ww_aload_n C dL_isSound_446 rfl 0 rfl ?_
      refine ww_bipush (v := 7) C dL_isSound_447 (by decide) ?_
      obtain ⟨p449, hp449, hf⟩ := bdE hf
      refine ww_callV C (As := [.int 7]) (st := [.int x4]) (gr := [wIntr E a3 v3]) (c_X8_size (E := E) (a0 := a0) (h0_1 := h0_1) (h0_2 := h0_2) (h0_4 := h0_4) (h0_5 := h0_5) (h0_6 := a3 0) (h0_7 := h0_7) (h0_8 := h0_8) (h0_9 := h0_9) (a1 := a1) (a2 := a2) hp449) gL_isSound_X8_size rfl yk_X8_size ⟨by decide, Nat.le_of_ble_eq_true rfl⟩ ⟨by decide, by decide⟩ clOK8 0 0 rfl rfl [0, 1, 2] [3] 4 rfl (by decide) rfl rfl (Nat.le_of_ble_eq_true rfl) dL_isSound_449 ?_
      rintro _ _ ⟨rfl, rfl⟩
      refine ww_perm (gs' := [wGW E a0 (rf10 (a1 0) h0_1 h0_2 (a2 0) h0_4 h0_5 (a3 0) h0_7 h0_8 h0_9) v0, wHouse E a1 v1, wSight E a2 p449.2, wIntr E a3 v3]) [0, 1, 2, 3] 4 rfl (by decide) rfl ?_
      refine ww_icmp_eq (tgt := 457) C dL_isSound_452 (by decide) (fun c_24 => ?_) (fun c_24 => ?_)
      · replace hf := ifT c_24 hf
        refine ww_iconst (v := 0) C dL_isSound_457 (by decide) ?_
        refine ww_istore (lv' := [(5, .int 0), (0, .ref (a0 0)), (1, .int x1), (4, .int x4)]) C dL_isSound_458 (by decide) rfl ?_
        refine ww_sub C (lv' := [(0, .ref (a0 0)), (1, .int x1), (5, .int 0)]) [1, 2, 0] rfl ?_
        exact w_L_isSound_460 C FU _ _ _ hf
      · replace hf := ifF c_24 hf
        refine ww_iconst (v := 0) C dL_isSound_455 (by decide) ?_
        obtain rfl := Option.some.inj hf
        exact ww_zret C (nar_b false) ⟨rfl, rfl⟩ dL_isSound_456
    · replace hf := ifF c_23 hf
      refine ww_iconst (v := 0) C dL_isSound_300 (by decide) ?_
      refine ww_istore (lv' := [(6, .int 0), (0, .ref (a0 0)), (1, .int x1), (4, .int x4), (5, .int x5)]) C dL_isSound_301 (by decide) rfl ?_
      refine ww_sub C (lv' := [(0, .ref (a0 0)), (1, .int x1), (4, .int x4), (5, .int x5), (6, .int 0)]) [1, 2, 3, 4, 0] rfl ?_
      exact w_L_isSound_303 C (k290 := (fun (x4 : Int32) (x5 : Int32) (v2 : SightV) (v3 : IntrV) => L_isSound_290 x1 v0 v1 n x4 x5 v2 v3)) ih FU _ _ _ _ hf

set_option maxHeartbeats 4000000 in
set_option maxRecDepth 100000 in
theorem w_L_isSound_91 {E : Ex} {K : Kx} (C : Cx E K cL_isSound 10 (some .boolean) RL wsL_isSound rmL_isSound) {a0 : Nat → Nat} {a1 : Nat → Nat} {a2 : Nat → Nat} {a3 : Nat → Nat} {h0_1 h0_2 h0_4 h0_5 h0_7 h0_8 h0_9 : Nat} {x1 : Int32} {v0 : GWV} {v1 : HouseV}   {x2 : Int32} {x3 : Int32} {x4 : Int32} {x5 : Int32} {x6 : Int32} {s0 : Int32} {v2 : SightV} {v3 : IntrV} {k11 : Int32 → Int32 → SightV → IntrV → Option (Bool × SightV × IntrV)} {r : (Bool × SightV × IntrV)} (hk11 : ∀  (x3 : Int32) (x4 : Int32) (v2 : SightV) (v3 : IntrV), k11 x3 x4 v2 v3 = some r → WW E K 0 0 (QQ E K (fun rv g => rv = some (.int (b2i r.1)) ∧ g = [wGW E a0 (rf10 (a1 0) h0_1 h0_2 (a2 0) h0_4 h0_5 (a3 0) h0_7 h0_8 h0_9) v0, wHouse E a1 v1, wSight E a2 r.2.1, wIntr E a3 r.2.2]) 0 0) 11 [(0, .ref (a0 0)), (1, .int x1), (2, .int x2), (3, .int x3), (4, .int x4)] [] [wGW E a0 (rf10 (a1 0) h0_1 h0_2 (a2 0) h0_4 h0_5 (a3 0) h0_7 h0_8 h0_9) v0, wHouse E a1 v1, wSight E a2 v2, wIntr E a3 v3]) (hf : L_isSound_91 x1 v0 v1 k11 x2 x3 x4 x5 x6 s0 v2 v3 = some r) : WW E K 0 0 (QQ E K (fun rv g => rv = some (.int (b2i r.1)) ∧ g = [wGW E a0 (rf10 (a1 0) h0_1 h0_2 (a2 0) h0_4 h0_5 (a3 0) h0_7 h0_8 h0_9) v0, wHouse E a1 v1, wSight E a2 r.2.1, wIntr E a3 r.2.2]) 0 0) 91 [(0, .ref (a0 0)), (1, .int x1), (2, .int x2), (3, .int x3), (4, .int x4), (5, .int x5), (6, .int x6)] [.int s0] [wGW E a0 (rf10 (a1 0) h0_1 h0_2 (a2 0) h0_4 h0_5 (a3 0) h0_7 h0_8 h0_9) v0, wHouse E a1 v1, wSight E a2 v2, wIntr E a3 v3] := by
  rw [L_isSound_91] at hf
  refine ww_iload C dL_isSound_91 6 rfl ?_
  refine ww_if_lt (tgt := 100) C dL_isSound_93 (by decide) (fun c_9 => ?_) (fun c_9 => ?_)
  · replace hf := ifT c_9 hf
    refine ww_iconst (v := 0) C dL_isSound_100 (by decide) ?_
    refine ww_sub C (lv' := [(0, .ref (a0 0)), (1, .int x1), (2, .int x2), (3, .int x3), (4, .int x4), (5, .int x5), (6, .int x6)]) [0, 1, 2, 3, 4, 5, 6] rfl ?_
    exact w_L_isSound_101 C (k11 := k11) hk11 hf
  · replace hf := ifF c_9 hf
    refine ww_iconst (v := 1) C dL_isSound_96 (by decide) ?_
    refine ww_goto (tgt := 101) C dL_isSound_97 (by decide) ?_
    refine ww_sub C (lv' := [(0, .ref (a0 0)), (1, .int x1), (2, .int x2), (3, .int x3), (4, .int x4), (5, .int x5), (6, .int x6)]) [0, 1, 2, 3, 4, 5, 6] rfl ?_
    exact w_L_isSound_101 C (k11 := k11) hk11 hf

set_option maxHeartbeats 4000000 in
set_option maxRecDepth 100000 in
theorem w_L_isSound_70 {E : Ex} {K : Kx} (C : Cx E K cL_isSound 10 (some .boolean) RL wsL_isSound rmL_isSound) {a0 : Nat → Nat} {a1 : Nat → Nat} {a2 : Nat → Nat} {a3 : Nat → Nat} {h0_1 h0_2 h0_4 h0_5 h0_7 h0_8 h0_9 : Nat} {x1 : Int32} {v0 : GWV} {v1 : HouseV}   {x2 : Int32} {x3 : Int32} {x4 : Int32} {x5 : Int32} {x6 : Int32} {s0 : Int32} {s1 : Int32} {v2 : SightV} {v3 : IntrV} {k11 : Int32 → Int32 → SightV → IntrV → Option (Bool × SightV × IntrV)} {r : (Bool × SightV × IntrV)} (hk11 : ∀  (x3 : Int32) (x4 : Int32) (v2 : SightV) (v3 : IntrV), k11 x3 x4 v2 v3 = some r → WW E K 0 0 (QQ E K (fun rv g => rv = some (.int (b2i r.1)) ∧ g = [wGW E a0 (rf10 (a1 0) h0_1 h0_2 (a2 0) h0_4 h0_5 (a3 0) h0_7 h0_8 h0_9) v0, wHouse E a1 v1, wSight E a2 r.2.1, wIntr E a3 r.2.2]) 0 0) 11 [(0, .ref (a0 0)), (1, .int x1), (2, .int x2), (3, .int x3), (4, .int x4)] [] [wGW E a0 (rf10 (a1 0) h0_1 h0_2 (a2 0) h0_4 h0_5 (a3 0) h0_7 h0_8 h0_9) v0, wHouse E a1 v1, wSight E a2 v2, wIntr E a3 v3]) (hf : L_isSound_70 x1 v0 v1 k11 x2 x3 x4 x5 x6 s0 s1 v2 v3 = some r) : WW E K 0 0 (QQ E K (fun rv g => rv = some (.int (b2i r.1)) ∧ g = [wGW E a0 (rf10 (a1 0) h0_1 h0_2 (a2 0) h0_4 h0_5 (a3 0) h0_7 h0_8 h0_9) v0, wHouse E a1 v1, wSight E a2 r.2.1, wIntr E a3 r.2.2]) 0 0) 70 [(0, .ref (a0 0)), (1, .int x1), (2, .int x2), (3, .int x3), (4, .int x4), (5, .int x5), (6, .int x6)] [.int s0, .int s1] [wGW E a0 (rf10 (a1 0) h0_1 h0_2 (a2 0) h0_4 h0_5 (a3 0) h0_7 h0_8 h0_9) v0, wHouse E a1 v1, wSight E a2 v2, wIntr E a3 v3] := by
  rw [L_isSound_70] at hf
  refine ww_icmp_ne (tgt := 145) C dL_isSound_70 (by decide) (fun c_6 => ?_) (fun c_6 => ?_)
  · replace hf := ifF c_6 hf
    refine ww_iconst (v := 0) C dL_isSound_145 (by decide) ?_
    obtain rfl := Option.some.inj hf
    exact ww_zret C (nar_b false) ⟨rfl, rfl⟩ dL_isSound_146
  · replace hf := ifT c_6 hf
    refine ww_iload C dL_isSound_73 5 rfl ?_
    refine ww_iload_n C dL_isSound_75 rfl 2 rfl ?_
    refine ww_iconst (v := 1) C dL_isSound_76 (by decide) ?_
    refine ww_isub C dL_isSound_77 ?_
    refine ww_icmp_gt (tgt := 145) C dL_isSound_78 (by decide) (fun c_7 => ?_) (fun c_7 => ?_)
    · replace hf := ifT c_7 hf
      refine ww_iconst (v := 0) C dL_isSound_145 (by decide) ?_
      obtain rfl := Option.some.inj hf
      exact ww_zret C (nar_b false) ⟨rfl, rfl⟩ dL_isSound_146
    · replace hf := ifF c_7 hf
      refine ww_iload C dL_isSound_81 5 rfl ?_
      refine ww_if_le (tgt := 90) C dL_isSound_83 (by decide) (fun c_8 => ?_) (fun c_8 => ?_)
      · replace hf := ifT c_8 hf
        refine ww_iconst (v := 0) C dL_isSound_90 (by decide) ?_
        refine ww_sub C (lv' := [(0, .ref (a0 0)), (1, .int x1), (2, .int x2), (3, .int x3), (4, .int x4), (5, .int x5), (6, .int x6)]) [0, 1, 2, 3, 4, 5, 6] rfl ?_
        exact w_L_isSound_91 C (k11 := k11) hk11 hf
      · replace hf := ifF c_8 hf
        refine ww_iconst (v := 1) C dL_isSound_86 (by decide) ?_
        refine ww_goto (tgt := 91) C dL_isSound_87 (by decide) ?_
        refine ww_sub C (lv' := [(0, .ref (a0 0)), (1, .int x1), (2, .int x2), (3, .int x3), (4, .int x4), (5, .int x5), (6, .int x6)]) [0, 1, 2, 3, 4, 5, 6] rfl ?_
        exact w_L_isSound_91 C (k11 := k11) hk11 hf

set_option maxHeartbeats 4000000 in
set_option maxRecDepth 100000 in
theorem w_L_isSound_55 {E : Ex} {K : Kx} (C : Cx E K cL_isSound 10 (some .boolean) RL wsL_isSound rmL_isSound) {a0 : Nat → Nat} {a1 : Nat → Nat} {a2 : Nat → Nat} {a3 : Nat → Nat} {h0_1 h0_2 h0_4 h0_5 h0_7 h0_8 h0_9 : Nat} {x1 : Int32} {v0 : GWV} {v1 : HouseV}   {x2 : Int32} {x3 : Int32} {x4 : Int32} {x5 : Int32} {x6 : Int32} {s0 : Int32} {v2 : SightV} {v3 : IntrV} {k11 : Int32 → Int32 → SightV → IntrV → Option (Bool × SightV × IntrV)} {r : (Bool × SightV × IntrV)} (hk11 : ∀  (x3 : Int32) (x4 : Int32) (v2 : SightV) (v3 : IntrV), k11 x3 x4 v2 v3 = some r → WW E K 0 0 (QQ E K (fun rv g => rv = some (.int (b2i r.1)) ∧ g = [wGW E a0 (rf10 (a1 0) h0_1 h0_2 (a2 0) h0_4 h0_5 (a3 0) h0_7 h0_8 h0_9) v0, wHouse E a1 v1, wSight E a2 r.2.1, wIntr E a3 r.2.2]) 0 0) 11 [(0, .ref (a0 0)), (1, .int x1), (2, .int x2), (3, .int x3), (4, .int x4)] [] [wGW E a0 (rf10 (a1 0) h0_1 h0_2 (a2 0) h0_4 h0_5 (a3 0) h0_7 h0_8 h0_9) v0, wHouse E a1 v1, wSight E a2 v2, wIntr E a3 v3]) (hf : L_isSound_55 x1 v0 v1 k11 x2 x3 x4 x5 x6 s0 v2 v3 = some r) : WW E K 0 0 (QQ E K (fun rv g => rv = some (.int (b2i r.1)) ∧ g = [wGW E a0 (rf10 (a1 0) h0_1 h0_2 (a2 0) h0_4 h0_5 (a3 0) h0_7 h0_8 h0_9) v0, wHouse E a1 v1, wSight E a2 r.2.1, wIntr E a3 r.2.2]) 0 0) 55 [(0, .ref (a0 0)), (1, .int x1), (2, .int x2), (3, .int x3), (4, .int x4), (5, .int x5), (6, .int x6)] [.int s0] [wGW E a0 (rf10 (a1 0) h0_1 h0_2 (a2 0) h0_4 h0_5 (a3 0) h0_7 h0_8 h0_9) v0, wHouse E a1 v1, wSight E a2 v2, wIntr E a3 v3] := by
  rw [L_isSound_55] at hf
  refine ww_aload_n C dL_isSound_55 rfl 0 rfl ?_
  refine ww_iload C dL_isSound_56 4 rfl ?_
  refine ww_iconst (v := 3) C dL_isSound_58 (by decide) ?_
  obtain ⟨p59, hp59, hf⟩ := bdE hf
  refine ww_callV C (As := [.int x4, .int 3]) (st := [.int s0]) (gr := [wIntr E a3 v3]) (c_X8_room (E := E) (a0 := a0) (h0_1 := h0_1) (h0_2 := h0_2) (h0_4 := h0_4) (h0_5 := h0_5) (h0_6 := a3 0) (h0_7 := h0_7) (h0_8 := h0_8) (h0_9 := h0_9) (a1 := a1) (a2 := a2) hp59) gL_isSound_X8_room rfl yk_X8_room ⟨by decide, Nat.le_of_ble_eq_true rfl⟩ ⟨by decide, by decide⟩ clOK8 0 0 rfl rfl [0, 1, 2] [3] 4 rfl (by decide) rfl rfl (Nat.le_of_ble_eq_true rfl) dL_isSound_59 ?_
  rintro _ _ ⟨rfl, rfl⟩
  refine ww_perm (gs' := [wGW E a0 (rf10 (a1 0) h0_1 h0_2 (a2 0) h0_4 h0_5 (a3 0) h0_7 h0_8 h0_9) v0, wHouse E a1 v1, wSight E a2 p59.2, wIntr E a3 v3]) [0, 1, 2, 3] 4 rfl (by decide) rfl ?_
  refine ww_if_ne (tgt := 69) C dL_isSound_62 (by decide) (fun c_5 => ?_) (fun c_5 => ?_)
  · replace hf := ifF c_5 hf
    refine ww_iconst (v := 0) C dL_isSound_69 (by decide) ?_
    refine ww_sub C (lv' := [(0, .ref (a0 0)), (1, .int x1), (2, .int x2), (3, .int x3), (4, .int x4), (5, .int x5), (6, .int x6)]) [0, 1, 2, 3, 4, 5, 6] rfl ?_
    exact w_L_isSound_70 C (k11 := k11) hk11 hf
  · replace hf := ifT c_5 hf
    refine ww_iconst (v := 1) C dL_isSound_65 (by decide) ?_
    refine ww_goto (tgt := 70) C dL_isSound_66 (by decide) ?_
    refine ww_sub C (lv' := [(0, .ref (a0 0)), (1, .int x1), (2, .int x2), (3, .int x3), (4, .int x4), (5, .int x5), (6, .int x6)]) [0, 1, 2, 3, 4, 5, 6] rfl ?_
    exact w_L_isSound_70 C (k11 := k11) hk11 hf

set_option maxHeartbeats 4000000 in
set_option maxRecDepth 100000 in
theorem w_L_isSound_11 {E : Ex} {K : Kx} (C : Cx E K cL_isSound 10 (some .boolean) RL wsL_isSound rmL_isSound) {a0 : Nat → Nat} {a1 : Nat → Nat} {a2 : Nat → Nat} {a3 : Nat → Nat} {h0_1 h0_2 h0_4 h0_5 h0_7 h0_8 h0_9 : Nat} {x1 : Int32} {v0 : GWV} {v1 : HouseV} {x2 : Int32} {r : (Bool × SightV × IntrV)} : ∀ (n : Nat)  (x3 : Int32) (x4 : Int32) (v2 : SightV) (v3 : IntrV), L_isSound_11 x1 v0 v1 x2 n x3 x4 v2 v3 = some r → WW E K 0 0 (QQ E K (fun rv g => rv = some (.int (b2i r.1)) ∧ g = [wGW E a0 (rf10 (a1 0) h0_1 h0_2 (a2 0) h0_4 h0_5 (a3 0) h0_7 h0_8 h0_9) v0, wHouse E a1 v1, wSight E a2 r.2.1, wIntr E a3 r.2.2]) 0 0) 11 [(0, .ref (a0 0)), (1, .int x1), (2, .int x2), (3, .int x3), (4, .int x4)] [] [wGW E a0 (rf10 (a1 0) h0_1 h0_2 (a2 0) h0_4 h0_5 (a3 0) h0_7 h0_8 h0_9) v0, wHouse E a1 v1, wSight E a2 v2, wIntr E a3 v3] := by
  intro n
  induction n with
  | zero =>
    intro  x3 x4 v2 v3 hf
    simp [L_isSound_11] at hf
  | succ n ih =>
    intro  x3 x4 v2 v3 hf
    rw [L_isSound_11] at hf
    refine ww_iload C dL_isSound_11 4 rfl ?_
    refine ww_aload_n C dL_isSound_13 rfl 0 rfl ?_
    refine ww_iconst (v := 0) C dL_isSound_14 (by decide) ?_
    obtain ⟨p15, hp15, hf⟩ := bdE hf
    refine ww_callV C (As := [.int 0]) (st := [.int x4]) (gr := [wIntr E a3 v3]) (c_X8_size (E := E) (a0 := a0) (h0_1 := h0_1) (h0_2 := h0_2) (h0_4 := h0_4) (h0_5 := h0_5) (h0_6 := a3 0) (h0_7 := h0_7) (h0_8 := h0_8) (h0_9 := h0_9) (a1 := a1) (a2 := a2) hp15) gL_isSound_X8_size rfl yk_X8_size ⟨by decide, Nat.le_of_ble_eq_true rfl⟩ ⟨by decide, by decide⟩ clOK8 0 0 rfl rfl [0, 1, 2] [3] 4 rfl (by decide) rfl rfl (Nat.le_of_ble_eq_true rfl) dL_isSound_15 ?_
    rintro _ _ ⟨rfl, rfl⟩
    refine ww_perm (gs' := [wGW E a0 (rf10 (a1 0) h0_1 h0_2 (a2 0) h0_4 h0_5 (a3 0) h0_7 h0_8 h0_9) v0, wHouse E a1 v1, wSight E a2 p15.2, wIntr E a3 v3]) [0, 1, 2, 3] 4 rfl (by decide) rfl ?_
    refine ww_icmp_ge (tgt := 273) C dL_isSound_18 (by decide) (fun c_1 => ?_) (fun c_1 => ?_)
    · replace hf := ifT c_1 hf
      refine ww_iload_n C dL_isSound_273 rfl 3 rfl ?_
      refine ww_aload_n C dL_isSound_274 rfl 0 rfl ?_
      refine ww_iconst (v := 5) C dL_isSound_275 (by decide) ?_
      obtain ⟨p276, hp276, hf⟩ := bdE hf
      refine ww_callV C (As := [.int 5]) (st := [.int x3]) (gr := [wIntr E a3 v3]) (c_X8_size (E := E) (a0 := a0) (h0_1 := h0_1) (h0_2 := h0_2) (h0_4 := h0_4) (h0_5 := h0_5) (h0_6 := a3 0) (h0_7 := h0_7) (h0_8 := h0_8) (h0_9 := h0_9) (a1 := a1) (a2 := a2) hp276) gL_isSound_X8_size rfl yk_X8_size ⟨by decide, Nat.le_of_ble_eq_true rfl⟩ ⟨by decide, by decide⟩ clOK8 0 0 rfl rfl [0, 1, 2] [3] 4 rfl (by decide) rfl rfl (Nat.le_of_ble_eq_true rfl) dL_isSound_276 ?_
      rintro _ _ ⟨rfl, rfl⟩
      refine ww_perm (gs' := [wGW E a0 (rf10 (a1 0) h0_1 h0_2 (a2 0) h0_4 h0_5 (a3 0) h0_7 h0_8 h0_9) v0, wHouse E a1 v1, wSight E a2 p276.2, wIntr E a3 v3]) [0, 1, 2, 3] 4 rfl (by decide) rfl ?_
      refine ww_icmp_eq (tgt := 284) C dL_isSound_279 (by decide) (fun c_2 => ?_) (fun c_2 => ?_)
      · replace hf := ifT c_2 hf
        refine ww_iconst (v := 0) C dL_isSound_284 (by decide) ?_
        refine ww_istore (lv' := [(4, .int 0), (0, .ref (a0 0)), (1, .int x1), (2, .int x2), (3, .int x3)]) C dL_isSound_285 (by decide) rfl ?_
        refine ww_iconst (v := 0) C dL_isSound_287 (by decide) ?_
        refine ww_istore (lv' := [(5, .int 0), (4, .int 0), (0, .ref (a0 0)), (1, .int x1), (2, .int x2), (3, .int x3)]) C dL_isSound_288 (by decide) rfl ?_
        refine ww_sub C (lv' := [(0, .ref (a0 0)), (1, .int x1), (4, .int 0), (5, .int 0)]) [2, 3, 1, 0] rfl ?_
        exact w_L_isSound_290 C FU _ _ _ _ hf
      · replace hf := ifF c_2 hf
        refine ww_iconst (v := 0) C dL_isSound_282 (by decide) ?_
        obtain rfl := Option.some.inj hf
        exact ww_zret C (nar_b false) ⟨rfl, rfl⟩ dL_isSound_283
    · replace hf := ifF c_1 hf
      refine ww_aload_n C dL_isSound_21 rfl 0 rfl ?_
      refine ww_iload C dL_isSound_22 4 rfl ?_
      refine ww_iconst (v := 1) C dL_isSound_24 (by decide) ?_
      obtain ⟨p25, hp25, hf⟩ := bdE hf
      refine ww_callV C (As := [.int x4, .int 1]) (st := []) (gr := [wIntr E a3 v3]) (c_X8_room (E := E) (a0 := a0) (h0_1 := h0_1) (h0_2 := h0_2) (h0_4 := h0_4) (h0_5 := h0_5) (h0_6 := a3 0) (h0_7 := h0_7) (h0_8 := h0_8) (h0_9 := h0_9) (a1 := a1) (a2 := a2) hp25) gL_isSound_X8_room rfl yk_X8_room ⟨by decide, Nat.le_of_ble_eq_true rfl⟩ ⟨by decide, by decide⟩ clOK8 0 0 rfl rfl [0, 1, 2] [3] 4 rfl (by decide) rfl rfl (Nat.le_of_ble_eq_true rfl) dL_isSound_25 ?_
      rintro _ _ ⟨rfl, rfl⟩
      refine ww_perm (gs' := [wGW E a0 (rf10 (a1 0) h0_1 h0_2 (a2 0) h0_4 h0_5 (a3 0) h0_7 h0_8 h0_9) v0, wHouse E a1 v1, wSight E a2 p25.2, wIntr E a3 v3]) [0, 1, 2, 3] 4 rfl (by decide) rfl ?_
      refine ww_istore (lv' := [(5, .int p25.1), (0, .ref (a0 0)), (1, .int x1), (2, .int x2), (3, .int x3), (4, .int x4)]) C dL_isSound_28 (by decide) rfl ?_
      refine ww_aload_n C dL_isSound_30 rfl 1 rfl ?_
      refine ww_iload C dL_isSound_31 5 rfl ?_
      obtain ⟨p33, hp33, hf⟩ := bdE hf
      refine ww_callV C (As := [.int x4]) (st := []) (gr := [wIntr E a3 v3]) (c_X8_gapFrom (E := E) (a0 := a0) (h0_1 := h0_1) (h0_2 := h0_2) (h0_4 := h0_4) (h0_5 := h0_5) (h0_6 := a3 0) (h0_7 := h0_7) (h0_8 := h0_8) (h0_9 := h0_9) (a1 := a1) (a2 := a2) hp33) gL_isSound_X8_gapFrom rfl yk_X8_gapFrom ⟨by decide, Nat.le_of_ble_eq_true rfl⟩ ⟨by decide, by decide⟩ clOK8 0 0 rfl rfl [0, 1, 2] [3] 4 rfl (by decide) rfl rfl (Nat.le_of_ble_eq_true rfl) dL_isSound_33 ?_
      rintro _ _ ⟨rfl, rfl⟩
      refine ww_perm (gs' := [wGW E a0 (rf10 (a1 0) h0_1 h0_2 (a2 0) h0_4 h0_5 (a3 0) h0_7 h0_8 h0_9) v0, wHouse E a1 v1, wSight E a2 p33.2, wIntr E a3 v3]) [0, 1, 2, 3] 4 rfl (by decide) rfl ?_
      refine ww_istore (lv' := [(6, .int p33.1), (5, .int p25.1), (0, .ref (a0 0)), (1, .int x1), (2, .int x2), (3, .int x3), (4, .int x4)]) C dL_isSound_36 (by decide) rfl ?_
      refine ww_iload_n C dL_isSound_38 rfl 5 rfl ?_
      refine ww_iload C dL_isSound_39 1 rfl ?_
      refine ww_max C (by decide +kernel) (by decide +kernel) (by decide +kernel) (by decide +kernel) (by decide) (Nat.le_of_ble_eq_true rfl) (by decide) (by decide) dL_isSound_41 ?_
      refine ww_topi (fun x3_44 e_x3_44 => ?_)
      replace hf := ltE e_x3_44 hf
      refine ww_istore_n (lv' := [(3, .int x3_44), (6, .int p33.1), (5, .int p25.1), (0, .ref (a0 0)), (1, .int x1), (2, .int x2), (4, .int x4)]) C dL_isSound_44 rfl (by decide) rfl ?_
      refine ww_iload C dL_isSound_45 2 rfl ?_
      refine ww_if_ge (tgt := 54) C dL_isSound_47 (by decide) (fun c_4 => ?_) (fun c_4 => ?_)
      · replace hf := ifT c_4 hf
        refine ww_iconst (v := 0) C dL_isSound_54 (by decide) ?_
        refine ww_sub C (lv' := [(0, .ref (a0 0)), (1, .int x1), (2, .int x2), (3, .int x3_44), (4, .int x4), (5, .int p25.1), (6, .int p33.1)]) [3, 4, 5, 0, 6, 2, 1] rfl ?_
        exact w_L_isSound_55 C (k11 := (fun (x3 : Int32) (x4 : Int32) (v2 : SightV) (v3 : IntrV) => L_isSound_11 x1 v0 v1 x2 n x3 x4 v2 v3)) ih hf
      · replace hf := ifF c_4 hf
        refine ww_iconst (v := 1) C dL_isSound_50 (by decide) ?_
        refine ww_goto (tgt := 55) C dL_isSound_51 (by decide) ?_
        refine ww_sub C (lv' := [(0, .ref (a0 0)), (1, .int x1), (2, .int x2), (3, .int x3_44), (4, .int x4), (5, .int p25.1), (6, .int p33.1)]) [3, 4, 5, 0, 6, 2, 1] rfl ?_
        exact w_L_isSound_55 C (k11 := (fun (x3 : Int32) (x4 : Int32) (v2 : SightV) (v3 : IntrV) => L_isSound_11 x1 v0 v1 x2 n x3 x4 v2 v3)) ih hf

set_option maxHeartbeats 4000000 in
set_option maxRecDepth 100000 in
theorem c_L_isSound {E : Ex} {a0 : Nat → Nat} {a1 : Nat → Nat} {a2 : Nat → Nat} {a3 : Nat → Nat} {h0_1 h0_2 h0_4 h0_5 h0_7 h0_8 h0_9 : Nat} {x1 : Int32} {v0 : GWV} {v1 : HouseV} {v2 : SightV} {v3 : IntrV} {r : (Bool × SightV × IntrV)} (hf : L_isSound x1 v0 v1 v2 v3 = some r) : Ct E yL_isSound wsL_isSound rmL_isSound [.ref (a0 0), .int x1] [wGW E a0 (rf10 (a1 0) h0_1 h0_2 (a2 0) h0_4 h0_5 (a3 0) h0_7 h0_8 h0_9) v0, wHouse E a1 v1, wSight E a2 v2, wIntr E a3 v3] (fun rv g => rv = some (.int (b2i r.1)) ∧ g = [wGW E a0 (rf10 (a1 0) h0_1 h0_2 (a2 0) h0_4 h0_5 (a3 0) h0_7 h0_8 h0_9) v0, wHouse E a1 v1, wSight E a2 r.2.1, wIntr E a3 r.2.2]) := by
  refine ct_of (own := RL) (by decide +kernel) rfl rfl (Nat.le_of_ble_eq_true rfl) (fun K C => ?_)
  refine ww_sub C (lv' := [(0, .ref (a0 0)), (1, .int x1)]) [0, 1] rfl ?_
  rw [L_isSound] at hf
  refine ww_aload_n C dL_isSound_0 rfl 0 rfl ?_
  refine ww_iconst (v := 3) C dL_isSound_1 (by decide) ?_
  obtain ⟨p2, hp2, hf⟩ := bdE hf
  refine ww_callV C (As := [.int 3]) (st := []) (gr := [wIntr E a3 v3]) (c_X8_size (E := E) (a0 := a0) (h0_1 := h0_1) (h0_2 := h0_2) (h0_4 := h0_4) (h0_5 := h0_5) (h0_6 := a3 0) (h0_7 := h0_7) (h0_8 := h0_8) (h0_9 := h0_9) (a1 := a1) (a2 := a2) hp2) gL_isSound_X8_size rfl yk_X8_size ⟨by decide, Nat.le_of_ble_eq_true rfl⟩ ⟨by decide, by decide⟩ clOK8 0 0 rfl rfl [0, 1, 2] [3] 4 rfl (by decide) rfl rfl (Nat.le_of_ble_eq_true rfl) dL_isSound_2 ?_
  rintro _ _ ⟨rfl, rfl⟩
  refine ww_perm (gs' := [wGW E a0 (rf10 (a1 0) h0_1 h0_2 (a2 0) h0_4 h0_5 (a3 0) h0_7 h0_8 h0_9) v0, wHouse E a1 v1, wSight E a2 p2.2, wIntr E a3 v3]) [0, 1, 2, 3] 4 rfl (by decide) rfl ?_
  refine ww_istore_n (lv' := [(2, .int p2.1), (0, .ref (a0 0)), (1, .int x1)]) C dL_isSound_5 rfl (by decide) rfl ?_
  refine ww_iconst (v := 0) C dL_isSound_6 (by decide) ?_
  refine ww_istore_n (lv' := [(3, .int 0), (2, .int p2.1), (0, .ref (a0 0)), (1, .int x1)]) C dL_isSound_7 rfl (by decide) rfl ?_
  refine ww_iconst (v := 0) C dL_isSound_8 (by decide) ?_
  refine ww_istore (lv' := [(4, .int 0), (3, .int 0), (2, .int p2.1), (0, .ref (a0 0)), (1, .int x1)]) C dL_isSound_9 (by decide) rfl ?_
  refine ww_sub C (lv' := [(0, .ref (a0 0)), (1, .int x1), (2, .int p2.1), (3, .int 0), (4, .int 0)]) [3, 4, 2, 1, 0] rfl ?_
  exact w_L_isSound_11 C FU _ _ _ _ hf

theorem ysk_L_isSound : yL_isSound.cls ≠ "java/lang/invoke/MethodHandle" ∧ yL_isSound.cls ≠ "java/lang/invoke/VarHandle" ∧ (parseMethodDescriptor yL_isSound.desc).map (fun d => d.parameters.length) = some 2 := by decide +kernel
