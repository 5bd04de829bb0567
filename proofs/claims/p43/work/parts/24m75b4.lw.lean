abbrev rmL_isBest : Room := { frames := 8, cells := 0, slots := 0, locals := 186 }
set_option maxHeartbeats 4000000 in
set_option maxRecDepth 100000 in
theorem w_L_isBest_150 {E : Ex} {K : Kx} (C : Cx E K cL_isBest 8 (some .boolean) RL wsL_isBest rmL_isBest) {a0 : Nat → Nat} {a1 : Nat → Nat} {a2 : Nat → Nat} {a3 : Nat → Nat} {q4 : Nat} {ah4 : Nat → Nat → Nat} {a5 : Nat → Nat} {a6 : Nat → Nat} {a7 : Nat → Nat} {a8 : Nat → Nat} {a9 : Nat → Nat} {h0_6 h0_7 h0_8 h0_9 h3_1 : Nat}  {x1 : Int64} {r : (Bool × GWV × HouseV × HouseV × HistV × (Nat → HouseV) × SightV × SightV × BestV × HouseV × SightV)} : ∀ (n : Nat)  (x6 : Int32) (v0 : GWV) (v1 : HouseV) (v2 : HouseV) (v3 : HistV) (v4 : Nat → HouseV) (v5 : SightV) (v6 : SightV) (v7 : BestV) (v8 : HouseV) (v9 : SightV), L_isBest_150 x1 n x6 v0 v1 v2 v3 v4 v5 v6 v7 v8 v9 = some r → WW E K 0 0 (QQ E K (fun rv g => rv = some (.int (b2i r.1)) ∧ g = [wGW E a0 (rf10 (a1 0) (a2 0) (a3 0) (a5 0) (a6 0) (a7 0) h0_6 h0_7 h0_8 h0_9) r.2.1, wHouse E a1 r.2.2.1, wHouse E a2 r.2.2.2.1, wHist E a3 (rf2 q4 h3_1) r.2.2.2.2.1, wHs E q4 ah4 r.2.2.2.2.2.1, wSight E a5 r.2.2.2.2.2.2.1, wSight E a6 r.2.2.2.2.2.2.2.1, wBest E a7 (rf2 (a8 0) (a9 0)) r.2.2.2.2.2.2.2.2.1, wHouse E a8 r.2.2.2.2.2.2.2.2.2.1, wSight E a9 r.2.2.2.2.2.2.2.2.2.2]) 0 0) 150 [(0, .ref (a0 0)), (1, .long x1), (6, .int x6)] [] [wGW E a0 (rf10 (a1 0) (a2 0) (a3 0) (a5 0) (a6 0) (a7 0) h0_6 h0_7 h0_8 h0_9) v0, wHouse E a1 v1, wHouse E a2 v2, wHist E a3 (rf2 q4 h3_1) v3, wHs E q4 ah4 v4, wSight E a5 v5, wSight E a6 v6, wBest E a7 (rf2 (a8 0) (a9 0)) v7, wHouse E a8 v8, wSight E a9 v9] := by
  intro n
  induction n with
  | zero =>
    intro  x6 v0 v1 v2 v3 v4 v5 v6 v7 v8 v9 hf
    simp [L_isBest_150] at hf
  | succ n ih =>
    intro  x6 v0 v1 v2 v3 v4 v5 v6 v7 v8 v9 hf
    rw [L_isBest_150] at hf
    refine ww_iload C dL_isBest_150 2 rfl ?_
    refine ww_aload_n C dL_isBest_152 rfl 0 rfl ?_
    refine ww_iconst (v := 2) C dL_isBest_153 (by decide) ?_
    obtain ⟨p154, hp154, hf⟩ := bdE hf
    refine ww_callV C (As := [.int 2]) (st := [.int x6]) (gr := [wHouse E a2 v2, wHist E a3 (rf2 q4 h3_1) v3, wHs E q4 ah4 v4, wSight E a6 v6, wBest E a7 (rf2 (a8 0) (a9 0)) v7, wHouse E a8 v8, wSight E a9 v9]) (c_X8_size (E := E) (a0 := a0) (h0_1 := a2 0) (h0_2 := a3 0) (h0_4 := a6 0) (h0_5 := a7 0) (h0_6 := h0_6) (h0_7 := h0_7) (h0_8 := h0_8) (h0_9 := h0_9) (a1 := a1) (a2 := a5) hp154) gL_isBest_X8_size rfl yk_X8_size ⟨by decide, Nat.le_of_ble_eq_true rfl⟩ ⟨by decide, by decide⟩ clOK8 0 0 rfl rfl [0, 1, 5] [2, 3, 4, 6, 7, 8, 9] 10 rfl (by decide) rfl rfl (Nat.le_of_ble_eq_true rfl) dL_isBest_154 ?_
    rintro _ _ ⟨rfl, rfl⟩
    refine ww_perm (gs' := [wGW E a0 (rf10 (a1 0) (a2 0) (a3 0) (a5 0) (a6 0) (a7 0) h0_6 h0_7 h0_8 h0_9) v0, wHouse E a1 v1, wHouse E a2 v2, wHist E a3 (rf2 q4 h3_1) v3, wHs E q4 ah4 v4, wSight E a5 p154.2, wSight E a6 v6, wBest E a7 (rf2 (a8 0) (a9 0)) v7, wHouse E a8 v8, wSight E a9 v9]) [0, 1, 3, 4, 5, 2, 6, 7, 8, 9] 10 rfl (by decide) rfl ?_
    refine ww_icmp_ge (tgt := 184) C dL_isBest_157 (by decide) (fun c_12 => ?_) (fun c_12 => ?_)
    · replace hf := ifT c_12 hf
      refine ww_aload_n C dL_isBest_184 rfl 0 rfl ?_
      obtain ⟨p185, hp185, hf⟩ := bdE hf
      refine ww_callV C (As := []) (st := []) (gr := [wHouse E a2 v2, wSight E a5 p154.2, wSight E a6 v6]) (c_X8_adopt (E := E) (a0 := a0) (h0_1 := a2 0) (h0_3 := a5 0) (h0_4 := a6 0) (h0_6 := h0_6) (h0_7 := h0_7) (h0_8 := h0_8) (h0_9 := h0_9) (a1 := a1) (a2 := a3) (h2_1 := h3_1) (q3 := q4) (ah3 := ah4) (a4 := a7) (a5 := a8) (a6 := a9) hp185) gL_isBest_X8_adopt rfl yk_X8_adopt ⟨by decide, Nat.le_of_ble_eq_true rfl⟩ ⟨by decide, by decide⟩ clOK8 0 0 rfl rfl [0, 1, 3, 4, 7, 8, 9] [2, 5, 6] 10 rfl (by decide) rfl rfl (Nat.le_of_ble_eq_true rfl) dL_isBest_185 ?_
      rintro _ _ ⟨rfl, rfl⟩
      refine ww_perm (gs' := [wGW E a0 (rf10 (a1 0) (a2 0) (a3 0) (a5 0) (a6 0) (a7 0) h0_6 h0_7 h0_8 h0_9) p185.2.1, wHouse E a1 p185.2.2.1, wHouse E a2 v2, wHist E a3 (rf2 q4 h3_1) p185.2.2.2.1, wHs E q4 ah4 p185.2.2.2.2.1, wSight E a5 p154.2, wSight E a6 v6, wBest E a7 (rf2 (a8 0) (a9 0)) p185.2.2.2.2.2.1, wHouse E a8 p185.2.2.2.2.2.2.1, wSight E a9 p185.2.2.2.2.2.2.2]) [0, 1, 7, 2, 3, 8, 9, 4, 5, 6] 10 rfl (by decide) rfl ?_
      refine ww_if_ne (tgt := 218) C dL_isBest_188 (by decide) (fun c_13 => ?_) (fun c_13 => ?_)
      · replace hf := ifF c_13 hf
        refine ww_iconst (v := 0) C dL_isBest_218 (by decide) ?_
        obtain rfl := Option.some.inj hf
        exact ww_zret C (nar_b false) ⟨rfl, rfl⟩ dL_isBest_219
      · replace hf := ifT c_13 hf
        refine ww_aload_n C dL_isBest_191 rfl 0 rfl ?_
        obtain ⟨p192, hp192, hf⟩ := bdE hf
        refine ww_callV C (As := []) (st := []) (gr := [wHouse E a2 v2, wSight E a5 p154.2, wSight E a6 v6, wBest E a7 (rf2 (a8 0) (a9 0)) p185.2.2.2.2.2.1, wHouse E a8 p185.2.2.2.2.2.2.1, wSight E a9 p185.2.2.2.2.2.2.2]) (c_X8_undo (E := E) (a0 := a0) (h0_1 := a2 0) (h0_3 := a5 0) (h0_4 := a6 0) (h0_5 := a7 0) (h0_6 := h0_6) (h0_7 := h0_7) (h0_8 := h0_8) (h0_9 := h0_9) (a1 := a1) (a2 := a3) (h2_1 := h3_1) (q3 := q4) (ah3 := ah4) hp192) gL_isBest_X8_undo rfl yk_X8_undo ⟨by decide, Nat.le_of_ble_eq_true rfl⟩ ⟨by decide, by decide⟩ clOK8 0 0 rfl rfl [0, 1, 3, 4] [2, 5, 6, 7, 8, 9] 10 rfl (by decide) rfl rfl (Nat.le_of_ble_eq_true rfl) dL_isBest_192 ?_
        rintro _ _ ⟨rfl, rfl⟩
        refine ww_perm (gs' := [wGW E a0 (rf10 (a1 0) (a2 0) (a3 0) (a5 0) (a6 0) (a7 0) h0_6 h0_7 h0_8 h0_9) p185.2.1, wHouse E a1 p192.2.1, wHouse E a2 v2, wHist E a3 (rf2 q4 h3_1) p192.2.2, wHs E q4 ah4 p185.2.2.2.2.1, wSight E a5 p154.2, wSight E a6 v6, wBest E a7 (rf2 (a8 0) (a9 0)) p185.2.2.2.2.2.1, wHouse E a8 p185.2.2.2.2.2.2.1, wSight E a9 p185.2.2.2.2.2.2.2]) [0, 1, 4, 2, 3, 5, 6, 7, 8, 9] 10 rfl (by decide) rfl ?_
        refine ww_if_lt (tgt := 218) C dL_isBest_195 (by decide) (fun c_14 => ?_) (fun c_14 => ?_)
        · replace hf := ifT c_14 hf
          refine ww_iconst (v := 0) C dL_isBest_218 (by decide) ?_
          obtain rfl := Option.some.inj hf
          exact ww_zret C (nar_b false) ⟨rfl, rfl⟩ dL_isBest_219
        · replace hf := ifF c_14 hf
          refine ww_aload_n C dL_isBest_198 rfl 0 rfl ?_
          obtain ⟨p199, hp199, hf⟩ := bdE hf
          refine ww_callV C (As := []) (st := []) (gr := [wHouse E a2 v2, wSight E a5 p154.2, wSight E a6 v6, wBest E a7 (rf2 (a8 0) (a9 0)) p185.2.2.2.2.2.1, wHouse E a8 p185.2.2.2.2.2.2.1, wSight E a9 p185.2.2.2.2.2.2.2]) (c_X8_undo (E := E) (a0 := a0) (h0_1 := a2 0) (h0_3 := a5 0) (h0_4 := a6 0) (h0_5 := a7 0) (h0_6 := h0_6) (h0_7 := h0_7) (h0_8 := h0_8) (h0_9 := h0_9) (a1 := a1) (a2 := a3) (h2_1 := h3_1) (q3 := q4) (ah3 := ah4) hp199) gL_isBest_X8_undo rfl yk_X8_undo ⟨by decide, Nat.le_of_ble_eq_true rfl⟩ ⟨by decide, by decide⟩ clOK8 0 0 rfl rfl [0, 1, 3, 4] [2, 5, 6, 7, 8, 9] 10 rfl (by decide) rfl rfl (Nat.le_of_ble_eq_true rfl) dL_isBest_199 ?_
          rintro _ _ ⟨rfl, rfl⟩
          refine ww_perm (gs' := [wGW E a0 (rf10 (a1 0) (a2 0) (a3 0) (a5 0) (a6 0) (a7 0) h0_6 h0_7 h0_8 h0_9) p185.2.1, wHouse E a1 p199.2.1, wHouse E a2 v2, wHist E a3 (rf2 q4 h3_1) p199.2.2, wHs E q4 ah4 p185.2.2.2.2.1, wSight E a5 p154.2, wSight E a6 v6, wBest E a7 (rf2 (a8 0) (a9 0)) p185.2.2.2.2.2.1, wHouse E a8 p185.2.2.2.2.2.2.1, wSight E a9 p185.2.2.2.2.2.2.2]) [0, 1, 4, 2, 3, 5, 6, 7, 8, 9] 10 rfl (by decide) rfl ?_
          refine ww_if_lt (tgt := 218) C dL_isBest_202 (by decide) (fun c_15 => ?_) (fun c_15 => ?_)
          · replace hf := ifT c_15 hf
            refine ww_iconst (v := 0) C dL_isBest_218 (by decide) ?_
            obtain rfl := Option.some.inj hf
            exact ww_zret C (nar_b false) ⟨rfl, rfl⟩ dL_isBest_219
          · replace hf := ifF c_15 hf
            refine ww_aload_n C dL_isBest_205 rfl 0 rfl ?_
            obtain ⟨p206, hp206, hf⟩ := bdE hf
            refine ww_callS C (As := [.ref (a0 0)]) (st := []) (gr := [wHouse E a2 v2, wHist E a3 (rf2 q4 h3_1) p199.2.2, wHs E q4 ah4 p185.2.2.2.2.1, wSight E a6 v6, wBest E a7 (rf2 (a8 0) (a9 0)) p185.2.2.2.2.2.1, wHouse E a8 p185.2.2.2.2.2.2.1, wSight E a9 p185.2.2.2.2.2.2.2]) (c_L_all (E := E) (a0 := a0) (h0_1 := a2 0) (h0_2 := a3 0) (h0_4 := a6 0) (h0_5 := a7 0) (h0_6 := h0_6) (h0_7 := h0_7) (h0_8 := h0_8) (h0_9 := h0_9) (a1 := a1) (a2 := a5) hp206) gL_isBest_L_all rfl ysk_L_all ⟨by decide, Nat.le_of_ble_eq_true rfl⟩ ⟨by decide, by decide⟩ [0, 1, 5] [2, 3, 4, 6, 7, 8, 9] 10 rfl (by decide) rfl rfl (Nat.le_of_ble_eq_true rfl) dL_isBest_206 ?_
            rintro _ _ ⟨rfl, rfl⟩
            refine ww_perm (gs' := [wGW E a0 (rf10 (a1 0) (a2 0) (a3 0) (a5 0) (a6 0) (a7 0) h0_6 h0_7 h0_8 h0_9) p185.2.1, wHouse E a1 p199.2.1, wHouse E a2 v2, wHist E a3 (rf2 q4 h3_1) p199.2.2, wHs E q4 ah4 p185.2.2.2.2.1, wSight E a5 p206.2, wSight E a6 v6, wBest E a7 (rf2 (a8 0) (a9 0)) p185.2.2.2.2.2.1, wHouse E a8 p185.2.2.2.2.2.2.1, wSight E a9 p185.2.2.2.2.2.2.2]) [0, 1, 3, 4, 5, 2, 6, 7, 8, 9] 10 rfl (by decide) rfl ?_
            refine ww_lload_n C dL_isBest_209 rfl 1 rfl ?_
            refine ww_lcmp C dL_isBest_210 ?_
            refine ww_if_ne (tgt := 218) C dL_isBest_211 (by decide) (fun c_16 => ?_) (fun c_16 => ?_)
            · replace hf := ifF c_16 hf
              refine ww_iconst (v := 0) C dL_isBest_218 (by decide) ?_
              obtain rfl := Option.some.inj hf
              exact ww_zret C (nar_b false) ⟨rfl, rfl⟩ dL_isBest_219
            · replace hf := ifT c_16 hf
              refine ww_iconst (v := 1) C dL_isBest_214 (by decide) ?_
              refine ww_goto (tgt := 219) C dL_isBest_215 (by decide) ?_
              obtain rfl := Option.some.inj hf
              exact ww_zret C (nar_b true) ⟨rfl, rfl⟩ dL_isBest_219
    · replace hf := ifF c_12 hf
      refine ww_aload_n C dL_isBest_160 rfl 0 rfl ?_
      refine ww_iload C dL_isBest_161 2 rfl ?_
      refine ww_iconst (v := 1) C dL_isBest_163 (by decide) ?_
      obtain ⟨p164, hp164, hf⟩ := bdE hf
      refine ww_callV C (As := [.int x6, .int 1]) (st := []) (gr := [wHouse E a2 v2, wHist E a3 (rf2 q4 h3_1) v3, wHs E q4 ah4 v4, wSight E a5 p154.2, wSight E a6 v6, wBest E a7 (rf2 (a8 0) (a9 0)) v7, wHouse E a8 v8, wSight E a9 v9]) (c_X8_guard (E := E) (a0 := a0) (h0_1 := a2 0) (h0_2 := a3 0) (h0_3 := a5 0) (h0_4 := a6 0) (h0_5 := a7 0) (h0_6 := h0_6) (h0_7 := h0_7) (h0_8 := h0_8) (h0_9 := h0_9) (a1 := a1) hp164) gL_isBest_X8_guard rfl yk_X8_guard ⟨by decide, Nat.le_of_ble_eq_true rfl⟩ ⟨by decide, by decide⟩ clOK8 0 0 rfl rfl [0, 1] [2, 3, 4, 5, 6, 7, 8, 9] 10 rfl (by decide) rfl rfl (Nat.le_of_ble_eq_true rfl) dL_isBest_164 ?_
      rintro _ _ ⟨rfl, rfl⟩
      refine ww_perm (gs' := [wGW E a0 (rf10 (a1 0) (a2 0) (a3 0) (a5 0) (a6 0) (a7 0) h0_6 h0_7 h0_8 h0_9) v0, wHouse E a1 v1, wHouse E a2 v2, wHist E a3 (rf2 q4 h3_1) v3, wHs E q4 ah4 v4, wSight E a5 p154.2, wSight E a6 v6, wBest E a7 (rf2 (a8 0) (a9 0)) v7, wHouse E a8 v8, wSight E a9 v9]) [0, 1, 2, 3, 4, 5, 6, 7, 8, 9] 10 rfl (by decide) rfl ?_
      refine ww_aload_n C dL_isBest_167 rfl 0 rfl ?_
      refine ww_iload C dL_isBest_168 2 rfl ?_
      obtain ⟨p170, hp170, hf⟩ := bdE hf
      refine ww_callV C (As := [.int x6]) (st := [.int p164]) (gr := [wHouse E a2 v2, wHist E a3 (rf2 q4 h3_1) v3, wHs E q4 ah4 v4, wSight E a5 p154.2, wSight E a6 v6]) (c_X8_bestPhase (E := E) (a0 := a0) (h0_1 := a2 0) (h0_2 := a3 0) (h0_3 := a5 0) (h0_4 := a6 0) (h0_6 := h0_6) (h0_7 := h0_7) (h0_8 := h0_8) (h0_9 := h0_9) (a1 := a1) (a2 := a7) (a3 := a8) (a4 := a9) hp170) gL_isBest_X8_bestPhase rfl yk_X8_bestPhase ⟨by decide, Nat.le_of_ble_eq_true rfl⟩ ⟨by decide, by decide⟩ clOK8 0 0 rfl rfl [0, 1, 7, 8, 9] [2, 3, 4, 5, 6] 10 rfl (by decide) rfl rfl (Nat.le_of_ble_eq_true rfl) dL_isBest_170 ?_
      rintro _ _ ⟨rfl, rfl⟩
      refine ww_perm (gs' := [wGW E a0 (rf10 (a1 0) (a2 0) (a3 0) (a5 0) (a6 0) (a7 0) h0_6 h0_7 h0_8 h0_9) v0, wHouse E a1 v1, wHouse E a2 v2, wHist E a3 (rf2 q4 h3_1) v3, wHs E q4 ah4 v4, wSight E a5 p154.2, wSight E a6 v6, wBest E a7 (rf2 (a8 0) (a9 0)) p170.2.1, wHouse E a8 p170.2.2.1, wSight E a9 p170.2.2.2]) [0, 1, 5, 6, 7, 8, 9, 2, 3, 4] 10 rfl (by decide) rfl ?_
      refine ww_icmp_eq (tgt := 178) C dL_isBest_173 (by decide) (fun c_17 => ?_) (fun c_17 => ?_)
      · replace hf := ifT c_17 hf
        obtain ⟨x6_178, e_x6_178⟩ : ∃ y : Int32, y = x6 + 1 := ⟨_, rfl⟩
        replace hf := ltE e_x6_178 hf
        refine ww_iinc (v := x6_178) (lv' := [(6, .int x6_178), (0, .ref (a0 0)), (1, .long x1)]) C dL_isBest_178 2 rfl (by rw [e_x6_178]; rfl) (by decide) rfl ?_
        refine ww_goto (tgt := 150) C dL_isBest_181 (by decide) ?_
        refine ww_sub C (lv' := [(0, .ref (a0 0)), (1, .long x1), (6, .int x6_178)]) [1, 2, 0] rfl ?_
        exact ih _ _ _ _ _ _ _ _ _ _ _ hf
      · replace hf := ifF c_17 hf
        refine ww_iconst (v := 0) C dL_isBest_176 (by decide) ?_
        obtain rfl := Option.some.inj hf
        exact ww_zret C (nar_b false) ⟨rfl, rfl⟩ dL_isBest_177

set_option maxHeartbeats 4000000 in
set_option maxRecDepth 100000 in
theorem w_L_isBest_61 {E : Ex} {K : Kx} (C : Cx E K cL_isBest 8 (some .boolean) RL wsL_isBest rmL_isBest) {a0 : Nat → Nat} {a1 : Nat → Nat} {a2 : Nat → Nat} {a3 : Nat → Nat} {q4 : Nat} {ah4 : Nat → Nat → Nat} {a5 : Nat → Nat} {a6 : Nat → Nat} {a7 : Nat → Nat} {a8 : Nat → Nat} {a9 : Nat → Nat} {h0_6 h0_7 h0_8 h0_9 h3_1 : Nat}  {x1 : Int64} {x3 : Int32} {x4 : Int32} {x5 : Int32} {x6 : Int32} {k22 : Int32 → Int32 → GWV → HouseV → HouseV → HistV → (Nat → HouseV) → SightV → SightV → BestV → HouseV → SightV → Option (Bool × GWV × HouseV × HouseV × HistV × (Nat → HouseV) × SightV × SightV × BestV × HouseV × SightV)} {r : (Bool × GWV × HouseV × HouseV × HistV × (Nat → HouseV) × SightV × SightV × BestV × HouseV × SightV)} (hk22 : ∀  (x5 : Int32) (x6 : Int32) (v0 : GWV) (v1 : HouseV) (v2 : HouseV) (v3 : HistV) (v4 : Nat → HouseV) (v5 : SightV) (v6 : SightV) (v7 : BestV) (v8 : HouseV) (v9 : SightV), k22 x5 x6 v0 v1 v2 v3 v4 v5 v6 v7 v8 v9 = some r → WW E K 0 0 (QQ E K (fun rv g => rv = some (.int (b2i r.1)) ∧ g = [wGW E a0 (rf10 (a1 0) (a2 0) (a3 0) (a5 0) (a6 0) (a7 0) h0_6 h0_7 h0_8 h0_9) r.2.1, wHouse E a1 r.2.2.1, wHouse E a2 r.2.2.2.1, wHist E a3 (rf2 q4 h3_1) r.2.2.2.2.1, wHs E q4 ah4 r.2.2.2.2.2.1, wSight E a5 r.2.2.2.2.2.2.1, wSight E a6 r.2.2.2.2.2.2.2.1, wBest E a7 (rf2 (a8 0) (a9 0)) r.2.2.2.2.2.2.2.2.1, wHouse E a8 r.2.2.2.2.2.2.2.2.2.1, wSight E a9 r.2.2.2.2.2.2.2.2.2.2]) 0 0) 22 [(0, .ref (a0 0)), (1, .long x1), (3, .int x3), (4, .int x4), (5, .int x5), (6, .int x6)] [] [wGW E a0 (rf10 (a1 0) (a2 0) (a3 0) (a5 0) (a6 0) (a7 0) h0_6 h0_7 h0_8 h0_9) v0, wHouse E a1 v1, wHouse E a2 v2, wHist E a3 (rf2 q4 h3_1) v3, wHs E q4 ah4 v4, wSight E a5 v5, wSight E a6 v6, wBest E a7 (rf2 (a8 0) (a9 0)) v7, wHouse E a8 v8, wSight E a9 v9]) : ∀ (n : Nat)  (x7 : Int32) (v0 : GWV) (v1 : HouseV) (v2 : HouseV) (v3 : HistV) (v4 : Nat → HouseV) (v5 : SightV) (v6 : SightV) (v7 : BestV) (v8 : HouseV) (v9 : SightV), L_isBest_61 x1 x3 x4 x5 x6 k22 n x7 v0 v1 v2 v3 v4 v5 v6 v7 v8 v9 = some r → WW E K 0 0 (QQ E K (fun rv g => rv = some (.int (b2i r.1)) ∧ g = [wGW E a0 (rf10 (a1 0) (a2 0) (a3 0) (a5 0) (a6 0) (a7 0) h0_6 h0_7 h0_8 h0_9) r.2.1, wHouse E a1 r.2.2.1, wHouse E a2 r.2.2.2.1, wHist E a3 (rf2 q4 h3_1) r.2.2.2.2.1, wHs E q4 ah4 r.2.2.2.2.2.1, wSight E a5 r.2.2.2.2.2.2.1, wSight E a6 r.2.2.2.2.2.2.2.1, wBest E a7 (rf2 (a8 0) (a9 0)) r.2.2.2.2.2.2.2.2.1, wHouse E a8 r.2.2.2.2.2.2.2.2.2.1, wSight E a9 r.2.2.2.2.2.2.2.2.2.2]) 0 0) 61 [(0, .ref (a0 0)), (1, .long x1), (3, .int x3), (4, .int x4), (5, .int x5), (6, .int x6), (7, .int x7)] [] [wGW E a0 (rf10 (a1 0) (a2 0) (a3 0) (a5 0) (a6 0) (a7 0) h0_6 h0_7 h0_8 h0_9) v0, wHouse E a1 v1, wHouse E a2 v2, wHist E a3 (rf2 q4 h3_1) v3, wHs E q4 ah4 v4, wSight E a5 v5, wSight E a6 v6, wBest E a7 (rf2 (a8 0) (a9 0)) v7, wHouse E a8 v8, wSight E a9 v9] := by
  intro n
  induction n with
  | zero =>
    intro  x7 v0 v1 v2 v3 v4 v5 v6 v7 v8 v9 hf
    simp [L_isBest_61] at hf
  | succ n ih =>
    intro  x7 v0 v1 v2 v3 v4 v5 v6 v7 v8 v9 hf
    rw [L_isBest_61] at hf
    refine ww_iload C dL_isBest_61 6 rfl ?_
    refine ww_aload_n C dL_isBest_63 rfl 0 rfl ?_
    refine ww_iload C dL_isBest_64 5 rfl ?_
    refine ww_iconst (v := 0) C dL_isBest_66 (by decide) ?_
    obtain ⟨p67, hp67, hf⟩ := bdE hf
    refine ww_callV C (As := [.int x6, .int 0]) (st := [.int x7]) (gr := [wHouse E a2 v2, wHist E a3 (rf2 q4 h3_1) v3, wHs E q4 ah4 v4, wSight E a5 v5, wSight E a6 v6, wBest E a7 (rf2 (a8 0) (a9 0)) v7, wHouse E a8 v8, wSight E a9 v9]) (c_X8_guard (E := E) (a0 := a0) (h0_1 := a2 0) (h0_2 := a3 0) (h0_3 := a5 0) (h0_4 := a6 0) (h0_5 := a7 0) (h0_6 := h0_6) (h0_7 := h0_7) (h0_8 := h0_8) (h0_9 := h0_9) (a1 := a1) hp67) gL_isBest_X8_guard rfl yk_X8_guard ⟨by decide, Nat.le_of_ble_eq_true rfl⟩ ⟨by decide, by decide⟩ clOK8 0 0 rfl rfl [0, 1] [2, 3, 4, 5, 6, 7, 8, 9] 10 rfl (by decide) rfl rfl (Nat.le_of_ble_eq_true rfl) dL_isBest_67 ?_
    rintro _ _ ⟨rfl, rfl⟩
    refine ww_perm (gs' := [wGW E a0 (rf10 (a1 0) (a2 0) (a3 0) (a5 0) (a6 0) (a7 0) h0_6 h0_7 h0_8 h0_9) v0, wHouse E a1 v1, wHouse E a2 v2, wHist E a3 (rf2 q4 h3_1) v3, wHs E q4 ah4 v4, wSight E a5 v5, wSight E a6 v6, wBest E a7 (rf2 (a8 0) (a9 0)) v7, wHouse E a8 v8, wSight E a9 v9]) [0, 1, 2, 3, 4, 5, 6, 7, 8, 9] 10 rfl (by decide) rfl ?_
    refine ww_icmp_ge (tgt := 93) C dL_isBest_70 (by decide) (fun c_10 => ?_) (fun c_10 => ?_)
    · replace hf := ifT c_10 hf
      obtain ⟨x6_93, e_x6_93⟩ : ∃ y : Int32, y = x6 + 1 := ⟨_, rfl⟩
      replace hf := ltE e_x6_93 hf
      refine ww_iinc (v := x6_93) (lv' := [(6, .int x6_93), (0, .ref (a0 0)), (1, .long x1), (3, .int x3), (4, .int x4), (5, .int x5), (7, .int x7)]) C dL_isBest_93 5 rfl (by rw [e_x6_93]; rfl) (by decide) rfl ?_
      refine ww_goto (tgt := 22) C dL_isBest_96 (by decide) ?_
      refine ww_sub C (lv' := [(0, .ref (a0 0)), (1, .long x1), (3, .int x3), (4, .int x4), (5, .int x5), (6, .int x6_93)]) [1, 2, 3, 4, 5, 0] rfl ?_
      exact hk22 _ _ _ _ _ _ _ _ _ _ _ _ hf
    · replace hf := ifF c_10 hf
      refine ww_aload_n C dL_isBest_73 rfl 0 rfl ?_
      refine ww_iload C dL_isBest_74 5 rfl ?_
      refine ww_iload C dL_isBest_76 6 rfl ?_
      obtain ⟨p78, hp78, hf⟩ := bdE hf
      refine ww_callV C (As := [.int x6, .int x7]) (st := []) (gr := [wHist E a3 (rf2 q4 h3_1) v3, wHs E q4 ah4 v4, wSight E a5 v5, wBest E a7 (rf2 (a8 0) (a9 0)) v7, wHouse E a8 v8, wSight E a9 v9]) (c_X8_worstWith (E := E) (a0 := a0) (h0_2 := a3 0) (h0_3 := a5 0) (h0_5 := a7 0) (h0_6 := h0_6) (h0_7 := h0_7) (h0_8 := h0_8) (h0_9 := h0_9) (a1 := a1) (a2 := a2) (a3 := a6) hp78) gL_isBest_X8_worstWith rfl yk_X8_worstWith ⟨by decide, Nat.le_of_ble_eq_true rfl⟩ ⟨by decide, by decide⟩ clOK8 0 0 rfl rfl [0, 1, 2, 6] [3, 4, 5, 7, 8, 9] 10 rfl (by decide) rfl rfl (Nat.le_of_ble_eq_true rfl) dL_isBest_78 ?_
      rintro _ _ ⟨rfl, rfl⟩
      refine ww_perm (gs' := [wGW E a0 (rf10 (a1 0) (a2 0) (a3 0) (a5 0) (a6 0) (a7 0) h0_6 h0_7 h0_8 h0_9) v0, wHouse E a1 v1, wHouse E a2 p78.2.1, wHist E a3 (rf2 q4 h3_1) v3, wHs E q4 ah4 v4, wSight E a5 v5, wSight E a6 p78.2.2, wBest E a7 (rf2 (a8 0) (a9 0)) v7, wHouse E a8 v8, wSight E a9 v9]) [0, 1, 2, 4, 5, 6, 3, 7, 8, 9] 10 rfl (by decide) rfl ?_
      refine ww_iload_n C dL_isBest_81 rfl 2 rfl ?_
      refine ww_icmp_ge (tgt := 87) C dL_isBest_82 (by decide) (fun c_11 => ?_) (fun c_11 => ?_)
      · replace hf := ifT c_11 hf
        obtain ⟨x7_87, e_x7_87⟩ : ∃ y : Int32, y = x7 + 1 := ⟨_, rfl⟩
        replace hf := ltE e_x7_87 hf
        refine ww_iinc (v := x7_87) (lv' := [(7, .int x7_87), (0, .ref (a0 0)), (1, .long x1), (3, .int x3), (4, .int x4), (5, .int x5), (6, .int x6)]) C dL_isBest_87 6 rfl (by rw [e_x7_87]; rfl) (by decide) rfl ?_
        refine ww_goto (tgt := 61) C dL_isBest_90 (by decide) ?_
        refine ww_sub C (lv' := [(0, .ref (a0 0)), (1, .long x1), (3, .int x3), (4, .int x4), (5, .int x5), (6, .int x6), (7, .int x7_87)]) [1, 2, 3, 4, 5, 6, 0] rfl ?_
        exact ih _ _ _ _ _ _ _ _ _ _ _ hf
      · replace hf := ifF c_11 hf
        refine ww_iconst (v := 0) C dL_isBest_85 (by decide) ?_
        obtain rfl := Option.some.inj hf
        exact ww_zret C (nar_b false) ⟨rfl, rfl⟩ dL_isBest_86

set_option maxHeartbeats 4000000 in
set_option maxRecDepth 100000 in
theorem w_L_isBest_22 {E : Ex} {K : Kx} (C : Cx E K cL_isBest 8 (some .boolean) RL wsL_isBest rmL_isBest) {a0 : Nat → Nat} {a1 : Nat → Nat} {a2 : Nat → Nat} {a3 : Nat → Nat} {q4 : Nat} {ah4 : Nat → Nat → Nat} {a5 : Nat → Nat} {a6 : Nat → Nat} {a7 : Nat → Nat} {a8 : Nat → Nat} {a9 : Nat → Nat} {h0_6 h0_7 h0_8 h0_9 h3_1 : Nat}  {x1 : Int64} {x3 : Int32} {x4 : Int32} {r : (Bool × GWV × HouseV × HouseV × HistV × (Nat → HouseV) × SightV × SightV × BestV × HouseV × SightV)} : ∀ (n : Nat)  (x5 : Int32) (x6 : Int32) (v0 : GWV) (v1 : HouseV) (v2 : HouseV) (v3 : HistV) (v4 : Nat → HouseV) (v5 : SightV) (v6 : SightV) (v7 : BestV) (v8 : HouseV) (v9 : SightV), L_isBest_22 x1 x3 x4 n x5 x6 v0 v1 v2 v3 v4 v5 v6 v7 v8 v9 = some r → WW E K 0 0 (QQ E K (fun rv g => rv = some (.int (b2i r.1)) ∧ g = [wGW E a0 (rf10 (a1 0) (a2 0) (a3 0) (a5 0) (a6 0) (a7 0) h0_6 h0_7 h0_8 h0_9) r.2.1, wHouse E a1 r.2.2.1, wHouse E a2 r.2.2.2.1, wHist E a3 (rf2 q4 h3_1) r.2.2.2.2.1, wHs E q4 ah4 r.2.2.2.2.2.1, wSight E a5 r.2.2.2.2.2.2.1, wSight E a6 r.2.2.2.2.2.2.2.1, wBest E a7 (rf2 (a8 0) (a9 0)) r.2.2.2.2.2.2.2.2.1, wHouse E a8 r.2.2.2.2.2.2.2.2.2.1, wSight E a9 r.2.2.2.2.2.2.2.2.2.2]) 0 0) 22 [(0, .ref (a0 0)), (1, .long x1), (3, .int x3), (4, .int x4), (5, .int x5), (6, .int x6)] [] [wGW E a0 (rf10 (a1 0) (a2 0) (a3 0) (a5 0) (a6 0) (a7 0) h0_6 h0_7 h0_8 h0_9) v0, wHouse E a1 v1, wHouse E a2 v2, wHist E a3 (rf2 q4 h3_1) v3, wHs E q4 ah4 v4, wSight E a5 v5, wSight E a6 v6, wBest E a7 (rf2 (a8 0) (a9 0)) v7, wHouse E a8 v8, wSight E a9 v9] := by
  intro n
  induction n with
  | zero =>
    intro  x5 x6 v0 v1 v2 v3 v4 v5 v6 v7 v8 v9 hf
    simp [L_isBest_22] at hf
  | succ n ih =>
    intro  x5 x6 v0 v1 v2 v3 v4 v5 v6 v7 v8 v9 hf
    rw [L_isBest_22] at hf
    refine ww_iload C dL_isBest_22 5 rfl ?_
    refine ww_aload_n C dL_isBest_24 rfl 0 rfl ?_
    refine ww_iconst (v := 2) C dL_isBest_25 (by decide) ?_
    obtain ⟨p26, hp26, hf⟩ := bdE hf
    refine ww_callV C (As := [.int 2]) (st := [.int x6]) (gr := [wHouse E a2 v2, wHist E a3 (rf2 q4 h3_1) v3, wHs E q4 ah4 v4, wSight E a6 v6, wBest E a7 (rf2 (a8 0) (a9 0)) v7, wHouse E a8 v8, wSight E a9 v9]) (c_X8_size (E := E) (a0 := a0) (h0_1 := a2 0) (h0_2 := a3 0) (h0_4 := a6 0) (h0_5 := a7 0) (h0_6 := h0_6) (h0_7 := h0_7) (h0_8 := h0_8) (h0_9 := h0_9) (a1 := a1) (a2 := a5) hp26) gL_isBest_X8_size rfl yk_X8_size ⟨by decide, Nat.le_of_ble_eq_true rfl⟩ ⟨by decide, by decide⟩ clOK8 0 0 rfl rfl [0, 1, 5] [2, 3, 4, 6, 7, 8, 9] 10 rfl (by decide) rfl rfl (Nat.le_of_ble_eq_true rfl) dL_isBest_26 ?_
    rintro _ _ ⟨rfl, rfl⟩
    refine ww_perm (gs' := [wGW E a0 (rf10 (a1 0) (a2 0) (a3 0) (a5 0) (a6 0) (a7 0) h0_6 h0_7 h0_8 h0_9) v0, wHouse E a1 v1, wHouse E a2 v2, wHist E a3 (rf2 q4 h3_1) v3, wHs E q4 ah4 v4, wSight E a5 p26.2, wSight E a6 v6, wBest E a7 (rf2 (a8 0) (a9 0)) v7, wHouse E a8 v8, wSight E a9 v9]) [0, 1, 3, 4, 5, 2, 6, 7, 8, 9] 10 rfl (by decide) rfl ?_
    refine ww_icmp_ge (tgt := 99) C dL_isBest_29 (by decide) (fun c_1 => ?_) (fun c_1 => ?_)
    · replace hf := ifT c_1 hf
      refine ww_aload_n C dL_isBest_99 rfl 0 rfl ?_
      obtain ⟨p100, hp100, hf⟩ := bdE hf
      refine ww_callS C (As := [.ref (a0 0)]) (st := []) (gr := [wHouse E a2 v2, wHist E a3 (rf2 q4 h3_1) v3, wHs E q4 ah4 v4, wSight E a6 v6, wBest E a7 (rf2 (a8 0) (a9 0)) v7, wHouse E a8 v8, wSight E a9 v9]) (c_L_all (E := E) (a0 := a0) (h0_1 := a2 0) (h0_2 := a3 0) (h0_4 := a6 0) (h0_5 := a7 0) (h0_6 := h0_6) (h0_7 := h0_7) (h0_8 := h0_8) (h0_9 := h0_9) (a1 := a1) (a2 := a5) hp100) gL_isBest_L_all rfl ysk_L_all ⟨by decide, Nat.le_of_ble_eq_true rfl⟩ ⟨by decide, by decide⟩ [0, 1, 5] [2, 3, 4, 6, 7, 8, 9] 10 rfl (by decide) rfl rfl (Nat.le_of_ble_eq_true rfl) dL_isBest_100 ?_
      rintro _ _ ⟨rfl, rfl⟩
      refine ww_perm (gs' := [wGW E a0 (rf10 (a1 0) (a2 0) (a3 0) (a5 0) (a6 0) (a7 0) h0_6 h0_7 h0_8 h0_9) v0, wHouse E a1 v1, wHouse E a2 v2, wHist E a3 (rf2 q4 h3_1) v3, wHs E q4 ah4 v4, wSight E a5 p100.2, wSight E a6 v6, wBest E a7 (rf2 (a8 0) (a9 0)) v7, wHouse E a8 v8, wSight E a9 v9]) [0, 1, 3, 4, 5, 2, 6, 7, 8, 9] 10 rfl (by decide) rfl ?_
      refine ww_lload_n C dL_isBest_103 rfl 1 rfl ?_
      refine ww_lcmp C dL_isBest_104 ?_
      refine ww_if_ne (tgt := 145) C dL_isBest_105 (by decide) (fun c_2 => ?_) (fun c_2 => ?_)
      · replace hf := ifF c_2 hf
        refine ww_iconst (v := 0) C dL_isBest_145 (by decide) ?_
        obtain rfl := Option.some.inj hf
        exact ww_zret C (nar_b false) ⟨rfl, rfl⟩ dL_isBest_146
      · replace hf := ifT c_2 hf
        refine ww_aload_n C dL_isBest_108 rfl 0 rfl ?_
        obtain ⟨p109, hp109, hf⟩ := bdE hf
        refine ww_callV C (As := []) (st := []) (gr := [wHouse E a2 v2, wSight E a5 p100.2, wSight E a6 v6]) (c_X8_adopt (E := E) (a0 := a0) (h0_1 := a2 0) (h0_3 := a5 0) (h0_4 := a6 0) (h0_6 := h0_6) (h0_7 := h0_7) (h0_8 := h0_8) (h0_9 := h0_9) (a1 := a1) (a2 := a3) (h2_1 := h3_1) (q3 := q4) (ah3 := ah4) (a4 := a7) (a5 := a8) (a6 := a9) hp109) gL_isBest_X8_adopt rfl yk_X8_adopt ⟨by decide, Nat.le_of_ble_eq_true rfl⟩ ⟨by decide, by decide⟩ clOK8 0 0 rfl rfl [0, 1, 3, 4, 7, 8, 9] [2, 5, 6] 10 rfl (by decide) rfl rfl (Nat.le_of_ble_eq_true rfl) dL_isBest_109 ?_
        rintro _ _ ⟨rfl, rfl⟩
        refine ww_perm (gs' := [wGW E a0 (rf10 (a1 0) (a2 0) (a3 0) (a5 0) (a6 0) (a7 0) h0_6 h0_7 h0_8 h0_9) p109.2.1, wHouse E a1 p109.2.2.1, wHouse E a2 v2, wHist E a3 (rf2 q4 h3_1) p109.2.2.2.1, wHs E q4 ah4 p109.2.2.2.2.1, wSight E a5 p100.2, wSight E a6 v6, wBest E a7 (rf2 (a8 0) (a9 0)) p109.2.2.2.2.2.1, wHouse E a8 p109.2.2.2.2.2.2.1, wSight E a9 p109.2.2.2.2.2.2.2]) [0, 1, 7, 2, 3, 8, 9, 4, 5, 6] 10 rfl (by decide) rfl ?_
        refine ww_iload C dL_isBest_112 4 rfl ?_
        refine ww_icmp_ne (tgt := 145) C dL_isBest_114 (by decide) (fun c_3 => ?_) (fun c_3 => ?_)
        · replace hf := ifF c_3 hf
          refine ww_iconst (v := 0) C dL_isBest_145 (by decide) ?_
          obtain rfl := Option.some.inj hf
          exact ww_zret C (nar_b false) ⟨rfl, rfl⟩ dL_isBest_146
        · replace hf := ifT c_3 hf
          refine ww_aload_n C dL_isBest_117 rfl 0 rfl ?_
          refine ww_iconst (v := 5) C dL_isBest_118 (by decide) ?_
          obtain ⟨p119, hp119, hf⟩ := bdE hf
          refine ww_callV C (As := [.int 5]) (st := []) (gr := [wHouse E a2 v2, wHist E a3 (rf2 q4 h3_1) p109.2.2.2.1, wHs E q4 ah4 p109.2.2.2.2.1, wSight E a6 v6, wBest E a7 (rf2 (a8 0) (a9 0)) p109.2.2.2.2.2.1, wHouse E a8 p109.2.2.2.2.2.2.1, wSight E a9 p109.2.2.2.2.2.2.2]) (c_X8_size (E := E) (a0 := a0) (h0_1 := a2 0) (h0_2 := a3 0) (h0_4 := a6 0) (h0_5 := a7 0) (h0_6 := h0_6) (h0_7 := h0_7) (h0_8 := h0_8) (h0_9 := h0_9) (a1 := a1) (a2 := a5) hp119) gL_isBest_X8_size rfl yk_X8_size ⟨by decide, Nat.le_of_ble_eq_true rfl⟩ ⟨by decide, by decide⟩ clOK8 0 0 rfl rfl [0, 1, 5] [2, 3, 4, 6, 7, 8, 9] 10 rfl (by decide) rfl rfl (Nat.le_of_ble_eq_true rfl) dL_isBest_119 ?_
          rintro _ _ ⟨rfl, rfl⟩
          refine ww_perm (gs' := [wGW E a0 (rf10 (a1 0) (a2 0) (a3 0) (a5 0) (a6 0) (a7 0) h0_6 h0_7 h0_8 h0_9) p109.2.1, wHouse E a1 p109.2.2.1, wHouse E a2 v2, wHist E a3 (rf2 q4 h3_1) p109.2.2.2.1, wHs E q4 ah4 p109.2.2.2.2.1, wSight E a5 p119.2, wSight E a6 v6, wBest E a7 (rf2 (a8 0) (a9 0)) p109.2.2.2.2.2.1, wHouse E a8 p109.2.2.2.2.2.2.1, wSight E a9 p109.2.2.2.2.2.2.2]) [0, 1, 3, 4, 5, 2, 6, 7, 8, 9] 10 rfl (by decide) rfl ?_
          refine ww_iload_n C dL_isBest_122 rfl 2 rfl ?_
          refine ww_icmp_ne (tgt := 145) C dL_isBest_123 (by decide) (fun c_4 => ?_) (fun c_4 => ?_)
          · replace hf := ifF c_4 hf
            refine ww_iconst (v := 0) C dL_isBest_145 (by decide) ?_
            obtain rfl := Option.some.inj hf
            exact ww_zret C (nar_b false) ⟨rfl, rfl⟩ dL_isBest_146
          · replace hf := ifT c_4 hf
            refine ww_aload_n C dL_isBest_126 rfl 0 rfl ?_
            refine ww_bipush (v := 7) C dL_isBest_127 (by decide) ?_
            obtain ⟨p129, hp129, hf⟩ := bdE hf
            refine ww_callV C (As := [.int 7]) (st := []) (gr := [wHouse E a2 v2, wHist E a3 (rf2 q4 h3_1) p109.2.2.2.1, wHs E q4 ah4 p109.2.2.2.2.1, wSight E a6 v6, wBest E a7 (rf2 (a8 0) (a9 0)) p109.2.2.2.2.2.1, wHouse E a8 p109.2.2.2.2.2.2.1, wSight E a9 p109.2.2.2.2.2.2.2]) (c_X8_size (E := E) (a0 := a0) (h0_1 := a2 0) (h0_2 := a3 0) (h0_4 := a6 0) (h0_5 := a7 0) (h0_6 := h0_6) (h0_7 := h0_7) (h0_8 := h0_8) (h0_9 := h0_9) (a1 := a1) (a2 := a5) hp129) gL_isBest_X8_size rfl yk_X8_size ⟨by decide, Nat.le_of_ble_eq_true rfl⟩ ⟨by decide, by decide⟩ clOK8 0 0 rfl rfl [0, 1, 5] [2, 3, 4, 6, 7, 8, 9] 10 rfl (by decide) rfl rfl (Nat.le_of_ble_eq_true rfl) dL_isBest_129 ?_
            rintro _ _ ⟨rfl, rfl⟩
            refine ww_perm (gs' := [wGW E a0 (rf10 (a1 0) (a2 0) (a3 0) (a5 0) (a6 0) (a7 0) h0_6 h0_7 h0_8 h0_9) p109.2.1, wHouse E a1 p109.2.2.1, wHouse E a2 v2, wHist E a3 (rf2 q4 h3_1) p109.2.2.2.1, wHs E q4 ah4 p109.2.2.2.2.1, wSight E a5 p129.2, wSight E a6 v6, wBest E a7 (rf2 (a8 0) (a9 0)) p109.2.2.2.2.2.1, wHouse E a8 p109.2.2.2.2.2.2.1, wSight E a9 p109.2.2.2.2.2.2.2]) [0, 1, 3, 4, 5, 2, 6, 7, 8, 9] 10 rfl (by decide) rfl ?_
            refine ww_iload C dL_isBest_132 3 rfl ?_
            refine ww_icmp_ne (tgt := 145) C dL_isBest_134 (by decide) (fun c_5 => ?_) (fun c_5 => ?_)
            · replace hf := ifF c_5 hf
              refine ww_iconst (v := 0) C dL_isBest_145 (by decide) ?_
              obtain rfl := Option.some.inj hf
              exact ww_zret C (nar_b false) ⟨rfl, rfl⟩ dL_isBest_146
            · replace hf := ifT c_5 hf
              refine ww_aload_n C dL_isBest_137 rfl 0 rfl ?_
              obtain ⟨p138, hp138, hf⟩ := bdE hf
              refine ww_callV C (As := []) (st := []) (gr := [wHouse E a2 v2, wHist E a3 (rf2 q4 h3_1) p109.2.2.2.1, wHs E q4 ah4 p109.2.2.2.2.1, wSight E a5 p129.2, wSight E a6 v6]) (c_X8_bestWorst (E := E) (a0 := a0) (h0_1 := a2 0) (h0_2 := a3 0) (h0_3 := a5 0) (h0_4 := a6 0) (h0_6 := h0_6) (h0_7 := h0_7) (h0_8 := h0_8) (h0_9 := h0_9) (a1 := a1) (a2 := a7) (a3 := a8) (a4 := a9) hp138) gL_isBest_X8_bestWorst rfl yk_X8_bestWorst ⟨by decide, Nat.le_of_ble_eq_true rfl⟩ ⟨by decide, by decide⟩ clOK8 0 0 rfl rfl [0, 1, 7, 8, 9] [2, 3, 4, 5, 6] 10 rfl (by decide) rfl rfl (Nat.le_of_ble_eq_true rfl) dL_isBest_138 ?_
              rintro _ _ ⟨rfl, rfl⟩
              refine ww_perm (gs' := [wGW E a0 (rf10 (a1 0) (a2 0) (a3 0) (a5 0) (a6 0) (a7 0) h0_6 h0_7 h0_8 h0_9) p109.2.1, wHouse E a1 p109.2.2.1, wHouse E a2 v2, wHist E a3 (rf2 q4 h3_1) p109.2.2.2.1, wHs E q4 ah4 p109.2.2.2.2.1, wSight E a5 p129.2, wSight E a6 v6, wBest E a7 (rf2 (a8 0) (a9 0)) p138.2.1, wHouse E a8 p138.2.2.1, wSight E a9 p138.2.2.2]) [0, 1, 5, 6, 7, 8, 9, 2, 3, 4] 10 rfl (by decide) rfl ?_
              refine ww_iload_n C dL_isBest_141 rfl 2 rfl ?_
              refine ww_icmp_eq (tgt := 147) C dL_isBest_142 (by decide) (fun c_6 => ?_) (fun c_6 => ?_)
              · replace hf := ifT c_6 hf
                refine ww_iconst (v := 0) C dL_isBest_147 (by decide) ?_
                refine ww_istore (lv' := [(6, .int 0), (0, .ref (a0 0)), (1, .long x1), (3, .int x3), (4, .int x4), (5, .int x5)]) C dL_isBest_148 (by decide) rfl ?_
                refine ww_sub C (lv' := [(0, .ref (a0 0)), (1, .long x1), (6, .int 0)]) [1, 2, 0] rfl ?_
                exact w_L_isBest_150 C FU _ _ _ _ _ _ _ _ _ _ _ hf
              · replace hf := ifF c_6 hf
                refine ww_iconst (v := 0) C dL_isBest_145 (by decide) ?_
                obtain rfl := Option.some.inj hf
                exact ww_zret C (nar_b false) ⟨rfl, rfl⟩ dL_isBest_146
    · replace hf := ifF c_1 hf
      refine ww_iload C dL_isBest_32 4 rfl ?_
      refine ww_aload_n C dL_isBest_34 rfl 0 rfl ?_
      refine ww_iload C dL_isBest_35 5 rfl ?_
      obtain ⟨p37, hp37, hf⟩ := bdE hf
      refine ww_callV C (As := [.int x6]) (st := [.int x5]) (gr := [wHouse E a2 v2, wHist E a3 (rf2 q4 h3_1) v3, wHs E q4 ah4 v4, wSight E a5 p26.2, wSight E a6 v6]) (c_X8_bestPhase (E := E) (a0 := a0) (h0_1 := a2 0) (h0_2 := a3 0) (h0_3 := a5 0) (h0_4 := a6 0) (h0_6 := h0_6) (h0_7 := h0_7) (h0_8 := h0_8) (h0_9 := h0_9) (a1 := a1) (a2 := a7) (a3 := a8) (a4 := a9) hp37) gL_isBest_X8_bestPhase rfl yk_X8_bestPhase ⟨by decide, Nat.le_of_ble_eq_true rfl⟩ ⟨by decide, by decide⟩ clOK8 0 0 rfl rfl [0, 1, 7, 8, 9] [2, 3, 4, 5, 6] 10 rfl (by decide) rfl rfl (Nat.le_of_ble_eq_true rfl) dL_isBest_37 ?_
      rintro _ _ ⟨rfl, rfl⟩
      refine ww_perm (gs' := [wGW E a0 (rf10 (a1 0) (a2 0) (a3 0) (a5 0) (a6 0) (a7 0) h0_6 h0_7 h0_8 h0_9) v0, wHouse E a1 v1, wHouse E a2 v2, wHist E a3 (rf2 q4 h3_1) v3, wHs E q4 ah4 v4, wSight E a5 p26.2, wSight E a6 v6, wBest E a7 (rf2 (a8 0) (a9 0)) p37.2.1, wHouse E a8 p37.2.2.1, wSight E a9 p37.2.2.2]) [0, 1, 5, 6, 7, 8, 9, 2, 3, 4] 10 rfl (by decide) rfl ?_
      refine ww_aload_n C dL_isBest_40 rfl 0 rfl ?_
      refine ww_iload C dL_isBest_41 5 rfl ?_
      refine ww_iconst (v := 1) C dL_isBest_43 (by decide) ?_
      obtain ⟨p44, hp44, hf⟩ := bdE hf
      refine ww_callV C (As := [.int x6, .int 1]) (st := [.int p37.1, .int x5]) (gr := [wHouse E a2 v2, wHist E a3 (rf2 q4 h3_1) v3, wHs E q4 ah4 v4, wSight E a5 p26.2, wSight E a6 v6, wBest E a7 (rf2 (a8 0) (a9 0)) p37.2.1, wHouse E a8 p37.2.2.1, wSight E a9 p37.2.2.2]) (c_X8_guard (E := E) (a0 := a0) (h0_1 := a2 0) (h0_2 := a3 0) (h0_3 := a5 0) (h0_4 := a6 0) (h0_5 := a7 0) (h0_6 := h0_6) (h0_7 := h0_7) (h0_8 := h0_8) (h0_9 := h0_9) (a1 := a1) hp44) gL_isBest_X8_guard rfl yk_X8_guard ⟨by decide, Nat.le_of_ble_eq_true rfl⟩ ⟨by decide, by decide⟩ clOK8 0 0 rfl rfl [0, 1] [2, 3, 4, 5, 6, 7, 8, 9] 10 rfl (by decide) rfl rfl (Nat.le_of_ble_eq_true rfl) dL_isBest_44 ?_
      rintro _ _ ⟨rfl, rfl⟩
      refine ww_perm (gs' := [wGW E a0 (rf10 (a1 0) (a2 0) (a3 0) (a5 0) (a6 0) (a7 0) h0_6 h0_7 h0_8 h0_9) v0, wHouse E a1 v1, wHouse E a2 v2, wHist E a3 (rf2 q4 h3_1) v3, wHs E q4 ah4 v4, wSight E a5 p26.2, wSight E a6 v6, wBest E a7 (rf2 (a8 0) (a9 0)) p37.2.1, wHouse E a8 p37.2.2.1, wSight E a9 p37.2.2.2]) [0, 1, 2, 3, 4, 5, 6, 7, 8, 9] 10 rfl (by decide) rfl ?_
      refine ww_icmp_ne (tgt := 54) C dL_isBest_47 (by decide) (fun c_7 => ?_) (fun c_7 => ?_)
      · replace hf := ifF c_7 hf
        refine ww_iconst (v := 1) C dL_isBest_54 (by decide) ?_
        refine ww_iadd C dL_isBest_55 ?_
        refine ww_topi (fun x5_56 e_x5_56 => ?_)
        replace hf := ltE e_x5_56 hf
        refine ww_istore (lv' := [(5, .int x5_56), (0, .ref (a0 0)), (1, .long x1), (3, .int x3), (4, .int x4), (6, .int x6)]) C dL_isBest_56 (by decide) rfl ?_
        refine ww_iconst (v := 0) C dL_isBest_58 (by decide) ?_
        refine ww_istore (lv' := [(7, .int 0), (5, .int x5_56), (0, .ref (a0 0)), (1, .long x1), (3, .int x3), (4, .int x4), (6, .int x6)]) C dL_isBest_59 (by decide) rfl ?_
        refine ww_sub C (lv' := [(0, .ref (a0 0)), (1, .long x1), (3, .int x3), (4, .int x4), (5, .int x5_56), (6, .int x6), (7, .int 0)]) [2, 3, 4, 5, 1, 6, 0] rfl ?_
        exact w_L_isBest_61 C (k22 := (fun (x5 : Int32) (x6 : Int32) (v0 : GWV) (v1 : HouseV) (v2 : HouseV) (v3 : HistV) (v4 : Nat → HouseV) (v5 : SightV) (v6 : SightV) (v7 : BestV) (v8 : HouseV) (v9 : SightV) => L_isBest_22 x1 x3 x4 n x5 x6 v0 v1 v2 v3 v4 v5 v6 v7 v8 v9)) ih FU _ _ _ _ _ _ _ _ _ _ _ hf
      · replace hf := ifT c_7 hf
        refine ww_iconst (v := 0) C dL_isBest_50 (by decide) ?_
        refine ww_goto (tgt := 55) C dL_isBest_51 (by decide) ?_
        refine ww_iadd C dL_isBest_55 ?_
        refine ww_topi (fun x5_56 e_x5_56 => ?_)
        replace hf := ltE e_x5_56 hf
        refine ww_istore (lv' := [(5, .int x5_56), (0, .ref (a0 0)), (1, .long x1), (3, .int x3), (4, .int x4), (6, .int x6)]) C dL_isBest_56 (by decide) rfl ?_
        refine ww_iconst (v := 0) C dL_isBest_58 (by decide) ?_
        refine ww_istore (lv' := [(7, .int 0), (5, .int x5_56), (0, .ref (a0 0)), (1, .long x1), (3, .int x3), (4, .int x4), (6, .int x6)]) C dL_isBest_59 (by decide) rfl ?_
        refine ww_sub C (lv' := [(0, .ref (a0 0)), (1, .long x1), (3, .int x3), (4, .int x4), (5, .int x5_56), (6, .int x6), (7, .int 0)]) [2, 3, 4, 5, 1, 6, 0] rfl ?_
        exact w_L_isBest_61 C (k22 := (fun (x5 : Int32) (x6 : Int32) (v0 : GWV) (v1 : HouseV) (v2 : HouseV) (v3 : HistV) (v4 : Nat → HouseV) (v5 : SightV) (v6 : SightV) (v7 : BestV) (v8 : HouseV) (v9 : SightV) => L_isBest_22 x1 x3 x4 n x5 x6 v0 v1 v2 v3 v4 v5 v6 v7 v8 v9)) ih FU _ _ _ _ _ _ _ _ _ _ _ hf

set_option maxHeartbeats 4000000 in
set_option maxRecDepth 100000 in
theorem c_L_isBest {E : Ex} {a0 : Nat → Nat} {a1 : Nat → Nat} {a2 : Nat → Nat} {a3 : Nat → Nat} {q4 : Nat} {ah4 : Nat → Nat → Nat} {a5 : Nat → Nat} {a6 : Nat → Nat} {a7 : Nat → Nat} {a8 : Nat → Nat} {a9 : Nat → Nat} {h0_6 h0_7 h0_8 h0_9 h3_1 : Nat} {v0 : GWV} {v1 : HouseV} {v2 : HouseV} {v3 : HistV} {v4 : Nat → HouseV} {v5 : SightV} {v6 : SightV} {v7 : BestV} {v8 : HouseV} {v9 : SightV} {r : (Bool × GWV × HouseV × HouseV × HistV × (Nat → HouseV) × SightV × SightV × BestV × HouseV × SightV)} (hf : L_isBest v0 v1 v2 v3 v4 v5 v6 v7 v8 v9 = some r) : Ct E yL_isBest wsL_isBest rmL_isBest [.ref (a0 0)] [wGW E a0 (rf10 (a1 0) (a2 0) (a3 0) (a5 0) (a6 0) (a7 0) h0_6 h0_7 h0_8 h0_9) v0, wHouse E a1 v1, wHouse E a2 v2, wHist E a3 (rf2 q4 h3_1) v3, wHs E q4 ah4 v4, wSight E a5 v5, wSight E a6 v6, wBest E a7 (rf2 (a8 0) (a9 0)) v7, wHouse E a8 v8, wSight E a9 v9] (fun rv g => rv = some (.int (b2i r.1)) ∧ g = [wGW E a0 (rf10 (a1 0) (a2 0) (a3 0) (a5 0) (a6 0) (a7 0) h0_6 h0_7 h0_8 h0_9) r.2.1, wHouse E a1 r.2.2.1, wHouse E a2 r.2.2.2.1, wHist E a3 (rf2 q4 h3_1) r.2.2.2.2.1, wHs E q4 ah4 r.2.2.2.2.2.1, wSight E a5 r.2.2.2.2.2.2.1, wSight E a6 r.2.2.2.2.2.2.2.1, wBest E a7 (rf2 (a8 0) (a9 0)) r.2.2.2.2.2.2.2.2.1, wHouse E a8 r.2.2.2.2.2.2.2.2.2.1, wSight E a9 r.2.2.2.2.2.2.2.2.2.2]) := by
  refine ct_of (own := RL) (by decide +kernel) rfl rfl (Nat.le_of_ble_eq_true rfl) (fun K C => ?_)
  refine ww_sub C (lv' := [(0, .ref (a0 0))]) [0] rfl ?_
  rw [L_isBest] at hf
  refine ww_aload_n C dL_isBest_0 rfl 0 rfl ?_
  obtain ⟨p1, hp1, hf⟩ := bdE hf
  refine ww_callS C (As := [.ref (a0 0)]) (st := []) (gr := [wHouse E a2 v2, wHist E a3 (rf2 q4 h3_1) v3, wHs E q4 ah4 v4, wSight E a6 v6, wBest E a7 (rf2 (a8 0) (a9 0)) v7, wHouse E a8 v8, wSight E a9 v9]) (c_L_all (E := E) (a0 := a0) (h0_1 := a2 0) (h0_2 := a3 0) (h0_4 := a6 0) (h0_5 := a7 0) (h0_6 := h0_6) (h0_7 := h0_7) (h0_8 := h0_8) (h0_9 := h0_9) (a1 := a1) (a2 := a5) hp1) gL_isBest_L_all rfl ysk_L_all ⟨by decide, Nat.le_of_ble_eq_true rfl⟩ ⟨by decide, by decide⟩ [0, 1, 5] [2, 3, 4, 6, 7, 8, 9] 10 rfl (by decide) rfl rfl (Nat.le_of_ble_eq_true rfl) dL_isBest_1 ?_
  rintro _ _ ⟨rfl, rfl⟩
  refine ww_perm (gs' := [wGW E a0 (rf10 (a1 0) (a2 0) (a3 0) (a5 0) (a6 0) (a7 0) h0_6 h0_7 h0_8 h0_9) v0, wHouse E a1 v1, wHouse E a2 v2, wHist E a3 (rf2 q4 h3_1) v3, wHs E q4 ah4 v4, wSight E a5 p1.2, wSight E a6 v6, wBest E a7 (rf2 (a8 0) (a9 0)) v7, wHouse E a8 v8, wSight E a9 v9]) [0, 1, 3, 4, 5, 2, 6, 7, 8, 9] 10 rfl (by decide) rfl ?_
  refine ww_lstore_n (lv' := [(1, .long p1.1), (0, .ref (a0 0))]) C dL_isBest_4 rfl (by decide) rfl ?_
  refine ww_aload_n C dL_isBest_5 rfl 1 rfl ?_
  obtain ⟨p6, hp6, hf⟩ := bdE hf
  refine ww_callV C (As := []) (st := []) (gr := [wHouse E a2 v2, wHist E a3 (rf2 q4 h3_1) v3, wHs E q4 ah4 v4, wSight E a5 p1.2, wSight E a6 v6]) (c_X8_bestWorst (E := E) (a0 := a0) (h0_1 := a2 0) (h0_2 := a3 0) (h0_3 := a5 0) (h0_4 := a6 0) (h0_6 := h0_6) (h0_7 := h0_7) (h0_8 := h0_8) (h0_9 := h0_9) (a1 := a1) (a2 := a7) (a3 := a8) (a4 := a9) hp6) gL_isBest_X8_bestWorst rfl yk_X8_bestWorst ⟨by decide, Nat.le_of_ble_eq_true rfl⟩ ⟨by decide, by decide⟩ clOK8 0 0 rfl rfl [0, 1, 7, 8, 9] [2, 3, 4, 5, 6] 10 rfl (by decide) rfl rfl (Nat.le_of_ble_eq_true rfl) dL_isBest_6 ?_
  rintro _ _ ⟨rfl, rfl⟩
  refine ww_perm (gs' := [wGW E a0 (rf10 (a1 0) (a2 0) (a3 0) (a5 0) (a6 0) (a7 0) h0_6 h0_7 h0_8 h0_9) v0, wHouse E a1 v1, wHouse E a2 v2, wHist E a3 (rf2 q4 h3_1) v3, wHs E q4 ah4 v4, wSight E a5 p1.2, wSight E a6 v6, wBest E a7 (rf2 (a8 0) (a9 0)) p6.2.1, wHouse E a8 p6.2.2.1, wSight E a9 p6.2.2.2]) [0, 1, 5, 6, 7, 8, 9, 2, 3, 4] 10 rfl (by decide) rfl ?_
  refine ww_istore_n (lv' := [(3, .int p6.1), (1, .long p1.1), (0, .ref (a0 0))]) C dL_isBest_9 rfl (by decide) rfl ?_
  refine ww_aload_n C dL_isBest_10 rfl 2 rfl ?_
  obtain ⟨p11, hp11, hf⟩ := bdE hf
  refine ww_callV C (As := []) (st := []) (gr := [wHouse E a2 v2, wHist E a3 (rf2 q4 h3_1) v3, wHs E q4 ah4 v4, wSight E a5 p1.2, wSight E a6 v6]) (c_X8_bestCrossings (E := E) (a0 := a0) (h0_1 := a2 0) (h0_2 := a3 0) (h0_3 := a5 0) (h0_4 := a6 0) (h0_6 := h0_6) (h0_7 := h0_7) (h0_8 := h0_8) (h0_9 := h0_9) (a1 := a1) (a2 := a7) (a3 := a8) (a4 := a9) hp11) gL_isBest_X8_bestCrossings rfl yk_X8_bestCrossings ⟨by decide, Nat.le_of_ble_eq_true rfl⟩ ⟨by decide, by decide⟩ clOK8 0 0 rfl rfl [0, 1, 7, 8, 9] [2, 3, 4, 5, 6] 10 rfl (by decide) rfl rfl (Nat.le_of_ble_eq_true rfl) dL_isBest_11 ?_
  rintro _ _ ⟨rfl, rfl⟩
  refine ww_perm (gs' := [wGW E a0 (rf10 (a1 0) (a2 0) (a3 0) (a5 0) (a6 0) (a7 0) h0_6 h0_7 h0_8 h0_9) v0, wHouse E a1 v1, wHouse E a2 v2, wHist E a3 (rf2 q4 h3_1) v3, wHs E q4 ah4 v4, wSight E a5 p1.2, wSight E a6 v6, wBest E a7 (rf2 (a8 0) (a9 0)) p11.2.1, wHouse E a8 p11.2.2.1, wSight E a9 p11.2.2.2]) [0, 1, 5, 6, 7, 8, 9, 2, 3, 4] 10 rfl (by decide) rfl ?_
  refine ww_istore (lv' := [(4, .int p11.1), (3, .int p6.1), (1, .long p1.1), (0, .ref (a0 0))]) C dL_isBest_14 (by decide) rfl ?_
  refine ww_iconst (v := 0) C dL_isBest_16 (by decide) ?_
  refine ww_istore (lv' := [(5, .int 0), (4, .int p11.1), (3, .int p6.1), (1, .long p1.1), (0, .ref (a0 0))]) C dL_isBest_17 (by decide) rfl ?_
  refine ww_iconst (v := 0) C dL_isBest_19 (by decide) ?_
  refine ww_istore (lv' := [(6, .int 0), (5, .int 0), (4, .int p11.1), (3, .int p6.1), (1, .long p1.1), (0, .ref (a0 0))]) C dL_isBest_20 (by decide) rfl ?_
  refine ww_sub C (lv' := [(0, .ref (a0 0)), (1, .long p1.1), (3, .int p6.1), (4, .int p11.1), (5, .int 0), (6, .int 0)]) [5, 4, 3, 2, 1, 0] rfl ?_
  exact w_L_isBest_22 C FU _ _ _ _ _ _ _ _ _ _ _ _ hf

theorem ysk_L_isBest : yL_isBest.cls ≠ "java/lang/invoke/MethodHandle" ∧ yL_isBest.cls ≠ "java/lang/invoke/VarHandle" ∧ (parseMethodDescriptor yL_isBest.desc).map (fun d => d.parameters.length) = some 1 := by decide +kernel
abbrev rmL_isPassed : Room := { frames := 7, cells := 3, slots := 36, locals := 155 }
set_option maxHeartbeats 4000000 in
set_option maxRecDepth 100000 in
theorem w_L_isPassed_154 {E : Ex} {K : Kx} (C : Cx E K cL_isPassed 11 (some .boolean) RL wsL_isPassed rmL_isPassed) {a0 : Nat → Nat} {a1 : Nat → Nat} {a2 : Nat → Nat} {q3 : Nat} {ah3 : Nat → Nat → Nat} {a4 : Nat → Nat} {h0_1 h0_4 h0_5 h0_6 h0_7 h0_8 h0_9 h2_1 : Nat} {v0 : GWV}  {d0 : Nat} {d1 : Nat} {d2 : Nat} {x1 : Int64} {x3 : Int32} {x4 : Int32} {x9 : Int32} {s0 : Int32} {v1 : HouseV} {v2 : HistV} {v3 : Nat → HouseV} {v4 : SightV} {l0 : Nat} {w0 : Nat → Int32} {l1 : Nat} {w1 : Nat → Int32} {l2 : Nat} {w2 : Nat → Int32} {c : Nat} {s : Nat} {k124 : Int32 → HouseV → HistV → (Nat → HouseV) → SightV → Nat → (Nat → Int32) → Nat → (Nat → Int32) → Nat → (Nat → Int32) → Nat → Nat → Option (Bool × HouseV × HistV × (Nat → HouseV) × SightV)} {r : (Bool × HouseV × HistV × (Nat → HouseV) × SightV)} (hk124 : ∀ (d0 : Nat) (d1 : Nat) (d2 : Nat) (x9 : Int32) (v1 : HouseV) (v2 : HistV) (v3 : Nat → HouseV) (v4 : SightV) (l0 : Nat) (w0 : Nat → Int32) (l1 : Nat) (w1 : Nat → Int32) (l2 : Nat) (w2 : Nat → Int32) (c : Nat) (s : Nat), c ≤ 3 ∧ s ≤ 36 → k124 x9 v1 v2 v3 v4 l0 w0 l1 w1 l2 w2 c s = some r → WW E K c s (QQ E K (fun rv g => rv = some (.int (b2i r.1)) ∧ g = [wGW E a0 (rf10 (a1 0) h0_1 (a2 0) (a4 0) h0_4 h0_5 h0_6 h0_7 h0_8 h0_9) v0, wHouse E a1 r.2.1, wHist E a2 (rf2 q3 h2_1) r.2.2.1, wHs E q3 ah3 r.2.2.2.1, wSight E a4 r.2.2.2.2]) 3 36) 124 [(0, .ref (a0 0)), (1, .long x1), (3, .int x3), (4, .int x4), (6, .ref d0), (7, .ref d1), (8, .ref d2), (9, .int x9)] [] [wGW E a0 (rf10 (a1 0) h0_1 (a2 0) (a4 0) h0_4 h0_5 h0_6 h0_7 h0_8 h0_9) v0, wHouse E a1 v1, wHist E a2 (rf2 q3 h2_1) v2, wHs E q3 ah3 v3, wSight E a4 v4, wArr E d0 l0 w0, wArr E d1 l1 w1, wArr E d2 l2 w2]) (hcs : c ≤ 3 ∧ s ≤ 36) (hf : L_isPassed_154 v0 k124 x1 x3 x4 x9 s0 v1 v2 v3 v4 l0 w0 l1 w1 l2 w2 c s = some r) : WW E K c s (QQ E K (fun rv g => rv = some (.int (b2i r.1)) ∧ g = [wGW E a0 (rf10 (a1 0) h0_1 (a2 0) (a4 0) h0_4 h0_5 h0_6 h0_7 h0_8 h0_9) v0, wHouse E a1 r.2.1, wHist E a2 (rf2 q3 h2_1) r.2.2.1, wHs E q3 ah3 r.2.2.2.1, wSight E a4 r.2.2.2.2]) 3 36) 154 [(0, .ref (a0 0)), (1, .long x1), (3, .int x3), (4, .int x4), (6, .ref d0), (7, .ref d1), (8, .ref d2), (9, .int x9)] [.int s0] [wGW E a0 (rf10 (a1 0) h0_1 (a2 0) (a4 0) h0_4 h0_5 h0_6 h0_7 h0_8 h0_9) v0, wHouse E a1 v1, wHist E a2 (rf2 q3 h2_1) v2, wHs E q3 ah3 v3, wSight E a4 v4, wArr E d0 l0 w0, wArr E d1 l1 w1, wArr E d2 l2 w2] := by
  rw [L_isPassed_154] at hf
  refine ww_istore (lv' := [(10, .int s0), (0, .ref (a0 0)), (1, .long x1), (3, .int x3), (4, .int x4), (6, .ref d0), (7, .ref d1), (8, .ref d2), (9, .int x9)]) C dL_isPassed_154 (by decide) rfl ?_
  refine ww_aload_n C dL_isPassed_156 rfl 1 rfl ?_
  refine ww_iload C dL_isPassed_157 8 rfl ?_
  refine ww_iconst (v := 4) C dL_isPassed_159 (by decide) ?_
  obtain ⟨p160, hp160, hf⟩ := bdE hf
  refine ww_callV C (As := [.int x9, .int 4]) (st := []) (gr := [wHist E a2 (rf2 q3 h2_1) v2, wHs E q3 ah3 v3, wArr E d0 l0 w0, wArr E d1 l1 w1, wArr E d2 l2 w2]) (c_X8_room (E := E) (a0 := a0) (h0_1 := h0_1) (h0_2 := a2 0) (h0_4 := h0_4) (h0_5 := h0_5) (h0_6 := h0_6) (h0_7 := h0_7) (h0_8 := h0_8) (h0_9 := h0_9) (a1 := a1) (a2 := a4) hp160) gL_isPassed_X8_room rfl yk_X8_room ⟨by decide, Nat.le_of_ble_eq_true rfl⟩ hcs clOK8 0 0 rfl rfl [0, 1, 4] [2, 3, 5, 6, 7] 8 rfl (by decide) rfl rfl (Nat.le_of_ble_eq_true rfl) dL_isPassed_160 ?_
  rintro _ _ ⟨rfl, rfl⟩
  refine ww_perm (gs' := [wGW E a0 (rf10 (a1 0) h0_1 (a2 0) (a4 0) h0_4 h0_5 h0_6 h0_7 h0_8 h0_9) v0, wHouse E a1 v1, wHist E a2 (rf2 q3 h2_1) v2, wHs E q3 ah3 v3, wSight E a4 p160.2, wArr E d0 l0 w0, wArr E d1 l1 w1, wArr E d2 l2 w2]) [0, 1, 3, 4, 2, 5, 6, 7] 8 rfl (by decide) rfl ?_
  refine ww_aload C dL_isPassed_163 7 rfl ?_
  refine ww_iload C dL_isPassed_165 8 rfl ?_
  obtain ⟨g_15, hf⟩ := gdE hf
  refine ww_iald C (f := w2) (w := wArr E d2 l2 w2) 7 0 rfl q_Arr (inB_vp g_15) dL_isPassed_167 ?_
  refine ww_iconst (v := 2) C dL_isPassed_168 (by decide) ?_
  refine ww_aload_n C dL_isPassed_169 rfl 1 rfl ?_
  refine ww_iload C dL_isPassed_170 8 rfl ?_
  refine ww_iconst (v := 3) C dL_isPassed_172 (by decide) ?_
  obtain ⟨p173, hp173, hf⟩ := bdE hf
  refine ww_callV C (As := [.int x9, .int 3]) (st := [.int 2, .int (w2 (Int32.toNatClampNeg x9)), .int p160.1]) (gr := [wHist E a2 (rf2 q3 h2_1) v2, wHs E q3 ah3 v3, wArr E d0 l0 w0, wArr E d1 l1 w1, wArr E d2 l2 w2]) (c_X8_room (E := E) (a0 := a0) (h0_1 := h0_1) (h0_2 := a2 0) (h0_4 := h0_4) (h0_5 := h0_5) (h0_6 := h0_6) (h0_7 := h0_7) (h0_8 := h0_8) (h0_9 := h0_9) (a1 := a1) (a2 := a4) hp173) gL_isPassed_X8_room rfl yk_X8_room ⟨by decide, Nat.le_of_ble_eq_true rfl⟩ hcs clOK8 0 0 rfl rfl [0, 1, 4] [2, 3, 5, 6, 7] 8 rfl (by decide) rfl rfl (Nat.le_of_ble_eq_true rfl) dL_isPassed_173 ?_
  rintro _ _ ⟨rfl, rfl⟩
  refine ww_perm (gs' := [wGW E a0 (rf10 (a1 0) h0_1 (a2 0) (a4 0) h0_4 h0_5 h0_6 h0_7 h0_8 h0_9) v0, wHouse E a1 v1, wHist E a2 (rf2 q3 h2_1) v2, wHs E q3 ah3 v3, wSight E a4 p173.2, wArr E d0 l0 w0, wArr E d1 l1 w1, wArr E d2 l2 w2]) [0, 1, 3, 4, 2, 5, 6, 7] 8 rfl (by decide) rfl ?_
  refine ww_imul C dL_isPassed_176 ?_
  refine ww_iadd C dL_isPassed_177 ?_
  refine ww_icmp_ne (tgt := 227) C dL_isPassed_178 (by decide) (fun c_16 => ?_) (fun c_16 => ?_)
  · replace hf := ifF c_16 hf
    refine ww_iconst (v := 0) C dL_isPassed_227 (by decide) ?_
    obtain rfl := Option.some.inj hf
    refine ww_drop (gs' := [wGW E a0 (rf10 (a1 0) h0_1 (a2 0) (a4 0) h0_4 h0_5 h0_6 h0_7 h0_8 h0_9) v0, wHouse E a1 v1, wHist E a2 (rf2 q3 h2_1) v2, wHs E q3 ah3 v3, wSight E a4 p173.2]) [0, 1, 2, 3, 4] [5, 6, 7] 8 rfl (by decide) rfl ?_
    refine ww_widen (k := 3) (n := 36) hcs.1 hcs.2 ?_
    exact ww_zret C (nar_b false) ⟨rfl, rfl⟩ dL_isPassed_228
  · replace hf := ifT c_16 hf
    refine ww_aload_n C dL_isPassed_181 rfl 1 rfl ?_
    refine ww_iload C dL_isPassed_182 8 rfl ?_
    refine ww_bipush (v := 7) C dL_isPassed_184 (by decide) ?_
    obtain ⟨p186, hp186, hf⟩ := bdE hf
    refine ww_callV C (As := [.int x9, .int 7]) (st := []) (gr := [wHist E a2 (rf2 q3 h2_1) v2, wHs E q3 ah3 v3, wArr E d0 l0 w0, wArr E d1 l1 w1, wArr E d2 l2 w2]) (c_X8_room (E := E) (a0 := a0) (h0_1 := h0_1) (h0_2 := a2 0) (h0_4 := h0_4) (h0_5 := h0_5) (h0_6 := h0_6) (h0_7 := h0_7) (h0_8 := h0_8) (h0_9 := h0_9) (a1 := a1) (a2 := a4) hp186) gL_isPassed_X8_room rfl yk_X8_room ⟨by decide, Nat.le_of_ble_eq_true rfl⟩ hcs clOK8 0 0 rfl rfl [0, 1, 4] [2, 3, 5, 6, 7] 8 rfl (by decide) rfl rfl (Nat.le_of_ble_eq_true rfl) dL_isPassed_186 ?_
    rintro _ _ ⟨rfl, rfl⟩
    refine ww_perm (gs' := [wGW E a0 (rf10 (a1 0) h0_1 (a2 0) (a4 0) h0_4 h0_5 h0_6 h0_7 h0_8 h0_9) v0, wHouse E a1 v1, wHist E a2 (rf2 q3 h2_1) v2, wHs E q3 ah3 v3, wSight E a4 p186.2, wArr E d0 l0 w0, wArr E d1 l1 w1, wArr E d2 l2 w2]) [0, 1, 3, 4, 2, 5, 6, 7] 8 rfl (by decide) rfl ?_
    refine ww_aload C dL_isPassed_189 6 rfl ?_
    refine ww_iload C dL_isPassed_191 8 rfl ?_
    obtain ⟨g_17, hf⟩ := gdE hf
    refine ww_iald C (f := w1) (w := wArr E d1 l1 w1) 6 0 rfl q_Arr (inB_vp g_17) dL_isPassed_193 ?_
    refine ww_aload C dL_isPassed_194 5 rfl ?_
    refine ww_iload C dL_isPassed_196 8 rfl ?_
    obtain ⟨g_18, hf⟩ := gdE hf
    refine ww_iald C (f := w0) (w := wArr E d0 l0 w0) 5 0 rfl q_Arr (inB_vp g_18) dL_isPassed_198 ?_
    refine ww_iload C dL_isPassed_199 0 rfl ?_
    refine ww_iadd C dL_isPassed_201 ?_
    refine ww_max C (by decide +kernel) (by decide +kernel) (by decide +kernel) (by decide +kernel) (by decide) (Nat.le_of_ble_eq_true rfl) (show c ≤ 3 from by omega) (show s ≤ 36 from by omega) dL_isPassed_202 ?_
    refine ww_icmp_gt (tgt := 227) C dL_isPassed_205 (by decide) (fun c_19 => ?_) (fun c_19 => ?_)
    · replace hf := ifT c_19 hf
      refine ww_iconst (v := 0) C dL_isPassed_227 (by decide) ?_
      obtain rfl := Option.some.inj hf
      refine ww_drop (gs' := [wGW E a0 (rf10 (a1 0) h0_1 (a2 0) (a4 0) h0_4 h0_5 h0_6 h0_7 h0_8 h0_9) v0, wHouse E a1 v1, wHist E a2 (rf2 q3 h2_1) v2, wHs E q3 ah3 v3, wSight E a4 p186.2]) [0, 1, 2, 3, 4] [5, 6, 7] 8 rfl (by decide) rfl ?_
      refine ww_widen (k := 3) (n := 36) hcs.1 hcs.2 ?_
      exact ww_zret C (nar_b false) ⟨rfl, rfl⟩ dL_isPassed_228
    · replace hf := ifF c_19 hf
      refine ww_aload_n C dL_isPassed_208 rfl 1 rfl ?_
      refine ww_iload C dL_isPassed_209 8 rfl ?_
      refine ww_bipush (v := 7) C dL_isPassed_211 (by decide) ?_
      obtain ⟨p213, hp213, hf⟩ := bdE hf
      refine ww_callV C (As := [.int x9, .int 7]) (st := []) (gr := [wHist E a2 (rf2 q3 h2_1) v2, wHs E q3 ah3 v3, wArr E d0 l0 w0, wArr E d1 l1 w1, wArr E d2 l2 w2]) (c_X8_room (E := E) (a0 := a0) (h0_1 := h0_1) (h0_2 := a2 0) (h0_4 := h0_4) (h0_5 := h0_5) (h0_6 := h0_6) (h0_7 := h0_7) (h0_8 := h0_8) (h0_9 := h0_9) (a1 := a1) (a2 := a4) hp213) gL_isPassed_X8_room rfl yk_X8_room ⟨by decide, Nat.le_of_ble_eq_true rfl⟩ hcs clOK8 0 0 rfl rfl [0, 1, 4] [2, 3, 5, 6, 7] 8 rfl (by decide) rfl rfl (Nat.le_of_ble_eq_true rfl) dL_isPassed_213 ?_
      rintro _ _ ⟨rfl, rfl⟩
      refine ww_perm (gs' := [wGW E a0 (rf10 (a1 0) h0_1 (a2 0) (a4 0) h0_4 h0_5 h0_6 h0_7 h0_8 h0_9) v0, wHouse E a1 v1, wHist E a2 (rf2 q3 h2_1) v2, wHs E q3 ah3 v3, wSight E a4 p213.2, wArr E d0 l0 w0, wArr E d1 l1 w1, wArr E d2 l2 w2]) [0, 1, 3, 4, 2, 5, 6, 7] 8 rfl (by decide) rfl ?_
      refine ww_iload C dL_isPassed_216 0 rfl ?_
      refine ww_iconst (v := 2) C dL_isPassed_218 (by decide) ?_
      refine ww_iload_n C dL_isPassed_219 rfl 3 rfl ?_
      refine ww_imul C dL_isPassed_220 ?_
      refine ww_min C (by decide +kernel) (by decide +kernel) (by decide +kernel) (by decide +kernel) (by decide) (Nat.le_of_ble_eq_true rfl) (show c ≤ 3 from by omega) (show s ≤ 36 from by omega) dL_isPassed_221 ?_
      refine ww_icmp_ge (tgt := 229) C dL_isPassed_224 (by decide) (fun c_20 => ?_) (fun c_20 => ?_)
      · replace hf := ifT c_20 hf
        obtain ⟨x9_229, e_x9_229⟩ : ∃ y : Int32, y = x9 + 1 := ⟨_, rfl⟩
        replace hf := ltE e_x9_229 hf
        refine ww_iinc (v := x9_229) (lv' := [(9, .int x9_229), (10, .int s0), (0, .ref (a0 0)), (1, .long x1), (3, .int x3), (4, .int x4), (6, .ref d0), (7, .ref d1), (8, .ref d2)]) C dL_isPassed_229 8 rfl (by rw [e_x9_229]; rfl) (by decide) rfl ?_
        refine ww_goto (tgt := 124) C dL_isPassed_232 (by decide) ?_
        refine ww_sub C (lv' := [(0, .ref (a0 0)), (1, .long x1), (3, .int x3), (4, .int x4), (6, .ref d0), (7, .ref d1), (8, .ref d2), (9, .int x9_229)]) [2, 3, 4, 5, 6, 7, 8, 0] rfl ?_
        exact hk124 _ _ _ _ _ _ _ _ _ _ _ _ _ _ _ _ hcs hf
      · replace hf := ifF c_20 hf
        refine ww_iconst (v := 0) C dL_isPassed_227 (by decide) ?_
        obtain rfl := Option.some.inj hf
        refine ww_drop (gs' := [wGW E a0 (rf10 (a1 0) h0_1 (a2 0) (a4 0) h0_4 h0_5 h0_6 h0_7 h0_8 h0_9) v0, wHouse E a1 v1, wHist E a2 (rf2 q3 h2_1) v2, wHs E q3 ah3 v3, wSight E a4 p213.2]) [0, 1, 2, 3, 4] [5, 6, 7] 8 rfl (by decide) rfl ?_
        refine ww_widen (k := 3) (n := 36) hcs.1 hcs.2 ?_
        exact ww_zret C (nar_b false) ⟨rfl, rfl⟩ dL_isPassed_228

set_option maxHeartbeats 4000000 in
set_option maxRecDepth 100000 in
theorem w_L_isPassed_124 {E : Ex} {K : Kx} (C : Cx E K cL_isPassed 11 (some .boolean) RL wsL_isPassed rmL_isPassed) {a0 : Nat → Nat} {a1 : Nat → Nat} {a2 : Nat → Nat} {q3 : Nat} {ah3 : Nat → Nat → Nat} {a4 : Nat → Nat} {h0_1 h0_4 h0_5 h0_6 h0_7 h0_8 h0_9 h2_1 : Nat} {v0 : GWV} {x1 : Int64} {x3 : Int32} {x4 : Int32} {r : (Bool × HouseV × HistV × (Nat → HouseV) × SightV)} : ∀ (n : Nat) (d0 : Nat) (d1 : Nat) (d2 : Nat) (x9 : Int32) (v1 : HouseV) (v2 : HistV) (v3 : Nat → HouseV) (v4 : SightV) (l0 : Nat) (w0 : Nat → Int32) (l1 : Nat) (w1 : Nat → Int32) (l2 : Nat) (w2 : Nat → Int32) (c : Nat) (s : Nat), c ≤ 3 ∧ s ≤ 36 → L_isPassed_124 v0 x1 x3 x4 n x9 v1 v2 v3 v4 l0 w0 l1 w1 l2 w2 c s = some r → WW E K c s (QQ E K (fun rv g => rv = some (.int (b2i r.1)) ∧ g = [wGW E a0 (rf10 (a1 0) h0_1 (a2 0) (a4 0) h0_4 h0_5 h0_6 h0_7 h0_8 h0_9) v0, wHouse E a1 r.2.1, wHist E a2 (rf2 q3 h2_1) r.2.2.1, wHs E q3 ah3 r.2.2.2.1, wSight E a4 r.2.2.2.2]) 3 36) 124 [(0, .ref (a0 0)), (1, .long x1), (3, .int x3), (4, .int x4), (6, .ref d0), (7, .ref d1), (8, .ref d2), (9, .int x9)] [] [wGW E a0 (rf10 (a1 0) h0_1 (a2 0) (a4 0) h0_4 h0_5 h0_6 h0_7 h0_8 h0_9) v0, wHouse E a1 v1, wHist E a2 (rf2 q3 h2_1) v2, wHs E q3 ah3 v3, wSight E a4 v4, wArr E d0 l0 w0, wArr E d1 l1 w1, wArr E d2 l2 w2] := by
  intro n
  induction n with
  | zero =>
    intro d0 d1 d2 x9 v1 v2 v3 v4 l0 w0 l1 w1 l2 w2 c s hcs hf
    simp [L_isPassed_124] at hf
  | succ n ih =>
    intro d0 d1 d2 x9 v1 v2 v3 v4 l0 w0 l1 w1 l2 w2 c s hcs hf
    rw [L_isPassed_124] at hf
    refine ww_iload C dL_isPassed_124 7 rfl ?_
    refine ww_iload C dL_isPassed_126 3 rfl ?_
    refine ww_icmp_ge (tgt := 235) C dL_isPassed_128 (by decide) (fun c_11 => ?_) (fun c_11 => ?_)
    · replace hf := ifT c_11 hf
      refine ww_aload_n C dL_isPassed_235 rfl 0 rfl ?_
      obtain ⟨p236, hp236, hf⟩ := bdE hf
      refine ww_callV C (As := []) (st := []) (gr := [wSight E a4 v4, wArr E d0 l0 w0, wArr E d1 l1 w1, wArr E d2 l2 w2]) (c_X8_undo (E := E) (a0 := a0) (h0_1 := h0_1) (h0_3 := a4 0) (h0_4 := h0_4) (h0_5 := h0_5) (h0_6 := h0_6) (h0_7 := h0_7) (h0_8 := h0_8) (h0_9 := h0_9) (a1 := a1) (a2 := a2) (h2_1 := h2_1) (q3 := q3) (ah3 := ah3) hp236) gL_isPassed_X8_undo rfl yk_X8_undo ⟨by decide, Nat.le_of_ble_eq_true rfl⟩ hcs clOK8 0 0 rfl rfl [0, 1, 2, 3] [4, 5, 6, 7] 8 rfl (by decide) rfl rfl (Nat.le_of_ble_eq_true rfl) dL_isPassed_236 ?_
      rintro _ _ ⟨rfl, rfl⟩
      refine ww_perm (gs' := [wGW E a0 (rf10 (a1 0) h0_1 (a2 0) (a4 0) h0_4 h0_5 h0_6 h0_7 h0_8 h0_9) v0, wHouse E a1 p236.2.1, wHist E a2 (rf2 q3 h2_1) p236.2.2, wHs E q3 ah3 v3, wSight E a4 v4, wArr E d0 l0 w0, wArr E d1 l1 w1, wArr E d2 l2 w2]) [0, 1, 2, 3, 4, 5, 6, 7] 8 rfl (by decide) rfl ?_
      refine ww_if_lt (tgt := 255) C dL_isPassed_239 (by decide) (fun c_12 => ?_) (fun c_12 => ?_)
      · replace hf := ifT c_12 hf
        refine ww_iconst (v := 0) C dL_isPassed_255 (by decide) ?_
        obtain rfl := Option.some.inj hf
        refine ww_drop (gs' := [wGW E a0 (rf10 (a1 0) h0_1 (a2 0) (a4 0) h0_4 h0_5 h0_6 h0_7 h0_8 h0_9) v0, wHouse E a1 p236.2.1, wHist E a2 (rf2 q3 h2_1) p236.2.2, wHs E q3 ah3 v3, wSight E a4 v4]) [0, 1, 2, 3, 4] [5, 6, 7] 8 rfl (by decide) rfl ?_
        refine ww_widen (k := 3) (n := 36) hcs.1 hcs.2 ?_
        exact ww_zret C (nar_b false) ⟨rfl, rfl⟩ dL_isPassed_256
      · replace hf := ifF c_12 hf
        refine ww_aload_n C dL_isPassed_242 rfl 0 rfl ?_
        obtain ⟨p243, hp243, hf⟩ := bdE hf
        refine ww_callS C (As := [.ref (a0 0)]) (st := []) (gr := [wHist E a2 (rf2 q3 h2_1) p236.2.2, wHs E q3 ah3 v3, wArr E d0 l0 w0, wArr E d1 l1 w1, wArr E d2 l2 w2]) (c_L_all (E := E) (a0 := a0) (h0_1 := h0_1) (h0_2 := a2 0) (h0_4 := h0_4) (h0_5 := h0_5) (h0_6 := h0_6) (h0_7 := h0_7) (h0_8 := h0_8) (h0_9 := h0_9) (a1 := a1) (a2 := a4) hp243) gL_isPassed_L_all rfl ysk_L_all ⟨by decide, Nat.le_of_ble_eq_true rfl⟩ hcs [0, 1, 4] [2, 3, 5, 6, 7] 8 rfl (by decide) rfl rfl (Nat.le_of_ble_eq_true rfl) dL_isPassed_243 ?_
        rintro _ _ ⟨rfl, rfl⟩
        refine ww_perm (gs' := [wGW E a0 (rf10 (a1 0) h0_1 (a2 0) (a4 0) h0_4 h0_5 h0_6 h0_7 h0_8 h0_9) v0, wHouse E a1 p236.2.1, wHist E a2 (rf2 q3 h2_1) p236.2.2, wHs E q3 ah3 v3, wSight E a4 p243.2, wArr E d0 l0 w0, wArr E d1 l1 w1, wArr E d2 l2 w2]) [0, 1, 3, 4, 2, 5, 6, 7] 8 rfl (by decide) rfl ?_
        refine ww_lload_n C dL_isPassed_246 rfl 1 rfl ?_
        refine ww_lcmp C dL_isPassed_247 ?_
        refine ww_if_ne (tgt := 255) C dL_isPassed_248 (by decide) (fun c_13 => ?_) (fun c_13 => ?_)
        · replace hf := ifF c_13 hf
          refine ww_iconst (v := 0) C dL_isPassed_255 (by decide) ?_
          obtain rfl := Option.some.inj hf
          refine ww_drop (gs' := [wGW E a0 (rf10 (a1 0) h0_1 (a2 0) (a4 0) h0_4 h0_5 h0_6 h0_7 h0_8 h0_9) v0, wHouse E a1 p236.2.1, wHist E a2 (rf2 q3 h2_1) p236.2.2, wHs E q3 ah3 v3, wSight E a4 p243.2]) [0, 1, 2, 3, 4] [5, 6, 7] 8 rfl (by decide) rfl ?_
          refine ww_widen (k := 3) (n := 36) hcs.1 hcs.2 ?_
          exact ww_zret C (nar_b false) ⟨rfl, rfl⟩ dL_isPassed_256
        · replace hf := ifT c_13 hf
          refine ww_iconst (v := 1) C dL_isPassed_251 (by decide) ?_
          refine ww_goto (tgt := 256) C dL_isPassed_252 (by decide) ?_
          obtain rfl := Option.some.inj hf
          refine ww_drop (gs' := [wGW E a0 (rf10 (a1 0) h0_1 (a2 0) (a4 0) h0_4 h0_5 h0_6 h0_7 h0_8 h0_9) v0, wHouse E a1 p236.2.1, wHist E a2 (rf2 q3 h2_1) p236.2.2, wHs E q3 ah3 v3, wSight E a4 p243.2]) [0, 1, 2, 3, 4] [5, 6, 7] 8 rfl (by decide) rfl ?_
          refine ww_widen (k := 3) (n := 36) hcs.1 hcs.2 ?_
          exact ww_zret C (nar_b true) ⟨rfl, rfl⟩ dL_isPassed_256
    · replace hf := ifF c_11 hf
      refine ww_aload_n C dL_isPassed_131 rfl 0 rfl ?_
      refine ww_iload C dL_isPassed_132 7 rfl ?_
      refine ww_iconst (v := 1) C dL_isPassed_134 (by decide) ?_
      obtain ⟨p135, hp135, hf⟩ := bdE hf
      refine ww_callV C (As := [.int x9, .int 1]) (st := []) (gr := [wHist E a2 (rf2 q3 h2_1) v2, wHs E q3 ah3 v3, wArr E d0 l0 w0, wArr E d1 l1 w1, wArr E d2 l2 w2]) (c_X8_room (E := E) (a0 := a0) (h0_1 := h0_1) (h0_2 := a2 0) (h0_4 := h0_4) (h0_5 := h0_5) (h0_6 := h0_6) (h0_7 := h0_7) (h0_8 := h0_8) (h0_9 := h0_9) (a1 := a1) (a2 := a4) hp135) gL_isPassed_X8_room rfl yk_X8_room ⟨by decide, Nat.le_of_ble_eq_true rfl⟩ hcs clOK8 0 0 rfl rfl [0, 1, 4] [2, 3, 5, 6, 7] 8 rfl (by decide) rfl rfl (Nat.le_of_ble_eq_true rfl) dL_isPassed_135 ?_
      rintro _ _ ⟨rfl, rfl⟩
      refine ww_perm (gs' := [wGW E a0 (rf10 (a1 0) h0_1 (a2 0) (a4 0) h0_4 h0_5 h0_6 h0_7 h0_8 h0_9) v0, wHouse E a1 v1, wHist E a2 (rf2 q3 h2_1) v2, wHs E q3 ah3 v3, wSight E a4 p135.2, wArr E d0 l0 w0, wArr E d1 l1 w1, wArr E d2 l2 w2]) [0, 1, 3, 4, 2, 5, 6, 7] 8 rfl (by decide) rfl ?_
      refine ww_if_ge (tgt := 147) C dL_isPassed_138 (by decide) (fun c_14 => ?_) (fun c_14 => ?_)
      · replace hf := ifT c_14 hf
        refine ww_aload_n C dL_isPassed_147 rfl 0 rfl ?_
        refine ww_iload C dL_isPassed_148 7 rfl ?_
        refine ww_iconst (v := 1) C dL_isPassed_150 (by decide) ?_
        obtain ⟨p151, hp151, hf⟩ := bdE hf
        refine ww_callV C (As := [.int x9, .int 1]) (st := []) (gr := [wHist E a2 (rf2 q3 h2_1) v2, wHs E q3 ah3 v3, wArr E d0 l0 w0, wArr E d1 l1 w1, wArr E d2 l2 w2]) (c_X8_room (E := E) (a0 := a0) (h0_1 := h0_1) (h0_2 := a2 0) (h0_4 := h0_4) (h0_5 := h0_5) (h0_6 := h0_6) (h0_7 := h0_7) (h0_8 := h0_8) (h0_9 := h0_9) (a1 := a1) (a2 := a4) hp151) gL_isPassed_X8_room rfl yk_X8_room ⟨by decide, Nat.le_of_ble_eq_true rfl⟩ hcs clOK8 0 0 rfl rfl [0, 1, 4] [2, 3, 5, 6, 7] 8 rfl (by decide) rfl rfl (Nat.le_of_ble_eq_true rfl) dL_isPassed_151 ?_
        rintro _ _ ⟨rfl, rfl⟩
        refine ww_perm (gs' := [wGW E a0 (rf10 (a1 0) h0_1 (a2 0) (a4 0) h0_4 h0_5 h0_6 h0_7 h0_8 h0_9) v0, wHouse E a1 v1, wHist E a2 (rf2 q3 h2_1) v2, wHs E q3 ah3 v3, wSight E a4 p151.2, wArr E d0 l0 w0, wArr E d1 l1 w1, wArr E d2 l2 w2]) [0, 1, 3, 4, 2, 5, 6, 7] 8 rfl (by decide) rfl ?_
        refine ww_sub C (lv' := [(0, .ref (a0 0)), (1, .long x1), (3, .int x3), (4, .int x4), (6, .ref d0), (7, .ref d1), (8, .ref d2), (9, .int x9)]) [0, 1, 2, 3, 4, 5, 6, 7] rfl ?_
        exact w_L_isPassed_154 C (k124 := (fun (x9 : Int32) (v1 : HouseV) (v2 : HistV) (v3 : Nat → HouseV) (v4 : SightV) (l0 : Nat) (w0 : Nat → Int32) (l1 : Nat) (w1 : Nat → Int32) (l2 : Nat) (w2 : Nat → Int32) (c : Nat) (s : Nat) => L_isPassed_124 v0 x1 x3 x4 n x9 v1 v2 v3 v4 l0 w0 l1 w1 l2 w2 c s)) ih hcs hf
      · replace hf := ifF c_14 hf
        refine ww_iconst (v := 2) C dL_isPassed_141 (by decide) ?_
        refine ww_iload_n C dL_isPassed_142 rfl 2 rfl ?_
        refine ww_imul C dL_isPassed_143 ?_
        refine ww_goto (tgt := 154) C dL_isPassed_144 (by decide) ?_
        refine ww_sub C (lv' := [(0, .ref (a0 0)), (1, .long x1), (3, .int x3), (4, .int x4), (6, .ref d0), (7, .ref d1), (8, .ref d2), (9, .int x9)]) [0, 1, 2, 3, 4, 5, 6, 7] rfl ?_
        exact w_L_isPassed_154 C (k124 := (fun (x9 : Int32) (v1 : HouseV) (v2 : HistV) (v3 : Nat → HouseV) (v4 : SightV) (l0 : Nat) (w0 : Nat → Int32) (l1 : Nat) (w1 : Nat → Int32) (l2 : Nat) (w2 : Nat → Int32) (c : Nat) (s : Nat) => L_isPassed_124 v0 x1 x3 x4 n x9 v1 v2 v3 v4 l0 w0 l1 w1 l2 w2 c s)) ih hcs hf

set_option maxHeartbeats 4000000 in
set_option maxRecDepth 100000 in
theorem w_L_isPassed_42 {E : Ex} {K : Kx} (C : Cx E K cL_isPassed 11 (some .boolean) RL wsL_isPassed rmL_isPassed) {a0 : Nat → Nat} {a1 : Nat → Nat} {a2 : Nat → Nat} {q3 : Nat} {ah3 : Nat → Nat → Nat} {a4 : Nat → Nat} {h0_1 h0_4 h0_5 h0_6 h0_7 h0_8 h0_9 h2_1 : Nat} {v0 : GWV} {x1 : Int64} {x3 : Int32} {x4 : Int32} {r : (Bool × HouseV × HistV × (Nat → HouseV) × SightV)} : ∀ (n : Nat) (d0 : Nat) (d1 : Nat) (d2 : Nat) (x5 : Int32) (x9 : Int32) (v1 : HouseV) (v2 : HistV) (v3 : Nat → HouseV) (v4 : SightV) (l0 : Nat) (w0 : Nat → Int32) (l1 : Nat) (w1 : Nat → Int32) (l2 : Nat) (w2 : Nat → Int32) (c : Nat) (s : Nat), c ≤ 3 ∧ s ≤ 36 → L_isPassed_42 v0 x1 x3 x4 n x5 x9 v1 v2 v3 v4 l0 w0 l1 w1 l2 w2 c s = some r → WW E K c s (QQ E K (fun rv g => rv = some (.int (b2i r.1)) ∧ g = [wGW E a0 (rf10 (a1 0) h0_1 (a2 0) (a4 0) h0_4 h0_5 h0_6 h0_7 h0_8 h0_9) v0, wHouse E a1 r.2.1, wHist E a2 (rf2 q3 h2_1) r.2.2.1, wHs E q3 ah3 r.2.2.2.1, wSight E a4 r.2.2.2.2]) 3 36) 42 [(0, .ref (a0 0)), (1, .long x1), (3, .int x3), (4, .int x4), (5, .int x5), (6, .ref d0), (7, .ref d1), (8, .ref d2), (9, .int x9)] [] [wGW E a0 (rf10 (a1 0) h0_1 (a2 0) (a4 0) h0_4 h0_5 h0_6 h0_7 h0_8 h0_9) v0, wHouse E a1 v1, wHist E a2 (rf2 q3 h2_1) v2, wHs E q3 ah3 v3, wSight E a4 v4, wArr E d0 l0 w0, wArr E d1 l1 w1, wArr E d2 l2 w2] := by
  intro n
  induction n with
  | zero =>
    intro d0 d1 d2 x5 x9 v1 v2 v3 v4 l0 w0 l1 w1 l2 w2 c s hcs hf
    simp [L_isPassed_42] at hf
  | succ n ih =>
    intro d0 d1 d2 x5 x9 v1 v2 v3 v4 l0 w0 l1 w1 l2 w2 c s hcs hf
    rw [L_isPassed_42] at hf
    refine ww_iload C dL_isPassed_42 8 rfl ?_
    refine ww_iload C dL_isPassed_44 3 rfl ?_
    refine ww_icmp_ge (tgt := 107) C dL_isPassed_46 (by decide) (fun c_5 => ?_) (fun c_5 => ?_)
    · replace hf := ifT c_5 hf
      refine ww_aload_n C dL_isPassed_107 rfl 0 rfl ?_
      refine ww_iconst (v := 2) C dL_isPassed_108 (by decide) ?_
      refine ww_iload_n C dL_isPassed_109 rfl 2 rfl ?_
      refine ww_imul C dL_isPassed_110 ?_
      obtain ⟨p111, hp111, hf⟩ := bdE hf
      refine ww_callV C (As := [.int (2 * x3)]) (st := []) (gr := [wSight E a4 v4, wArr E d0 l0 w0, wArr E d1 l1 w1, wArr E d2 l2 w2]) (c_X8_pass (E := E) (a0 := a0) (h0_1 := h0_1) (h0_3 := a4 0) (h0_4 := h0_4) (h0_5 := h0_5) (h0_6 := h0_6) (h0_7 := h0_7) (h0_8 := h0_8) (h0_9 := h0_9) (a1 := a1) (a2 := a2) (h2_1 := h2_1) (q3 := q3) (ah3 := ah3) hp111) gL_isPassed_X8_pass rfl yk_X8_pass ⟨by decide, Nat.le_of_ble_eq_true rfl⟩ hcs clOK8 0 0 rfl rfl [0, 1, 2, 3] [4, 5, 6, 7] 8 rfl (by decide) rfl rfl (Nat.le_of_ble_eq_true rfl) dL_isPassed_111 ?_
      rintro _ _ ⟨rfl, rfl⟩
      refine ww_perm (gs' := [wGW E a0 (rf10 (a1 0) h0_1 (a2 0) (a4 0) h0_4 h0_5 h0_6 h0_7 h0_8 h0_9) v0, wHouse E a1 p111.2.1, wHist E a2 (rf2 q3 h2_1) p111.2.2.1, wHs E q3 ah3 p111.2.2.2, wSight E a4 v4, wArr E d0 l0 w0, wArr E d1 l1 w1, wArr E d2 l2 w2]) [0, 1, 2, 3, 4, 5, 6, 7] 8 rfl (by decide) rfl ?_
      refine ww_iload C dL_isPassed_114 4 rfl ?_
      refine ww_icmp_eq (tgt := 121) C dL_isPassed_116 (by decide) (fun c_6 => ?_) (fun c_6 => ?_)
      · replace hf := ifT c_6 hf
        refine ww_iconst (v := 0) C dL_isPassed_121 (by decide) ?_
        refine ww_istore (lv' := [(9, .int 0), (0, .ref (a0 0)), (1, .long x1), (3, .int x3), (4, .int x4), (5, .int x5), (6, .ref d0), (7, .ref d1), (8, .ref d2)]) C dL_isPassed_122 (by decide) rfl ?_
        refine ww_sub C (lv' := [(0, .ref (a0 0)), (1, .long x1), (3, .int x3), (4, .int x4), (6, .ref d0), (7, .ref d1), (8, .ref d2), (9, .int 0)]) [1, 2, 3, 4, 6, 7, 8, 0] rfl ?_
        exact w_L_isPassed_124 C FU _ _ _ _ _ _ _ _ _ _ _ _ _ _ _ _ hcs hf
      · replace hf := ifF c_6 hf
        refine ww_iconst (v := 0) C dL_isPassed_119 (by decide) ?_
        obtain rfl := Option.some.inj hf
        refine ww_drop (gs' := [wGW E a0 (rf10 (a1 0) h0_1 (a2 0) (a4 0) h0_4 h0_5 h0_6 h0_7 h0_8 h0_9) v0, wHouse E a1 p111.2.1, wHist E a2 (rf2 q3 h2_1) p111.2.2.1, wHs E q3 ah3 p111.2.2.2, wSight E a4 v4]) [0, 1, 2, 3, 4] [5, 6, 7] 8 rfl (by decide) rfl ?_
        refine ww_widen (k := 3) (n := 36) hcs.1 hcs.2 ?_
        exact ww_zret C (nar_b false) ⟨rfl, rfl⟩ dL_isPassed_120
    · replace hf := ifF c_5 hf
      refine ww_iload C dL_isPassed_49 4 rfl ?_
      refine ww_iconst (v := 2) C dL_isPassed_51 (by decide) ?_
      refine ww_aload_n C dL_isPassed_52 rfl 0 rfl ?_
      refine ww_iload C dL_isPassed_53 8 rfl ?_
      refine ww_iconst (v := 3) C dL_isPassed_55 (by decide) ?_
      obtain ⟨p56, hp56, hf⟩ := bdE hf
      refine ww_callV C (As := [.int x9, .int 3]) (st := [.int 2, .int x5]) (gr := [wHist E a2 (rf2 q3 h2_1) v2, wHs E q3 ah3 v3, wArr E d0 l0 w0, wArr E d1 l1 w1, wArr E d2 l2 w2]) (c_X8_room (E := E) (a0 := a0) (h0_1 := h0_1) (h0_2 := a2 0) (h0_4 := h0_4) (h0_5 := h0_5) (h0_6 := h0_6) (h0_7 := h0_7) (h0_8 := h0_8) (h0_9 := h0_9) (a1 := a1) (a2 := a4) hp56) gL_isPassed_X8_room rfl yk_X8_room ⟨by decide, Nat.le_of_ble_eq_true rfl⟩ hcs clOK8 0 0 rfl rfl [0, 1, 4] [2, 3, 5, 6, 7] 8 rfl (by decide) rfl rfl (Nat.le_of_ble_eq_true rfl) dL_isPassed_56 ?_
      rintro _ _ ⟨rfl, rfl⟩
      refine ww_perm (gs' := [wGW E a0 (rf10 (a1 0) h0_1 (a2 0) (a4 0) h0_4 h0_5 h0_6 h0_7 h0_8 h0_9) v0, wHouse E a1 v1, wHist E a2 (rf2 q3 h2_1) v2, wHs E q3 ah3 v3, wSight E a4 p56.2, wArr E d0 l0 w0, wArr E d1 l1 w1, wArr E d2 l2 w2]) [0, 1, 3, 4, 2, 5, 6, 7] 8 rfl (by decide) rfl ?_
      refine ww_imul C dL_isPassed_59 ?_
      refine ww_iadd C dL_isPassed_60 ?_
      refine ww_topi (fun x5_61 e_x5_61 => ?_)
      replace hf := ltE e_x5_61 hf
      refine ww_istore (lv' := [(5, .int x5_61), (0, .ref (a0 0)), (1, .long x1), (3, .int x3), (4, .int x4), (6, .ref d0), (7, .ref d1), (8, .ref d2), (9, .int x9)]) C dL_isPassed_61 (by decide) rfl ?_
      refine ww_aload C dL_isPassed_63 5 rfl ?_
      refine ww_iload C dL_isPassed_65 8 rfl ?_
      refine ww_aload_n C dL_isPassed_67 rfl 1 rfl ?_
      refine ww_iload C dL_isPassed_68 8 rfl ?_
      refine ww_bipush (v := 6) C dL_isPassed_70 (by decide) ?_
      obtain ⟨p72, hp72, hf⟩ := bdE hf
      refine ww_callV C (As := [.int x9, .int 6]) (st := [.int x9, .ref d0]) (gr := [wHist E a2 (rf2 q3 h2_1) v2, wHs E q3 ah3 v3, wArr E d0 l0 w0, wArr E d1 l1 w1, wArr E d2 l2 w2]) (c_X8_room (E := E) (a0 := a0) (h0_1 := h0_1) (h0_2 := a2 0) (h0_4 := h0_4) (h0_5 := h0_5) (h0_6 := h0_6) (h0_7 := h0_7) (h0_8 := h0_8) (h0_9 := h0_9) (a1 := a1) (a2 := a4) hp72) gL_isPassed_X8_room rfl yk_X8_room ⟨by decide, Nat.le_of_ble_eq_true rfl⟩ hcs clOK8 0 0 rfl rfl [0, 1, 4] [2, 3, 5, 6, 7] 8 rfl (by decide) rfl rfl (Nat.le_of_ble_eq_true rfl) dL_isPassed_72 ?_
      rintro _ _ ⟨rfl, rfl⟩
      refine ww_perm (gs' := [wGW E a0 (rf10 (a1 0) h0_1 (a2 0) (a4 0) h0_4 h0_5 h0_6 h0_7 h0_8 h0_9) v0, wHouse E a1 v1, wHist E a2 (rf2 q3 h2_1) v2, wHs E q3 ah3 v3, wSight E a4 p72.2, wArr E d0 l0 w0, wArr E d1 l1 w1, wArr E d2 l2 w2]) [0, 1, 3, 4, 2, 5, 6, 7] 8 rfl (by decide) rfl ?_
      obtain ⟨g_8, hf⟩ := gdE hf
      obtain ⟨v5_75, e_v5_75⟩ : ∃ y : Nat → Int32, y = upd w0 (Int32.toNatClampNeg x9) p72.1 := ⟨_, rfl⟩
      replace hf := ltE e_v5_75 hf
      refine ww_iast C (f := w0) (w := wArr E d0 l0 w0) (w' := wArr E d0 l0 v5_75) (gs' := [wGW E a0 (rf10 (a1 0) h0_1 (a2 0) (a4 0) h0_4 h0_5 h0_6 h0_7 h0_8 h0_9) v0, wHouse E a1 v1, wHist E a2 (rf2 q3 h2_1) v2, wHs E q3 ah3 v3, wSight E a4 p72.2, wArr E d0 l0 v5_75, wArr E d1 l1 w1, wArr E d2 l2 w2]) 5 0 rfl q_Arr (inB_vp g_8) (by rw [e_v5_75]; exact s_Arr) rfl dL_isPassed_75 ?_
      refine ww_aload C dL_isPassed_76 6 rfl ?_
      refine ww_iload C dL_isPassed_78 8 rfl ?_
      refine ww_aload_n C dL_isPassed_80 rfl 1 rfl ?_
      refine ww_iload C dL_isPassed_81 8 rfl ?_
      refine ww_bipush (v := 7) C dL_isPassed_83 (by decide) ?_
      obtain ⟨p85, hp85, hf⟩ := bdE hf
      refine ww_callV C (As := [.int x9, .int 7]) (st := [.int x9, .ref d1]) (gr := [wHist E a2 (rf2 q3 h2_1) v2, wHs E q3 ah3 v3, wArr E d0 l0 v5_75, wArr E d1 l1 w1, wArr E d2 l2 w2]) (c_X8_room (E := E) (a0 := a0) (h0_1 := h0_1) (h0_2 := a2 0) (h0_4 := h0_4) (h0_5 := h0_5) (h0_6 := h0_6) (h0_7 := h0_7) (h0_8 := h0_8) (h0_9 := h0_9) (a1 := a1) (a2 := a4) hp85) gL_isPassed_X8_room rfl yk_X8_room ⟨by decide, Nat.le_of_ble_eq_true rfl⟩ hcs clOK8 0 0 rfl rfl [0, 1, 4] [2, 3, 5, 6, 7] 8 rfl (by decide) rfl rfl (Nat.le_of_ble_eq_true rfl) dL_isPassed_85 ?_
      rintro _ _ ⟨rfl, rfl⟩
      refine ww_perm (gs' := [wGW E a0 (rf10 (a1 0) h0_1 (a2 0) (a4 0) h0_4 h0_5 h0_6 h0_7 h0_8 h0_9) v0, wHouse E a1 v1, wHist E a2 (rf2 q3 h2_1) v2, wHs E q3 ah3 v3, wSight E a4 p85.2, wArr E d0 l0 v5_75, wArr E d1 l1 w1, wArr E d2 l2 w2]) [0, 1, 3, 4, 2, 5, 6, 7] 8 rfl (by decide) rfl ?_
      obtain ⟨g_9, hf⟩ := gdE hf
      obtain ⟨v6_88, e_v6_88⟩ : ∃ y : Nat → Int32, y = upd w1 (Int32.toNatClampNeg x9) p85.1 := ⟨_, rfl⟩
      replace hf := ltE e_v6_88 hf
      refine ww_iast C (f := w1) (w := wArr E d1 l1 w1) (w' := wArr E d1 l1 v6_88) (gs' := [wGW E a0 (rf10 (a1 0) h0_1 (a2 0) (a4 0) h0_4 h0_5 h0_6 h0_7 h0_8 h0_9) v0, wHouse E a1 v1, wHist E a2 (rf2 q3 h2_1) v2, wHs E q3 ah3 v3, wSight E a4 p85.2, wArr E d0 l0 v5_75, wArr E d1 l1 v6_88, wArr E d2 l2 w2]) 6 0 rfl q_Arr (inB_vp g_9) (by rw [e_v6_88]; exact s_Arr) rfl dL_isPassed_88 ?_
      refine ww_aload C dL_isPassed_89 7 rfl ?_
      refine ww_iload C dL_isPassed_91 8 rfl ?_
      refine ww_aload_n C dL_isPassed_93 rfl 1 rfl ?_
      refine ww_iload C dL_isPassed_94 8 rfl ?_
      refine ww_iconst (v := 4) C dL_isPassed_96 (by decide) ?_
      obtain ⟨p97, hp97, hf⟩ := bdE hf
      refine ww_callV C (As := [.int x9, .int 4]) (st := [.int x9, .ref d2]) (gr := [wHist E a2 (rf2 q3 h2_1) v2, wHs E q3 ah3 v3, wArr E d0 l0 v5_75, wArr E d1 l1 v6_88, wArr E d2 l2 w2]) (c_X8_room (E := E) (a0 := a0) (h0_1 := h0_1) (h0_2 := a2 0) (h0_4 := h0_4) (h0_5 := h0_5) (h0_6 := h0_6) (h0_7 := h0_7) (h0_8 := h0_8) (h0_9 := h0_9) (a1 := a1) (a2 := a4) hp97) gL_isPassed_X8_room rfl yk_X8_room ⟨by decide, Nat.le_of_ble_eq_true rfl⟩ hcs clOK8 0 0 rfl rfl [0, 1, 4] [2, 3, 5, 6, 7] 8 rfl (by decide) rfl rfl (Nat.le_of_ble_eq_true rfl) dL_isPassed_97 ?_
      rintro _ _ ⟨rfl, rfl⟩
      refine ww_perm (gs' := [wGW E a0 (rf10 (a1 0) h0_1 (a2 0) (a4 0) h0_4 h0_5 h0_6 h0_7 h0_8 h0_9) v0, wHouse E a1 v1, wHist E a2 (rf2 q3 h2_1) v2, wHs E q3 ah3 v3, wSight E a4 p97.2, wArr E d0 l0 v5_75, wArr E d1 l1 v6_88, wArr E d2 l2 w2]) [0, 1, 3, 4, 2, 5, 6, 7] 8 rfl (by decide) rfl ?_
      obtain ⟨g_10, hf⟩ := gdE hf
      obtain ⟨v7_100, e_v7_100⟩ : ∃ y : Nat → Int32, y = upd w2 (Int32.toNatClampNeg x9) p97.1 := ⟨_, rfl⟩
      replace hf := ltE e_v7_100 hf
      refine ww_iast C (f := w2) (w := wArr E d2 l2 w2) (w' := wArr E d2 l2 v7_100) (gs' := [wGW E a0 (rf10 (a1 0) h0_1 (a2 0) (a4 0) h0_4 h0_5 h0_6 h0_7 h0_8 h0_9) v0, wHouse E a1 v1, wHist E a2 (rf2 q3 h2_1) v2, wHs E q3 ah3 v3, wSight E a4 p97.2, wArr E d0 l0 v5_75, wArr E d1 l1 v6_88, wArr E d2 l2 v7_100]) 7 0 rfl q_Arr (inB_vp g_10) (by rw [e_v7_100]; exact s_Arr) rfl dL_isPassed_100 ?_
      obtain ⟨x9_101, e_x9_101⟩ : ∃ y : Int32, y = x9 + 1 := ⟨_, rfl⟩
      replace hf := ltE e_x9_101 hf
      refine ww_iinc (v := x9_101) (lv' := [(9, .int x9_101), (5, .int x5_61), (0, .ref (a0 0)), (1, .long x1), (3, .int x3), (4, .int x4), (6, .ref d0), (7, .ref d1), (8, .ref d2)]) C dL_isPassed_101 8 rfl (by rw [e_x9_101]; rfl) (by decide) rfl ?_
      refine ww_goto (tgt := 42) C dL_isPassed_104 (by decide) ?_
      refine ww_sub C (lv' := [(0, .ref (a0 0)), (1, .long x1), (3, .int x3), (4, .int x4), (5, .int x5_61), (6, .ref d0), (7, .ref d1), (8, .ref d2), (9, .int x9_101)]) [2, 3, 4, 5, 1, 6, 7, 8, 0] rfl ?_
      exact ih _ _ _ _ _ _ _ _ _ _ _ _ _ _ _ _ _ hcs hf

set_option maxHeartbeats 4000000 in
set_option maxRecDepth 100000 in
theorem c_L_isPassed {E : Ex} {a0 : Nat → Nat} {a1 : Nat → Nat} {a2 : Nat → Nat} {q3 : Nat} {ah3 : Nat → Nat → Nat} {a4 : Nat → Nat} {h0_1 h0_4 h0_5 h0_6 h0_7 h0_8 h0_9 h2_1 : Nat} {v0 : GWV} {v1 : HouseV} {v2 : HistV} {v3 : Nat → HouseV} {v4 : SightV} {r : (Bool × HouseV × HistV × (Nat → HouseV) × SightV)} (hf : L_isPassed v0 v1 v2 v3 v4 = some r) : Ct E yL_isPassed wsL_isPassed rmL_isPassed [.ref (a0 0)] [wGW E a0 (rf10 (a1 0) h0_1 (a2 0) (a4 0) h0_4 h0_5 h0_6 h0_7 h0_8 h0_9) v0, wHouse E a1 v1, wHist E a2 (rf2 q3 h2_1) v2, wHs E q3 ah3 v3, wSight E a4 v4] (fun rv g => rv = some (.int (b2i r.1)) ∧ g = [wGW E a0 (rf10 (a1 0) h0_1 (a2 0) (a4 0) h0_4 h0_5 h0_6 h0_7 h0_8 h0_9) v0, wHouse E a1 r.2.1, wHist E a2 (rf2 q3 h2_1) r.2.2.1, wHs E q3 ah3 r.2.2.2.1, wSight E a4 r.2.2.2.2]) := by
  refine ct_of (own := RL) (by decide +kernel) rfl rfl (Nat.le_of_ble_eq_true rfl) (fun K C => ?_)
  refine ww_sub C (lv' := [(0, .ref (a0 0))]) [0] rfl ?_
  rw [L_isPassed] at hf
  refine ww_aload_n C dL_isPassed_0 rfl 0 rfl ?_
  obtain ⟨p1, hp1, hf⟩ := bdE hf
  refine ww_callS C (As := [.ref (a0 0)]) (st := []) (gr := [wHist E a2 (rf2 q3 h2_1) v2, wHs E q3 ah3 v3]) (c_L_all (E := E) (a0 := a0) (h0_1 := h0_1) (h0_2 := a2 0) (h0_4 := h0_4) (h0_5 := h0_5) (h0_6 := h0_6) (h0_7 := h0_7) (h0_8 := h0_8) (h0_9 := h0_9) (a1 := a1) (a2 := a4) hp1) gL_isPassed_L_all rfl ysk_L_all ⟨by decide, Nat.le_of_ble_eq_true rfl⟩ ⟨Nat.zero_le _, Nat.zero_le _⟩ [0, 1, 4] [2, 3] 5 rfl (by decide) rfl rfl (Nat.le_of_ble_eq_true rfl) dL_isPassed_1 ?_
  rintro _ _ ⟨rfl, rfl⟩
  refine ww_perm (gs' := [wGW E a0 (rf10 (a1 0) h0_1 (a2 0) (a4 0) h0_4 h0_5 h0_6 h0_7 h0_8 h0_9) v0, wHouse E a1 v1, wHist E a2 (rf2 q3 h2_1) v2, wHs E q3 ah3 v3, wSight E a4 p1.2]) [0, 1, 3, 4, 2] 5 rfl (by decide) rfl ?_
  refine ww_lstore_n (lv' := [(1, .long p1.1), (0, .ref (a0 0))]) C dL_isPassed_4 rfl (by decide) rfl ?_
  refine ww_aload_n C dL_isPassed_5 rfl 1 rfl ?_
  refine ww_iconst (v := 3) C dL_isPassed_6 (by decide) ?_
  obtain ⟨p7, hp7, hf⟩ := bdE hf
  refine ww_callV C (As := [.int 3]) (st := []) (gr := [wHist E a2 (rf2 q3 h2_1) v2, wHs E q3 ah3 v3]) (c_X8_size (E := E) (a0 := a0) (h0_1 := h0_1) (h0_2 := a2 0) (h0_4 := h0_4) (h0_5 := h0_5) (h0_6 := h0_6) (h0_7 := h0_7) (h0_8 := h0_8) (h0_9 := h0_9) (a1 := a1) (a2 := a4) hp7) gL_isPassed_X8_size rfl yk_X8_size ⟨by decide, Nat.le_of_ble_eq_true rfl⟩ ⟨Nat.zero_le _, Nat.zero_le _⟩ clOK8 0 0 rfl rfl [0, 1, 4] [2, 3] 5 rfl (by decide) rfl rfl (Nat.le_of_ble_eq_true rfl) dL_isPassed_7 ?_
  rintro _ _ ⟨rfl, rfl⟩
  refine ww_perm (gs' := [wGW E a0 (rf10 (a1 0) h0_1 (a2 0) (a4 0) h0_4 h0_5 h0_6 h0_7 h0_8 h0_9) v0, wHouse E a1 v1, wHist E a2 (rf2 q3 h2_1) v2, wHs E q3 ah3 v3, wSight E a4 p7.2]) [0, 1, 3, 4, 2] 5 rfl (by decide) rfl ?_
  refine ww_istore_n (lv' := [(3, .int p7.1), (1, .long p1.1), (0, .ref (a0 0))]) C dL_isPassed_10 rfl (by decide) rfl ?_
  refine ww_aload_n C dL_isPassed_11 rfl 2 rfl ?_
  refine ww_iconst (v := 0) C dL_isPassed_12 (by decide) ?_
  obtain ⟨p13, hp13, hf⟩ := bdE hf
  refine ww_callV C (As := [.int 0]) (st := []) (gr := [wHist E a2 (rf2 q3 h2_1) v2, wHs E q3 ah3 v3]) (c_X8_size (E := E) (a0 := a0) (h0_1 := h0_1) (h0_2 := a2 0) (h0_4 := h0_4) (h0_5 := h0_5) (h0_6 := h0_6) (h0_7 := h0_7) (h0_8 := h0_8) (h0_9 := h0_9) (a1 := a1) (a2 := a4) hp13) gL_isPassed_X8_size rfl yk_X8_size ⟨by decide, Nat.le_of_ble_eq_true rfl⟩ ⟨Nat.zero_le _, Nat.zero_le _⟩ clOK8 0 0 rfl rfl [0, 1, 4] [2, 3] 5 rfl (by decide) rfl rfl (Nat.le_of_ble_eq_true rfl) dL_isPassed_13 ?_
  rintro _ _ ⟨rfl, rfl⟩
  refine ww_perm (gs' := [wGW E a0 (rf10 (a1 0) h0_1 (a2 0) (a4 0) h0_4 h0_5 h0_6 h0_7 h0_8 h0_9) v0, wHouse E a1 v1, wHist E a2 (rf2 q3 h2_1) v2, wHs E q3 ah3 v3, wSight E a4 p13.2]) [0, 1, 3, 4, 2] 5 rfl (by decide) rfl ?_
  refine ww_istore (lv' := [(4, .int p13.1), (3, .int p7.1), (1, .long p1.1), (0, .ref (a0 0))]) C dL_isPassed_16 (by decide) rfl ?_
  refine ww_iconst (v := 0) C dL_isPassed_18 (by decide) ?_
  refine ww_istore (lv' := [(5, .int 0), (4, .int p13.1), (3, .int p7.1), (1, .long p1.1), (0, .ref (a0 0))]) C dL_isPassed_19 (by decide) rfl ?_
  refine ww_iload C dL_isPassed_21 1 rfl ?_
  obtain ⟨g_1, hf⟩ := gdE hf
  obtain ⟨g_2, hf⟩ := gdE hf
  refine ww_newi C (by decide +kernel) (Int32.toNatClampNeg p13.1) (inB_pos g_1) rfl (inB_by g_1) (of_decide_eq_true g_2) dL_isPassed_23 (fun q23 => ?_)
  refine ww_eq (gs' := [wGW E a0 (rf10 (a1 0) h0_1 (a2 0) (a4 0) h0_4 h0_5 h0_6 h0_7 h0_8 h0_9) v0, wHouse E a1 v1, wHist E a2 (rf2 q3 h2_1) v2, wHs E q3 ah3 v3, wSight E a4 p13.2, wArr E q23 (Int32.toNatClampNeg p13.1) (fun _ => 0)]) rfl ?_
  refine ww_astore (lv' := [(6, .ref q23), (5, .int 0), (4, .int p13.1), (3, .int p7.1), (1, .long p1.1), (0, .ref (a0 0))]) C dL_isPassed_25 (by decide) rfl ?_
  refine ww_iload C dL_isPassed_27 2 rfl ?_
  obtain ⟨g_3, hf⟩ := gdE hf
  refine ww_newi C (by decide +kernel) (Int32.toNatClampNeg p13.1) (inB_pos g_1) rfl (inB_by g_1) (of_decide_eq_true g_3) dL_isPassed_29 (fun q29 => ?_)
  refine ww_eq (gs' := [wGW E a0 (rf10 (a1 0) h0_1 (a2 0) (a4 0) h0_4 h0_5 h0_6 h0_7 h0_8 h0_9) v0, wHouse E a1 v1, wHist E a2 (rf2 q3 h2_1) v2, wHs E q3 ah3 v3, wSight E a4 p13.2, wArr E q23 (Int32.toNatClampNeg p13.1) (fun _ => 0), wArr E q29 (Int32.toNatClampNeg p13.1) (fun _ => 0)]) rfl ?_
  refine ww_astore (lv' := [(7, .ref q29), (6, .ref q23), (5, .int 0), (4, .int p13.1), (3, .int p7.1), (1, .long p1.1), (0, .ref (a0 0))]) C dL_isPassed_31 (by decide) rfl ?_
  refine ww_iload C dL_isPassed_33 3 rfl ?_
  obtain ⟨g_4, hf⟩ := gdE hf
  refine ww_newi C (by decide +kernel) (Int32.toNatClampNeg p13.1) (inB_pos g_1) rfl (inB_by g_1) (of_decide_eq_true g_4) dL_isPassed_35 (fun q35 => ?_)
  refine ww_eq (gs' := [wGW E a0 (rf10 (a1 0) h0_1 (a2 0) (a4 0) h0_4 h0_5 h0_6 h0_7 h0_8 h0_9) v0, wHouse E a1 v1, wHist E a2 (rf2 q3 h2_1) v2, wHs E q3 ah3 v3, wSight E a4 p13.2, wArr E q23 (Int32.toNatClampNeg p13.1) (fun _ => 0), wArr E q29 (Int32.toNatClampNeg p13.1) (fun _ => 0), wArr E q35 (Int32.toNatClampNeg p13.1) (fun _ => 0)]) rfl ?_
  refine ww_astore (lv' := [(8, .ref q35), (7, .ref q29), (6, .ref q23), (5, .int 0), (4, .int p13.1), (3, .int p7.1), (1, .long p1.1), (0, .ref (a0 0))]) C dL_isPassed_37 (by decide) rfl ?_
  refine ww_iconst (v := 0) C dL_isPassed_39 (by decide) ?_
  refine ww_istore (lv' := [(9, .int 0), (8, .ref q35), (7, .ref q29), (6, .ref q23), (5, .int 0), (4, .int p13.1), (3, .int p7.1), (1, .long p1.1), (0, .ref (a0 0))]) C dL_isPassed_40 (by decide) rfl ?_
  refine ww_sub C (lv' := [(0, .ref (a0 0)), (1, .long p1.1), (3, .int p7.1), (4, .int p13.1), (5, .int 0), (6, .ref q23), (7, .ref q29), (8, .ref q35), (9, .int 0)]) [8, 7, 6, 5, 4, 3, 2, 1, 0] rfl ?_
  exact w_L_isPassed_42 C FU _ _ _ _ _ _ _ _ _ _ _ _ _ _ _ _ _ (of_decide_eq_true g_4) hf

theorem ysk_L_isPassed : yL_isPassed.cls ≠ "java/lang/invoke/MethodHandle" ∧ yL_isPassed.cls ≠ "java/lang/invoke/VarHandle" ∧ (parseMethodDescriptor yL_isPassed.desc).map (fun d => d.parameters.length) = some 1 := by decide +kernel
