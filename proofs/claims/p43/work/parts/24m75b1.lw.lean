abbrev rmL_tell : Room := { frames := 12, cells := 0, slots := 0, locals := 360 }
set_option maxRecDepth 20000 in
theorem in_L_tell_X9 : ∀ w ∈ u_ws RX9 TX9 8, w ∈ wsL_tell := by decide +kernel
set_option maxHeartbeats 4000000 in
set_option maxRecDepth 100000 in
theorem w_L_tell_137 {E : Ex} {K : Kx} (C : Cx E K cL_tell 4 (some .int) RL wsL_tell rmL_tell) {a0 : Nat → Nat} {a1 : Nat → Nat} {a2 : Nat → Nat} {a3 : Nat → Nat} {a4 : Nat → Nat} {a5 : Nat → Nat} {q6 : Nat} {a7 : Nat → Nat} {q8 : Nat} {a9 : Nat → Nat} {q10 : Nat} {a11 : Nat → Nat} {q12 : Nat} {a13 : Nat → Nat} {q14 : Nat} {h0_3 h0_4 h0_5 h0_6 h0_9 h3_0 h3_1 : Nat} {v7 : OwnV} {v8 : Nat} {v9 : RowsT} {v10 : Nat} {v11 : RowsT} {v12 : Nat} {v13 : RowsT} {v14 : Nat → Int32}  {r : (Int32 × GWV × HouseV × HouseV × HistV × ToksV × (Nat → Int32))} : ∀ (n : Nat)  (x3 : Int32) (v0 : GWV) (v1 : HouseV) (v2 : HouseV) (v3 : HistV) (v4 : ToksV) (v6 : Nat → Int32), L_tell_137 v7 v8 v9 v10 v11 v12 v13 v14 n x3 v0 v1 v2 v3 v4 v6 = some r → WW E K 0 0 (QQ E K (fun rv g => rv = some (.int r.1) ∧ g = [wGW E a0 (rf10 (a1 0) (a2 0) (a3 0) h0_3 h0_4 h0_5 h0_6 (a4 0) (a5 0) h0_9) r.2.1, wHouse E a1 r.2.2.1, wHouse E a2 r.2.2.2.1, wHist E a3 (rf2 h3_0 h3_1) r.2.2.2.2.1, wToks E a4 r.2.2.2.2.2.1, wHRead E a5 (rf1 (a4 0)), wArr E q6 6 r.2.2.2.2.2.2, wOwn E a7 (rf4 q8 q10 q12 q14) v7, wRO E q8 20 a9 v8, wRR E a9 v9, wRO E q10 12 a11 v10, wRR E a11 v11, wRO E q12 4 a13 v12, wRR E a13 v13, wArr E q14 4 v14]) 0 0) 137 [(0, .ref (a0 0)), (1, .ref q6), (2, .ref (a7 0)), (3, .int x3)] [] [wGW E a0 (rf10 (a1 0) (a2 0) (a3 0) h0_3 h0_4 h0_5 h0_6 (a4 0) (a5 0) h0_9) v0, wHouse E a1 v1, wHouse E a2 v2, wHist E a3 (rf2 h3_0 h3_1) v3, wToks E a4 v4, wHRead E a5 (rf1 (a4 0)), wArr E q6 6 v6, wOwn E a7 (rf4 q8 q10 q12 q14) v7, wRO E q8 20 a9 v8, wRR E a9 v9, wRO E q10 12 a11 v10, wRR E a11 v11, wRO E q12 4 a13 v12, wRR E a13 v13, wArr E q14 4 v14] := by
  intro n
  induction n with
  | zero =>
    intro  x3 v0 v1 v2 v3 v4 v6 hf
    simp [L_tell_137] at hf
  | succ n ih =>
    intro  x3 v0 v1 v2 v3 v4 v6 hf
    rw [L_tell_137] at hf
    refine ww_iload_n C dL_tell_137 rfl 3 rfl ?_
    refine ww_aload_n C dL_tell_138 rfl 2 rfl ?_
    refine ww_getN (host := RL) C clOK9 in_L_tell_X9 (w := wOwn E a7 (rf4 q8 q10 q12 q14) v7) (fs := fsOwn a7 (rf4 q8 q10 q12 q14) v7) (v := .int (Own_rooms v7)) 7 0 0 rfl q_Own (by decide) (by decide +kernel) g_Own_rooms dL_tell_139 ?_
    refine ww_icmp_ge (tgt := 197) C dL_tell_142 (by decide) (fun c_13 => ?_) (fun c_13 => ?_)
    · replace hf := ifT c_13 hf
      refine ww_aload_n C dL_tell_197 rfl 0 rfl ?_
      refine ww_aload_n C dL_tell_198 rfl 0 rfl ?_
      refine ww_aload_n C dL_tell_199 rfl 1 rfl ?_
      obtain ⟨p200, hp200, hf⟩ := bdE hf
      refine ww_callS C (As := [.ref (a0 0), .ref q6]) (st := [.ref (a0 0)]) (gr := [wHouse E a1 v1, wHouse E a2 v2, wHist E a3 (rf2 h3_0 h3_1) v3, wHRead E a5 (rf1 (a4 0)), wOwn E a7 (rf4 q8 q10 q12 q14) v7, wRO E q8 20 a9 v8, wRR E a9 v9, wRO E q10 12 a11 v10, wRR E a11 v11, wRO E q12 4 a13 v12, wRR E a13 v13, wArr E q14 4 v14]) (c_L_end (E := E) (a0 := a0) (h0_0 := a1 0) (h0_1 := a2 0) (h0_2 := a3 0) (h0_3 := h0_3) (h0_4 := h0_4) (h0_5 := h0_5) (h0_6 := h0_6) (h0_8 := a5 0) (h0_9 := h0_9) (a1 := a4) (q2 := q6) hp200) gL_tell_L_end rfl ysk_L_end ⟨by decide, Nat.le_of_ble_eq_true rfl⟩ ⟨by decide, by decide⟩ [0, 4, 6] [1, 2, 3, 5, 7, 8, 9, 10, 11, 12, 13, 14] 15 rfl (by decide) rfl rfl (Nat.le_of_ble_eq_true rfl) dL_tell_200 ?_
      rintro _ _ ⟨rfl, rfl⟩
      refine ww_perm (gs' := [wGW E a0 (rf10 (a1 0) (a2 0) (a3 0) h0_3 h0_4 h0_5 h0_6 (a4 0) (a5 0) h0_9) v0, wHouse E a1 v1, wHouse E a2 v2, wHist E a3 (rf2 h3_0 h3_1) v3, wToks E a4 p200.2.1, wHRead E a5 (rf1 (a4 0)), wArr E q6 6 p200.2.2, wOwn E a7 (rf4 q8 q10 q12 q14) v7, wRO E q8 20 a9 v8, wRR E a9 v9, wRO E q10 12 a11 v10, wRR E a11 v11, wRO E q12 4 a13 v12, wRR E a13 v13, wArr E q14 4 v14]) [0, 3, 4, 5, 1, 6, 2, 7, 8, 9, 10, 11, 12, 13, 14] 15 rfl (by decide) rfl ?_
      obtain ⟨p203, hp203, hf⟩ := bdE hf
      refine ww_callV C (As := [.int p200.1]) (st := []) (gr := [wArr E q6 6 p200.2.2, wOwn E a7 (rf4 q8 q10 q12 q14) v7, wRO E q8 20 a9 v8, wRR E a9 v9, wRO E q10 12 a11 v10, wRR E a11 v11, wRO E q12 4 a13 v12, wRR E a13 v13, wArr E q14 4 v14]) (c_X8_load (E := E) (a0 := a0) (h0_3 := h0_3) (h0_4 := h0_4) (h0_5 := h0_5) (h0_6 := h0_6) (h0_9 := h0_9) (a1 := a1) (a2 := a2) (a3 := a3) (h3_0 := h3_0) (h3_1 := h3_1) (a4 := a4) (a5 := a5) hp203) gL_tell_X8_load rfl yk_X8_load ⟨by decide, Nat.le_of_ble_eq_true rfl⟩ ⟨by decide, by decide⟩ clOK8 0 0 rfl rfl [0, 1, 2, 3, 4, 5] [6, 7, 8, 9, 10, 11, 12, 13, 14] 15 rfl (by decide) rfl rfl (Nat.le_of_ble_eq_true rfl) dL_tell_203 ?_
      rintro _ _ ⟨rfl, rfl⟩
      refine ww_perm (gs' := [wGW E a0 (rf10 (a1 0) (a2 0) (a3 0) h0_3 h0_4 h0_5 h0_6 (a4 0) (a5 0) h0_9) p203.2.1, wHouse E a1 p203.2.2.1, wHouse E a2 p203.2.2.2.1, wHist E a3 (rf2 h3_0 h3_1) p203.2.2.2.2.1, wToks E a4 p203.2.2.2.2.2, wHRead E a5 (rf1 (a4 0)), wArr E q6 6 p200.2.2, wOwn E a7 (rf4 q8 q10 q12 q14) v7, wRO E q8 20 a9 v8, wRR E a9 v9, wRO E q10 12 a11 v10, wRR E a11 v11, wRO E q12 4 a13 v12, wRR E a13 v13, wArr E q14 4 v14]) [0, 1, 2, 3, 4, 5, 6, 7, 8, 9, 10, 11, 12, 13, 14] 15 rfl (by decide) rfl ?_
      obtain rfl := Option.some.inj hf
      exact ww_iret C ⟨rfl, rfl⟩ dL_tell_206
    · replace hf := ifF c_13 hf
      refine ww_aload_n C dL_tell_145 rfl 2 rfl ?_
      refine ww_getN (host := RL) C clOK9 in_L_tell_X9 (w := wOwn E a7 (rf4 q8 q10 q12 q14) v7) (fs := fsOwn a7 (rf4 q8 q10 q12 q14) v7) (v := .ref q10) 7 0 5 rfl q_Own (by decide) (by decide +kernel) g_Own_room dL_tell_146 ?_
      refine ww_iload_n C dL_tell_149 rfl 3 rfl ?_
      obtain ⟨g_14, hf⟩ := gdE hf
      obtain ⟨g_15, hf⟩ := gdE hf
      refine ww_aldR C (f := roF a11 v10) (w := wRO E q10 12 a11 v10) 10 0 rfl q_RO (inB_vp g_14) (roF_at (of_decide_eq_true g_15)) dL_tell_150 ?_
      refine ww_iconst (v := 0) C dL_tell_151 (by decide) ?_
      obtain ⟨g_16, hf⟩ := gdE hf
      obtain ⟨g_17, hf⟩ := gdE hf
      refine ww_iald C (f := v11.2.2 (Int32.toNatClampNeg x3)) (w := wRR E a11 v11) 11 (Int32.toNatClampNeg x3) rfl (q_RR (of_decide_eq_true g_16)) (inB_vp g_17) dL_tell_152 ?_
      refine ww_bipush (v := 99) C dL_tell_153 (by decide) ?_
      refine ww_icmp_ne (tgt := 161) C dL_tell_155 (by decide) (fun c_18 => ?_) (fun c_18 => ?_)
      · replace hf := ifF c_18 hf
        refine ww_aload_n C dL_tell_161 rfl 0 rfl ?_
        refine ww_aload_n C dL_tell_162 rfl 1 rfl ?_
        refine ww_ldcS C (i := 23) rfl dL_tell_163 ?_
        refine ww_iload_n C dL_tell_165 rfl 3 rfl ?_
        obtain ⟨p166, hp166, hf⟩ := bdE hf
        refine ww_callS C (As := [.ref (a0 0), .ref q6, .ref (eK E 23), .int x3]) (st := []) (gr := [wHouse E a1 v1, wHouse E a2 v2, wHist E a3 (rf2 h3_0 h3_1) v3, wHRead E a5 (rf1 (a4 0)), wOwn E a7 (rf4 q8 q10 q12 q14) v7, wRO E q8 20 a9 v8, wRR E a9 v9, wRO E q10 12 a11 v10, wRR E a11 v11, wRO E q12 4 a13 v12, wRR E a13 v13, wArr E q14 4 v14]) (c_L_with (E := E) (a0 := a0) (h0_0 := a1 0) (h0_1 := a2 0) (h0_2 := a3 0) (h0_3 := h0_3) (h0_4 := h0_4) (h0_5 := h0_5) (h0_6 := h0_6) (h0_8 := a5 0) (h0_9 := h0_9) (a1 := a4) (q2 := q6) hp166) gL_tell_L_with rfl ysk_L_with ⟨by decide, Nat.le_of_ble_eq_true rfl⟩ ⟨by decide, by decide⟩ [0, 4, 6] [1, 2, 3, 5, 7, 8, 9, 10, 11, 12, 13, 14] 15 rfl (by decide) rfl rfl (Nat.le_of_ble_eq_true rfl) dL_tell_166 ?_
        rintro _ _ ⟨rfl, rfl⟩
        refine ww_perm (gs' := [wGW E a0 (rf10 (a1 0) (a2 0) (a3 0) h0_3 h0_4 h0_5 h0_6 (a4 0) (a5 0) h0_9) v0, wHouse E a1 v1, wHouse E a2 v2, wHist E a3 (rf2 h3_0 h3_1) v3, wToks E a4 p166.1, wHRead E a5 (rf1 (a4 0)), wArr E q6 6 p166.2, wOwn E a7 (rf4 q8 q10 q12 q14) v7, wRO E q8 20 a9 v8, wRR E a9 v9, wRO E q10 12 a11 v10, wRR E a11 v11, wRO E q12 4 a13 v12, wRR E a13 v13, wArr E q14 4 v14]) [0, 3, 4, 5, 1, 6, 2, 7, 8, 9, 10, 11, 12, 13, 14] 15 rfl (by decide) rfl ?_
        refine ww_aload_n C dL_tell_169 rfl 0 rfl ?_
        refine ww_aload_n C dL_tell_170 rfl 1 rfl ?_
        refine ww_ldcS C (i := 18) rfl dL_tell_171 ?_
        refine ww_aload_n C dL_tell_173 rfl 2 rfl ?_
        refine ww_getN (host := RL) C clOK9 in_L_tell_X9 (w := wOwn E a7 (rf4 q8 q10 q12 q14) v7) (fs := fsOwn a7 (rf4 q8 q10 q12 q14) v7) (v := .ref q10) 7 0 5 rfl q_Own (by decide) (by decide +kernel) g_Own_room dL_tell_174 ?_
        refine ww_iload_n C dL_tell_177 rfl 3 rfl ?_
        refine ww_aldR C (f := roF a11 v10) (w := wRO E q10 12 a11 v10) 10 0 rfl q_RO (inB_vp g_14) (roF_at (of_decide_eq_true g_15)) dL_tell_178 ?_
        refine ww_iconst (v := 0) C dL_tell_179 (by decide) ?_
        refine ww_iald C (f := v11.2.2 (Int32.toNatClampNeg x3)) (w := wRR E a11 v11) 11 (Int32.toNatClampNeg x3) rfl (q_RR (of_decide_eq_true g_16)) (inB_vp g_17) dL_tell_180 ?_
        obtain ⟨p181, hp181, hf⟩ := bdE hf
        refine ww_callS C (As := [.ref (a0 0), .ref q6, .ref (eK E 18), .int (v11.2.2 (Int32.toNatClampNeg x3) (Int32.toNatClampNeg 0))]) (st := []) (gr := [wHouse E a1 v1, wHouse E a2 v2, wHist E a3 (rf2 h3_0 h3_1) v3, wHRead E a5 (rf1 (a4 0)), wOwn E a7 (rf4 q8 q10 q12 q14) v7, wRO E q8 20 a9 v8, wRR E a9 v9, wRO E q10 12 a11 v10, wRR E a11 v11, wRO E q12 4 a13 v12, wRR E a13 v13, wArr E q14 4 v14]) (c_L_with (E := E) (a0 := a0) (h0_0 := a1 0) (h0_1 := a2 0) (h0_2 := a3 0) (h0_3 := h0_3) (h0_4 := h0_4) (h0_5 := h0_5) (h0_6 := h0_6) (h0_8 := a5 0) (h0_9 := h0_9) (a1 := a4) (q2 := q6) hp181) gL_tell_L_with rfl ysk_L_with ⟨by decide, Nat.le_of_ble_eq_true rfl⟩ ⟨by decide, by decide⟩ [0, 4, 6] [1, 2, 3, 5, 7, 8, 9, 10, 11, 12, 13, 14] 15 rfl (by decide) rfl rfl (Nat.le_of_ble_eq_true rfl) dL_tell_181 ?_
        rintro _ _ ⟨rfl, rfl⟩
        refine ww_perm (gs' := [wGW E a0 (rf10 (a1 0) (a2 0) (a3 0) h0_3 h0_4 h0_5 h0_6 (a4 0) (a5 0) h0_9) v0, wHouse E a1 v1, wHouse E a2 v2, wHist E a3 (rf2 h3_0 h3_1) v3, wToks E a4 p181.1, wHRead E a5 (rf1 (a4 0)), wArr E q6 6 p181.2, wOwn E a7 (rf4 q8 q10 q12 q14) v7, wRO E q8 20 a9 v8, wRR E a9 v9, wRO E q10 12 a11 v10, wRR E a11 v11, wRO E q12 4 a13 v12, wRR E a13 v13, wArr E q14 4 v14]) [0, 3, 4, 5, 1, 6, 2, 7, 8, 9, 10, 11, 12, 13, 14] 15 rfl (by decide) rfl ?_
        refine ww_aload_n C dL_tell_184 rfl 0 rfl ?_
        refine ww_aload_n C dL_tell_185 rfl 1 rfl ?_
        refine ww_bipush (v := 59) C dL_tell_186 (by decide) ?_
        obtain ⟨p188, hp188, hf⟩ := bdE hf
        refine ww_callS C (As := [.ref (a0 0), .ref q6, .int 59]) (st := []) (gr := [wHouse E a1 v1, wHouse E a2 v2, wHist E a3 (rf2 h3_0 h3_1) v3, wHRead E a5 (rf1 (a4 0)), wOwn E a7 (rf4 q8 q10 q12 q14) v7, wRO E q8 20 a9 v8, wRR E a9 v9, wRO E q10 12 a11 v10, wRR E a11 v11, wRO E q12 4 a13 v12, wRR E a13 v13, wArr E q14 4 v14]) (c_L_add (E := E) (a0 := a0) (h0_0 := a1 0) (h0_1 := a2 0) (h0_2 := a3 0) (h0_3 := h0_3) (h0_4 := h0_4) (h0_5 := h0_5) (h0_6 := h0_6) (h0_8 := a5 0) (h0_9 := h0_9) (a1 := a4) (q2 := q6) hp188) gL_tell_L_add rfl ysk_L_add ⟨by decide, Nat.le_of_ble_eq_true rfl⟩ ⟨by decide, by decide⟩ [0, 4, 6] [1, 2, 3, 5, 7, 8, 9, 10, 11, 12, 13, 14] 15 rfl (by decide) rfl rfl (Nat.le_of_ble_eq_true rfl) dL_tell_188 ?_
        rintro _ _ ⟨rfl, rfl⟩
        refine ww_perm (gs' := [wGW E a0 (rf10 (a1 0) (a2 0) (a3 0) h0_3 h0_4 h0_5 h0_6 (a4 0) (a5 0) h0_9) v0, wHouse E a1 v1, wHouse E a2 v2, wHist E a3 (rf2 h3_0 h3_1) v3, wToks E a4 p188.1, wHRead E a5 (rf1 (a4 0)), wArr E q6 6 p188.2, wOwn E a7 (rf4 q8 q10 q12 q14) v7, wRO E q8 20 a9 v8, wRR E a9 v9, wRO E q10 12 a11 v10, wRR E a11 v11, wRO E q12 4 a13 v12, wRR E a13 v13, wArr E q14 4 v14]) [0, 3, 4, 5, 1, 6, 2, 7, 8, 9, 10, 11, 12, 13, 14] 15 rfl (by decide) rfl ?_
        obtain ⟨x3_191, e_x3_191⟩ : ∃ y : Int32, y = x3 + 1 := ⟨_, rfl⟩
        replace hf := ltE e_x3_191 hf
        refine ww_iinc (v := x3_191) (lv' := [(3, .int x3_191), (0, .ref (a0 0)), (1, .ref q6), (2, .ref (a7 0))]) C dL_tell_191 3 rfl (by rw [e_x3_191]; rfl) (by decide) rfl ?_
        refine ww_goto (tgt := 137) C dL_tell_194 (by decide) ?_
        refine ww_sub C (lv' := [(0, .ref (a0 0)), (1, .ref q6), (2, .ref (a7 0)), (3, .int x3_191)]) [1, 2, 3, 0] rfl ?_
        exact ih _ _ _ _ _ _ _ hf
      · replace hf := ifT c_18 hf
        refine ww_goto (tgt := 191) C dL_tell_158 (by decide) ?_
        obtain ⟨x3_191, e_x3_191⟩ : ∃ y : Int32, y = x3 + 1 := ⟨_, rfl⟩
        replace hf := ltE e_x3_191 hf
        refine ww_iinc (v := x3_191) (lv' := [(3, .int x3_191), (0, .ref (a0 0)), (1, .ref q6), (2, .ref (a7 0))]) C dL_tell_191 3 rfl (by rw [e_x3_191]; rfl) (by decide) rfl ?_
        refine ww_goto (tgt := 137) C dL_tell_194 (by decide) ?_
        refine ww_sub C (lv' := [(0, .ref (a0 0)), (1, .ref q6), (2, .ref (a7 0)), (3, .int x3_191)]) [1, 2, 3, 0] rfl ?_
        exact ih _ _ _ _ _ _ _ hf

set_option maxHeartbeats 4000000 in
set_option maxRecDepth 100000 in
theorem w_L_tell_79 {E : Ex} {K : Kx} (C : Cx E K cL_tell 4 (some .int) RL wsL_tell rmL_tell) {a0 : Nat → Nat} {a1 : Nat → Nat} {a2 : Nat → Nat} {a3 : Nat → Nat} {a4 : Nat → Nat} {a5 : Nat → Nat} {q6 : Nat} {a7 : Nat → Nat} {q8 : Nat} {a9 : Nat → Nat} {q10 : Nat} {a11 : Nat → Nat} {q12 : Nat} {a13 : Nat → Nat} {q14 : Nat} {h0_3 h0_4 h0_5 h0_6 h0_9 h3_0 h3_1 : Nat} {v7 : OwnV} {v8 : Nat} {v9 : RowsT} {v10 : Nat} {v11 : RowsT} {v12 : Nat} {v13 : RowsT} {v14 : Nat → Int32}   {x3 : Int32} {s0 : Nat} {v0 : GWV} {v1 : HouseV} {v2 : HouseV} {v3 : HistV} {v4 : ToksV} {v6 : Nat → Int32} {k20 : Int32 → GWV → HouseV → HouseV → HistV → ToksV → (Nat → Int32) → Option (Int32 × GWV × HouseV × HouseV × HistV × ToksV × (Nat → Int32))} {r : (Int32 × GWV × HouseV × HouseV × HistV × ToksV × (Nat → Int32))} (hk20 : ∀  (x3 : Int32) (v0 : GWV) (v1 : HouseV) (v2 : HouseV) (v3 : HistV) (v4 : ToksV) (v6 : Nat → Int32), k20 x3 v0 v1 v2 v3 v4 v6 = some r → WW E K 0 0 (QQ E K (fun rv g => rv = some (.int r.1) ∧ g = [wGW E a0 (rf10 (a1 0) (a2 0) (a3 0) h0_3 h0_4 h0_5 h0_6 (a4 0) (a5 0) h0_9) r.2.1, wHouse E a1 r.2.2.1, wHouse E a2 r.2.2.2.1, wHist E a3 (rf2 h3_0 h3_1) r.2.2.2.2.1, wToks E a4 r.2.2.2.2.2.1, wHRead E a5 (rf1 (a4 0)), wArr E q6 6 r.2.2.2.2.2.2, wOwn E a7 (rf4 q8 q10 q12 q14) v7, wRO E q8 20 a9 v8, wRR E a9 v9, wRO E q10 12 a11 v10, wRR E a11 v11, wRO E q12 4 a13 v12, wRR E a13 v13, wArr E q14 4 v14]) 0 0) 20 [(0, .ref (a0 0)), (1, .ref q6), (2, .ref (a7 0)), (3, .int x3)] [] [wGW E a0 (rf10 (a1 0) (a2 0) (a3 0) h0_3 h0_4 h0_5 h0_6 (a4 0) (a5 0) h0_9) v0, wHouse E a1 v1, wHouse E a2 v2, wHist E a3 (rf2 h3_0 h3_1) v3, wToks E a4 v4, wHRead E a5 (rf1 (a4 0)), wArr E q6 6 v6, wOwn E a7 (rf4 q8 q10 q12 q14) v7, wRO E q8 20 a9 v8, wRR E a9 v9, wRO E q10 12 a11 v10, wRR E a11 v11, wRO E q12 4 a13 v12, wRR E a13 v13, wArr E q14 4 v14]) (hf : L_tell_79 v7 v8 v9 v10 v11 v12 v13 v14 k20 x3 s0 v0 v1 v2 v3 v4 v6 = some r) : WW E K 0 0 (QQ E K (fun rv g => rv = some (.int r.1) ∧ g = [wGW E a0 (rf10 (a1 0) (a2 0) (a3 0) h0_3 h0_4 h0_5 h0_6 (a4 0) (a5 0) h0_9) r.2.1, wHouse E a1 r.2.2.1, wHouse E a2 r.2.2.2.1, wHist E a3 (rf2 h3_0 h3_1) r.2.2.2.2.1, wToks E a4 r.2.2.2.2.2.1, wHRead E a5 (rf1 (a4 0)), wArr E q6 6 r.2.2.2.2.2.2, wOwn E a7 (rf4 q8 q10 q12 q14) v7, wRO E q8 20 a9 v8, wRR E a9 v9, wRO E q10 12 a11 v10, wRR E a11 v11, wRO E q12 4 a13 v12, wRR E a13 v13, wArr E q14 4 v14]) 0 0) 79 [(0, .ref (a0 0)), (1, .ref q6), (2, .ref (a7 0)), (3, .int x3)] [.ref (eK E s0), .ref q6, .ref (a0 0)] [wGW E a0 (rf10 (a1 0) (a2 0) (a3 0) h0_3 h0_4 h0_5 h0_6 (a4 0) (a5 0) h0_9) v0, wHouse E a1 v1, wHouse E a2 v2, wHist E a3 (rf2 h3_0 h3_1) v3, wToks E a4 v4, wHRead E a5 (rf1 (a4 0)), wArr E q6 6 v6, wOwn E a7 (rf4 q8 q10 q12 q14) v7, wRO E q8 20 a9 v8, wRR E a9 v9, wRO E q10 12 a11 v10, wRR E a11 v11, wRO E q12 4 a13 v12, wRR E a13 v13, wArr E q14 4 v14] := by
  rw [L_tell_79] at hf
  obtain ⟨p79, hp79, hf⟩ := bdE hf
  refine ww_callS C (As := [.ref (a0 0), .ref q6, .ref (eK E s0)]) (st := []) (gr := [wHouse E a1 v1, wHouse E a2 v2, wHist E a3 (rf2 h3_0 h3_1) v3, wHRead E a5 (rf1 (a4 0)), wOwn E a7 (rf4 q8 q10 q12 q14) v7, wRO E q8 20 a9 v8, wRR E a9 v9, wRO E q10 12 a11 v10, wRR E a11 v11, wRO E q12 4 a13 v12, wRR E a13 v13, wArr E q14 4 v14]) (c_L_word (E := E) (a0 := a0) (h0_0 := a1 0) (h0_1 := a2 0) (h0_2 := a3 0) (h0_3 := h0_3) (h0_4 := h0_4) (h0_5 := h0_5) (h0_6 := h0_6) (h0_8 := a5 0) (h0_9 := h0_9) (a1 := a4) (q2 := q6) hp79) gL_tell_L_word rfl ysk_L_word ⟨by decide, Nat.le_of_ble_eq_true rfl⟩ ⟨by decide, by decide⟩ [0, 4, 6] [1, 2, 3, 5, 7, 8, 9, 10, 11, 12, 13, 14] 15 rfl (by decide) rfl rfl (Nat.le_of_ble_eq_true rfl) dL_tell_79 ?_
  rintro _ _ ⟨rfl, rfl⟩
  refine ww_perm (gs' := [wGW E a0 (rf10 (a1 0) (a2 0) (a3 0) h0_3 h0_4 h0_5 h0_6 (a4 0) (a5 0) h0_9) v0, wHouse E a1 v1, wHouse E a2 v2, wHist E a3 (rf2 h3_0 h3_1) v3, wToks E a4 p79.1, wHRead E a5 (rf1 (a4 0)), wArr E q6 6 p79.2, wOwn E a7 (rf4 q8 q10 q12 q14) v7, wRO E q8 20 a9 v8, wRR E a9 v9, wRO E q10 12 a11 v10, wRR E a11 v11, wRO E q12 4 a13 v12, wRR E a13 v13, wArr E q14 4 v14]) [0, 3, 4, 5, 1, 6, 2, 7, 8, 9, 10, 11, 12, 13, 14] 15 rfl (by decide) rfl ?_
  obtain ⟨x3_82, e_x3_82⟩ : ∃ y : Int32, y = x3 + 1 := ⟨_, rfl⟩
  replace hf := ltE e_x3_82 hf
  refine ww_iinc (v := x3_82) (lv' := [(3, .int x3_82), (0, .ref (a0 0)), (1, .ref q6), (2, .ref (a7 0))]) C dL_tell_82 3 rfl (by rw [e_x3_82]; rfl) (by decide) rfl ?_
  refine ww_goto (tgt := 20) C dL_tell_85 (by decide) ?_
  refine ww_sub C (lv' := [(0, .ref (a0 0)), (1, .ref q6), (2, .ref (a7 0)), (3, .int x3_82)]) [1, 2, 3, 0] rfl ?_
  exact hk20 _ _ _ _ _ _ _ hf

set_option maxHeartbeats 4000000 in
set_option maxRecDepth 100000 in
theorem w_L_tell_90 {E : Ex} {K : Kx} (C : Cx E K cL_tell 4 (some .int) RL wsL_tell rmL_tell) {a0 : Nat → Nat} {a1 : Nat → Nat} {a2 : Nat → Nat} {a3 : Nat → Nat} {a4 : Nat → Nat} {a5 : Nat → Nat} {q6 : Nat} {a7 : Nat → Nat} {q8 : Nat} {a9 : Nat → Nat} {q10 : Nat} {a11 : Nat → Nat} {q12 : Nat} {a13 : Nat → Nat} {q14 : Nat} {h0_3 h0_4 h0_5 h0_6 h0_9 h3_0 h3_1 : Nat} {v7 : OwnV} {v8 : Nat} {v9 : RowsT} {v10 : Nat} {v11 : RowsT} {v12 : Nat} {v13 : RowsT} {v14 : Nat → Int32}  {r : (Int32 × GWV × HouseV × HouseV × HistV × ToksV × (Nat → Int32))} : ∀ (n : Nat)  (x3 : Int32) (v0 : GWV) (v1 : HouseV) (v2 : HouseV) (v3 : HistV) (v4 : ToksV) (v6 : Nat → Int32), L_tell_90 v7 v8 v9 v10 v11 v12 v13 v14 n x3 v0 v1 v2 v3 v4 v6 = some r → WW E K 0 0 (QQ E K (fun rv g => rv = some (.int r.1) ∧ g = [wGW E a0 (rf10 (a1 0) (a2 0) (a3 0) h0_3 h0_4 h0_5 h0_6 (a4 0) (a5 0) h0_9) r.2.1, wHouse E a1 r.2.2.1, wHouse E a2 r.2.2.2.1, wHist E a3 (rf2 h3_0 h3_1) r.2.2.2.2.1, wToks E a4 r.2.2.2.2.2.1, wHRead E a5 (rf1 (a4 0)), wArr E q6 6 r.2.2.2.2.2.2, wOwn E a7 (rf4 q8 q10 q12 q14) v7, wRO E q8 20 a9 v8, wRR E a9 v9, wRO E q10 12 a11 v10, wRR E a11 v11, wRO E q12 4 a13 v12, wRR E a13 v13, wArr E q14 4 v14]) 0 0) 90 [(0, .ref (a0 0)), (1, .ref q6), (2, .ref (a7 0)), (3, .int x3)] [] [wGW E a0 (rf10 (a1 0) (a2 0) (a3 0) h0_3 h0_4 h0_5 h0_6 (a4 0) (a5 0) h0_9) v0, wHouse E a1 v1, wHouse E a2 v2, wHist E a3 (rf2 h3_0 h3_1) v3, wToks E a4 v4, wHRead E a5 (rf1 (a4 0)), wArr E q6 6 v6, wOwn E a7 (rf4 q8 q10 q12 q14) v7, wRO E q8 20 a9 v8, wRR E a9 v9, wRO E q10 12 a11 v10, wRR E a11 v11, wRO E q12 4 a13 v12, wRR E a13 v13, wArr E q14 4 v14] := by
  intro n
  induction n with
  | zero =>
    intro  x3 v0 v1 v2 v3 v4 v6 hf
    simp [L_tell_90] at hf
  | succ n ih =>
    intro  x3 v0 v1 v2 v3 v4 v6 hf
    rw [L_tell_90] at hf
    refine ww_iload_n C dL_tell_90 rfl 3 rfl ?_
    refine ww_aload_n C dL_tell_91 rfl 2 rfl ?_
    refine ww_getN (host := RL) C clOK9 in_L_tell_X9 (w := wOwn E a7 (rf4 q8 q10 q12 q14) v7) (fs := fsOwn a7 (rf4 q8 q10 q12 q14) v7) (v := .int (Own_guards v7)) 7 0 2 rfl q_Own (by decide) (by decide +kernel) g_Own_guards dL_tell_92 ?_
    refine ww_icmp_ge (tgt := 135) C dL_tell_95 (by decide) (fun c_9 => ?_) (fun c_9 => ?_)
    · replace hf := ifT c_9 hf
      refine ww_iconst (v := 0) C dL_tell_135 (by decide) ?_
      refine ww_istore_n (lv' := [(3, .int 0), (0, .ref (a0 0)), (1, .ref q6), (2, .ref (a7 0))]) C dL_tell_136 rfl (by decide) rfl ?_
      refine ww_sub C (lv' := [(0, .ref (a0 0)), (1, .ref q6), (2, .ref (a7 0)), (3, .int 0)]) [1, 2, 3, 0] rfl ?_
      exact w_L_tell_137 C FU _ _ _ _ _ _ _ hf
    · replace hf := ifF c_9 hf
      refine ww_aload_n C dL_tell_98 rfl 0 rfl ?_
      refine ww_aload_n C dL_tell_99 rfl 1 rfl ?_
      refine ww_ldcS C (i := 21) rfl dL_tell_100 ?_
      obtain ⟨p102, hp102, hf⟩ := bdE hf
      refine ww_callS C (As := [.ref (a0 0), .ref q6, .ref (eK E 21)]) (st := []) (gr := [wHouse E a1 v1, wHouse E a2 v2, wHist E a3 (rf2 h3_0 h3_1) v3, wHRead E a5 (rf1 (a4 0)), wOwn E a7 (rf4 q8 q10 q12 q14) v7, wRO E q8 20 a9 v8, wRR E a9 v9, wRO E q10 12 a11 v10, wRR E a11 v11, wRO E q12 4 a13 v12, wRR E a13 v13, wArr E q14 4 v14]) (c_L_word (E := E) (a0 := a0) (h0_0 := a1 0) (h0_1 := a2 0) (h0_2 := a3 0) (h0_3 := h0_3) (h0_4 := h0_4) (h0_5 := h0_5) (h0_6 := h0_6) (h0_8 := a5 0) (h0_9 := h0_9) (a1 := a4) (q2 := q6) hp102) gL_tell_L_word rfl ysk_L_word ⟨by decide, Nat.le_of_ble_eq_true rfl⟩ ⟨by decide, by decide⟩ [0, 4, 6] [1, 2, 3, 5, 7, 8, 9, 10, 11, 12, 13, 14] 15 rfl (by decide) rfl rfl (Nat.le_of_ble_eq_true rfl) dL_tell_102 ?_
      rintro _ _ ⟨rfl, rfl⟩
      refine ww_perm (gs' := [wGW E a0 (rf10 (a1 0) (a2 0) (a3 0) h0_3 h0_4 h0_5 h0_6 (a4 0) (a5 0) h0_9) v0, wHouse E a1 v1, wHouse E a2 v2, wHist E a3 (rf2 h3_0 h3_1) v3, wToks E a4 p102.1, wHRead E a5 (rf1 (a4 0)), wArr E q6 6 p102.2, wOwn E a7 (rf4 q8 q10 q12 q14) v7, wRO E q8 20 a9 v8, wRR E a9 v9, wRO E q10 12 a11 v10, wRR E a11 v11, wRO E q12 4 a13 v12, wRR E a13 v13, wArr E q14 4 v14]) [0, 3, 4, 5, 1, 6, 2, 7, 8, 9, 10, 11, 12, 13, 14] 15 rfl (by decide) rfl ?_
      refine ww_aload_n C dL_tell_105 rfl 0 rfl ?_
      refine ww_aload_n C dL_tell_106 rfl 1 rfl ?_
      refine ww_aload_n C dL_tell_107 rfl 2 rfl ?_
      refine ww_getN (host := RL) C clOK9 in_L_tell_X9 (w := wOwn E a7 (rf4 q8 q10 q12 q14) v7) (fs := fsOwn a7 (rf4 q8 q10 q12 q14) v7) (v := .ref q12) 7 0 6 rfl q_Own (by decide) (by decide +kernel) g_Own_walk dL_tell_108 ?_
      refine ww_iload_n C dL_tell_111 rfl 3 rfl ?_
      obtain ⟨g_10, hf⟩ := gdE hf
      obtain ⟨g_11, hf⟩ := gdE hf
      refine ww_aldR C (f := roF a13 v12) (w := wRO E q12 4 a13 v12) 12 0 rfl q_RO (inB_vp g_10) (roF_at (of_decide_eq_true g_11)) dL_tell_112 ?_
      refine ww_aload_n C dL_tell_113 rfl 2 rfl ?_
      refine ww_getN (host := RL) C clOK9 in_L_tell_X9 (w := wOwn E a7 (rf4 q8 q10 q12 q14) v7) (fs := fsOwn a7 (rf4 q8 q10 q12 q14) v7) (v := .ref q14) 7 0 7 rfl q_Own (by decide) (by decide +kernel) g_Own_phase dL_tell_114 ?_
      refine ww_iload_n C dL_tell_117 rfl 3 rfl ?_
      refine ww_iald C (f := v14) (w := wArr E q14 4 v14) 14 0 rfl q_Arr (inB_vp g_10) dL_tell_118 ?_
      obtain ⟨g_12, hf⟩ := gdE hf
      obtain ⟨p119, hp119, hf⟩ := bdE hf
      refine ww_regr (gs' := [wGW E a0 (rf10 (a1 0) (a2 0) (a3 0) h0_3 h0_4 h0_5 h0_6 (a4 0) (a5 0) h0_9) v0, wHouse E a1 v1, wHouse E a2 v2, wHist E a3 (rf2 h3_0 h3_1) v3, wToks E a4 p102.1, wHRead E a5 (rf1 (a4 0)), wArr E q6 6 p102.2, wOwn E a7 (rf4 q8 q10 q12 q14) v7, wRO E q8 20 a9 v8, wRR E a9 v9, wRO E q10 12 a11 v10, wRR E a11 v11, wRO E q12 4 a13 v12, wRRa E a13 v13 (Int32.toNatClampNeg x3), wArr E (a13 (Int32.toNatClampNeg x3)) (v13.2.1 (Int32.toNatClampNeg x3)) (v13.2.2 (Int32.toNatClampNeg x3)), wRRb E a13 v13 (Int32.toNatClampNeg x3), wArr E q14 4 v14]) (by rw [rr_cut (of_decide_eq_true g_12)]; simp only [List.flatten_cons, List.flatten_nil, List.append_assoc]) ?_
      refine ww_callS C (As := [.ref (a0 0), .ref q6, .ref (a13 (Int32.toNatClampNeg x3)), .int (v14 (Int32.toNatClampNeg x3))]) (st := []) (gr := [wHouse E a1 v1, wHouse E a2 v2, wHist E a3 (rf2 h3_0 h3_1) v3, wHRead E a5 (rf1 (a4 0)), wOwn E a7 (rf4 q8 q10 q12 q14) v7, wRO E q8 20 a9 v8, wRR E a9 v9, wRO E q10 12 a11 v10, wRR E a11 v11, wRO E q12 4 a13 v12, wRRa E a13 v13 (Int32.toNatClampNeg x3), wRRb E a13 v13 (Int32.toNatClampNeg x3), wArr E q14 4 v14]) (c_L_walkOf (E := E) (a0 := a0) (h0_0 := a1 0) (h0_1 := a2 0) (h0_2 := a3 0) (h0_3 := h0_3) (h0_4 := h0_4) (h0_5 := h0_5) (h0_6 := h0_6) (h0_8 := a5 0) (h0_9 := h0_9) (a1 := a4) (q2 := q6) (q3 := a13 (Int32.toNatClampNeg x3)) (n3 := (v13.2.1 (Int32.toNatClampNeg x3))) hp119) gL_tell_L_walkOf rfl ysk_L_walkOf ⟨by decide, Nat.le_of_ble_eq_true rfl⟩ ⟨by decide, by decide⟩ [0, 4, 6, 14] [1, 2, 3, 5, 7, 8, 9, 10, 11, 12, 13, 15, 16] 17 rfl (by decide) rfl rfl (Nat.le_of_ble_eq_true rfl) dL_tell_119 ?_
      rintro _ _ ⟨rfl, rfl⟩
      refine ww_perm (gs' := [wGW E a0 (rf10 (a1 0) (a2 0) (a3 0) h0_3 h0_4 h0_5 h0_6 (a4 0) (a5 0) h0_9) v0, wHouse E a1 v1, wHouse E a2 v2, wHist E a3 (rf2 h3_0 h3_1) v3, wToks E a4 p119.1, wHRead E a5 (rf1 (a4 0)), wArr E q6 6 p119.2, wOwn E a7 (rf4 q8 q10 q12 q14) v7, wRO E q8 20 a9 v8, wRR E a9 v9, wRO E q10 12 a11 v10, wRR E a11 v11, wRO E q12 4 a13 v12, wRRa E a13 v13 (Int32.toNatClampNeg x3), wArr E (a13 (Int32.toNatClampNeg x3)) (v13.2.1 (Int32.toNatClampNeg x3)) (v13.2.2 (Int32.toNatClampNeg x3)), wRRb E a13 v13 (Int32.toNatClampNeg x3), wArr E q14 4 v14]) [0, 4, 5, 6, 1, 7, 2, 8, 9, 10, 11, 12, 13, 14, 3, 15, 16] 17 rfl (by decide) rfl ?_
      refine ww_regr (gs' := [wGW E a0 (rf10 (a1 0) (a2 0) (a3 0) h0_3 h0_4 h0_5 h0_6 (a4 0) (a5 0) h0_9) v0, wHouse E a1 v1, wHouse E a2 v2, wHist E a3 (rf2 h3_0 h3_1) v3, wToks E a4 p119.1, wHRead E a5 (rf1 (a4 0)), wArr E q6 6 p119.2, wOwn E a7 (rf4 q8 q10 q12 q14) v7, wRO E q8 20 a9 v8, wRR E a9 v9, wRO E q10 12 a11 v10, wRR E a11 v11, wRO E q12 4 a13 v12, wRR E a13 v13, wArr E q14 4 v14]) (by rw [rr_cut (of_decide_eq_true g_12)]; simp only [List.flatten_cons, List.flatten_nil, List.append_assoc]) ?_
      refine ww_aload_n C dL_tell_122 rfl 0 rfl ?_
      refine ww_aload_n C dL_tell_123 rfl 1 rfl ?_
      refine ww_bipush (v := 59) C dL_tell_124 (by decide) ?_
      obtain ⟨p126, hp126, hf⟩ := bdE hf
      refine ww_callS C (As := [.ref (a0 0), .ref q6, .int 59]) (st := []) (gr := [wHouse E a1 v1, wHouse E a2 v2, wHist E a3 (rf2 h3_0 h3_1) v3, wHRead E a5 (rf1 (a4 0)), wOwn E a7 (rf4 q8 q10 q12 q14) v7, wRO E q8 20 a9 v8, wRR E a9 v9, wRO E q10 12 a11 v10, wRR E a11 v11, wRO E q12 4 a13 v12, wRR E a13 v13, wArr E q14 4 v14]) (c_L_add (E := E) (a0 := a0) (h0_0 := a1 0) (h0_1 := a2 0) (h0_2 := a3 0) (h0_3 := h0_3) (h0_4 := h0_4) (h0_5 := h0_5) (h0_6 := h0_6) (h0_8 := a5 0) (h0_9 := h0_9) (a1 := a4) (q2 := q6) hp126) gL_tell_L_add rfl ysk_L_add ⟨by decide, Nat.le_of_ble_eq_true rfl⟩ ⟨by decide, by decide⟩ [0, 4, 6] [1, 2, 3, 5, 7, 8, 9, 10, 11, 12, 13, 14] 15 rfl (by decide) rfl rfl (Nat.le_of_ble_eq_true rfl) dL_tell_126 ?_
      rintro _ _ ⟨rfl, rfl⟩
      refine ww_perm (gs' := [wGW E a0 (rf10 (a1 0) (a2 0) (a3 0) h0_3 h0_4 h0_5 h0_6 (a4 0) (a5 0) h0_9) v0, wHouse E a1 v1, wHouse E a2 v2, wHist E a3 (rf2 h3_0 h3_1) v3, wToks E a4 p126.1, wHRead E a5 (rf1 (a4 0)), wArr E q6 6 p126.2, wOwn E a7 (rf4 q8 q10 q12 q14) v7, wRO E q8 20 a9 v8, wRR E a9 v9, wRO E q10 12 a11 v10, wRR E a11 v11, wRO E q12 4 a13 v12, wRR E a13 v13, wArr E q14 4 v14]) [0, 3, 4, 5, 1, 6, 2, 7, 8, 9, 10, 11, 12, 13, 14] 15 rfl (by decide) rfl ?_
      obtain ⟨x3_129, e_x3_129⟩ : ∃ y : Int32, y = x3 + 1 := ⟨_, rfl⟩
      replace hf := ltE e_x3_129 hf
      refine ww_iinc (v := x3_129) (lv' := [(3, .int x3_129), (0, .ref (a0 0)), (1, .ref q6), (2, .ref (a7 0))]) C dL_tell_129 3 rfl (by rw [e_x3_129]; rfl) (by decide) rfl ?_
      refine ww_goto (tgt := 90) C dL_tell_132 (by decide) ?_
      refine ww_sub C (lv' := [(0, .ref (a0 0)), (1, .ref q6), (2, .ref (a7 0)), (3, .int x3_129)]) [1, 2, 3, 0] rfl ?_
      exact ih _ _ _ _ _ _ _ hf

set_option maxHeartbeats 4000000 in
set_option maxRecDepth 100000 in
theorem w_L_tell_20 {E : Ex} {K : Kx} (C : Cx E K cL_tell 4 (some .int) RL wsL_tell rmL_tell) {a0 : Nat → Nat} {a1 : Nat → Nat} {a2 : Nat → Nat} {a3 : Nat → Nat} {a4 : Nat → Nat} {a5 : Nat → Nat} {q6 : Nat} {a7 : Nat → Nat} {q8 : Nat} {a9 : Nat → Nat} {q10 : Nat} {a11 : Nat → Nat} {q12 : Nat} {a13 : Nat → Nat} {q14 : Nat} {h0_3 h0_4 h0_5 h0_6 h0_9 h3_0 h3_1 : Nat} {v7 : OwnV} {v8 : Nat} {v9 : RowsT} {v10 : Nat} {v11 : RowsT} {v12 : Nat} {v13 : RowsT} {v14 : Nat → Int32}  {r : (Int32 × GWV × HouseV × HouseV × HistV × ToksV × (Nat → Int32))} : ∀ (n : Nat)  (x3 : Int32) (v0 : GWV) (v1 : HouseV) (v2 : HouseV) (v3 : HistV) (v4 : ToksV) (v6 : Nat → Int32), L_tell_20 v7 v8 v9 v10 v11 v12 v13 v14 n x3 v0 v1 v2 v3 v4 v6 = some r → WW E K 0 0 (QQ E K (fun rv g => rv = some (.int r.1) ∧ g = [wGW E a0 (rf10 (a1 0) (a2 0) (a3 0) h0_3 h0_4 h0_5 h0_6 (a4 0) (a5 0) h0_9) r.2.1, wHouse E a1 r.2.2.1, wHouse E a2 r.2.2.2.1, wHist E a3 (rf2 h3_0 h3_1) r.2.2.2.2.1, wToks E a4 r.2.2.2.2.2.1, wHRead E a5 (rf1 (a4 0)), wArr E q6 6 r.2.2.2.2.2.2, wOwn E a7 (rf4 q8 q10 q12 q14) v7, wRO E q8 20 a9 v8, wRR E a9 v9, wRO E q10 12 a11 v10, wRR E a11 v11, wRO E q12 4 a13 v12, wRR E a13 v13, wArr E q14 4 v14]) 0 0) 20 [(0, .ref (a0 0)), (1, .ref q6), (2, .ref (a7 0)), (3, .int x3)] [] [wGW E a0 (rf10 (a1 0) (a2 0) (a3 0) h0_3 h0_4 h0_5 h0_6 (a4 0) (a5 0) h0_9) v0, wHouse E a1 v1, wHouse E a2 v2, wHist E a3 (rf2 h3_0 h3_1) v3, wToks E a4 v4, wHRead E a5 (rf1 (a4 0)), wArr E q6 6 v6, wOwn E a7 (rf4 q8 q10 q12 q14) v7, wRO E q8 20 a9 v8, wRR E a9 v9, wRO E q10 12 a11 v10, wRR E a11 v11, wRO E q12 4 a13 v12, wRR E a13 v13, wArr E q14 4 v14] := by
  intro n
  induction n with
  | zero =>
    intro  x3 v0 v1 v2 v3 v4 v6 hf
    simp [L_tell_20] at hf
  | succ n ih =>
    intro  x3 v0 v1 v2 v3 v4 v6 hf
    rw [L_tell_20] at hf
    refine ww_iload_n C dL_tell_20 rfl 3 rfl ?_
    refine ww_aload_n C dL_tell_21 rfl 2 rfl ?_
    refine ww_getN (host := RL) C clOK9 in_L_tell_X9 (w := wOwn E a7 (rf4 q8 q10 q12 q14) v7) (fs := fsOwn a7 (rf4 q8 q10 q12 q14) v7) (v := .int (Own_doors v7)) 7 0 1 rfl q_Own (by decide) (by decide +kernel) g_Own_doors dL_tell_22 ?_
    refine ww_icmp_ge (tgt := 88) C dL_tell_25 (by decide) (fun c_1 => ?_) (fun c_1 => ?_)
    · replace hf := ifT c_1 hf
      refine ww_iconst (v := 0) C dL_tell_88 (by decide) ?_
      refine ww_istore_n (lv' := [(3, .int 0), (0, .ref (a0 0)), (1, .ref q6), (2, .ref (a7 0))]) C dL_tell_89 rfl (by decide) rfl ?_
      refine ww_sub C (lv' := [(0, .ref (a0 0)), (1, .ref q6), (2, .ref (a7 0)), (3, .int 0)]) [1, 2, 3, 0] rfl ?_
      exact w_L_tell_90 C FU _ _ _ _ _ _ _ hf
    · replace hf := ifF c_1 hf
      refine ww_aload_n C dL_tell_28 rfl 0 rfl ?_
      refine ww_aload_n C dL_tell_29 rfl 1 rfl ?_
      refine ww_ldcS C (i := 17) rfl dL_tell_30 ?_
      refine ww_aload_n C dL_tell_32 rfl 2 rfl ?_
      refine ww_getN (host := RL) C clOK9 in_L_tell_X9 (w := wOwn E a7 (rf4 q8 q10 q12 q14) v7) (fs := fsOwn a7 (rf4 q8 q10 q12 q14) v7) (v := .ref q8) 7 0 4 rfl q_Own (by decide) (by decide +kernel) g_Own_door dL_tell_33 ?_
      refine ww_iload_n C dL_tell_36 rfl 3 rfl ?_
      obtain ⟨g_2, hf⟩ := gdE hf
      obtain ⟨g_3, hf⟩ := gdE hf
      refine ww_aldR C (f := roF a9 v8) (w := wRO E q8 20 a9 v8) 8 0 rfl q_RO (inB_vp g_2) (roF_at (of_decide_eq_true g_3)) dL_tell_37 ?_
      refine ww_iconst (v := 0) C dL_tell_38 (by decide) ?_
      obtain ⟨g_4, hf⟩ := gdE hf
      obtain ⟨g_5, hf⟩ := gdE hf
      refine ww_iald C (f := v9.2.2 (Int32.toNatClampNeg x3)) (w := wRR E a9 v9) 9 (Int32.toNatClampNeg x3) rfl (q_RR (of_decide_eq_true g_4)) (inB_vp g_5) dL_tell_39 ?_
      obtain ⟨p40, hp40, hf⟩ := bdE hf
      refine ww_callS C (As := [.ref (a0 0), .ref q6, .ref (eK E 17), .int (v9.2.2 (Int32.toNatClampNeg x3) (Int32.toNatClampNeg 0))]) (st := []) (gr := [wHouse E a1 v1, wHouse E a2 v2, wHist E a3 (rf2 h3_0 h3_1) v3, wHRead E a5 (rf1 (a4 0)), wOwn E a7 (rf4 q8 q10 q12 q14) v7, wRO E q8 20 a9 v8, wRR E a9 v9, wRO E q10 12 a11 v10, wRR E a11 v11, wRO E q12 4 a13 v12, wRR E a13 v13, wArr E q14 4 v14]) (c_L_with (E := E) (a0 := a0) (h0_0 := a1 0) (h0_1 := a2 0) (h0_2 := a3 0) (h0_3 := h0_3) (h0_4 := h0_4) (h0_5 := h0_5) (h0_6 := h0_6) (h0_8 := a5 0) (h0_9 := h0_9) (a1 := a4) (q2 := q6) hp40) gL_tell_L_with rfl ysk_L_with ⟨by decide, Nat.le_of_ble_eq_true rfl⟩ ⟨by decide, by decide⟩ [0, 4, 6] [1, 2, 3, 5, 7, 8, 9, 10, 11, 12, 13, 14] 15 rfl (by decide) rfl rfl (Nat.le_of_ble_eq_true rfl) dL_tell_40 ?_
      rintro _ _ ⟨rfl, rfl⟩
      refine ww_perm (gs' := [wGW E a0 (rf10 (a1 0) (a2 0) (a3 0) h0_3 h0_4 h0_5 h0_6 (a4 0) (a5 0) h0_9) v0, wHouse E a1 v1, wHouse E a2 v2, wHist E a3 (rf2 h3_0 h3_1) v3, wToks E a4 p40.1, wHRead E a5 (rf1 (a4 0)), wArr E q6 6 p40.2, wOwn E a7 (rf4 q8 q10 q12 q14) v7, wRO E q8 20 a9 v8, wRR E a9 v9, wRO E q10 12 a11 v10, wRR E a11 v11, wRO E q12 4 a13 v12, wRR E a13 v13, wArr E q14 4 v14]) [0, 3, 4, 5, 1, 6, 2, 7, 8, 9, 10, 11, 12, 13, 14] 15 rfl (by decide) rfl ?_
      refine ww_aload_n C dL_tell_43 rfl 0 rfl ?_
      refine ww_aload_n C dL_tell_44 rfl 1 rfl ?_
      refine ww_ldcS C (i := 18) rfl dL_tell_45 ?_
      refine ww_aload_n C dL_tell_47 rfl 2 rfl ?_
      refine ww_getN (host := RL) C clOK9 in_L_tell_X9 (w := wOwn E a7 (rf4 q8 q10 q12 q14) v7) (fs := fsOwn a7 (rf4 q8 q10 q12 q14) v7) (v := .ref q8) 7 0 4 rfl q_Own (by decide) (by decide +kernel) g_Own_door dL_tell_48 ?_
      refine ww_iload_n C dL_tell_51 rfl 3 rfl ?_
      refine ww_aldR C (f := roF a9 v8) (w := wRO E q8 20 a9 v8) 8 0 rfl q_RO (inB_vp g_2) (roF_at (of_decide_eq_true g_3)) dL_tell_52 ?_
      refine ww_iconst (v := 1) C dL_tell_53 (by decide) ?_
      obtain ⟨g_6, hf⟩ := gdE hf
      refine ww_iald C (f := v9.2.2 (Int32.toNatClampNeg x3)) (w := wRR E a9 v9) 9 (Int32.toNatClampNeg x3) rfl (q_RR (of_decide_eq_true g_4)) (inB_vp g_6) dL_tell_54 ?_
      obtain ⟨p55, hp55, hf⟩ := bdE hf
      refine ww_callS C (As := [.ref (a0 0), .ref q6, .ref (eK E 18), .int (v9.2.2 (Int32.toNatClampNeg x3) (Int32.toNatClampNeg 1))]) (st := []) (gr := [wHouse E a1 v1, wHouse E a2 v2, wHist E a3 (rf2 h3_0 h3_1) v3, wHRead E a5 (rf1 (a4 0)), wOwn E a7 (rf4 q8 q10 q12 q14) v7, wRO E q8 20 a9 v8, wRR E a9 v9, wRO E q10 12 a11 v10, wRR E a11 v11, wRO E q12 4 a13 v12, wRR E a13 v13, wArr E q14 4 v14]) (c_L_with (E := E) (a0 := a0) (h0_0 := a1 0) (h0_1 := a2 0) (h0_2 := a3 0) (h0_3 := h0_3) (h0_4 := h0_4) (h0_5 := h0_5) (h0_6 := h0_6) (h0_8 := a5 0) (h0_9 := h0_9) (a1 := a4) (q2 := q6) hp55) gL_tell_L_with rfl ysk_L_with ⟨by decide, Nat.le_of_ble_eq_true rfl⟩ ⟨by decide, by decide⟩ [0, 4, 6] [1, 2, 3, 5, 7, 8, 9, 10, 11, 12, 13, 14] 15 rfl (by decide) rfl rfl (Nat.le_of_ble_eq_true rfl) dL_tell_55 ?_
      rintro _ _ ⟨rfl, rfl⟩
      refine ww_perm (gs' := [wGW E a0 (rf10 (a1 0) (a2 0) (a3 0) h0_3 h0_4 h0_5 h0_6 (a4 0) (a5 0) h0_9) v0, wHouse E a1 v1, wHouse E a2 v2, wHist E a3 (rf2 h3_0 h3_1) v3, wToks E a4 p55.1, wHRead E a5 (rf1 (a4 0)), wArr E q6 6 p55.2, wOwn E a7 (rf4 q8 q10 q12 q14) v7, wRO E q8 20 a9 v8, wRR E a9 v9, wRO E q10 12 a11 v10, wRR E a11 v11, wRO E q12 4 a13 v12, wRR E a13 v13, wArr E q14 4 v14]) [0, 3, 4, 5, 1, 6, 2, 7, 8, 9, 10, 11, 12, 13, 14] 15 rfl (by decide) rfl ?_
      refine ww_aload_n C dL_tell_58 rfl 0 rfl ?_
      refine ww_aload_n C dL_tell_59 rfl 1 rfl ?_
      refine ww_aload_n C dL_tell_60 rfl 2 rfl ?_
      refine ww_getN (host := RL) C clOK9 in_L_tell_X9 (w := wOwn E a7 (rf4 q8 q10 q12 q14) v7) (fs := fsOwn a7 (rf4 q8 q10 q12 q14) v7) (v := .ref q8) 7 0 4 rfl q_Own (by decide) (by decide +kernel) g_Own_door dL_tell_61 ?_
      refine ww_iload_n C dL_tell_64 rfl 3 rfl ?_
      refine ww_aldR C (f := roF a9 v8) (w := wRO E q8 20 a9 v8) 8 0 rfl q_RO (inB_vp g_2) (roF_at (of_decide_eq_true g_3)) dL_tell_65 ?_
      refine ww_iconst (v := 2) C dL_tell_66 (by decide) ?_
      obtain ⟨g_7, hf⟩ := gdE hf
      refine ww_iald C (f := v9.2.2 (Int32.toNatClampNeg x3)) (w := wRR E a9 v9) 9 (Int32.toNatClampNeg x3) rfl (q_RR (of_decide_eq_true g_4)) (inB_vp g_7) dL_tell_67 ?_
      refine ww_iconst (v := 1) C dL_tell_68 (by decide) ?_
      refine ww_icmp_ne (tgt := 77) C dL_tell_69 (by decide) (fun c_8 => ?_) (fun c_8 => ?_)
      · replace hf := ifF c_8 hf
        refine ww_ldcS C (i := 20) rfl dL_tell_77 ?_
        refine ww_sub C (lv' := [(0, .ref (a0 0)), (1, .ref q6), (2, .ref (a7 0)), (3, .int x3)]) [0, 1, 2, 3] rfl ?_
        exact w_L_tell_79 C (k20 := (fun (x3 : Int32) (v0 : GWV) (v1 : HouseV) (v2 : HouseV) (v3 : HistV) (v4 : ToksV) (v6 : Nat → Int32) => L_tell_20 v7 v8 v9 v10 v11 v12 v13 v14 n x3 v0 v1 v2 v3 v4 v6)) ih hf
      · replace hf := ifT c_8 hf
        refine ww_ldcS C (i := 19) rfl dL_tell_72 ?_
        refine ww_goto (tgt := 79) C dL_tell_74 (by decide) ?_
        refine ww_sub C (lv' := [(0, .ref (a0 0)), (1, .ref q6), (2, .ref (a7 0)), (3, .int x3)]) [0, 1, 2, 3] rfl ?_
        exact w_L_tell_79 C (k20 := (fun (x3 : Int32) (v0 : GWV) (v1 : HouseV) (v2 : HouseV) (v3 : HistV) (v4 : ToksV) (v6 : Nat → Int32) => L_tell_20 v7 v8 v9 v10 v11 v12 v13 v14 n x3 v0 v1 v2 v3 v4 v6)) ih hf

set_option maxHeartbeats 4000000 in
set_option maxRecDepth 100000 in
theorem c_L_tell {E : Ex} {a0 : Nat → Nat} {a1 : Nat → Nat} {a2 : Nat → Nat} {a3 : Nat → Nat} {a4 : Nat → Nat} {a5 : Nat → Nat} {q6 : Nat} {a7 : Nat → Nat} {q8 : Nat} {a9 : Nat → Nat} {q10 : Nat} {a11 : Nat → Nat} {q12 : Nat} {a13 : Nat → Nat} {q14 : Nat} {h0_3 h0_4 h0_5 h0_6 h0_9 h3_0 h3_1 : Nat} {v0 : GWV} {v1 : HouseV} {v2 : HouseV} {v3 : HistV} {v4 : ToksV} {v6 : Nat → Int32} {v7 : OwnV} {v8 : Nat} {v9 : RowsT} {v10 : Nat} {v11 : RowsT} {v12 : Nat} {v13 : RowsT} {v14 : Nat → Int32} {r : (Int32 × GWV × HouseV × HouseV × HistV × ToksV × (Nat → Int32))} (hf : L_tell v0 v1 v2 v3 v4 v6 v7 v8 v9 v10 v11 v12 v13 v14 = some r) : Ct E yL_tell wsL_tell rmL_tell [.ref (a0 0), .ref q6, .ref (a7 0)] [wGW E a0 (rf10 (a1 0) (a2 0) (a3 0) h0_3 h0_4 h0_5 h0_6 (a4 0) (a5 0) h0_9) v0, wHouse E a1 v1, wHouse E a2 v2, wHist E a3 (rf2 h3_0 h3_1) v3, wToks E a4 v4, wHRead E a5 (rf1 (a4 0)), wArr E q6 6 v6, wOwn E a7 (rf4 q8 q10 q12 q14) v7, wRO E q8 20 a9 v8, wRR E a9 v9, wRO E q10 12 a11 v10, wRR E a11 v11, wRO E q12 4 a13 v12, wRR E a13 v13, wArr E q14 4 v14] (fun rv g => rv = some (.int r.1) ∧ g = [wGW E a0 (rf10 (a1 0) (a2 0) (a3 0) h0_3 h0_4 h0_5 h0_6 (a4 0) (a5 0) h0_9) r.2.1, wHouse E a1 r.2.2.1, wHouse E a2 r.2.2.2.1, wHist E a3 (rf2 h3_0 h3_1) r.2.2.2.2.1, wToks E a4 r.2.2.2.2.2.1, wHRead E a5 (rf1 (a4 0)), wArr E q6 6 r.2.2.2.2.2.2, wOwn E a7 (rf4 q8 q10 q12 q14) v7, wRO E q8 20 a9 v8, wRR E a9 v9, wRO E q10 12 a11 v10, wRR E a11 v11, wRO E q12 4 a13 v12, wRR E a13 v13, wArr E q14 4 v14]) := by
  refine ct_of (own := RL) (by decide +kernel) rfl rfl (Nat.le_of_ble_eq_true rfl) (fun K C => ?_)
  refine ww_sub C (lv' := [(0, .ref (a0 0)), (1, .ref q6), (2, .ref (a7 0))]) [0, 1, 2] rfl ?_
  rw [L_tell] at hf
  refine ww_aload_n C dL_tell_0 rfl 0 rfl ?_
  refine ww_aload_n C dL_tell_1 rfl 1 rfl ?_
  refine ww_ldcS C (i := 16) rfl dL_tell_2 ?_
  refine ww_aload_n C dL_tell_4 rfl 2 rfl ?_
  refine ww_getN (host := RL) C clOK9 in_L_tell_X9 (w := wOwn E a7 (rf4 q8 q10 q12 q14) v7) (fs := fsOwn a7 (rf4 q8 q10 q12 q14) v7) (v := .int (Own_rooms v7)) 7 0 0 rfl q_Own (by decide) (by decide +kernel) g_Own_rooms dL_tell_5 ?_
  obtain ⟨p8, hp8, hf⟩ := bdE hf
  refine ww_callS C (As := [.ref (a0 0), .ref q6, .ref (eK E 16), .int (Own_rooms v7)]) (st := []) (gr := [wHouse E a1 v1, wHouse E a2 v2, wHist E a3 (rf2 h3_0 h3_1) v3, wHRead E a5 (rf1 (a4 0)), wOwn E a7 (rf4 q8 q10 q12 q14) v7, wRO E q8 20 a9 v8, wRR E a9 v9, wRO E q10 12 a11 v10, wRR E a11 v11, wRO E q12 4 a13 v12, wRR E a13 v13, wArr E q14 4 v14]) (c_L_with (E := E) (a0 := a0) (h0_0 := a1 0) (h0_1 := a2 0) (h0_2 := a3 0) (h0_3 := h0_3) (h0_4 := h0_4) (h0_5 := h0_5) (h0_6 := h0_6) (h0_8 := a5 0) (h0_9 := h0_9) (a1 := a4) (q2 := q6) hp8) gL_tell_L_with rfl ysk_L_with ⟨by decide, Nat.le_of_ble_eq_true rfl⟩ ⟨by decide, by decide⟩ [0, 4, 6] [1, 2, 3, 5, 7, 8, 9, 10, 11, 12, 13, 14] 15 rfl (by decide) rfl rfl (Nat.le_of_ble_eq_true rfl) dL_tell_8 ?_
  rintro _ _ ⟨rfl, rfl⟩
  refine ww_perm (gs' := [wGW E a0 (rf10 (a1 0) (a2 0) (a3 0) h0_3 h0_4 h0_5 h0_6 (a4 0) (a5 0) h0_9) v0, wHouse E a1 v1, wHouse E a2 v2, wHist E a3 (rf2 h3_0 h3_1) v3, wToks E a4 p8.1, wHRead E a5 (rf1 (a4 0)), wArr E q6 6 p8.2, wOwn E a7 (rf4 q8 q10 q12 q14) v7, wRO E q8 20 a9 v8, wRR E a9 v9, wRO E q10 12 a11 v10, wRR E a11 v11, wRO E q12 4 a13 v12, wRR E a13 v13, wArr E q14 4 v14]) [0, 3, 4, 5, 1, 6, 2, 7, 8, 9, 10, 11, 12, 13, 14] 15 rfl (by decide) rfl ?_
  refine ww_aload_n C dL_tell_11 rfl 0 rfl ?_
  refine ww_aload_n C dL_tell_12 rfl 1 rfl ?_
  refine ww_bipush (v := 59) C dL_tell_13 (by decide) ?_
  obtain ⟨p15, hp15, hf⟩ := bdE hf
  refine ww_callS C (As := [.ref (a0 0), .ref q6, .int 59]) (st := []) (gr := [wHouse E a1 v1, wHouse E a2 v2, wHist E a3 (rf2 h3_0 h3_1) v3, wHRead E a5 (rf1 (a4 0)), wOwn E a7 (rf4 q8 q10 q12 q14) v7, wRO E q8 20 a9 v8, wRR E a9 v9, wRO E q10 12 a11 v10, wRR E a11 v11, wRO E q12 4 a13 v12, wRR E a13 v13, wArr E q14 4 v14]) (c_L_add (E := E) (a0 := a0) (h0_0 := a1 0) (h0_1 := a2 0) (h0_2 := a3 0) (h0_3 := h0_3) (h0_4 := h0_4) (h0_5 := h0_5) (h0_6 := h0_6) (h0_8 := a5 0) (h0_9 := h0_9) (a1 := a4) (q2 := q6) hp15) gL_tell_L_add rfl ysk_L_add ⟨by decide, Nat.le_of_ble_eq_true rfl⟩ ⟨by decide, by decide⟩ [0, 4, 6] [1, 2, 3, 5, 7, 8, 9, 10, 11, 12, 13, 14] 15 rfl (by decide) rfl rfl (Nat.le_of_ble_eq_true rfl) dL_tell_15 ?_
  rintro _ _ ⟨rfl, rfl⟩
  refine ww_perm (gs' := [wGW E a0 (rf10 (a1 0) (a2 0) (a3 0) h0_3 h0_4 h0_5 h0_6 (a4 0) (a5 0) h0_9) v0, wHouse E a1 v1, wHouse E a2 v2, wHist E a3 (rf2 h3_0 h3_1) v3, wToks E a4 p15.1, wHRead E a5 (rf1 (a4 0)), wArr E q6 6 p15.2, wOwn E a7 (rf4 q8 q10 q12 q14) v7, wRO E q8 20 a9 v8, wRR E a9 v9, wRO E q10 12 a11 v10, wRR E a11 v11, wRO E q12 4 a13 v12, wRR E a13 v13, wArr E q14 4 v14]) [0, 3, 4, 5, 1, 6, 2, 7, 8, 9, 10, 11, 12, 13, 14] 15 rfl (by decide) rfl ?_
  refine ww_iconst (v := 0) C dL_tell_18 (by decide) ?_
  refine ww_istore_n (lv' := [(3, .int 0), (0, .ref (a0 0)), (1, .ref q6), (2, .ref (a7 0))]) C dL_tell_19 rfl (by decide) rfl ?_
  refine ww_sub C (lv' := [(0, .ref (a0 0)), (1, .ref q6), (2, .ref (a7 0)), (3, .int 0)]) [1, 2, 3, 0] rfl ?_
  exact w_L_tell_20 C FU _ _ _ _ _ _ _ hf

theorem ysk_L_tell : yL_tell.cls ≠ "java/lang/invoke/MethodHandle" ∧ yL_tell.cls ≠ "java/lang/invoke/VarHandle" ∧ (parseMethodDescriptor yL_tell.desc).map (fun d => d.parameters.length) = some 3 := by decide +kernel
abbrev rmL_drawn : Room := { frames := 2, cells := 64, slots := 600, locals := 49 }
set_option maxRecDepth 20000 in
theorem in_L_drawn_X9 : ∀ w ∈ u_ws RX9 TX9 8, w ∈ wsL_drawn := by decide +kernel
set_option maxHeartbeats 4000000 in
set_option maxRecDepth 100000 in
theorem w_L_drawn_255 {E : Ex} {K : Kx} (C : Cx E K cL_drawn 8 (some (.object "GuardWalksLaw$Own")) RL wsL_drawn rmL_drawn)  {L : Nat} {xs : Nat → Int32} {x1 : Int32} {x5 : Int32} {r : (OwnV × Nat × RowsT × Nat × RowsT × Nat × RowsT × (Nat → Int32))} (S0 : SXE E L xs) : ∀ (n : Nat) (d0 : Nat → Nat) (d1 : Nat) (d2 : Nat → Nat) (d3 : Nat) (d4 : Nat) (d5 : Nat → Nat) (d6 : Nat) (d7 : Nat → Nat) (x6 : Int32) (w0 : OwnV) (w1 : Nat) (w2 : RowsT) (w3 : Nat → Int32) (w4 : Nat) (w5 : RowsT) (w6 : Nat) (w7 : RowsT) (c : Nat) (s : Nat), c ≤ 64 ∧ s ≤ 600 → L_drawn_255 L xs x1 x5 n x6 w0 w1 w2 w3 w4 w5 w6 w7 c s = some r → WW E K c s (QQ E K (fun rv g => ∃ (y0 : Nat → Nat) (y1 : Nat) (y2 : Nat → Nat) (y3 : Nat) (y4 : Nat → Nat) (y5 : Nat) (y6 : Nat → Nat) (y7 : Nat), rv = some (.ref (y0 0)) ∧ g = [wOwn E y0 (rf4 y1 y3 y5 y7) r.1, wRO E y1 20 y2 r.2.1, wRR E y2 r.2.2.1, wRO E y3 12 y4 r.2.2.2.1, wRR E y4 r.2.2.2.2.1, wRO E y5 4 y6 r.2.2.2.2.2.1, wRR E y6 r.2.2.2.2.2.2.1, wArr E y7 4 r.2.2.2.2.2.2.2]) 64 600) 255 [(0, .ref (eB E)), (1, .int x1), (2, .ref (d0 0)), (5, .int x5), (6, .int x6)] [] [wOwn E d0 (rf4 d1 d4 d6 d3) w0, wRO E d1 20 d2 w1, wRR E d2 w2, wArr E d3 4 w3, wRO E d4 12 d5 w4, wRR E d5 w5, wRO E d6 4 d7 w6, wRR E d7 w7] := by
  intro n
  induction n with
  | zero =>
    intro d0 d1 d2 d3 d4 d5 d6 d7 x6 w0 w1 w2 w3 w4 w5 w6 w7 c s hcs hf
    simp [L_drawn_255] at hf
  | succ n ih =>
    intro d0 d1 d2 d3 d4 d5 d6 d7 x6 w0 w1 w2 w3 w4 w5 w6 w7 c s hcs hf
    rw [L_drawn_255] at hf
    refine ww_iload C dL_drawn_255 4 rfl ?_
    refine ww_iload C dL_drawn_257 3 rfl ?_
    refine ww_icmp_ge (tgt := 336) C dL_drawn_259 (by decide) (fun c_28 => ?_) (fun c_28 => ?_)
    · replace hf := ifT c_28 hf
      refine ww_aload_n C dL_drawn_336 rfl 2 rfl ?_
      obtain rfl := Option.some.inj hf
      refine ww_perm (gs' := [wOwn E d0 (rf4 d1 d4 d6 d3) w0, wRO E d1 20 d2 w1, wRR E d2 w2, wRO E d4 12 d5 w4, wRR E d5 w5, wRO E d6 4 d7 w6, wRR E d7 w7, wArr E d3 4 w3]) [0, 1, 2, 4, 5, 6, 7, 3] 8 rfl (by decide) rfl ?_
      refine ww_widen (k := 64) (n := 600) hcs.1 hcs.2 ?_
      exact ww_aret C (Or.inl ⟨_, rfl⟩) ⟨_, _, _, _, _, _, _, _, rfl, rfl⟩ dL_drawn_337
    · replace hf := ifF c_28 hf
      refine ww_aload_n C dL_drawn_262 rfl 0 rfl ?_
      refine ww_iload_n C dL_drawn_263 rfl 1 rfl ?_
      refine ww_iconst (v := 3) C dL_drawn_264 (by decide) ?_
      refine ww_iadd C dL_drawn_265 ?_
      refine ww_iload C dL_drawn_266 4 rfl ?_
      refine ww_iconst (v := 2) C dL_drawn_268 (by decide) ?_
      obtain ⟨g_29, hf⟩ := gdE hf
      refine ww_irem C dL_drawn_269 (nz_ne g_29) ?_
      refine ww_iadd C dL_drawn_270 ?_
      obtain ⟨p271, hp271, hf⟩ := bdE hf
      refine ww_callS C (As := [.ref (eB E), .int ((x1 + 3) + (x6 - x6 / 2 * 2))]) (st := []) (gr := [wOwn E d0 (rf4 d1 d4 d6 d3) w0, wRO E d1 20 d2 w1, wRR E d2 w2, wArr E d3 4 w3, wRO E d4 12 d5 w4, wRR E d5 w5, wRO E d6 4 d7 w6, wRR E d7 w7]) (c_L_cell (E := E)  S0 hp271) gL_drawn_L_cell rfl ysk_L_cell ⟨by decide, Nat.le_of_ble_eq_true rfl⟩ hcs [] [0, 1, 2, 3, 4, 5, 6, 7] 8 rfl (by decide) rfl rfl (Nat.le_of_ble_eq_true rfl) dL_drawn_271 ?_
      rintro _ _ ⟨rfl, rfl⟩
      refine ww_perm (gs' := [wOwn E d0 (rf4 d1 d4 d6 d3) w0, wRO E d1 20 d2 w1, wRR E d2 w2, wArr E d3 4 w3, wRO E d4 12 d5 w4, wRR E d5 w5, wRO E d6 4 d7 w6, wRR E d7 w7]) [0, 1, 2, 3, 4, 5, 6, 7] 8 rfl (by decide) rfl ?_
      refine ww_iload C dL_drawn_274 4 rfl ?_
      refine ww_iconst (v := 2) C dL_drawn_276 (by decide) ?_
      refine ww_idiv C dL_drawn_277 (nz_ne g_29) ?_
      refine ww_bipush (v := 6) C dL_drawn_278 (by decide) ?_
      refine ww_imul C dL_drawn_280 ?_
      refine ww_ishr C dL_drawn_281 ?_
      refine ww_topi (fun x7_282 e_x7_282 => ?_)
      replace hf := ltE e_x7_282 hf
      refine ww_istore (lv' := [(7, .int x7_282), (0, .ref (eB E)), (1, .int x1), (2, .ref (d0 0)), (5, .int x5), (6, .int x6)]) C dL_drawn_282 (by decide) rfl ?_
      refine ww_aload_n C dL_drawn_284 rfl 3 rfl ?_
      refine ww_getN (host := RL) C clOK9 in_L_drawn_X9 (w := wOwn E d0 (rf4 d1 d4 d6 d3) w0) (fs := fsOwn d0 (rf4 d1 d4 d6 d3) w0) (v := .ref d6) 0 0 6 rfl q_Own (by decide) (by decide +kernel) g_Own_walk dL_drawn_285 ?_
      refine ww_iload C dL_drawn_288 5 rfl ?_
      refine ww_aload_n C dL_drawn_290 rfl 3 rfl ?_
      refine ww_iload C dL_drawn_291 0 rfl ?_
      obtain ⟨g_31, hf⟩ := gdE hf
      obtain ⟨p293, hp293, hf⟩ := bdE hf
      refine ww_callVN C (As := [.int x7_282]) (st := [.int x6, .ref d6]) (gr := [wArr E d3 4 w3, wRO E d4 12 d5 w4, wRR E d5 w5, wRO E d6 4 d7 w6, wRR E d7 w7]) (host := RL) (c_X9_walkBy (E := E) (a0 := d0) (h0_1 := d4) (h0_2 := d6) (h0_3 := d3) (q1 := d1) (a2 := d2) hp293) gL_drawn_X9_walkBy_n48 rfl (by decide +kernel) (by decide +kernel) (by decide +kernel) (by decide +kernel) yk_X9_walkBy ⟨by decide, Nat.le_of_ble_eq_true rfl⟩ (of_decide_eq_true g_31) clOK9 0 0 rfl rfl [0, 1, 2] [3, 4, 5, 6, 7] 8 rfl (by decide) rfl rfl (Nat.le_of_ble_eq_true rfl) dL_drawn_293 ?_
      rintro _ _ ⟨y293_0, rfl, rfl⟩
      refine ww_perm (gs' := [wOwn E d0 (rf4 d1 d4 d6 d3) w0, wRO E d1 20 d2 w1, wRR E d2 w2, wArr E d3 4 w3, wRO E d4 12 d5 w4, wRR E d5 w5, wRO E d6 4 d7 w6, wRR E d7 w7, wArr E y293_0 p293.1 p293.2]) [0, 1, 2, 4, 5, 6, 7, 8, 3] 9 rfl (by decide) rfl ?_
      obtain ⟨g_32, hf⟩ := gdE hf
      obtain ⟨g_33, hf⟩ := gdE hf
      obtain ⟨v6_296, e_v6_296⟩ : ∃ y : Nat, y = w6 + 1 := ⟨_, rfl⟩
      replace hf := ltE e_v6_296 hf
      refine ww_astR C (b := y293_0) (f := roF d7 w6) (w := wRO E d6 4 d7 w6) (w' := wRO E d6 4 (upA d7 w6 y293_0) v6_296) (wv := wArr E y293_0 p293.1 p293.2) (gs' := [wOwn E d0 (rf4 d1 d4 d6 d3) w0, wRO E d1 20 d2 w1, wRR E d2 w2, wArr E d3 4 w3, wRO E d4 12 d5 w4, wRR E d5 w5, wRO E d6 4 (upA d7 w6 y293_0) v6_296, wRR E d7 w7, wArr E y293_0 p293.1 p293.2]) 6 0 8 0 rfl q_RO rfl q_Arr (inB_vp g_32) (by rw [e_v6_296]; exact ro_app (of_decide_eq_true g_33).1) rfl dL_drawn_296 ?_
      obtain ⟨v7_296, e_v7_296⟩ : ∃ y : RowsT, y = rrApp w7 p293.1 p293.2 := ⟨_, rfl⟩
      replace hf := ltE e_v7_296 hf
      refine ww_regr (gs' := [wOwn E d0 (rf4 d1 d4 d6 d3) w0, wRO E d1 20 d2 w1, wRR E d2 w2, wArr E d3 4 w3, wRO E d4 12 d5 w4, wRR E d5 w5, wRO E d6 4 (upA d7 w6 y293_0) v6_296, wRR E (upA d7 w6 y293_0) v7_296]) (by rw [e_v7_296, rr_app (of_decide_eq_true g_33).2]; simp only [List.flatten_cons, List.flatten_nil, List.append_assoc]) ?_
      refine ww_aload_n C dL_drawn_297 rfl 3 rfl ?_
      refine ww_getN (host := RL) C clOK9 in_L_drawn_X9 (w := wOwn E d0 (rf4 d1 d4 d6 d3) w0) (fs := fsOwn d0 (rf4 d1 d4 d6 d3) w0) (v := .ref d3) 0 0 7 rfl q_Own (by decide) (by decide +kernel) g_Own_phase dL_drawn_298 ?_
      refine ww_iload C dL_drawn_301 5 rfl ?_
      refine ww_iload C dL_drawn_303 0 rfl ?_
      refine ww_bipush (v := 7) C dL_drawn_305 (by decide) ?_
      refine ww_ishr C dL_drawn_307 ?_
      refine ww_aload_n C dL_drawn_308 rfl 3 rfl ?_
      refine ww_getN (host := RL) C clOK9 in_L_drawn_X9 (w := wOwn E d0 (rf4 d1 d4 d6 d3) w0) (fs := fsOwn d0 (rf4 d1 d4 d6 d3) w0) (v := .ref d6) 0 0 6 rfl q_Own (by decide) (by decide +kernel) g_Own_walk dL_drawn_309 ?_
      refine ww_iload C dL_drawn_312 5 rfl ?_
      obtain ⟨g_34, hf⟩ := gdE hf
      refine ww_aldR C (f := roF (upA d7 w6 y293_0) v6_296) (w := wRO E d6 4 (upA d7 w6 y293_0) v6_296) 6 0 rfl q_RO (inB_vp g_32) (roF_at (of_decide_eq_true g_34)) dL_drawn_314 ?_
      obtain ⟨g_35, hf⟩ := gdE hf
      refine ww_alen C (v := nI (v7_296.2.1 (Int32.toNatClampNeg x6))) (w := wRR E (upA d7 w6 y293_0) v7_296) 7 (Int32.toNatClampNeg x6) rfl (q_RR (of_decide_eq_true g_35)) rfl dL_drawn_315 ?_
      obtain ⟨p316, hp316, hf⟩ := bdE hf
      refine ww_callS C (As := [.int (x7_282 >>> (7 &&& 31)), .int (nI (v7_296.2.1 (Int32.toNatClampNeg x6)))]) (st := [.int x6, .ref d3]) (gr := [wOwn E d0 (rf4 d1 d4 d6 d3) w0, wRO E d1 20 d2 w1, wRR E d2 w2, wArr E d3 4 w3, wRO E d4 12 d5 w4, wRR E d5 w5, wRO E d6 4 (upA d7 w6 y293_0) v6_296, wRR E (upA d7 w6 y293_0) v7_296]) (c_L_most (E := E)  hp316) gL_drawn_L_most rfl ysk_L_most ⟨by decide, Nat.le_of_ble_eq_true rfl⟩ (of_decide_eq_true g_31) [] [0, 1, 2, 3, 4, 5, 6, 7] 8 rfl (by decide) rfl rfl (Nat.le_of_ble_eq_true rfl) dL_drawn_316 ?_
      rintro _ _ ⟨rfl, rfl⟩
      refine ww_perm (gs' := [wOwn E d0 (rf4 d1 d4 d6 d3) w0, wRO E d1 20 d2 w1, wRR E d2 w2, wArr E d3 4 w3, wRO E d4 12 d5 w4, wRR E d5 w5, wRO E d6 4 (upA d7 w6 y293_0) v6_296, wRR E (upA d7 w6 y293_0) v7_296]) [0, 1, 2, 3, 4, 5, 6, 7] 8 rfl (by decide) rfl ?_
      obtain ⟨v3_319, e_v3_319⟩ : ∃ y : Nat → Int32, y = upd w3 (Int32.toNatClampNeg x6) p316 := ⟨_, rfl⟩
      replace hf := ltE e_v3_319 hf
      refine ww_iast C (f := w3) (w := wArr E d3 4 w3) (w' := wArr E d3 4 v3_319) (gs' := [wOwn E d0 (rf4 d1 d4 d6 d3) w0, wRO E d1 20 d2 w1, wRR E d2 w2, wArr E d3 4 v3_319, wRO E d4 12 d5 w4, wRR E d5 w5, wRO E d6 4 (upA d7 w6 y293_0) v6_296, wRR E (upA d7 w6 y293_0) v7_296]) 3 0 rfl q_Arr (inB_vp g_32) (by rw [e_v3_319]; exact s_Arr) rfl dL_drawn_319 ?_
      refine ww_aload_n C dL_drawn_320 rfl 3 rfl ?_
      refine ww_dup C dL_drawn_321 rfl ?_
      refine ww_getN (host := RL) C clOK9 in_L_drawn_X9 (w := wOwn E d0 (rf4 d1 d4 d6 d3) w0) (fs := fsOwn d0 (rf4 d1 d4 d6 d3) w0) (v := .int (Own_guards w0)) 0 0 2 rfl q_Own (by decide) (by decide +kernel) g_Own_guards dL_drawn_322 ?_
      refine ww_iconst (v := 1) C dL_drawn_325 (by decide) ?_
      refine ww_iadd C dL_drawn_326 ?_
      obtain ⟨v0_327, e_v0_327⟩ : ∃ y : OwnV, y = Own_set_guards w0 ((Own_guards w0) + 1) := ⟨_, rfl⟩
      replace hf := ltE e_v0_327 hf
      refine ww_putN (host := RL) C clOK9 in_L_drawn_X9 (w := wOwn E d0 (rf4 d1 d4 d6 d3) w0) (fs := fsOwn d0 (rf4 d1 d4 d6 d3) w0) (w' := wOwn E d0 (rf4 d1 d4 d6 d3) v0_327) (gs' := [wOwn E d0 (rf4 d1 d4 d6 d3) v0_327, wRO E d1 20 d2 w1, wRR E d2 w2, wArr E d3 4 v3_319, wRO E d4 12 d5 w4, wRR E d5 w5, wRO E d6 4 (upA d7 w6 y293_0) v6_296, wRR E (upA d7 w6 y293_0) v7_296]) 0 0 2 rfl q_Own (by decide) (by decide +kernel) rfl rfl rfl rfl l_Own (by rw [e_v0_327]; exact p_Own_guards) rfl dL_drawn_327 ?_
      obtain ⟨x6_330, e_x6_330⟩ : ∃ y : Int32, y = x6 + 1 := ⟨_, rfl⟩
      replace hf := ltE e_x6_330 hf
      refine ww_iinc (v := x6_330) (lv' := [(6, .int x6_330), (7, .int x7_282), (0, .ref (eB E)), (1, .int x1), (2, .ref (d0 0)), (5, .int x5)]) C dL_drawn_330 5 rfl (by rw [e_x6_330]; rfl) (by decide) rfl ?_
      refine ww_goto (tgt := 255) C dL_drawn_333 (by decide) ?_
      refine ww_sub C (lv' := [(0, .ref (eB E)), (1, .int x1), (2, .ref (d0 0)), (5, .int x5), (6, .int x6_330)]) [2, 3, 4, 5, 0] rfl ?_
      exact ih _ _ _ _ _ _ _ _ _ _ _ _ _ _ _ _ _ _ _ (of_decide_eq_true g_31) hf

set_option maxHeartbeats 4000000 in
set_option maxRecDepth 100000 in
theorem w_L_drawn_128 {E : Ex} {K : Kx} (C : Cx E K cL_drawn 8 (some (.object "GuardWalksLaw$Own")) RL wsL_drawn rmL_drawn)  {L : Nat} {xs : Nat → Int32} {x1 : Int32} {x3 : Int32} {x4 : Int32} {r : (OwnV × Nat × RowsT × Nat × RowsT × Nat × RowsT × (Nat → Int32))} (S0 : SXE E L xs) : ∀ (n : Nat) (d0 : Nat → Nat) (d1 : Nat) (d2 : Nat → Nat) (d3 : Nat) (d4 : Nat) (d5 : Nat → Nat) (d6 : Nat) (d7 : Nat → Nat) (x5 : Int32) (w0 : OwnV) (w1 : Nat) (w2 : RowsT) (w3 : Nat → Int32) (w4 : Nat) (w5 : RowsT) (w6 : Nat) (w7 : RowsT) (c : Nat) (s : Nat), c ≤ 64 ∧ s ≤ 600 → L_drawn_128 L xs x1 x3 x4 n x5 w0 w1 w2 w3 w4 w5 w6 w7 c s = some r → WW E K c s (QQ E K (fun rv g => ∃ (y0 : Nat → Nat) (y1 : Nat) (y2 : Nat → Nat) (y3 : Nat) (y4 : Nat → Nat) (y5 : Nat) (y6 : Nat → Nat) (y7 : Nat), rv = some (.ref (y0 0)) ∧ g = [wOwn E y0 (rf4 y1 y3 y5 y7) r.1, wRO E y1 20 y2 r.2.1, wRR E y2 r.2.2.1, wRO E y3 12 y4 r.2.2.2.1, wRR E y4 r.2.2.2.2.1, wRO E y5 4 y6 r.2.2.2.2.2.1, wRR E y6 r.2.2.2.2.2.2.1, wArr E y7 4 r.2.2.2.2.2.2.2]) 64 600) 128 [(0, .ref (eB E)), (1, .int x1), (2, .ref (d0 0)), (3, .int x3), (4, .int x4), (5, .int x5)] [] [wOwn E d0 (rf4 d1 d4 d6 d3) w0, wRO E d1 20 d2 w1, wRR E d2 w2, wArr E d3 4 w3, wRO E d4 12 d5 w4, wRR E d5 w5, wRO E d6 4 d7 w6, wRR E d7 w7] := by
  intro n
  induction n with
  | zero =>
    intro d0 d1 d2 d3 d4 d5 d6 d7 x5 w0 w1 w2 w3 w4 w5 w6 w7 c s hcs hf
    simp [L_drawn_128] at hf
  | succ n ih =>
    intro d0 d1 d2 d3 d4 d5 d6 d7 x5 w0 w1 w2 w3 w4 w5 w6 w7 c s hcs hf
    rw [L_drawn_128] at hf
    refine ww_iload C dL_drawn_128 5 rfl ?_
    refine ww_iload C dL_drawn_130 4 rfl ?_
    refine ww_icmp_ge (tgt := 242) C dL_drawn_132 (by decide) (fun c_14 => ?_) (fun c_14 => ?_)
    · replace hf := ifT c_14 hf
      refine ww_iload_n C dL_drawn_242 rfl 3 rfl ?_
      refine ww_bipush (v := 12) C dL_drawn_243 (by decide) ?_
      refine ww_ishr C dL_drawn_245 ?_
      refine ww_iconst (v := 5) C dL_drawn_246 (by decide) ?_
      obtain ⟨p247, hp247, hf⟩ := bdE hf
      refine ww_callS C (As := [.int (x3 >>> (12 &&& 31)), .int 5]) (st := []) (gr := [wOwn E d0 (rf4 d1 d4 d6 d3) w0, wRO E d1 20 d2 w1, wRR E d2 w2, wArr E d3 4 w3, wRO E d4 12 d5 w4, wRR E d5 w5, wRO E d6 4 d7 w6, wRR E d7 w7]) (c_L_most (E := E)  hp247) gL_drawn_L_most rfl ysk_L_most ⟨by decide, Nat.le_of_ble_eq_true rfl⟩ hcs [] [0, 1, 2, 3, 4, 5, 6, 7] 8 rfl (by decide) rfl rfl (Nat.le_of_ble_eq_true rfl) dL_drawn_247 ?_
      rintro _ _ ⟨rfl, rfl⟩
      refine ww_perm (gs' := [wOwn E d0 (rf4 d1 d4 d6 d3) w0, wRO E d1 20 d2 w1, wRR E d2 w2, wArr E d3 4 w3, wRO E d4 12 d5 w4, wRR E d5 w5, wRO E d6 4 d7 w6, wRR E d7 w7]) [0, 1, 2, 3, 4, 5, 6, 7] 8 rfl (by decide) rfl ?_
      refine ww_istore (lv' := [(5, .int p247), (0, .ref (eB E)), (1, .int x1), (2, .ref (d0 0)), (3, .int x3), (4, .int x4)]) C dL_drawn_250 (by decide) rfl ?_
      refine ww_iconst (v := 0) C dL_drawn_252 (by decide) ?_
      refine ww_istore (lv' := [(6, .int 0), (5, .int p247), (0, .ref (eB E)), (1, .int x1), (2, .ref (d0 0)), (3, .int x3), (4, .int x4)]) C dL_drawn_253 (by decide) rfl ?_
      refine ww_sub C (lv' := [(0, .ref (eB E)), (1, .int x1), (2, .ref (d0 0)), (5, .int p247), (6, .int 0)]) [2, 3, 4, 1, 0] rfl ?_
      exact w_L_drawn_255 C S0 FU _ _ _ _ _ _ _ _ _ _ _ _ _ _ _ _ _ _ _ hcs hf
    · replace hf := ifF c_14 hf
      refine ww_aload_n C dL_drawn_135 rfl 0 rfl ?_
      refine ww_iload_n C dL_drawn_136 rfl 1 rfl ?_
      refine ww_iconst (v := 1) C dL_drawn_137 (by decide) ?_
      refine ww_iadd C dL_drawn_138 ?_
      refine ww_iload C dL_drawn_139 5 rfl ?_
      refine ww_iconst (v := 2) C dL_drawn_141 (by decide) ?_
      obtain ⟨g_15, hf⟩ := gdE hf
      refine ww_irem C dL_drawn_142 (nz_ne g_15) ?_
      refine ww_iadd C dL_drawn_143 ?_
      obtain ⟨p144, hp144, hf⟩ := bdE hf
      refine ww_callS C (As := [.ref (eB E), .int ((x1 + 1) + (x5 - x5 / 2 * 2))]) (st := []) (gr := [wOwn E d0 (rf4 d1 d4 d6 d3) w0, wRO E d1 20 d2 w1, wRR E d2 w2, wArr E d3 4 w3, wRO E d4 12 d5 w4, wRR E d5 w5, wRO E d6 4 d7 w6, wRR E d7 w7]) (c_L_cell (E := E)  S0 hp144) gL_drawn_L_cell rfl ysk_L_cell ⟨by decide, Nat.le_of_ble_eq_true rfl⟩ hcs [] [0, 1, 2, 3, 4, 5, 6, 7] 8 rfl (by decide) rfl rfl (Nat.le_of_ble_eq_true rfl) dL_drawn_144 ?_
      rintro _ _ ⟨rfl, rfl⟩
      refine ww_perm (gs' := [wOwn E d0 (rf4 d1 d4 d6 d3) w0, wRO E d1 20 d2 w1, wRR E d2 w2, wArr E d3 4 w3, wRO E d4 12 d5 w4, wRR E d5 w5, wRO E d6 4 d7 w6, wRR E d7 w7]) [0, 1, 2, 3, 4, 5, 6, 7] 8 rfl (by decide) rfl ?_
      refine ww_iload C dL_drawn_147 5 rfl ?_
      refine ww_iconst (v := 2) C dL_drawn_149 (by decide) ?_
      refine ww_idiv C dL_drawn_150 (nz_ne g_15) ?_
      refine ww_iconst (v := 5) C dL_drawn_151 (by decide) ?_
      refine ww_imul C dL_drawn_152 ?_
      refine ww_ishr C dL_drawn_153 ?_
      refine ww_topi (fun x6_154 e_x6_154 => ?_)
      replace hf := ltE e_x6_154 hf
      refine ww_istore (lv' := [(6, .int x6_154), (0, .ref (eB E)), (1, .int x1), (2, .ref (d0 0)), (3, .int x3), (4, .int x4), (5, .int x5)]) C dL_drawn_154 (by decide) rfl ?_
      refine ww_iload C dL_drawn_156 0 rfl ?_
      refine ww_aload_n C dL_drawn_158 rfl 3 rfl ?_
      refine ww_getN (host := RL) C clOK9 in_L_drawn_X9 (w := wOwn E d0 (rf4 d1 d4 d6 d3) w0) (fs := fsOwn d0 (rf4 d1 d4 d6 d3) w0) (v := .int (Own_rooms w0)) 0 0 0 rfl q_Own (by decide) (by decide +kernel) g_Own_rooms dL_drawn_159 ?_
      obtain ⟨p162, hp162, hf⟩ := bdE hf
      refine ww_callS C (As := [.int x6_154, .int (Own_rooms w0)]) (st := []) (gr := [wOwn E d0 (rf4 d1 d4 d6 d3) w0, wRO E d1 20 d2 w1, wRR E d2 w2, wArr E d3 4 w3, wRO E d4 12 d5 w4, wRR E d5 w5, wRO E d6 4 d7 w6, wRR E d7 w7]) (c_L_most (E := E)  hp162) gL_drawn_L_most rfl ysk_L_most ⟨by decide, Nat.le_of_ble_eq_true rfl⟩ hcs [] [0, 1, 2, 3, 4, 5, 6, 7] 8 rfl (by decide) rfl rfl (Nat.le_of_ble_eq_true rfl) dL_drawn_162 ?_
      rintro _ _ ⟨rfl, rfl⟩
      refine ww_perm (gs' := [wOwn E d0 (rf4 d1 d4 d6 d3) w0, wRO E d1 20 d2 w1, wRR E d2 w2, wArr E d3 4 w3, wRO E d4 12 d5 w4, wRR E d5 w5, wRO E d6 4 d7 w6, wRR E d7 w7]) [0, 1, 2, 3, 4, 5, 6, 7] 8 rfl (by decide) rfl ?_
      refine ww_istore (lv' := [(7, .int p162), (6, .int x6_154), (0, .ref (eB E)), (1, .int x1), (2, .ref (d0 0)), (3, .int x3), (4, .int x4), (5, .int x5)]) C dL_drawn_165 (by decide) rfl ?_
      refine ww_aload_n C dL_drawn_167 rfl 4 rfl ?_
      refine ww_getN (host := RL) C clOK9 in_L_drawn_X9 (w := wOwn E d0 (rf4 d1 d4 d6 d3) w0) (fs := fsOwn d0 (rf4 d1 d4 d6 d3) w0) (v := .ref d1) 0 0 4 rfl q_Own (by decide) (by decide +kernel) g_Own_door dL_drawn_168 ?_
      refine ww_aload_n C dL_drawn_171 rfl 4 rfl ?_
      refine ww_dup C dL_drawn_172 rfl ?_
      refine ww_getN (host := RL) C clOK9 in_L_drawn_X9 (w := wOwn E d0 (rf4 d1 d4 d6 d3) w0) (fs := fsOwn d0 (rf4 d1 d4 d6 d3) w0) (v := .int (Own_doors w0)) 0 0 1 rfl q_Own (by decide) (by decide +kernel) g_Own_doors dL_drawn_173 ?_
      refine ww_dup_x1 C dL_drawn_176 rfl rfl ?_
      refine ww_iconst (v := 1) C dL_drawn_177 (by decide) ?_
      refine ww_iadd C dL_drawn_178 ?_
      obtain ⟨v0_179, e_v0_179⟩ : ∃ y : OwnV, y = Own_set_doors w0 ((Own_doors w0) + 1) := ⟨_, rfl⟩
      replace hf := ltE e_v0_179 hf
      refine ww_putN (host := RL) C clOK9 in_L_drawn_X9 (w := wOwn E d0 (rf4 d1 d4 d6 d3) w0) (fs := fsOwn d0 (rf4 d1 d4 d6 d3) w0) (w' := wOwn E d0 (rf4 d1 d4 d6 d3) v0_179) (gs' := [wOwn E d0 (rf4 d1 d4 d6 d3) v0_179, wRO E d1 20 d2 w1, wRR E d2 w2, wArr E d3 4 w3, wRO E d4 12 d5 w4, wRR E d5 w5, wRO E d6 4 d7 w6, wRR E d7 w7]) 0 0 1 rfl q_Own (by decide) (by decide +kernel) rfl rfl rfl rfl l_Own (by rw [e_v0_179]; exact p_Own_doors) rfl dL_drawn_179 ?_
      refine ww_iconst (v := 3) C dL_drawn_182 (by decide) ?_
      obtain ⟨g_17, hf⟩ := gdE hf
      refine ww_newi C (by decide +kernel) 3 (by decide) (by decide) (by decide) (of_decide_eq_true g_17) dL_drawn_183 (fun q183 => ?_)
      refine ww_eq (gs' := [wOwn E d0 (rf4 d1 d4 d6 d3) v0_179, wRO E d1 20 d2 w1, wRR E d2 w2, wArr E d3 4 w3, wRO E d4 12 d5 w4, wRR E d5 w5, wRO E d6 4 d7 w6, wRR E d7 w7, wArr E q183 3 (fun _ => 0)]) rfl ?_
      refine ww_dup C dL_drawn_185 rfl ?_
      refine ww_iconst (v := 0) C dL_drawn_186 (by decide) ?_
      refine ww_iload C dL_drawn_187 0 rfl ?_
      obtain ⟨g_18, hf⟩ := gdE hf
      obtain ⟨v8_189, e_v8_189⟩ : ∃ y : Nat → Int32, y = upd (fun _ => 0) (Int32.toNatClampNeg 0) p162 := ⟨_, rfl⟩
      replace hf := ltE e_v8_189 hf
      refine ww_iast C (f := (fun _ => 0)) (w := wArr E q183 3 (fun _ => 0)) (w' := wArr E q183 3 v8_189) (gs' := [wOwn E d0 (rf4 d1 d4 d6 d3) v0_179, wRO E d1 20 d2 w1, wRR E d2 w2, wArr E d3 4 w3, wRO E d4 12 d5 w4, wRR E d5 w5, wRO E d6 4 d7 w6, wRR E d7 w7, wArr E q183 3 v8_189]) 8 0 rfl q_Arr (inB_vp g_18) (by rw [e_v8_189]; exact s_Arr) rfl dL_drawn_189 ?_
      refine ww_dup C dL_drawn_190 rfl ?_
      refine ww_iconst (v := 1) C dL_drawn_191 (by decide) ?_
      refine ww_iload C dL_drawn_192 0 rfl ?_
      refine ww_iconst (v := 1) C dL_drawn_194 (by decide) ?_
      refine ww_iadd C dL_drawn_195 ?_
      refine ww_iload C dL_drawn_196 1 rfl ?_
      refine ww_iconst (v := 2) C dL_drawn_198 (by decide) ?_
      refine ww_ishr C dL_drawn_199 ?_
      refine ww_aload_n C dL_drawn_200 rfl 4 rfl ?_
      refine ww_getN (host := RL) C clOK9 in_L_drawn_X9 (w := wOwn E d0 (rf4 d1 d4 d6 d3) v0_179) (fs := fsOwn d0 (rf4 d1 d4 d6 d3) v0_179) (v := .int (Own_rooms v0_179)) 0 0 0 rfl q_Own (by decide) (by decide +kernel) g_Own_rooms dL_drawn_201 ?_
      refine ww_iconst (v := 1) C dL_drawn_204 (by decide) ?_
      refine ww_isub C dL_drawn_205 ?_
      obtain ⟨p206, hp206, hf⟩ := bdE hf
      refine ww_callS C (As := [.int (x6_154 >>> (2 &&& 31)), .int ((Own_rooms v0_179) - 1)]) (st := [.int (p162 + 1), .int 1, .ref q183, .ref q183, .int (Own_doors w0), .ref d1]) (gr := [wOwn E d0 (rf4 d1 d4 d6 d3) v0_179, wRO E d1 20 d2 w1, wRR E d2 w2, wArr E d3 4 w3, wRO E d4 12 d5 w4, wRR E d5 w5, wRO E d6 4 d7 w6, wRR E d7 w7, wArr E q183 3 v8_189]) (c_L_most (E := E)  hp206) gL_drawn_L_most rfl ysk_L_most ⟨by decide, Nat.le_of_ble_eq_true rfl⟩ (of_decide_eq_true g_17) [] [0, 1, 2, 3, 4, 5, 6, 7, 8] 9 rfl (by decide) rfl rfl (Nat.le_of_ble_eq_true rfl) dL_drawn_206 ?_
      rintro _ _ ⟨rfl, rfl⟩
      refine ww_perm (gs' := [wOwn E d0 (rf4 d1 d4 d6 d3) v0_179, wRO E d1 20 d2 w1, wRR E d2 w2, wArr E d3 4 w3, wRO E d4 12 d5 w4, wRR E d5 w5, wRO E d6 4 d7 w6, wRR E d7 w7, wArr E q183 3 v8_189]) [0, 1, 2, 3, 4, 5, 6, 7, 8] 9 rfl (by decide) rfl ?_
      refine ww_iadd C dL_drawn_209 ?_
      refine ww_aload_n C dL_drawn_210 rfl 4 rfl ?_
      refine ww_getN (host := RL) C clOK9 in_L_drawn_X9 (w := wOwn E d0 (rf4 d1 d4 d6 d3) v0_179) (fs := fsOwn d0 (rf4 d1 d4 d6 d3) v0_179) (v := .int (Own_rooms v0_179)) 0 0 0 rfl q_Own (by decide) (by decide +kernel) g_Own_rooms dL_drawn_211 ?_
      obtain ⟨g_19, hf⟩ := gdE hf
      refine ww_irem C dL_drawn_214 (nz_ne g_19) ?_
      obtain ⟨g_20, hf⟩ := gdE hf
      obtain ⟨v8_215, e_v8_215⟩ : ∃ y : Nat → Int32, y = upd v8_189 (Int32.toNatClampNeg 1) (((p162 + 1) + p206) - ((p162 + 1) + p206) / (Own_rooms v0_179) * (Own_rooms v0_179)) := ⟨_, rfl⟩
      replace hf := ltE e_v8_215 hf
      refine ww_iast C (f := v8_189) (w := wArr E q183 3 v8_189) (w' := wArr E q183 3 v8_215) (gs' := [wOwn E d0 (rf4 d1 d4 d6 d3) v0_179, wRO E d1 20 d2 w1, wRR E d2 w2, wArr E d3 4 w3, wRO E d4 12 d5 w4, wRR E d5 w5, wRO E d6 4 d7 w6, wRR E d7 w7, wArr E q183 3 v8_215]) 8 0 rfl q_Arr (inB_vp g_20) (by rw [e_v8_215]; exact s_Arr) rfl dL_drawn_215 ?_
      refine ww_dup C dL_drawn_216 rfl ?_
      refine ww_iconst (v := 2) C dL_drawn_217 (by decide) ?_
      refine ww_iload C dL_drawn_218 1 rfl ?_
      refine ww_iconst (v := 4) C dL_drawn_220 (by decide) ?_
      refine ww_ishr C dL_drawn_221 ?_
      refine ww_iconst (v := 5) C dL_drawn_222 (by decide) ?_
      obtain ⟨p223, hp223, hf⟩ := bdE hf
      refine ww_callS C (As := [.int (x6_154 >>> (4 &&& 31)), .int 5]) (st := [.int 2, .ref q183, .ref q183, .int (Own_doors w0), .ref d1]) (gr := [wOwn E d0 (rf4 d1 d4 d6 d3) v0_179, wRO E d1 20 d2 w1, wRR E d2 w2, wArr E d3 4 w3, wRO E d4 12 d5 w4, wRR E d5 w5, wRO E d6 4 d7 w6, wRR E d7 w7, wArr E q183 3 v8_215]) (c_L_most (E := E)  hp223) gL_drawn_L_most rfl ysk_L_most ⟨by decide, Nat.le_of_ble_eq_true rfl⟩ (of_decide_eq_true g_17) [] [0, 1, 2, 3, 4, 5, 6, 7, 8] 9 rfl (by decide) rfl rfl (Nat.le_of_ble_eq_true rfl) dL_drawn_223 ?_
      rintro _ _ ⟨rfl, rfl⟩
      refine ww_perm (gs' := [wOwn E d0 (rf4 d1 d4 d6 d3) v0_179, wRO E d1 20 d2 w1, wRR E d2 w2, wArr E d3 4 w3, wRO E d4 12 d5 w4, wRR E d5 w5, wRO E d6 4 d7 w6, wRR E d7 w7, wArr E q183 3 v8_215]) [0, 1, 2, 3, 4, 5, 6, 7, 8] 9 rfl (by decide) rfl ?_
      refine ww_if_ne (tgt := 233) C dL_drawn_226 (by decide) (fun c_21 => ?_) (fun c_21 => ?_)
      · replace hf := ifF c_21 hf
        refine ww_iconst (v := 1) C dL_drawn_233 (by decide) ?_
        obtain ⟨g_22, hf⟩ := gdE hf
        obtain ⟨v8_234, e_v8_234⟩ : ∃ y : Nat → Int32, y = upd v8_215 (Int32.toNatClampNeg 2) 1 := ⟨_, rfl⟩
        replace hf := ltE e_v8_234 hf
        refine ww_iast C (f := v8_215) (w := wArr E q183 3 v8_215) (w' := wArr E q183 3 v8_234) (gs' := [wOwn E d0 (rf4 d1 d4 d6 d3) v0_179, wRO E d1 20 d2 w1, wRR E d2 w2, wArr E d3 4 w3, wRO E d4 12 d5 w4, wRR E d5 w5, wRO E d6 4 d7 w6, wRR E d7 w7, wArr E q183 3 v8_234]) 8 0 rfl q_Arr (inB_vp g_22) (by rw [e_v8_234]; exact s_Arr) rfl dL_drawn_234 ?_
        obtain ⟨g_23, hf⟩ := gdE hf
        obtain ⟨g_24, hf⟩ := gdE hf
        obtain ⟨v1_235, e_v1_235⟩ : ∃ y : Nat, y = w1 + 1 := ⟨_, rfl⟩
        replace hf := ltE e_v1_235 hf
        refine ww_astR C (b := q183) (f := roF d2 w1) (w := wRO E d1 20 d2 w1) (w' := wRO E d1 20 (upA d2 w1 q183) v1_235) (wv := wArr E q183 3 v8_234) (gs' := [wOwn E d0 (rf4 d1 d4 d6 d3) v0_179, wRO E d1 20 (upA d2 w1 q183) v1_235, wRR E d2 w2, wArr E d3 4 w3, wRO E d4 12 d5 w4, wRR E d5 w5, wRO E d6 4 d7 w6, wRR E d7 w7, wArr E q183 3 v8_234]) 1 0 8 0 rfl q_RO rfl q_Arr (inB_vp g_23) (by rw [e_v1_235]; exact ro_app (of_decide_eq_true g_24).1) rfl dL_drawn_235 ?_
        obtain ⟨v2_235, e_v2_235⟩ : ∃ y : RowsT, y = rrApp w2 3 v8_234 := ⟨_, rfl⟩
        replace hf := ltE e_v2_235 hf
        refine ww_perm (gs' := [wOwn E d0 (rf4 d1 d4 d6 d3) v0_179, wRO E d1 20 (upA d2 w1 q183) v1_235, wRR E d2 w2, wArr E q183 3 v8_234, wArr E d3 4 w3, wRO E d4 12 d5 w4, wRR E d5 w5, wRO E d6 4 d7 w6, wRR E d7 w7]) [0, 1, 2, 8, 3, 4, 5, 6, 7] 9 rfl (by decide) rfl ?_
        refine ww_regr (gs' := [wOwn E d0 (rf4 d1 d4 d6 d3) v0_179, wRO E d1 20 (upA d2 w1 q183) v1_235, wRR E (upA d2 w1 q183) v2_235, wArr E d3 4 w3, wRO E d4 12 d5 w4, wRR E d5 w5, wRO E d6 4 d7 w6, wRR E d7 w7]) (by rw [e_v2_235, rr_app (of_decide_eq_true g_24).2]; simp only [List.flatten_cons, List.flatten_nil, List.append_assoc]) ?_
        obtain ⟨x5_236, e_x5_236⟩ : ∃ y : Int32, y = x5 + 1 := ⟨_, rfl⟩
        replace hf := ltE e_x5_236 hf
        refine ww_iinc (v := x5_236) (lv' := [(5, .int x5_236), (7, .int p162), (6, .int x6_154), (0, .ref (eB E)), (1, .int x1), (2, .ref (d0 0)), (3, .int x3), (4, .int x4)]) C dL_drawn_236 7 rfl (by rw [e_x5_236]; rfl) (by decide) rfl ?_
        refine ww_goto (tgt := 128) C dL_drawn_239 (by decide) ?_
        refine ww_sub C (lv' := [(0, .ref (eB E)), (1, .int x1), (2, .ref (d0 0)), (3, .int x3), (4, .int x4), (5, .int x5_236)]) [3, 4, 5, 6, 7, 0] rfl ?_
        exact ih _ _ _ _ _ _ _ _ _ _ _ _ _ _ _ _ _ _ _ (of_decide_eq_true g_17) hf
      · replace hf := ifT c_21 hf
        refine ww_iconst (v := 0) C dL_drawn_229 (by decide) ?_
        refine ww_goto (tgt := 234) C dL_drawn_230 (by decide) ?_
        obtain ⟨g_25, hf⟩ := gdE hf
        obtain ⟨v8_234, e_v8_234⟩ : ∃ y : Nat → Int32, y = upd v8_215 (Int32.toNatClampNeg 2) 0 := ⟨_, rfl⟩
        replace hf := ltE e_v8_234 hf
        refine ww_iast C (f := v8_215) (w := wArr E q183 3 v8_215) (w' := wArr E q183 3 v8_234) (gs' := [wOwn E d0 (rf4 d1 d4 d6 d3) v0_179, wRO E d1 20 d2 w1, wRR E d2 w2, wArr E d3 4 w3, wRO E d4 12 d5 w4, wRR E d5 w5, wRO E d6 4 d7 w6, wRR E d7 w7, wArr E q183 3 v8_234]) 8 0 rfl q_Arr (inB_vp g_25) (by rw [e_v8_234]; exact s_Arr) rfl dL_drawn_234 ?_
        obtain ⟨g_26, hf⟩ := gdE hf
        obtain ⟨g_27, hf⟩ := gdE hf
        obtain ⟨v1_235, e_v1_235⟩ : ∃ y : Nat, y = w1 + 1 := ⟨_, rfl⟩
        replace hf := ltE e_v1_235 hf
        refine ww_astR C (b := q183) (f := roF d2 w1) (w := wRO E d1 20 d2 w1) (w' := wRO E d1 20 (upA d2 w1 q183) v1_235) (wv := wArr E q183 3 v8_234) (gs' := [wOwn E d0 (rf4 d1 d4 d6 d3) v0_179, wRO E d1 20 (upA d2 w1 q183) v1_235, wRR E d2 w2, wArr E d3 4 w3, wRO E d4 12 d5 w4, wRR E d5 w5, wRO E d6 4 d7 w6, wRR E d7 w7, wArr E q183 3 v8_234]) 1 0 8 0 rfl q_RO rfl q_Arr (inB_vp g_26) (by rw [e_v1_235]; exact ro_app (of_decide_eq_true g_27).1) rfl dL_drawn_235 ?_
        obtain ⟨v2_235, e_v2_235⟩ : ∃ y : RowsT, y = rrApp w2 3 v8_234 := ⟨_, rfl⟩
        replace hf := ltE e_v2_235 hf
        refine ww_perm (gs' := [wOwn E d0 (rf4 d1 d4 d6 d3) v0_179, wRO E d1 20 (upA d2 w1 q183) v1_235, wRR E d2 w2, wArr E q183 3 v8_234, wArr E d3 4 w3, wRO E d4 12 d5 w4, wRR E d5 w5, wRO E d6 4 d7 w6, wRR E d7 w7]) [0, 1, 2, 8, 3, 4, 5, 6, 7] 9 rfl (by decide) rfl ?_
        refine ww_regr (gs' := [wOwn E d0 (rf4 d1 d4 d6 d3) v0_179, wRO E d1 20 (upA d2 w1 q183) v1_235, wRR E (upA d2 w1 q183) v2_235, wArr E d3 4 w3, wRO E d4 12 d5 w4, wRR E d5 w5, wRO E d6 4 d7 w6, wRR E d7 w7]) (by rw [e_v2_235, rr_app (of_decide_eq_true g_27).2]; simp only [List.flatten_cons, List.flatten_nil, List.append_assoc]) ?_
        obtain ⟨x5_236, e_x5_236⟩ : ∃ y : Int32, y = x5 + 1 := ⟨_, rfl⟩
        replace hf := ltE e_x5_236 hf
        refine ww_iinc (v := x5_236) (lv' := [(5, .int x5_236), (7, .int p162), (6, .int x6_154), (0, .ref (eB E)), (1, .int x1), (2, .ref (d0 0)), (3, .int x3), (4, .int x4)]) C dL_drawn_236 7 rfl (by rw [e_x5_236]; rfl) (by decide) rfl ?_
        refine ww_goto (tgt := 128) C dL_drawn_239 (by decide) ?_
        refine ww_sub C (lv' := [(0, .ref (eB E)), (1, .int x1), (2, .ref (d0 0)), (3, .int x3), (4, .int x4), (5, .int x5_236)]) [3, 4, 5, 6, 7, 0] rfl ?_
        exact ih _ _ _ _ _ _ _ _ _ _ _ _ _ _ _ _ _ _ _ (of_decide_eq_true g_17) hf

set_option maxHeartbeats 4000000 in
set_option maxRecDepth 100000 in
theorem w_L_drawn_78 {E : Ex} {K : Kx} (C : Cx E K cL_drawn 8 (some (.object "GuardWalksLaw$Own")) RL wsL_drawn rmL_drawn)  {L : Nat} {xs : Nat → Int32} {x1 : Int32}  {d0 : Nat → Nat} {d1 : Nat} {d2 : Nat → Nat} {d3 : Nat} {d4 : Nat} {d5 : Nat → Nat} {d6 : Nat} {d7 : Nat → Nat} {d8 : Nat} {x3 : Int32} {x4 : Int32} {s0 : Int32} {s1 : Int32} {s4 : Int32} {w0 : OwnV} {w1 : Nat} {w2 : RowsT} {w3 : Nat → Int32} {w4 : Nat} {w5 : RowsT} {w6 : Nat} {w7 : RowsT} {w8 : Nat → Int32} {c : Nat} {s : Nat} {k29 : Int32 → OwnV → Nat → RowsT → (Nat → Int32) → Nat → RowsT → Nat → RowsT → Nat → Nat → Option (OwnV × Nat × RowsT × Nat × RowsT × Nat × RowsT × (Nat → Int32))} {r : (OwnV × Nat × RowsT × Nat × RowsT × Nat × RowsT × (Nat → Int32))} (S0 : SXE E L xs) (hk29 : ∀ (d0 : Nat → Nat) (d1 : Nat) (d2 : Nat → Nat) (d3 : Nat) (d4 : Nat) (d5 : Nat → Nat) (d6 : Nat) (d7 : Nat → Nat) (x4 : Int32) (w0 : OwnV) (w1 : Nat) (w2 : RowsT) (w3 : Nat → Int32) (w4 : Nat) (w5 : RowsT) (w6 : Nat) (w7 : RowsT) (c : Nat) (s : Nat), c ≤ 64 ∧ s ≤ 600 → k29 x4 w0 w1 w2 w3 w4 w5 w6 w7 c s = some r → WW E K c s (QQ E K (fun rv g => ∃ (y0 : Nat → Nat) (y1 : Nat) (y2 : Nat → Nat) (y3 : Nat) (y4 : Nat → Nat) (y5 : Nat) (y6 : Nat → Nat) (y7 : Nat), rv = some (.ref (y0 0)) ∧ g = [wOwn E y0 (rf4 y1 y3 y5 y7) r.1, wRO E y1 20 y2 r.2.1, wRR E y2 r.2.2.1, wRO E y3 12 y4 r.2.2.2.1, wRR E y4 r.2.2.2.2.1, wRO E y5 4 y6 r.2.2.2.2.2.1, wRR E y6 r.2.2.2.2.2.2.1, wArr E y7 4 r.2.2.2.2.2.2.2]) 64 600) 29 [(0, .ref (eB E)), (1, .int x1), (2, .ref (d0 0)), (3, .int x3), (4, .int x4)] [] [wOwn E d0 (rf4 d1 d4 d6 d3) w0, wRO E d1 20 d2 w1, wRR E d2 w2, wArr E d3 4 w3, wRO E d4 12 d5 w4, wRR E d5 w5, wRO E d6 4 d7 w6, wRR E d7 w7]) (hcs : c ≤ 64 ∧ s ≤ 600) (hf : L_drawn_78 L xs x1 k29 x3 x4 s0 s1 s4 w0 w1 w2 w3 w4 w5 w6 w7 w8 c s = some r) : WW E K c s (QQ E K (fun rv g => ∃ (y0 : Nat → Nat) (y1 : Nat) (y2 : Nat → Nat) (y3 : Nat) (y4 : Nat → Nat) (y5 : Nat) (y6 : Nat → Nat) (y7 : Nat), rv = some (.ref (y0 0)) ∧ g = [wOwn E y0 (rf4 y1 y3 y5 y7) r.1, wRO E y1 20 y2 r.2.1, wRR E y2 r.2.2.1, wRO E y3 12 y4 r.2.2.2.1, wRR E y4 r.2.2.2.2.1, wRO E y5 4 y6 r.2.2.2.2.2.1, wRR E y6 r.2.2.2.2.2.2.1, wArr E y7 4 r.2.2.2.2.2.2.2]) 64 600) 78 [(0, .ref (eB E)), (1, .int x1), (2, .ref (d0 0)), (3, .int x3), (4, .int x4)] [.int s0, .int s1, .ref d8, .ref d8, .int s4, .ref d4] [wOwn E d0 (rf4 d1 d4 d6 d3) w0, wRO E d1 20 d2 w1, wRR E d2 w2, wArr E d3 4 w3, wRO E d4 12 d5 w4, wRR E d5 w5, wRO E d6 4 d7 w6, wRR E d7 w7, wArr E d8 5 w8] := by
  rw [L_drawn_78] at hf
  obtain ⟨g_7, hf⟩ := gdE hf
  obtain ⟨v8_78, e_v8_78⟩ : ∃ y : Nat → Int32, y = upd w8 (Int32.toNatClampNeg s1) s0 := ⟨_, rfl⟩
  replace hf := ltE e_v8_78 hf
  refine ww_iast C (f := w8) (w := wArr E d8 5 w8) (w' := wArr E d8 5 v8_78) (gs' := [wOwn E d0 (rf4 d1 d4 d6 d3) w0, wRO E d1 20 d2 w1, wRR E d2 w2, wArr E d3 4 w3, wRO E d4 12 d5 w4, wRR E d5 w5, wRO E d6 4 d7 w6, wRR E d7 w7, wArr E d8 5 v8_78]) 8 0 rfl q_Arr (inB_vp g_7) (by rw [e_v8_78]; exact s_Arr) rfl dL_drawn_78 ?_
  refine ww_dup C dL_drawn_79 rfl ?_
  refine ww_iconst (v := 1) C dL_drawn_80 (by decide) ?_
  refine ww_iconst (v := 0) C dL_drawn_81 (by decide) ?_
  obtain ⟨g_8, hf⟩ := gdE hf
  obtain ⟨v8_82, e_v8_82⟩ : ∃ y : Nat → Int32, y = upd v8_78 (Int32.toNatClampNeg 1) 0 := ⟨_, rfl⟩
  replace hf := ltE e_v8_82 hf
  refine ww_iast C (f := v8_78) (w := wArr E d8 5 v8_78) (w' := wArr E d8 5 v8_82) (gs' := [wOwn E d0 (rf4 d1 d4 d6 d3) w0, wRO E d1 20 d2 w1, wRR E d2 w2, wArr E d3 4 w3, wRO E d4 12 d5 w4, wRR E d5 w5, wRO E d6 4 d7 w6, wRR E d7 w7, wArr E d8 5 v8_82]) 8 0 rfl q_Arr (inB_vp g_8) (by rw [e_v8_82]; exact s_Arr) rfl dL_drawn_82 ?_
  refine ww_dup C dL_drawn_83 rfl ?_
  refine ww_iconst (v := 2) C dL_drawn_84 (by decide) ?_
  refine ww_iconst (v := (-1)) C dL_drawn_85 (by decide) ?_
  obtain ⟨g_9, hf⟩ := gdE hf
  obtain ⟨v8_86, e_v8_86⟩ : ∃ y : Nat → Int32, y = upd v8_82 (Int32.toNatClampNeg 2) (-1) := ⟨_, rfl⟩
  replace hf := ltE e_v8_86 hf
  refine ww_iast C (f := v8_82) (w := wArr E d8 5 v8_82) (w' := wArr E d8 5 v8_86) (gs' := [wOwn E d0 (rf4 d1 d4 d6 d3) w0, wRO E d1 20 d2 w1, wRR E d2 w2, wArr E d3 4 w3, wRO E d4 12 d5 w4, wRR E d5 w5, wRO E d6 4 d7 w6, wRR E d7 w7, wArr E d8 5 v8_86]) 8 0 rfl q_Arr (inB_vp g_9) (by rw [e_v8_86]; exact s_Arr) rfl dL_drawn_86 ?_
  refine ww_dup C dL_drawn_87 rfl ?_
  refine ww_iconst (v := 3) C dL_drawn_88 (by decide) ?_
  refine ww_iconst (v := 0) C dL_drawn_89 (by decide) ?_
  obtain ⟨g_10, hf⟩ := gdE hf
  obtain ⟨v8_90, e_v8_90⟩ : ∃ y : Nat → Int32, y = upd v8_86 (Int32.toNatClampNeg 3) 0 := ⟨_, rfl⟩
  replace hf := ltE e_v8_90 hf
  refine ww_iast C (f := v8_86) (w := wArr E d8 5 v8_86) (w' := wArr E d8 5 v8_90) (gs' := [wOwn E d0 (rf4 d1 d4 d6 d3) w0, wRO E d1 20 d2 w1, wRR E d2 w2, wArr E d3 4 w3, wRO E d4 12 d5 w4, wRR E d5 w5, wRO E d6 4 d7 w6, wRR E d7 w7, wArr E d8 5 v8_90]) 8 0 rfl q_Arr (inB_vp g_10) (by rw [e_v8_90]; exact s_Arr) rfl dL_drawn_90 ?_
  refine ww_dup C dL_drawn_91 rfl ?_
  refine ww_iconst (v := 4) C dL_drawn_92 (by decide) ?_
  refine ww_iconst (v := 0) C dL_drawn_93 (by decide) ?_
  obtain ⟨g_11, hf⟩ := gdE hf
  obtain ⟨v8_94, e_v8_94⟩ : ∃ y : Nat → Int32, y = upd v8_90 (Int32.toNatClampNeg 4) 0 := ⟨_, rfl⟩
  replace hf := ltE e_v8_94 hf
  refine ww_iast C (f := v8_90) (w := wArr E d8 5 v8_90) (w' := wArr E d8 5 v8_94) (gs' := [wOwn E d0 (rf4 d1 d4 d6 d3) w0, wRO E d1 20 d2 w1, wRR E d2 w2, wArr E d3 4 w3, wRO E d4 12 d5 w4, wRR E d5 w5, wRO E d6 4 d7 w6, wRR E d7 w7, wArr E d8 5 v8_94]) 8 0 rfl q_Arr (inB_vp g_11) (by rw [e_v8_94]; exact s_Arr) rfl dL_drawn_94 ?_
  obtain ⟨g_12, hf⟩ := gdE hf
  obtain ⟨g_13, hf⟩ := gdE hf
  obtain ⟨v4_95, e_v4_95⟩ : ∃ y : Nat, y = w4 + 1 := ⟨_, rfl⟩
  replace hf := ltE e_v4_95 hf
  refine ww_astR C (b := d8) (f := roF d5 w4) (w := wRO E d4 12 d5 w4) (w' := wRO E d4 12 (upA d5 w4 d8) v4_95) (wv := wArr E d8 5 v8_94) (gs' := [wOwn E d0 (rf4 d1 d4 d6 d3) w0, wRO E d1 20 d2 w1, wRR E d2 w2, wArr E d3 4 w3, wRO E d4 12 (upA d5 w4 d8) v4_95, wRR E d5 w5, wRO E d6 4 d7 w6, wRR E d7 w7, wArr E d8 5 v8_94]) 4 0 8 0 rfl q_RO rfl q_Arr (inB_vp g_12) (by rw [e_v4_95]; exact ro_app (of_decide_eq_true g_13).1) rfl dL_drawn_95 ?_
  obtain ⟨v5_95, e_v5_95⟩ : ∃ y : RowsT, y = rrApp w5 5 v8_94 := ⟨_, rfl⟩
  replace hf := ltE e_v5_95 hf
  refine ww_perm (gs' := [wOwn E d0 (rf4 d1 d4 d6 d3) w0, wRO E d1 20 d2 w1, wRR E d2 w2, wArr E d3 4 w3, wRO E d4 12 (upA d5 w4 d8) v4_95, wRR E d5 w5, wArr E d8 5 v8_94, wRO E d6 4 d7 w6, wRR E d7 w7]) [0, 1, 2, 3, 4, 5, 8, 6, 7] 9 rfl (by decide) rfl ?_
  refine ww_regr (gs' := [wOwn E d0 (rf4 d1 d4 d6 d3) w0, wRO E d1 20 d2 w1, wRR E d2 w2, wArr E d3 4 w3, wRO E d4 12 (upA d5 w4 d8) v4_95, wRR E (upA d5 w4 d8) v5_95, wRO E d6 4 d7 w6, wRR E d7 w7]) (by rw [e_v5_95, rr_app (of_decide_eq_true g_13).2]; simp only [List.flatten_cons, List.flatten_nil, List.append_assoc]) ?_
  obtain ⟨x4_96, e_x4_96⟩ : ∃ y : Int32, y = x4 + 1 := ⟨_, rfl⟩
  replace hf := ltE e_x4_96 hf
  refine ww_iinc (v := x4_96) (lv' := [(4, .int x4_96), (0, .ref (eB E)), (1, .int x1), (2, .ref (d0 0)), (3, .int x3)]) C dL_drawn_96 4 rfl (by rw [e_x4_96]; rfl) (by decide) rfl ?_
  refine ww_goto (tgt := 29) C dL_drawn_99 (by decide) ?_
  refine ww_sub C (lv' := [(0, .ref (eB E)), (1, .int x1), (2, .ref (d0 0)), (3, .int x3), (4, .int x4_96)]) [1, 2, 3, 4, 0] rfl ?_
  exact hk29 _ _ _ _ _ _ _ _ _ _ _ _ _ _ _ _ _ _ _ hcs hf

set_option maxHeartbeats 4000000 in
set_option maxRecDepth 100000 in
theorem w_L_drawn_29 {E : Ex} {K : Kx} (C : Cx E K cL_drawn 8 (some (.object "GuardWalksLaw$Own")) RL wsL_drawn rmL_drawn)  {L : Nat} {xs : Nat → Int32} {x1 : Int32} {x3 : Int32} {r : (OwnV × Nat × RowsT × Nat × RowsT × Nat × RowsT × (Nat → Int32))} (S0 : SXE E L xs) : ∀ (n : Nat) (d0 : Nat → Nat) (d1 : Nat) (d2 : Nat → Nat) (d3 : Nat) (d4 : Nat) (d5 : Nat → Nat) (d6 : Nat) (d7 : Nat → Nat) (x4 : Int32) (w0 : OwnV) (w1 : Nat) (w2 : RowsT) (w3 : Nat → Int32) (w4 : Nat) (w5 : RowsT) (w6 : Nat) (w7 : RowsT) (c : Nat) (s : Nat), c ≤ 64 ∧ s ≤ 600 → L_drawn_29 L xs x1 x3 n x4 w0 w1 w2 w3 w4 w5 w6 w7 c s = some r → WW E K c s (QQ E K (fun rv g => ∃ (y0 : Nat → Nat) (y1 : Nat) (y2 : Nat → Nat) (y3 : Nat) (y4 : Nat → Nat) (y5 : Nat) (y6 : Nat → Nat) (y7 : Nat), rv = some (.ref (y0 0)) ∧ g = [wOwn E y0 (rf4 y1 y3 y5 y7) r.1, wRO E y1 20 y2 r.2.1, wRR E y2 r.2.2.1, wRO E y3 12 y4 r.2.2.2.1, wRR E y4 r.2.2.2.2.1, wRO E y5 4 y6 r.2.2.2.2.2.1, wRR E y6 r.2.2.2.2.2.2.1, wArr E y7 4 r.2.2.2.2.2.2.2]) 64 600) 29 [(0, .ref (eB E)), (1, .int x1), (2, .ref (d0 0)), (3, .int x3), (4, .int x4)] [] [wOwn E d0 (rf4 d1 d4 d6 d3) w0, wRO E d1 20 d2 w1, wRR E d2 w2, wArr E d3 4 w3, wRO E d4 12 d5 w4, wRR E d5 w5, wRO E d6 4 d7 w6, wRR E d7 w7] := by
  intro n
  induction n with
  | zero =>
    intro d0 d1 d2 d3 d4 d5 d6 d7 x4 w0 w1 w2 w3 w4 w5 w6 w7 c s hcs hf
    simp [L_drawn_29] at hf
  | succ n ih =>
    intro d0 d1 d2 d3 d4 d5 d6 d7 x4 w0 w1 w2 w3 w4 w5 w6 w7 c s hcs hf
    rw [L_drawn_29] at hf
    refine ww_iload C dL_drawn_29 4 rfl ?_
    refine ww_aload_n C dL_drawn_31 rfl 2 rfl ?_
    refine ww_getN (host := RL) C clOK9 in_L_drawn_X9 (w := wOwn E d0 (rf4 d1 d4 d6 d3) w0) (fs := fsOwn d0 (rf4 d1 d4 d6 d3) w0) (v := .int (Own_rooms w0)) 0 0 0 rfl q_Own (by decide) (by decide +kernel) g_Own_rooms dL_drawn_32 ?_
    refine ww_icmp_ge (tgt := 102) C dL_drawn_35 (by decide) (fun c_3 => ?_) (fun c_3 => ?_)
    · replace hf := ifT c_3 hf
      refine ww_aload_n C dL_drawn_102 rfl 2 rfl ?_
      refine ww_getN (host := RL) C clOK9 in_L_drawn_X9 (w := wOwn E d0 (rf4 d1 d4 d6 d3) w0) (fs := fsOwn d0 (rf4 d1 d4 d6 d3) w0) (v := .int (Own_rooms w0)) 0 0 0 rfl q_Own (by decide) (by decide +kernel) g_Own_rooms dL_drawn_103 ?_
      refine ww_iconst (v := 1) C dL_drawn_106 (by decide) ?_
      refine ww_icmp_ne (tgt := 114) C dL_drawn_107 (by decide) (fun c_4 => ?_) (fun c_4 => ?_)
      · replace hf := ifF c_4 hf
        refine ww_iload_n C dL_drawn_114 rfl 3 rfl ?_
        refine ww_bipush (v := 9) C dL_drawn_115 (by decide) ?_
        refine ww_ishr C dL_drawn_117 ?_
        refine ww_bipush (v := 11) C dL_drawn_118 (by decide) ?_
        obtain ⟨p120, hp120, hf⟩ := bdE hf
        refine ww_callS C (As := [.int (x3 >>> (9 &&& 31)), .int 11]) (st := []) (gr := [wOwn E d0 (rf4 d1 d4 d6 d3) w0, wRO E d1 20 d2 w1, wRR E d2 w2, wArr E d3 4 w3, wRO E d4 12 d5 w4, wRR E d5 w5, wRO E d6 4 d7 w6, wRR E d7 w7]) (c_L_most (E := E)  hp120) gL_drawn_L_most rfl ysk_L_most ⟨by decide, Nat.le_of_ble_eq_true rfl⟩ hcs [] [0, 1, 2, 3, 4, 5, 6, 7] 8 rfl (by decide) rfl rfl (Nat.le_of_ble_eq_true rfl) dL_drawn_120 ?_
        rintro _ _ ⟨rfl, rfl⟩
        refine ww_perm (gs' := [wOwn E d0 (rf4 d1 d4 d6 d3) w0, wRO E d1 20 d2 w1, wRR E d2 w2, wArr E d3 4 w3, wRO E d4 12 d5 w4, wRR E d5 w5, wRO E d6 4 d7 w6, wRR E d7 w7]) [0, 1, 2, 3, 4, 5, 6, 7] 8 rfl (by decide) rfl ?_
        refine ww_istore (lv' := [(4, .int p120), (0, .ref (eB E)), (1, .int x1), (2, .ref (d0 0)), (3, .int x3)]) C dL_drawn_123 (by decide) rfl ?_
        refine ww_iconst (v := 0) C dL_drawn_125 (by decide) ?_
        refine ww_istore (lv' := [(5, .int 0), (4, .int p120), (0, .ref (eB E)), (1, .int x1), (2, .ref (d0 0)), (3, .int x3)]) C dL_drawn_126 (by decide) rfl ?_
        refine ww_sub C (lv' := [(0, .ref (eB E)), (1, .int x1), (2, .ref (d0 0)), (3, .int x3), (4, .int p120), (5, .int 0)]) [2, 3, 4, 5, 1, 0] rfl ?_
        exact w_L_drawn_128 C S0 FU _ _ _ _ _ _ _ _ _ _ _ _ _ _ _ _ _ _ _ hcs hf
      · replace hf := ifT c_4 hf
        refine ww_iconst (v := 0) C dL_drawn_110 (by decide) ?_
        refine ww_goto (tgt := 123) C dL_drawn_111 (by decide) ?_
        refine ww_istore (lv' := [(4, .int 0), (0, .ref (eB E)), (1, .int x1), (2, .ref (d0 0)), (3, .int x3)]) C dL_drawn_123 (by decide) rfl ?_
        refine ww_iconst (v := 0) C dL_drawn_125 (by decide) ?_
        refine ww_istore (lv' := [(5, .int 0), (4, .int 0), (0, .ref (eB E)), (1, .int x1), (2, .ref (d0 0)), (3, .int x3)]) C dL_drawn_126 (by decide) rfl ?_
        refine ww_sub C (lv' := [(0, .ref (eB E)), (1, .int x1), (2, .ref (d0 0)), (3, .int x3), (4, .int 0), (5, .int 0)]) [2, 3, 4, 5, 1, 0] rfl ?_
        exact w_L_drawn_128 C S0 FU _ _ _ _ _ _ _ _ _ _ _ _ _ _ _ _ _ _ _ hcs hf
    · replace hf := ifF c_3 hf
      refine ww_aload_n C dL_drawn_38 rfl 2 rfl ?_
      refine ww_getN (host := RL) C clOK9 in_L_drawn_X9 (w := wOwn E d0 (rf4 d1 d4 d6 d3) w0) (fs := fsOwn d0 (rf4 d1 d4 d6 d3) w0) (v := .ref d4) 0 0 5 rfl q_Own (by decide) (by decide +kernel) g_Own_room dL_drawn_39 ?_
      refine ww_iload C dL_drawn_42 4 rfl ?_
      refine ww_iconst (v := 5) C dL_drawn_44 (by decide) ?_
      obtain ⟨g_5, hf⟩ := gdE hf
      refine ww_newi C (by decide +kernel) 5 (by decide) (by decide) (by decide) (of_decide_eq_true g_5) dL_drawn_45 (fun q45 => ?_)
      refine ww_eq (gs' := [wOwn E d0 (rf4 d1 d4 d6 d3) w0, wRO E d1 20 d2 w1, wRR E d2 w2, wArr E d3 4 w3, wRO E d4 12 d5 w4, wRR E d5 w5, wRO E d6 4 d7 w6, wRR E d7 w7, wArr E q45 5 (fun _ => 0)]) rfl ?_
      refine ww_dup C dL_drawn_47 rfl ?_
      refine ww_iconst (v := 0) C dL_drawn_48 (by decide) ?_
      refine ww_iload_n C dL_drawn_49 rfl 3 rfl ?_
      refine ww_iconst (v := 3) C dL_drawn_50 (by decide) ?_
      refine ww_iload C dL_drawn_51 4 rfl ?_
      refine ww_iadd C dL_drawn_53 ?_
      refine ww_ishr C dL_drawn_54 ?_
      refine ww_iconst (v := 3) C dL_drawn_55 (by decide) ?_
      obtain ⟨p56, hp56, hf⟩ := bdE hf
      refine ww_callS C (As := [.int (x3 >>> ((3 + x4) &&& 31)), .int 3]) (st := [.int 0, .ref q45, .ref q45, .int x4, .ref d4]) (gr := [wOwn E d0 (rf4 d1 d4 d6 d3) w0, wRO E d1 20 d2 w1, wRR E d2 w2, wArr E d3 4 w3, wRO E d4 12 d5 w4, wRR E d5 w5, wRO E d6 4 d7 w6, wRR E d7 w7, wArr E q45 5 (fun _ => 0)]) (c_L_most (E := E)  hp56) gL_drawn_L_most rfl ysk_L_most ⟨by decide, Nat.le_of_ble_eq_true rfl⟩ (of_decide_eq_true g_5) [] [0, 1, 2, 3, 4, 5, 6, 7, 8] 9 rfl (by decide) rfl rfl (Nat.le_of_ble_eq_true rfl) dL_drawn_56 ?_
      rintro _ _ ⟨rfl, rfl⟩
      refine ww_perm (gs' := [wOwn E d0 (rf4 d1 d4 d6 d3) w0, wRO E d1 20 d2 w1, wRR E d2 w2, wArr E d3 4 w3, wRO E d4 12 d5 w4, wRR E d5 w5, wRO E d6 4 d7 w6, wRR E d7 w7, wArr E q45 5 (fun _ => 0)]) [0, 1, 2, 3, 4, 5, 6, 7, 8] 9 rfl (by decide) rfl ?_
      refine ww_if_ne (tgt := 67) C dL_drawn_59 (by decide) (fun c_6 => ?_) (fun c_6 => ?_)
      · replace hf := ifF c_6 hf
        refine ww_iload_n C dL_drawn_67 rfl 3 rfl ?_
        refine ww_iconst (v := 2) C dL_drawn_68 (by decide) ?_
        refine ww_iload C dL_drawn_69 4 rfl ?_
        refine ww_imul C dL_drawn_71 ?_
        refine ww_ishr C dL_drawn_72 ?_
        refine ww_bipush (v := 7) C dL_drawn_73 (by decide) ?_
        obtain ⟨p75, hp75, hf⟩ := bdE hf
        refine ww_callS C (As := [.int (x3 >>> ((2 * x4) &&& 31)), .int 7]) (st := [.int 0, .ref q45, .ref q45, .int x4, .ref d4]) (gr := [wOwn E d0 (rf4 d1 d4 d6 d3) w0, wRO E d1 20 d2 w1, wRR E d2 w2, wArr E d3 4 w3, wRO E d4 12 d5 w4, wRR E d5 w5, wRO E d6 4 d7 w6, wRR E d7 w7, wArr E q45 5 (fun _ => 0)]) (c_L_most (E := E)  hp75) gL_drawn_L_most rfl ysk_L_most ⟨by decide, Nat.le_of_ble_eq_true rfl⟩ (of_decide_eq_true g_5) [] [0, 1, 2, 3, 4, 5, 6, 7, 8] 9 rfl (by decide) rfl rfl (Nat.le_of_ble_eq_true rfl) dL_drawn_75 ?_
        rintro _ _ ⟨rfl, rfl⟩
        refine ww_perm (gs' := [wOwn E d0 (rf4 d1 d4 d6 d3) w0, wRO E d1 20 d2 w1, wRR E d2 w2, wArr E d3 4 w3, wRO E d4 12 d5 w4, wRR E d5 w5, wRO E d6 4 d7 w6, wRR E d7 w7, wArr E q45 5 (fun _ => 0)]) [0, 1, 2, 3, 4, 5, 6, 7, 8] 9 rfl (by decide) rfl ?_
        refine ww_sub C (lv' := [(0, .ref (eB E)), (1, .int x1), (2, .ref (d0 0)), (3, .int x3), (4, .int x4)]) [0, 1, 2, 3, 4] rfl ?_
        exact w_L_drawn_78 C S0 (k29 := (fun (x4 : Int32) (w0 : OwnV) (w1 : Nat) (w2 : RowsT) (w3 : Nat → Int32) (w4 : Nat) (w5 : RowsT) (w6 : Nat) (w7 : RowsT) (c : Nat) (s : Nat) => L_drawn_29 L xs x1 x3 n x4 w0 w1 w2 w3 w4 w5 w6 w7 c s)) ih (of_decide_eq_true g_5) hf
      · replace hf := ifT c_6 hf
        refine ww_bipush (v := 99) C dL_drawn_62 (by decide) ?_
        refine ww_goto (tgt := 78) C dL_drawn_64 (by decide) ?_
        refine ww_sub C (lv' := [(0, .ref (eB E)), (1, .int x1), (2, .ref (d0 0)), (3, .int x3), (4, .int x4)]) [0, 1, 2, 3, 4] rfl ?_
        exact w_L_drawn_78 C S0 (k29 := (fun (x4 : Int32) (w0 : OwnV) (w1 : Nat) (w2 : RowsT) (w3 : Nat → Int32) (w4 : Nat) (w5 : RowsT) (w6 : Nat) (w7 : RowsT) (c : Nat) (s : Nat) => L_drawn_29 L xs x1 x3 n x4 w0 w1 w2 w3 w4 w5 w6 w7 c s)) ih (of_decide_eq_true g_5) hf

set_option maxHeartbeats 4000000 in
set_option maxRecDepth 100000 in
theorem c_L_drawn {E : Ex}  {L : Nat} {xs : Nat → Int32} {x1 : Int32} {r : (OwnV × Nat × RowsT × Nat × RowsT × Nat × RowsT × (Nat → Int32))} (S0 : SXE E L xs) (hf : L_drawn L xs x1 = some r) : Ct E yL_drawn wsL_drawn rmL_drawn [.ref (eB E), .int x1] [] (fun rv g => ∃ (y0 : Nat → Nat) (y1 : Nat) (y2 : Nat → Nat) (y3 : Nat) (y4 : Nat → Nat) (y5 : Nat) (y6 : Nat → Nat) (y7 : Nat), rv = some (.ref (y0 0)) ∧ g = [wOwn E y0 (rf4 y1 y3 y5 y7) r.1, wRO E y1 20 y2 r.2.1, wRR E y2 r.2.2.1, wRO E y3 12 y4 r.2.2.2.1, wRR E y4 r.2.2.2.2.1, wRO E y5 4 y6 r.2.2.2.2.2.1, wRR E y6 r.2.2.2.2.2.2.1, wArr E y7 4 r.2.2.2.2.2.2.2]) := by
  refine ct_of (own := RL) (by decide +kernel) rfl rfl (Nat.le_of_ble_eq_true rfl) (fun K C => ?_)
  refine ww_sub C (lv' := [(0, .ref (eB E)), (1, .int x1)]) [0, 1] rfl ?_
  rw [L_drawn] at hf
  obtain ⟨g_1, hf⟩ := gdE hf
  refine ww_new C [.int 0, .int 0, .int 0, .int 0, .null, .null, .null, .null] clOK9 in_L_drawn_X9 (by decide +kernel) (by decide +kernel) (by decide +kernel) hfs_X9 (of_decide_eq_true g_1) dL_drawn_0 (fun q0 => ?_)
  refine ww_eq (gs' := [[(q0, .inr (9, [.int 0, .int 0, .int 0, .int 0, .null, .null, .null, .null]))]]) rfl ?_
  refine ww_dup C dL_drawn_3 rfl ?_
  obtain ⟨g_2, hf⟩ := gdE hf
  refine ww_callIN C (As := []) (st := [.ref q0]) (gr := []) (host := RL) (c_X9_init (E := E) (b0 := q0) (da := (fun _ => 0)) (ra := (fun _ => 0)) (wa := (fun _ => 0))) gL_drawn_X9_init_n22 rfl (by decide +kernel) (by decide +kernel) (by decide +kernel) yi_X9_init ⟨by decide, Nat.le_of_ble_eq_true rfl⟩ (of_decide_eq_true g_2) [0] [] 1 rfl (by decide) rfl rfl (Nat.le_of_ble_eq_true rfl) dL_drawn_4 ?_
  rintro _ _ ⟨rfl, o4, q4_d, q4_r, q4_w, q4_f, rfl, rfl⟩
  refine ww_perm (gs' := [wOwn E o4 (rf4 q4_d q4_r q4_w q4_f) Own0, wRO E q4_d 20 (fun _ => 0) 0, wRO E q4_r 12 (fun _ => 0) 0, wRO E q4_w 4 (fun _ => 0) 0, wArr E q4_f 4 (fun _ => 0)]) [0, 1, 2, 3, 4] 5 rfl (by decide) rfl ?_
  refine ww_regr (gs' := [wOwn E o4 (rf4 q4_d q4_r q4_w q4_f) Own0, wRO E q4_d 20 (fun _ => 0) 0, wRO E q4_r 12 (fun _ => 0) 0, wRO E q4_w 4 (fun _ => 0) 0, wArr E q4_f 4 (fun _ => 0), wRR E (fun _ => 0) rr0, wRR E (fun _ => 0) rr0, wRR E (fun _ => 0) rr0]) (by simp only [rr_zero, List.flatten_cons, List.flatten_nil, List.nil_append]) ?_
  refine ww_astore_n (lv' := [(2, .ref (o4 0)), (0, .ref (eB E)), (1, .int x1)]) C dL_drawn_7 rfl (by decide) rfl ?_
  refine ww_aload_n C dL_drawn_8 rfl 1 rfl ?_
  refine ww_iload_n C dL_drawn_9 rfl 2 rfl ?_
  obtain ⟨p10, hp10, hf⟩ := bdE hf
  refine ww_callS C (As := [.ref (eB E), .int x1]) (st := []) (gr := [wOwn E o4 (rf4 q4_d q4_r q4_w q4_f) Own0, wRO E q4_d 20 (fun _ => 0) 0, wRO E q4_r 12 (fun _ => 0) 0, wRO E q4_w 4 (fun _ => 0) 0, wArr E q4_f 4 (fun _ => 0), wRR E (fun _ => 0) rr0, wRR E (fun _ => 0) rr0, wRR E (fun _ => 0) rr0]) (c_L_cell (E := E)  S0 hp10) gL_drawn_L_cell rfl ysk_L_cell ⟨by decide, Nat.le_of_ble_eq_true rfl⟩ (of_decide_eq_true g_2) [] [0, 1, 2, 3, 4, 5, 6, 7] 8 rfl (by decide) rfl rfl (Nat.le_of_ble_eq_true rfl) dL_drawn_10 ?_
  rintro _ _ ⟨rfl, rfl⟩
  refine ww_perm (gs' := [wOwn E o4 (rf4 q4_d q4_r q4_w q4_f) Own0, wRO E q4_d 20 (fun _ => 0) 0, wRO E q4_r 12 (fun _ => 0) 0, wRO E q4_w 4 (fun _ => 0) 0, wArr E q4_f 4 (fun _ => 0), wRR E (fun _ => 0) rr0, wRR E (fun _ => 0) rr0, wRR E (fun _ => 0) rr0]) [0, 1, 2, 3, 4, 5, 6, 7] 8 rfl (by decide) rfl ?_
  refine ww_istore_n (lv' := [(3, .int p10), (2, .ref (o4 0)), (0, .ref (eB E)), (1, .int x1)]) C dL_drawn_13 rfl (by decide) rfl ?_
  refine ww_aload_n C dL_drawn_14 rfl 1 rfl ?_
  refine ww_iconst (v := 1) C dL_drawn_15 (by decide) ?_
  refine ww_iload_n C dL_drawn_16 rfl 0 rfl ?_
  refine ww_bipush (v := 6) C dL_drawn_17 (by decide) ?_
  obtain ⟨p19, hp19, hf⟩ := bdE hf
  refine ww_callS C (As := [.int p10, .int 6]) (st := [.int 1, .ref (o4 0)]) (gr := [wOwn E o4 (rf4 q4_d q4_r q4_w q4_f) Own0, wRO E q4_d 20 (fun _ => 0) 0, wRO E q4_r 12 (fun _ => 0) 0, wRO E q4_w 4 (fun _ => 0) 0, wArr E q4_f 4 (fun _ => 0), wRR E (fun _ => 0) rr0, wRR E (fun _ => 0) rr0, wRR E (fun _ => 0) rr0]) (c_L_most (E := E)  hp19) gL_drawn_L_most rfl ysk_L_most ⟨by decide, Nat.le_of_ble_eq_true rfl⟩ (of_decide_eq_true g_2) [] [0, 1, 2, 3, 4, 5, 6, 7] 8 rfl (by decide) rfl rfl (Nat.le_of_ble_eq_true rfl) dL_drawn_19 ?_
  rintro _ _ ⟨rfl, rfl⟩
  refine ww_perm (gs' := [wOwn E o4 (rf4 q4_d q4_r q4_w q4_f) Own0, wRO E q4_d 20 (fun _ => 0) 0, wRO E q4_r 12 (fun _ => 0) 0, wRO E q4_w 4 (fun _ => 0) 0, wArr E q4_f 4 (fun _ => 0), wRR E (fun _ => 0) rr0, wRR E (fun _ => 0) rr0, wRR E (fun _ => 0) rr0]) [0, 1, 2, 3, 4, 5, 6, 7] 8 rfl (by decide) rfl ?_
  refine ww_iadd C dL_drawn_22 ?_
  obtain ⟨v0_23, e_v0_23⟩ : ∃ y : OwnV, y = Own_set_rooms Own0 (1 + p19) := ⟨_, rfl⟩
  replace hf := ltE e_v0_23 hf
  refine ww_putN (host := RL) C clOK9 in_L_drawn_X9 (w := wOwn E o4 (rf4 q4_d q4_r q4_w q4_f) Own0) (fs := fsOwn o4 (rf4 q4_d q4_r q4_w q4_f) Own0) (w' := wOwn E o4 (rf4 q4_d q4_r q4_w q4_f) v0_23) (gs' := [wOwn E o4 (rf4 q4_d q4_r q4_w q4_f) v0_23, wRO E q4_d 20 (fun _ => 0) 0, wRO E q4_r 12 (fun _ => 0) 0, wRO E q4_w 4 (fun _ => 0) 0, wArr E q4_f 4 (fun _ => 0), wRR E (fun _ => 0) rr0, wRR E (fun _ => 0) rr0, wRR E (fun _ => 0) rr0]) 0 0 0 rfl q_Own (by decide) (by decide +kernel) rfl rfl rfl rfl l_Own (by rw [e_v0_23]; exact p_Own_rooms) rfl dL_drawn_23 ?_
  refine ww_iconst (v := 0) C dL_drawn_26 (by decide) ?_
  refine ww_istore (lv' := [(4, .int 0), (3, .int p10), (2, .ref (o4 0)), (0, .ref (eB E)), (1, .int x1)]) C dL_drawn_27 (by decide) rfl ?_
  refine ww_perm (gs' := [wOwn E o4 (rf4 q4_d q4_r q4_w q4_f) v0_23, wRO E q4_d 20 (fun _ => 0) 0, wRR E (fun _ => 0) rr0, wArr E q4_f 4 (fun _ => 0), wRO E q4_r 12 (fun _ => 0) 0, wRR E (fun _ => 0) rr0, wRO E q4_w 4 (fun _ => 0) 0, wRR E (fun _ => 0) rr0]) [0, 1, 5, 4, 2, 6, 3, 7] 8 rfl (by decide) rfl ?_
  refine ww_sub C (lv' := [(0, .ref (eB E)), (1, .int x1), (2, .ref (o4 0)), (3, .int p10), (4, .int 0)]) [3, 4, 2, 1, 0] rfl ?_
  exact w_L_drawn_29 C S0 FU _ _ _ _ _ _ _ _ _ _ _ _ _ _ _ _ _ _ _ (of_decide_eq_true g_2) hf

theorem ysk_L_drawn : yL_drawn.cls ≠ "java/lang/invoke/MethodHandle" ∧ yL_drawn.cls ≠ "java/lang/invoke/VarHandle" ∧ (parseMethodDescriptor yL_drawn.desc).map (fun d => d.parameters.length) = some 2 := by decide +kernel
