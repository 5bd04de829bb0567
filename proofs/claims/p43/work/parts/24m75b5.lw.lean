abbrev rmL_act : Room := { frames := 10, cells := 20700, slots := 44000, locals := 316 }
set_option maxRecDepth 20000 in
theorem in_L_act_X9 : ∀ w ∈ u_ws RX9 TX9 8, w ∈ wsL_act := by decide +kernel
set_option maxHeartbeats 4000000 in
set_option maxRecDepth 100000 in
theorem w_L_act_118 {E : Ex} {K : Kx} (C : Cx E K cL_act 9 (some .int) RL wsL_act rmL_act) {a0 : Nat → Nat} {a1 : Nat → Nat} {a2 : Nat → Nat} {a3 : Nat → Nat} {q4 : Nat} {ah4 : Nat → Nat → Nat} {a5 : Nat → Nat} {a6 : Nat → Nat} {a7 : Nat → Nat} {a8 : Nat → Nat} {a9 : Nat → Nat} {a10 : Nat → Nat} {q11 : Nat} {a12 : Nat → Nat} {q13 : Nat} {a14 : Nat → Nat} {q15 : Nat} {a16 : Nat → Nat} {q17 : Nat} {a18 : Nat → Nat} {q19 : Nat} {h0_4 h0_6 h0_9 h3_1 : Nat} {x3 : Int32}   {x6 : Int32} {s0 : Int32} {s1 : Int32} {s2 : Int32} {r3 : Nat} {v0 : GWV} {v1 : HouseV} {v2 : HouseV} {v3 : HistV} {v4 : Nat → HouseV} {v5 : SightV} {v6 : BestV} {v7 : HouseV} {v8 : SightV} {v9 : ToksV} {v11 : Nat → Int32} {v12 : OwnV} {v13 : Nat} {v14 : RowsT} {v15 : Nat} {v16 : RowsT} {v17 : Nat} {v18 : RowsT} {v19 : Nat → Int32} {c : Nat} {s : Nat} {r : (Int32 × GWV × HouseV × HouseV × HistV × (Nat → HouseV) × SightV × BestV × HouseV × SightV × ToksV × (Nat → Int32) × OwnV × Nat × RowsT × Nat × RowsT × Nat × RowsT × (Nat → Int32))} (hcs : c ≤ 20700 ∧ s ≤ 44000) (hf : L_act_118 x3 x6 s0 s1 s2 r3 v0 v1 v2 v3 v4 v5 v6 v7 v8 v9 v11 v12 v13 v14 v15 v16 v17 v18 v19 c s = some r) : WW E K c s (QQ E K (fun rv g => ∃ (z18 : Nat → Nat), rv = some (.int r.1) ∧ g = [wGW E a0 (rf10 (a1 0) (a2 0) (a3 0) (a5 0) h0_4 (a6 0) h0_6 (a9 0) (a10 0) h0_9) r.2.1, wHouse E a1 r.2.2.1, wHouse E a2 r.2.2.2.1, wHist E a3 (rf2 q4 h3_1) r.2.2.2.2.1, wHs E q4 ah4 r.2.2.2.2.2.1, wSight E a5 r.2.2.2.2.2.2.1, wBest E a6 (rf2 (a7 0) (a8 0)) r.2.2.2.2.2.2.2.1, wHouse E a7 r.2.2.2.2.2.2.2.2.1, wSight E a8 r.2.2.2.2.2.2.2.2.2.1, wToks E a9 r.2.2.2.2.2.2.2.2.2.2.1, wHRead E a10 (rf1 (a9 0)), wArr E q11 6 r.2.2.2.2.2.2.2.2.2.2.2.1, wOwn E a12 (rf4 q13 q15 q17 q19) r.2.2.2.2.2.2.2.2.2.2.2.2.1, wRO E q13 20 a14 r.2.2.2.2.2.2.2.2.2.2.2.2.2.1, wRR E a14 r.2.2.2.2.2.2.2.2.2.2.2.2.2.2.1, wRO E q15 12 a16 r.2.2.2.2.2.2.2.2.2.2.2.2.2.2.2.1, wRR E a16 r.2.2.2.2.2.2.2.2.2.2.2.2.2.2.2.2.1, wRO E q17 4 z18 r.2.2.2.2.2.2.2.2.2.2.2.2.2.2.2.2.2.1, wRR E z18 r.2.2.2.2.2.2.2.2.2.2.2.2.2.2.2.2.2.2.1, wArr E q19 4 r.2.2.2.2.2.2.2.2.2.2.2.2.2.2.2.2.2.2.2]) 20700 44000) 118 [(0, .ref (a0 0)), (2, .ref (a12 0)), (6, .int x6)] [.int s0, .int s1, .int s2, .ref (a16 r3)] [wGW E a0 (rf10 (a1 0) (a2 0) (a3 0) (a5 0) h0_4 (a6 0) h0_6 (a9 0) (a10 0) h0_9) v0, wHouse E a1 v1, wHouse E a2 v2, wHist E a3 (rf2 q4 h3_1) v3, wHs E q4 ah4 v4, wSight E a5 v5, wBest E a6 (rf2 (a7 0) (a8 0)) v6, wHouse E a7 v7, wSight E a8 v8, wToks E a9 v9, wHRead E a10 (rf1 (a9 0)), wArr E q11 6 v11, wOwn E a12 (rf4 q13 q15 q17 q19) v12, wRO E q13 20 a14 v13, wRR E a14 v14, wRO E q15 12 a16 v15, wRR E a16 v16, wRO E q17 4 a18 v17, wRR E a18 v18, wArr E q19 4 v19] := by
  rw [L_act_118] at hf
  obtain ⟨p118, hp118, hf⟩ := bdE hf
  refine ww_callS C (As := [.int s1, .int s0]) (st := [.int s2, .ref (a16 r3)]) (gr := [wGW E a0 (rf10 (a1 0) (a2 0) (a3 0) (a5 0) h0_4 (a6 0) h0_6 (a9 0) (a10 0) h0_9) v0, wHouse E a1 v1, wHouse E a2 v2, wHist E a3 (rf2 q4 h3_1) v3, wHs E q4 ah4 v4, wSight E a5 v5, wBest E a6 (rf2 (a7 0) (a8 0)) v6, wHouse E a7 v7, wSight E a8 v8, wToks E a9 v9, wHRead E a10 (rf1 (a9 0)), wArr E q11 6 v11, wOwn E a12 (rf4 q13 q15 q17 q19) v12, wRO E q13 20 a14 v13, wRR E a14 v14, wRO E q15 12 a16 v15, wRR E a16 v16, wRO E q17 4 a18 v17, wRR E a18 v18, wArr E q19 4 v19]) (c_L_most (E := E)  hp118) gL_act_L_most rfl ysk_L_most ⟨by decide, Nat.le_of_ble_eq_true rfl⟩ hcs [] [0, 1, 2, 3, 4, 5, 6, 7, 8, 9, 10, 11, 12, 13, 14, 15, 16, 17, 18, 19] 20 rfl (by decide) rfl rfl (Nat.le_of_ble_eq_true rfl) dL_act_118 ?_
  rintro _ _ ⟨rfl, rfl⟩
  refine ww_perm (gs' := [wGW E a0 (rf10 (a1 0) (a2 0) (a3 0) (a5 0) h0_4 (a6 0) h0_6 (a9 0) (a10 0) h0_9) v0, wHouse E a1 v1, wHouse E a2 v2, wHist E a3 (rf2 q4 h3_1) v3, wHs E q4 ah4 v4, wSight E a5 v5, wBest E a6 (rf2 (a7 0) (a8 0)) v6, wHouse E a7 v7, wSight E a8 v8, wToks E a9 v9, wHRead E a10 (rf1 (a9 0)), wArr E q11 6 v11, wOwn E a12 (rf4 q13 q15 q17 q19) v12, wRO E q13 20 a14 v13, wRR E a14 v14, wRO E q15 12 a16 v15, wRR E a16 v16, wRO E q17 4 a18 v17, wRR E a18 v18, wArr E q19 4 v19]) [0, 1, 2, 3, 4, 5, 6, 7, 8, 9, 10, 11, 12, 13, 14, 15, 16, 17, 18, 19] 20 rfl (by decide) rfl ?_
  obtain ⟨g_44, hf⟩ := gdE hf
  obtain ⟨g_45, hf⟩ := gdE hf
  obtain ⟨v16_121, e_v16_121⟩ : ∃ y : RowsT, y = rrSet v16 r3 (upd (v16.2.2 r3) (Int32.toNatClampNeg s2) p118) := ⟨_, rfl⟩
  replace hf := ltE e_v16_121 hf
  refine ww_iast C (f := v16.2.2 r3) (w := wRR E a16 v16) (w' := wRR E a16 v16_121) (gs' := [wGW E a0 (rf10 (a1 0) (a2 0) (a3 0) (a5 0) h0_4 (a6 0) h0_6 (a9 0) (a10 0) h0_9) v0, wHouse E a1 v1, wHouse E a2 v2, wHist E a3 (rf2 q4 h3_1) v3, wHs E q4 ah4 v4, wSight E a5 v5, wBest E a6 (rf2 (a7 0) (a8 0)) v6, wHouse E a7 v7, wSight E a8 v8, wToks E a9 v9, wHRead E a10 (rf1 (a9 0)), wArr E q11 6 v11, wOwn E a12 (rf4 q13 q15 q17 q19) v12, wRO E q13 20 a14 v13, wRR E a14 v14, wRO E q15 12 a16 v15, wRR E a16 v16_121, wRO E q17 4 a18 v17, wRR E a18 v18, wArr E q19 4 v19]) 16 r3 rfl (q_RR (of_decide_eq_true g_44)) (inB_vp g_45) (by rw [e_v16_121]; exact s_RR (of_decide_eq_true g_44)) rfl dL_act_121 ?_
  refine ww_aload_n C dL_act_122 rfl 0 rfl ?_
  refine ww_iload C dL_act_123 2 rfl ?_
  refine ww_aload_n C dL_act_125 rfl 1 rfl ?_
  refine ww_getN (host := RL) C clOK9 in_L_act_X9 (w := wOwn E a12 (rf4 q13 q15 q17 q19) v12) (fs := fsOwn a12 (rf4 q13 q15 q17 q19) v12) (v := .ref q15) 12 0 5 rfl q_Own (by decide) (by decide +kernel) g_Own_room dL_act_126 ?_
  refine ww_iload C dL_act_129 2 rfl ?_
  obtain ⟨g_46, hf⟩ := gdE hf
  obtain ⟨g_47, hf⟩ := gdE hf
  refine ww_aldR C (f := roF a16 v15) (w := wRO E q15 12 a16 v15) 15 0 rfl q_RO (inB_vp g_46) (roF_at (of_decide_eq_true g_47)) dL_act_131 ?_
  refine ww_iconst (v := 0) C dL_act_132 (by decide) ?_
  obtain ⟨g_48, hf⟩ := gdE hf
  obtain ⟨g_49, hf⟩ := gdE hf
  refine ww_iald C (f := v16_121.2.2 (Int32.toNatClampNeg x6)) (w := wRR E a16 v16_121) 16 (Int32.toNatClampNeg x6) rfl (q_RR (of_decide_eq_true g_48)) (inB_vp g_49) dL_act_133 ?_
  obtain ⟨p134, hp134, hf⟩ := bdE hf
  refine ww_callV C (As := [.int x6, .int (v16_121.2.2 (Int32.toNatClampNeg x6) (Int32.toNatClampNeg 0))]) (st := []) (gr := [wHouse E a2 v2, wBest E a6 (rf2 (a7 0) (a8 0)) v6, wHouse E a7 v7, wSight E a8 v8, wToks E a9 v9, wHRead E a10 (rf1 (a9 0)), wArr E q11 6 v11, wOwn E a12 (rf4 q13 q15 q17 q19) v12, wRO E q13 20 a14 v13, wRR E a14 v14, wRO E q15 12 a16 v15, wRR E a16 v16_121, wRO E q17 4 a18 v17, wRR E a18 v18, wArr E q19 4 v19]) (c_X8_setLimit (E := E) (a0 := a0) (h0_1 := a2 0) (h0_4 := h0_4) (h0_5 := a6 0) (h0_6 := h0_6) (h0_7 := a9 0) (h0_8 := a10 0) (h0_9 := h0_9) (a1 := a1) (a2 := a3) (h2_1 := h3_1) (q3 := q4) (ah3 := ah4) (a4 := a5) hp134) gL_act_X8_setLimit rfl yk_X8_setLimit ⟨by decide, Nat.le_of_ble_eq_true rfl⟩ hcs clOK8 0 0 rfl rfl [0, 1, 3, 4, 5] [2, 6, 7, 8, 9, 10, 11, 12, 13, 14, 15, 16, 17, 18, 19] 20 rfl (by decide) rfl rfl (Nat.le_of_ble_eq_true rfl) dL_act_134 ?_
  rintro _ _ ⟨rfl, rfl⟩
  refine ww_perm (gs' := [wGW E a0 (rf10 (a1 0) (a2 0) (a3 0) (a5 0) h0_4 (a6 0) h0_6 (a9 0) (a10 0) h0_9) v0, wHouse E a1 p134.2.1, wHouse E a2 v2, wHist E a3 (rf2 q4 h3_1) p134.2.2.1, wHs E q4 ah4 p134.2.2.2.1, wSight E a5 p134.2.2.2.2, wBest E a6 (rf2 (a7 0) (a8 0)) v6, wHouse E a7 v7, wSight E a8 v8, wToks E a9 v9, wHRead E a10 (rf1 (a9 0)), wArr E q11 6 v11, wOwn E a12 (rf4 q13 q15 q17 q19) v12, wRO E q13 20 a14 v13, wRR E a14 v14, wRO E q15 12 a16 v15, wRR E a16 v16_121, wRO E q17 4 a18 v17, wRR E a18 v18, wArr E q19 4 v19]) [0, 1, 5, 2, 3, 4, 6, 7, 8, 9, 10, 11, 12, 13, 14, 15, 16, 17, 18, 19] 20 rfl (by decide) rfl ?_
  refine ww_aload_n C dL_act_137 rfl 1 rfl ?_
  obtain ⟨g_50, hf⟩ := gdE hf
  obtain ⟨p138, hp138, hf⟩ := bdE hf
  refine ww_callVN C (As := []) (st := [.int p134.1]) (gr := [wGW E a0 (rf10 (a1 0) (a2 0) (a3 0) (a5 0) h0_4 (a6 0) h0_6 (a9 0) (a10 0) h0_9) v0, wHouse E a1 p134.2.1, wHouse E a2 v2, wHist E a3 (rf2 q4 h3_1) p134.2.2.1, wHs E q4 ah4 p134.2.2.2.1, wSight E a5 p134.2.2.2.2, wBest E a6 (rf2 (a7 0) (a8 0)) v6, wHouse E a7 v7, wSight E a8 v8, wToks E a9 v9, wHRead E a10 (rf1 (a9 0)), wArr E q11 6 v11, wRO E q13 20 a14 v13, wRR E a14 v14]) (host := RL) (c_X9_lates (E := E) (a0 := a12) (h0_0 := q13) (q1 := q15) (a2 := a16) (q3 := q17) (a4 := a18) (q5 := q19) hp138) gL_act_X9_lates_n129 rfl (by decide +kernel) (by decide +kernel) (by decide +kernel) (by decide +kernel) yk_X9_lates ⟨by decide, Nat.le_of_ble_eq_true rfl⟩ (of_decide_eq_true g_50) clOK9 0 0 rfl rfl [12, 15, 16, 17, 18, 19] [0, 1, 2, 3, 4, 5, 6, 7, 8, 9, 10, 11, 13, 14] 20 rfl (by decide) rfl rfl (Nat.le_of_ble_eq_true rfl) dL_act_138 ?_
  rintro _ _ ⟨rfl, rfl⟩
  refine ww_perm (gs' := [wGW E a0 (rf10 (a1 0) (a2 0) (a3 0) (a5 0) h0_4 (a6 0) h0_6 (a9 0) (a10 0) h0_9) v0, wHouse E a1 p134.2.1, wHouse E a2 v2, wHist E a3 (rf2 q4 h3_1) p134.2.2.1, wHs E q4 ah4 p134.2.2.2.1, wSight E a5 p134.2.2.2.2, wBest E a6 (rf2 (a7 0) (a8 0)) v6, wHouse E a7 v7, wSight E a8 v8, wToks E a9 v9, wHRead E a10 (rf1 (a9 0)), wArr E q11 6 v11, wOwn E a12 (rf4 q13 q15 q17 q19) v12, wRO E q13 20 a14 v13, wRR E a14 v14, wRO E q15 12 a16 v15, wRR E a16 v16_121, wRO E q17 4 a18 v17, wRR E a18 v18, wArr E q19 4 v19]) [6, 7, 8, 9, 10, 11, 12, 13, 14, 15, 16, 17, 0, 18, 19, 1, 2, 3, 4, 5] 20 rfl (by decide) rfl ?_
  refine ww_icmp_ne (tgt := 148) C dL_act_141 (by decide) (fun c_51 => ?_) (fun c_51 => ?_)
  · replace hf := ifF c_51 hf
    refine ww_iconst (v := (-1)) C dL_act_148 (by decide) ?_
    obtain rfl := Option.some.inj hf
    refine ww_widen (k := 20700) (n := 44000) (of_decide_eq_true g_50).1 (of_decide_eq_true g_50).2 ?_
    exact ww_iret C ⟨_, rfl, rfl⟩ dL_act_149
  · replace hf := ifT c_51 hf
    refine ww_iconst (v := 1) C dL_act_144 (by decide) ?_
    refine ww_goto (tgt := 149) C dL_act_145 (by decide) ?_
    obtain rfl := Option.some.inj hf
    refine ww_widen (k := 20700) (n := 44000) (of_decide_eq_true g_50).1 (of_decide_eq_true g_50).2 ?_
    exact ww_iret C ⟨_, rfl, rfl⟩ dL_act_149

set_option maxHeartbeats 4000000 in
set_option maxRecDepth 100000 in
theorem w_L_act_202 {E : Ex} {K : Kx} (C : Cx E K cL_act 9 (some .int) RL wsL_act rmL_act) {a0 : Nat → Nat} {a1 : Nat → Nat} {a2 : Nat → Nat} {a3 : Nat → Nat} {q4 : Nat} {ah4 : Nat → Nat → Nat} {a5 : Nat → Nat} {a6 : Nat → Nat} {a7 : Nat → Nat} {a8 : Nat → Nat} {a9 : Nat → Nat} {a10 : Nat → Nat} {q11 : Nat} {a12 : Nat → Nat} {q13 : Nat} {a14 : Nat → Nat} {q15 : Nat} {a16 : Nat → Nat} {q17 : Nat} {a18 : Nat → Nat} {q19 : Nat} {h0_4 h0_6 h0_9 h3_1 : Nat} {x3 : Int32}  {d0 : Nat} {x8 : Int32} {s0 : Int32} {s1 : Int32} {v0 : GWV} {v1 : HouseV} {v2 : HouseV} {v3 : HistV} {v4 : Nat → HouseV} {v5 : SightV} {v6 : BestV} {v7 : HouseV} {v8 : SightV} {v9 : ToksV} {v11 : Nat → Int32} {v12 : OwnV} {v13 : Nat} {v14 : RowsT} {v15 : Nat} {v16 : RowsT} {v17 : Nat} {v18 : RowsT} {v19 : Nat → Int32} {w0 : Nat → Int32} {c : Nat} {s : Nat} {k169 : Int32 → Int32 → GWV → HouseV → HouseV → HistV → (Nat → HouseV) → SightV → BestV → HouseV → SightV → ToksV → (Nat → Int32) → OwnV → Nat → RowsT → Nat → RowsT → Nat → RowsT → (Nat → Int32) → (Nat → Int32) → Nat → Nat → Option (Int32 × GWV × HouseV × HouseV × HistV × (Nat → HouseV) × SightV × BestV × HouseV × SightV × ToksV × (Nat → Int32) × OwnV × Nat × RowsT × Nat × RowsT × Nat × RowsT × (Nat → Int32))} {r : (Int32 × GWV × HouseV × HouseV × HistV × (Nat → HouseV) × SightV × BestV × HouseV × SightV × ToksV × (Nat → Int32) × OwnV × Nat × RowsT × Nat × RowsT × Nat × RowsT × (Nat → Int32))} (hk169 : ∀ (d0 : Nat) (x7 : Int32) (x8 : Int32) (v0 : GWV) (v1 : HouseV) (v2 : HouseV) (v3 : HistV) (v4 : Nat → HouseV) (v5 : SightV) (v6 : BestV) (v7 : HouseV) (v8 : SightV) (v9 : ToksV) (v11 : Nat → Int32) (v12 : OwnV) (v13 : Nat) (v14 : RowsT) (v15 : Nat) (v16 : RowsT) (v17 : Nat) (v18 : RowsT) (v19 : Nat → Int32) (w0 : Nat → Int32) (c : Nat) (s : Nat), c ≤ 20700 ∧ s ≤ 44000 → k169 x7 x8 v0 v1 v2 v3 v4 v5 v6 v7 v8 v9 v11 v12 v13 v14 v15 v16 v17 v18 v19 w0 c s = some r → WW E K c s (QQ E K (fun rv g => ∃ (z18 : Nat → Nat), rv = some (.int r.1) ∧ g = [wGW E a0 (rf10 (a1 0) (a2 0) (a3 0) (a5 0) h0_4 (a6 0) h0_6 (a9 0) (a10 0) h0_9) r.2.1, wHouse E a1 r.2.2.1, wHouse E a2 r.2.2.2.1, wHist E a3 (rf2 q4 h3_1) r.2.2.2.2.1, wHs E q4 ah4 r.2.2.2.2.2.1, wSight E a5 r.2.2.2.2.2.2.1, wBest E a6 (rf2 (a7 0) (a8 0)) r.2.2.2.2.2.2.2.1, wHouse E a7 r.2.2.2.2.2.2.2.2.1, wSight E a8 r.2.2.2.2.2.2.2.2.2.1, wToks E a9 r.2.2.2.2.2.2.2.2.2.2.1, wHRead E a10 (rf1 (a9 0)), wArr E q11 6 r.2.2.2.2.2.2.2.2.2.2.2.1, wOwn E a12 (rf4 q13 q15 q17 q19) r.2.2.2.2.2.2.2.2.2.2.2.2.1, wRO E q13 20 a14 r.2.2.2.2.2.2.2.2.2.2.2.2.2.1, wRR E a14 r.2.2.2.2.2.2.2.2.2.2.2.2.2.2.1, wRO E q15 12 a16 r.2.2.2.2.2.2.2.2.2.2.2.2.2.2.2.1, wRR E a16 r.2.2.2.2.2.2.2.2.2.2.2.2.2.2.2.2.1, wRO E q17 4 z18 r.2.2.2.2.2.2.2.2.2.2.2.2.2.2.2.2.2.1, wRR E z18 r.2.2.2.2.2.2.2.2.2.2.2.2.2.2.2.2.2.2.1, wArr E q19 4 r.2.2.2.2.2.2.2.2.2.2.2.2.2.2.2.2.2.2.2]) 20700 44000) 169 [(0, .ref (a0 0)), (2, .ref (a12 0)), (6, .ref d0), (7, .int x7), (8, .int x8)] [] [wGW E a0 (rf10 (a1 0) (a2 0) (a3 0) (a5 0) h0_4 (a6 0) h0_6 (a9 0) (a10 0) h0_9) v0, wHouse E a1 v1, wHouse E a2 v2, wHist E a3 (rf2 q4 h3_1) v3, wHs E q4 ah4 v4, wSight E a5 v5, wBest E a6 (rf2 (a7 0) (a8 0)) v6, wHouse E a7 v7, wSight E a8 v8, wToks E a9 v9, wHRead E a10 (rf1 (a9 0)), wArr E q11 6 v11, wOwn E a12 (rf4 q13 q15 q17 q19) v12, wRO E q13 20 a14 v13, wRR E a14 v14, wRO E q15 12 a16 v15, wRR E a16 v16, wRO E q17 4 a18 v17, wRR E a18 v18, wArr E q19 4 v19, wArr E d0 6 w0]) (hcs : c ≤ 20700 ∧ s ≤ 44000) (hf : L_act_202 x3 k169 x8 s0 s1 v0 v1 v2 v3 v4 v5 v6 v7 v8 v9 v11 v12 v13 v14 v15 v16 v17 v18 v19 w0 c s = some r) : WW E K c s (QQ E K (fun rv g => ∃ (z18 : Nat → Nat), rv = some (.int r.1) ∧ g = [wGW E a0 (rf10 (a1 0) (a2 0) (a3 0) (a5 0) h0_4 (a6 0) h0_6 (a9 0) (a10 0) h0_9) r.2.1, wHouse E a1 r.2.2.1, wHouse E a2 r.2.2.2.1, wHist E a3 (rf2 q4 h3_1) r.2.2.2.2.1, wHs E q4 ah4 r.2.2.2.2.2.1, wSight E a5 r.2.2.2.2.2.2.1, wBest E a6 (rf2 (a7 0) (a8 0)) r.2.2.2.2.2.2.2.1, wHouse E a7 r.2.2.2.2.2.2.2.2.1, wSight E a8 r.2.2.2.2.2.2.2.2.2.1, wToks E a9 r.2.2.2.2.2.2.2.2.2.2.1, wHRead E a10 (rf1 (a9 0)), wArr E q11 6 r.2.2.2.2.2.2.2.2.2.2.2.1, wOwn E a12 (rf4 q13 q15 q17 q19) r.2.2.2.2.2.2.2.2.2.2.2.2.1, wRO E q13 20 a14 r.2.2.2.2.2.2.2.2.2.2.2.2.2.1, wRR E a14 r.2.2.2.2.2.2.2.2.2.2.2.2.2.2.1, wRO E q15 12 a16 r.2.2.2.2.2.2.2.2.2.2.2.2.2.2.2.1, wRR E a16 r.2.2.2.2.2.2.2.2.2.2.2.2.2.2.2.2.1, wRO E q17 4 z18 r.2.2.2.2.2.2.2.2.2.2.2.2.2.2.2.2.2.1, wRR E z18 r.2.2.2.2.2.2.2.2.2.2.2.2.2.2.2.2.2.2.1, wArr E q19 4 r.2.2.2.2.2.2.2.2.2.2.2.2.2.2.2.2.2.2.2]) 20700 44000) 202 [(0, .ref (a0 0)), (2, .ref (a12 0)), (6, .ref d0), (8, .int x8)] [.int s0, .int s1] [wGW E a0 (rf10 (a1 0) (a2 0) (a3 0) (a5 0) h0_4 (a6 0) h0_6 (a9 0) (a10 0) h0_9) v0, wHouse E a1 v1, wHouse E a2 v2, wHist E a3 (rf2 q4 h3_1) v3, wHs E q4 ah4 v4, wSight E a5 v5, wBest E a6 (rf2 (a7 0) (a8 0)) v6, wHouse E a7 v7, wSight E a8 v8, wToks E a9 v9, wHRead E a10 (rf1 (a9 0)), wArr E q11 6 v11, wOwn E a12 (rf4 q13 q15 q17 q19) v12, wRO E q13 20 a14 v13, wRR E a14 v14, wRO E q15 12 a16 v15, wRR E a16 v16, wRO E q17 4 a18 v17, wRR E a18 v18, wArr E q19 4 v19, wArr E d0 6 w0] := by
  rw [L_act_202] at hf
  refine ww_iadd C dL_act_202 ?_
  refine ww_topi (fun x7_203 e_x7_203 => ?_)
  replace hf := ltE e_x7_203 hf
  refine ww_istore (lv' := [(7, .int x7_203), (0, .ref (a0 0)), (2, .ref (a12 0)), (6, .ref d0), (8, .int x8)]) C dL_act_203 (by decide) rfl ?_
  refine ww_aload_n C dL_act_205 rfl 2 rfl ?_
  refine ww_getN (host := RL) C clOK9 in_L_act_X9 (w := wOwn E a12 (rf4 q13 q15 q17 q19) v12) (fs := fsOwn a12 (rf4 q13 q15 q17 q19) v12) (v := .ref q19) 12 0 7 rfl q_Own (by decide) (by decide +kernel) g_Own_phase dL_act_206 ?_
  refine ww_iload C dL_act_209 4 rfl ?_
  refine ww_aload C dL_act_211 3 rfl ?_
  refine ww_iconst (v := 2) C dL_act_213 (by decide) ?_
  refine ww_iload C dL_act_214 4 rfl ?_
  refine ww_iadd C dL_act_216 ?_
  obtain ⟨g_58, hf⟩ := gdE hf
  refine ww_iald C (f := w0) (w := wArr E d0 6 w0) 20 0 rfl q_Arr (inB_vp g_58) dL_act_217 ?_
  obtain ⟨g_59, hf⟩ := gdE hf
  obtain ⟨v19_218, e_v19_218⟩ : ∃ y : Nat → Int32, y = upd v19 (Int32.toNatClampNeg x8) (w0 (Int32.toNatClampNeg (2 + x8))) := ⟨_, rfl⟩
  replace hf := ltE e_v19_218 hf
  refine ww_iast C (f := v19) (w := wArr E q19 4 v19) (w' := wArr E q19 4 v19_218) (gs' := [wGW E a0 (rf10 (a1 0) (a2 0) (a3 0) (a5 0) h0_4 (a6 0) h0_6 (a9 0) (a10 0) h0_9) v0, wHouse E a1 v1, wHouse E a2 v2, wHist E a3 (rf2 q4 h3_1) v3, wHs E q4 ah4 v4, wSight E a5 v5, wBest E a6 (rf2 (a7 0) (a8 0)) v6, wHouse E a7 v7, wSight E a8 v8, wToks E a9 v9, wHRead E a10 (rf1 (a9 0)), wArr E q11 6 v11, wOwn E a12 (rf4 q13 q15 q17 q19) v12, wRO E q13 20 a14 v13, wRR E a14 v14, wRO E q15 12 a16 v15, wRR E a16 v16, wRO E q17 4 a18 v17, wRR E a18 v18, wArr E q19 4 v19_218, wArr E d0 6 w0]) 19 0 rfl q_Arr (inB_vp g_59) (by rw [e_v19_218]; exact s_Arr) rfl dL_act_218 ?_
  obtain ⟨x8_219, e_x8_219⟩ : ∃ y : Int32, y = x8 + 1 := ⟨_, rfl⟩
  replace hf := ltE e_x8_219 hf
  refine ww_iinc (v := x8_219) (lv' := [(8, .int x8_219), (7, .int x7_203), (0, .ref (a0 0)), (2, .ref (a12 0)), (6, .ref d0)]) C dL_act_219 4 rfl (by rw [e_x8_219]; rfl) (by decide) rfl ?_
  refine ww_goto (tgt := 169) C dL_act_222 (by decide) ?_
  refine ww_sub C (lv' := [(0, .ref (a0 0)), (2, .ref (a12 0)), (6, .ref d0), (7, .int x7_203), (8, .int x8_219)]) [2, 3, 4, 1, 0] rfl ?_
  exact hk169 _ _ _ _ _ _ _ _ _ _ _ _ _ _ _ _ _ _ _ _ _ _ _ _ _ hcs hf

set_option maxHeartbeats 4000000 in
set_option maxRecDepth 100000 in
theorem w_L_act_169 {E : Ex} {K : Kx} (C : Cx E K cL_act 9 (some .int) RL wsL_act rmL_act) {a0 : Nat → Nat} {a1 : Nat → Nat} {a2 : Nat → Nat} {a3 : Nat → Nat} {q4 : Nat} {ah4 : Nat → Nat → Nat} {a5 : Nat → Nat} {a6 : Nat → Nat} {a7 : Nat → Nat} {a8 : Nat → Nat} {a9 : Nat → Nat} {a10 : Nat → Nat} {q11 : Nat} {a12 : Nat → Nat} {q13 : Nat} {a14 : Nat → Nat} {q15 : Nat} {a16 : Nat → Nat} {q17 : Nat} {a18 : Nat → Nat} {q19 : Nat} {h0_4 h0_6 h0_9 h3_1 : Nat} {x3 : Int32}  {r : (Int32 × GWV × HouseV × HouseV × HistV × (Nat → HouseV) × SightV × BestV × HouseV × SightV × ToksV × (Nat → Int32) × OwnV × Nat × RowsT × Nat × RowsT × Nat × RowsT × (Nat → Int32))} : ∀ (n : Nat) (d0 : Nat) (x7 : Int32) (x8 : Int32) (v0 : GWV) (v1 : HouseV) (v2 : HouseV) (v3 : HistV) (v4 : Nat → HouseV) (v5 : SightV) (v6 : BestV) (v7 : HouseV) (v8 : SightV) (v9 : ToksV) (v11 : Nat → Int32) (v12 : OwnV) (v13 : Nat) (v14 : RowsT) (v15 : Nat) (v16 : RowsT) (v17 : Nat) (v18 : RowsT) (v19 : Nat → Int32) (w0 : Nat → Int32) (c : Nat) (s : Nat), c ≤ 20700 ∧ s ≤ 44000 → L_act_169 x3 n x7 x8 v0 v1 v2 v3 v4 v5 v6 v7 v8 v9 v11 v12 v13 v14 v15 v16 v17 v18 v19 w0 c s = some r → WW E K c s (QQ E K (fun rv g => ∃ (z18 : Nat → Nat), rv = some (.int r.1) ∧ g = [wGW E a0 (rf10 (a1 0) (a2 0) (a3 0) (a5 0) h0_4 (a6 0) h0_6 (a9 0) (a10 0) h0_9) r.2.1, wHouse E a1 r.2.2.1, wHouse E a2 r.2.2.2.1, wHist E a3 (rf2 q4 h3_1) r.2.2.2.2.1, wHs E q4 ah4 r.2.2.2.2.2.1, wSight E a5 r.2.2.2.2.2.2.1, wBest E a6 (rf2 (a7 0) (a8 0)) r.2.2.2.2.2.2.2.1, wHouse E a7 r.2.2.2.2.2.2.2.2.1, wSight E a8 r.2.2.2.2.2.2.2.2.2.1, wToks E a9 r.2.2.2.2.2.2.2.2.2.2.1, wHRead E a10 (rf1 (a9 0)), wArr E q11 6 r.2.2.2.2.2.2.2.2.2.2.2.1, wOwn E a12 (rf4 q13 q15 q17 q19) r.2.2.2.2.2.2.2.2.2.2.2.2.1, wRO E q13 20 a14 r.2.2.2.2.2.2.2.2.2.2.2.2.2.1, wRR E a14 r.2.2.2.2.2.2.2.2.2.2.2.2.2.2.1, wRO E q15 12 a16 r.2.2.2.2.2.2.2.2.2.2.2.2.2.2.2.1, wRR E a16 r.2.2.2.2.2.2.2.2.2.2.2.2.2.2.2.2.1, wRO E q17 4 z18 r.2.2.2.2.2.2.2.2.2.2.2.2.2.2.2.2.2.1, wRR E z18 r.2.2.2.2.2.2.2.2.2.2.2.2.2.2.2.2.2.2.1, wArr E q19 4 r.2.2.2.2.2.2.2.2.2.2.2.2.2.2.2.2.2.2.2]) 20700 44000) 169 [(0, .ref (a0 0)), (2, .ref (a12 0)), (6, .ref d0), (7, .int x7), (8, .int x8)] [] [wGW E a0 (rf10 (a1 0) (a2 0) (a3 0) (a5 0) h0_4 (a6 0) h0_6 (a9 0) (a10 0) h0_9) v0, wHouse E a1 v1, wHouse E a2 v2, wHist E a3 (rf2 q4 h3_1) v3, wHs E q4 ah4 v4, wSight E a5 v5, wBest E a6 (rf2 (a7 0) (a8 0)) v6, wHouse E a7 v7, wSight E a8 v8, wToks E a9 v9, wHRead E a10 (rf1 (a9 0)), wArr E q11 6 v11, wOwn E a12 (rf4 q13 q15 q17 q19) v12, wRO E q13 20 a14 v13, wRR E a14 v14, wRO E q15 12 a16 v15, wRR E a16 v16, wRO E q17 4 a18 v17, wRR E a18 v18, wArr E q19 4 v19, wArr E d0 6 w0] := by
  intro n
  induction n with
  | zero =>
    intro d0 x7 x8 v0 v1 v2 v3 v4 v5 v6 v7 v8 v9 v11 v12 v13 v14 v15 v16 v17 v18 v19 w0 c s hcs hf
    simp [L_act_169] at hf
  | succ n ih =>
    intro d0 x7 x8 v0 v1 v2 v3 v4 v5 v6 v7 v8 v9 v11 v12 v13 v14 v15 v16 v17 v18 v19 w0 c s hcs hf
    rw [L_act_169] at hf
    refine ww_iload C dL_act_169 4 rfl ?_
    refine ww_aload_n C dL_act_171 rfl 1 rfl ?_
    refine ww_getN (host := RL) C clOK9 in_L_act_X9 (w := wOwn E a12 (rf4 q13 q15 q17 q19) v12) (fs := fsOwn a12 (rf4 q13 q15 q17 q19) v12) (v := .int (Own_guards v12)) 12 0 2 rfl q_Own (by decide) (by decide +kernel) g_Own_guards dL_act_172 ?_
    refine ww_icmp_ge (tgt := 225) C dL_act_175 (by decide) (fun c_52 => ?_) (fun c_52 => ?_)
    · replace hf := ifT c_52 hf
      refine ww_aload_n C dL_act_225 rfl 0 rfl ?_
      obtain ⟨p226, hp226, hf⟩ := bdE hf
      refine ww_callV C (As := []) (st := []) (gr := [wHouse E a2 v2, wSight E a5 v5, wToks E a9 v9, wHRead E a10 (rf1 (a9 0)), wArr E q11 6 v11, wOwn E a12 (rf4 q13 q15 q17 q19) v12, wRO E q13 20 a14 v13, wRR E a14 v14, wRO E q15 12 a16 v15, wRR E a16 v16, wRO E q17 4 a18 v17, wRR E a18 v18, wArr E q19 4 v19, wArr E d0 6 w0]) (c_X8_adopt (E := E) (a0 := a0) (h0_1 := a2 0) (h0_3 := a5 0) (h0_4 := h0_4) (h0_6 := h0_6) (h0_7 := a9 0) (h0_8 := a10 0) (h0_9 := h0_9) (a1 := a1) (a2 := a3) (h2_1 := h3_1) (q3 := q4) (ah3 := ah4) (a4 := a6) (a5 := a7) (a6 := a8) hp226) gL_act_X8_adopt rfl yk_X8_adopt ⟨by decide, Nat.le_of_ble_eq_true rfl⟩ hcs clOK8 0 0 rfl rfl [0, 1, 3, 4, 6, 7, 8] [2, 5, 9, 10, 11, 12, 13, 14, 15, 16, 17, 18, 19, 20] 21 rfl (by decide) rfl rfl (Nat.le_of_ble_eq_true rfl) dL_act_226 ?_
      rintro _ _ ⟨rfl, rfl⟩
      refine ww_perm (gs' := [wGW E a0 (rf10 (a1 0) (a2 0) (a3 0) (a5 0) h0_4 (a6 0) h0_6 (a9 0) (a10 0) h0_9) p226.2.1, wHouse E a1 p226.2.2.1, wHouse E a2 v2, wHist E a3 (rf2 q4 h3_1) p226.2.2.2.1, wHs E q4 ah4 p226.2.2.2.2.1, wSight E a5 v5, wBest E a6 (rf2 (a7 0) (a8 0)) p226.2.2.2.2.2.1, wHouse E a7 p226.2.2.2.2.2.2.1, wSight E a8 p226.2.2.2.2.2.2.2, wToks E a9 v9, wHRead E a10 (rf1 (a9 0)), wArr E q11 6 v11, wOwn E a12 (rf4 q13 q15 q17 q19) v12, wRO E q13 20 a14 v13, wRR E a14 v14, wRO E q15 12 a16 v15, wRR E a16 v16, wRO E q17 4 a18 v17, wRR E a18 v18, wArr E q19 4 v19, wArr E d0 6 w0]) [0, 1, 7, 2, 3, 8, 4, 5, 6, 9, 10, 11, 12, 13, 14, 15, 16, 17, 18, 19, 20] 21 rfl (by decide) rfl ?_
      refine ww_iload C dL_act_229 3 rfl ?_
      refine ww_icmp_ne (tgt := 238) C dL_act_231 (by decide) (fun c_53 => ?_) (fun c_53 => ?_)
      · replace hf := ifF c_53 hf
        refine ww_iconst (v := (-1)) C dL_act_238 (by decide) ?_
        obtain rfl := Option.some.inj hf
        refine ww_drop (gs' := [wGW E a0 (rf10 (a1 0) (a2 0) (a3 0) (a5 0) h0_4 (a6 0) h0_6 (a9 0) (a10 0) h0_9) p226.2.1, wHouse E a1 p226.2.2.1, wHouse E a2 v2, wHist E a3 (rf2 q4 h3_1) p226.2.2.2.1, wHs E q4 ah4 p226.2.2.2.2.1, wSight E a5 v5, wBest E a6 (rf2 (a7 0) (a8 0)) p226.2.2.2.2.2.1, wHouse E a7 p226.2.2.2.2.2.2.1, wSight E a8 p226.2.2.2.2.2.2.2, wToks E a9 v9, wHRead E a10 (rf1 (a9 0)), wArr E q11 6 v11, wOwn E a12 (rf4 q13 q15 q17 q19) v12, wRO E q13 20 a14 v13, wRR E a14 v14, wRO E q15 12 a16 v15, wRR E a16 v16, wRO E q17 4 a18 v17, wRR E a18 v18, wArr E q19 4 v19]) [0, 1, 2, 3, 4, 5, 6, 7, 8, 9, 10, 11, 12, 13, 14, 15, 16, 17, 18, 19] [20] 21 rfl (by decide) rfl ?_
        refine ww_widen (k := 20700) (n := 44000) hcs.1 hcs.2 ?_
        exact ww_iret C ⟨_, rfl, rfl⟩ dL_act_239
      · replace hf := ifT c_53 hf
        refine ww_iconst (v := 1) C dL_act_234 (by decide) ?_
        refine ww_goto (tgt := 239) C dL_act_235 (by decide) ?_
        obtain rfl := Option.some.inj hf
        refine ww_drop (gs' := [wGW E a0 (rf10 (a1 0) (a2 0) (a3 0) (a5 0) h0_4 (a6 0) h0_6 (a9 0) (a10 0) h0_9) p226.2.1, wHouse E a1 p226.2.2.1, wHouse E a2 v2, wHist E a3 (rf2 q4 h3_1) p226.2.2.2.1, wHs E q4 ah4 p226.2.2.2.2.1, wSight E a5 v5, wBest E a6 (rf2 (a7 0) (a8 0)) p226.2.2.2.2.2.1, wHouse E a7 p226.2.2.2.2.2.2.1, wSight E a8 p226.2.2.2.2.2.2.2, wToks E a9 v9, wHRead E a10 (rf1 (a9 0)), wArr E q11 6 v11, wOwn E a12 (rf4 q13 q15 q17 q19) v12, wRO E q13 20 a14 v13, wRR E a14 v14, wRO E q15 12 a16 v15, wRR E a16 v16, wRO E q17 4 a18 v17, wRR E a18 v18, wArr E q19 4 v19]) [0, 1, 2, 3, 4, 5, 6, 7, 8, 9, 10, 11, 12, 13, 14, 15, 16, 17, 18, 19] [20] 21 rfl (by decide) rfl ?_
        refine ww_widen (k := 20700) (n := 44000) hcs.1 hcs.2 ?_
        exact ww_iret C ⟨_, rfl, rfl⟩ dL_act_239
    · replace hf := ifF c_52 hf
      refine ww_iload C dL_act_178 3 rfl ?_
      refine ww_aload_n C dL_act_180 rfl 1 rfl ?_
      refine ww_getN (host := RL) C clOK9 in_L_act_X9 (w := wOwn E a12 (rf4 q13 q15 q17 q19) v12) (fs := fsOwn a12 (rf4 q13 q15 q17 q19) v12) (v := .ref q19) 12 0 7 rfl q_Own (by decide) (by decide +kernel) g_Own_phase dL_act_181 ?_
      refine ww_iload C dL_act_184 4 rfl ?_
      obtain ⟨g_54, hf⟩ := gdE hf
      refine ww_iald C (f := v19) (w := wArr E q19 4 v19) 19 0 rfl q_Arr (inB_vp g_54) dL_act_186 ?_
      refine ww_aload C dL_act_187 2 rfl ?_
      refine ww_iconst (v := 2) C dL_act_189 (by decide) ?_
      refine ww_iload C dL_act_190 4 rfl ?_
      refine ww_iadd C dL_act_192 ?_
      obtain ⟨g_55, hf⟩ := gdE hf
      refine ww_iald C (f := w0) (w := wArr E d0 6 w0) 20 0 rfl q_Arr (inB_vp g_55) dL_act_193 ?_
      refine ww_icmp_ne (tgt := 201) C dL_act_194 (by decide) (fun c_56 => ?_) (fun c_56 => ?_)
      · replace hf := ifF c_56 hf
        refine ww_iconst (v := 1) C dL_act_201 (by decide) ?_
        refine ww_sub C (lv' := [(0, .ref (a0 0)), (2, .ref (a12 0)), (6, .ref d0), (8, .int x8)]) [0, 1, 2, 4] rfl ?_
        exact w_L_act_202 C (k169 := (fun (x7 : Int32) (x8 : Int32) (v0 : GWV) (v1 : HouseV) (v2 : HouseV) (v3 : HistV) (v4 : Nat → HouseV) (v5 : SightV) (v6 : BestV) (v7 : HouseV) (v8 : SightV) (v9 : ToksV) (v11 : Nat → Int32) (v12 : OwnV) (v13 : Nat) (v14 : RowsT) (v15 : Nat) (v16 : RowsT) (v17 : Nat) (v18 : RowsT) (v19 : Nat → Int32) (w0 : Nat → Int32) (c : Nat) (s : Nat) => L_act_169 x3 n x7 x8 v0 v1 v2 v3 v4 v5 v6 v7 v8 v9 v11 v12 v13 v14 v15 v16 v17 v18 v19 w0 c s)) ih hcs hf
      · replace hf := ifT c_56 hf
        refine ww_iconst (v := 0) C dL_act_197 (by decide) ?_
        refine ww_goto (tgt := 202) C dL_act_198 (by decide) ?_
        refine ww_sub C (lv' := [(0, .ref (a0 0)), (2, .ref (a12 0)), (6, .ref d0), (8, .int x8)]) [0, 1, 2, 4] rfl ?_
        exact w_L_act_202 C (k169 := (fun (x7 : Int32) (x8 : Int32) (v0 : GWV) (v1 : HouseV) (v2 : HouseV) (v3 : HistV) (v4 : Nat → HouseV) (v5 : SightV) (v6 : BestV) (v7 : HouseV) (v8 : SightV) (v9 : ToksV) (v11 : Nat → Int32) (v12 : OwnV) (v13 : Nat) (v14 : RowsT) (v15 : Nat) (v16 : RowsT) (v17 : Nat) (v18 : RowsT) (v19 : Nat → Int32) (w0 : Nat → Int32) (c : Nat) (s : Nat) => L_act_169 x3 n x7 x8 v0 v1 v2 v3 v4 v5 v6 v7 v8 v9 v11 v12 v13 v14 v15 v16 v17 v18 v19 w0 c s)) ih hcs hf

set_option maxHeartbeats 4000000 in
set_option maxRecDepth 100000 in
theorem w_L_act_332 {E : Ex} {K : Kx} (C : Cx E K cL_act 9 (some .int) RL wsL_act rmL_act) {a0 : Nat → Nat} {a1 : Nat → Nat} {a2 : Nat → Nat} {a3 : Nat → Nat} {q4 : Nat} {ah4 : Nat → Nat → Nat} {a5 : Nat → Nat} {a6 : Nat → Nat} {a7 : Nat → Nat} {a8 : Nat → Nat} {a9 : Nat → Nat} {a10 : Nat → Nat} {q11 : Nat} {a12 : Nat → Nat} {q13 : Nat} {a14 : Nat → Nat} {q15 : Nat} {a16 : Nat → Nat} {q17 : Nat} {a18 : Nat → Nat} {q19 : Nat} {h0_4 h0_6 h0_9 h3_1 : Nat} {x3 : Int32}   {x6 : Int32} {s0 : Int32} {v0 : GWV} {v1 : HouseV} {v2 : HouseV} {v3 : HistV} {v4 : Nat → HouseV} {v5 : SightV} {v6 : BestV} {v7 : HouseV} {v8 : SightV} {v9 : ToksV} {v11 : Nat → Int32} {v12 : OwnV} {v13 : Nat} {v14 : RowsT} {v15 : Nat} {v16 : RowsT} {v17 : Nat} {v18 : RowsT} {v19 : Nat → Int32} {c : Nat} {s : Nat} {r : (Int32 × GWV × HouseV × HouseV × HistV × (Nat → HouseV) × SightV × BestV × HouseV × SightV × ToksV × (Nat → Int32) × OwnV × Nat × RowsT × Nat × RowsT × Nat × RowsT × (Nat → Int32))} (hcs : c ≤ 20700 ∧ s ≤ 44000) (hf : L_act_332 x3 x6 s0 v0 v1 v2 v3 v4 v5 v6 v7 v8 v9 v11 v12 v13 v14 v15 v16 v17 v18 v19 c s = some r) : WW E K c s (QQ E K (fun rv g => ∃ (z18 : Nat → Nat), rv = some (.int r.1) ∧ g = [wGW E a0 (rf10 (a1 0) (a2 0) (a3 0) (a5 0) h0_4 (a6 0) h0_6 (a9 0) (a10 0) h0_9) r.2.1, wHouse E a1 r.2.2.1, wHouse E a2 r.2.2.2.1, wHist E a3 (rf2 q4 h3_1) r.2.2.2.2.1, wHs E q4 ah4 r.2.2.2.2.2.1, wSight E a5 r.2.2.2.2.2.2.1, wBest E a6 (rf2 (a7 0) (a8 0)) r.2.2.2.2.2.2.2.1, wHouse E a7 r.2.2.2.2.2.2.2.2.1, wSight E a8 r.2.2.2.2.2.2.2.2.2.1, wToks E a9 r.2.2.2.2.2.2.2.2.2.2.1, wHRead E a10 (rf1 (a9 0)), wArr E q11 6 r.2.2.2.2.2.2.2.2.2.2.2.1, wOwn E a12 (rf4 q13 q15 q17 q19) r.2.2.2.2.2.2.2.2.2.2.2.2.1, wRO E q13 20 a14 r.2.2.2.2.2.2.2.2.2.2.2.2.2.1, wRR E a14 r.2.2.2.2.2.2.2.2.2.2.2.2.2.2.1, wRO E q15 12 a16 r.2.2.2.2.2.2.2.2.2.2.2.2.2.2.2.1, wRR E a16 r.2.2.2.2.2.2.2.2.2.2.2.2.2.2.2.2.1, wRO E q17 4 z18 r.2.2.2.2.2.2.2.2.2.2.2.2.2.2.2.2.2.1, wRR E z18 r.2.2.2.2.2.2.2.2.2.2.2.2.2.2.2.2.2.2.1, wArr E q19 4 r.2.2.2.2.2.2.2.2.2.2.2.2.2.2.2.2.2.2.2]) 20700 44000) 332 [(0, .ref (a0 0)), (2, .ref (a12 0)), (6, .int x6)] [.int s0] [wGW E a0 (rf10 (a1 0) (a2 0) (a3 0) (a5 0) h0_4 (a6 0) h0_6 (a9 0) (a10 0) h0_9) v0, wHouse E a1 v1, wHouse E a2 v2, wHist E a3 (rf2 q4 h3_1) v3, wHs E q4 ah4 v4, wSight E a5 v5, wBest E a6 (rf2 (a7 0) (a8 0)) v6, wHouse E a7 v7, wSight E a8 v8, wToks E a9 v9, wHRead E a10 (rf1 (a9 0)), wArr E q11 6 v11, wOwn E a12 (rf4 q13 q15 q17 q19) v12, wRO E q13 20 a14 v13, wRR E a14 v14, wRO E q15 12 a16 v15, wRR E a16 v16, wRO E q17 4 a18 v17, wRR E a18 v18, wArr E q19 4 v19] := by
  rw [L_act_332] at hf
  refine ww_istore (lv' := [(7, .int s0), (0, .ref (a0 0)), (2, .ref (a12 0)), (6, .int x6)]) C dL_act_332 (by decide) rfl ?_
  refine ww_iload C dL_act_334 0 rfl ?_
  refine ww_if_ge (tgt := 356) C dL_act_336 (by decide) (fun c_60 => ?_) (fun c_60 => ?_)
  · replace hf := ifT c_60 hf
    refine ww_aload_n C dL_act_356 rfl 2 rfl ?_
    refine ww_getN (host := RL) C clOK9 in_L_act_X9 (w := wOwn E a12 (rf4 q13 q15 q17 q19) v12) (fs := fsOwn a12 (rf4 q13 q15 q17 q19) v12) (v := .ref q13) 12 0 4 rfl q_Own (by decide) (by decide +kernel) g_Own_door dL_act_357 ?_
    refine ww_iload C dL_act_360 3 rfl ?_
    obtain ⟨g_61, hf⟩ := gdE hf
    obtain ⟨g_62, hf⟩ := gdE hf
    refine ww_aldR C (f := roF a14 v13) (w := wRO E q13 20 a14 v13) 13 0 rfl q_RO (inB_vp g_61) (roF_at (of_decide_eq_true g_62)) dL_act_362 ?_
    refine ww_iconst (v := 2) C dL_act_363 (by decide) ?_
    refine ww_iconst (v := 0) C dL_act_364 (by decide) ?_
    obtain ⟨g_63, hf⟩ := gdE hf
    obtain ⟨g_64, hf⟩ := gdE hf
    obtain ⟨v14_365, e_v14_365⟩ : ∃ y : RowsT, y = rrSet v14 (Int32.toNatClampNeg x6) (upd (v14.2.2 (Int32.toNatClampNeg x6)) (Int32.toNatClampNeg 2) 0) := ⟨_, rfl⟩
    replace hf := ltE e_v14_365 hf
    refine ww_iast C (f := v14.2.2 (Int32.toNatClampNeg x6)) (w := wRR E a14 v14) (w' := wRR E a14 v14_365) (gs' := [wGW E a0 (rf10 (a1 0) (a2 0) (a3 0) (a5 0) h0_4 (a6 0) h0_6 (a9 0) (a10 0) h0_9) v0, wHouse E a1 v1, wHouse E a2 v2, wHist E a3 (rf2 q4 h3_1) v3, wHs E q4 ah4 v4, wSight E a5 v5, wBest E a6 (rf2 (a7 0) (a8 0)) v6, wHouse E a7 v7, wSight E a8 v8, wToks E a9 v9, wHRead E a10 (rf1 (a9 0)), wArr E q11 6 v11, wOwn E a12 (rf4 q13 q15 q17 q19) v12, wRO E q13 20 a14 v13, wRR E a14 v14_365, wRO E q15 12 a16 v15, wRR E a16 v16, wRO E q17 4 a18 v17, wRR E a18 v18, wArr E q19 4 v19]) 14 (Int32.toNatClampNeg x6) rfl (q_RR (of_decide_eq_true g_63)) (inB_vp g_64) (by rw [e_v14_365]; exact s_RR (of_decide_eq_true g_63)) rfl dL_act_365 ?_
    refine ww_aload_n C dL_act_366 rfl 1 rfl ?_
    refine ww_iload C dL_act_367 3 rfl ?_
    obtain ⟨p369, hp369, hf⟩ := bdE hf
    refine ww_callV C (As := [.int x6]) (st := []) (gr := [wHouse E a2 v2, wSight E a5 v5, wBest E a6 (rf2 (a7 0) (a8 0)) v6, wHouse E a7 v7, wSight E a8 v8, wToks E a9 v9, wHRead E a10 (rf1 (a9 0)), wArr E q11 6 v11, wOwn E a12 (rf4 q13 q15 q17 q19) v12, wRO E q13 20 a14 v13, wRR E a14 v14_365, wRO E q15 12 a16 v15, wRR E a16 v16, wRO E q17 4 a18 v17, wRR E a18 v18, wArr E q19 4 v19]) (c_X8_closeDoor (E := E) (a0 := a0) (h0_1 := a2 0) (h0_3 := a5 0) (h0_4 := h0_4) (h0_5 := a6 0) (h0_6 := h0_6) (h0_7 := a9 0) (h0_8 := a10 0) (h0_9 := h0_9) (a1 := a1) (a2 := a3) (h2_1 := h3_1) (q3 := q4) (ah3 := ah4) hp369) gL_act_X8_closeDoor rfl yk_X8_closeDoor ⟨by decide, Nat.le_of_ble_eq_true rfl⟩ hcs clOK8 0 0 rfl rfl [0, 1, 3, 4] [2, 5, 6, 7, 8, 9, 10, 11, 12, 13, 14, 15, 16, 17, 18, 19] 20 rfl (by decide) rfl rfl (Nat.le_of_ble_eq_true rfl) dL_act_369 ?_
    rintro _ _ ⟨rfl, rfl⟩
    refine ww_perm (gs' := [wGW E a0 (rf10 (a1 0) (a2 0) (a3 0) (a5 0) h0_4 (a6 0) h0_6 (a9 0) (a10 0) h0_9) v0, wHouse E a1 p369.2.1, wHouse E a2 v2, wHist E a3 (rf2 q4 h3_1) p369.2.2.1, wHs E q4 ah4 p369.2.2.2, wSight E a5 v5, wBest E a6 (rf2 (a7 0) (a8 0)) v6, wHouse E a7 v7, wSight E a8 v8, wToks E a9 v9, wHRead E a10 (rf1 (a9 0)), wArr E q11 6 v11, wOwn E a12 (rf4 q13 q15 q17 q19) v12, wRO E q13 20 a14 v13, wRR E a14 v14_365, wRO E q15 12 a16 v15, wRR E a16 v16, wRO E q17 4 a18 v17, wRR E a18 v18, wArr E q19 4 v19]) [0, 1, 4, 2, 3, 5, 6, 7, 8, 9, 10, 11, 12, 13, 14, 15, 16, 17, 18, 19] 20 rfl (by decide) rfl ?_
    refine ww_aload_n C dL_act_372 rfl 2 rfl ?_
    refine ww_iconst (v := (-1)) C dL_act_373 (by decide) ?_
    obtain ⟨p374, hp374, hf⟩ := bdE hf
    refine ww_callVN C (As := [.int (-1)]) (st := [.int p369.1]) (gr := [wGW E a0 (rf10 (a1 0) (a2 0) (a3 0) (a5 0) h0_4 (a6 0) h0_6 (a9 0) (a10 0) h0_9) v0, wHouse E a1 p369.2.1, wHouse E a2 v2, wHist E a3 (rf2 q4 h3_1) p369.2.2.1, wHs E q4 ah4 p369.2.2.2, wSight E a5 v5, wBest E a6 (rf2 (a7 0) (a8 0)) v6, wHouse E a7 v7, wSight E a8 v8, wToks E a9 v9, wHRead E a10 (rf1 (a9 0)), wArr E q11 6 v11, wRO E q15 12 a16 v15, wRR E a16 v16, wRO E q17 4 a18 v17, wRR E a18 v18, wArr E q19 4 v19]) (host := RL) (c_X9_opens (E := E) (a0 := a12) (h0_1 := q15) (h0_2 := q17) (h0_3 := q19) (q1 := q13) (a2 := a14) hp374) gL_act_X9_opens_n135 rfl (by decide +kernel) (by decide +kernel) (by decide +kernel) (by decide +kernel) yk_X9_opens ⟨by decide, Nat.le_of_ble_eq_true rfl⟩ hcs clOK9 0 0 rfl rfl [12, 13, 14] [0, 1, 2, 3, 4, 5, 6, 7, 8, 9, 10, 11, 15, 16, 17, 18, 19] 20 rfl (by decide) rfl rfl (Nat.le_of_ble_eq_true rfl) dL_act_374 ?_
    rintro _ _ ⟨rfl, rfl⟩
    refine ww_perm (gs' := [wGW E a0 (rf10 (a1 0) (a2 0) (a3 0) (a5 0) h0_4 (a6 0) h0_6 (a9 0) (a10 0) h0_9) v0, wHouse E a1 p369.2.1, wHouse E a2 v2, wHist E a3 (rf2 q4 h3_1) p369.2.2.1, wHs E q4 ah4 p369.2.2.2, wSight E a5 v5, wBest E a6 (rf2 (a7 0) (a8 0)) v6, wHouse E a7 v7, wSight E a8 v8, wToks E a9 v9, wHRead E a10 (rf1 (a9 0)), wArr E q11 6 v11, wOwn E a12 (rf4 q13 q15 q17 q19) v12, wRO E q13 20 a14 v13, wRR E a14 v14_365, wRO E q15 12 a16 v15, wRR E a16 v16, wRO E q17 4 a18 v17, wRR E a18 v18, wArr E q19 4 v19]) [3, 4, 5, 6, 7, 8, 9, 10, 11, 12, 13, 14, 0, 1, 2, 15, 16, 17, 18, 19] 20 rfl (by decide) rfl ?_
    refine ww_icmp_ne (tgt := 384) C dL_act_377 (by decide) (fun c_65 => ?_) (fun c_65 => ?_)
    · replace hf := ifF c_65 hf
      refine ww_iconst (v := (-1)) C dL_act_384 (by decide) ?_
      obtain rfl := Option.some.inj hf
      refine ww_widen (k := 20700) (n := 44000) hcs.1 hcs.2 ?_
      exact ww_iret C ⟨_, rfl, rfl⟩ dL_act_385
    · replace hf := ifT c_65 hf
      refine ww_iconst (v := 1) C dL_act_380 (by decide) ?_
      refine ww_goto (tgt := 385) C dL_act_381 (by decide) ?_
      obtain rfl := Option.some.inj hf
      refine ww_widen (k := 20700) (n := 44000) hcs.1 hcs.2 ?_
      exact ww_iret C ⟨_, rfl, rfl⟩ dL_act_385
  · replace hf := ifF c_60 hf
    refine ww_aload_n C dL_act_339 rfl 1 rfl ?_
    refine ww_iload C dL_act_340 3 rfl ?_
    obtain ⟨p342, hp342, hf⟩ := bdE hf
    refine ww_callV C (As := [.int x6]) (st := []) (gr := [wHouse E a2 v2, wSight E a5 v5, wBest E a6 (rf2 (a7 0) (a8 0)) v6, wHouse E a7 v7, wSight E a8 v8, wToks E a9 v9, wHRead E a10 (rf1 (a9 0)), wArr E q11 6 v11, wOwn E a12 (rf4 q13 q15 q17 q19) v12, wRO E q13 20 a14 v13, wRR E a14 v14, wRO E q15 12 a16 v15, wRR E a16 v16, wRO E q17 4 a18 v17, wRR E a18 v18, wArr E q19 4 v19]) (c_X8_closeDoor (E := E) (a0 := a0) (h0_1 := a2 0) (h0_3 := a5 0) (h0_4 := h0_4) (h0_5 := a6 0) (h0_6 := h0_6) (h0_7 := a9 0) (h0_8 := a10 0) (h0_9 := h0_9) (a1 := a1) (a2 := a3) (h2_1 := h3_1) (q3 := q4) (ah3 := ah4) hp342) gL_act_X8_closeDoor rfl yk_X8_closeDoor ⟨by decide, Nat.le_of_ble_eq_true rfl⟩ hcs clOK8 0 0 rfl rfl [0, 1, 3, 4] [2, 5, 6, 7, 8, 9, 10, 11, 12, 13, 14, 15, 16, 17, 18, 19] 20 rfl (by decide) rfl rfl (Nat.le_of_ble_eq_true rfl) dL_act_342 ?_
    rintro _ _ ⟨rfl, rfl⟩
    refine ww_perm (gs' := [wGW E a0 (rf10 (a1 0) (a2 0) (a3 0) (a5 0) h0_4 (a6 0) h0_6 (a9 0) (a10 0) h0_9) v0, wHouse E a1 p342.2.1, wHouse E a2 v2, wHist E a3 (rf2 q4 h3_1) p342.2.2.1, wHs E q4 ah4 p342.2.2.2, wSight E a5 v5, wBest E a6 (rf2 (a7 0) (a8 0)) v6, wHouse E a7 v7, wSight E a8 v8, wToks E a9 v9, wHRead E a10 (rf1 (a9 0)), wArr E q11 6 v11, wOwn E a12 (rf4 q13 q15 q17 q19) v12, wRO E q13 20 a14 v13, wRR E a14 v14, wRO E q15 12 a16 v15, wRR E a16 v16, wRO E q17 4 a18 v17, wRR E a18 v18, wArr E q19 4 v19]) [0, 1, 4, 2, 3, 5, 6, 7, 8, 9, 10, 11, 12, 13, 14, 15, 16, 17, 18, 19] 20 rfl (by decide) rfl ?_
    refine ww_iload C dL_act_345 0 rfl ?_
    refine ww_icmp_ne (tgt := 354) C dL_act_347 (by decide) (fun c_66 => ?_) (fun c_66 => ?_)
    · replace hf := ifF c_66 hf
      refine ww_iconst (v := (-1)) C dL_act_354 (by decide) ?_
      obtain rfl := Option.some.inj hf
      refine ww_widen (k := 20700) (n := 44000) hcs.1 hcs.2 ?_
      exact ww_iret C ⟨_, rfl, rfl⟩ dL_act_355
    · replace hf := ifT c_66 hf
      refine ww_iconst (v := 0) C dL_act_350 (by decide) ?_
      refine ww_goto (tgt := 355) C dL_act_351 (by decide) ?_
      obtain rfl := Option.some.inj hf
      refine ww_widen (k := 20700) (n := 44000) hcs.1 hcs.2 ?_
      exact ww_iret C ⟨_, rfl, rfl⟩ dL_act_355

set_option maxHeartbeats 4000000 in
set_option maxRecDepth 100000 in
theorem w_L_act_331 {E : Ex} {K : Kx} (C : Cx E K cL_act 9 (some .int) RL wsL_act rmL_act) {a0 : Nat → Nat} {a1 : Nat → Nat} {a2 : Nat → Nat} {a3 : Nat → Nat} {q4 : Nat} {ah4 : Nat → Nat → Nat} {a5 : Nat → Nat} {a6 : Nat → Nat} {a7 : Nat → Nat} {a8 : Nat → Nat} {a9 : Nat → Nat} {a10 : Nat → Nat} {q11 : Nat} {a12 : Nat → Nat} {q13 : Nat} {a14 : Nat → Nat} {q15 : Nat} {a16 : Nat → Nat} {q17 : Nat} {a18 : Nat → Nat} {q19 : Nat} {h0_4 h0_6 h0_9 h3_1 : Nat} {x3 : Int32}   {x6 : Int32} {v0 : GWV} {v1 : HouseV} {v2 : HouseV} {v3 : HistV} {v4 : Nat → HouseV} {v5 : SightV} {v6 : BestV} {v7 : HouseV} {v8 : SightV} {v9 : ToksV} {v11 : Nat → Int32} {v12 : OwnV} {v13 : Nat} {v14 : RowsT} {v15 : Nat} {v16 : RowsT} {v17 : Nat} {v18 : RowsT} {v19 : Nat → Int32} {c : Nat} {s : Nat} {r : (Int32 × GWV × HouseV × HouseV × HistV × (Nat → HouseV) × SightV × BestV × HouseV × SightV × ToksV × (Nat → Int32) × OwnV × Nat × RowsT × Nat × RowsT × Nat × RowsT × (Nat → Int32))} (hcs : c ≤ 20700 ∧ s ≤ 44000) (hf : L_act_331 x3 x6 v0 v1 v2 v3 v4 v5 v6 v7 v8 v9 v11 v12 v13 v14 v15 v16 v17 v18 v19 c s = some r) : WW E K c s (QQ E K (fun rv g => ∃ (z18 : Nat → Nat), rv = some (.int r.1) ∧ g = [wGW E a0 (rf10 (a1 0) (a2 0) (a3 0) (a5 0) h0_4 (a6 0) h0_6 (a9 0) (a10 0) h0_9) r.2.1, wHouse E a1 r.2.2.1, wHouse E a2 r.2.2.2.1, wHist E a3 (rf2 q4 h3_1) r.2.2.2.2.1, wHs E q4 ah4 r.2.2.2.2.2.1, wSight E a5 r.2.2.2.2.2.2.1, wBest E a6 (rf2 (a7 0) (a8 0)) r.2.2.2.2.2.2.2.1, wHouse E a7 r.2.2.2.2.2.2.2.2.1, wSight E a8 r.2.2.2.2.2.2.2.2.2.1, wToks E a9 r.2.2.2.2.2.2.2.2.2.2.1, wHRead E a10 (rf1 (a9 0)), wArr E q11 6 r.2.2.2.2.2.2.2.2.2.2.2.1, wOwn E a12 (rf4 q13 q15 q17 q19) r.2.2.2.2.2.2.2.2.2.2.2.2.1, wRO E q13 20 a14 r.2.2.2.2.2.2.2.2.2.2.2.2.2.1, wRR E a14 r.2.2.2.2.2.2.2.2.2.2.2.2.2.2.1, wRO E q15 12 a16 r.2.2.2.2.2.2.2.2.2.2.2.2.2.2.2.1, wRR E a16 r.2.2.2.2.2.2.2.2.2.2.2.2.2.2.2.2.1, wRO E q17 4 z18 r.2.2.2.2.2.2.2.2.2.2.2.2.2.2.2.2.2.1, wRR E z18 r.2.2.2.2.2.2.2.2.2.2.2.2.2.2.2.2.2.2.1, wArr E q19 4 r.2.2.2.2.2.2.2.2.2.2.2.2.2.2.2.2.2.2.2]) 20700 44000) 331 [(0, .ref (a0 0)), (2, .ref (a12 0)), (6, .int x6)] [] [wGW E a0 (rf10 (a1 0) (a2 0) (a3 0) (a5 0) h0_4 (a6 0) h0_6 (a9 0) (a10 0) h0_9) v0, wHouse E a1 v1, wHouse E a2 v2, wHist E a3 (rf2 q4 h3_1) v3, wHs E q4 ah4 v4, wSight E a5 v5, wBest E a6 (rf2 (a7 0) (a8 0)) v6, wHouse E a7 v7, wSight E a8 v8, wToks E a9 v9, wHRead E a10 (rf1 (a9 0)), wArr E q11 6 v11, wOwn E a12 (rf4 q13 q15 q17 q19) v12, wRO E q13 20 a14 v13, wRR E a14 v14, wRO E q15 12 a16 v15, wRR E a16 v16, wRO E q17 4 a18 v17, wRR E a18 v18, wArr E q19 4 v19] := by
  rw [L_act_331] at hf
  refine ww_iconst (v := 0) C dL_act_331 (by decide) ?_
  refine ww_sub C (lv' := [(0, .ref (a0 0)), (2, .ref (a12 0)), (6, .int x6)]) [0, 1, 2] rfl ?_
  exact w_L_act_332 C hcs hf

set_option maxHeartbeats 4000000 in
set_option maxRecDepth 100000 in
theorem w_L_act_40 {E : Ex} {K : Kx} (C : Cx E K cL_act 9 (some .int) RL wsL_act rmL_act) {a0 : Nat → Nat} {a1 : Nat → Nat} {a2 : Nat → Nat} {a3 : Nat → Nat} {q4 : Nat} {ah4 : Nat → Nat → Nat} {a5 : Nat → Nat} {a6 : Nat → Nat} {a7 : Nat → Nat} {a8 : Nat → Nat} {a9 : Nat → Nat} {a10 : Nat → Nat} {q11 : Nat} {a12 : Nat → Nat} {q13 : Nat} {a14 : Nat → Nat} {q15 : Nat} {a16 : Nat → Nat} {q17 : Nat} {a18 : Nat → Nat} {q19 : Nat} {h0_4 h0_6 h0_9 h3_1 : Nat} {x3 : Int32}   {s0 : Int32} {s1 : Int32} {s2 : Int32} {v0 : GWV} {v1 : HouseV} {v2 : HouseV} {v3 : HistV} {v4 : Nat → HouseV} {v5 : SightV} {v6 : BestV} {v7 : HouseV} {v8 : SightV} {v9 : ToksV} {v11 : Nat → Int32} {v12 : OwnV} {v13 : Nat} {v14 : RowsT} {v15 : Nat} {v16 : RowsT} {v17 : Nat} {v18 : RowsT} {v19 : Nat → Int32} {c : Nat} {s : Nat} {r : (Int32 × GWV × HouseV × HouseV × HistV × (Nat → HouseV) × SightV × BestV × HouseV × SightV × ToksV × (Nat → Int32) × OwnV × Nat × RowsT × Nat × RowsT × Nat × RowsT × (Nat → Int32))} (hcs : c ≤ 20700 ∧ s ≤ 44000) (hf : L_act_40 x3 s0 s1 s2 v0 v1 v2 v3 v4 v5 v6 v7 v8 v9 v11 v12 v13 v14 v15 v16 v17 v18 v19 c s = some r) : WW E K c s (QQ E K (fun rv g => ∃ (z18 : Nat → Nat), rv = some (.int r.1) ∧ g = [wGW E a0 (rf10 (a1 0) (a2 0) (a3 0) (a5 0) h0_4 (a6 0) h0_6 (a9 0) (a10 0) h0_9) r.2.1, wHouse E a1 r.2.2.1, wHouse E a2 r.2.2.2.1, wHist E a3 (rf2 q4 h3_1) r.2.2.2.2.1, wHs E q4 ah4 r.2.2.2.2.2.1, wSight E a5 r.2.2.2.2.2.2.1, wBest E a6 (rf2 (a7 0) (a8 0)) r.2.2.2.2.2.2.2.1, wHouse E a7 r.2.2.2.2.2.2.2.2.1, wSight E a8 r.2.2.2.2.2.2.2.2.2.1, wToks E a9 r.2.2.2.2.2.2.2.2.2.2.1, wHRead E a10 (rf1 (a9 0)), wArr E q11 6 r.2.2.2.2.2.2.2.2.2.2.2.1, wOwn E a12 (rf4 q13 q15 q17 q19) r.2.2.2.2.2.2.2.2.2.2.2.2.1, wRO E q13 20 a14 r.2.2.2.2.2.2.2.2.2.2.2.2.2.1, wRR E a14 r.2.2.2.2.2.2.2.2.2.2.2.2.2.2.1, wRO E q15 12 a16 r.2.2.2.2.2.2.2.2.2.2.2.2.2.2.2.1, wRR E a16 r.2.2.2.2.2.2.2.2.2.2.2.2.2.2.2.2.1, wRO E q17 4 z18 r.2.2.2.2.2.2.2.2.2.2.2.2.2.2.2.2.2.1, wRR E z18 r.2.2.2.2.2.2.2.2.2.2.2.2.2.2.2.2.2.2.1, wArr E q19 4 r.2.2.2.2.2.2.2.2.2.2.2.2.2.2.2.2.2.2.2]) 20700 44000) 40 [(0, .ref (a0 0)), (2, .ref (a12 0))] [.int s0, .int s1, .int s2] [wGW E a0 (rf10 (a1 0) (a2 0) (a3 0) (a5 0) h0_4 (a6 0) h0_6 (a9 0) (a10 0) h0_9) v0, wHouse E a1 v1, wHouse E a2 v2, wHist E a3 (rf2 q4 h3_1) v3, wHs E q4 ah4 v4, wSight E a5 v5, wBest E a6 (rf2 (a7 0) (a8 0)) v6, wHouse E a7 v7, wSight E a8 v8, wToks E a9 v9, wHRead E a10 (rf1 (a9 0)), wArr E q11 6 v11, wOwn E a12 (rf4 q13 q15 q17 q19) v12, wRO E q13 20 a14 v13, wRR E a14 v14, wRO E q15 12 a16 v15, wRR E a16 v16, wRO E q17 4 a18 v17, wRR E a18 v18, wArr E q19 4 v19] := by
  rw [L_act_40] at hf
  obtain ⟨p40, hp40, hf⟩ := bdE hf
  refine ww_callS C (As := [.int s1, .int s0]) (st := [.int s2]) (gr := [wGW E a0 (rf10 (a1 0) (a2 0) (a3 0) (a5 0) h0_4 (a6 0) h0_6 (a9 0) (a10 0) h0_9) v0, wHouse E a1 v1, wHouse E a2 v2, wHist E a3 (rf2 q4 h3_1) v3, wHs E q4 ah4 v4, wSight E a5 v5, wBest E a6 (rf2 (a7 0) (a8 0)) v6, wHouse E a7 v7, wSight E a8 v8, wToks E a9 v9, wHRead E a10 (rf1 (a9 0)), wArr E q11 6 v11, wOwn E a12 (rf4 q13 q15 q17 q19) v12, wRO E q13 20 a14 v13, wRR E a14 v14, wRO E q15 12 a16 v15, wRR E a16 v16, wRO E q17 4 a18 v17, wRR E a18 v18, wArr E q19 4 v19]) (c_L_most (E := E)  hp40) gL_act_L_most rfl ysk_L_most ⟨by decide, Nat.le_of_ble_eq_true rfl⟩ hcs [] [0, 1, 2, 3, 4, 5, 6, 7, 8, 9, 10, 11, 12, 13, 14, 15, 16, 17, 18, 19] 20 rfl (by decide) rfl rfl (Nat.le_of_ble_eq_true rfl) dL_act_40 ?_
  rintro _ _ ⟨rfl, rfl⟩
  refine ww_perm (gs' := [wGW E a0 (rf10 (a1 0) (a2 0) (a3 0) (a5 0) h0_4 (a6 0) h0_6 (a9 0) (a10 0) h0_9) v0, wHouse E a1 v1, wHouse E a2 v2, wHist E a3 (rf2 q4 h3_1) v3, wHs E q4 ah4 v4, wSight E a5 v5, wBest E a6 (rf2 (a7 0) (a8 0)) v6, wHouse E a7 v7, wSight E a8 v8, wToks E a9 v9, wHRead E a10 (rf1 (a9 0)), wArr E q11 6 v11, wOwn E a12 (rf4 q13 q15 q17 q19) v12, wRO E q13 20 a14 v13, wRR E a14 v14, wRO E q15 12 a16 v15, wRR E a16 v16, wRO E q17 4 a18 v17, wRR E a18 v18, wArr E q19 4 v19]) [0, 1, 2, 3, 4, 5, 6, 7, 8, 9, 10, 11, 12, 13, 14, 15, 16, 17, 18, 19] 20 rfl (by decide) rfl ?_
  refine ww_iadd C dL_act_43 ?_
  refine ww_topi (fun x6_44 e_x6_44 => ?_)
  replace hf := ltE e_x6_44 hf
  refine ww_istore (lv' := [(6, .int x6_44), (0, .ref (a0 0)), (2, .ref (a12 0))]) C dL_act_44 (by decide) rfl ?_
  refine ww_aload_n C dL_act_46 rfl 2 rfl ?_
  refine ww_iload C dL_act_47 0 rfl ?_
  obtain ⟨p49, hp49, hf⟩ := bdE hf
  refine ww_callVN C (As := [.int x6_44]) (st := []) (gr := [wGW E a0 (rf10 (a1 0) (a2 0) (a3 0) (a5 0) h0_4 (a6 0) h0_6 (a9 0) (a10 0) h0_9) v0, wHouse E a1 v1, wHouse E a2 v2, wHist E a3 (rf2 q4 h3_1) v3, wHs E q4 ah4 v4, wSight E a5 v5, wBest E a6 (rf2 (a7 0) (a8 0)) v6, wHouse E a7 v7, wSight E a8 v8, wToks E a9 v9, wHRead E a10 (rf1 (a9 0)), wArr E q11 6 v11, wRO E q13 20 a14 v13, wRR E a14 v14]) (host := RL) (c_X9_pass (E := E) (a0 := a12) (h0_0 := q13) (q1 := q15) (a2 := a16) (q3 := q17) (a4 := a18) (q5 := q19) hp49) gL_act_X9_pass_n159 rfl (by decide +kernel) (by decide +kernel) (by decide +kernel) (by decide +kernel) yk_X9_pass ⟨by decide, Nat.le_of_ble_eq_true rfl⟩ hcs clOK9 0 0 rfl rfl [12, 15, 16, 17, 18, 19] [0, 1, 2, 3, 4, 5, 6, 7, 8, 9, 10, 11, 13, 14] 20 rfl (by decide) rfl rfl (Nat.le_of_ble_eq_true rfl) dL_act_49 ?_
  rintro _ _ ⟨rfl, rfl⟩
  refine ww_perm (gs' := [wGW E a0 (rf10 (a1 0) (a2 0) (a3 0) (a5 0) h0_4 (a6 0) h0_6 (a9 0) (a10 0) h0_9) v0, wHouse E a1 v1, wHouse E a2 v2, wHist E a3 (rf2 q4 h3_1) v3, wHs E q4 ah4 v4, wSight E a5 v5, wBest E a6 (rf2 (a7 0) (a8 0)) v6, wHouse E a7 v7, wSight E a8 v8, wToks E a9 v9, wHRead E a10 (rf1 (a9 0)), wArr E q11 6 v11, wOwn E a12 (rf4 q13 q15 q17 q19) p49.2.1, wRO E q13 20 a14 v13, wRR E a14 v14, wRO E q15 12 a16 v15, wRR E a16 p49.2.2, wRO E q17 4 a18 v17, wRR E a18 v18, wArr E q19 4 v19]) [6, 7, 8, 9, 10, 11, 12, 13, 14, 15, 16, 17, 0, 18, 19, 1, 2, 3, 4, 5] 20 rfl (by decide) rfl ?_
  refine ww_istore (lv' := [(7, .int p49.1), (6, .int x6_44), (0, .ref (a0 0)), (2, .ref (a12 0))]) C dL_act_52 (by decide) rfl ?_
  refine ww_aload_n C dL_act_54 rfl 2 rfl ?_
  refine ww_iload C dL_act_55 1 rfl ?_
  obtain ⟨p57, hp57, hf⟩ := bdE hf
  refine ww_callV C (As := [.int x6_44]) (st := []) (gr := [wHouse E a2 v2, wSight E a5 v5, wBest E a6 (rf2 (a7 0) (a8 0)) v6, wHouse E a7 v7, wSight E a8 v8, wToks E a9 v9, wHRead E a10 (rf1 (a9 0)), wArr E q11 6 v11, wOwn E a12 (rf4 q13 q15 q17 q19) p49.2.1, wRO E q13 20 a14 v13, wRR E a14 v14, wRO E q15 12 a16 v15, wRR E a16 p49.2.2, wRO E q17 4 a18 v17, wRR E a18 v18, wArr E q19 4 v19]) (c_X8_pass (E := E) (a0 := a0) (h0_1 := a2 0) (h0_3 := a5 0) (h0_4 := h0_4) (h0_5 := a6 0) (h0_6 := h0_6) (h0_7 := a9 0) (h0_8 := a10 0) (h0_9 := h0_9) (a1 := a1) (a2 := a3) (h2_1 := h3_1) (q3 := q4) (ah3 := ah4) hp57) gL_act_X8_pass rfl yk_X8_pass ⟨by decide, Nat.le_of_ble_eq_true rfl⟩ hcs clOK8 0 0 rfl rfl [0, 1, 3, 4] [2, 5, 6, 7, 8, 9, 10, 11, 12, 13, 14, 15, 16, 17, 18, 19] 20 rfl (by decide) rfl rfl (Nat.le_of_ble_eq_true rfl) dL_act_57 ?_
  rintro _ _ ⟨rfl, rfl⟩
  refine ww_perm (gs' := [wGW E a0 (rf10 (a1 0) (a2 0) (a3 0) (a5 0) h0_4 (a6 0) h0_6 (a9 0) (a10 0) h0_9) v0, wHouse E a1 p57.2.1, wHouse E a2 v2, wHist E a3 (rf2 q4 h3_1) p57.2.2.1, wHs E q4 ah4 p57.2.2.2, wSight E a5 v5, wBest E a6 (rf2 (a7 0) (a8 0)) v6, wHouse E a7 v7, wSight E a8 v8, wToks E a9 v9, wHRead E a10 (rf1 (a9 0)), wArr E q11 6 v11, wOwn E a12 (rf4 q13 q15 q17 q19) p49.2.1, wRO E q13 20 a14 v13, wRR E a14 v14, wRO E q15 12 a16 v15, wRR E a16 p49.2.2, wRO E q17 4 a18 v17, wRR E a18 v18, wArr E q19 4 v19]) [0, 1, 4, 2, 3, 5, 6, 7, 8, 9, 10, 11, 12, 13, 14, 15, 16, 17, 18, 19] 20 rfl (by decide) rfl ?_
  refine ww_iload C dL_act_60 0 rfl ?_
  refine ww_icmp_ne (tgt := 69) C dL_act_62 (by decide) (fun c_43 => ?_) (fun c_43 => ?_)
  · replace hf := ifF c_43 hf
    refine ww_iconst (v := (-1)) C dL_act_69 (by decide) ?_
    obtain rfl := Option.some.inj hf
    refine ww_widen (k := 20700) (n := 44000) hcs.1 hcs.2 ?_
    exact ww_iret C ⟨_, rfl, rfl⟩ dL_act_70
  · replace hf := ifT c_43 hf
    refine ww_iconst (v := 1) C dL_act_65 (by decide) ?_
    refine ww_goto (tgt := 70) C dL_act_66 (by decide) ?_
    obtain rfl := Option.some.inj hf
    refine ww_widen (k := 20700) (n := 44000) hcs.1 hcs.2 ?_
    exact ww_iret C ⟨_, rfl, rfl⟩ dL_act_70

set_option maxHeartbeats 4000000 in
set_option maxRecDepth 100000 in
theorem c_L_act {E : Ex} {a0 : Nat → Nat} {a1 : Nat → Nat} {a2 : Nat → Nat} {a3 : Nat → Nat} {q4 : Nat} {ah4 : Nat → Nat → Nat} {a5 : Nat → Nat} {a6 : Nat → Nat} {a7 : Nat → Nat} {a8 : Nat → Nat} {a9 : Nat → Nat} {a10 : Nat → Nat} {q11 : Nat} {a12 : Nat → Nat} {q13 : Nat} {a14 : Nat → Nat} {q15 : Nat} {a16 : Nat → Nat} {q17 : Nat} {a18 : Nat → Nat} {q19 : Nat} {h0_4 h0_6 h0_9 h3_1 : Nat} {x3 : Int32} {v0 : GWV} {v1 : HouseV} {v2 : HouseV} {v3 : HistV} {v4 : Nat → HouseV} {v5 : SightV} {v6 : BestV} {v7 : HouseV} {v8 : SightV} {v9 : ToksV} {v11 : Nat → Int32} {v12 : OwnV} {v13 : Nat} {v14 : RowsT} {v15 : Nat} {v16 : RowsT} {v17 : Nat} {v18 : RowsT} {v19 : Nat → Int32} {r : (Int32 × GWV × HouseV × HouseV × HistV × (Nat → HouseV) × SightV × BestV × HouseV × SightV × ToksV × (Nat → Int32) × OwnV × Nat × RowsT × Nat × RowsT × Nat × RowsT × (Nat → Int32))} (hf : L_act x3 v0 v1 v2 v3 v4 v5 v6 v7 v8 v9 v11 v12 v13 v14 v15 v16 v17 v18 v19 = some r) : Ct E yL_act wsL_act rmL_act [.ref (a0 0), .ref q11, .ref (a12 0), .int x3] [wGW E a0 (rf10 (a1 0) (a2 0) (a3 0) (a5 0) h0_4 (a6 0) h0_6 (a9 0) (a10 0) h0_9) v0, wHouse E a1 v1, wHouse E a2 v2, wHist E a3 (rf2 q4 h3_1) v3, wHs E q4 ah4 v4, wSight E a5 v5, wBest E a6 (rf2 (a7 0) (a8 0)) v6, wHouse E a7 v7, wSight E a8 v8, wToks E a9 v9, wHRead E a10 (rf1 (a9 0)), wArr E q11 6 v11, wOwn E a12 (rf4 q13 q15 q17 q19) v12, wRO E q13 20 a14 v13, wRR E a14 v14, wRO E q15 12 a16 v15, wRR E a16 v16, wRO E q17 4 a18 v17, wRR E a18 v18, wArr E q19 4 v19] (fun rv g => ∃ (z18 : Nat → Nat), rv = some (.int r.1) ∧ g = [wGW E a0 (rf10 (a1 0) (a2 0) (a3 0) (a5 0) h0_4 (a6 0) h0_6 (a9 0) (a10 0) h0_9) r.2.1, wHouse E a1 r.2.2.1, wHouse E a2 r.2.2.2.1, wHist E a3 (rf2 q4 h3_1) r.2.2.2.2.1, wHs E q4 ah4 r.2.2.2.2.2.1, wSight E a5 r.2.2.2.2.2.2.1, wBest E a6 (rf2 (a7 0) (a8 0)) r.2.2.2.2.2.2.2.1, wHouse E a7 r.2.2.2.2.2.2.2.2.1, wSight E a8 r.2.2.2.2.2.2.2.2.2.1, wToks E a9 r.2.2.2.2.2.2.2.2.2.2.1, wHRead E a10 (rf1 (a9 0)), wArr E q11 6 r.2.2.2.2.2.2.2.2.2.2.2.1, wOwn E a12 (rf4 q13 q15 q17 q19) r.2.2.2.2.2.2.2.2.2.2.2.2.1, wRO E q13 20 a14 r.2.2.2.2.2.2.2.2.2.2.2.2.2.1, wRR E a14 r.2.2.2.2.2.2.2.2.2.2.2.2.2.2.1, wRO E q15 12 a16 r.2.2.2.2.2.2.2.2.2.2.2.2.2.2.2.1, wRR E a16 r.2.2.2.2.2.2.2.2.2.2.2.2.2.2.2.2.1, wRO E q17 4 z18 r.2.2.2.2.2.2.2.2.2.2.2.2.2.2.2.2.2.1, wRR E z18 r.2.2.2.2.2.2.2.2.2.2.2.2.2.2.2.2.2.2.1, wArr E q19 4 r.2.2.2.2.2.2.2.2.2.2.2.2.2.2.2.2.2.2.2]) := by
  refine ct_of (own := RL) (by decide +kernel) rfl rfl (Nat.le_of_ble_eq_true rfl) (fun K C => ?_)
  refine ww_sub C (lv' := [(0, .ref (a0 0)), (1, .ref q11), (2, .ref (a12 0)), (3, .int x3)]) [0, 1, 2, 3] rfl ?_
  rw [L_act] at hf
  refine ww_iload_n C dL_act_0 rfl 3 rfl ?_
  refine ww_bipush (v := 16) C dL_act_1 (by decide) ?_
  obtain ⟨p3, hp3, hf⟩ := bdE hf
  refine ww_callS C (As := [.int x3, .int 16]) (st := []) (gr := [wGW E a0 (rf10 (a1 0) (a2 0) (a3 0) (a5 0) h0_4 (a6 0) h0_6 (a9 0) (a10 0) h0_9) v0, wHouse E a1 v1, wHouse E a2 v2, wHist E a3 (rf2 q4 h3_1) v3, wHs E q4 ah4 v4, wSight E a5 v5, wBest E a6 (rf2 (a7 0) (a8 0)) v6, wHouse E a7 v7, wSight E a8 v8, wToks E a9 v9, wHRead E a10 (rf1 (a9 0)), wArr E q11 6 v11, wOwn E a12 (rf4 q13 q15 q17 q19) v12, wRO E q13 20 a14 v13, wRR E a14 v14, wRO E q15 12 a16 v15, wRR E a16 v16, wRO E q17 4 a18 v17, wRR E a18 v18, wArr E q19 4 v19]) (c_L_most (E := E)  hp3) gL_act_L_most rfl ysk_L_most ⟨by decide, Nat.le_of_ble_eq_true rfl⟩ ⟨Nat.zero_le _, Nat.zero_le _⟩ [] [0, 1, 2, 3, 4, 5, 6, 7, 8, 9, 10, 11, 12, 13, 14, 15, 16, 17, 18, 19] 20 rfl (by decide) rfl rfl (Nat.le_of_ble_eq_true rfl) dL_act_3 ?_
  rintro _ _ ⟨rfl, rfl⟩
  refine ww_perm (gs' := [wGW E a0 (rf10 (a1 0) (a2 0) (a3 0) (a5 0) h0_4 (a6 0) h0_6 (a9 0) (a10 0) h0_9) v0, wHouse E a1 v1, wHouse E a2 v2, wHist E a3 (rf2 q4 h3_1) v3, wHs E q4 ah4 v4, wSight E a5 v5, wBest E a6 (rf2 (a7 0) (a8 0)) v6, wHouse E a7 v7, wSight E a8 v8, wToks E a9 v9, wHRead E a10 (rf1 (a9 0)), wArr E q11 6 v11, wOwn E a12 (rf4 q13 q15 q17 q19) v12, wRO E q13 20 a14 v13, wRR E a14 v14, wRO E q15 12 a16 v15, wRR E a16 v16, wRO E q17 4 a18 v17, wRR E a18 v18, wArr E q19 4 v19]) [0, 1, 2, 3, 4, 5, 6, 7, 8, 9, 10, 11, 12, 13, 14, 15, 16, 17, 18, 19] 20 rfl (by decide) rfl ?_
  refine ww_istore (lv' := [(4, .int p3), (0, .ref (a0 0)), (1, .ref q11), (2, .ref (a12 0)), (3, .int x3)]) C dL_act_6 (by decide) rfl ?_
  refine ww_iload_n C dL_act_8 rfl 4 rfl ?_
  refine ww_iconst (v := 4) C dL_act_9 (by decide) ?_
  refine ww_ishr C dL_act_10 ?_
  refine ww_topi (fun x5_11 e_x5_11 => ?_)
  replace hf := ltE e_x5_11 hf
  refine ww_istore (lv' := [(5, .int x5_11), (4, .int p3), (0, .ref (a0 0)), (1, .ref q11), (2, .ref (a12 0)), (3, .int x3)]) C dL_act_11 (by decide) rfl ?_
  refine ww_iload C dL_act_13 1 rfl ?_
  refine ww_iconst (v := 5) C dL_act_15 (by decide) ?_
  refine ww_icmp_ge (tgt := 71) C dL_act_16 (by decide) (fun c_2 => ?_) (fun c_2 => ?_)
  · replace hf := ifT c_2 hf
    refine ww_iload C dL_act_71 1 rfl ?_
    refine ww_iconst (v := 5) C dL_act_73 (by decide) ?_
    refine ww_icmp_ne (tgt := 150) C dL_act_74 (by decide) (fun c_3 => ?_) (fun c_3 => ?_)
    · replace hf := ifF c_3 hf
      refine ww_iload C dL_act_150 1 rfl ?_
      refine ww_bipush (v := 6) C dL_act_152 (by decide) ?_
      refine ww_icmp_ne (tgt := 240) C dL_act_154 (by decide) (fun c_4 => ?_) (fun c_4 => ?_)
      · replace hf := ifF c_4 hf
        refine ww_iload C dL_act_240 1 rfl ?_
        refine ww_bipush (v := 12) C dL_act_242 (by decide) ?_
        refine ww_icmp_ge (tgt := 446) C dL_act_244 (by decide) (fun c_5 => ?_) (fun c_5 => ?_)
        · replace hf := ifT c_5 hf
          refine ww_aload_n C dL_act_446 rfl 4 rfl ?_
          refine ww_getN (host := RL) C clOK9 in_L_act_X9 (w := wOwn E a12 (rf4 q13 q15 q17 q19) v12) (fs := fsOwn a12 (rf4 q13 q15 q17 q19) v12) (v := .int (Own_guards v12)) 12 0 2 rfl q_Own (by decide) (by decide +kernel) g_Own_guards dL_act_447 ?_
          refine ww_if_ne (tgt := 455) C dL_act_450 (by decide) (fun c_6 => ?_) (fun c_6 => ?_)
          · replace hf := ifF c_6 hf
            refine ww_iload C dL_act_455 0 rfl ?_
            refine ww_aload_n C dL_act_457 rfl 4 rfl ?_
            refine ww_getN (host := RL) C clOK9 in_L_act_X9 (w := wOwn E a12 (rf4 q13 q15 q17 q19) v12) (fs := fsOwn a12 (rf4 q13 q15 q17 q19) v12) (v := .int (Own_guards v12)) 12 0 2 rfl q_Own (by decide) (by decide +kernel) g_Own_guards dL_act_458 ?_
            obtain ⟨p461, hp461, hf⟩ := bdE hf
            refine ww_callS C (As := [.int x5_11, .int (Own_guards v12)]) (st := []) (gr := [wGW E a0 (rf10 (a1 0) (a2 0) (a3 0) (a5 0) h0_4 (a6 0) h0_6 (a9 0) (a10 0) h0_9) v0, wHouse E a1 v1, wHouse E a2 v2, wHist E a3 (rf2 q4 h3_1) v3, wHs E q4 ah4 v4, wSight E a5 v5, wBest E a6 (rf2 (a7 0) (a8 0)) v6, wHouse E a7 v7, wSight E a8 v8, wToks E a9 v9, wHRead E a10 (rf1 (a9 0)), wArr E q11 6 v11, wOwn E a12 (rf4 q13 q15 q17 q19) v12, wRO E q13 20 a14 v13, wRR E a14 v14, wRO E q15 12 a16 v15, wRR E a16 v16, wRO E q17 4 a18 v17, wRR E a18 v18, wArr E q19 4 v19]) (c_L_most (E := E)  hp461) gL_act_L_most rfl ysk_L_most ⟨by decide, Nat.le_of_ble_eq_true rfl⟩ ⟨Nat.zero_le _, Nat.zero_le _⟩ [] [0, 1, 2, 3, 4, 5, 6, 7, 8, 9, 10, 11, 12, 13, 14, 15, 16, 17, 18, 19] 20 rfl (by decide) rfl rfl (Nat.le_of_ble_eq_true rfl) dL_act_461 ?_
            rintro _ _ ⟨rfl, rfl⟩
            refine ww_perm (gs' := [wGW E a0 (rf10 (a1 0) (a2 0) (a3 0) (a5 0) h0_4 (a6 0) h0_6 (a9 0) (a10 0) h0_9) v0, wHouse E a1 v1, wHouse E a2 v2, wHist E a3 (rf2 q4 h3_1) v3, wHs E q4 ah4 v4, wSight E a5 v5, wBest E a6 (rf2 (a7 0) (a8 0)) v6, wHouse E a7 v7, wSight E a8 v8, wToks E a9 v9, wHRead E a10 (rf1 (a9 0)), wArr E q11 6 v11, wOwn E a12 (rf4 q13 q15 q17 q19) v12, wRO E q13 20 a14 v13, wRR E a14 v14, wRO E q15 12 a16 v15, wRR E a16 v16, wRO E q17 4 a18 v17, wRR E a18 v18, wArr E q19 4 v19]) [0, 1, 2, 3, 4, 5, 6, 7, 8, 9, 10, 11, 12, 13, 14, 15, 16, 17, 18, 19] 20 rfl (by decide) rfl ?_
            refine ww_istore (lv' := [(6, .int p461), (5, .int x5_11), (4, .int p3), (0, .ref (a0 0)), (1, .ref q11), (2, .ref (a12 0)), (3, .int x3)]) C dL_act_464 (by decide) rfl ?_
            refine ww_iload C dL_act_466 2 rfl ?_
            refine ww_bipush (v := 14) C dL_act_468 (by decide) ?_
            refine ww_icmp_ge (tgt := 561) C dL_act_470 (by decide) (fun c_7 => ?_) (fun c_7 => ?_)
            · replace hf := ifT c_7 hf
              refine ww_aload_n C dL_act_561 rfl 5 rfl ?_
              refine ww_getN (host := RL) C clOK9 in_L_act_X9 (w := wOwn E a12 (rf4 q13 q15 q17 q19) v12) (fs := fsOwn a12 (rf4 q13 q15 q17 q19) v12) (v := .ref q19) 12 0 7 rfl q_Own (by decide) (by decide +kernel) g_Own_phase dL_act_562 ?_
              refine ww_iload C dL_act_565 0 rfl ?_
              refine ww_iload C dL_act_567 1 rfl ?_
              refine ww_iconst (v := 3) C dL_act_569 (by decide) ?_
              refine ww_ishr C dL_act_570 ?_
              refine ww_aload_n C dL_act_571 rfl 5 rfl ?_
              refine ww_getN (host := RL) C clOK9 in_L_act_X9 (w := wOwn E a12 (rf4 q13 q15 q17 q19) v12) (fs := fsOwn a12 (rf4 q13 q15 q17 q19) v12) (v := .ref q17) 12 0 6 rfl q_Own (by decide) (by decide +kernel) g_Own_walk dL_act_572 ?_
              refine ww_iload C dL_act_575 0 rfl ?_
              obtain ⟨g_8, hf⟩ := gdE hf
              obtain ⟨g_9, hf⟩ := gdE hf
              refine ww_aldR C (f := roF a18 v17) (w := wRO E q17 4 a18 v17) 17 0 rfl q_RO (inB_vp g_8) (roF_at (of_decide_eq_true g_9)) dL_act_577 ?_
              obtain ⟨g_10, hf⟩ := gdE hf
              refine ww_alen C (v := nI (v18.2.1 (Int32.toNatClampNeg p461))) (w := wRR E a18 v18) 18 (Int32.toNatClampNeg p461) rfl (q_RR (of_decide_eq_true g_10)) rfl dL_act_578 ?_
              obtain ⟨p579, hp579, hf⟩ := bdE hf
              refine ww_callS C (As := [.int (x5_11 >>> (3 &&& 31)), .int (nI (v18.2.1 (Int32.toNatClampNeg p461)))]) (st := [.int p461, .ref q19]) (gr := [wGW E a0 (rf10 (a1 0) (a2 0) (a3 0) (a5 0) h0_4 (a6 0) h0_6 (a9 0) (a10 0) h0_9) v0, wHouse E a1 v1, wHouse E a2 v2, wHist E a3 (rf2 q4 h3_1) v3, wHs E q4 ah4 v4, wSight E a5 v5, wBest E a6 (rf2 (a7 0) (a8 0)) v6, wHouse E a7 v7, wSight E a8 v8, wToks E a9 v9, wHRead E a10 (rf1 (a9 0)), wArr E q11 6 v11, wOwn E a12 (rf4 q13 q15 q17 q19) v12, wRO E q13 20 a14 v13, wRR E a14 v14, wRO E q15 12 a16 v15, wRR E a16 v16, wRO E q17 4 a18 v17, wRR E a18 v18, wArr E q19 4 v19]) (c_L_most (E := E)  hp579) gL_act_L_most rfl ysk_L_most ⟨by decide, Nat.le_of_ble_eq_true rfl⟩ ⟨Nat.zero_le _, Nat.zero_le _⟩ [] [0, 1, 2, 3, 4, 5, 6, 7, 8, 9, 10, 11, 12, 13, 14, 15, 16, 17, 18, 19] 20 rfl (by decide) rfl rfl (Nat.le_of_ble_eq_true rfl) dL_act_579 ?_
              rintro _ _ ⟨rfl, rfl⟩
              refine ww_perm (gs' := [wGW E a0 (rf10 (a1 0) (a2 0) (a3 0) (a5 0) h0_4 (a6 0) h0_6 (a9 0) (a10 0) h0_9) v0, wHouse E a1 v1, wHouse E a2 v2, wHist E a3 (rf2 q4 h3_1) v3, wHs E q4 ah4 v4, wSight E a5 v5, wBest E a6 (rf2 (a7 0) (a8 0)) v6, wHouse E a7 v7, wSight E a8 v8, wToks E a9 v9, wHRead E a10 (rf1 (a9 0)), wArr E q11 6 v11, wOwn E a12 (rf4 q13 q15 q17 q19) v12, wRO E q13 20 a14 v13, wRR E a14 v14, wRO E q15 12 a16 v15, wRR E a16 v16, wRO E q17 4 a18 v17, wRR E a18 v18, wArr E q19 4 v19]) [0, 1, 2, 3, 4, 5, 6, 7, 8, 9, 10, 11, 12, 13, 14, 15, 16, 17, 18, 19] 20 rfl (by decide) rfl ?_
              obtain ⟨v19_582, e_v19_582⟩ : ∃ y : Nat → Int32, y = upd v19 (Int32.toNatClampNeg p461) p579 := ⟨_, rfl⟩
              replace hf := ltE e_v19_582 hf
              refine ww_iast C (f := v19) (w := wArr E q19 4 v19) (w' := wArr E q19 4 v19_582) (gs' := [wGW E a0 (rf10 (a1 0) (a2 0) (a3 0) (a5 0) h0_4 (a6 0) h0_6 (a9 0) (a10 0) h0_9) v0, wHouse E a1 v1, wHouse E a2 v2, wHist E a3 (rf2 q4 h3_1) v3, wHs E q4 ah4 v4, wSight E a5 v5, wBest E a6 (rf2 (a7 0) (a8 0)) v6, wHouse E a7 v7, wSight E a8 v8, wToks E a9 v9, wHRead E a10 (rf1 (a9 0)), wArr E q11 6 v11, wOwn E a12 (rf4 q13 q15 q17 q19) v12, wRO E q13 20 a14 v13, wRR E a14 v14, wRO E q15 12 a16 v15, wRR E a16 v16, wRO E q17 4 a18 v17, wRR E a18 v18, wArr E q19 4 v19_582]) 19 0 rfl q_Arr (inB_vp g_8) (by rw [e_v19_582]; exact s_Arr) rfl dL_act_582 ?_
              refine ww_aload_n C dL_act_583 rfl 3 rfl ?_
              refine ww_iload C dL_act_584 0 rfl ?_
              refine ww_aload_n C dL_act_586 rfl 5 rfl ?_
              refine ww_getN (host := RL) C clOK9 in_L_act_X9 (w := wOwn E a12 (rf4 q13 q15 q17 q19) v12) (fs := fsOwn a12 (rf4 q13 q15 q17 q19) v12) (v := .ref q19) 12 0 7 rfl q_Own (by decide) (by decide +kernel) g_Own_phase dL_act_587 ?_
              refine ww_iload C dL_act_590 0 rfl ?_
              refine ww_iald C (f := v19_582) (w := wArr E q19 4 v19_582) 19 0 rfl q_Arr (inB_vp g_8) dL_act_592 ?_
              obtain ⟨p593, hp593, hf⟩ := bdE hf
              refine ww_callV C (As := [.int p461, .int (v19_582 (Int32.toNatClampNeg p461))]) (st := []) (gr := [wHouse E a2 v2, wBest E a6 (rf2 (a7 0) (a8 0)) v6, wHouse E a7 v7, wSight E a8 v8, wToks E a9 v9, wHRead E a10 (rf1 (a9 0)), wArr E q11 6 v11, wOwn E a12 (rf4 q13 q15 q17 q19) v12, wRO E q13 20 a14 v13, wRR E a14 v14, wRO E q15 12 a16 v15, wRR E a16 v16, wRO E q17 4 a18 v17, wRR E a18 v18, wArr E q19 4 v19_582]) (c_X8_shift (E := E) (a0 := a0) (h0_1 := a2 0) (h0_4 := h0_4) (h0_5 := a6 0) (h0_6 := h0_6) (h0_7 := a9 0) (h0_8 := a10 0) (h0_9 := h0_9) (a1 := a1) (a2 := a3) (h2_1 := h3_1) (q3 := q4) (ah3 := ah4) (a4 := a5) hp593) gL_act_X8_shift rfl yk_X8_shift ⟨by decide, Nat.le_of_ble_eq_true rfl⟩ ⟨Nat.zero_le _, Nat.zero_le _⟩ clOK8 0 0 rfl rfl [0, 1, 3, 4, 5] [2, 6, 7, 8, 9, 10, 11, 12, 13, 14, 15, 16, 17, 18, 19] 20 rfl (by decide) rfl rfl (Nat.le_of_ble_eq_true rfl) dL_act_593 ?_
              rintro _ _ ⟨rfl, rfl⟩
              refine ww_perm (gs' := [wGW E a0 (rf10 (a1 0) (a2 0) (a3 0) (a5 0) h0_4 (a6 0) h0_6 (a9 0) (a10 0) h0_9) p593.2.1, wHouse E a1 p593.2.2.1, wHouse E a2 v2, wHist E a3 (rf2 q4 h3_1) p593.2.2.2.1, wHs E q4 ah4 p593.2.2.2.2.1, wSight E a5 p593.2.2.2.2.2, wBest E a6 (rf2 (a7 0) (a8 0)) v6, wHouse E a7 v7, wSight E a8 v8, wToks E a9 v9, wHRead E a10 (rf1 (a9 0)), wArr E q11 6 v11, wOwn E a12 (rf4 q13 q15 q17 q19) v12, wRO E q13 20 a14 v13, wRR E a14 v14, wRO E q15 12 a16 v15, wRR E a16 v16, wRO E q17 4 a18 v17, wRR E a18 v18, wArr E q19 4 v19_582]) [0, 1, 5, 2, 3, 4, 6, 7, 8, 9, 10, 11, 12, 13, 14, 15, 16, 17, 18, 19] 20 rfl (by decide) rfl ?_
              refine ww_aload_n C dL_act_596 rfl 5 rfl ?_
              obtain ⟨g_11, hf⟩ := gdE hf
              obtain ⟨p597, hp597, hf⟩ := bdE hf
              refine ww_callVN C (As := []) (st := [.int p593.1]) (gr := [wGW E a0 (rf10 (a1 0) (a2 0) (a3 0) (a5 0) h0_4 (a6 0) h0_6 (a9 0) (a10 0) h0_9) p593.2.1, wHouse E a1 p593.2.2.1, wHouse E a2 v2, wHist E a3 (rf2 q4 h3_1) p593.2.2.2.1, wHs E q4 ah4 p593.2.2.2.2.1, wSight E a5 p593.2.2.2.2.2, wBest E a6 (rf2 (a7 0) (a8 0)) v6, wHouse E a7 v7, wSight E a8 v8, wToks E a9 v9, wHRead E a10 (rf1 (a9 0)), wArr E q11 6 v11, wRO E q13 20 a14 v13, wRR E a14 v14, wRO E q15 12 a16 v15, wRR E a16 v16]) (host := RL) (c_X9_worst (E := E) (a0 := a12) (h0_0 := q13) (h0_1 := q15) (q1 := q17) (a2 := a18) (q3 := q19) hp597) gL_act_X9_worst_n126 rfl (by decide +kernel) (by decide +kernel) (by decide +kernel) (by decide +kernel) yk_X9_worst ⟨by decide, Nat.le_of_ble_eq_true rfl⟩ (of_decide_eq_true g_11) clOK9 0 0 rfl rfl [12, 17, 18, 19] [0, 1, 2, 3, 4, 5, 6, 7, 8, 9, 10, 11, 13, 14, 15, 16] 20 rfl (by decide) rfl rfl (Nat.le_of_ble_eq_true rfl) dL_act_597 ?_
              rintro _ _ ⟨rfl, rfl⟩
              refine ww_perm (gs' := [wGW E a0 (rf10 (a1 0) (a2 0) (a3 0) (a5 0) h0_4 (a6 0) h0_6 (a9 0) (a10 0) h0_9) p593.2.1, wHouse E a1 p593.2.2.1, wHouse E a2 v2, wHist E a3 (rf2 q4 h3_1) p593.2.2.2.1, wHs E q4 ah4 p593.2.2.2.2.1, wSight E a5 p593.2.2.2.2.2, wBest E a6 (rf2 (a7 0) (a8 0)) v6, wHouse E a7 v7, wSight E a8 v8, wToks E a9 v9, wHRead E a10 (rf1 (a9 0)), wArr E q11 6 v11, wOwn E a12 (rf4 q13 q15 q17 q19) v12, wRO E q13 20 a14 v13, wRR E a14 v14, wRO E q15 12 a16 v15, wRR E a16 v16, wRO E q17 4 a18 v17, wRR E a18 v18, wArr E q19 4 v19_582]) [4, 5, 6, 7, 8, 9, 10, 11, 12, 13, 14, 15, 0, 16, 17, 18, 19, 1, 2, 3] 20 rfl (by decide) rfl ?_
              refine ww_icmp_ne (tgt := 607) C dL_act_600 (by decide) (fun c_12 => ?_) (fun c_12 => ?_)
              · replace hf := ifF c_12 hf
                refine ww_iconst (v := (-1)) C dL_act_607 (by decide) ?_
                obtain rfl := Option.some.inj hf
                refine ww_widen (k := 20700) (n := 44000) (of_decide_eq_true g_11).1 (of_decide_eq_true g_11).2 ?_
                exact ww_iret C ⟨_, rfl, rfl⟩ dL_act_608
              · replace hf := ifT c_12 hf
                refine ww_iconst (v := 1) C dL_act_603 (by decide) ?_
                refine ww_goto (tgt := 608) C dL_act_604 (by decide) ?_
                obtain rfl := Option.some.inj hf
                refine ww_widen (k := 20700) (n := 44000) (of_decide_eq_true g_11).1 (of_decide_eq_true g_11).2 ?_
                exact ww_iret C ⟨_, rfl, rfl⟩ dL_act_608
            · replace hf := ifF c_7 hf
              refine ww_aload_n C dL_act_473 rfl 5 rfl ?_
              refine ww_getN (host := RL) C clOK9 in_L_act_X9 (w := wOwn E a12 (rf4 q13 q15 q17 q19) v12) (fs := fsOwn a12 (rf4 q13 q15 q17 q19) v12) (v := .ref q17) 12 0 6 rfl q_Own (by decide) (by decide +kernel) g_Own_walk dL_act_474 ?_
              refine ww_iload C dL_act_477 0 rfl ?_
              refine ww_aload_n C dL_act_479 rfl 5 rfl ?_
              refine ww_iload C dL_act_480 1 rfl ?_
              refine ww_iconst (v := 2) C dL_act_482 (by decide) ?_
              refine ww_ishr C dL_act_483 ?_
              obtain ⟨g_13, hf⟩ := gdE hf
              obtain ⟨p484, hp484, hf⟩ := bdE hf
              refine ww_callVN C (As := [.int (x5_11 >>> (2 &&& 31))]) (st := [.int p461, .ref q17]) (gr := [wGW E a0 (rf10 (a1 0) (a2 0) (a3 0) (a5 0) h0_4 (a6 0) h0_6 (a9 0) (a10 0) h0_9) v0, wHouse E a1 v1, wHouse E a2 v2, wHist E a3 (rf2 q4 h3_1) v3, wHs E q4 ah4 v4, wSight E a5 v5, wBest E a6 (rf2 (a7 0) (a8 0)) v6, wHouse E a7 v7, wSight E a8 v8, wToks E a9 v9, wHRead E a10 (rf1 (a9 0)), wArr E q11 6 v11, wRO E q15 12 a16 v15, wRR E a16 v16, wRO E q17 4 a18 v17, wRR E a18 v18, wArr E q19 4 v19]) (host := RL) (c_X9_walkBy (E := E) (a0 := a12) (h0_1 := q15) (h0_2 := q17) (h0_3 := q19) (q1 := q13) (a2 := a14) hp484) gL_act_X9_walkBy_n48 rfl (by decide +kernel) (by decide +kernel) (by decide +kernel) (by decide +kernel) yk_X9_walkBy ⟨by decide, Nat.le_of_ble_eq_true rfl⟩ (of_decide_eq_true g_13) clOK9 0 0 rfl rfl [12, 13, 14] [0, 1, 2, 3, 4, 5, 6, 7, 8, 9, 10, 11, 15, 16, 17, 18, 19] 20 rfl (by decide) rfl rfl (Nat.le_of_ble_eq_true rfl) dL_act_484 ?_
              rintro _ _ ⟨y484_0, rfl, rfl⟩
              refine ww_perm (gs' := [wGW E a0 (rf10 (a1 0) (a2 0) (a3 0) (a5 0) h0_4 (a6 0) h0_6 (a9 0) (a10 0) h0_9) v0, wHouse E a1 v1, wHouse E a2 v2, wHist E a3 (rf2 q4 h3_1) v3, wHs E q4 ah4 v4, wSight E a5 v5, wBest E a6 (rf2 (a7 0) (a8 0)) v6, wHouse E a7 v7, wSight E a8 v8, wToks E a9 v9, wHRead E a10 (rf1 (a9 0)), wArr E q11 6 v11, wOwn E a12 (rf4 q13 q15 q17 q19) v12, wRO E q13 20 a14 v13, wRR E a14 v14, wRO E q15 12 a16 v15, wRR E a16 v16, wRO E q17 4 a18 v17, wRR E a18 v18, wArr E q19 4 v19, wArr E y484_0 p484.1 p484.2]) [4, 5, 6, 7, 8, 9, 10, 11, 12, 13, 14, 15, 0, 1, 2, 16, 17, 18, 19, 20, 3] 21 rfl (by decide) rfl ?_
              obtain ⟨g_14, hf⟩ := gdE hf
              obtain ⟨g_15, hf⟩ := gdE hf
              obtain ⟨g_16, hf⟩ := gdE hf
              refine ww_astR C (b := y484_0) (f := roF a18 v17) (w := wRO E q17 4 a18 v17) (w' := wRO E q17 4 (upA a18 (Int32.toNatClampNeg p461) y484_0) v17) (wv := wArr E y484_0 p484.1 p484.2) (gs' := [wGW E a0 (rf10 (a1 0) (a2 0) (a3 0) (a5 0) h0_4 (a6 0) h0_6 (a9 0) (a10 0) h0_9) v0, wHouse E a1 v1, wHouse E a2 v2, wHist E a3 (rf2 q4 h3_1) v3, wHs E q4 ah4 v4, wSight E a5 v5, wBest E a6 (rf2 (a7 0) (a8 0)) v6, wHouse E a7 v7, wSight E a8 v8, wToks E a9 v9, wHRead E a10 (rf1 (a9 0)), wArr E q11 6 v11, wOwn E a12 (rf4 q13 q15 q17 q19) v12, wRO E q13 20 a14 v13, wRR E a14 v14, wRO E q15 12 a16 v15, wRR E a16 v16, wRO E q17 4 (upA a18 (Int32.toNatClampNeg p461) y484_0) v17, wRR E a18 v18, wArr E q19 4 v19, wArr E y484_0 p484.1 p484.2]) 17 0 20 0 rfl q_RO rfl q_Arr (inB_vp g_14) (ro_swap (of_decide_eq_true g_15)) rfl dL_act_487 ?_
              obtain ⟨v18_487, e_v18_487⟩ : ∃ y : RowsT, y = rrPut v18 (Int32.toNatClampNeg p461) p484.1 p484.2 := ⟨_, rfl⟩
              replace hf := ltE e_v18_487 hf
              refine ww_regr (gs' := [wGW E a0 (rf10 (a1 0) (a2 0) (a3 0) (a5 0) h0_4 (a6 0) h0_6 (a9 0) (a10 0) h0_9) v0, wHouse E a1 v1, wHouse E a2 v2, wHist E a3 (rf2 q4 h3_1) v3, wHs E q4 ah4 v4, wSight E a5 v5, wBest E a6 (rf2 (a7 0) (a8 0)) v6, wHouse E a7 v7, wSight E a8 v8, wToks E a9 v9, wHRead E a10 (rf1 (a9 0)), wArr E q11 6 v11, wOwn E a12 (rf4 q13 q15 q17 q19) v12, wRO E q13 20 a14 v13, wRR E a14 v14, wRO E q15 12 a16 v15, wRR E a16 v16, wRO E q17 4 (upA a18 (Int32.toNatClampNeg p461) y484_0) v17, wRRa E a18 v18 (Int32.toNatClampNeg p461), wArr E (a18 (Int32.toNatClampNeg p461)) (v18.2.1 (Int32.toNatClampNeg p461)) (v18.2.2 (Int32.toNatClampNeg p461)), wRRb E a18 v18 (Int32.toNatClampNeg p461), wArr E q19 4 v19, wArr E y484_0 p484.1 p484.2]) (by rw [rr_cut (of_decide_eq_true g_16)]; simp only [List.flatten_cons, List.flatten_nil, List.append_assoc]) ?_
              refine ww_drop (gs' := [wGW E a0 (rf10 (a1 0) (a2 0) (a3 0) (a5 0) h0_4 (a6 0) h0_6 (a9 0) (a10 0) h0_9) v0, wHouse E a1 v1, wHouse E a2 v2, wHist E a3 (rf2 q4 h3_1) v3, wHs E q4 ah4 v4, wSight E a5 v5, wBest E a6 (rf2 (a7 0) (a8 0)) v6, wHouse E a7 v7, wSight E a8 v8, wToks E a9 v9, wHRead E a10 (rf1 (a9 0)), wArr E q11 6 v11, wOwn E a12 (rf4 q13 q15 q17 q19) v12, wRO E q13 20 a14 v13, wRR E a14 v14, wRO E q15 12 a16 v15, wRR E a16 v16, wRO E q17 4 (upA a18 (Int32.toNatClampNeg p461) y484_0) v17, wRRa E a18 v18 (Int32.toNatClampNeg p461), wArr E y484_0 p484.1 p484.2, wRRb E a18 v18 (Int32.toNatClampNeg p461), wArr E q19 4 v19]) [0, 1, 2, 3, 4, 5, 6, 7, 8, 9, 10, 11, 12, 13, 14, 15, 16, 17, 18, 22, 20, 21] [19] 23 rfl (by decide) rfl ?_
              refine ww_regr (gs' := [wGW E a0 (rf10 (a1 0) (a2 0) (a3 0) (a5 0) h0_4 (a6 0) h0_6 (a9 0) (a10 0) h0_9) v0, wHouse E a1 v1, wHouse E a2 v2, wHist E a3 (rf2 q4 h3_1) v3, wHs E q4 ah4 v4, wSight E a5 v5, wBest E a6 (rf2 (a7 0) (a8 0)) v6, wHouse E a7 v7, wSight E a8 v8, wToks E a9 v9, wHRead E a10 (rf1 (a9 0)), wArr E q11 6 v11, wOwn E a12 (rf4 q13 q15 q17 q19) v12, wRO E q13 20 a14 v13, wRR E a14 v14, wRO E q15 12 a16 v15, wRR E a16 v16, wRO E q17 4 (upA a18 (Int32.toNatClampNeg p461) y484_0) v17, wRR E (upA a18 (Int32.toNatClampNeg p461) y484_0) v18_487, wArr E q19 4 v19]) (by rw [e_v18_487, rr_put (of_decide_eq_true g_16)]; simp only [List.flatten_cons, List.flatten_nil, List.append_assoc]) ?_
              refine ww_aload_n C dL_act_488 rfl 5 rfl ?_
              refine ww_getN (host := RL) C clOK9 in_L_act_X9 (w := wOwn E a12 (rf4 q13 q15 q17 q19) v12) (fs := fsOwn a12 (rf4 q13 q15 q17 q19) v12) (v := .ref q19) 12 0 7 rfl q_Own (by decide) (by decide +kernel) g_Own_phase dL_act_489 ?_
              refine ww_iload C dL_act_492 0 rfl ?_
              refine ww_iload C dL_act_494 1 rfl ?_
              refine ww_bipush (v := 8) C dL_act_496 (by decide) ?_
              refine ww_ishr C dL_act_498 ?_
              refine ww_aload_n C dL_act_499 rfl 5 rfl ?_
              refine ww_getN (host := RL) C clOK9 in_L_act_X9 (w := wOwn E a12 (rf4 q13 q15 q17 q19) v12) (fs := fsOwn a12 (rf4 q13 q15 q17 q19) v12) (v := .ref q17) 12 0 6 rfl q_Own (by decide) (by decide +kernel) g_Own_walk dL_act_500 ?_
              refine ww_iload C dL_act_503 0 rfl ?_
              refine ww_aldR C (f := roF (upA a18 (Int32.toNatClampNeg p461) y484_0) v17) (w := wRO E q17 4 (upA a18 (Int32.toNatClampNeg p461) y484_0) v17) 17 0 rfl q_RO (inB_vp g_14) (roF_at (of_decide_eq_true g_15)) dL_act_505 ?_
              obtain ⟨g_17, hf⟩ := gdE hf
              refine ww_alen C (v := nI (v18_487.2.1 (Int32.toNatClampNeg p461))) (w := wRR E (upA a18 (Int32.toNatClampNeg p461) y484_0) v18_487) 18 (Int32.toNatClampNeg p461) rfl (q_RR (of_decide_eq_true g_17)) rfl dL_act_506 ?_
              obtain ⟨p507, hp507, hf⟩ := bdE hf
              refine ww_callS C (As := [.int (x5_11 >>> (8 &&& 31)), .int (nI (v18_487.2.1 (Int32.toNatClampNeg p461)))]) (st := [.int p461, .ref q19]) (gr := [wGW E a0 (rf10 (a1 0) (a2 0) (a3 0) (a5 0) h0_4 (a6 0) h0_6 (a9 0) (a10 0) h0_9) v0, wHouse E a1 v1, wHouse E a2 v2, wHist E a3 (rf2 q4 h3_1) v3, wHs E q4 ah4 v4, wSight E a5 v5, wBest E a6 (rf2 (a7 0) (a8 0)) v6, wHouse E a7 v7, wSight E a8 v8, wToks E a9 v9, wHRead E a10 (rf1 (a9 0)), wArr E q11 6 v11, wOwn E a12 (rf4 q13 q15 q17 q19) v12, wRO E q13 20 a14 v13, wRR E a14 v14, wRO E q15 12 a16 v15, wRR E a16 v16, wRO E q17 4 (upA a18 (Int32.toNatClampNeg p461) y484_0) v17, wRR E (upA a18 (Int32.toNatClampNeg p461) y484_0) v18_487, wArr E q19 4 v19]) (c_L_most (E := E)  hp507) gL_act_L_most rfl ysk_L_most ⟨by decide, Nat.le_of_ble_eq_true rfl⟩ (of_decide_eq_true g_13) [] [0, 1, 2, 3, 4, 5, 6, 7, 8, 9, 10, 11, 12, 13, 14, 15, 16, 17, 18, 19] 20 rfl (by decide) rfl rfl (Nat.le_of_ble_eq_true rfl) dL_act_507 ?_
              rintro _ _ ⟨rfl, rfl⟩
              refine ww_perm (gs' := [wGW E a0 (rf10 (a1 0) (a2 0) (a3 0) (a5 0) h0_4 (a6 0) h0_6 (a9 0) (a10 0) h0_9) v0, wHouse E a1 v1, wHouse E a2 v2, wHist E a3 (rf2 q4 h3_1) v3, wHs E q4 ah4 v4, wSight E a5 v5, wBest E a6 (rf2 (a7 0) (a8 0)) v6, wHouse E a7 v7, wSight E a8 v8, wToks E a9 v9, wHRead E a10 (rf1 (a9 0)), wArr E q11 6 v11, wOwn E a12 (rf4 q13 q15 q17 q19) v12, wRO E q13 20 a14 v13, wRR E a14 v14, wRO E q15 12 a16 v15, wRR E a16 v16, wRO E q17 4 (upA a18 (Int32.toNatClampNeg p461) y484_0) v17, wRR E (upA a18 (Int32.toNatClampNeg p461) y484_0) v18_487, wArr E q19 4 v19]) [0, 1, 2, 3, 4, 5, 6, 7, 8, 9, 10, 11, 12, 13, 14, 15, 16, 17, 18, 19] 20 rfl (by decide) rfl ?_
              obtain ⟨v19_510, e_v19_510⟩ : ∃ y : Nat → Int32, y = upd v19 (Int32.toNatClampNeg p461) p507 := ⟨_, rfl⟩
              replace hf := ltE e_v19_510 hf
              refine ww_iast C (f := v19) (w := wArr E q19 4 v19) (w' := wArr E q19 4 v19_510) (gs' := [wGW E a0 (rf10 (a1 0) (a2 0) (a3 0) (a5 0) h0_4 (a6 0) h0_6 (a9 0) (a10 0) h0_9) v0, wHouse E a1 v1, wHouse E a2 v2, wHist E a3 (rf2 q4 h3_1) v3, wHs E q4 ah4 v4, wSight E a5 v5, wBest E a6 (rf2 (a7 0) (a8 0)) v6, wHouse E a7 v7, wSight E a8 v8, wToks E a9 v9, wHRead E a10 (rf1 (a9 0)), wArr E q11 6 v11, wOwn E a12 (rf4 q13 q15 q17 q19) v12, wRO E q13 20 a14 v13, wRR E a14 v14, wRO E q15 12 a16 v15, wRR E a16 v16, wRO E q17 4 (upA a18 (Int32.toNatClampNeg p461) y484_0) v17, wRR E (upA a18 (Int32.toNatClampNeg p461) y484_0) v18_487, wArr E q19 4 v19_510]) 19 0 rfl q_Arr (inB_vp g_14) (by rw [e_v19_510]; exact s_Arr) rfl dL_act_510 ?_
              refine ww_aload_n C dL_act_511 rfl 3 rfl ?_
              refine ww_aload_n C dL_act_512 rfl 4 rfl ?_
              refine ww_ldcS C (i := 24) rfl dL_act_513 ?_
              refine ww_iload C dL_act_515 0 rfl ?_
              obtain ⟨p517, hp517, hf⟩ := bdE hf
              refine ww_callS C (As := [.ref (a0 0), .ref q11, .ref (eK E 24), .int p461]) (st := []) (gr := [wHouse E a1 v1, wHouse E a2 v2, wHist E a3 (rf2 q4 h3_1) v3, wHs E q4 ah4 v4, wSight E a5 v5, wBest E a6 (rf2 (a7 0) (a8 0)) v6, wHouse E a7 v7, wSight E a8 v8, wHRead E a10 (rf1 (a9 0)), wOwn E a12 (rf4 q13 q15 q17 q19) v12, wRO E q13 20 a14 v13, wRR E a14 v14, wRO E q15 12 a16 v15, wRR E a16 v16, wRO E q17 4 (upA a18 (Int32.toNatClampNeg p461) y484_0) v17, wRR E (upA a18 (Int32.toNatClampNeg p461) y484_0) v18_487, wArr E q19 4 v19_510]) (c_L_with (E := E) (a0 := a0) (h0_0 := a1 0) (h0_1 := a2 0) (h0_2 := a3 0) (h0_3 := a5 0) (h0_4 := h0_4) (h0_5 := a6 0) (h0_6 := h0_6) (h0_8 := a10 0) (h0_9 := h0_9) (a1 := a9) (q2 := q11) hp517) gL_act_L_with rfl ysk_L_with ⟨by decide, Nat.le_of_ble_eq_true rfl⟩ (of_decide_eq_true g_13) [0, 9, 11] [1, 2, 3, 4, 5, 6, 7, 8, 10, 12, 13, 14, 15, 16, 17, 18, 19] 20 rfl (by decide) rfl rfl (Nat.le_of_ble_eq_true rfl) dL_act_517 ?_
              rintro _ _ ⟨rfl, rfl⟩
              refine ww_perm (gs' := [wGW E a0 (rf10 (a1 0) (a2 0) (a3 0) (a5 0) h0_4 (a6 0) h0_6 (a9 0) (a10 0) h0_9) v0, wHouse E a1 v1, wHouse E a2 v2, wHist E a3 (rf2 q4 h3_1) v3, wHs E q4 ah4 v4, wSight E a5 v5, wBest E a6 (rf2 (a7 0) (a8 0)) v6, wHouse E a7 v7, wSight E a8 v8, wToks E a9 p517.1, wHRead E a10 (rf1 (a9 0)), wArr E q11 6 p517.2, wOwn E a12 (rf4 q13 q15 q17 q19) v12, wRO E q13 20 a14 v13, wRR E a14 v14, wRO E q15 12 a16 v15, wRR E a16 v16, wRO E q17 4 (upA a18 (Int32.toNatClampNeg p461) y484_0) v17, wRR E (upA a18 (Int32.toNatClampNeg p461) y484_0) v18_487, wArr E q19 4 v19_510]) [0, 3, 4, 5, 6, 7, 8, 9, 10, 1, 11, 2, 12, 13, 14, 15, 16, 17, 18, 19] 20 rfl (by decide) rfl ?_
              refine ww_aload_n C dL_act_520 rfl 3 rfl ?_
              refine ww_aload_n C dL_act_521 rfl 4 rfl ?_
              refine ww_aload_n C dL_act_522 rfl 5 rfl ?_
              refine ww_getN (host := RL) C clOK9 in_L_act_X9 (w := wOwn E a12 (rf4 q13 q15 q17 q19) v12) (fs := fsOwn a12 (rf4 q13 q15 q17 q19) v12) (v := .ref q17) 12 0 6 rfl q_Own (by decide) (by decide +kernel) g_Own_walk dL_act_523 ?_
              refine ww_iload C dL_act_526 0 rfl ?_
              refine ww_aldR C (f := roF (upA a18 (Int32.toNatClampNeg p461) y484_0) v17) (w := wRO E q17 4 (upA a18 (Int32.toNatClampNeg p461) y484_0) v17) 17 0 rfl q_RO (inB_vp g_14) (roF_at (of_decide_eq_true g_15)) dL_act_528 ?_
              refine ww_aload_n C dL_act_529 rfl 5 rfl ?_
              refine ww_getN (host := RL) C clOK9 in_L_act_X9 (w := wOwn E a12 (rf4 q13 q15 q17 q19) v12) (fs := fsOwn a12 (rf4 q13 q15 q17 q19) v12) (v := .ref q19) 12 0 7 rfl q_Own (by decide) (by decide +kernel) g_Own_phase dL_act_530 ?_
              refine ww_iload C dL_act_533 0 rfl ?_
              refine ww_iald C (f := v19_510) (w := wArr E q19 4 v19_510) 19 0 rfl q_Arr (inB_vp g_14) dL_act_535 ?_
              obtain ⟨p536, hp536, hf⟩ := bdE hf
              refine ww_regr (gs' := [wGW E a0 (rf10 (a1 0) (a2 0) (a3 0) (a5 0) h0_4 (a6 0) h0_6 (a9 0) (a10 0) h0_9) v0, wHouse E a1 v1, wHouse E a2 v2, wHist E a3 (rf2 q4 h3_1) v3, wHs E q4 ah4 v4, wSight E a5 v5, wBest E a6 (rf2 (a7 0) (a8 0)) v6, wHouse E a7 v7, wSight E a8 v8, wToks E a9 p517.1, wHRead E a10 (rf1 (a9 0)), wArr E q11 6 p517.2, wOwn E a12 (rf4 q13 q15 q17 q19) v12, wRO E q13 20 a14 v13, wRR E a14 v14, wRO E q15 12 a16 v15, wRR E a16 v16, wRO E q17 4 (upA a18 (Int32.toNatClampNeg p461) y484_0) v17, wRRa E (upA a18 (Int32.toNatClampNeg p461) y484_0) v18_487 (Int32.toNatClampNeg p461), wArr E ((upA a18 (Int32.toNatClampNeg p461) y484_0) (Int32.toNatClampNeg p461)) (v18_487.2.1 (Int32.toNatClampNeg p461)) (v18_487.2.2 (Int32.toNatClampNeg p461)), wRRb E (upA a18 (Int32.toNatClampNeg p461) y484_0) v18_487 (Int32.toNatClampNeg p461), wArr E q19 4 v19_510]) (by rw [rr_cut (of_decide_eq_true g_17)]; simp only [List.flatten_cons, List.flatten_nil, List.append_assoc]) ?_
              refine ww_callS C (As := [.ref (a0 0), .ref q11, .ref ((upA a18 (Int32.toNatClampNeg p461) y484_0) (Int32.toNatClampNeg p461)), .int (v19_510 (Int32.toNatClampNeg p461))]) (st := []) (gr := [wHouse E a1 v1, wHouse E a2 v2, wHist E a3 (rf2 q4 h3_1) v3, wHs E q4 ah4 v4, wSight E a5 v5, wBest E a6 (rf2 (a7 0) (a8 0)) v6, wHouse E a7 v7, wSight E a8 v8, wHRead E a10 (rf1 (a9 0)), wOwn E a12 (rf4 q13 q15 q17 q19) v12, wRO E q13 20 a14 v13, wRR E a14 v14, wRO E q15 12 a16 v15, wRR E a16 v16, wRO E q17 4 (upA a18 (Int32.toNatClampNeg p461) y484_0) v17, wRRa E (upA a18 (Int32.toNatClampNeg p461) y484_0) v18_487 (Int32.toNatClampNeg p461), wRRb E (upA a18 (Int32.toNatClampNeg p461) y484_0) v18_487 (Int32.toNatClampNeg p461), wArr E q19 4 v19_510]) (c_L_walkOf (E := E) (a0 := a0) (h0_0 := a1 0) (h0_1 := a2 0) (h0_2 := a3 0) (h0_3 := a5 0) (h0_4 := h0_4) (h0_5 := a6 0) (h0_6 := h0_6) (h0_8 := a10 0) (h0_9 := h0_9) (a1 := a9) (q2 := q11) (q3 := (upA a18 (Int32.toNatClampNeg p461) y484_0) (Int32.toNatClampNeg p461)) (n3 := (v18_487.2.1 (Int32.toNatClampNeg p461))) hp536) gL_act_L_walkOf rfl ysk_L_walkOf ⟨by decide, Nat.le_of_ble_eq_true rfl⟩ (of_decide_eq_true g_13) [0, 9, 11, 19] [1, 2, 3, 4, 5, 6, 7, 8, 10, 12, 13, 14, 15, 16, 17, 18, 20, 21] 22 rfl (by decide) rfl rfl (Nat.le_of_ble_eq_true rfl) dL_act_536 ?_
              rintro _ _ ⟨rfl, rfl⟩
              refine ww_perm (gs' := [wGW E a0 (rf10 (a1 0) (a2 0) (a3 0) (a5 0) h0_4 (a6 0) h0_6 (a9 0) (a10 0) h0_9) v0, wHouse E a1 v1, wHouse E a2 v2, wHist E a3 (rf2 q4 h3_1) v3, wHs E q4 ah4 v4, wSight E a5 v5, wBest E a6 (rf2 (a7 0) (a8 0)) v6, wHouse E a7 v7, wSight E a8 v8, wToks E a9 p536.1, wHRead E a10 (rf1 (a9 0)), wArr E q11 6 p536.2, wOwn E a12 (rf4 q13 q15 q17 q19) v12, wRO E q13 20 a14 v13, wRR E a14 v14, wRO E q15 12 a16 v15, wRR E a16 v16, wRO E q17 4 (upA a18 (Int32.toNatClampNeg p461) y484_0) v17, wRRa E (upA a18 (Int32.toNatClampNeg p461) y484_0) v18_487 (Int32.toNatClampNeg p461), wArr E ((upA a18 (Int32.toNatClampNeg p461) y484_0) (Int32.toNatClampNeg p461)) (v18_487.2.1 (Int32.toNatClampNeg p461)) (v18_487.2.2 (Int32.toNatClampNeg p461)), wRRb E (upA a18 (Int32.toNatClampNeg p461) y484_0) v18_487 (Int32.toNatClampNeg p461), wArr E q19 4 v19_510]) [0, 4, 5, 6, 7, 8, 9, 10, 11, 1, 12, 2, 13, 14, 15, 16, 17, 18, 19, 3, 20, 21] 22 rfl (by decide) rfl ?_
              refine ww_regr (gs' := [wGW E a0 (rf10 (a1 0) (a2 0) (a3 0) (a5 0) h0_4 (a6 0) h0_6 (a9 0) (a10 0) h0_9) v0, wHouse E a1 v1, wHouse E a2 v2, wHist E a3 (rf2 q4 h3_1) v3, wHs E q4 ah4 v4, wSight E a5 v5, wBest E a6 (rf2 (a7 0) (a8 0)) v6, wHouse E a7 v7, wSight E a8 v8, wToks E a9 p536.1, wHRead E a10 (rf1 (a9 0)), wArr E q11 6 p536.2, wOwn E a12 (rf4 q13 q15 q17 q19) v12, wRO E q13 20 a14 v13, wRR E a14 v14, wRO E q15 12 a16 v15, wRR E a16 v16, wRO E q17 4 (upA a18 (Int32.toNatClampNeg p461) y484_0) v17, wRR E (upA a18 (Int32.toNatClampNeg p461) y484_0) v18_487, wArr E q19 4 v19_510]) (by rw [rr_cut (of_decide_eq_true g_17)]; simp only [List.flatten_cons, List.flatten_nil, List.append_assoc]) ?_
              refine ww_aload_n C dL_act_539 rfl 3 rfl ?_
              refine ww_aload_n C dL_act_540 rfl 3 rfl ?_
              refine ww_aload_n C dL_act_541 rfl 4 rfl ?_
              obtain ⟨p542, hp542, hf⟩ := bdE hf
              refine ww_callS C (As := [.ref (a0 0), .ref q11]) (st := [.ref (a0 0)]) (gr := [wHouse E a1 v1, wHouse E a2 v2, wHist E a3 (rf2 q4 h3_1) v3, wHs E q4 ah4 v4, wSight E a5 v5, wBest E a6 (rf2 (a7 0) (a8 0)) v6, wHouse E a7 v7, wSight E a8 v8, wHRead E a10 (rf1 (a9 0)), wOwn E a12 (rf4 q13 q15 q17 q19) v12, wRO E q13 20 a14 v13, wRR E a14 v14, wRO E q15 12 a16 v15, wRR E a16 v16, wRO E q17 4 (upA a18 (Int32.toNatClampNeg p461) y484_0) v17, wRR E (upA a18 (Int32.toNatClampNeg p461) y484_0) v18_487, wArr E q19 4 v19_510]) (c_L_end (E := E) (a0 := a0) (h0_0 := a1 0) (h0_1 := a2 0) (h0_2 := a3 0) (h0_3 := a5 0) (h0_4 := h0_4) (h0_5 := a6 0) (h0_6 := h0_6) (h0_8 := a10 0) (h0_9 := h0_9) (a1 := a9) (q2 := q11) hp542) gL_act_L_end rfl ysk_L_end ⟨by decide, Nat.le_of_ble_eq_true rfl⟩ (of_decide_eq_true g_13) [0, 9, 11] [1, 2, 3, 4, 5, 6, 7, 8, 10, 12, 13, 14, 15, 16, 17, 18, 19] 20 rfl (by decide) rfl rfl (Nat.le_of_ble_eq_true rfl) dL_act_542 ?_
              rintro _ _ ⟨rfl, rfl⟩
              refine ww_perm (gs' := [wGW E a0 (rf10 (a1 0) (a2 0) (a3 0) (a5 0) h0_4 (a6 0) h0_6 (a9 0) (a10 0) h0_9) v0, wHouse E a1 v1, wHouse E a2 v2, wHist E a3 (rf2 q4 h3_1) v3, wHs E q4 ah4 v4, wSight E a5 v5, wBest E a6 (rf2 (a7 0) (a8 0)) v6, wHouse E a7 v7, wSight E a8 v8, wToks E a9 p542.2.1, wHRead E a10 (rf1 (a9 0)), wArr E q11 6 p542.2.2, wOwn E a12 (rf4 q13 q15 q17 q19) v12, wRO E q13 20 a14 v13, wRR E a14 v14, wRO E q15 12 a16 v15, wRR E a16 v16, wRO E q17 4 (upA a18 (Int32.toNatClampNeg p461) y484_0) v17, wRR E (upA a18 (Int32.toNatClampNeg p461) y484_0) v18_487, wArr E q19 4 v19_510]) [0, 3, 4, 5, 6, 7, 8, 9, 10, 1, 11, 2, 12, 13, 14, 15, 16, 17, 18, 19] 20 rfl (by decide) rfl ?_
              obtain ⟨p545, hp545, hf⟩ := bdE hf
              refine ww_callV C (As := [.int p542.1]) (st := []) (gr := [wSight E a5 v5, wBest E a6 (rf2 (a7 0) (a8 0)) v6, wHouse E a7 v7, wSight E a8 v8, wArr E q11 6 p542.2.2, wOwn E a12 (rf4 q13 q15 q17 q19) v12, wRO E q13 20 a14 v13, wRR E a14 v14, wRO E q15 12 a16 v15, wRR E a16 v16, wRO E q17 4 (upA a18 (Int32.toNatClampNeg p461) y484_0) v17, wRR E (upA a18 (Int32.toNatClampNeg p461) y484_0) v18_487, wArr E q19 4 v19_510]) (c_X8_change (E := E) (a0 := a0) (h0_3 := a5 0) (h0_4 := h0_4) (h0_5 := a6 0) (h0_6 := h0_6) (h0_9 := h0_9) (a1 := a1) (a2 := a2) (a3 := a3) (h3_1 := h3_1) (q4 := q4) (ah4 := ah4) (a5 := a9) (a6 := a10) hp545) gL_act_X8_change rfl yk_X8_change ⟨by decide, Nat.le_of_ble_eq_true rfl⟩ (of_decide_eq_true g_13) clOK8 0 0 rfl rfl [0, 1, 2, 3, 4, 9, 10] [5, 6, 7, 8, 11, 12, 13, 14, 15, 16, 17, 18, 19] 20 rfl (by decide) rfl rfl (Nat.le_of_ble_eq_true rfl) dL_act_545 ?_
              rintro _ _ ⟨rfl, rfl⟩
              refine ww_perm (gs' := [wGW E a0 (rf10 (a1 0) (a2 0) (a3 0) (a5 0) h0_4 (a6 0) h0_6 (a9 0) (a10 0) h0_9) p545.2.1, wHouse E a1 p545.2.2.1, wHouse E a2 p545.2.2.2.1, wHist E a3 (rf2 q4 h3_1) p545.2.2.2.2.1, wHs E q4 ah4 p545.2.2.2.2.2.1, wSight E a5 v5, wBest E a6 (rf2 (a7 0) (a8 0)) v6, wHouse E a7 v7, wSight E a8 v8, wToks E a9 p545.2.2.2.2.2.2, wHRead E a10 (rf1 (a9 0)), wArr E q11 6 p542.2.2, wOwn E a12 (rf4 q13 q15 q17 q19) v12, wRO E q13 20 a14 v13, wRR E a14 v14, wRO E q15 12 a16 v15, wRR E a16 v16, wRO E q17 4 (upA a18 (Int32.toNatClampNeg p461) y484_0) v17, wRR E (upA a18 (Int32.toNatClampNeg p461) y484_0) v18_487, wArr E q19 4 v19_510]) [0, 1, 2, 3, 4, 7, 8, 9, 10, 5, 6, 11, 12, 13, 14, 15, 16, 17, 18, 19] 20 rfl (by decide) rfl ?_
              refine ww_aload_n C dL_act_548 rfl 5 rfl ?_
              obtain ⟨p549, hp549, hf⟩ := bdE hf
              refine ww_callVN C (As := []) (st := [.int p545.1]) (gr := [wGW E a0 (rf10 (a1 0) (a2 0) (a3 0) (a5 0) h0_4 (a6 0) h0_6 (a9 0) (a10 0) h0_9) p545.2.1, wHouse E a1 p545.2.2.1, wHouse E a2 p545.2.2.2.1, wHist E a3 (rf2 q4 h3_1) p545.2.2.2.2.1, wHs E q4 ah4 p545.2.2.2.2.2.1, wSight E a5 v5, wBest E a6 (rf2 (a7 0) (a8 0)) v6, wHouse E a7 v7, wSight E a8 v8, wToks E a9 p545.2.2.2.2.2.2, wHRead E a10 (rf1 (a9 0)), wArr E q11 6 p542.2.2, wRO E q13 20 a14 v13, wRR E a14 v14, wRO E q15 12 a16 v15, wRR E a16 v16, wArr E q19 4 v19_510]) (host := RL) (c_X9_cycle (E := E) (a0 := a12) (h0_0 := q13) (h0_1 := q15) (h0_3 := q19) (q1 := q17) (a2 := (upA a18 (Int32.toNatClampNeg p461) y484_0)) hp549) gL_act_X9_cycle_n120 rfl (by decide +kernel) (by decide +kernel) (by decide +kernel) (by decide +kernel) yk_X9_cycle ⟨by decide, Nat.le_of_ble_eq_true rfl⟩ (of_decide_eq_true g_13) clOK9 0 0 rfl rfl [12, 17, 18] [0, 1, 2, 3, 4, 5, 6, 7, 8, 9, 10, 11, 13, 14, 15, 16, 19] 20 rfl (by decide) rfl rfl (Nat.le_of_ble_eq_true rfl) dL_act_549 ?_
              rintro _ _ ⟨rfl, rfl⟩
              refine ww_perm (gs' := [wGW E a0 (rf10 (a1 0) (a2 0) (a3 0) (a5 0) h0_4 (a6 0) h0_6 (a9 0) (a10 0) h0_9) p545.2.1, wHouse E a1 p545.2.2.1, wHouse E a2 p545.2.2.2.1, wHist E a3 (rf2 q4 h3_1) p545.2.2.2.2.1, wHs E q4 ah4 p545.2.2.2.2.2.1, wSight E a5 v5, wBest E a6 (rf2 (a7 0) (a8 0)) v6, wHouse E a7 v7, wSight E a8 v8, wToks E a9 p545.2.2.2.2.2.2, wHRead E a10 (rf1 (a9 0)), wArr E q11 6 p542.2.2, wOwn E a12 (rf4 q13 q15 q17 q19) v12, wRO E q13 20 a14 v13, wRR E a14 v14, wRO E q15 12 a16 v15, wRR E a16 v16, wRO E q17 4 (upA a18 (Int32.toNatClampNeg p461) y484_0) v17, wRR E (upA a18 (Int32.toNatClampNeg p461) y484_0) v18_487, wArr E q19 4 v19_510]) [3, 4, 5, 6, 7, 8, 9, 10, 11, 12, 13, 14, 0, 15, 16, 17, 18, 1, 2, 19] 20 rfl (by decide) rfl ?_
              refine ww_icmp_ne (tgt := 559) C dL_act_552 (by decide) (fun c_18 => ?_) (fun c_18 => ?_)
              · replace hf := ifF c_18 hf
                refine ww_iconst (v := (-1)) C dL_act_559 (by decide) ?_
                obtain rfl := Option.some.inj hf
                refine ww_widen (k := 20700) (n := 44000) (of_decide_eq_true g_13).1 (of_decide_eq_true g_13).2 ?_
                exact ww_iret C ⟨_, rfl, rfl⟩ dL_act_560
              · replace hf := ifT c_18 hf
                refine ww_iconst (v := 1) C dL_act_555 (by decide) ?_
                refine ww_goto (tgt := 560) C dL_act_556 (by decide) ?_
                obtain rfl := Option.some.inj hf
                refine ww_widen (k := 20700) (n := 44000) (of_decide_eq_true g_13).1 (of_decide_eq_true g_13).2 ?_
                exact ww_iret C ⟨_, rfl, rfl⟩ dL_act_560
          · replace hf := ifT c_6 hf
            refine ww_iconst (v := 0) C dL_act_453 (by decide) ?_
            obtain rfl := Option.some.inj hf
            refine ww_widen (k := 20700) (n := 44000) (Nat.le_of_ble_eq_true rfl) (Nat.le_of_ble_eq_true rfl) ?_
            exact ww_iret C ⟨_, rfl, rfl⟩ dL_act_454
        · replace hf := ifF c_5 hf
          refine ww_aload_n C dL_act_247 rfl 4 rfl ?_
          refine ww_getN (host := RL) C clOK9 in_L_act_X9 (w := wOwn E a12 (rf4 q13 q15 q17 q19) v12) (fs := fsOwn a12 (rf4 q13 q15 q17 q19) v12) (v := .int (Own_doors v12)) 12 0 1 rfl q_Own (by decide) (by decide +kernel) g_Own_doors dL_act_248 ?_
          refine ww_if_ne (tgt := 256) C dL_act_251 (by decide) (fun c_19 => ?_) (fun c_19 => ?_)
          · replace hf := ifF c_19 hf
            refine ww_iload C dL_act_256 0 rfl ?_
            refine ww_aload_n C dL_act_258 rfl 4 rfl ?_
            refine ww_getN (host := RL) C clOK9 in_L_act_X9 (w := wOwn E a12 (rf4 q13 q15 q17 q19) v12) (fs := fsOwn a12 (rf4 q13 q15 q17 q19) v12) (v := .int (Own_doors v12)) 12 0 1 rfl q_Own (by decide) (by decide +kernel) g_Own_doors dL_act_259 ?_
            obtain ⟨p262, hp262, hf⟩ := bdE hf
            refine ww_callS C (As := [.int x5_11, .int (Own_doors v12)]) (st := []) (gr := [wGW E a0 (rf10 (a1 0) (a2 0) (a3 0) (a5 0) h0_4 (a6 0) h0_6 (a9 0) (a10 0) h0_9) v0, wHouse E a1 v1, wHouse E a2 v2, wHist E a3 (rf2 q4 h3_1) v3, wHs E q4 ah4 v4, wSight E a5 v5, wBest E a6 (rf2 (a7 0) (a8 0)) v6, wHouse E a7 v7, wSight E a8 v8, wToks E a9 v9, wHRead E a10 (rf1 (a9 0)), wArr E q11 6 v11, wOwn E a12 (rf4 q13 q15 q17 q19) v12, wRO E q13 20 a14 v13, wRR E a14 v14, wRO E q15 12 a16 v15, wRR E a16 v16, wRO E q17 4 a18 v17, wRR E a18 v18, wArr E q19 4 v19]) (c_L_most (E := E)  hp262) gL_act_L_most rfl ysk_L_most ⟨by decide, Nat.le_of_ble_eq_true rfl⟩ ⟨Nat.zero_le _, Nat.zero_le _⟩ [] [0, 1, 2, 3, 4, 5, 6, 7, 8, 9, 10, 11, 12, 13, 14, 15, 16, 17, 18, 19] 20 rfl (by decide) rfl rfl (Nat.le_of_ble_eq_true rfl) dL_act_262 ?_
            rintro _ _ ⟨rfl, rfl⟩
            refine ww_perm (gs' := [wGW E a0 (rf10 (a1 0) (a2 0) (a3 0) (a5 0) h0_4 (a6 0) h0_6 (a9 0) (a10 0) h0_9) v0, wHouse E a1 v1, wHouse E a2 v2, wHist E a3 (rf2 q4 h3_1) v3, wHs E q4 ah4 v4, wSight E a5 v5, wBest E a6 (rf2 (a7 0) (a8 0)) v6, wHouse E a7 v7, wSight E a8 v8, wToks E a9 v9, wHRead E a10 (rf1 (a9 0)), wArr E q11 6 v11, wOwn E a12 (rf4 q13 q15 q17 q19) v12, wRO E q13 20 a14 v13, wRR E a14 v14, wRO E q15 12 a16 v15, wRR E a16 v16, wRO E q17 4 a18 v17, wRR E a18 v18, wArr E q19 4 v19]) [0, 1, 2, 3, 4, 5, 6, 7, 8, 9, 10, 11, 12, 13, 14, 15, 16, 17, 18, 19] 20 rfl (by decide) rfl ?_
            refine ww_istore (lv' := [(6, .int p262), (5, .int x5_11), (4, .int p3), (0, .ref (a0 0)), (1, .ref q11), (2, .ref (a12 0)), (3, .int x3)]) C dL_act_265 (by decide) rfl ?_
            refine ww_iload C dL_act_267 2 rfl ?_
            refine ww_bipush (v := 9) C dL_act_269 (by decide) ?_
            refine ww_icmp_ge (tgt := 386) C dL_act_271 (by decide) (fun c_20 => ?_) (fun c_20 => ?_)
            · replace hf := ifT c_20 hf
              refine ww_aload_n C dL_act_386 rfl 5 rfl ?_
              refine ww_getN (host := RL) C clOK9 in_L_act_X9 (w := wOwn E a12 (rf4 q13 q15 q17 q19) v12) (fs := fsOwn a12 (rf4 q13 q15 q17 q19) v12) (v := .ref q13) 12 0 4 rfl q_Own (by decide) (by decide +kernel) g_Own_door dL_act_387 ?_
              refine ww_iload C dL_act_390 0 rfl ?_
              obtain ⟨g_21, hf⟩ := gdE hf
              obtain ⟨g_22, hf⟩ := gdE hf
              refine ww_aldR C (f := roF a14 v13) (w := wRO E q13 20 a14 v13) 13 0 rfl q_RO (inB_vp g_21) (roF_at (of_decide_eq_true g_22)) dL_act_392 ?_
              refine ww_iconst (v := 2) C dL_act_393 (by decide) ?_
              obtain ⟨g_23, hf⟩ := gdE hf
              obtain ⟨g_24, hf⟩ := gdE hf
              refine ww_iald C (f := v14.2.2 (Int32.toNatClampNeg p262)) (w := wRR E a14 v14) 14 (Int32.toNatClampNeg p262) rfl (q_RR (of_decide_eq_true g_23)) (inB_vp g_24) dL_act_394 ?_
              refine ww_iconst (v := 1) C dL_act_395 (by decide) ?_
              refine ww_icmp_ne (tgt := 416) C dL_act_396 (by decide) (fun c_25 => ?_) (fun c_25 => ?_)
              · replace hf := ifF c_25 hf
                refine ww_aload_n C dL_act_416 rfl 5 rfl ?_
                refine ww_getN (host := RL) C clOK9 in_L_act_X9 (w := wOwn E a12 (rf4 q13 q15 q17 q19) v12) (fs := fsOwn a12 (rf4 q13 q15 q17 q19) v12) (v := .ref q13) 12 0 4 rfl q_Own (by decide) (by decide +kernel) g_Own_door dL_act_417 ?_
                refine ww_iload C dL_act_420 0 rfl ?_
                refine ww_aldR C (f := roF a14 v13) (w := wRO E q13 20 a14 v13) 13 0 rfl q_RO (inB_vp g_21) (roF_at (of_decide_eq_true g_22)) dL_act_422 ?_
                refine ww_iconst (v := 2) C dL_act_423 (by decide) ?_
                refine ww_iconst (v := 1) C dL_act_424 (by decide) ?_
                obtain ⟨v14_425, e_v14_425⟩ : ∃ y : RowsT, y = rrSet v14 (Int32.toNatClampNeg p262) (upd (v14.2.2 (Int32.toNatClampNeg p262)) (Int32.toNatClampNeg 2) 1) := ⟨_, rfl⟩
                replace hf := ltE e_v14_425 hf
                refine ww_iast C (f := v14.2.2 (Int32.toNatClampNeg p262)) (w := wRR E a14 v14) (w' := wRR E a14 v14_425) (gs' := [wGW E a0 (rf10 (a1 0) (a2 0) (a3 0) (a5 0) h0_4 (a6 0) h0_6 (a9 0) (a10 0) h0_9) v0, wHouse E a1 v1, wHouse E a2 v2, wHist E a3 (rf2 q4 h3_1) v3, wHs E q4 ah4 v4, wSight E a5 v5, wBest E a6 (rf2 (a7 0) (a8 0)) v6, wHouse E a7 v7, wSight E a8 v8, wToks E a9 v9, wHRead E a10 (rf1 (a9 0)), wArr E q11 6 v11, wOwn E a12 (rf4 q13 q15 q17 q19) v12, wRO E q13 20 a14 v13, wRR E a14 v14_425, wRO E q15 12 a16 v15, wRR E a16 v16, wRO E q17 4 a18 v17, wRR E a18 v18, wArr E q19 4 v19]) 14 (Int32.toNatClampNeg p262) rfl (q_RR (of_decide_eq_true g_23)) (inB_vp g_24) (by rw [e_v14_425]; exact s_RR (of_decide_eq_true g_23)) rfl dL_act_425 ?_
                refine ww_aload_n C dL_act_426 rfl 3 rfl ?_
                refine ww_iload C dL_act_427 0 rfl ?_
                obtain ⟨p429, hp429, hf⟩ := bdE hf
                refine ww_callV C (As := [.int p262]) (st := []) (gr := [wHouse E a2 v2, wSight E a5 v5, wBest E a6 (rf2 (a7 0) (a8 0)) v6, wHouse E a7 v7, wSight E a8 v8, wToks E a9 v9, wHRead E a10 (rf1 (a9 0)), wArr E q11 6 v11, wOwn E a12 (rf4 q13 q15 q17 q19) v12, wRO E q13 20 a14 v13, wRR E a14 v14_425, wRO E q15 12 a16 v15, wRR E a16 v16, wRO E q17 4 a18 v17, wRR E a18 v18, wArr E q19 4 v19]) (c_X8_openDoor (E := E) (a0 := a0) (h0_1 := a2 0) (h0_3 := a5 0) (h0_4 := h0_4) (h0_5 := a6 0) (h0_6 := h0_6) (h0_7 := a9 0) (h0_8 := a10 0) (h0_9 := h0_9) (a1 := a1) (a2 := a3) (h2_1 := h3_1) (q3 := q4) (ah3 := ah4) hp429) gL_act_X8_openDoor rfl yk_X8_openDoor ⟨by decide, Nat.le_of_ble_eq_true rfl⟩ ⟨Nat.zero_le _, Nat.zero_le _⟩ clOK8 0 0 rfl rfl [0, 1, 3, 4] [2, 5, 6, 7, 8, 9, 10, 11, 12, 13, 14, 15, 16, 17, 18, 19] 20 rfl (by decide) rfl rfl (Nat.le_of_ble_eq_true rfl) dL_act_429 ?_
                rintro _ _ ⟨rfl, rfl⟩
                refine ww_perm (gs' := [wGW E a0 (rf10 (a1 0) (a2 0) (a3 0) (a5 0) h0_4 (a6 0) h0_6 (a9 0) (a10 0) h0_9) v0, wHouse E a1 p429.2.1, wHouse E a2 v2, wHist E a3 (rf2 q4 h3_1) p429.2.2.1, wHs E q4 ah4 p429.2.2.2, wSight E a5 v5, wBest E a6 (rf2 (a7 0) (a8 0)) v6, wHouse E a7 v7, wSight E a8 v8, wToks E a9 v9, wHRead E a10 (rf1 (a9 0)), wArr E q11 6 v11, wOwn E a12 (rf4 q13 q15 q17 q19) v12, wRO E q13 20 a14 v13, wRR E a14 v14_425, wRO E q15 12 a16 v15, wRR E a16 v16, wRO E q17 4 a18 v17, wRR E a18 v18, wArr E q19 4 v19]) [0, 1, 4, 2, 3, 5, 6, 7, 8, 9, 10, 11, 12, 13, 14, 15, 16, 17, 18, 19] 20 rfl (by decide) rfl ?_
                refine ww_aload_n C dL_act_432 rfl 5 rfl ?_
                refine ww_iconst (v := (-1)) C dL_act_433 (by decide) ?_
                obtain ⟨p434, hp434, hf⟩ := bdE hf
                refine ww_callVN C (As := [.int (-1)]) (st := [.int p429.1]) (gr := [wGW E a0 (rf10 (a1 0) (a2 0) (a3 0) (a5 0) h0_4 (a6 0) h0_6 (a9 0) (a10 0) h0_9) v0, wHouse E a1 p429.2.1, wHouse E a2 v2, wHist E a3 (rf2 q4 h3_1) p429.2.2.1, wHs E q4 ah4 p429.2.2.2, wSight E a5 v5, wBest E a6 (rf2 (a7 0) (a8 0)) v6, wHouse E a7 v7, wSight E a8 v8, wToks E a9 v9, wHRead E a10 (rf1 (a9 0)), wArr E q11 6 v11, wRO E q15 12 a16 v15, wRR E a16 v16, wRO E q17 4 a18 v17, wRR E a18 v18, wArr E q19 4 v19]) (host := RL) (c_X9_opens (E := E) (a0 := a12) (h0_1 := q15) (h0_2 := q17) (h0_3 := q19) (q1 := q13) (a2 := a14) hp434) gL_act_X9_opens_n135 rfl (by decide +kernel) (by decide +kernel) (by decide +kernel) (by decide +kernel) yk_X9_opens ⟨by decide, Nat.le_of_ble_eq_true rfl⟩ ⟨Nat.zero_le _, Nat.zero_le _⟩ clOK9 0 0 rfl rfl [12, 13, 14] [0, 1, 2, 3, 4, 5, 6, 7, 8, 9, 10, 11, 15, 16, 17, 18, 19] 20 rfl (by decide) rfl rfl (Nat.le_of_ble_eq_true rfl) dL_act_434 ?_
                rintro _ _ ⟨rfl, rfl⟩
                refine ww_perm (gs' := [wGW E a0 (rf10 (a1 0) (a2 0) (a3 0) (a5 0) h0_4 (a6 0) h0_6 (a9 0) (a10 0) h0_9) v0, wHouse E a1 p429.2.1, wHouse E a2 v2, wHist E a3 (rf2 q4 h3_1) p429.2.2.1, wHs E q4 ah4 p429.2.2.2, wSight E a5 v5, wBest E a6 (rf2 (a7 0) (a8 0)) v6, wHouse E a7 v7, wSight E a8 v8, wToks E a9 v9, wHRead E a10 (rf1 (a9 0)), wArr E q11 6 v11, wOwn E a12 (rf4 q13 q15 q17 q19) v12, wRO E q13 20 a14 v13, wRR E a14 v14_425, wRO E q15 12 a16 v15, wRR E a16 v16, wRO E q17 4 a18 v17, wRR E a18 v18, wArr E q19 4 v19]) [3, 4, 5, 6, 7, 8, 9, 10, 11, 12, 13, 14, 0, 1, 2, 15, 16, 17, 18, 19] 20 rfl (by decide) rfl ?_
                refine ww_icmp_ne (tgt := 444) C dL_act_437 (by decide) (fun c_26 => ?_) (fun c_26 => ?_)
                · replace hf := ifF c_26 hf
                  refine ww_iconst (v := (-1)) C dL_act_444 (by decide) ?_
                  obtain rfl := Option.some.inj hf
                  refine ww_widen (k := 20700) (n := 44000) (Nat.le_of_ble_eq_true rfl) (Nat.le_of_ble_eq_true rfl) ?_
                  exact ww_iret C ⟨_, rfl, rfl⟩ dL_act_445
                · replace hf := ifT c_26 hf
                  refine ww_iconst (v := 1) C dL_act_440 (by decide) ?_
                  refine ww_goto (tgt := 445) C dL_act_441 (by decide) ?_
                  obtain rfl := Option.some.inj hf
                  refine ww_widen (k := 20700) (n := 44000) (Nat.le_of_ble_eq_true rfl) (Nat.le_of_ble_eq_true rfl) ?_
                  exact ww_iret C ⟨_, rfl, rfl⟩ dL_act_445
              · replace hf := ifT c_25 hf
                refine ww_aload_n C dL_act_399 rfl 3 rfl ?_
                refine ww_iload C dL_act_400 0 rfl ?_
                obtain ⟨p402, hp402, hf⟩ := bdE hf
                refine ww_callV C (As := [.int p262]) (st := []) (gr := [wHouse E a2 v2, wSight E a5 v5, wBest E a6 (rf2 (a7 0) (a8 0)) v6, wHouse E a7 v7, wSight E a8 v8, wToks E a9 v9, wHRead E a10 (rf1 (a9 0)), wArr E q11 6 v11, wOwn E a12 (rf4 q13 q15 q17 q19) v12, wRO E q13 20 a14 v13, wRR E a14 v14, wRO E q15 12 a16 v15, wRR E a16 v16, wRO E q17 4 a18 v17, wRR E a18 v18, wArr E q19 4 v19]) (c_X8_openDoor (E := E) (a0 := a0) (h0_1 := a2 0) (h0_3 := a5 0) (h0_4 := h0_4) (h0_5 := a6 0) (h0_6 := h0_6) (h0_7 := a9 0) (h0_8 := a10 0) (h0_9 := h0_9) (a1 := a1) (a2 := a3) (h2_1 := h3_1) (q3 := q4) (ah3 := ah4) hp402) gL_act_X8_openDoor rfl yk_X8_openDoor ⟨by decide, Nat.le_of_ble_eq_true rfl⟩ ⟨Nat.zero_le _, Nat.zero_le _⟩ clOK8 0 0 rfl rfl [0, 1, 3, 4] [2, 5, 6, 7, 8, 9, 10, 11, 12, 13, 14, 15, 16, 17, 18, 19] 20 rfl (by decide) rfl rfl (Nat.le_of_ble_eq_true rfl) dL_act_402 ?_
                rintro _ _ ⟨rfl, rfl⟩
                refine ww_perm (gs' := [wGW E a0 (rf10 (a1 0) (a2 0) (a3 0) (a5 0) h0_4 (a6 0) h0_6 (a9 0) (a10 0) h0_9) v0, wHouse E a1 p402.2.1, wHouse E a2 v2, wHist E a3 (rf2 q4 h3_1) p402.2.2.1, wHs E q4 ah4 p402.2.2.2, wSight E a5 v5, wBest E a6 (rf2 (a7 0) (a8 0)) v6, wHouse E a7 v7, wSight E a8 v8, wToks E a9 v9, wHRead E a10 (rf1 (a9 0)), wArr E q11 6 v11, wOwn E a12 (rf4 q13 q15 q17 q19) v12, wRO E q13 20 a14 v13, wRR E a14 v14, wRO E q15 12 a16 v15, wRR E a16 v16, wRO E q17 4 a18 v17, wRR E a18 v18, wArr E q19 4 v19]) [0, 1, 4, 2, 3, 5, 6, 7, 8, 9, 10, 11, 12, 13, 14, 15, 16, 17, 18, 19] 20 rfl (by decide) rfl ?_
                refine ww_bipush (v := (-2)) C dL_act_405 (by decide) ?_
                refine ww_icmp_ne (tgt := 414) C dL_act_407 (by decide) (fun c_27 => ?_) (fun c_27 => ?_)
                · replace hf := ifF c_27 hf
                  refine ww_iconst (v := (-1)) C dL_act_414 (by decide) ?_
                  obtain rfl := Option.some.inj hf
                  refine ww_widen (k := 20700) (n := 44000) (Nat.le_of_ble_eq_true rfl) (Nat.le_of_ble_eq_true rfl) ?_
                  exact ww_iret C ⟨_, rfl, rfl⟩ dL_act_415
                · replace hf := ifT c_27 hf
                  refine ww_iconst (v := 0) C dL_act_410 (by decide) ?_
                  refine ww_goto (tgt := 415) C dL_act_411 (by decide) ?_
                  obtain rfl := Option.some.inj hf
                  refine ww_widen (k := 20700) (n := 44000) (Nat.le_of_ble_eq_true rfl) (Nat.le_of_ble_eq_true rfl) ?_
                  exact ww_iret C ⟨_, rfl, rfl⟩ dL_act_415
            · replace hf := ifF c_20 hf
              refine ww_aload_n C dL_act_274 rfl 5 rfl ?_
              refine ww_getN (host := RL) C clOK9 in_L_act_X9 (w := wOwn E a12 (rf4 q13 q15 q17 q19) v12) (fs := fsOwn a12 (rf4 q13 q15 q17 q19) v12) (v := .ref q13) 12 0 4 rfl q_Own (by decide) (by decide +kernel) g_Own_door dL_act_275 ?_
              refine ww_iload C dL_act_278 0 rfl ?_
              obtain ⟨g_28, hf⟩ := gdE hf
              obtain ⟨g_29, hf⟩ := gdE hf
              refine ww_aldR C (f := roF a14 v13) (w := wRO E q13 20 a14 v13) 13 0 rfl q_RO (inB_vp g_28) (roF_at (of_decide_eq_true g_29)) dL_act_280 ?_
              refine ww_iconst (v := 2) C dL_act_281 (by decide) ?_
              obtain ⟨g_30, hf⟩ := gdE hf
              obtain ⟨g_31, hf⟩ := gdE hf
              refine ww_iald C (f := v14.2.2 (Int32.toNatClampNeg p262)) (w := wRR E a14 v14) 14 (Int32.toNatClampNeg p262) rfl (q_RR (of_decide_eq_true g_30)) (inB_vp g_31) dL_act_282 ?_
              refine ww_if_ne (tgt := 291) C dL_act_283 (by decide) (fun c_32 => ?_) (fun c_32 => ?_)
              · replace hf := ifF c_32 hf
                refine ww_aload_n C dL_act_291 rfl 5 rfl ?_
                refine ww_iload C dL_act_292 0 rfl ?_
                obtain ⟨p294, hp294, hf⟩ := bdE hf
                refine ww_callVN C (As := [.int p262]) (st := []) (gr := [wGW E a0 (rf10 (a1 0) (a2 0) (a3 0) (a5 0) h0_4 (a6 0) h0_6 (a9 0) (a10 0) h0_9) v0, wHouse E a1 v1, wHouse E a2 v2, wHist E a3 (rf2 q4 h3_1) v3, wHs E q4 ah4 v4, wSight E a5 v5, wBest E a6 (rf2 (a7 0) (a8 0)) v6, wHouse E a7 v7, wSight E a8 v8, wToks E a9 v9, wHRead E a10 (rf1 (a9 0)), wArr E q11 6 v11, wRO E q15 12 a16 v15, wRR E a16 v16, wArr E q19 4 v19]) (host := RL) (c_X9_through (E := E) (a0 := a12) (h0_1 := q15) (h0_3 := q19) (q1 := q13) (a2 := a14) (q3 := q17) (a4 := a18) hp294) gL_act_X9_through_n143 rfl (by decide +kernel) (by decide +kernel) (by decide +kernel) (by decide +kernel) yk_X9_through ⟨by decide, Nat.le_of_ble_eq_true rfl⟩ ⟨Nat.zero_le _, Nat.zero_le _⟩ clOK9 0 0 rfl rfl [12, 13, 14, 17, 18] [0, 1, 2, 3, 4, 5, 6, 7, 8, 9, 10, 11, 15, 16, 19] 20 rfl (by decide) rfl rfl (Nat.le_of_ble_eq_true rfl) dL_act_294 ?_
                rintro _ _ ⟨rfl, rfl⟩
                refine ww_perm (gs' := [wGW E a0 (rf10 (a1 0) (a2 0) (a3 0) (a5 0) h0_4 (a6 0) h0_6 (a9 0) (a10 0) h0_9) v0, wHouse E a1 v1, wHouse E a2 v2, wHist E a3 (rf2 q4 h3_1) v3, wHs E q4 ah4 v4, wSight E a5 v5, wBest E a6 (rf2 (a7 0) (a8 0)) v6, wHouse E a7 v7, wSight E a8 v8, wToks E a9 v9, wHRead E a10 (rf1 (a9 0)), wArr E q11 6 v11, wOwn E a12 (rf4 q13 q15 q17 q19) v12, wRO E q13 20 a14 v13, wRR E a14 v14, wRO E q15 12 a16 v15, wRR E a16 v16, wRO E q17 4 a18 v17, wRR E a18 v18, wArr E q19 4 v19]) [5, 6, 7, 8, 9, 10, 11, 12, 13, 14, 15, 16, 0, 1, 2, 17, 18, 3, 4, 19] 20 rfl (by decide) rfl ?_
                refine ww_if_le (tgt := 331) C dL_act_297 (by decide) (fun c_33 => ?_) (fun c_33 => ?_)
                · replace hf := ifT c_33 hf
                  refine ww_sub C (lv' := [(0, .ref (a0 0)), (2, .ref (a12 0)), (6, .int p262)]) [3, 5, 0] rfl ?_
                  exact w_L_act_331 C ⟨Nat.zero_le _, Nat.zero_le _⟩ hf
                · replace hf := ifF c_33 hf
                  refine ww_aload_n C dL_act_300 rfl 5 rfl ?_
                  refine ww_aload_n C dL_act_301 rfl 5 rfl ?_
                  refine ww_getN (host := RL) C clOK9 in_L_act_X9 (w := wOwn E a12 (rf4 q13 q15 q17 q19) v12) (fs := fsOwn a12 (rf4 q13 q15 q17 q19) v12) (v := .ref q13) 12 0 4 rfl q_Own (by decide) (by decide +kernel) g_Own_door dL_act_302 ?_
                  refine ww_iload C dL_act_305 0 rfl ?_
                  refine ww_aldR C (f := roF a14 v13) (w := wRO E q13 20 a14 v13) 13 0 rfl q_RO (inB_vp g_28) (roF_at (of_decide_eq_true g_29)) dL_act_307 ?_
                  refine ww_iconst (v := 0) C dL_act_308 (by decide) ?_
                  obtain ⟨g_34, hf⟩ := gdE hf
                  refine ww_iald C (f := v14.2.2 (Int32.toNatClampNeg p262)) (w := wRR E a14 v14) 14 (Int32.toNatClampNeg p262) rfl (q_RR (of_decide_eq_true g_30)) (inB_vp g_34) dL_act_309 ?_
                  refine ww_aload_n C dL_act_310 rfl 5 rfl ?_
                  refine ww_getN (host := RL) C clOK9 in_L_act_X9 (w := wOwn E a12 (rf4 q13 q15 q17 q19) v12) (fs := fsOwn a12 (rf4 q13 q15 q17 q19) v12) (v := .ref q13) 12 0 4 rfl q_Own (by decide) (by decide +kernel) g_Own_door dL_act_311 ?_
                  refine ww_iload C dL_act_314 0 rfl ?_
                  refine ww_aldR C (f := roF a14 v13) (w := wRO E q13 20 a14 v13) 13 0 rfl q_RO (inB_vp g_28) (roF_at (of_decide_eq_true g_29)) dL_act_316 ?_
                  refine ww_iconst (v := 1) C dL_act_317 (by decide) ?_
                  obtain ⟨g_35, hf⟩ := gdE hf
                  refine ww_iald C (f := v14.2.2 (Int32.toNatClampNeg p262)) (w := wRR E a14 v14) 14 (Int32.toNatClampNeg p262) rfl (q_RR (of_decide_eq_true g_30)) (inB_vp g_35) dL_act_318 ?_
                  obtain ⟨p319, hp319, hf⟩ := bdE hf
                  refine ww_callVN C (As := [.int (v14.2.2 (Int32.toNatClampNeg p262) (Int32.toNatClampNeg 0)), .int (v14.2.2 (Int32.toNatClampNeg p262) (Int32.toNatClampNeg 1))]) (st := []) (gr := [wGW E a0 (rf10 (a1 0) (a2 0) (a3 0) (a5 0) h0_4 (a6 0) h0_6 (a9 0) (a10 0) h0_9) v0, wHouse E a1 v1, wHouse E a2 v2, wHist E a3 (rf2 q4 h3_1) v3, wHs E q4 ah4 v4, wSight E a5 v5, wBest E a6 (rf2 (a7 0) (a8 0)) v6, wHouse E a7 v7, wSight E a8 v8, wToks E a9 v9, wHRead E a10 (rf1 (a9 0)), wArr E q11 6 v11, wRO E q15 12 a16 v15, wRR E a16 v16, wRO E q17 4 a18 v17, wRR E a18 v18, wArr E q19 4 v19]) (host := RL) (c_X9_open (E := E) (a0 := a12) (h0_1 := q15) (h0_2 := q17) (h0_3 := q19) (q1 := q13) (a2 := a14) hp319) gL_act_X9_open_n173 rfl (by decide +kernel) (by decide +kernel) (by decide +kernel) (by decide +kernel) yk_X9_open ⟨by decide, Nat.le_of_ble_eq_true rfl⟩ ⟨Nat.zero_le _, Nat.zero_le _⟩ clOK9 0 0 rfl rfl [12, 13, 14] [0, 1, 2, 3, 4, 5, 6, 7, 8, 9, 10, 11, 15, 16, 17, 18, 19] 20 rfl (by decide) rfl rfl (Nat.le_of_ble_eq_true rfl) dL_act_319 ?_
                  rintro _ _ ⟨rfl, rfl⟩
                  refine ww_perm (gs' := [wGW E a0 (rf10 (a1 0) (a2 0) (a3 0) (a5 0) h0_4 (a6 0) h0_6 (a9 0) (a10 0) h0_9) v0, wHouse E a1 v1, wHouse E a2 v2, wHist E a3 (rf2 q4 h3_1) v3, wHs E q4 ah4 v4, wSight E a5 v5, wBest E a6 (rf2 (a7 0) (a8 0)) v6, wHouse E a7 v7, wSight E a8 v8, wToks E a9 v9, wHRead E a10 (rf1 (a9 0)), wArr E q11 6 v11, wOwn E a12 (rf4 q13 q15 q17 q19) v12, wRO E q13 20 a14 v13, wRR E a14 v14, wRO E q15 12 a16 v15, wRR E a16 v16, wRO E q17 4 a18 v17, wRR E a18 v18, wArr E q19 4 v19]) [3, 4, 5, 6, 7, 8, 9, 10, 11, 12, 13, 14, 0, 1, 2, 15, 16, 17, 18, 19] 20 rfl (by decide) rfl ?_
                  refine ww_iconst (v := 1) C dL_act_322 (by decide) ?_
                  refine ww_icmp_ne (tgt := 331) C dL_act_323 (by decide) (fun c_36 => ?_) (fun c_36 => ?_)
                  · replace hf := ifF c_36 hf
                    refine ww_sub C (lv' := [(0, .ref (a0 0)), (2, .ref (a12 0)), (6, .int p262)]) [3, 5, 0] rfl ?_
                    exact w_L_act_331 C ⟨Nat.zero_le _, Nat.zero_le _⟩ hf
                  · replace hf := ifT c_36 hf
                    refine ww_bipush (v := (-3)) C dL_act_326 (by decide) ?_
                    refine ww_goto (tgt := 332) C dL_act_328 (by decide) ?_
                    refine ww_sub C (lv' := [(0, .ref (a0 0)), (2, .ref (a12 0)), (6, .int p262)]) [3, 5, 0] rfl ?_
                    exact w_L_act_332 C ⟨Nat.zero_le _, Nat.zero_le _⟩ hf
              · replace hf := ifT c_32 hf
                refine ww_bipush (v := (-2)) C dL_act_286 (by decide) ?_
                refine ww_goto (tgt := 332) C dL_act_288 (by decide) ?_
                refine ww_sub C (lv' := [(0, .ref (a0 0)), (2, .ref (a12 0)), (6, .int p262)]) [3, 5, 0] rfl ?_
                exact w_L_act_332 C ⟨Nat.zero_le _, Nat.zero_le _⟩ hf
          · replace hf := ifT c_19 hf
            refine ww_iconst (v := 0) C dL_act_254 (by decide) ?_
            obtain rfl := Option.some.inj hf
            refine ww_widen (k := 20700) (n := 44000) (Nat.le_of_ble_eq_true rfl) (Nat.le_of_ble_eq_true rfl) ?_
            exact ww_iret C ⟨_, rfl, rfl⟩ dL_act_255
      · replace hf := ifT c_4 hf
        refine ww_aload_n C dL_act_157 rfl 4 rfl ?_
        obtain ⟨g_37, hf⟩ := gdE hf
        obtain ⟨p158, hp158, hf⟩ := bdE hf
        refine ww_callVN C (As := []) (st := []) (gr := [wGW E a0 (rf10 (a1 0) (a2 0) (a3 0) (a5 0) h0_4 (a6 0) h0_6 (a9 0) (a10 0) h0_9) v0, wHouse E a1 v1, wHouse E a2 v2, wHist E a3 (rf2 q4 h3_1) v3, wHs E q4 ah4 v4, wSight E a5 v5, wBest E a6 (rf2 (a7 0) (a8 0)) v6, wHouse E a7 v7, wSight E a8 v8, wToks E a9 v9, wHRead E a10 (rf1 (a9 0)), wArr E q11 6 v11]) (host := RL) (c_X9_best (E := E) (a0 := a12) (q1 := q13) (a2 := a14) (q3 := q15) (a4 := a16) (q5 := q17) (a6 := a18) (q7 := q19) hp158) gL_act_X9_best_n166 rfl (by decide +kernel) (by decide +kernel) (by decide +kernel) (by decide +kernel) yk_X9_best ⟨by decide, Nat.le_of_ble_eq_true rfl⟩ (of_decide_eq_true g_37) clOK9 0 0 rfl rfl [12, 13, 14, 15, 16, 17, 18, 19] [0, 1, 2, 3, 4, 5, 6, 7, 8, 9, 10, 11] 20 rfl (by decide) rfl rfl (Nat.le_of_ble_eq_true rfl) dL_act_158 ?_
        rintro _ _ ⟨y158_0, rfl, rfl⟩
        refine ww_perm (gs' := [wGW E a0 (rf10 (a1 0) (a2 0) (a3 0) (a5 0) h0_4 (a6 0) h0_6 (a9 0) (a10 0) h0_9) v0, wHouse E a1 v1, wHouse E a2 v2, wHist E a3 (rf2 q4 h3_1) v3, wHs E q4 ah4 v4, wSight E a5 v5, wBest E a6 (rf2 (a7 0) (a8 0)) v6, wHouse E a7 v7, wSight E a8 v8, wToks E a9 v9, wHRead E a10 (rf1 (a9 0)), wArr E q11 6 v11, wOwn E a12 (rf4 q13 q15 q17 q19) v12, wRO E q13 20 a14 v13, wRR E a14 v14, wRO E q15 12 a16 v15, wRR E a16 v16, wRO E q17 4 a18 v17, wRR E a18 v18, wArr E q19 4 v19, wArr E y158_0 6 p158]) [9, 10, 11, 12, 13, 14, 15, 16, 17, 18, 19, 20, 0, 1, 2, 3, 4, 5, 6, 7, 8] 21 rfl (by decide) rfl ?_
        refine ww_astore (lv' := [(6, .ref y158_0), (5, .int x5_11), (4, .int p3), (0, .ref (a0 0)), (1, .ref q11), (2, .ref (a12 0)), (3, .int x3)]) C dL_act_161 (by decide) rfl ?_
        refine ww_iconst (v := 0) C dL_act_163 (by decide) ?_
        refine ww_istore (lv' := [(7, .int 0), (6, .ref y158_0), (5, .int x5_11), (4, .int p3), (0, .ref (a0 0)), (1, .ref q11), (2, .ref (a12 0)), (3, .int x3)]) C dL_act_164 (by decide) rfl ?_
        refine ww_iconst (v := 0) C dL_act_166 (by decide) ?_
        refine ww_istore (lv' := [(8, .int 0), (7, .int 0), (6, .ref y158_0), (5, .int x5_11), (4, .int p3), (0, .ref (a0 0)), (1, .ref q11), (2, .ref (a12 0)), (3, .int x3)]) C dL_act_167 (by decide) rfl ?_
        refine ww_sub C (lv' := [(0, .ref (a0 0)), (2, .ref (a12 0)), (6, .ref y158_0), (7, .int 0), (8, .int 0)]) [5, 7, 2, 1, 0] rfl ?_
        exact w_L_act_169 C FU _ _ _ _ _ _ _ _ _ _ _ _ _ _ _ _ _ _ _ _ _ _ _ _ _ (of_decide_eq_true g_37) hf
    · replace hf := ifT c_3 hf
      refine ww_iload C dL_act_77 0 rfl ?_
      refine ww_aload_n C dL_act_79 rfl 4 rfl ?_
      refine ww_getN (host := RL) C clOK9 in_L_act_X9 (w := wOwn E a12 (rf4 q13 q15 q17 q19) v12) (fs := fsOwn a12 (rf4 q13 q15 q17 q19) v12) (v := .int (Own_rooms v12)) 12 0 0 rfl q_Own (by decide) (by decide +kernel) g_Own_rooms dL_act_80 ?_
      obtain ⟨p83, hp83, hf⟩ := bdE hf
      refine ww_callS C (As := [.int x5_11, .int (Own_rooms v12)]) (st := []) (gr := [wGW E a0 (rf10 (a1 0) (a2 0) (a3 0) (a5 0) h0_4 (a6 0) h0_6 (a9 0) (a10 0) h0_9) v0, wHouse E a1 v1, wHouse E a2 v2, wHist E a3 (rf2 q4 h3_1) v3, wHs E q4 ah4 v4, wSight E a5 v5, wBest E a6 (rf2 (a7 0) (a8 0)) v6, wHouse E a7 v7, wSight E a8 v8, wToks E a9 v9, wHRead E a10 (rf1 (a9 0)), wArr E q11 6 v11, wOwn E a12 (rf4 q13 q15 q17 q19) v12, wRO E q13 20 a14 v13, wRR E a14 v14, wRO E q15 12 a16 v15, wRR E a16 v16, wRO E q17 4 a18 v17, wRR E a18 v18, wArr E q19 4 v19]) (c_L_most (E := E)  hp83) gL_act_L_most rfl ysk_L_most ⟨by decide, Nat.le_of_ble_eq_true rfl⟩ ⟨Nat.zero_le _, Nat.zero_le _⟩ [] [0, 1, 2, 3, 4, 5, 6, 7, 8, 9, 10, 11, 12, 13, 14, 15, 16, 17, 18, 19] 20 rfl (by decide) rfl rfl (Nat.le_of_ble_eq_true rfl) dL_act_83 ?_
      rintro _ _ ⟨rfl, rfl⟩
      refine ww_perm (gs' := [wGW E a0 (rf10 (a1 0) (a2 0) (a3 0) (a5 0) h0_4 (a6 0) h0_6 (a9 0) (a10 0) h0_9) v0, wHouse E a1 v1, wHouse E a2 v2, wHist E a3 (rf2 q4 h3_1) v3, wHs E q4 ah4 v4, wSight E a5 v5, wBest E a6 (rf2 (a7 0) (a8 0)) v6, wHouse E a7 v7, wSight E a8 v8, wToks E a9 v9, wHRead E a10 (rf1 (a9 0)), wArr E q11 6 v11, wOwn E a12 (rf4 q13 q15 q17 q19) v12, wRO E q13 20 a14 v13, wRR E a14 v14, wRO E q15 12 a16 v15, wRR E a16 v16, wRO E q17 4 a18 v17, wRR E a18 v18, wArr E q19 4 v19]) [0, 1, 2, 3, 4, 5, 6, 7, 8, 9, 10, 11, 12, 13, 14, 15, 16, 17, 18, 19] 20 rfl (by decide) rfl ?_
      refine ww_istore (lv' := [(6, .int p83), (5, .int x5_11), (4, .int p3), (0, .ref (a0 0)), (1, .ref q11), (2, .ref (a12 0)), (3, .int x3)]) C dL_act_86 (by decide) rfl ?_
      refine ww_aload_n C dL_act_88 rfl 5 rfl ?_
      refine ww_getN (host := RL) C clOK9 in_L_act_X9 (w := wOwn E a12 (rf4 q13 q15 q17 q19) v12) (fs := fsOwn a12 (rf4 q13 q15 q17 q19) v12) (v := .ref q15) 12 0 5 rfl q_Own (by decide) (by decide +kernel) g_Own_room dL_act_89 ?_
      refine ww_iload C dL_act_92 0 rfl ?_
      obtain ⟨g_38, hf⟩ := gdE hf
      obtain ⟨g_39, hf⟩ := gdE hf
      refine ww_aldR C (f := roF a16 v15) (w := wRO E q15 12 a16 v15) 15 0 rfl q_RO (inB_vp g_38) (roF_at (of_decide_eq_true g_39)) dL_act_94 ?_
      refine ww_iconst (v := 0) C dL_act_95 (by decide) ?_
      refine ww_iload C dL_act_96 1 rfl ?_
      refine ww_iconst (v := 3) C dL_act_98 (by decide) ?_
      refine ww_ishr C dL_act_99 ?_
      refine ww_iload C dL_act_100 1 rfl ?_
      refine ww_iconst (v := 5) C dL_act_102 (by decide) ?_
      refine ww_ishr C dL_act_103 ?_
      refine ww_iconst (v := 3) C dL_act_104 (by decide) ?_
      obtain ⟨p105, hp105, hf⟩ := bdE hf
      refine ww_callS C (As := [.int (x5_11 >>> (5 &&& 31)), .int 3]) (st := [.int (x5_11 >>> (3 &&& 31)), .int 0, .ref (a16 (Int32.toNatClampNeg p83))]) (gr := [wGW E a0 (rf10 (a1 0) (a2 0) (a3 0) (a5 0) h0_4 (a6 0) h0_6 (a9 0) (a10 0) h0_9) v0, wHouse E a1 v1, wHouse E a2 v2, wHist E a3 (rf2 q4 h3_1) v3, wHs E q4 ah4 v4, wSight E a5 v5, wBest E a6 (rf2 (a7 0) (a8 0)) v6, wHouse E a7 v7, wSight E a8 v8, wToks E a9 v9, wHRead E a10 (rf1 (a9 0)), wArr E q11 6 v11, wOwn E a12 (rf4 q13 q15 q17 q19) v12, wRO E q13 20 a14 v13, wRR E a14 v14, wRO E q15 12 a16 v15, wRR E a16 v16, wRO E q17 4 a18 v17, wRR E a18 v18, wArr E q19 4 v19]) (c_L_most (E := E)  hp105) gL_act_L_most rfl ysk_L_most ⟨by decide, Nat.le_of_ble_eq_true rfl⟩ ⟨Nat.zero_le _, Nat.zero_le _⟩ [] [0, 1, 2, 3, 4, 5, 6, 7, 8, 9, 10, 11, 12, 13, 14, 15, 16, 17, 18, 19] 20 rfl (by decide) rfl rfl (Nat.le_of_ble_eq_true rfl) dL_act_105 ?_
      rintro _ _ ⟨rfl, rfl⟩
      refine ww_perm (gs' := [wGW E a0 (rf10 (a1 0) (a2 0) (a3 0) (a5 0) h0_4 (a6 0) h0_6 (a9 0) (a10 0) h0_9) v0, wHouse E a1 v1, wHouse E a2 v2, wHist E a3 (rf2 q4 h3_1) v3, wHs E q4 ah4 v4, wSight E a5 v5, wBest E a6 (rf2 (a7 0) (a8 0)) v6, wHouse E a7 v7, wSight E a8 v8, wToks E a9 v9, wHRead E a10 (rf1 (a9 0)), wArr E q11 6 v11, wOwn E a12 (rf4 q13 q15 q17 q19) v12, wRO E q13 20 a14 v13, wRR E a14 v14, wRO E q15 12 a16 v15, wRR E a16 v16, wRO E q17 4 a18 v17, wRR E a18 v18, wArr E q19 4 v19]) [0, 1, 2, 3, 4, 5, 6, 7, 8, 9, 10, 11, 12, 13, 14, 15, 16, 17, 18, 19] 20 rfl (by decide) rfl ?_
      refine ww_if_ne (tgt := 116) C dL_act_108 (by decide) (fun c_40 => ?_) (fun c_40 => ?_)
      · replace hf := ifF c_40 hf
        refine ww_bipush (v := 6) C dL_act_116 (by decide) ?_
        refine ww_sub C (lv' := [(0, .ref (a0 0)), (2, .ref (a12 0)), (6, .int p83)]) [3, 5, 0] rfl ?_
        exact w_L_act_118 C ⟨Nat.zero_le _, Nat.zero_le _⟩ hf
      · replace hf := ifT c_40 hf
        refine ww_bipush (v := 100) C dL_act_111 (by decide) ?_
        refine ww_goto (tgt := 118) C dL_act_113 (by decide) ?_
        refine ww_sub C (lv' := [(0, .ref (a0 0)), (2, .ref (a12 0)), (6, .int p83)]) [3, 5, 0] rfl ?_
        exact w_L_act_118 C ⟨Nat.zero_le _, Nat.zero_le _⟩ hf
  · replace hf := ifF c_2 hf
    refine ww_iconst (v := 1) C dL_act_19 (by decide) ?_
    refine ww_iload C dL_act_20 0 rfl ?_
    refine ww_iload C dL_act_22 0 rfl ?_
    refine ww_iconst (v := 3) C dL_act_24 (by decide) ?_
    refine ww_ishr C dL_act_25 ?_
    refine ww_iconst (v := 4) C dL_act_26 (by decide) ?_
    obtain ⟨p27, hp27, hf⟩ := bdE hf
    refine ww_callS C (As := [.int (x5_11 >>> (3 &&& 31)), .int 4]) (st := [.int x5_11, .int 1]) (gr := [wGW E a0 (rf10 (a1 0) (a2 0) (a3 0) (a5 0) h0_4 (a6 0) h0_6 (a9 0) (a10 0) h0_9) v0, wHouse E a1 v1, wHouse E a2 v2, wHist E a3 (rf2 q4 h3_1) v3, wHs E q4 ah4 v4, wSight E a5 v5, wBest E a6 (rf2 (a7 0) (a8 0)) v6, wHouse E a7 v7, wSight E a8 v8, wToks E a9 v9, wHRead E a10 (rf1 (a9 0)), wArr E q11 6 v11, wOwn E a12 (rf4 q13 q15 q17 q19) v12, wRO E q13 20 a14 v13, wRR E a14 v14, wRO E q15 12 a16 v15, wRR E a16 v16, wRO E q17 4 a18 v17, wRR E a18 v18, wArr E q19 4 v19]) (c_L_most (E := E)  hp27) gL_act_L_most rfl ysk_L_most ⟨by decide, Nat.le_of_ble_eq_true rfl⟩ ⟨Nat.zero_le _, Nat.zero_le _⟩ [] [0, 1, 2, 3, 4, 5, 6, 7, 8, 9, 10, 11, 12, 13, 14, 15, 16, 17, 18, 19] 20 rfl (by decide) rfl rfl (Nat.le_of_ble_eq_true rfl) dL_act_27 ?_
    rintro _ _ ⟨rfl, rfl⟩
    refine ww_perm (gs' := [wGW E a0 (rf10 (a1 0) (a2 0) (a3 0) (a5 0) h0_4 (a6 0) h0_6 (a9 0) (a10 0) h0_9) v0, wHouse E a1 v1, wHouse E a2 v2, wHist E a3 (rf2 q4 h3_1) v3, wHs E q4 ah4 v4, wSight E a5 v5, wBest E a6 (rf2 (a7 0) (a8 0)) v6, wHouse E a7 v7, wSight E a8 v8, wToks E a9 v9, wHRead E a10 (rf1 (a9 0)), wArr E q11 6 v11, wOwn E a12 (rf4 q13 q15 q17 q19) v12, wRO E q13 20 a14 v13, wRR E a14 v14, wRO E q15 12 a16 v15, wRR E a16 v16, wRO E q17 4 a18 v17, wRR E a18 v18, wArr E q19 4 v19]) [0, 1, 2, 3, 4, 5, 6, 7, 8, 9, 10, 11, 12, 13, 14, 15, 16, 17, 18, 19] 20 rfl (by decide) rfl ?_
    refine ww_if_ne (tgt := 38) C dL_act_30 (by decide) (fun c_41 => ?_) (fun c_41 => ?_)
    · replace hf := ifF c_41 hf
      refine ww_bipush (v := 6) C dL_act_38 (by decide) ?_
      refine ww_sub C (lv' := [(0, .ref (a0 0)), (2, .ref (a12 0))]) [2, 4] rfl ?_
      exact w_L_act_40 C ⟨Nat.zero_le _, Nat.zero_le _⟩ hf
    · replace hf := ifT c_41 hf
      refine ww_bipush (v := 60) C dL_act_33 (by decide) ?_
      refine ww_goto (tgt := 40) C dL_act_35 (by decide) ?_
      refine ww_sub C (lv' := [(0, .ref (a0 0)), (2, .ref (a12 0))]) [2, 4] rfl ?_
      exact w_L_act_40 C ⟨Nat.zero_le _, Nat.zero_le _⟩ hf

theorem ysk_L_act : yL_act.cls ≠ "java/lang/invoke/MethodHandle" ∧ yL_act.cls ≠ "java/lang/invoke/VarHandle" ∧ (parseMethodDescriptor yL_act.desc).map (fun d => d.parameters.length) = some 4 := by decide +kernel
