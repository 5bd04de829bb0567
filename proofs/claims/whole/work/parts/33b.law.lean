set_option maxHeartbeats 8000000 in
set_option maxRecDepth 100000 in
theorem w_L_law_822 {E : Ex} {K : Kx} (C : Cx E K cL_law 9 (some .boolean) RL wsL_law rmL_law) {a0 : Nat → Nat} {a1 : Nat → Nat} {a2 : Nat → Nat} {a3 : Nat → Nat} {q4 : Nat} {ah4 : Nat → Nat → Nat} {a5 : Nat → Nat} {a6 : Nat → Nat} {a7 : Nat → Nat} {a8 : Nat → Nat} {a9 : Nat → Nat} {a10 : Nat → Nat} {a11 : Nat → Nat} {a12 : Nat → Nat} {a13 : Nat → Nat} {a14 : Nat → Nat} {q15 : Nat} {q16 : Nat} {a17 : Nat → Nat} {q18 : Nat} {q19 : Nat} {bS L : Nat} {xs : Nat → Int32} {Q : State → Prop} (T0 : TL E K) (S0 : SX bS L xs K) (HR : ∀ (c s : Nat) (lv : List (Nat × Value)) (gs : List va_W), c ≤ 601024 → s ≤ 7293034 → WW E K c s Q 2236 lv [.int 1] gs) {c s : Nat} (hc : c + 3 ≤ 601024) (hs : s + 18 ≤ 7293034) {k23 : Int32 → GWV → HouseV → HouseV → HistV → (Nat → HouseV) → HouseV → SightV → SightV → BestV → HouseV → SightV → IntrV → ToksV → QReadV → (Nat → Int32) → (Nat → Int32) → ModelV → (Nat → Int64) → Option Unit} (hk23 : ∀ (x4 : Int32) (v0 : GWV) (v1 : HouseV) (v2 : HouseV) (v3 : HistV) (v4 : Nat → HouseV) (v5 : HouseV) (v6 : SightV) (v7 : SightV) (v8 : BestV) (v9 : HouseV) (v10 : SightV) (v11 : IntrV) (v12 : ToksV) (v14 : QReadV) (v15 : Nat → Int32) (v16 : Nat → Int32) (v17 : ModelV) (v19 : Nat → Int64), k23 x4 v0 v1 v2 v3 v4 v5 v6 v7 v8 v9 v10 v11 v12 v14 v15 v16 v17 v19 = some () → WW E K (c + 3) (s + 18) Q 23 [(0, .ref bS), (1, .ref (a0 0)), (2, .ref (a17 0)), (3, .ref q19), (4, .int x4)] [] [wGW E a0 (rf10 (a1 0) (a2 0) (a3 0) (a6 0) (a7 0) (a8 0) (a11 0) (a12 0) (a13 0) (a14 0)) v0, wHouse E a1 v1, wHouse E a2 v2, wHist E a3 (rf2 q4 (a5 0)) v3, wHs E q4 ah4 v4, wHouse E a5 v5, wSight E a6 v6, wSight E a7 v7, wBest E a8 (rf2 (a9 0) (a10 0)) v8, wHouse E a9 v9, wSight E a10 v10, wIntr E a11 v11, wToks E a12 v12, wHRead E a13 (rf1 (a12 0)), wQRead E a14 (rf3 (a12 0) q15 q16) v14, wArr E q15 12 v15, wArr E q16 12 v16, wModel E a17 (rf2 (a17 1) q18) v17, wNm E q18, wLon E q19 v19]) {x4 : Int32} {v0 : GWV} {v1 : HouseV} {v2 : HouseV} {v3 : HistV} {v4 : Nat → HouseV} {v5 : HouseV} {v6 : SightV} {v7 : SightV} {v8 : BestV} {v9 : HouseV} {v10 : SightV} {v11 : IntrV} {v12 : ToksV} {v14 : QReadV} {v15 : Nat → Int32} {v16 : Nat → Int32} {v17 : ModelV} {v19 : Nat → Int64} (hf : Law_822 L xs k23 x4 v0 v1 v2 v3 v4 v5 v6 v7 v8 v9 v10 v11 v12 v14 v15 v16 v17 v19 = some ()) : WW E K c s Q 822 [(0, .ref bS), (1, .ref (a0 0)), (2, .ref (a17 0)), (3, .ref q19), (4, .int x4)] [] [wGW E a0 (rf10 (a1 0) (a2 0) (a3 0) (a6 0) (a7 0) (a8 0) (a11 0) (a12 0) (a13 0) (a14 0)) v0, wHouse E a1 v1, wHouse E a2 v2, wHist E a3 (rf2 q4 (a5 0)) v3, wHs E q4 ah4 v4, wHouse E a5 v5, wSight E a6 v6, wSight E a7 v7, wBest E a8 (rf2 (a9 0) (a10 0)) v8, wHouse E a9 v9, wSight E a10 v10, wIntr E a11 v11, wToks E a12 v12, wHRead E a13 (rf1 (a12 0)), wQRead E a14 (rf3 (a12 0) q15 q16) v14, wArr E q15 12 v15, wArr E q16 12 v16, wModel E a17 (rf2 (a17 1) q18) v17, wNm E q18, wLon E q19 v19] := by
  rw [Law_822] at hf
  refine ww_aload_n C dL_law_822 rfl 1 rfl ?_
  refine ww_aload_n C dL_law_823 rfl 0 rfl ?_
  refine ww_iload C dL_law_824 4 rfl ?_
  refine ww_iconst (v := 1) C dL_law_826 (by decide) ?_
  refine ww_iadd C dL_law_827 ?_
  obtain ⟨g_122, hf⟩ := gdE hf
  refine ww_sld C S0 (inB_vp g_122) dL_law_828 ?_
  refine ww_aload_n C dL_law_829 rfl 0 rfl ?_
  refine ww_iload C dL_law_830 4 rfl ?_
  refine ww_iconst (v := 2) C dL_law_832 (by decide) ?_
  refine ww_iadd C dL_law_833 ?_
  obtain ⟨g_123, hf⟩ := gdE hf
  refine ww_sld C S0 (inB_vp g_123) dL_law_834 ?_
  refine ww_aload_n C dL_law_835 rfl 3 rfl ?_
  obtain ⟨p836, hp836, hf⟩ := bdE hf
  refine ww_callSL C T0 (As := [.ref (a0 0), .int (xs (Int32.toNatClampNeg (x4 + 1))), .int (xs (Int32.toNatClampNeg (x4 + 2))), .ref q19]) (st := []) (gr := [wHouse E a2 v2, wHist E a3 (rf2 q4 (a5 0)) v3, wHs E q4 ah4 v4, wHouse E a5 v5, wSight E a6 v6, wSight E a7 v7, wBest E a8 (rf2 (a9 0) (a10 0)) v8, wHouse E a9 v9, wSight E a10 v10, wIntr E a11 v11, wToks E a12 v12, wHRead E a13 (rf1 (a12 0)), wQRead E a14 (rf3 (a12 0) q15 q16) v14, wArr E q15 12 v15, wArr E q16 12 v16, wModel E a17 (rf2 (a17 1) q18) v17, wNm E q18]) (c_L_nextSeen (E := E) (a0 := a0) (h0_1 := a2 0) (h0_2 := a3 0) (h0_3 := a6 0) (h0_4 := a7 0) (h0_5 := a8 0) (h0_6 := a11 0) (h0_7 := a12 0) (h0_8 := a13 0) (h0_9 := a14 0) (a1 := a1) (q2 := q19) hp836) gL_law_L_nextSeen rfl ysk_L_nextSeen ⟨by decide, by decide⟩ ⟨by show c + 2 ≤ 601024; omega, by show s + 12 ≤ 7293034; omega⟩ [0, 1, 19] [2, 3, 4, 5, 6, 7, 8, 9, 10, 11, 12, 13, 14, 15, 16, 17, 18] 20 rfl (by decide) rfl rfl (Nat.le_of_ble_eq_true rfl) dL_law_836 ?_
  rintro _ _ ⟨rfl, rfl⟩
  refine ww_perm (gs' := [wGW E a0 (rf10 (a1 0) (a2 0) (a3 0) (a6 0) (a7 0) (a8 0) (a11 0) (a12 0) (a13 0) (a14 0)) v0, wHouse E a1 v1, wHouse E a2 v2, wHist E a3 (rf2 q4 (a5 0)) v3, wHs E q4 ah4 v4, wHouse E a5 v5, wSight E a6 v6, wSight E a7 v7, wBest E a8 (rf2 (a9 0) (a10 0)) v8, wHouse E a9 v9, wSight E a10 v10, wIntr E a11 v11, wToks E a12 v12, wHRead E a13 (rf1 (a12 0)), wQRead E a14 (rf3 (a12 0) q15 q16) v14, wArr E q15 12 v15, wArr E q16 12 v16, wModel E a17 (rf2 (a17 1) q18) v17, wNm E q18, wLon E q19 p836.2]) [0, 1, 3, 4, 5, 6, 7, 8, 9, 10, 11, 12, 13, 14, 15, 16, 17, 18, 19, 2] 20 rfl (by decide) rfl ?_
  refine ww_istore (lv' := [(5, .int p836.1), (0, .ref bS), (1, .ref (a0 0)), (2, .ref (a17 0)), (3, .ref q19), (4, .int x4)]) C dL_law_839 (by decide) rfl ?_
  refine ww_aload_n C dL_law_841 rfl 3 rfl ?_
  refine ww_aload_n C dL_law_842 rfl 1 rfl ?_
  refine ww_iload C dL_law_843 5 rfl ?_
  refine ww_iconst (v := 1) C dL_law_845 (by decide) ?_
  refine ww_iadd C dL_law_846 ?_
  refine ww_sld C S0 (inB_vp g_122) dL_law_847 ?_
  refine ww_aload_n C dL_law_848 rfl 1 rfl ?_
  refine ww_iload C dL_law_849 5 rfl ?_
  refine ww_iconst (v := 2) C dL_law_851 (by decide) ?_
  refine ww_iadd C dL_law_852 ?_
  refine ww_sld C S0 (inB_vp g_123) dL_law_853 ?_
  obtain ⟨p854, hp854, hf⟩ := bdE hf
  refine ww_callV C (As := [.int (xs (Int32.toNatClampNeg (x4 + 1))), .int (xs (Int32.toNatClampNeg (x4 + 2)))]) (st := []) (gr := [wGW E a0 (rf10 (a1 0) (a2 0) (a3 0) (a6 0) (a7 0) (a8 0) (a11 0) (a12 0) (a13 0) (a14 0)) v0, wHouse E a1 v1, wHouse E a2 v2, wHist E a3 (rf2 q4 (a5 0)) v3, wHs E q4 ah4 v4, wHouse E a5 v5, wSight E a6 v6, wSight E a7 v7, wBest E a8 (rf2 (a9 0) (a10 0)) v8, wHouse E a9 v9, wSight E a10 v10, wIntr E a11 v11, wToks E a12 v12, wHRead E a13 (rf1 (a12 0)), wQRead E a14 (rf3 (a12 0) q15 q16) v14, wArr E q15 12 v15, wArr E q16 12 v16, wNm E q18, wLon E q19 p836.2]) (c_X9_nextSeen (E := E) (a0 := a17) (h0_1 := q18) hp854) gL_law_X9_nextSeen rfl yk_X9_nextSeen ⟨by decide, by decide⟩ ⟨by show c + 2 + 0 ≤ 601024; omega, by show s + 12 + 0 ≤ 7293034; omega⟩ clOK9 0 0 rfl rfl [17] [0, 1, 2, 3, 4, 5, 6, 7, 8, 9, 10, 11, 12, 13, 14, 15, 16, 18, 19] 20 rfl (by decide) rfl rfl (Nat.le_of_ble_eq_true rfl) dL_law_854 ?_
  rintro _ _ ⟨rfl, rfl⟩
  refine ww_perm (gs' := [wGW E a0 (rf10 (a1 0) (a2 0) (a3 0) (a6 0) (a7 0) (a8 0) (a11 0) (a12 0) (a13 0) (a14 0)) v0, wHouse E a1 v1, wHouse E a2 v2, wHist E a3 (rf2 q4 (a5 0)) v3, wHs E q4 ah4 v4, wHouse E a5 v5, wSight E a6 v6, wSight E a7 v7, wBest E a8 (rf2 (a9 0) (a10 0)) v8, wHouse E a9 v9, wSight E a10 v10, wIntr E a11 v11, wToks E a12 v12, wHRead E a13 (rf1 (a12 0)), wQRead E a14 (rf3 (a12 0) q15 q16) v14, wArr E q15 12 v15, wArr E q16 12 v16, wModel E a17 (rf2 (a17 1) q18) p854.2, wNm E q18, wLon E q19 p836.2]) [1, 2, 3, 4, 5, 6, 7, 8, 9, 10, 11, 12, 13, 14, 15, 16, 17, 0, 18, 19] 20 rfl (by decide) rfl ?_
  refine ww_istore (lv' := [(6, .int p854.1), (5, .int p836.1), (0, .ref bS), (1, .ref (a0 0)), (2, .ref (a17 0)), (3, .ref q19), (4, .int x4)]) C dL_law_857 (by decide) rfl ?_
  refine ww_aload_n C dL_law_859 rfl 4 rfl ?_
  obtain ⟨p860, hp860, hf⟩ := bdE hf
  refine ww_callV C (As := []) (st := []) (gr := [wGW E a0 (rf10 (a1 0) (a2 0) (a3 0) (a6 0) (a7 0) (a8 0) (a11 0) (a12 0) (a13 0) (a14 0)) v0, wHouse E a1 v1, wHouse E a2 v2, wHist E a3 (rf2 q4 (a5 0)) v3, wHs E q4 ah4 v4, wHouse E a5 v5, wSight E a6 v6, wSight E a7 v7, wBest E a8 (rf2 (a9 0) (a10 0)) v8, wHouse E a9 v9, wSight E a10 v10, wIntr E a11 v11, wToks E a12 v12, wHRead E a13 (rf1 (a12 0)), wQRead E a14 (rf3 (a12 0) q15 q16) v14, wArr E q15 12 v15, wArr E q16 12 v16, wNm E q18, wLon E q19 p836.2]) (c_X9_thrown (E := E) (a0 := a17) (h0_0 := a17 1) (h0_1 := q18) hp860) gL_law_X9_thrown rfl yk_X9_thrown ⟨by decide, by decide⟩ ⟨by show c + 2 + 0 + 0 ≤ 601024; omega, by show s + 12 + 0 + 0 ≤ 7293034; omega⟩ clOK9 0 0 rfl rfl [17] [0, 1, 2, 3, 4, 5, 6, 7, 8, 9, 10, 11, 12, 13, 14, 15, 16, 18, 19] 20 rfl (by decide) rfl rfl (Nat.le_of_ble_eq_true rfl) dL_law_860 ?_
  rintro _ _ ⟨rfl, rfl⟩
  refine ww_perm (gs' := [wGW E a0 (rf10 (a1 0) (a2 0) (a3 0) (a6 0) (a7 0) (a8 0) (a11 0) (a12 0) (a13 0) (a14 0)) v0, wHouse E a1 v1, wHouse E a2 v2, wHist E a3 (rf2 q4 (a5 0)) v3, wHs E q4 ah4 v4, wHouse E a5 v5, wSight E a6 v6, wSight E a7 v7, wBest E a8 (rf2 (a9 0) (a10 0)) v8, wHouse E a9 v9, wSight E a10 v10, wIntr E a11 v11, wToks E a12 v12, wHRead E a13 (rf1 (a12 0)), wQRead E a14 (rf3 (a12 0) q15 q16) v14, wArr E q15 12 v15, wArr E q16 12 v16, wModel E a17 (rf2 (a17 1) q18) p854.2, wNm E q18, wLon E q19 p836.2]) [1, 2, 3, 4, 5, 6, 7, 8, 9, 10, 11, 12, 13, 14, 15, 16, 17, 0, 18, 19] 20 rfl (by decide) rfl ?_
  refine ww_iload C dL_law_863 1 rfl ?_
  refine ww_icmp_eq (tgt := 870) C dL_law_865 (by decide) (fun c_124 => ?_) (fun c_124 => ?_)
  · replace hf := ifT c_124 hf
    refine ww_iload C dL_law_870 1 rfl ?_
    refine ww_if_ne (tgt := 887) C dL_law_872 (by decide) (fun c_125 => ?_) (fun c_125 => ?_)
    · replace hf := ifF c_125 hf
      refine ww_goto (tgt := 2229) C dL_law_887 (by decide) ?_
      obtain ⟨x4_2229, e_x4_2229⟩ : ∃ y : Int32, y = x4 + 6 := ⟨_, rfl⟩
      replace hf := ltE e_x4_2229 hf
      refine ww_iinc (v := x4_2229) (lv' := [(4, .int x4_2229), (6, .int p854.1), (5, .int p836.1), (0, .ref bS), (1, .ref (a0 0)), (2, .ref (a17 0)), (3, .ref q19)]) C dL_law_2229 6 rfl (by rw [e_x4_2229]; rfl) (by decide) rfl ?_
      refine ww_goto (tgt := 23) C dL_law_2232 (by decide) ?_
      refine ww_sub C (lv' := [(0, .ref bS), (1, .ref (a0 0)), (2, .ref (a17 0)), (3, .ref q19), (4, .int x4_2229)]) [3, 4, 5, 6, 0] rfl ?_
      refine ww_widen (k := c + 3) (n := s + 18) (by show c + 2 + 0 + 0 ≤ c + 3; omega) (by show s + 12 + 0 + 0 ≤ s + 18; omega) ?_
      exact hk23 _ _ _ _ _ _ _ _ _ _ _ _ _ _ _ _ _ _ _ hf
    · replace hf := ifT c_125 hf
      refine ww_aload_n C dL_law_875 rfl 5 rfl ?_
      refine ww_iconst (v := 0) C dL_law_876 (by decide) ?_
      obtain ⟨g_126, hf⟩ := gdE hf
      refine ww_lald C (f := p836.2) (w := wLon E q19 p836.2) 19 0 rfl q_Lon (inB_vp g_126) dL_law_877 ?_
      refine ww_iload C dL_law_878 0 rfl ?_
      refine ww_i2l C dL_law_880 ?_
      refine ww_lcmp C dL_law_881 ?_
      refine ww_if_eq (tgt := 887) C dL_law_882 (by decide) (fun c_127 => ?_) (fun c_127 => ?_)
      · replace hf := ifT c_127 hf
        refine ww_goto (tgt := 2229) C dL_law_887 (by decide) ?_
        obtain ⟨x4_2229, e_x4_2229⟩ : ∃ y : Int32, y = x4 + 6 := ⟨_, rfl⟩
        replace hf := ltE e_x4_2229 hf
        refine ww_iinc (v := x4_2229) (lv' := [(4, .int x4_2229), (6, .int p854.1), (5, .int p836.1), (0, .ref bS), (1, .ref (a0 0)), (2, .ref (a17 0)), (3, .ref q19)]) C dL_law_2229 6 rfl (by rw [e_x4_2229]; rfl) (by decide) rfl ?_
        refine ww_goto (tgt := 23) C dL_law_2232 (by decide) ?_
        refine ww_sub C (lv' := [(0, .ref bS), (1, .ref (a0 0)), (2, .ref (a17 0)), (3, .ref q19), (4, .int x4_2229)]) [3, 4, 5, 6, 0] rfl ?_
        refine ww_widen (k := c + 3) (n := s + 18) (by show c + 2 + 0 + 0 ≤ c + 3; omega) (by show s + 12 + 0 + 0 ≤ s + 18; omega) ?_
        exact hk23 _ _ _ _ _ _ _ _ _ _ _ _ _ _ _ _ _ _ _ hf
      · replace hf := ifF c_127 hf
        refine ww_iconst (v := 0) C dL_law_885 (by decide) ?_
        cases hf
  · replace hf := ifF c_124 hf
    refine ww_iconst (v := 0) C dL_law_868 (by decide) ?_
    cases hf

set_option maxHeartbeats 8000000 in
set_option maxRecDepth 100000 in
theorem w_L_law_890 {E : Ex} {K : Kx} (C : Cx E K cL_law 9 (some .boolean) RL wsL_law rmL_law) {a0 : Nat → Nat} {a1 : Nat → Nat} {a2 : Nat → Nat} {a3 : Nat → Nat} {q4 : Nat} {ah4 : Nat → Nat → Nat} {a5 : Nat → Nat} {a6 : Nat → Nat} {a7 : Nat → Nat} {a8 : Nat → Nat} {a9 : Nat → Nat} {a10 : Nat → Nat} {a11 : Nat → Nat} {a12 : Nat → Nat} {a13 : Nat → Nat} {a14 : Nat → Nat} {q15 : Nat} {q16 : Nat} {a17 : Nat → Nat} {q18 : Nat} {q19 : Nat} {bS L : Nat} {xs : Nat → Int32} {Q : State → Prop} (T0 : TL E K) (S0 : SX bS L xs K) (HR : ∀ (c s : Nat) (lv : List (Nat × Value)) (gs : List va_W), c ≤ 601024 → s ≤ 7293034 → WW E K c s Q 2236 lv [.int 1] gs) {c s : Nat} (hc : c + 3 ≤ 601024) (hs : s + 18 ≤ 7293034) {k23 : Int32 → GWV → HouseV → HouseV → HistV → (Nat → HouseV) → HouseV → SightV → SightV → BestV → HouseV → SightV → IntrV → ToksV → QReadV → (Nat → Int32) → (Nat → Int32) → ModelV → (Nat → Int64) → Option Unit} (hk23 : ∀ (x4 : Int32) (v0 : GWV) (v1 : HouseV) (v2 : HouseV) (v3 : HistV) (v4 : Nat → HouseV) (v5 : HouseV) (v6 : SightV) (v7 : SightV) (v8 : BestV) (v9 : HouseV) (v10 : SightV) (v11 : IntrV) (v12 : ToksV) (v14 : QReadV) (v15 : Nat → Int32) (v16 : Nat → Int32) (v17 : ModelV) (v19 : Nat → Int64), k23 x4 v0 v1 v2 v3 v4 v5 v6 v7 v8 v9 v10 v11 v12 v14 v15 v16 v17 v19 = some () → WW E K (c + 3) (s + 18) Q 23 [(0, .ref bS), (1, .ref (a0 0)), (2, .ref (a17 0)), (3, .ref q19), (4, .int x4)] [] [wGW E a0 (rf10 (a1 0) (a2 0) (a3 0) (a6 0) (a7 0) (a8 0) (a11 0) (a12 0) (a13 0) (a14 0)) v0, wHouse E a1 v1, wHouse E a2 v2, wHist E a3 (rf2 q4 (a5 0)) v3, wHs E q4 ah4 v4, wHouse E a5 v5, wSight E a6 v6, wSight E a7 v7, wBest E a8 (rf2 (a9 0) (a10 0)) v8, wHouse E a9 v9, wSight E a10 v10, wIntr E a11 v11, wToks E a12 v12, wHRead E a13 (rf1 (a12 0)), wQRead E a14 (rf3 (a12 0) q15 q16) v14, wArr E q15 12 v15, wArr E q16 12 v16, wModel E a17 (rf2 (a17 1) q18) v17, wNm E q18, wLon E q19 v19]) {x4 : Int32} {v0 : GWV} {v1 : HouseV} {v2 : HouseV} {v3 : HistV} {v4 : Nat → HouseV} {v5 : HouseV} {v6 : SightV} {v7 : SightV} {v8 : BestV} {v9 : HouseV} {v10 : SightV} {v11 : IntrV} {v12 : ToksV} {v14 : QReadV} {v15 : Nat → Int32} {v16 : Nat → Int32} {v17 : ModelV} {v19 : Nat → Int64} (hf : Law_890 L xs k23 x4 v0 v1 v2 v3 v4 v5 v6 v7 v8 v9 v10 v11 v12 v14 v15 v16 v17 v19 = some ()) : WW E K c s Q 890 [(0, .ref bS), (1, .ref (a0 0)), (2, .ref (a17 0)), (3, .ref q19), (4, .int x4)] [] [wGW E a0 (rf10 (a1 0) (a2 0) (a3 0) (a6 0) (a7 0) (a8 0) (a11 0) (a12 0) (a13 0) (a14 0)) v0, wHouse E a1 v1, wHouse E a2 v2, wHist E a3 (rf2 q4 (a5 0)) v3, wHs E q4 ah4 v4, wHouse E a5 v5, wSight E a6 v6, wSight E a7 v7, wBest E a8 (rf2 (a9 0) (a10 0)) v8, wHouse E a9 v9, wSight E a10 v10, wIntr E a11 v11, wToks E a12 v12, wHRead E a13 (rf1 (a12 0)), wQRead E a14 (rf3 (a12 0) q15 q16) v14, wArr E q15 12 v15, wArr E q16 12 v16, wModel E a17 (rf2 (a17 1) q18) v17, wNm E q18, wLon E q19 v19] := by
  rw [Law_890] at hf
  refine ww_aload_n C dL_law_890 rfl 1 rfl ?_
  refine ww_aload_n C dL_law_891 rfl 0 rfl ?_
  refine ww_iload C dL_law_892 4 rfl ?_
  refine ww_iconst (v := 1) C dL_law_894 (by decide) ?_
  refine ww_iadd C dL_law_895 ?_
  obtain ⟨g_117, hf⟩ := gdE hf
  refine ww_sld C S0 (inB_vp g_117) dL_law_896 ?_
  refine ww_aload_n C dL_law_897 rfl 3 rfl ?_
  obtain ⟨p898, hp898, hf⟩ := bdE hf
  refine ww_callSL C T0 (As := [.ref (a0 0), .int (xs (Int32.toNatClampNeg (x4 + 1))), .ref q19]) (st := []) (gr := [wHouse E a2 v2, wHist E a3 (rf2 q4 (a5 0)) v3, wHs E q4 ah4 v4, wHouse E a5 v5, wSight E a7 v7, wBest E a8 (rf2 (a9 0) (a10 0)) v8, wHouse E a9 v9, wSight E a10 v10, wIntr E a11 v11, wToks E a12 v12, wHRead E a13 (rf1 (a12 0)), wQRead E a14 (rf3 (a12 0) q15 q16) v14, wArr E q15 12 v15, wArr E q16 12 v16, wModel E a17 (rf2 (a17 1) q18) v17, wNm E q18]) (c_L_gapFrom (E := E) (a0 := a0) (h0_1 := a2 0) (h0_2 := a3 0) (h0_4 := a7 0) (h0_5 := a8 0) (h0_6 := a11 0) (h0_7 := a12 0) (h0_8 := a13 0) (h0_9 := a14 0) (a1 := a1) (a2 := a6) (q3 := q19) hp898) gL_law_L_gapFrom rfl ysk_L_gapFrom ⟨by decide, by decide⟩ ⟨by show c + 1 ≤ 601024; omega, by show s + 6 ≤ 7293034; omega⟩ [0, 1, 6, 19] [2, 3, 4, 5, 7, 8, 9, 10, 11, 12, 13, 14, 15, 16, 17, 18] 20 rfl (by decide) rfl rfl (Nat.le_of_ble_eq_true rfl) dL_law_898 ?_
  rintro _ _ ⟨rfl, rfl⟩
  refine ww_perm (gs' := [wGW E a0 (rf10 (a1 0) (a2 0) (a3 0) (a6 0) (a7 0) (a8 0) (a11 0) (a12 0) (a13 0) (a14 0)) v0, wHouse E a1 v1, wHouse E a2 v2, wHist E a3 (rf2 q4 (a5 0)) v3, wHs E q4 ah4 v4, wHouse E a5 v5, wSight E a6 p898.2.1, wSight E a7 v7, wBest E a8 (rf2 (a9 0) (a10 0)) v8, wHouse E a9 v9, wSight E a10 v10, wIntr E a11 v11, wToks E a12 v12, wHRead E a13 (rf1 (a12 0)), wQRead E a14 (rf3 (a12 0) q15 q16) v14, wArr E q15 12 v15, wArr E q16 12 v16, wModel E a17 (rf2 (a17 1) q18) v17, wNm E q18, wLon E q19 p898.2.2]) [0, 1, 4, 5, 6, 7, 2, 8, 9, 10, 11, 12, 13, 14, 15, 16, 17, 18, 19, 3] 20 rfl (by decide) rfl ?_
  refine ww_istore (lv' := [(5, .int p898.1), (0, .ref bS), (1, .ref (a0 0)), (2, .ref (a17 0)), (3, .ref q19), (4, .int x4)]) C dL_law_901 (by decide) rfl ?_
  refine ww_aload_n C dL_law_903 rfl 3 rfl ?_
  refine ww_aload_n C dL_law_904 rfl 1 rfl ?_
  refine ww_iload C dL_law_905 5 rfl ?_
  refine ww_iconst (v := 1) C dL_law_907 (by decide) ?_
  refine ww_iadd C dL_law_908 ?_
  refine ww_sld C S0 (inB_vp g_117) dL_law_909 ?_
  obtain ⟨p910, hp910, hf⟩ := bdE hf
  refine ww_callV C (As := [.int (xs (Int32.toNatClampNeg (x4 + 1)))]) (st := []) (gr := [wGW E a0 (rf10 (a1 0) (a2 0) (a3 0) (a6 0) (a7 0) (a8 0) (a11 0) (a12 0) (a13 0) (a14 0)) v0, wHouse E a1 v1, wHouse E a2 v2, wHist E a3 (rf2 q4 (a5 0)) v3, wHs E q4 ah4 v4, wHouse E a5 v5, wSight E a6 p898.2.1, wSight E a7 v7, wBest E a8 (rf2 (a9 0) (a10 0)) v8, wHouse E a9 v9, wSight E a10 v10, wIntr E a11 v11, wToks E a12 v12, wHRead E a13 (rf1 (a12 0)), wQRead E a14 (rf3 (a12 0) q15 q16) v14, wArr E q15 12 v15, wArr E q16 12 v16, wNm E q18, wLon E q19 p898.2.2]) (c_X9_gapFrom (E := E) (a0 := a17) (h0_1 := q18) hp910) gL_law_X9_gapFrom rfl yk_X9_gapFrom ⟨by decide, by decide⟩ ⟨by show c + 1 + 0 ≤ 601024; omega, by show s + 6 + 0 ≤ 7293034; omega⟩ clOK9 0 0 rfl rfl [17] [0, 1, 2, 3, 4, 5, 6, 7, 8, 9, 10, 11, 12, 13, 14, 15, 16, 18, 19] 20 rfl (by decide) rfl rfl (Nat.le_of_ble_eq_true rfl) dL_law_910 ?_
  rintro _ _ ⟨rfl, rfl⟩
  refine ww_perm (gs' := [wGW E a0 (rf10 (a1 0) (a2 0) (a3 0) (a6 0) (a7 0) (a8 0) (a11 0) (a12 0) (a13 0) (a14 0)) v0, wHouse E a1 v1, wHouse E a2 v2, wHist E a3 (rf2 q4 (a5 0)) v3, wHs E q4 ah4 v4, wHouse E a5 v5, wSight E a6 p898.2.1, wSight E a7 v7, wBest E a8 (rf2 (a9 0) (a10 0)) v8, wHouse E a9 v9, wSight E a10 v10, wIntr E a11 v11, wToks E a12 v12, wHRead E a13 (rf1 (a12 0)), wQRead E a14 (rf3 (a12 0) q15 q16) v14, wArr E q15 12 v15, wArr E q16 12 v16, wModel E a17 (rf2 (a17 1) q18) p910.2, wNm E q18, wLon E q19 p898.2.2]) [1, 2, 3, 4, 5, 6, 7, 8, 9, 10, 11, 12, 13, 14, 15, 16, 17, 0, 18, 19] 20 rfl (by decide) rfl ?_
  refine ww_istore (lv' := [(6, .int p910.1), (5, .int p898.1), (0, .ref bS), (1, .ref (a0 0)), (2, .ref (a17 0)), (3, .ref q19), (4, .int x4)]) C dL_law_913 (by decide) rfl ?_
  refine ww_aload_n C dL_law_915 rfl 4 rfl ?_
  obtain ⟨p916, hp916, hf⟩ := bdE hf
  refine ww_callV C (As := []) (st := []) (gr := [wGW E a0 (rf10 (a1 0) (a2 0) (a3 0) (a6 0) (a7 0) (a8 0) (a11 0) (a12 0) (a13 0) (a14 0)) v0, wHouse E a1 v1, wHouse E a2 v2, wHist E a3 (rf2 q4 (a5 0)) v3, wHs E q4 ah4 v4, wHouse E a5 v5, wSight E a6 p898.2.1, wSight E a7 v7, wBest E a8 (rf2 (a9 0) (a10 0)) v8, wHouse E a9 v9, wSight E a10 v10, wIntr E a11 v11, wToks E a12 v12, wHRead E a13 (rf1 (a12 0)), wQRead E a14 (rf3 (a12 0) q15 q16) v14, wArr E q15 12 v15, wArr E q16 12 v16, wNm E q18, wLon E q19 p898.2.2]) (c_X9_thrown (E := E) (a0 := a17) (h0_0 := a17 1) (h0_1 := q18) hp916) gL_law_X9_thrown rfl yk_X9_thrown ⟨by decide, by decide⟩ ⟨by show c + 1 + 0 + 0 ≤ 601024; omega, by show s + 6 + 0 + 0 ≤ 7293034; omega⟩ clOK9 0 0 rfl rfl [17] [0, 1, 2, 3, 4, 5, 6, 7, 8, 9, 10, 11, 12, 13, 14, 15, 16, 18, 19] 20 rfl (by decide) rfl rfl (Nat.le_of_ble_eq_true rfl) dL_law_916 ?_
  rintro _ _ ⟨rfl, rfl⟩
  refine ww_perm (gs' := [wGW E a0 (rf10 (a1 0) (a2 0) (a3 0) (a6 0) (a7 0) (a8 0) (a11 0) (a12 0) (a13 0) (a14 0)) v0, wHouse E a1 v1, wHouse E a2 v2, wHist E a3 (rf2 q4 (a5 0)) v3, wHs E q4 ah4 v4, wHouse E a5 v5, wSight E a6 p898.2.1, wSight E a7 v7, wBest E a8 (rf2 (a9 0) (a10 0)) v8, wHouse E a9 v9, wSight E a10 v10, wIntr E a11 v11, wToks E a12 v12, wHRead E a13 (rf1 (a12 0)), wQRead E a14 (rf3 (a12 0) q15 q16) v14, wArr E q15 12 v15, wArr E q16 12 v16, wModel E a17 (rf2 (a17 1) q18) p910.2, wNm E q18, wLon E q19 p898.2.2]) [1, 2, 3, 4, 5, 6, 7, 8, 9, 10, 11, 12, 13, 14, 15, 16, 17, 0, 18, 19] 20 rfl (by decide) rfl ?_
  refine ww_iload C dL_law_919 1 rfl ?_
  refine ww_icmp_eq (tgt := 926) C dL_law_921 (by decide) (fun c_118 => ?_) (fun c_118 => ?_)
  · replace hf := ifT c_118 hf
    refine ww_iload C dL_law_926 1 rfl ?_
    refine ww_if_ne (tgt := 943) C dL_law_928 (by decide) (fun c_119 => ?_) (fun c_119 => ?_)
    · replace hf := ifF c_119 hf
      refine ww_goto (tgt := 2229) C dL_law_943 (by decide) ?_
      obtain ⟨x4_2229, e_x4_2229⟩ : ∃ y : Int32, y = x4 + 6 := ⟨_, rfl⟩
      replace hf := ltE e_x4_2229 hf
      refine ww_iinc (v := x4_2229) (lv' := [(4, .int x4_2229), (6, .int p910.1), (5, .int p898.1), (0, .ref bS), (1, .ref (a0 0)), (2, .ref (a17 0)), (3, .ref q19)]) C dL_law_2229 6 rfl (by rw [e_x4_2229]; rfl) (by decide) rfl ?_
      refine ww_goto (tgt := 23) C dL_law_2232 (by decide) ?_
      refine ww_sub C (lv' := [(0, .ref bS), (1, .ref (a0 0)), (2, .ref (a17 0)), (3, .ref q19), (4, .int x4_2229)]) [3, 4, 5, 6, 0] rfl ?_
      refine ww_widen (k := c + 3) (n := s + 18) (by show c + 1 + 0 + 0 ≤ c + 3; omega) (by show s + 6 + 0 + 0 ≤ s + 18; omega) ?_
      exact hk23 _ _ _ _ _ _ _ _ _ _ _ _ _ _ _ _ _ _ _ hf
    · replace hf := ifT c_119 hf
      refine ww_aload_n C dL_law_931 rfl 5 rfl ?_
      refine ww_iconst (v := 0) C dL_law_932 (by decide) ?_
      obtain ⟨g_120, hf⟩ := gdE hf
      refine ww_lald C (f := p898.2.2) (w := wLon E q19 p898.2.2) 19 0 rfl q_Lon (inB_vp g_120) dL_law_933 ?_
      refine ww_iload C dL_law_934 0 rfl ?_
      refine ww_i2l C dL_law_936 ?_
      refine ww_lcmp C dL_law_937 ?_
      refine ww_if_eq (tgt := 943) C dL_law_938 (by decide) (fun c_121 => ?_) (fun c_121 => ?_)
      · replace hf := ifT c_121 hf
        refine ww_goto (tgt := 2229) C dL_law_943 (by decide) ?_
        obtain ⟨x4_2229, e_x4_2229⟩ : ∃ y : Int32, y = x4 + 6 := ⟨_, rfl⟩
        replace hf := ltE e_x4_2229 hf
        refine ww_iinc (v := x4_2229) (lv' := [(4, .int x4_2229), (6, .int p910.1), (5, .int p898.1), (0, .ref bS), (1, .ref (a0 0)), (2, .ref (a17 0)), (3, .ref q19)]) C dL_law_2229 6 rfl (by rw [e_x4_2229]; rfl) (by decide) rfl ?_
        refine ww_goto (tgt := 23) C dL_law_2232 (by decide) ?_
        refine ww_sub C (lv' := [(0, .ref bS), (1, .ref (a0 0)), (2, .ref (a17 0)), (3, .ref q19), (4, .int x4_2229)]) [3, 4, 5, 6, 0] rfl ?_
        refine ww_widen (k := c + 3) (n := s + 18) (by show c + 1 + 0 + 0 ≤ c + 3; omega) (by show s + 6 + 0 + 0 ≤ s + 18; omega) ?_
        exact hk23 _ _ _ _ _ _ _ _ _ _ _ _ _ _ _ _ _ _ _ hf
      · replace hf := ifF c_121 hf
        refine ww_iconst (v := 0) C dL_law_941 (by decide) ?_
        cases hf
  · replace hf := ifF c_118 hf
    refine ww_iconst (v := 0) C dL_law_924 (by decide) ?_
    cases hf

set_option maxHeartbeats 8000000 in
set_option maxRecDepth 100000 in
theorem w_L_law_946 {E : Ex} {K : Kx} (C : Cx E K cL_law 9 (some .boolean) RL wsL_law rmL_law) {a0 : Nat → Nat} {a1 : Nat → Nat} {a2 : Nat → Nat} {a3 : Nat → Nat} {q4 : Nat} {ah4 : Nat → Nat → Nat} {a5 : Nat → Nat} {a6 : Nat → Nat} {a7 : Nat → Nat} {a8 : Nat → Nat} {a9 : Nat → Nat} {a10 : Nat → Nat} {a11 : Nat → Nat} {a12 : Nat → Nat} {a13 : Nat → Nat} {a14 : Nat → Nat} {q15 : Nat} {q16 : Nat} {a17 : Nat → Nat} {q18 : Nat} {q19 : Nat} {bS L : Nat} {xs : Nat → Int32} {Q : State → Prop} (T0 : TL E K) (S0 : SX bS L xs K) (HR : ∀ (c s : Nat) (lv : List (Nat × Value)) (gs : List va_W), c ≤ 601024 → s ≤ 7293034 → WW E K c s Q 2236 lv [.int 1] gs) {c s : Nat} (hc : c + 3 ≤ 601024) (hs : s + 18 ≤ 7293034) {k23 : Int32 → GWV → HouseV → HouseV → HistV → (Nat → HouseV) → HouseV → SightV → SightV → BestV → HouseV → SightV → IntrV → ToksV → QReadV → (Nat → Int32) → (Nat → Int32) → ModelV → (Nat → Int64) → Option Unit} (hk23 : ∀ (x4 : Int32) (v0 : GWV) (v1 : HouseV) (v2 : HouseV) (v3 : HistV) (v4 : Nat → HouseV) (v5 : HouseV) (v6 : SightV) (v7 : SightV) (v8 : BestV) (v9 : HouseV) (v10 : SightV) (v11 : IntrV) (v12 : ToksV) (v14 : QReadV) (v15 : Nat → Int32) (v16 : Nat → Int32) (v17 : ModelV) (v19 : Nat → Int64), k23 x4 v0 v1 v2 v3 v4 v5 v6 v7 v8 v9 v10 v11 v12 v14 v15 v16 v17 v19 = some () → WW E K (c + 3) (s + 18) Q 23 [(0, .ref bS), (1, .ref (a0 0)), (2, .ref (a17 0)), (3, .ref q19), (4, .int x4)] [] [wGW E a0 (rf10 (a1 0) (a2 0) (a3 0) (a6 0) (a7 0) (a8 0) (a11 0) (a12 0) (a13 0) (a14 0)) v0, wHouse E a1 v1, wHouse E a2 v2, wHist E a3 (rf2 q4 (a5 0)) v3, wHs E q4 ah4 v4, wHouse E a5 v5, wSight E a6 v6, wSight E a7 v7, wBest E a8 (rf2 (a9 0) (a10 0)) v8, wHouse E a9 v9, wSight E a10 v10, wIntr E a11 v11, wToks E a12 v12, wHRead E a13 (rf1 (a12 0)), wQRead E a14 (rf3 (a12 0) q15 q16) v14, wArr E q15 12 v15, wArr E q16 12 v16, wModel E a17 (rf2 (a17 1) q18) v17, wNm E q18, wLon E q19 v19]) {x4 : Int32} {v0 : GWV} {v1 : HouseV} {v2 : HouseV} {v3 : HistV} {v4 : Nat → HouseV} {v5 : HouseV} {v6 : SightV} {v7 : SightV} {v8 : BestV} {v9 : HouseV} {v10 : SightV} {v11 : IntrV} {v12 : ToksV} {v14 : QReadV} {v15 : Nat → Int32} {v16 : Nat → Int32} {v17 : ModelV} {v19 : Nat → Int64} (hf : Law_946 L xs k23 x4 v0 v1 v2 v3 v4 v5 v6 v7 v8 v9 v10 v11 v12 v14 v15 v16 v17 v19 = some ()) : WW E K c s Q 946 [(0, .ref bS), (1, .ref (a0 0)), (2, .ref (a17 0)), (3, .ref q19), (4, .int x4)] [] [wGW E a0 (rf10 (a1 0) (a2 0) (a3 0) (a6 0) (a7 0) (a8 0) (a11 0) (a12 0) (a13 0) (a14 0)) v0, wHouse E a1 v1, wHouse E a2 v2, wHist E a3 (rf2 q4 (a5 0)) v3, wHs E q4 ah4 v4, wHouse E a5 v5, wSight E a6 v6, wSight E a7 v7, wBest E a8 (rf2 (a9 0) (a10 0)) v8, wHouse E a9 v9, wSight E a10 v10, wIntr E a11 v11, wToks E a12 v12, wHRead E a13 (rf1 (a12 0)), wQRead E a14 (rf3 (a12 0) q15 q16) v14, wArr E q15 12 v15, wArr E q16 12 v16, wModel E a17 (rf2 (a17 1) q18) v17, wNm E q18, wLon E q19 v19] := by
  rw [Law_946] at hf
  refine ww_aload_n C dL_law_946 rfl 1 rfl ?_
  refine ww_aload_n C dL_law_947 rfl 0 rfl ?_
  refine ww_iload C dL_law_948 4 rfl ?_
  refine ww_iconst (v := 1) C dL_law_950 (by decide) ?_
  refine ww_iadd C dL_law_951 ?_
  obtain ⟨g_108, hf⟩ := gdE hf
  refine ww_sld C S0 (inB_vp g_108) dL_law_952 ?_
  refine ww_aload_n C dL_law_953 rfl 0 rfl ?_
  refine ww_iload C dL_law_954 4 rfl ?_
  refine ww_iconst (v := 2) C dL_law_956 (by decide) ?_
  refine ww_iadd C dL_law_957 ?_
  obtain ⟨g_109, hf⟩ := gdE hf
  refine ww_sld C S0 (inB_vp g_109) dL_law_958 ?_
  refine ww_aload_n C dL_law_959 rfl 3 rfl ?_
  obtain ⟨p960, hp960, hf⟩ := bdE hf
  refine ww_callSL C T0 (As := [.ref (a0 0), .int (xs (Int32.toNatClampNeg (x4 + 1))), .int (xs (Int32.toNatClampNeg (x4 + 2))), .ref q19]) (st := []) (gr := [wHouse E a2 v2, wHist E a3 (rf2 q4 (a5 0)) v3, wHs E q4 ah4 v4, wHouse E a5 v5, wSight E a6 v6, wSight E a7 v7, wBest E a8 (rf2 (a9 0) (a10 0)) v8, wHouse E a9 v9, wSight E a10 v10, wIntr E a11 v11, wToks E a12 v12, wHRead E a13 (rf1 (a12 0)), wQRead E a14 (rf3 (a12 0) q15 q16) v14, wArr E q15 12 v15, wArr E q16 12 v16, wModel E a17 (rf2 (a17 1) q18) v17, wNm E q18]) (c_L_isJoined (E := E) (a0 := a0) (h0_1 := a2 0) (h0_2 := a3 0) (h0_3 := a6 0) (h0_4 := a7 0) (h0_5 := a8 0) (h0_6 := a11 0) (h0_7 := a12 0) (h0_8 := a13 0) (h0_9 := a14 0) (a1 := a1) (q2 := q19) hp960) gL_law_L_isJoined rfl ysk_L_isJoined ⟨by decide, by decide⟩ ⟨by show c + 2 ≤ 601024; omega, by show s + 12 ≤ 7293034; omega⟩ [0, 1, 19] [2, 3, 4, 5, 6, 7, 8, 9, 10, 11, 12, 13, 14, 15, 16, 17, 18] 20 rfl (by decide) rfl rfl (Nat.le_of_ble_eq_true rfl) dL_law_960 ?_
  rintro _ _ ⟨rfl, rfl⟩
  refine ww_perm (gs' := [wGW E a0 (rf10 (a1 0) (a2 0) (a3 0) (a6 0) (a7 0) (a8 0) (a11 0) (a12 0) (a13 0) (a14 0)) v0, wHouse E a1 v1, wHouse E a2 v2, wHist E a3 (rf2 q4 (a5 0)) v3, wHs E q4 ah4 v4, wHouse E a5 v5, wSight E a6 v6, wSight E a7 v7, wBest E a8 (rf2 (a9 0) (a10 0)) v8, wHouse E a9 v9, wSight E a10 v10, wIntr E a11 v11, wToks E a12 v12, wHRead E a13 (rf1 (a12 0)), wQRead E a14 (rf3 (a12 0) q15 q16) v14, wArr E q15 12 v15, wArr E q16 12 v16, wModel E a17 (rf2 (a17 1) q18) v17, wNm E q18, wLon E q19 p960.2]) [0, 1, 3, 4, 5, 6, 7, 8, 9, 10, 11, 12, 13, 14, 15, 16, 17, 18, 19, 2] 20 rfl (by decide) rfl ?_
  refine ww_istore (lv' := [(5, .int p960.1), (0, .ref bS), (1, .ref (a0 0)), (2, .ref (a17 0)), (3, .ref q19), (4, .int x4)]) C dL_law_963 (by decide) rfl ?_
  refine ww_aload_n C dL_law_965 rfl 3 rfl ?_
  refine ww_aload_n C dL_law_966 rfl 1 rfl ?_
  refine ww_iload C dL_law_967 5 rfl ?_
  refine ww_iconst (v := 1) C dL_law_969 (by decide) ?_
  refine ww_iadd C dL_law_970 ?_
  refine ww_sld C S0 (inB_vp g_108) dL_law_971 ?_
  refine ww_aload_n C dL_law_972 rfl 1 rfl ?_
  refine ww_iload C dL_law_973 5 rfl ?_
  refine ww_iconst (v := 2) C dL_law_975 (by decide) ?_
  refine ww_iadd C dL_law_976 ?_
  refine ww_sld C S0 (inB_vp g_109) dL_law_977 ?_
  obtain ⟨p978, hp978, hf⟩ := bdE hf
  refine ww_callV C (As := [.int (xs (Int32.toNatClampNeg (x4 + 1))), .int (xs (Int32.toNatClampNeg (x4 + 2)))]) (st := []) (gr := [wGW E a0 (rf10 (a1 0) (a2 0) (a3 0) (a6 0) (a7 0) (a8 0) (a11 0) (a12 0) (a13 0) (a14 0)) v0, wHouse E a1 v1, wHouse E a2 v2, wHist E a3 (rf2 q4 (a5 0)) v3, wHs E q4 ah4 v4, wHouse E a5 v5, wSight E a6 v6, wSight E a7 v7, wBest E a8 (rf2 (a9 0) (a10 0)) v8, wHouse E a9 v9, wSight E a10 v10, wIntr E a11 v11, wToks E a12 v12, wHRead E a13 (rf1 (a12 0)), wQRead E a14 (rf3 (a12 0) q15 q16) v14, wArr E q15 12 v15, wArr E q16 12 v16, wNm E q18, wLon E q19 p960.2]) (c_X9_isJoined (E := E) (a0 := a17) (h0_1 := q18) hp978) gL_law_X9_isJoined rfl yk_X9_isJoined ⟨by decide, by decide⟩ ⟨by show c + 2 + 0 ≤ 601024; omega, by show s + 12 + 0 ≤ 7293034; omega⟩ clOK9 0 0 rfl rfl [17] [0, 1, 2, 3, 4, 5, 6, 7, 8, 9, 10, 11, 12, 13, 14, 15, 16, 18, 19] 20 rfl (by decide) rfl rfl (Nat.le_of_ble_eq_true rfl) dL_law_978 ?_
  rintro _ _ ⟨rfl, rfl⟩
  refine ww_perm (gs' := [wGW E a0 (rf10 (a1 0) (a2 0) (a3 0) (a6 0) (a7 0) (a8 0) (a11 0) (a12 0) (a13 0) (a14 0)) v0, wHouse E a1 v1, wHouse E a2 v2, wHist E a3 (rf2 q4 (a5 0)) v3, wHs E q4 ah4 v4, wHouse E a5 v5, wSight E a6 v6, wSight E a7 v7, wBest E a8 (rf2 (a9 0) (a10 0)) v8, wHouse E a9 v9, wSight E a10 v10, wIntr E a11 v11, wToks E a12 v12, wHRead E a13 (rf1 (a12 0)), wQRead E a14 (rf3 (a12 0) q15 q16) v14, wArr E q15 12 v15, wArr E q16 12 v16, wModel E a17 (rf2 (a17 1) q18) p978.2, wNm E q18, wLon E q19 p960.2]) [1, 2, 3, 4, 5, 6, 7, 8, 9, 10, 11, 12, 13, 14, 15, 16, 17, 0, 18, 19] 20 rfl (by decide) rfl ?_
  refine ww_topi (fun x6_981 e_x6_981 => ?_)
  replace hf := ltE e_x6_981 hf
  refine ww_istore (lv' := [(6, .int x6_981), (5, .int p960.1), (0, .ref bS), (1, .ref (a0 0)), (2, .ref (a17 0)), (3, .ref q19), (4, .int x4)]) C dL_law_981 (by decide) rfl ?_
  refine ww_aload_n C dL_law_983 rfl 4 rfl ?_
  obtain ⟨p984, hp984, hf⟩ := bdE hf
  refine ww_callV C (As := []) (st := []) (gr := [wGW E a0 (rf10 (a1 0) (a2 0) (a3 0) (a6 0) (a7 0) (a8 0) (a11 0) (a12 0) (a13 0) (a14 0)) v0, wHouse E a1 v1, wHouse E a2 v2, wHist E a3 (rf2 q4 (a5 0)) v3, wHs E q4 ah4 v4, wHouse E a5 v5, wSight E a6 v6, wSight E a7 v7, wBest E a8 (rf2 (a9 0) (a10 0)) v8, wHouse E a9 v9, wSight E a10 v10, wIntr E a11 v11, wToks E a12 v12, wHRead E a13 (rf1 (a12 0)), wQRead E a14 (rf3 (a12 0) q15 q16) v14, wArr E q15 12 v15, wArr E q16 12 v16, wNm E q18, wLon E q19 p960.2]) (c_X9_thrown (E := E) (a0 := a17) (h0_0 := a17 1) (h0_1 := q18) hp984) gL_law_X9_thrown rfl yk_X9_thrown ⟨by decide, by decide⟩ ⟨by show c + 2 + 0 + 0 ≤ 601024; omega, by show s + 12 + 0 + 0 ≤ 7293034; omega⟩ clOK9 0 0 rfl rfl [17] [0, 1, 2, 3, 4, 5, 6, 7, 8, 9, 10, 11, 12, 13, 14, 15, 16, 18, 19] 20 rfl (by decide) rfl rfl (Nat.le_of_ble_eq_true rfl) dL_law_984 ?_
  rintro _ _ ⟨rfl, rfl⟩
  refine ww_perm (gs' := [wGW E a0 (rf10 (a1 0) (a2 0) (a3 0) (a6 0) (a7 0) (a8 0) (a11 0) (a12 0) (a13 0) (a14 0)) v0, wHouse E a1 v1, wHouse E a2 v2, wHist E a3 (rf2 q4 (a5 0)) v3, wHs E q4 ah4 v4, wHouse E a5 v5, wSight E a6 v6, wSight E a7 v7, wBest E a8 (rf2 (a9 0) (a10 0)) v8, wHouse E a9 v9, wSight E a10 v10, wIntr E a11 v11, wToks E a12 v12, wHRead E a13 (rf1 (a12 0)), wQRead E a14 (rf3 (a12 0) q15 q16) v14, wArr E q15 12 v15, wArr E q16 12 v16, wModel E a17 (rf2 (a17 1) q18) p978.2, wNm E q18, wLon E q19 p960.2]) [1, 2, 3, 4, 5, 6, 7, 8, 9, 10, 11, 12, 13, 14, 15, 16, 17, 0, 18, 19] 20 rfl (by decide) rfl ?_
  refine ww_iload C dL_law_987 1 rfl ?_
  refine ww_icmp_eq (tgt := 994) C dL_law_989 (by decide) (fun c_111 => ?_) (fun c_111 => ?_)
  · replace hf := ifT c_111 hf
    refine ww_iload C dL_law_994 1 rfl ?_
    refine ww_if_ne (tgt := 1018) C dL_law_996 (by decide) (fun c_112 => ?_) (fun c_112 => ?_)
    · replace hf := ifF c_112 hf
      refine ww_goto (tgt := 2229) C dL_law_1018 (by decide) ?_
      obtain ⟨x4_2229, e_x4_2229⟩ : ∃ y : Int32, y = x4 + 6 := ⟨_, rfl⟩
      replace hf := ltE e_x4_2229 hf
      refine ww_iinc (v := x4_2229) (lv' := [(4, .int x4_2229), (6, .int x6_981), (5, .int p960.1), (0, .ref bS), (1, .ref (a0 0)), (2, .ref (a17 0)), (3, .ref q19)]) C dL_law_2229 6 rfl (by rw [e_x4_2229]; rfl) (by decide) rfl ?_
      refine ww_goto (tgt := 23) C dL_law_2232 (by decide) ?_
      refine ww_sub C (lv' := [(0, .ref bS), (1, .ref (a0 0)), (2, .ref (a17 0)), (3, .ref q19), (4, .int x4_2229)]) [3, 4, 5, 6, 0] rfl ?_
      refine ww_widen (k := c + 3) (n := s + 18) (by show c + 2 + 0 + 0 ≤ c + 3; omega) (by show s + 12 + 0 + 0 ≤ s + 18; omega) ?_
      exact hk23 _ _ _ _ _ _ _ _ _ _ _ _ _ _ _ _ _ _ _ hf
    · replace hf := ifT c_112 hf
      refine ww_aload_n C dL_law_999 rfl 5 rfl ?_
      refine ww_iconst (v := 0) C dL_law_1000 (by decide) ?_
      obtain ⟨g_113, hf⟩ := gdE hf
      refine ww_lald C (f := p960.2) (w := wLon E q19 p960.2) 19 0 rfl q_Lon (inB_vp g_113) dL_law_1001 ?_
      refine ww_iload C dL_law_1002 0 rfl ?_
      refine ww_if_eq (tgt := 1011) C dL_law_1004 (by decide) (fun c_114 => ?_) (fun c_114 => ?_)
      · replace hf := ifT c_114 hf
        refine ww_lconst (v := 0) C dL_law_1011 (by decide) ?_
        refine ww_lcmp C dL_law_1012 ?_
        refine ww_if_eq (tgt := 1018) C dL_law_1013 (by decide) (fun c_115 => ?_) (fun c_115 => ?_)
        · replace hf := ifT c_115 hf
          refine ww_goto (tgt := 2229) C dL_law_1018 (by decide) ?_
          obtain ⟨x4_2229, e_x4_2229⟩ : ∃ y : Int32, y = x4 + 6 := ⟨_, rfl⟩
          replace hf := ltE e_x4_2229 hf
          refine ww_iinc (v := x4_2229) (lv' := [(4, .int x4_2229), (6, .int x6_981), (5, .int p960.1), (0, .ref bS), (1, .ref (a0 0)), (2, .ref (a17 0)), (3, .ref q19)]) C dL_law_2229 6 rfl (by rw [e_x4_2229]; rfl) (by decide) rfl ?_
          refine ww_goto (tgt := 23) C dL_law_2232 (by decide) ?_
          refine ww_sub C (lv' := [(0, .ref bS), (1, .ref (a0 0)), (2, .ref (a17 0)), (3, .ref q19), (4, .int x4_2229)]) [3, 4, 5, 6, 0] rfl ?_
          refine ww_widen (k := c + 3) (n := s + 18) (by show c + 2 + 0 + 0 ≤ c + 3; omega) (by show s + 12 + 0 + 0 ≤ s + 18; omega) ?_
          exact hk23 _ _ _ _ _ _ _ _ _ _ _ _ _ _ _ _ _ _ _ hf
        · replace hf := ifF c_115 hf
          refine ww_iconst (v := 0) C dL_law_1016 (by decide) ?_
          cases hf
      · replace hf := ifF c_114 hf
        refine ww_lconst (v := 1) C dL_law_1007 (by decide) ?_
        refine ww_goto (tgt := 1012) C dL_law_1008 (by decide) ?_
        refine ww_lcmp C dL_law_1012 ?_
        refine ww_if_eq (tgt := 1018) C dL_law_1013 (by decide) (fun c_116 => ?_) (fun c_116 => ?_)
        · replace hf := ifT c_116 hf
          refine ww_goto (tgt := 2229) C dL_law_1018 (by decide) ?_
          obtain ⟨x4_2229, e_x4_2229⟩ : ∃ y : Int32, y = x4 + 6 := ⟨_, rfl⟩
          replace hf := ltE e_x4_2229 hf
          refine ww_iinc (v := x4_2229) (lv' := [(4, .int x4_2229), (6, .int x6_981), (5, .int p960.1), (0, .ref bS), (1, .ref (a0 0)), (2, .ref (a17 0)), (3, .ref q19)]) C dL_law_2229 6 rfl (by rw [e_x4_2229]; rfl) (by decide) rfl ?_
          refine ww_goto (tgt := 23) C dL_law_2232 (by decide) ?_
          refine ww_sub C (lv' := [(0, .ref bS), (1, .ref (a0 0)), (2, .ref (a17 0)), (3, .ref q19), (4, .int x4_2229)]) [3, 4, 5, 6, 0] rfl ?_
          refine ww_widen (k := c + 3) (n := s + 18) (by show c + 2 + 0 + 0 ≤ c + 3; omega) (by show s + 12 + 0 + 0 ≤ s + 18; omega) ?_
          exact hk23 _ _ _ _ _ _ _ _ _ _ _ _ _ _ _ _ _ _ _ hf
        · replace hf := ifF c_116 hf
          refine ww_iconst (v := 0) C dL_law_1016 (by decide) ?_
          cases hf
  · replace hf := ifF c_111 hf
    refine ww_iconst (v := 0) C dL_law_992 (by decide) ?_
    cases hf

set_option maxHeartbeats 8000000 in
set_option maxRecDepth 100000 in
theorem w_L_law_1021 {E : Ex} {K : Kx} (C : Cx E K cL_law 9 (some .boolean) RL wsL_law rmL_law) {a0 : Nat → Nat} {a1 : Nat → Nat} {a2 : Nat → Nat} {a3 : Nat → Nat} {q4 : Nat} {ah4 : Nat → Nat → Nat} {a5 : Nat → Nat} {a6 : Nat → Nat} {a7 : Nat → Nat} {a8 : Nat → Nat} {a9 : Nat → Nat} {a10 : Nat → Nat} {a11 : Nat → Nat} {a12 : Nat → Nat} {a13 : Nat → Nat} {a14 : Nat → Nat} {q15 : Nat} {q16 : Nat} {a17 : Nat → Nat} {q18 : Nat} {q19 : Nat} {bS L : Nat} {xs : Nat → Int32} {Q : State → Prop} (T0 : TL E K) (S0 : SX bS L xs K) (HR : ∀ (c s : Nat) (lv : List (Nat × Value)) (gs : List va_W), c ≤ 601024 → s ≤ 7293034 → WW E K c s Q 2236 lv [.int 1] gs) {c s : Nat} (hc : c + 3 ≤ 601024) (hs : s + 18 ≤ 7293034) {k23 : Int32 → GWV → HouseV → HouseV → HistV → (Nat → HouseV) → HouseV → SightV → SightV → BestV → HouseV → SightV → IntrV → ToksV → QReadV → (Nat → Int32) → (Nat → Int32) → ModelV → (Nat → Int64) → Option Unit} (hk23 : ∀ (x4 : Int32) (v0 : GWV) (v1 : HouseV) (v2 : HouseV) (v3 : HistV) (v4 : Nat → HouseV) (v5 : HouseV) (v6 : SightV) (v7 : SightV) (v8 : BestV) (v9 : HouseV) (v10 : SightV) (v11 : IntrV) (v12 : ToksV) (v14 : QReadV) (v15 : Nat → Int32) (v16 : Nat → Int32) (v17 : ModelV) (v19 : Nat → Int64), k23 x4 v0 v1 v2 v3 v4 v5 v6 v7 v8 v9 v10 v11 v12 v14 v15 v16 v17 v19 = some () → WW E K (c + 3) (s + 18) Q 23 [(0, .ref bS), (1, .ref (a0 0)), (2, .ref (a17 0)), (3, .ref q19), (4, .int x4)] [] [wGW E a0 (rf10 (a1 0) (a2 0) (a3 0) (a6 0) (a7 0) (a8 0) (a11 0) (a12 0) (a13 0) (a14 0)) v0, wHouse E a1 v1, wHouse E a2 v2, wHist E a3 (rf2 q4 (a5 0)) v3, wHs E q4 ah4 v4, wHouse E a5 v5, wSight E a6 v6, wSight E a7 v7, wBest E a8 (rf2 (a9 0) (a10 0)) v8, wHouse E a9 v9, wSight E a10 v10, wIntr E a11 v11, wToks E a12 v12, wHRead E a13 (rf1 (a12 0)), wQRead E a14 (rf3 (a12 0) q15 q16) v14, wArr E q15 12 v15, wArr E q16 12 v16, wModel E a17 (rf2 (a17 1) q18) v17, wNm E q18, wLon E q19 v19]) {x4 : Int32} {v0 : GWV} {v1 : HouseV} {v2 : HouseV} {v3 : HistV} {v4 : Nat → HouseV} {v5 : HouseV} {v6 : SightV} {v7 : SightV} {v8 : BestV} {v9 : HouseV} {v10 : SightV} {v11 : IntrV} {v12 : ToksV} {v14 : QReadV} {v15 : Nat → Int32} {v16 : Nat → Int32} {v17 : ModelV} {v19 : Nat → Int64} (hf : Law_1021 L xs k23 x4 v0 v1 v2 v3 v4 v5 v6 v7 v8 v9 v10 v11 v12 v14 v15 v16 v17 v19 = some ()) : WW E K c s Q 1021 [(0, .ref bS), (1, .ref (a0 0)), (2, .ref (a17 0)), (3, .ref q19), (4, .int x4)] [] [wGW E a0 (rf10 (a1 0) (a2 0) (a3 0) (a6 0) (a7 0) (a8 0) (a11 0) (a12 0) (a13 0) (a14 0)) v0, wHouse E a1 v1, wHouse E a2 v2, wHist E a3 (rf2 q4 (a5 0)) v3, wHs E q4 ah4 v4, wHouse E a5 v5, wSight E a6 v6, wSight E a7 v7, wBest E a8 (rf2 (a9 0) (a10 0)) v8, wHouse E a9 v9, wSight E a10 v10, wIntr E a11 v11, wToks E a12 v12, wHRead E a13 (rf1 (a12 0)), wQRead E a14 (rf3 (a12 0) q15 q16) v14, wArr E q15 12 v15, wArr E q16 12 v16, wModel E a17 (rf2 (a17 1) q18) v17, wNm E q18, wLon E q19 v19] := by
  rw [Law_1021] at hf
  refine ww_aload_n C dL_law_1021 rfl 1 rfl ?_
  refine ww_aload_n C dL_law_1022 rfl 0 rfl ?_
  refine ww_iload C dL_law_1023 4 rfl ?_
  refine ww_iconst (v := 1) C dL_law_1025 (by decide) ?_
  refine ww_iadd C dL_law_1026 ?_
  obtain ⟨g_102, hf⟩ := gdE hf
  refine ww_sld C S0 (inB_vp g_102) dL_law_1027 ?_
  refine ww_aload_n C dL_law_1028 rfl 0 rfl ?_
  refine ww_iload C dL_law_1029 4 rfl ?_
  refine ww_iconst (v := 2) C dL_law_1031 (by decide) ?_
  refine ww_iadd C dL_law_1032 ?_
  obtain ⟨g_103, hf⟩ := gdE hf
  refine ww_sld C S0 (inB_vp g_103) dL_law_1033 ?_
  refine ww_aload_n C dL_law_1034 rfl 3 rfl ?_
  obtain ⟨p1035, hp1035, hf⟩ := bdE hf
  refine ww_callSL C T0 (As := [.ref (a0 0), .int (xs (Int32.toNatClampNeg (x4 + 1))), .int (xs (Int32.toNatClampNeg (x4 + 2))), .ref q19]) (st := []) (gr := [wHouse E a2 v2, wHist E a3 (rf2 q4 (a5 0)) v3, wHs E q4 ah4 v4, wHouse E a5 v5, wSight E a6 v6, wSight E a7 v7, wBest E a8 (rf2 (a9 0) (a10 0)) v8, wHouse E a9 v9, wSight E a10 v10, wIntr E a11 v11, wToks E a12 v12, wHRead E a13 (rf1 (a12 0)), wQRead E a14 (rf3 (a12 0) q15 q16) v14, wArr E q15 12 v15, wArr E q16 12 v16, wModel E a17 (rf2 (a17 1) q18) v17, wNm E q18]) (c_L_distance (E := E) (a0 := a0) (h0_1 := a2 0) (h0_2 := a3 0) (h0_3 := a6 0) (h0_4 := a7 0) (h0_5 := a8 0) (h0_6 := a11 0) (h0_7 := a12 0) (h0_8 := a13 0) (h0_9 := a14 0) (a1 := a1) (q2 := q19) hp1035) gL_law_L_distance rfl ysk_L_distance ⟨by decide, by decide⟩ ⟨by show c + 2 ≤ 601024; omega, by show s + 12 ≤ 7293034; omega⟩ [0, 1, 19] [2, 3, 4, 5, 6, 7, 8, 9, 10, 11, 12, 13, 14, 15, 16, 17, 18] 20 rfl (by decide) rfl rfl (Nat.le_of_ble_eq_true rfl) dL_law_1035 ?_
  rintro _ _ ⟨rfl, rfl⟩
  refine ww_perm (gs' := [wGW E a0 (rf10 (a1 0) (a2 0) (a3 0) (a6 0) (a7 0) (a8 0) (a11 0) (a12 0) (a13 0) (a14 0)) v0, wHouse E a1 v1, wHouse E a2 v2, wHist E a3 (rf2 q4 (a5 0)) v3, wHs E q4 ah4 v4, wHouse E a5 v5, wSight E a6 v6, wSight E a7 v7, wBest E a8 (rf2 (a9 0) (a10 0)) v8, wHouse E a9 v9, wSight E a10 v10, wIntr E a11 v11, wToks E a12 v12, wHRead E a13 (rf1 (a12 0)), wQRead E a14 (rf3 (a12 0) q15 q16) v14, wArr E q15 12 v15, wArr E q16 12 v16, wModel E a17 (rf2 (a17 1) q18) v17, wNm E q18, wLon E q19 p1035.2]) [0, 1, 3, 4, 5, 6, 7, 8, 9, 10, 11, 12, 13, 14, 15, 16, 17, 18, 19, 2] 20 rfl (by decide) rfl ?_
  refine ww_istore (lv' := [(5, .int p1035.1), (0, .ref bS), (1, .ref (a0 0)), (2, .ref (a17 0)), (3, .ref q19), (4, .int x4)]) C dL_law_1038 (by decide) rfl ?_
  refine ww_aload_n C dL_law_1040 rfl 3 rfl ?_
  refine ww_aload_n C dL_law_1041 rfl 1 rfl ?_
  refine ww_iload C dL_law_1042 5 rfl ?_
  refine ww_iconst (v := 1) C dL_law_1044 (by decide) ?_
  refine ww_iadd C dL_law_1045 ?_
  refine ww_sld C S0 (inB_vp g_102) dL_law_1046 ?_
  refine ww_aload_n C dL_law_1047 rfl 1 rfl ?_
  refine ww_iload C dL_law_1048 5 rfl ?_
  refine ww_iconst (v := 2) C dL_law_1050 (by decide) ?_
  refine ww_iadd C dL_law_1051 ?_
  refine ww_sld C S0 (inB_vp g_103) dL_law_1052 ?_
  obtain ⟨p1053, hp1053, hf⟩ := bdE hf
  refine ww_callV C (As := [.int (xs (Int32.toNatClampNeg (x4 + 1))), .int (xs (Int32.toNatClampNeg (x4 + 2)))]) (st := []) (gr := [wGW E a0 (rf10 (a1 0) (a2 0) (a3 0) (a6 0) (a7 0) (a8 0) (a11 0) (a12 0) (a13 0) (a14 0)) v0, wHouse E a1 v1, wHouse E a2 v2, wHist E a3 (rf2 q4 (a5 0)) v3, wHs E q4 ah4 v4, wHouse E a5 v5, wSight E a6 v6, wSight E a7 v7, wBest E a8 (rf2 (a9 0) (a10 0)) v8, wHouse E a9 v9, wSight E a10 v10, wIntr E a11 v11, wToks E a12 v12, wHRead E a13 (rf1 (a12 0)), wQRead E a14 (rf3 (a12 0) q15 q16) v14, wArr E q15 12 v15, wArr E q16 12 v16, wNm E q18, wLon E q19 p1035.2]) (c_X9_distance (E := E) (a0 := a17) (h0_1 := q18) hp1053) gL_law_X9_distance rfl yk_X9_distance ⟨by decide, by decide⟩ ⟨by show c + 2 + 0 ≤ 601024; omega, by show s + 12 + 0 ≤ 7293034; omega⟩ clOK9 0 0 rfl rfl [17] [0, 1, 2, 3, 4, 5, 6, 7, 8, 9, 10, 11, 12, 13, 14, 15, 16, 18, 19] 20 rfl (by decide) rfl rfl (Nat.le_of_ble_eq_true rfl) dL_law_1053 ?_
  rintro _ _ ⟨rfl, rfl⟩
  refine ww_perm (gs' := [wGW E a0 (rf10 (a1 0) (a2 0) (a3 0) (a6 0) (a7 0) (a8 0) (a11 0) (a12 0) (a13 0) (a14 0)) v0, wHouse E a1 v1, wHouse E a2 v2, wHist E a3 (rf2 q4 (a5 0)) v3, wHs E q4 ah4 v4, wHouse E a5 v5, wSight E a6 v6, wSight E a7 v7, wBest E a8 (rf2 (a9 0) (a10 0)) v8, wHouse E a9 v9, wSight E a10 v10, wIntr E a11 v11, wToks E a12 v12, wHRead E a13 (rf1 (a12 0)), wQRead E a14 (rf3 (a12 0) q15 q16) v14, wArr E q15 12 v15, wArr E q16 12 v16, wModel E a17 (rf2 (a17 1) q18) p1053.2, wNm E q18, wLon E q19 p1035.2]) [1, 2, 3, 4, 5, 6, 7, 8, 9, 10, 11, 12, 13, 14, 15, 16, 17, 0, 18, 19] 20 rfl (by decide) rfl ?_
  refine ww_istore (lv' := [(6, .int p1053.1), (5, .int p1035.1), (0, .ref bS), (1, .ref (a0 0)), (2, .ref (a17 0)), (3, .ref q19), (4, .int x4)]) C dL_law_1056 (by decide) rfl ?_
  refine ww_aload_n C dL_law_1058 rfl 4 rfl ?_
  obtain ⟨p1059, hp1059, hf⟩ := bdE hf
  refine ww_callV C (As := []) (st := []) (gr := [wGW E a0 (rf10 (a1 0) (a2 0) (a3 0) (a6 0) (a7 0) (a8 0) (a11 0) (a12 0) (a13 0) (a14 0)) v0, wHouse E a1 v1, wHouse E a2 v2, wHist E a3 (rf2 q4 (a5 0)) v3, wHs E q4 ah4 v4, wHouse E a5 v5, wSight E a6 v6, wSight E a7 v7, wBest E a8 (rf2 (a9 0) (a10 0)) v8, wHouse E a9 v9, wSight E a10 v10, wIntr E a11 v11, wToks E a12 v12, wHRead E a13 (rf1 (a12 0)), wQRead E a14 (rf3 (a12 0) q15 q16) v14, wArr E q15 12 v15, wArr E q16 12 v16, wNm E q18, wLon E q19 p1035.2]) (c_X9_thrown (E := E) (a0 := a17) (h0_0 := a17 1) (h0_1 := q18) hp1059) gL_law_X9_thrown rfl yk_X9_thrown ⟨by decide, by decide⟩ ⟨by show c + 2 + 0 + 0 ≤ 601024; omega, by show s + 12 + 0 + 0 ≤ 7293034; omega⟩ clOK9 0 0 rfl rfl [17] [0, 1, 2, 3, 4, 5, 6, 7, 8, 9, 10, 11, 12, 13, 14, 15, 16, 18, 19] 20 rfl (by decide) rfl rfl (Nat.le_of_ble_eq_true rfl) dL_law_1059 ?_
  rintro _ _ ⟨rfl, rfl⟩
  refine ww_perm (gs' := [wGW E a0 (rf10 (a1 0) (a2 0) (a3 0) (a6 0) (a7 0) (a8 0) (a11 0) (a12 0) (a13 0) (a14 0)) v0, wHouse E a1 v1, wHouse E a2 v2, wHist E a3 (rf2 q4 (a5 0)) v3, wHs E q4 ah4 v4, wHouse E a5 v5, wSight E a6 v6, wSight E a7 v7, wBest E a8 (rf2 (a9 0) (a10 0)) v8, wHouse E a9 v9, wSight E a10 v10, wIntr E a11 v11, wToks E a12 v12, wHRead E a13 (rf1 (a12 0)), wQRead E a14 (rf3 (a12 0) q15 q16) v14, wArr E q15 12 v15, wArr E q16 12 v16, wModel E a17 (rf2 (a17 1) q18) p1053.2, wNm E q18, wLon E q19 p1035.2]) [1, 2, 3, 4, 5, 6, 7, 8, 9, 10, 11, 12, 13, 14, 15, 16, 17, 0, 18, 19] 20 rfl (by decide) rfl ?_
  refine ww_iload C dL_law_1062 1 rfl ?_
  refine ww_icmp_eq (tgt := 1069) C dL_law_1064 (by decide) (fun c_104 => ?_) (fun c_104 => ?_)
  · replace hf := ifT c_104 hf
    refine ww_iload C dL_law_1069 1 rfl ?_
    refine ww_if_ne (tgt := 1086) C dL_law_1071 (by decide) (fun c_105 => ?_) (fun c_105 => ?_)
    · replace hf := ifF c_105 hf
      refine ww_goto (tgt := 2229) C dL_law_1086 (by decide) ?_
      obtain ⟨x4_2229, e_x4_2229⟩ : ∃ y : Int32, y = x4 + 6 := ⟨_, rfl⟩
      replace hf := ltE e_x4_2229 hf
      refine ww_iinc (v := x4_2229) (lv' := [(4, .int x4_2229), (6, .int p1053.1), (5, .int p1035.1), (0, .ref bS), (1, .ref (a0 0)), (2, .ref (a17 0)), (3, .ref q19)]) C dL_law_2229 6 rfl (by rw [e_x4_2229]; rfl) (by decide) rfl ?_
      refine ww_goto (tgt := 23) C dL_law_2232 (by decide) ?_
      refine ww_sub C (lv' := [(0, .ref bS), (1, .ref (a0 0)), (2, .ref (a17 0)), (3, .ref q19), (4, .int x4_2229)]) [3, 4, 5, 6, 0] rfl ?_
      refine ww_widen (k := c + 3) (n := s + 18) (by show c + 2 + 0 + 0 ≤ c + 3; omega) (by show s + 12 + 0 + 0 ≤ s + 18; omega) ?_
      exact hk23 _ _ _ _ _ _ _ _ _ _ _ _ _ _ _ _ _ _ _ hf
    · replace hf := ifT c_105 hf
      refine ww_aload_n C dL_law_1074 rfl 5 rfl ?_
      refine ww_iconst (v := 0) C dL_law_1075 (by decide) ?_
      obtain ⟨g_106, hf⟩ := gdE hf
      refine ww_lald C (f := p1035.2) (w := wLon E q19 p1035.2) 19 0 rfl q_Lon (inB_vp g_106) dL_law_1076 ?_
      refine ww_iload C dL_law_1077 0 rfl ?_
      refine ww_i2l C dL_law_1079 ?_
      refine ww_lcmp C dL_law_1080 ?_
      refine ww_if_eq (tgt := 1086) C dL_law_1081 (by decide) (fun c_107 => ?_) (fun c_107 => ?_)
      · replace hf := ifT c_107 hf
        refine ww_goto (tgt := 2229) C dL_law_1086 (by decide) ?_
        obtain ⟨x4_2229, e_x4_2229⟩ : ∃ y : Int32, y = x4 + 6 := ⟨_, rfl⟩
        replace hf := ltE e_x4_2229 hf
        refine ww_iinc (v := x4_2229) (lv' := [(4, .int x4_2229), (6, .int p1053.1), (5, .int p1035.1), (0, .ref bS), (1, .ref (a0 0)), (2, .ref (a17 0)), (3, .ref q19)]) C dL_law_2229 6 rfl (by rw [e_x4_2229]; rfl) (by decide) rfl ?_
        refine ww_goto (tgt := 23) C dL_law_2232 (by decide) ?_
        refine ww_sub C (lv' := [(0, .ref bS), (1, .ref (a0 0)), (2, .ref (a17 0)), (3, .ref q19), (4, .int x4_2229)]) [3, 4, 5, 6, 0] rfl ?_
        refine ww_widen (k := c + 3) (n := s + 18) (by show c + 2 + 0 + 0 ≤ c + 3; omega) (by show s + 12 + 0 + 0 ≤ s + 18; omega) ?_
        exact hk23 _ _ _ _ _ _ _ _ _ _ _ _ _ _ _ _ _ _ _ hf
      · replace hf := ifF c_107 hf
        refine ww_iconst (v := 0) C dL_law_1084 (by decide) ?_
        cases hf
  · replace hf := ifF c_104 hf
    refine ww_iconst (v := 0) C dL_law_1067 (by decide) ?_
    cases hf

set_option maxHeartbeats 8000000 in
set_option maxRecDepth 100000 in
theorem w_L_law_1089 {E : Ex} {K : Kx} (C : Cx E K cL_law 9 (some .boolean) RL wsL_law rmL_law) {a0 : Nat → Nat} {a1 : Nat → Nat} {a2 : Nat → Nat} {a3 : Nat → Nat} {q4 : Nat} {ah4 : Nat → Nat → Nat} {a5 : Nat → Nat} {a6 : Nat → Nat} {a7 : Nat → Nat} {a8 : Nat → Nat} {a9 : Nat → Nat} {a10 : Nat → Nat} {a11 : Nat → Nat} {a12 : Nat → Nat} {a13 : Nat → Nat} {a14 : Nat → Nat} {q15 : Nat} {q16 : Nat} {a17 : Nat → Nat} {q18 : Nat} {q19 : Nat} {bS L : Nat} {xs : Nat → Int32} {Q : State → Prop} (T0 : TL E K) (S0 : SX bS L xs K) (HR : ∀ (c s : Nat) (lv : List (Nat × Value)) (gs : List va_W), c ≤ 601024 → s ≤ 7293034 → WW E K c s Q 2236 lv [.int 1] gs) {c s : Nat} (hc : c + 3 ≤ 601024) (hs : s + 18 ≤ 7293034) {k23 : Int32 → GWV → HouseV → HouseV → HistV → (Nat → HouseV) → HouseV → SightV → SightV → BestV → HouseV → SightV → IntrV → ToksV → QReadV → (Nat → Int32) → (Nat → Int32) → ModelV → (Nat → Int64) → Option Unit} (hk23 : ∀ (x4 : Int32) (v0 : GWV) (v1 : HouseV) (v2 : HouseV) (v3 : HistV) (v4 : Nat → HouseV) (v5 : HouseV) (v6 : SightV) (v7 : SightV) (v8 : BestV) (v9 : HouseV) (v10 : SightV) (v11 : IntrV) (v12 : ToksV) (v14 : QReadV) (v15 : Nat → Int32) (v16 : Nat → Int32) (v17 : ModelV) (v19 : Nat → Int64), k23 x4 v0 v1 v2 v3 v4 v5 v6 v7 v8 v9 v10 v11 v12 v14 v15 v16 v17 v19 = some () → WW E K (c + 3) (s + 18) Q 23 [(0, .ref bS), (1, .ref (a0 0)), (2, .ref (a17 0)), (3, .ref q19), (4, .int x4)] [] [wGW E a0 (rf10 (a1 0) (a2 0) (a3 0) (a6 0) (a7 0) (a8 0) (a11 0) (a12 0) (a13 0) (a14 0)) v0, wHouse E a1 v1, wHouse E a2 v2, wHist E a3 (rf2 q4 (a5 0)) v3, wHs E q4 ah4 v4, wHouse E a5 v5, wSight E a6 v6, wSight E a7 v7, wBest E a8 (rf2 (a9 0) (a10 0)) v8, wHouse E a9 v9, wSight E a10 v10, wIntr E a11 v11, wToks E a12 v12, wHRead E a13 (rf1 (a12 0)), wQRead E a14 (rf3 (a12 0) q15 q16) v14, wArr E q15 12 v15, wArr E q16 12 v16, wModel E a17 (rf2 (a17 1) q18) v17, wNm E q18, wLon E q19 v19]) {x4 : Int32} {v0 : GWV} {v1 : HouseV} {v2 : HouseV} {v3 : HistV} {v4 : Nat → HouseV} {v5 : HouseV} {v6 : SightV} {v7 : SightV} {v8 : BestV} {v9 : HouseV} {v10 : SightV} {v11 : IntrV} {v12 : ToksV} {v14 : QReadV} {v15 : Nat → Int32} {v16 : Nat → Int32} {v17 : ModelV} {v19 : Nat → Int64} (hf : Law_1089 L xs k23 x4 v0 v1 v2 v3 v4 v5 v6 v7 v8 v9 v10 v11 v12 v14 v15 v16 v17 v19 = some ()) : WW E K c s Q 1089 [(0, .ref bS), (1, .ref (a0 0)), (2, .ref (a17 0)), (3, .ref q19), (4, .int x4)] [] [wGW E a0 (rf10 (a1 0) (a2 0) (a3 0) (a6 0) (a7 0) (a8 0) (a11 0) (a12 0) (a13 0) (a14 0)) v0, wHouse E a1 v1, wHouse E a2 v2, wHist E a3 (rf2 q4 (a5 0)) v3, wHs E q4 ah4 v4, wHouse E a5 v5, wSight E a6 v6, wSight E a7 v7, wBest E a8 (rf2 (a9 0) (a10 0)) v8, wHouse E a9 v9, wSight E a10 v10, wIntr E a11 v11, wToks E a12 v12, wHRead E a13 (rf1 (a12 0)), wQRead E a14 (rf3 (a12 0) q15 q16) v14, wArr E q15 12 v15, wArr E q16 12 v16, wModel E a17 (rf2 (a17 1) q18) v17, wNm E q18, wLon E q19 v19] := by
  rw [Law_1089] at hf
  refine ww_aload_n C dL_law_1089 rfl 1 rfl ?_
  refine ww_aload_n C dL_law_1090 rfl 0 rfl ?_
  refine ww_iload C dL_law_1091 4 rfl ?_
  refine ww_iconst (v := 1) C dL_law_1093 (by decide) ?_
  refine ww_iadd C dL_law_1094 ?_
  obtain ⟨g_96, hf⟩ := gdE hf
  refine ww_sld C S0 (inB_vp g_96) dL_law_1095 ?_
  refine ww_aload_n C dL_law_1096 rfl 0 rfl ?_
  refine ww_iload C dL_law_1097 4 rfl ?_
  refine ww_iconst (v := 2) C dL_law_1099 (by decide) ?_
  refine ww_iadd C dL_law_1100 ?_
  obtain ⟨g_97, hf⟩ := gdE hf
  refine ww_sld C S0 (inB_vp g_97) dL_law_1101 ?_
  refine ww_aload_n C dL_law_1102 rfl 3 rfl ?_
  obtain ⟨p1103, hp1103, hf⟩ := bdE hf
  refine ww_callSL C T0 (As := [.ref (a0 0), .int (xs (Int32.toNatClampNeg (x4 + 1))), .int (xs (Int32.toNatClampNeg (x4 + 2))), .ref q19]) (st := []) (gr := [wHouse E a2 v2, wHist E a3 (rf2 q4 (a5 0)) v3, wHs E q4 ah4 v4, wHouse E a5 v5, wSight E a6 v6, wSight E a7 v7, wBest E a8 (rf2 (a9 0) (a10 0)) v8, wHouse E a9 v9, wSight E a10 v10, wIntr E a11 v11, wToks E a12 v12, wHRead E a13 (rf1 (a12 0)), wQRead E a14 (rf3 (a12 0) q15 q16) v14, wArr E q15 12 v15, wArr E q16 12 v16, wModel E a17 (rf2 (a17 1) q18) v17, wNm E q18]) (c_L_meetings (E := E) (a0 := a0) (h0_1 := a2 0) (h0_2 := a3 0) (h0_3 := a6 0) (h0_4 := a7 0) (h0_5 := a8 0) (h0_6 := a11 0) (h0_7 := a12 0) (h0_8 := a13 0) (h0_9 := a14 0) (a1 := a1) (q2 := q19) hp1103) gL_law_L_meetings rfl ysk_L_meetings ⟨by decide, by decide⟩ ⟨by show c + 2 ≤ 601024; omega, by show s + 12 ≤ 7293034; omega⟩ [0, 1, 19] [2, 3, 4, 5, 6, 7, 8, 9, 10, 11, 12, 13, 14, 15, 16, 17, 18] 20 rfl (by decide) rfl rfl (Nat.le_of_ble_eq_true rfl) dL_law_1103 ?_
  rintro _ _ ⟨rfl, rfl⟩
  refine ww_perm (gs' := [wGW E a0 (rf10 (a1 0) (a2 0) (a3 0) (a6 0) (a7 0) (a8 0) (a11 0) (a12 0) (a13 0) (a14 0)) v0, wHouse E a1 v1, wHouse E a2 v2, wHist E a3 (rf2 q4 (a5 0)) v3, wHs E q4 ah4 v4, wHouse E a5 v5, wSight E a6 v6, wSight E a7 v7, wBest E a8 (rf2 (a9 0) (a10 0)) v8, wHouse E a9 v9, wSight E a10 v10, wIntr E a11 v11, wToks E a12 v12, wHRead E a13 (rf1 (a12 0)), wQRead E a14 (rf3 (a12 0) q15 q16) v14, wArr E q15 12 v15, wArr E q16 12 v16, wModel E a17 (rf2 (a17 1) q18) v17, wNm E q18, wLon E q19 p1103.2]) [0, 1, 3, 4, 5, 6, 7, 8, 9, 10, 11, 12, 13, 14, 15, 16, 17, 18, 19, 2] 20 rfl (by decide) rfl ?_
  refine ww_istore (lv' := [(5, .int p1103.1), (0, .ref bS), (1, .ref (a0 0)), (2, .ref (a17 0)), (3, .ref q19), (4, .int x4)]) C dL_law_1106 (by decide) rfl ?_
  refine ww_aload_n C dL_law_1108 rfl 3 rfl ?_
  refine ww_aload_n C dL_law_1109 rfl 1 rfl ?_
  refine ww_iload C dL_law_1110 5 rfl ?_
  refine ww_iconst (v := 1) C dL_law_1112 (by decide) ?_
  refine ww_iadd C dL_law_1113 ?_
  refine ww_sld C S0 (inB_vp g_96) dL_law_1114 ?_
  refine ww_aload_n C dL_law_1115 rfl 1 rfl ?_
  refine ww_iload C dL_law_1116 5 rfl ?_
  refine ww_iconst (v := 2) C dL_law_1118 (by decide) ?_
  refine ww_iadd C dL_law_1119 ?_
  refine ww_sld C S0 (inB_vp g_97) dL_law_1120 ?_
  obtain ⟨p1121, hp1121, hf⟩ := bdE hf
  refine ww_callV C (As := [.int (xs (Int32.toNatClampNeg (x4 + 1))), .int (xs (Int32.toNatClampNeg (x4 + 2)))]) (st := []) (gr := [wGW E a0 (rf10 (a1 0) (a2 0) (a3 0) (a6 0) (a7 0) (a8 0) (a11 0) (a12 0) (a13 0) (a14 0)) v0, wHouse E a1 v1, wHouse E a2 v2, wHist E a3 (rf2 q4 (a5 0)) v3, wHs E q4 ah4 v4, wHouse E a5 v5, wSight E a6 v6, wSight E a7 v7, wBest E a8 (rf2 (a9 0) (a10 0)) v8, wHouse E a9 v9, wSight E a10 v10, wIntr E a11 v11, wToks E a12 v12, wHRead E a13 (rf1 (a12 0)), wQRead E a14 (rf3 (a12 0) q15 q16) v14, wArr E q15 12 v15, wArr E q16 12 v16, wNm E q18, wLon E q19 p1103.2]) (c_X9_meetings (E := E) (a0 := a17) (h0_1 := q18) hp1121) gL_law_X9_meetings rfl yk_X9_meetings ⟨by decide, by decide⟩ ⟨by show c + 2 + 0 ≤ 601024; omega, by show s + 12 + 0 ≤ 7293034; omega⟩ clOK9 0 0 rfl rfl [17] [0, 1, 2, 3, 4, 5, 6, 7, 8, 9, 10, 11, 12, 13, 14, 15, 16, 18, 19] 20 rfl (by decide) rfl rfl (Nat.le_of_ble_eq_true rfl) dL_law_1121 ?_
  rintro _ _ ⟨rfl, rfl⟩
  refine ww_perm (gs' := [wGW E a0 (rf10 (a1 0) (a2 0) (a3 0) (a6 0) (a7 0) (a8 0) (a11 0) (a12 0) (a13 0) (a14 0)) v0, wHouse E a1 v1, wHouse E a2 v2, wHist E a3 (rf2 q4 (a5 0)) v3, wHs E q4 ah4 v4, wHouse E a5 v5, wSight E a6 v6, wSight E a7 v7, wBest E a8 (rf2 (a9 0) (a10 0)) v8, wHouse E a9 v9, wSight E a10 v10, wIntr E a11 v11, wToks E a12 v12, wHRead E a13 (rf1 (a12 0)), wQRead E a14 (rf3 (a12 0) q15 q16) v14, wArr E q15 12 v15, wArr E q16 12 v16, wModel E a17 (rf2 (a17 1) q18) p1121.2, wNm E q18, wLon E q19 p1103.2]) [1, 2, 3, 4, 5, 6, 7, 8, 9, 10, 11, 12, 13, 14, 15, 16, 17, 0, 18, 19] 20 rfl (by decide) rfl ?_
  refine ww_istore (lv' := [(6, .int p1121.1), (5, .int p1103.1), (0, .ref bS), (1, .ref (a0 0)), (2, .ref (a17 0)), (3, .ref q19), (4, .int x4)]) C dL_law_1124 (by decide) rfl ?_
  refine ww_aload_n C dL_law_1126 rfl 4 rfl ?_
  obtain ⟨p1127, hp1127, hf⟩ := bdE hf
  refine ww_callV C (As := []) (st := []) (gr := [wGW E a0 (rf10 (a1 0) (a2 0) (a3 0) (a6 0) (a7 0) (a8 0) (a11 0) (a12 0) (a13 0) (a14 0)) v0, wHouse E a1 v1, wHouse E a2 v2, wHist E a3 (rf2 q4 (a5 0)) v3, wHs E q4 ah4 v4, wHouse E a5 v5, wSight E a6 v6, wSight E a7 v7, wBest E a8 (rf2 (a9 0) (a10 0)) v8, wHouse E a9 v9, wSight E a10 v10, wIntr E a11 v11, wToks E a12 v12, wHRead E a13 (rf1 (a12 0)), wQRead E a14 (rf3 (a12 0) q15 q16) v14, wArr E q15 12 v15, wArr E q16 12 v16, wNm E q18, wLon E q19 p1103.2]) (c_X9_thrown (E := E) (a0 := a17) (h0_0 := a17 1) (h0_1 := q18) hp1127) gL_law_X9_thrown rfl yk_X9_thrown ⟨by decide, by decide⟩ ⟨by show c + 2 + 0 + 0 ≤ 601024; omega, by show s + 12 + 0 + 0 ≤ 7293034; omega⟩ clOK9 0 0 rfl rfl [17] [0, 1, 2, 3, 4, 5, 6, 7, 8, 9, 10, 11, 12, 13, 14, 15, 16, 18, 19] 20 rfl (by decide) rfl rfl (Nat.le_of_ble_eq_true rfl) dL_law_1127 ?_
  rintro _ _ ⟨rfl, rfl⟩
  refine ww_perm (gs' := [wGW E a0 (rf10 (a1 0) (a2 0) (a3 0) (a6 0) (a7 0) (a8 0) (a11 0) (a12 0) (a13 0) (a14 0)) v0, wHouse E a1 v1, wHouse E a2 v2, wHist E a3 (rf2 q4 (a5 0)) v3, wHs E q4 ah4 v4, wHouse E a5 v5, wSight E a6 v6, wSight E a7 v7, wBest E a8 (rf2 (a9 0) (a10 0)) v8, wHouse E a9 v9, wSight E a10 v10, wIntr E a11 v11, wToks E a12 v12, wHRead E a13 (rf1 (a12 0)), wQRead E a14 (rf3 (a12 0) q15 q16) v14, wArr E q15 12 v15, wArr E q16 12 v16, wModel E a17 (rf2 (a17 1) q18) p1121.2, wNm E q18, wLon E q19 p1103.2]) [1, 2, 3, 4, 5, 6, 7, 8, 9, 10, 11, 12, 13, 14, 15, 16, 17, 0, 18, 19] 20 rfl (by decide) rfl ?_
  refine ww_iload C dL_law_1130 1 rfl ?_
  refine ww_icmp_eq (tgt := 1137) C dL_law_1132 (by decide) (fun c_98 => ?_) (fun c_98 => ?_)
  · replace hf := ifT c_98 hf
    refine ww_iload C dL_law_1137 1 rfl ?_
    refine ww_if_ne (tgt := 1154) C dL_law_1139 (by decide) (fun c_99 => ?_) (fun c_99 => ?_)
    · replace hf := ifF c_99 hf
      refine ww_goto (tgt := 2229) C dL_law_1154 (by decide) ?_
      obtain ⟨x4_2229, e_x4_2229⟩ : ∃ y : Int32, y = x4 + 6 := ⟨_, rfl⟩
      replace hf := ltE e_x4_2229 hf
      refine ww_iinc (v := x4_2229) (lv' := [(4, .int x4_2229), (6, .int p1121.1), (5, .int p1103.1), (0, .ref bS), (1, .ref (a0 0)), (2, .ref (a17 0)), (3, .ref q19)]) C dL_law_2229 6 rfl (by rw [e_x4_2229]; rfl) (by decide) rfl ?_
      refine ww_goto (tgt := 23) C dL_law_2232 (by decide) ?_
      refine ww_sub C (lv' := [(0, .ref bS), (1, .ref (a0 0)), (2, .ref (a17 0)), (3, .ref q19), (4, .int x4_2229)]) [3, 4, 5, 6, 0] rfl ?_
      refine ww_widen (k := c + 3) (n := s + 18) (by show c + 2 + 0 + 0 ≤ c + 3; omega) (by show s + 12 + 0 + 0 ≤ s + 18; omega) ?_
      exact hk23 _ _ _ _ _ _ _ _ _ _ _ _ _ _ _ _ _ _ _ hf
    · replace hf := ifT c_99 hf
      refine ww_aload_n C dL_law_1142 rfl 5 rfl ?_
      refine ww_iconst (v := 0) C dL_law_1143 (by decide) ?_
      obtain ⟨g_100, hf⟩ := gdE hf
      refine ww_lald C (f := p1103.2) (w := wLon E q19 p1103.2) 19 0 rfl q_Lon (inB_vp g_100) dL_law_1144 ?_
      refine ww_iload C dL_law_1145 0 rfl ?_
      refine ww_i2l C dL_law_1147 ?_
      refine ww_lcmp C dL_law_1148 ?_
      refine ww_if_eq (tgt := 1154) C dL_law_1149 (by decide) (fun c_101 => ?_) (fun c_101 => ?_)
      · replace hf := ifT c_101 hf
        refine ww_goto (tgt := 2229) C dL_law_1154 (by decide) ?_
        obtain ⟨x4_2229, e_x4_2229⟩ : ∃ y : Int32, y = x4 + 6 := ⟨_, rfl⟩
        replace hf := ltE e_x4_2229 hf
        refine ww_iinc (v := x4_2229) (lv' := [(4, .int x4_2229), (6, .int p1121.1), (5, .int p1103.1), (0, .ref bS), (1, .ref (a0 0)), (2, .ref (a17 0)), (3, .ref q19)]) C dL_law_2229 6 rfl (by rw [e_x4_2229]; rfl) (by decide) rfl ?_
        refine ww_goto (tgt := 23) C dL_law_2232 (by decide) ?_
        refine ww_sub C (lv' := [(0, .ref bS), (1, .ref (a0 0)), (2, .ref (a17 0)), (3, .ref q19), (4, .int x4_2229)]) [3, 4, 5, 6, 0] rfl ?_
        refine ww_widen (k := c + 3) (n := s + 18) (by show c + 2 + 0 + 0 ≤ c + 3; omega) (by show s + 12 + 0 + 0 ≤ s + 18; omega) ?_
        exact hk23 _ _ _ _ _ _ _ _ _ _ _ _ _ _ _ _ _ _ _ hf
      · replace hf := ifF c_101 hf
        refine ww_iconst (v := 0) C dL_law_1152 (by decide) ?_
        cases hf
  · replace hf := ifF c_98 hf
    refine ww_iconst (v := 0) C dL_law_1135 (by decide) ?_
    cases hf

set_option maxHeartbeats 8000000 in
set_option maxRecDepth 100000 in
theorem w_L_law_1157 {E : Ex} {K : Kx} (C : Cx E K cL_law 9 (some .boolean) RL wsL_law rmL_law) {a0 : Nat → Nat} {a1 : Nat → Nat} {a2 : Nat → Nat} {a3 : Nat → Nat} {q4 : Nat} {ah4 : Nat → Nat → Nat} {a5 : Nat → Nat} {a6 : Nat → Nat} {a7 : Nat → Nat} {a8 : Nat → Nat} {a9 : Nat → Nat} {a10 : Nat → Nat} {a11 : Nat → Nat} {a12 : Nat → Nat} {a13 : Nat → Nat} {a14 : Nat → Nat} {q15 : Nat} {q16 : Nat} {a17 : Nat → Nat} {q18 : Nat} {q19 : Nat} {bS L : Nat} {xs : Nat → Int32} {Q : State → Prop} (T0 : TL E K) (S0 : SX bS L xs K) (HR : ∀ (c s : Nat) (lv : List (Nat × Value)) (gs : List va_W), c ≤ 601024 → s ≤ 7293034 → WW E K c s Q 2236 lv [.int 1] gs) {c s : Nat} (hc : c + 3 ≤ 601024) (hs : s + 18 ≤ 7293034) {k23 : Int32 → GWV → HouseV → HouseV → HistV → (Nat → HouseV) → HouseV → SightV → SightV → BestV → HouseV → SightV → IntrV → ToksV → QReadV → (Nat → Int32) → (Nat → Int32) → ModelV → (Nat → Int64) → Option Unit} (hk23 : ∀ (x4 : Int32) (v0 : GWV) (v1 : HouseV) (v2 : HouseV) (v3 : HistV) (v4 : Nat → HouseV) (v5 : HouseV) (v6 : SightV) (v7 : SightV) (v8 : BestV) (v9 : HouseV) (v10 : SightV) (v11 : IntrV) (v12 : ToksV) (v14 : QReadV) (v15 : Nat → Int32) (v16 : Nat → Int32) (v17 : ModelV) (v19 : Nat → Int64), k23 x4 v0 v1 v2 v3 v4 v5 v6 v7 v8 v9 v10 v11 v12 v14 v15 v16 v17 v19 = some () → WW E K (c + 3) (s + 18) Q 23 [(0, .ref bS), (1, .ref (a0 0)), (2, .ref (a17 0)), (3, .ref q19), (4, .int x4)] [] [wGW E a0 (rf10 (a1 0) (a2 0) (a3 0) (a6 0) (a7 0) (a8 0) (a11 0) (a12 0) (a13 0) (a14 0)) v0, wHouse E a1 v1, wHouse E a2 v2, wHist E a3 (rf2 q4 (a5 0)) v3, wHs E q4 ah4 v4, wHouse E a5 v5, wSight E a6 v6, wSight E a7 v7, wBest E a8 (rf2 (a9 0) (a10 0)) v8, wHouse E a9 v9, wSight E a10 v10, wIntr E a11 v11, wToks E a12 v12, wHRead E a13 (rf1 (a12 0)), wQRead E a14 (rf3 (a12 0) q15 q16) v14, wArr E q15 12 v15, wArr E q16 12 v16, wModel E a17 (rf2 (a17 1) q18) v17, wNm E q18, wLon E q19 v19]) {x4 : Int32} {v0 : GWV} {v1 : HouseV} {v2 : HouseV} {v3 : HistV} {v4 : Nat → HouseV} {v5 : HouseV} {v6 : SightV} {v7 : SightV} {v8 : BestV} {v9 : HouseV} {v10 : SightV} {v11 : IntrV} {v12 : ToksV} {v14 : QReadV} {v15 : Nat → Int32} {v16 : Nat → Int32} {v17 : ModelV} {v19 : Nat → Int64} (hf : Law_1157 L xs k23 x4 v0 v1 v2 v3 v4 v5 v6 v7 v8 v9 v10 v11 v12 v14 v15 v16 v17 v19 = some ()) : WW E K c s Q 1157 [(0, .ref bS), (1, .ref (a0 0)), (2, .ref (a17 0)), (3, .ref q19), (4, .int x4)] [] [wGW E a0 (rf10 (a1 0) (a2 0) (a3 0) (a6 0) (a7 0) (a8 0) (a11 0) (a12 0) (a13 0) (a14 0)) v0, wHouse E a1 v1, wHouse E a2 v2, wHist E a3 (rf2 q4 (a5 0)) v3, wHs E q4 ah4 v4, wHouse E a5 v5, wSight E a6 v6, wSight E a7 v7, wBest E a8 (rf2 (a9 0) (a10 0)) v8, wHouse E a9 v9, wSight E a10 v10, wIntr E a11 v11, wToks E a12 v12, wHRead E a13 (rf1 (a12 0)), wQRead E a14 (rf3 (a12 0) q15 q16) v14, wArr E q15 12 v15, wArr E q16 12 v16, wModel E a17 (rf2 (a17 1) q18) v17, wNm E q18, wLon E q19 v19] := by
  rw [Law_1157] at hf
  refine ww_aload_n C dL_law_1157 rfl 1 rfl ?_
  refine ww_aload_n C dL_law_1158 rfl 0 rfl ?_
  refine ww_iload C dL_law_1159 4 rfl ?_
  refine ww_iconst (v := 1) C dL_law_1161 (by decide) ?_
  refine ww_iadd C dL_law_1162 ?_
  obtain ⟨g_90, hf⟩ := gdE hf
  refine ww_sld C S0 (inB_vp g_90) dL_law_1163 ?_
  refine ww_aload_n C dL_law_1164 rfl 0 rfl ?_
  refine ww_iload C dL_law_1165 4 rfl ?_
  refine ww_iconst (v := 2) C dL_law_1167 (by decide) ?_
  refine ww_iadd C dL_law_1168 ?_
  obtain ⟨g_91, hf⟩ := gdE hf
  refine ww_sld C S0 (inB_vp g_91) dL_law_1169 ?_
  refine ww_aload_n C dL_law_1170 rfl 3 rfl ?_
  obtain ⟨p1171, hp1171, hf⟩ := bdE hf
  refine ww_callSL C T0 (As := [.ref (a0 0), .int (xs (Int32.toNatClampNeg (x4 + 1))), .int (xs (Int32.toNatClampNeg (x4 + 2))), .ref q19]) (st := []) (gr := [wHouse E a2 v2, wHist E a3 (rf2 q4 (a5 0)) v3, wHs E q4 ah4 v4, wHouse E a5 v5, wSight E a6 v6, wSight E a7 v7, wBest E a8 (rf2 (a9 0) (a10 0)) v8, wHouse E a9 v9, wSight E a10 v10, wIntr E a11 v11, wToks E a12 v12, wHRead E a13 (rf1 (a12 0)), wQRead E a14 (rf3 (a12 0) q15 q16) v14, wArr E q15 12 v15, wArr E q16 12 v16, wModel E a17 (rf2 (a17 1) q18) v17, wNm E q18]) (c_L_passings (E := E) (a0 := a0) (h0_1 := a2 0) (h0_2 := a3 0) (h0_3 := a6 0) (h0_4 := a7 0) (h0_5 := a8 0) (h0_6 := a11 0) (h0_7 := a12 0) (h0_8 := a13 0) (h0_9 := a14 0) (a1 := a1) (q2 := q19) hp1171) gL_law_L_passings rfl ysk_L_passings ⟨by decide, by decide⟩ ⟨by show c + 2 ≤ 601024; omega, by show s + 12 ≤ 7293034; omega⟩ [0, 1, 19] [2, 3, 4, 5, 6, 7, 8, 9, 10, 11, 12, 13, 14, 15, 16, 17, 18] 20 rfl (by decide) rfl rfl (Nat.le_of_ble_eq_true rfl) dL_law_1171 ?_
  rintro _ _ ⟨rfl, rfl⟩
  refine ww_perm (gs' := [wGW E a0 (rf10 (a1 0) (a2 0) (a3 0) (a6 0) (a7 0) (a8 0) (a11 0) (a12 0) (a13 0) (a14 0)) v0, wHouse E a1 v1, wHouse E a2 v2, wHist E a3 (rf2 q4 (a5 0)) v3, wHs E q4 ah4 v4, wHouse E a5 v5, wSight E a6 v6, wSight E a7 v7, wBest E a8 (rf2 (a9 0) (a10 0)) v8, wHouse E a9 v9, wSight E a10 v10, wIntr E a11 v11, wToks E a12 v12, wHRead E a13 (rf1 (a12 0)), wQRead E a14 (rf3 (a12 0) q15 q16) v14, wArr E q15 12 v15, wArr E q16 12 v16, wModel E a17 (rf2 (a17 1) q18) v17, wNm E q18, wLon E q19 p1171.2]) [0, 1, 3, 4, 5, 6, 7, 8, 9, 10, 11, 12, 13, 14, 15, 16, 17, 18, 19, 2] 20 rfl (by decide) rfl ?_
  refine ww_istore (lv' := [(5, .int p1171.1), (0, .ref bS), (1, .ref (a0 0)), (2, .ref (a17 0)), (3, .ref q19), (4, .int x4)]) C dL_law_1174 (by decide) rfl ?_
  refine ww_aload_n C dL_law_1176 rfl 3 rfl ?_
  refine ww_aload_n C dL_law_1177 rfl 1 rfl ?_
  refine ww_iload C dL_law_1178 5 rfl ?_
  refine ww_iconst (v := 1) C dL_law_1180 (by decide) ?_
  refine ww_iadd C dL_law_1181 ?_
  refine ww_sld C S0 (inB_vp g_90) dL_law_1182 ?_
  refine ww_aload_n C dL_law_1183 rfl 1 rfl ?_
  refine ww_iload C dL_law_1184 5 rfl ?_
  refine ww_iconst (v := 2) C dL_law_1186 (by decide) ?_
  refine ww_iadd C dL_law_1187 ?_
  refine ww_sld C S0 (inB_vp g_91) dL_law_1188 ?_
  obtain ⟨p1189, hp1189, hf⟩ := bdE hf
  refine ww_callV C (As := [.int (xs (Int32.toNatClampNeg (x4 + 1))), .int (xs (Int32.toNatClampNeg (x4 + 2)))]) (st := []) (gr := [wGW E a0 (rf10 (a1 0) (a2 0) (a3 0) (a6 0) (a7 0) (a8 0) (a11 0) (a12 0) (a13 0) (a14 0)) v0, wHouse E a1 v1, wHouse E a2 v2, wHist E a3 (rf2 q4 (a5 0)) v3, wHs E q4 ah4 v4, wHouse E a5 v5, wSight E a6 v6, wSight E a7 v7, wBest E a8 (rf2 (a9 0) (a10 0)) v8, wHouse E a9 v9, wSight E a10 v10, wIntr E a11 v11, wToks E a12 v12, wHRead E a13 (rf1 (a12 0)), wQRead E a14 (rf3 (a12 0) q15 q16) v14, wArr E q15 12 v15, wArr E q16 12 v16, wNm E q18, wLon E q19 p1171.2]) (c_X9_passings (E := E) (a0 := a17) (h0_1 := q18) hp1189) gL_law_X9_passings rfl yk_X9_passings ⟨by decide, by decide⟩ ⟨by show c + 2 + 0 ≤ 601024; omega, by show s + 12 + 0 ≤ 7293034; omega⟩ clOK9 0 0 rfl rfl [17] [0, 1, 2, 3, 4, 5, 6, 7, 8, 9, 10, 11, 12, 13, 14, 15, 16, 18, 19] 20 rfl (by decide) rfl rfl (Nat.le_of_ble_eq_true rfl) dL_law_1189 ?_
  rintro _ _ ⟨rfl, rfl⟩
  refine ww_perm (gs' := [wGW E a0 (rf10 (a1 0) (a2 0) (a3 0) (a6 0) (a7 0) (a8 0) (a11 0) (a12 0) (a13 0) (a14 0)) v0, wHouse E a1 v1, wHouse E a2 v2, wHist E a3 (rf2 q4 (a5 0)) v3, wHs E q4 ah4 v4, wHouse E a5 v5, wSight E a6 v6, wSight E a7 v7, wBest E a8 (rf2 (a9 0) (a10 0)) v8, wHouse E a9 v9, wSight E a10 v10, wIntr E a11 v11, wToks E a12 v12, wHRead E a13 (rf1 (a12 0)), wQRead E a14 (rf3 (a12 0) q15 q16) v14, wArr E q15 12 v15, wArr E q16 12 v16, wModel E a17 (rf2 (a17 1) q18) p1189.2, wNm E q18, wLon E q19 p1171.2]) [1, 2, 3, 4, 5, 6, 7, 8, 9, 10, 11, 12, 13, 14, 15, 16, 17, 0, 18, 19] 20 rfl (by decide) rfl ?_
  refine ww_istore (lv' := [(6, .int p1189.1), (5, .int p1171.1), (0, .ref bS), (1, .ref (a0 0)), (2, .ref (a17 0)), (3, .ref q19), (4, .int x4)]) C dL_law_1192 (by decide) rfl ?_
  refine ww_aload_n C dL_law_1194 rfl 4 rfl ?_
  obtain ⟨p1195, hp1195, hf⟩ := bdE hf
  refine ww_callV C (As := []) (st := []) (gr := [wGW E a0 (rf10 (a1 0) (a2 0) (a3 0) (a6 0) (a7 0) (a8 0) (a11 0) (a12 0) (a13 0) (a14 0)) v0, wHouse E a1 v1, wHouse E a2 v2, wHist E a3 (rf2 q4 (a5 0)) v3, wHs E q4 ah4 v4, wHouse E a5 v5, wSight E a6 v6, wSight E a7 v7, wBest E a8 (rf2 (a9 0) (a10 0)) v8, wHouse E a9 v9, wSight E a10 v10, wIntr E a11 v11, wToks E a12 v12, wHRead E a13 (rf1 (a12 0)), wQRead E a14 (rf3 (a12 0) q15 q16) v14, wArr E q15 12 v15, wArr E q16 12 v16, wNm E q18, wLon E q19 p1171.2]) (c_X9_thrown (E := E) (a0 := a17) (h0_0 := a17 1) (h0_1 := q18) hp1195) gL_law_X9_thrown rfl yk_X9_thrown ⟨by decide, by decide⟩ ⟨by show c + 2 + 0 + 0 ≤ 601024; omega, by show s + 12 + 0 + 0 ≤ 7293034; omega⟩ clOK9 0 0 rfl rfl [17] [0, 1, 2, 3, 4, 5, 6, 7, 8, 9, 10, 11, 12, 13, 14, 15, 16, 18, 19] 20 rfl (by decide) rfl rfl (Nat.le_of_ble_eq_true rfl) dL_law_1195 ?_
  rintro _ _ ⟨rfl, rfl⟩
  refine ww_perm (gs' := [wGW E a0 (rf10 (a1 0) (a2 0) (a3 0) (a6 0) (a7 0) (a8 0) (a11 0) (a12 0) (a13 0) (a14 0)) v0, wHouse E a1 v1, wHouse E a2 v2, wHist E a3 (rf2 q4 (a5 0)) v3, wHs E q4 ah4 v4, wHouse E a5 v5, wSight E a6 v6, wSight E a7 v7, wBest E a8 (rf2 (a9 0) (a10 0)) v8, wHouse E a9 v9, wSight E a10 v10, wIntr E a11 v11, wToks E a12 v12, wHRead E a13 (rf1 (a12 0)), wQRead E a14 (rf3 (a12 0) q15 q16) v14, wArr E q15 12 v15, wArr E q16 12 v16, wModel E a17 (rf2 (a17 1) q18) p1189.2, wNm E q18, wLon E q19 p1171.2]) [1, 2, 3, 4, 5, 6, 7, 8, 9, 10, 11, 12, 13, 14, 15, 16, 17, 0, 18, 19] 20 rfl (by decide) rfl ?_
  refine ww_iload C dL_law_1198 1 rfl ?_
  refine ww_icmp_eq (tgt := 1205) C dL_law_1200 (by decide) (fun c_92 => ?_) (fun c_92 => ?_)
  · replace hf := ifT c_92 hf
    refine ww_iload C dL_law_1205 1 rfl ?_
    refine ww_if_ne (tgt := 1222) C dL_law_1207 (by decide) (fun c_93 => ?_) (fun c_93 => ?_)
    · replace hf := ifF c_93 hf
      refine ww_goto (tgt := 2229) C dL_law_1222 (by decide) ?_
      obtain ⟨x4_2229, e_x4_2229⟩ : ∃ y : Int32, y = x4 + 6 := ⟨_, rfl⟩
      replace hf := ltE e_x4_2229 hf
      refine ww_iinc (v := x4_2229) (lv' := [(4, .int x4_2229), (6, .int p1189.1), (5, .int p1171.1), (0, .ref bS), (1, .ref (a0 0)), (2, .ref (a17 0)), (3, .ref q19)]) C dL_law_2229 6 rfl (by rw [e_x4_2229]; rfl) (by decide) rfl ?_
      refine ww_goto (tgt := 23) C dL_law_2232 (by decide) ?_
      refine ww_sub C (lv' := [(0, .ref bS), (1, .ref (a0 0)), (2, .ref (a17 0)), (3, .ref q19), (4, .int x4_2229)]) [3, 4, 5, 6, 0] rfl ?_
      refine ww_widen (k := c + 3) (n := s + 18) (by show c + 2 + 0 + 0 ≤ c + 3; omega) (by show s + 12 + 0 + 0 ≤ s + 18; omega) ?_
      exact hk23 _ _ _ _ _ _ _ _ _ _ _ _ _ _ _ _ _ _ _ hf
    · replace hf := ifT c_93 hf
      refine ww_aload_n C dL_law_1210 rfl 5 rfl ?_
      refine ww_iconst (v := 0) C dL_law_1211 (by decide) ?_
      obtain ⟨g_94, hf⟩ := gdE hf
      refine ww_lald C (f := p1171.2) (w := wLon E q19 p1171.2) 19 0 rfl q_Lon (inB_vp g_94) dL_law_1212 ?_
      refine ww_iload C dL_law_1213 0 rfl ?_
      refine ww_i2l C dL_law_1215 ?_
      refine ww_lcmp C dL_law_1216 ?_
      refine ww_if_eq (tgt := 1222) C dL_law_1217 (by decide) (fun c_95 => ?_) (fun c_95 => ?_)
      · replace hf := ifT c_95 hf
        refine ww_goto (tgt := 2229) C dL_law_1222 (by decide) ?_
        obtain ⟨x4_2229, e_x4_2229⟩ : ∃ y : Int32, y = x4 + 6 := ⟨_, rfl⟩
        replace hf := ltE e_x4_2229 hf
        refine ww_iinc (v := x4_2229) (lv' := [(4, .int x4_2229), (6, .int p1189.1), (5, .int p1171.1), (0, .ref bS), (1, .ref (a0 0)), (2, .ref (a17 0)), (3, .ref q19)]) C dL_law_2229 6 rfl (by rw [e_x4_2229]; rfl) (by decide) rfl ?_
        refine ww_goto (tgt := 23) C dL_law_2232 (by decide) ?_
        refine ww_sub C (lv' := [(0, .ref bS), (1, .ref (a0 0)), (2, .ref (a17 0)), (3, .ref q19), (4, .int x4_2229)]) [3, 4, 5, 6, 0] rfl ?_
        refine ww_widen (k := c + 3) (n := s + 18) (by show c + 2 + 0 + 0 ≤ c + 3; omega) (by show s + 12 + 0 + 0 ≤ s + 18; omega) ?_
        exact hk23 _ _ _ _ _ _ _ _ _ _ _ _ _ _ _ _ _ _ _ hf
      · replace hf := ifF c_95 hf
        refine ww_iconst (v := 0) C dL_law_1220 (by decide) ?_
        cases hf
  · replace hf := ifF c_92 hf
    refine ww_iconst (v := 0) C dL_law_1203 (by decide) ?_
    cases hf

set_option maxHeartbeats 8000000 in
set_option maxRecDepth 100000 in
theorem w_L_law_1225 {E : Ex} {K : Kx} (C : Cx E K cL_law 9 (some .boolean) RL wsL_law rmL_law) {a0 : Nat → Nat} {a1 : Nat → Nat} {a2 : Nat → Nat} {a3 : Nat → Nat} {q4 : Nat} {ah4 : Nat → Nat → Nat} {a5 : Nat → Nat} {a6 : Nat → Nat} {a7 : Nat → Nat} {a8 : Nat → Nat} {a9 : Nat → Nat} {a10 : Nat → Nat} {a11 : Nat → Nat} {a12 : Nat → Nat} {a13 : Nat → Nat} {a14 : Nat → Nat} {q15 : Nat} {q16 : Nat} {a17 : Nat → Nat} {q18 : Nat} {q19 : Nat} {bS L : Nat} {xs : Nat → Int32} {Q : State → Prop} (T0 : TL E K) (S0 : SX bS L xs K) (HR : ∀ (c s : Nat) (lv : List (Nat × Value)) (gs : List va_W), c ≤ 601024 → s ≤ 7293034 → WW E K c s Q 2236 lv [.int 1] gs) {c s : Nat} (hc : c + 3 ≤ 601024) (hs : s + 18 ≤ 7293034) {k23 : Int32 → GWV → HouseV → HouseV → HistV → (Nat → HouseV) → HouseV → SightV → SightV → BestV → HouseV → SightV → IntrV → ToksV → QReadV → (Nat → Int32) → (Nat → Int32) → ModelV → (Nat → Int64) → Option Unit} (hk23 : ∀ (x4 : Int32) (v0 : GWV) (v1 : HouseV) (v2 : HouseV) (v3 : HistV) (v4 : Nat → HouseV) (v5 : HouseV) (v6 : SightV) (v7 : SightV) (v8 : BestV) (v9 : HouseV) (v10 : SightV) (v11 : IntrV) (v12 : ToksV) (v14 : QReadV) (v15 : Nat → Int32) (v16 : Nat → Int32) (v17 : ModelV) (v19 : Nat → Int64), k23 x4 v0 v1 v2 v3 v4 v5 v6 v7 v8 v9 v10 v11 v12 v14 v15 v16 v17 v19 = some () → WW E K (c + 3) (s + 18) Q 23 [(0, .ref bS), (1, .ref (a0 0)), (2, .ref (a17 0)), (3, .ref q19), (4, .int x4)] [] [wGW E a0 (rf10 (a1 0) (a2 0) (a3 0) (a6 0) (a7 0) (a8 0) (a11 0) (a12 0) (a13 0) (a14 0)) v0, wHouse E a1 v1, wHouse E a2 v2, wHist E a3 (rf2 q4 (a5 0)) v3, wHs E q4 ah4 v4, wHouse E a5 v5, wSight E a6 v6, wSight E a7 v7, wBest E a8 (rf2 (a9 0) (a10 0)) v8, wHouse E a9 v9, wSight E a10 v10, wIntr E a11 v11, wToks E a12 v12, wHRead E a13 (rf1 (a12 0)), wQRead E a14 (rf3 (a12 0) q15 q16) v14, wArr E q15 12 v15, wArr E q16 12 v16, wModel E a17 (rf2 (a17 1) q18) v17, wNm E q18, wLon E q19 v19]) {x4 : Int32} {v0 : GWV} {v1 : HouseV} {v2 : HouseV} {v3 : HistV} {v4 : Nat → HouseV} {v5 : HouseV} {v6 : SightV} {v7 : SightV} {v8 : BestV} {v9 : HouseV} {v10 : SightV} {v11 : IntrV} {v12 : ToksV} {v14 : QReadV} {v15 : Nat → Int32} {v16 : Nat → Int32} {v17 : ModelV} {v19 : Nat → Int64} (hf : Law_1225 L xs k23 x4 v0 v1 v2 v3 v4 v5 v6 v7 v8 v9 v10 v11 v12 v14 v15 v16 v17 v19 = some ()) : WW E K c s Q 1225 [(0, .ref bS), (1, .ref (a0 0)), (2, .ref (a17 0)), (3, .ref q19), (4, .int x4)] [] [wGW E a0 (rf10 (a1 0) (a2 0) (a3 0) (a6 0) (a7 0) (a8 0) (a11 0) (a12 0) (a13 0) (a14 0)) v0, wHouse E a1 v1, wHouse E a2 v2, wHist E a3 (rf2 q4 (a5 0)) v3, wHs E q4 ah4 v4, wHouse E a5 v5, wSight E a6 v6, wSight E a7 v7, wBest E a8 (rf2 (a9 0) (a10 0)) v8, wHouse E a9 v9, wSight E a10 v10, wIntr E a11 v11, wToks E a12 v12, wHRead E a13 (rf1 (a12 0)), wQRead E a14 (rf3 (a12 0) q15 q16) v14, wArr E q15 12 v15, wArr E q16 12 v16, wModel E a17 (rf2 (a17 1) q18) v17, wNm E q18, wLon E q19 v19] := by
  rw [Law_1225] at hf
  refine ww_aload_n C dL_law_1225 rfl 1 rfl ?_
  refine ww_aload_n C dL_law_1226 rfl 0 rfl ?_
  refine ww_iload C dL_law_1227 4 rfl ?_
  refine ww_iconst (v := 1) C dL_law_1229 (by decide) ?_
  refine ww_iadd C dL_law_1230 ?_
  obtain ⟨g_83, hf⟩ := gdE hf
  refine ww_sld C S0 (inB_vp g_83) dL_law_1231 ?_
  refine ww_aload_n C dL_law_1232 rfl 0 rfl ?_
  refine ww_iload C dL_law_1233 4 rfl ?_
  refine ww_iconst (v := 2) C dL_law_1235 (by decide) ?_
  refine ww_iadd C dL_law_1236 ?_
  obtain ⟨g_84, hf⟩ := gdE hf
  refine ww_sld C S0 (inB_vp g_84) dL_law_1237 ?_
  refine ww_aload_n C dL_law_1238 rfl 0 rfl ?_
  refine ww_iload C dL_law_1239 4 rfl ?_
  refine ww_iconst (v := 3) C dL_law_1241 (by decide) ?_
  refine ww_iadd C dL_law_1242 ?_
  obtain ⟨g_85, hf⟩ := gdE hf
  refine ww_sld C S0 (inB_vp g_85) dL_law_1243 ?_
  refine ww_aload_n C dL_law_1244 rfl 3 rfl ?_
  obtain ⟨p1245, hp1245, hf⟩ := bdE hf
  refine ww_callSL C T0 (As := [.ref (a0 0), .int (xs (Int32.toNatClampNeg (x4 + 1))), .int (xs (Int32.toNatClampNeg (x4 + 2))), .int (xs (Int32.toNatClampNeg (x4 + 3))), .ref q19]) (st := []) (gr := [wHouse E a2 v2, wHist E a3 (rf2 q4 (a5 0)) v3, wHs E q4 ah4 v4, wHouse E a5 v5, wSight E a6 v6, wSight E a7 v7, wBest E a8 (rf2 (a9 0) (a10 0)) v8, wHouse E a9 v9, wSight E a10 v10, wIntr E a11 v11, wToks E a12 v12, wHRead E a13 (rf1 (a12 0)), wQRead E a14 (rf3 (a12 0) q15 q16) v14, wArr E q15 12 v15, wArr E q16 12 v16, wModel E a17 (rf2 (a17 1) q18) v17, wNm E q18]) (c_L_nextMeeting (E := E) (a0 := a0) (h0_1 := a2 0) (h0_2 := a3 0) (h0_3 := a6 0) (h0_4 := a7 0) (h0_5 := a8 0) (h0_6 := a11 0) (h0_7 := a12 0) (h0_8 := a13 0) (h0_9 := a14 0) (a1 := a1) (q2 := q19) hp1245) gL_law_L_nextMeeting rfl ysk_L_nextMeeting ⟨by decide, by decide⟩ ⟨by show c + 3 ≤ 601024; omega, by show s + 18 ≤ 7293034; omega⟩ [0, 1, 19] [2, 3, 4, 5, 6, 7, 8, 9, 10, 11, 12, 13, 14, 15, 16, 17, 18] 20 rfl (by decide) rfl rfl (Nat.le_of_ble_eq_true rfl) dL_law_1245 ?_
  rintro _ _ ⟨rfl, rfl⟩
  refine ww_perm (gs' := [wGW E a0 (rf10 (a1 0) (a2 0) (a3 0) (a6 0) (a7 0) (a8 0) (a11 0) (a12 0) (a13 0) (a14 0)) v0, wHouse E a1 v1, wHouse E a2 v2, wHist E a3 (rf2 q4 (a5 0)) v3, wHs E q4 ah4 v4, wHouse E a5 v5, wSight E a6 v6, wSight E a7 v7, wBest E a8 (rf2 (a9 0) (a10 0)) v8, wHouse E a9 v9, wSight E a10 v10, wIntr E a11 v11, wToks E a12 v12, wHRead E a13 (rf1 (a12 0)), wQRead E a14 (rf3 (a12 0) q15 q16) v14, wArr E q15 12 v15, wArr E q16 12 v16, wModel E a17 (rf2 (a17 1) q18) v17, wNm E q18, wLon E q19 p1245.2]) [0, 1, 3, 4, 5, 6, 7, 8, 9, 10, 11, 12, 13, 14, 15, 16, 17, 18, 19, 2] 20 rfl (by decide) rfl ?_
  refine ww_istore (lv' := [(5, .int p1245.1), (0, .ref bS), (1, .ref (a0 0)), (2, .ref (a17 0)), (3, .ref q19), (4, .int x4)]) C dL_law_1248 (by decide) rfl ?_
  refine ww_aload_n C dL_law_1250 rfl 3 rfl ?_
  refine ww_aload_n C dL_law_1251 rfl 1 rfl ?_
  refine ww_iload C dL_law_1252 5 rfl ?_
  refine ww_iconst (v := 1) C dL_law_1254 (by decide) ?_
  refine ww_iadd C dL_law_1255 ?_
  refine ww_sld C S0 (inB_vp g_83) dL_law_1256 ?_
  refine ww_aload_n C dL_law_1257 rfl 1 rfl ?_
  refine ww_iload C dL_law_1258 5 rfl ?_
  refine ww_iconst (v := 2) C dL_law_1260 (by decide) ?_
  refine ww_iadd C dL_law_1261 ?_
  refine ww_sld C S0 (inB_vp g_84) dL_law_1262 ?_
  refine ww_aload_n C dL_law_1263 rfl 1 rfl ?_
  refine ww_iload C dL_law_1264 5 rfl ?_
  refine ww_iconst (v := 3) C dL_law_1266 (by decide) ?_
  refine ww_iadd C dL_law_1267 ?_
  refine ww_sld C S0 (inB_vp g_85) dL_law_1268 ?_
  obtain ⟨p1269, hp1269, hf⟩ := bdE hf
  refine ww_callV C (As := [.int (xs (Int32.toNatClampNeg (x4 + 1))), .int (xs (Int32.toNatClampNeg (x4 + 2))), .int (xs (Int32.toNatClampNeg (x4 + 3)))]) (st := []) (gr := [wGW E a0 (rf10 (a1 0) (a2 0) (a3 0) (a6 0) (a7 0) (a8 0) (a11 0) (a12 0) (a13 0) (a14 0)) v0, wHouse E a1 v1, wHouse E a2 v2, wHist E a3 (rf2 q4 (a5 0)) v3, wHs E q4 ah4 v4, wHouse E a5 v5, wSight E a6 v6, wSight E a7 v7, wBest E a8 (rf2 (a9 0) (a10 0)) v8, wHouse E a9 v9, wSight E a10 v10, wIntr E a11 v11, wToks E a12 v12, wHRead E a13 (rf1 (a12 0)), wQRead E a14 (rf3 (a12 0) q15 q16) v14, wArr E q15 12 v15, wArr E q16 12 v16, wNm E q18, wLon E q19 p1245.2]) (c_X9_nextMeeting (E := E) (a0 := a17) (h0_1 := q18) hp1269) gL_law_X9_nextMeeting rfl yk_X9_nextMeeting ⟨by decide, by decide⟩ ⟨by show c + 3 + 0 ≤ 601024; omega, by show s + 18 + 0 ≤ 7293034; omega⟩ clOK9 0 0 rfl rfl [17] [0, 1, 2, 3, 4, 5, 6, 7, 8, 9, 10, 11, 12, 13, 14, 15, 16, 18, 19] 20 rfl (by decide) rfl rfl (Nat.le_of_ble_eq_true rfl) dL_law_1269 ?_
  rintro _ _ ⟨rfl, rfl⟩
  refine ww_perm (gs' := [wGW E a0 (rf10 (a1 0) (a2 0) (a3 0) (a6 0) (a7 0) (a8 0) (a11 0) (a12 0) (a13 0) (a14 0)) v0, wHouse E a1 v1, wHouse E a2 v2, wHist E a3 (rf2 q4 (a5 0)) v3, wHs E q4 ah4 v4, wHouse E a5 v5, wSight E a6 v6, wSight E a7 v7, wBest E a8 (rf2 (a9 0) (a10 0)) v8, wHouse E a9 v9, wSight E a10 v10, wIntr E a11 v11, wToks E a12 v12, wHRead E a13 (rf1 (a12 0)), wQRead E a14 (rf3 (a12 0) q15 q16) v14, wArr E q15 12 v15, wArr E q16 12 v16, wModel E a17 (rf2 (a17 1) q18) p1269.2, wNm E q18, wLon E q19 p1245.2]) [1, 2, 3, 4, 5, 6, 7, 8, 9, 10, 11, 12, 13, 14, 15, 16, 17, 0, 18, 19] 20 rfl (by decide) rfl ?_
  refine ww_istore (lv' := [(6, .int p1269.1), (5, .int p1245.1), (0, .ref bS), (1, .ref (a0 0)), (2, .ref (a17 0)), (3, .ref q19), (4, .int x4)]) C dL_law_1272 (by decide) rfl ?_
  refine ww_aload_n C dL_law_1274 rfl 4 rfl ?_
  obtain ⟨p1275, hp1275, hf⟩ := bdE hf
  refine ww_callV C (As := []) (st := []) (gr := [wGW E a0 (rf10 (a1 0) (a2 0) (a3 0) (a6 0) (a7 0) (a8 0) (a11 0) (a12 0) (a13 0) (a14 0)) v0, wHouse E a1 v1, wHouse E a2 v2, wHist E a3 (rf2 q4 (a5 0)) v3, wHs E q4 ah4 v4, wHouse E a5 v5, wSight E a6 v6, wSight E a7 v7, wBest E a8 (rf2 (a9 0) (a10 0)) v8, wHouse E a9 v9, wSight E a10 v10, wIntr E a11 v11, wToks E a12 v12, wHRead E a13 (rf1 (a12 0)), wQRead E a14 (rf3 (a12 0) q15 q16) v14, wArr E q15 12 v15, wArr E q16 12 v16, wNm E q18, wLon E q19 p1245.2]) (c_X9_thrown (E := E) (a0 := a17) (h0_0 := a17 1) (h0_1 := q18) hp1275) gL_law_X9_thrown rfl yk_X9_thrown ⟨by decide, by decide⟩ ⟨by show c + 3 + 0 + 0 ≤ 601024; omega, by show s + 18 + 0 + 0 ≤ 7293034; omega⟩ clOK9 0 0 rfl rfl [17] [0, 1, 2, 3, 4, 5, 6, 7, 8, 9, 10, 11, 12, 13, 14, 15, 16, 18, 19] 20 rfl (by decide) rfl rfl (Nat.le_of_ble_eq_true rfl) dL_law_1275 ?_
  rintro _ _ ⟨rfl, rfl⟩
  refine ww_perm (gs' := [wGW E a0 (rf10 (a1 0) (a2 0) (a3 0) (a6 0) (a7 0) (a8 0) (a11 0) (a12 0) (a13 0) (a14 0)) v0, wHouse E a1 v1, wHouse E a2 v2, wHist E a3 (rf2 q4 (a5 0)) v3, wHs E q4 ah4 v4, wHouse E a5 v5, wSight E a6 v6, wSight E a7 v7, wBest E a8 (rf2 (a9 0) (a10 0)) v8, wHouse E a9 v9, wSight E a10 v10, wIntr E a11 v11, wToks E a12 v12, wHRead E a13 (rf1 (a12 0)), wQRead E a14 (rf3 (a12 0) q15 q16) v14, wArr E q15 12 v15, wArr E q16 12 v16, wModel E a17 (rf2 (a17 1) q18) p1269.2, wNm E q18, wLon E q19 p1245.2]) [1, 2, 3, 4, 5, 6, 7, 8, 9, 10, 11, 12, 13, 14, 15, 16, 17, 0, 18, 19] 20 rfl (by decide) rfl ?_
  refine ww_iload C dL_law_1278 1 rfl ?_
  refine ww_icmp_eq (tgt := 1285) C dL_law_1280 (by decide) (fun c_86 => ?_) (fun c_86 => ?_)
  · replace hf := ifT c_86 hf
    refine ww_iload C dL_law_1285 1 rfl ?_
    refine ww_if_ne (tgt := 1302) C dL_law_1287 (by decide) (fun c_87 => ?_) (fun c_87 => ?_)
    · replace hf := ifF c_87 hf
      refine ww_goto (tgt := 2229) C dL_law_1302 (by decide) ?_
      obtain ⟨x4_2229, e_x4_2229⟩ : ∃ y : Int32, y = x4 + 6 := ⟨_, rfl⟩
      replace hf := ltE e_x4_2229 hf
      refine ww_iinc (v := x4_2229) (lv' := [(4, .int x4_2229), (6, .int p1269.1), (5, .int p1245.1), (0, .ref bS), (1, .ref (a0 0)), (2, .ref (a17 0)), (3, .ref q19)]) C dL_law_2229 6 rfl (by rw [e_x4_2229]; rfl) (by decide) rfl ?_
      refine ww_goto (tgt := 23) C dL_law_2232 (by decide) ?_
      refine ww_sub C (lv' := [(0, .ref bS), (1, .ref (a0 0)), (2, .ref (a17 0)), (3, .ref q19), (4, .int x4_2229)]) [3, 4, 5, 6, 0] rfl ?_
      refine ww_widen (k := c + 3) (n := s + 18) (by show c + 3 + 0 + 0 ≤ c + 3; omega) (by show s + 18 + 0 + 0 ≤ s + 18; omega) ?_
      exact hk23 _ _ _ _ _ _ _ _ _ _ _ _ _ _ _ _ _ _ _ hf
    · replace hf := ifT c_87 hf
      refine ww_aload_n C dL_law_1290 rfl 5 rfl ?_
      refine ww_iconst (v := 0) C dL_law_1291 (by decide) ?_
      obtain ⟨g_88, hf⟩ := gdE hf
      refine ww_lald C (f := p1245.2) (w := wLon E q19 p1245.2) 19 0 rfl q_Lon (inB_vp g_88) dL_law_1292 ?_
      refine ww_iload C dL_law_1293 0 rfl ?_
      refine ww_i2l C dL_law_1295 ?_
      refine ww_lcmp C dL_law_1296 ?_
      refine ww_if_eq (tgt := 1302) C dL_law_1297 (by decide) (fun c_89 => ?_) (fun c_89 => ?_)
      · replace hf := ifT c_89 hf
        refine ww_goto (tgt := 2229) C dL_law_1302 (by decide) ?_
        obtain ⟨x4_2229, e_x4_2229⟩ : ∃ y : Int32, y = x4 + 6 := ⟨_, rfl⟩
        replace hf := ltE e_x4_2229 hf
        refine ww_iinc (v := x4_2229) (lv' := [(4, .int x4_2229), (6, .int p1269.1), (5, .int p1245.1), (0, .ref bS), (1, .ref (a0 0)), (2, .ref (a17 0)), (3, .ref q19)]) C dL_law_2229 6 rfl (by rw [e_x4_2229]; rfl) (by decide) rfl ?_
        refine ww_goto (tgt := 23) C dL_law_2232 (by decide) ?_
        refine ww_sub C (lv' := [(0, .ref bS), (1, .ref (a0 0)), (2, .ref (a17 0)), (3, .ref q19), (4, .int x4_2229)]) [3, 4, 5, 6, 0] rfl ?_
        refine ww_widen (k := c + 3) (n := s + 18) (by show c + 3 + 0 + 0 ≤ c + 3; omega) (by show s + 18 + 0 + 0 ≤ s + 18; omega) ?_
        exact hk23 _ _ _ _ _ _ _ _ _ _ _ _ _ _ _ _ _ _ _ hf
      · replace hf := ifF c_89 hf
        refine ww_iconst (v := 0) C dL_law_1300 (by decide) ?_
        cases hf
  · replace hf := ifF c_86 hf
    refine ww_iconst (v := 0) C dL_law_1283 (by decide) ?_
    cases hf

set_option maxHeartbeats 8000000 in
set_option maxRecDepth 100000 in
theorem w_L_law_1305 {E : Ex} {K : Kx} (C : Cx E K cL_law 9 (some .boolean) RL wsL_law rmL_law) {a0 : Nat → Nat} {a1 : Nat → Nat} {a2 : Nat → Nat} {a3 : Nat → Nat} {q4 : Nat} {ah4 : Nat → Nat → Nat} {a5 : Nat → Nat} {a6 : Nat → Nat} {a7 : Nat → Nat} {a8 : Nat → Nat} {a9 : Nat → Nat} {a10 : Nat → Nat} {a11 : Nat → Nat} {a12 : Nat → Nat} {a13 : Nat → Nat} {a14 : Nat → Nat} {q15 : Nat} {q16 : Nat} {a17 : Nat → Nat} {q18 : Nat} {q19 : Nat} {bS L : Nat} {xs : Nat → Int32} {Q : State → Prop} (T0 : TL E K) (S0 : SX bS L xs K) (HR : ∀ (c s : Nat) (lv : List (Nat × Value)) (gs : List va_W), c ≤ 601024 → s ≤ 7293034 → WW E K c s Q 2236 lv [.int 1] gs) {c s : Nat} (hc : c + 3 ≤ 601024) (hs : s + 18 ≤ 7293034) {k23 : Int32 → GWV → HouseV → HouseV → HistV → (Nat → HouseV) → HouseV → SightV → SightV → BestV → HouseV → SightV → IntrV → ToksV → QReadV → (Nat → Int32) → (Nat → Int32) → ModelV → (Nat → Int64) → Option Unit} (hk23 : ∀ (x4 : Int32) (v0 : GWV) (v1 : HouseV) (v2 : HouseV) (v3 : HistV) (v4 : Nat → HouseV) (v5 : HouseV) (v6 : SightV) (v7 : SightV) (v8 : BestV) (v9 : HouseV) (v10 : SightV) (v11 : IntrV) (v12 : ToksV) (v14 : QReadV) (v15 : Nat → Int32) (v16 : Nat → Int32) (v17 : ModelV) (v19 : Nat → Int64), k23 x4 v0 v1 v2 v3 v4 v5 v6 v7 v8 v9 v10 v11 v12 v14 v15 v16 v17 v19 = some () → WW E K (c + 3) (s + 18) Q 23 [(0, .ref bS), (1, .ref (a0 0)), (2, .ref (a17 0)), (3, .ref q19), (4, .int x4)] [] [wGW E a0 (rf10 (a1 0) (a2 0) (a3 0) (a6 0) (a7 0) (a8 0) (a11 0) (a12 0) (a13 0) (a14 0)) v0, wHouse E a1 v1, wHouse E a2 v2, wHist E a3 (rf2 q4 (a5 0)) v3, wHs E q4 ah4 v4, wHouse E a5 v5, wSight E a6 v6, wSight E a7 v7, wBest E a8 (rf2 (a9 0) (a10 0)) v8, wHouse E a9 v9, wSight E a10 v10, wIntr E a11 v11, wToks E a12 v12, wHRead E a13 (rf1 (a12 0)), wQRead E a14 (rf3 (a12 0) q15 q16) v14, wArr E q15 12 v15, wArr E q16 12 v16, wModel E a17 (rf2 (a17 1) q18) v17, wNm E q18, wLon E q19 v19]) {x4 : Int32} {v0 : GWV} {v1 : HouseV} {v2 : HouseV} {v3 : HistV} {v4 : Nat → HouseV} {v5 : HouseV} {v6 : SightV} {v7 : SightV} {v8 : BestV} {v9 : HouseV} {v10 : SightV} {v11 : IntrV} {v12 : ToksV} {v14 : QReadV} {v15 : Nat → Int32} {v16 : Nat → Int32} {v17 : ModelV} {v19 : Nat → Int64} (hf : Law_1305 L xs k23 x4 v0 v1 v2 v3 v4 v5 v6 v7 v8 v9 v10 v11 v12 v14 v15 v16 v17 v19 = some ()) : WW E K c s Q 1305 [(0, .ref bS), (1, .ref (a0 0)), (2, .ref (a17 0)), (3, .ref q19), (4, .int x4)] [] [wGW E a0 (rf10 (a1 0) (a2 0) (a3 0) (a6 0) (a7 0) (a8 0) (a11 0) (a12 0) (a13 0) (a14 0)) v0, wHouse E a1 v1, wHouse E a2 v2, wHist E a3 (rf2 q4 (a5 0)) v3, wHs E q4 ah4 v4, wHouse E a5 v5, wSight E a6 v6, wSight E a7 v7, wBest E a8 (rf2 (a9 0) (a10 0)) v8, wHouse E a9 v9, wSight E a10 v10, wIntr E a11 v11, wToks E a12 v12, wHRead E a13 (rf1 (a12 0)), wQRead E a14 (rf3 (a12 0) q15 q16) v14, wArr E q15 12 v15, wArr E q16 12 v16, wModel E a17 (rf2 (a17 1) q18) v17, wNm E q18, wLon E q19 v19] := by
  rw [Law_1305] at hf
  refine ww_aload_n C dL_law_1305 rfl 1 rfl ?_
  refine ww_aload_n C dL_law_1306 rfl 0 rfl ?_
  refine ww_iload C dL_law_1307 4 rfl ?_
  refine ww_iconst (v := 1) C dL_law_1309 (by decide) ?_
  refine ww_iadd C dL_law_1310 ?_
  obtain ⟨g_77, hf⟩ := gdE hf
  refine ww_sld C S0 (inB_vp g_77) dL_law_1311 ?_
  refine ww_aload_n C dL_law_1312 rfl 0 rfl ?_
  refine ww_iload C dL_law_1313 4 rfl ?_
  refine ww_iconst (v := 2) C dL_law_1315 (by decide) ?_
  refine ww_iadd C dL_law_1316 ?_
  obtain ⟨g_78, hf⟩ := gdE hf
  refine ww_sld C S0 (inB_vp g_78) dL_law_1317 ?_
  refine ww_aload_n C dL_law_1318 rfl 3 rfl ?_
  obtain ⟨p1319, hp1319, hf⟩ := bdE hf
  refine ww_callSL C T0 (As := [.ref (a0 0), .int (xs (Int32.toNatClampNeg (x4 + 1))), .int (xs (Int32.toNatClampNeg (x4 + 2))), .ref q19]) (st := []) (gr := [wHist E a3 (rf2 q4 (a5 0)) v3, wHs E q4 ah4 v4, wHouse E a5 v5, wSight E a6 v6, wBest E a8 (rf2 (a9 0) (a10 0)) v8, wHouse E a9 v9, wSight E a10 v10, wIntr E a11 v11, wToks E a12 v12, wHRead E a13 (rf1 (a12 0)), wQRead E a14 (rf3 (a12 0) q15 q16) v14, wArr E q15 12 v15, wArr E q16 12 v16, wModel E a17 (rf2 (a17 1) q18) v17, wNm E q18]) (c_L_worstWith (E := E) (a0 := a0) (h0_2 := a3 0) (h0_3 := a6 0) (h0_5 := a8 0) (h0_6 := a11 0) (h0_7 := a12 0) (h0_8 := a13 0) (h0_9 := a14 0) (a1 := a1) (a2 := a2) (a3 := a7) (q4 := q19) hp1319) gL_law_L_worstWith rfl ysk_L_worstWith ⟨by decide, by decide⟩ ⟨by show c + 2 ≤ 601024; omega, by show s + 12 ≤ 7293034; omega⟩ [0, 1, 2, 7, 19] [3, 4, 5, 6, 8, 9, 10, 11, 12, 13, 14, 15, 16, 17, 18] 20 rfl (by decide) rfl rfl (Nat.le_of_ble_eq_true rfl) dL_law_1319 ?_
  rintro _ _ ⟨rfl, rfl⟩
  refine ww_perm (gs' := [wGW E a0 (rf10 (a1 0) (a2 0) (a3 0) (a6 0) (a7 0) (a8 0) (a11 0) (a12 0) (a13 0) (a14 0)) v0, wHouse E a1 v1, wHouse E a2 p1319.2.1, wHist E a3 (rf2 q4 (a5 0)) v3, wHs E q4 ah4 v4, wHouse E a5 v5, wSight E a6 v6, wSight E a7 p1319.2.2.1, wBest E a8 (rf2 (a9 0) (a10 0)) v8, wHouse E a9 v9, wSight E a10 v10, wIntr E a11 v11, wToks E a12 v12, wHRead E a13 (rf1 (a12 0)), wQRead E a14 (rf3 (a12 0) q15 q16) v14, wArr E q15 12 v15, wArr E q16 12 v16, wModel E a17 (rf2 (a17 1) q18) v17, wNm E q18, wLon E q19 p1319.2.2.2]) [0, 1, 2, 5, 6, 7, 8, 3, 9, 10, 11, 12, 13, 14, 15, 16, 17, 18, 19, 4] 20 rfl (by decide) rfl ?_
  refine ww_istore (lv' := [(5, .int p1319.1), (0, .ref bS), (1, .ref (a0 0)), (2, .ref (a17 0)), (3, .ref q19), (4, .int x4)]) C dL_law_1322 (by decide) rfl ?_
  refine ww_aload_n C dL_law_1324 rfl 3 rfl ?_
  refine ww_aload_n C dL_law_1325 rfl 1 rfl ?_
  refine ww_iload C dL_law_1326 5 rfl ?_
  refine ww_iconst (v := 1) C dL_law_1328 (by decide) ?_
  refine ww_iadd C dL_law_1329 ?_
  refine ww_sld C S0 (inB_vp g_77) dL_law_1330 ?_
  refine ww_aload_n C dL_law_1331 rfl 1 rfl ?_
  refine ww_iload C dL_law_1332 5 rfl ?_
  refine ww_iconst (v := 2) C dL_law_1334 (by decide) ?_
  refine ww_iadd C dL_law_1335 ?_
  refine ww_sld C S0 (inB_vp g_78) dL_law_1336 ?_
  obtain ⟨p1337, hp1337, hf⟩ := bdE hf
  refine ww_callV C (As := [.int (xs (Int32.toNatClampNeg (x4 + 1))), .int (xs (Int32.toNatClampNeg (x4 + 2)))]) (st := []) (gr := [wGW E a0 (rf10 (a1 0) (a2 0) (a3 0) (a6 0) (a7 0) (a8 0) (a11 0) (a12 0) (a13 0) (a14 0)) v0, wHouse E a1 v1, wHouse E a2 p1319.2.1, wHist E a3 (rf2 q4 (a5 0)) v3, wHs E q4 ah4 v4, wHouse E a5 v5, wSight E a6 v6, wSight E a7 p1319.2.2.1, wBest E a8 (rf2 (a9 0) (a10 0)) v8, wHouse E a9 v9, wSight E a10 v10, wIntr E a11 v11, wToks E a12 v12, wHRead E a13 (rf1 (a12 0)), wQRead E a14 (rf3 (a12 0) q15 q16) v14, wArr E q15 12 v15, wArr E q16 12 v16, wNm E q18, wLon E q19 p1319.2.2.2]) (c_X9_worstWith (E := E) (a0 := a17) (h0_1 := q18) hp1337) gL_law_X9_worstWith rfl yk_X9_worstWith ⟨by decide, by decide⟩ ⟨by show c + 2 + 0 ≤ 601024; omega, by show s + 12 + 0 ≤ 7293034; omega⟩ clOK9 0 0 rfl rfl [17] [0, 1, 2, 3, 4, 5, 6, 7, 8, 9, 10, 11, 12, 13, 14, 15, 16, 18, 19] 20 rfl (by decide) rfl rfl (Nat.le_of_ble_eq_true rfl) dL_law_1337 ?_
  rintro _ _ ⟨rfl, rfl⟩
  refine ww_perm (gs' := [wGW E a0 (rf10 (a1 0) (a2 0) (a3 0) (a6 0) (a7 0) (a8 0) (a11 0) (a12 0) (a13 0) (a14 0)) v0, wHouse E a1 v1, wHouse E a2 p1319.2.1, wHist E a3 (rf2 q4 (a5 0)) v3, wHs E q4 ah4 v4, wHouse E a5 v5, wSight E a6 v6, wSight E a7 p1319.2.2.1, wBest E a8 (rf2 (a9 0) (a10 0)) v8, wHouse E a9 v9, wSight E a10 v10, wIntr E a11 v11, wToks E a12 v12, wHRead E a13 (rf1 (a12 0)), wQRead E a14 (rf3 (a12 0) q15 q16) v14, wArr E q15 12 v15, wArr E q16 12 v16, wModel E a17 (rf2 (a17 1) q18) p1337.2, wNm E q18, wLon E q19 p1319.2.2.2]) [1, 2, 3, 4, 5, 6, 7, 8, 9, 10, 11, 12, 13, 14, 15, 16, 17, 0, 18, 19] 20 rfl (by decide) rfl ?_
  refine ww_istore (lv' := [(6, .int p1337.1), (5, .int p1319.1), (0, .ref bS), (1, .ref (a0 0)), (2, .ref (a17 0)), (3, .ref q19), (4, .int x4)]) C dL_law_1340 (by decide) rfl ?_
  refine ww_aload_n C dL_law_1342 rfl 4 rfl ?_
  obtain ⟨p1343, hp1343, hf⟩ := bdE hf
  refine ww_callV C (As := []) (st := []) (gr := [wGW E a0 (rf10 (a1 0) (a2 0) (a3 0) (a6 0) (a7 0) (a8 0) (a11 0) (a12 0) (a13 0) (a14 0)) v0, wHouse E a1 v1, wHouse E a2 p1319.2.1, wHist E a3 (rf2 q4 (a5 0)) v3, wHs E q4 ah4 v4, wHouse E a5 v5, wSight E a6 v6, wSight E a7 p1319.2.2.1, wBest E a8 (rf2 (a9 0) (a10 0)) v8, wHouse E a9 v9, wSight E a10 v10, wIntr E a11 v11, wToks E a12 v12, wHRead E a13 (rf1 (a12 0)), wQRead E a14 (rf3 (a12 0) q15 q16) v14, wArr E q15 12 v15, wArr E q16 12 v16, wNm E q18, wLon E q19 p1319.2.2.2]) (c_X9_thrown (E := E) (a0 := a17) (h0_0 := a17 1) (h0_1 := q18) hp1343) gL_law_X9_thrown rfl yk_X9_thrown ⟨by decide, by decide⟩ ⟨by show c + 2 + 0 + 0 ≤ 601024; omega, by show s + 12 + 0 + 0 ≤ 7293034; omega⟩ clOK9 0 0 rfl rfl [17] [0, 1, 2, 3, 4, 5, 6, 7, 8, 9, 10, 11, 12, 13, 14, 15, 16, 18, 19] 20 rfl (by decide) rfl rfl (Nat.le_of_ble_eq_true rfl) dL_law_1343 ?_
  rintro _ _ ⟨rfl, rfl⟩
  refine ww_perm (gs' := [wGW E a0 (rf10 (a1 0) (a2 0) (a3 0) (a6 0) (a7 0) (a8 0) (a11 0) (a12 0) (a13 0) (a14 0)) v0, wHouse E a1 v1, wHouse E a2 p1319.2.1, wHist E a3 (rf2 q4 (a5 0)) v3, wHs E q4 ah4 v4, wHouse E a5 v5, wSight E a6 v6, wSight E a7 p1319.2.2.1, wBest E a8 (rf2 (a9 0) (a10 0)) v8, wHouse E a9 v9, wSight E a10 v10, wIntr E a11 v11, wToks E a12 v12, wHRead E a13 (rf1 (a12 0)), wQRead E a14 (rf3 (a12 0) q15 q16) v14, wArr E q15 12 v15, wArr E q16 12 v16, wModel E a17 (rf2 (a17 1) q18) p1337.2, wNm E q18, wLon E q19 p1319.2.2.2]) [1, 2, 3, 4, 5, 6, 7, 8, 9, 10, 11, 12, 13, 14, 15, 16, 17, 0, 18, 19] 20 rfl (by decide) rfl ?_
  refine ww_iload C dL_law_1346 1 rfl ?_
  refine ww_icmp_eq (tgt := 1353) C dL_law_1348 (by decide) (fun c_79 => ?_) (fun c_79 => ?_)
  · replace hf := ifT c_79 hf
    refine ww_iload C dL_law_1353 1 rfl ?_
    refine ww_if_ne (tgt := 1370) C dL_law_1355 (by decide) (fun c_80 => ?_) (fun c_80 => ?_)
    · replace hf := ifF c_80 hf
      refine ww_goto (tgt := 2229) C dL_law_1370 (by decide) ?_
      obtain ⟨x4_2229, e_x4_2229⟩ : ∃ y : Int32, y = x4 + 6 := ⟨_, rfl⟩
      replace hf := ltE e_x4_2229 hf
      refine ww_iinc (v := x4_2229) (lv' := [(4, .int x4_2229), (6, .int p1337.1), (5, .int p1319.1), (0, .ref bS), (1, .ref (a0 0)), (2, .ref (a17 0)), (3, .ref q19)]) C dL_law_2229 6 rfl (by rw [e_x4_2229]; rfl) (by decide) rfl ?_
      refine ww_goto (tgt := 23) C dL_law_2232 (by decide) ?_
      refine ww_sub C (lv' := [(0, .ref bS), (1, .ref (a0 0)), (2, .ref (a17 0)), (3, .ref q19), (4, .int x4_2229)]) [3, 4, 5, 6, 0] rfl ?_
      refine ww_widen (k := c + 3) (n := s + 18) (by show c + 2 + 0 + 0 ≤ c + 3; omega) (by show s + 12 + 0 + 0 ≤ s + 18; omega) ?_
      exact hk23 _ _ _ _ _ _ _ _ _ _ _ _ _ _ _ _ _ _ _ hf
    · replace hf := ifT c_80 hf
      refine ww_aload_n C dL_law_1358 rfl 5 rfl ?_
      refine ww_iconst (v := 0) C dL_law_1359 (by decide) ?_
      obtain ⟨g_81, hf⟩ := gdE hf
      refine ww_lald C (f := p1319.2.2.2) (w := wLon E q19 p1319.2.2.2) 19 0 rfl q_Lon (inB_vp g_81) dL_law_1360 ?_
      refine ww_iload C dL_law_1361 0 rfl ?_
      refine ww_i2l C dL_law_1363 ?_
      refine ww_lcmp C dL_law_1364 ?_
      refine ww_if_eq (tgt := 1370) C dL_law_1365 (by decide) (fun c_82 => ?_) (fun c_82 => ?_)
      · replace hf := ifT c_82 hf
        refine ww_goto (tgt := 2229) C dL_law_1370 (by decide) ?_
        obtain ⟨x4_2229, e_x4_2229⟩ : ∃ y : Int32, y = x4 + 6 := ⟨_, rfl⟩
        replace hf := ltE e_x4_2229 hf
        refine ww_iinc (v := x4_2229) (lv' := [(4, .int x4_2229), (6, .int p1337.1), (5, .int p1319.1), (0, .ref bS), (1, .ref (a0 0)), (2, .ref (a17 0)), (3, .ref q19)]) C dL_law_2229 6 rfl (by rw [e_x4_2229]; rfl) (by decide) rfl ?_
        refine ww_goto (tgt := 23) C dL_law_2232 (by decide) ?_
        refine ww_sub C (lv' := [(0, .ref bS), (1, .ref (a0 0)), (2, .ref (a17 0)), (3, .ref q19), (4, .int x4_2229)]) [3, 4, 5, 6, 0] rfl ?_
        refine ww_widen (k := c + 3) (n := s + 18) (by show c + 2 + 0 + 0 ≤ c + 3; omega) (by show s + 12 + 0 + 0 ≤ s + 18; omega) ?_
        exact hk23 _ _ _ _ _ _ _ _ _ _ _ _ _ _ _ _ _ _ _ hf
      · replace hf := ifF c_82 hf
        refine ww_iconst (v := 0) C dL_law_1368 (by decide) ?_
        cases hf
  · replace hf := ifF c_79 hf
    refine ww_iconst (v := 0) C dL_law_1351 (by decide) ?_
    cases hf

set_option maxHeartbeats 8000000 in
set_option maxRecDepth 100000 in
theorem w_L_law_1373 {E : Ex} {K : Kx} (C : Cx E K cL_law 9 (some .boolean) RL wsL_law rmL_law) {a0 : Nat → Nat} {a1 : Nat → Nat} {a2 : Nat → Nat} {a3 : Nat → Nat} {q4 : Nat} {ah4 : Nat → Nat → Nat} {a5 : Nat → Nat} {a6 : Nat → Nat} {a7 : Nat → Nat} {a8 : Nat → Nat} {a9 : Nat → Nat} {a10 : Nat → Nat} {a11 : Nat → Nat} {a12 : Nat → Nat} {a13 : Nat → Nat} {a14 : Nat → Nat} {q15 : Nat} {q16 : Nat} {a17 : Nat → Nat} {q18 : Nat} {q19 : Nat} {bS L : Nat} {xs : Nat → Int32} {Q : State → Prop} (T0 : TL E K) (S0 : SX bS L xs K) (HR : ∀ (c s : Nat) (lv : List (Nat × Value)) (gs : List va_W), c ≤ 601024 → s ≤ 7293034 → WW E K c s Q 2236 lv [.int 1] gs) {c s : Nat} (hc : c + 3 ≤ 601024) (hs : s + 18 ≤ 7293034) {k23 : Int32 → GWV → HouseV → HouseV → HistV → (Nat → HouseV) → HouseV → SightV → SightV → BestV → HouseV → SightV → IntrV → ToksV → QReadV → (Nat → Int32) → (Nat → Int32) → ModelV → (Nat → Int64) → Option Unit} (hk23 : ∀ (x4 : Int32) (v0 : GWV) (v1 : HouseV) (v2 : HouseV) (v3 : HistV) (v4 : Nat → HouseV) (v5 : HouseV) (v6 : SightV) (v7 : SightV) (v8 : BestV) (v9 : HouseV) (v10 : SightV) (v11 : IntrV) (v12 : ToksV) (v14 : QReadV) (v15 : Nat → Int32) (v16 : Nat → Int32) (v17 : ModelV) (v19 : Nat → Int64), k23 x4 v0 v1 v2 v3 v4 v5 v6 v7 v8 v9 v10 v11 v12 v14 v15 v16 v17 v19 = some () → WW E K (c + 3) (s + 18) Q 23 [(0, .ref bS), (1, .ref (a0 0)), (2, .ref (a17 0)), (3, .ref q19), (4, .int x4)] [] [wGW E a0 (rf10 (a1 0) (a2 0) (a3 0) (a6 0) (a7 0) (a8 0) (a11 0) (a12 0) (a13 0) (a14 0)) v0, wHouse E a1 v1, wHouse E a2 v2, wHist E a3 (rf2 q4 (a5 0)) v3, wHs E q4 ah4 v4, wHouse E a5 v5, wSight E a6 v6, wSight E a7 v7, wBest E a8 (rf2 (a9 0) (a10 0)) v8, wHouse E a9 v9, wSight E a10 v10, wIntr E a11 v11, wToks E a12 v12, wHRead E a13 (rf1 (a12 0)), wQRead E a14 (rf3 (a12 0) q15 q16) v14, wArr E q15 12 v15, wArr E q16 12 v16, wModel E a17 (rf2 (a17 1) q18) v17, wNm E q18, wLon E q19 v19]) {x4 : Int32} {v0 : GWV} {v1 : HouseV} {v2 : HouseV} {v3 : HistV} {v4 : Nat → HouseV} {v5 : HouseV} {v6 : SightV} {v7 : SightV} {v8 : BestV} {v9 : HouseV} {v10 : SightV} {v11 : IntrV} {v12 : ToksV} {v14 : QReadV} {v15 : Nat → Int32} {v16 : Nat → Int32} {v17 : ModelV} {v19 : Nat → Int64} (hf : Law_1373 L xs k23 x4 v0 v1 v2 v3 v4 v5 v6 v7 v8 v9 v10 v11 v12 v14 v15 v16 v17 v19 = some ()) : WW E K c s Q 1373 [(0, .ref bS), (1, .ref (a0 0)), (2, .ref (a17 0)), (3, .ref q19), (4, .int x4)] [] [wGW E a0 (rf10 (a1 0) (a2 0) (a3 0) (a6 0) (a7 0) (a8 0) (a11 0) (a12 0) (a13 0) (a14 0)) v0, wHouse E a1 v1, wHouse E a2 v2, wHist E a3 (rf2 q4 (a5 0)) v3, wHs E q4 ah4 v4, wHouse E a5 v5, wSight E a6 v6, wSight E a7 v7, wBest E a8 (rf2 (a9 0) (a10 0)) v8, wHouse E a9 v9, wSight E a10 v10, wIntr E a11 v11, wToks E a12 v12, wHRead E a13 (rf1 (a12 0)), wQRead E a14 (rf3 (a12 0) q15 q16) v14, wArr E q15 12 v15, wArr E q16 12 v16, wModel E a17 (rf2 (a17 1) q18) v17, wNm E q18, wLon E q19 v19] := by
  rw [Law_1373] at hf
  refine ww_aload_n C dL_law_1373 rfl 1 rfl ?_
  obtain ⟨p1374, hp1374, hf⟩ := bdE hf
  refine ww_callV C (As := []) (st := []) (gr := [wHouse E a2 v2, wHist E a3 (rf2 q4 (a5 0)) v3, wHs E q4 ah4 v4, wHouse E a5 v5, wSight E a6 v6, wSight E a7 v7, wIntr E a11 v11, wToks E a12 v12, wHRead E a13 (rf1 (a12 0)), wQRead E a14 (rf3 (a12 0) q15 q16) v14, wArr E q15 12 v15, wArr E q16 12 v16, wModel E a17 (rf2 (a17 1) q18) v17, wNm E q18, wLon E q19 v19]) (c_X8_bestWorst (E := E) (a0 := a0) (h0_1 := a2 0) (h0_2 := a3 0) (h0_3 := a6 0) (h0_4 := a7 0) (h0_6 := a11 0) (h0_7 := a12 0) (h0_8 := a13 0) (h0_9 := a14 0) (a1 := a1) (a2 := a8) (a3 := a9) (a4 := a10) hp1374) gL_law_X8_bestWorst rfl yk_X8_bestWorst ⟨by decide, by decide⟩ ⟨by show c + 0 ≤ 601024; omega, by show s + 0 ≤ 7293034; omega⟩ clOK8 0 0 rfl rfl [0, 1, 8, 9, 10] [2, 3, 4, 5, 6, 7, 11, 12, 13, 14, 15, 16, 17, 18, 19] 20 rfl (by decide) rfl rfl (Nat.le_of_ble_eq_true rfl) dL_law_1374 ?_
  rintro _ _ ⟨rfl, rfl⟩
  refine ww_perm (gs' := [wGW E a0 (rf10 (a1 0) (a2 0) (a3 0) (a6 0) (a7 0) (a8 0) (a11 0) (a12 0) (a13 0) (a14 0)) v0, wHouse E a1 v1, wHouse E a2 v2, wHist E a3 (rf2 q4 (a5 0)) v3, wHs E q4 ah4 v4, wHouse E a5 v5, wSight E a6 v6, wSight E a7 v7, wBest E a8 (rf2 (a9 0) (a10 0)) p1374.2.1, wHouse E a9 p1374.2.2.1, wSight E a10 p1374.2.2.2, wIntr E a11 v11, wToks E a12 v12, wHRead E a13 (rf1 (a12 0)), wQRead E a14 (rf3 (a12 0) q15 q16) v14, wArr E q15 12 v15, wArr E q16 12 v16, wModel E a17 (rf2 (a17 1) q18) v17, wNm E q18, wLon E q19 v19]) [0, 1, 5, 6, 7, 8, 9, 10, 2, 3, 4, 11, 12, 13, 14, 15, 16, 17, 18, 19] 20 rfl (by decide) rfl ?_
  refine ww_aload_n C dL_law_1377 rfl 2 rfl ?_
  obtain ⟨p1378, hp1378, hf⟩ := bdE hf
  refine ww_callV C (As := []) (st := [.int p1374.1]) (gr := [wGW E a0 (rf10 (a1 0) (a2 0) (a3 0) (a6 0) (a7 0) (a8 0) (a11 0) (a12 0) (a13 0) (a14 0)) v0, wHouse E a1 v1, wHouse E a2 v2, wHist E a3 (rf2 q4 (a5 0)) v3, wHs E q4 ah4 v4, wHouse E a5 v5, wSight E a6 v6, wSight E a7 v7, wBest E a8 (rf2 (a9 0) (a10 0)) p1374.2.1, wHouse E a9 p1374.2.2.1, wSight E a10 p1374.2.2.2, wIntr E a11 v11, wToks E a12 v12, wHRead E a13 (rf1 (a12 0)), wQRead E a14 (rf3 (a12 0) q15 q16) v14, wArr E q15 12 v15, wArr E q16 12 v16, wNm E q18, wLon E q19 v19]) (c_X9_bestWorst (E := E) (a0 := a17) (h0_1 := q18) hp1378) gL_law_X9_bestWorst rfl yk_X9_bestWorst ⟨by decide, by decide⟩ ⟨by show c + 0 + 0 ≤ 601024; omega, by show s + 0 + 0 ≤ 7293034; omega⟩ clOK9 0 0 rfl rfl [17] [0, 1, 2, 3, 4, 5, 6, 7, 8, 9, 10, 11, 12, 13, 14, 15, 16, 18, 19] 20 rfl (by decide) rfl rfl (Nat.le_of_ble_eq_true rfl) dL_law_1378 ?_
  rintro _ _ ⟨rfl, rfl⟩
  refine ww_perm (gs' := [wGW E a0 (rf10 (a1 0) (a2 0) (a3 0) (a6 0) (a7 0) (a8 0) (a11 0) (a12 0) (a13 0) (a14 0)) v0, wHouse E a1 v1, wHouse E a2 v2, wHist E a3 (rf2 q4 (a5 0)) v3, wHs E q4 ah4 v4, wHouse E a5 v5, wSight E a6 v6, wSight E a7 v7, wBest E a8 (rf2 (a9 0) (a10 0)) p1374.2.1, wHouse E a9 p1374.2.2.1, wSight E a10 p1374.2.2.2, wIntr E a11 v11, wToks E a12 v12, wHRead E a13 (rf1 (a12 0)), wQRead E a14 (rf3 (a12 0) q15 q16) v14, wArr E q15 12 v15, wArr E q16 12 v16, wModel E a17 (rf2 (a17 1) q18) p1378.2, wNm E q18, wLon E q19 v19]) [1, 2, 3, 4, 5, 6, 7, 8, 9, 10, 11, 12, 13, 14, 15, 16, 17, 0, 18, 19] 20 rfl (by decide) rfl ?_
  refine ww_icmp_eq (tgt := 2229) C dL_law_1381 (by decide) (fun c_76 => ?_) (fun c_76 => ?_)
  · replace hf := ifT c_76 hf
    obtain ⟨x4_2229, e_x4_2229⟩ : ∃ y : Int32, y = x4 + 6 := ⟨_, rfl⟩
    replace hf := ltE e_x4_2229 hf
    refine ww_iinc (v := x4_2229) (lv' := [(4, .int x4_2229), (0, .ref bS), (1, .ref (a0 0)), (2, .ref (a17 0)), (3, .ref q19)]) C dL_law_2229 4 rfl (by rw [e_x4_2229]; rfl) (by decide) rfl ?_
    refine ww_goto (tgt := 23) C dL_law_2232 (by decide) ?_
    refine ww_sub C (lv' := [(0, .ref bS), (1, .ref (a0 0)), (2, .ref (a17 0)), (3, .ref q19), (4, .int x4_2229)]) [1, 2, 3, 4, 0] rfl ?_
    refine ww_widen (k := c + 3) (n := s + 18) (by show c + 0 + 0 ≤ c + 3; omega) (by show s + 0 + 0 ≤ s + 18; omega) ?_
    exact hk23 _ _ _ _ _ _ _ _ _ _ _ _ _ _ _ _ _ _ _ hf
  · replace hf := ifF c_76 hf
    refine ww_iconst (v := 0) C dL_law_1384 (by decide) ?_
    cases hf

set_option maxHeartbeats 8000000 in
set_option maxRecDepth 100000 in
theorem w_L_law_1386 {E : Ex} {K : Kx} (C : Cx E K cL_law 9 (some .boolean) RL wsL_law rmL_law) {a0 : Nat → Nat} {a1 : Nat → Nat} {a2 : Nat → Nat} {a3 : Nat → Nat} {q4 : Nat} {ah4 : Nat → Nat → Nat} {a5 : Nat → Nat} {a6 : Nat → Nat} {a7 : Nat → Nat} {a8 : Nat → Nat} {a9 : Nat → Nat} {a10 : Nat → Nat} {a11 : Nat → Nat} {a12 : Nat → Nat} {a13 : Nat → Nat} {a14 : Nat → Nat} {q15 : Nat} {q16 : Nat} {a17 : Nat → Nat} {q18 : Nat} {q19 : Nat} {bS L : Nat} {xs : Nat → Int32} {Q : State → Prop} (T0 : TL E K) (S0 : SX bS L xs K) (HR : ∀ (c s : Nat) (lv : List (Nat × Value)) (gs : List va_W), c ≤ 601024 → s ≤ 7293034 → WW E K c s Q 2236 lv [.int 1] gs) {c s : Nat} (hc : c + 3 ≤ 601024) (hs : s + 18 ≤ 7293034) {k23 : Int32 → GWV → HouseV → HouseV → HistV → (Nat → HouseV) → HouseV → SightV → SightV → BestV → HouseV → SightV → IntrV → ToksV → QReadV → (Nat → Int32) → (Nat → Int32) → ModelV → (Nat → Int64) → Option Unit} (hk23 : ∀ (x4 : Int32) (v0 : GWV) (v1 : HouseV) (v2 : HouseV) (v3 : HistV) (v4 : Nat → HouseV) (v5 : HouseV) (v6 : SightV) (v7 : SightV) (v8 : BestV) (v9 : HouseV) (v10 : SightV) (v11 : IntrV) (v12 : ToksV) (v14 : QReadV) (v15 : Nat → Int32) (v16 : Nat → Int32) (v17 : ModelV) (v19 : Nat → Int64), k23 x4 v0 v1 v2 v3 v4 v5 v6 v7 v8 v9 v10 v11 v12 v14 v15 v16 v17 v19 = some () → WW E K (c + 3) (s + 18) Q 23 [(0, .ref bS), (1, .ref (a0 0)), (2, .ref (a17 0)), (3, .ref q19), (4, .int x4)] [] [wGW E a0 (rf10 (a1 0) (a2 0) (a3 0) (a6 0) (a7 0) (a8 0) (a11 0) (a12 0) (a13 0) (a14 0)) v0, wHouse E a1 v1, wHouse E a2 v2, wHist E a3 (rf2 q4 (a5 0)) v3, wHs E q4 ah4 v4, wHouse E a5 v5, wSight E a6 v6, wSight E a7 v7, wBest E a8 (rf2 (a9 0) (a10 0)) v8, wHouse E a9 v9, wSight E a10 v10, wIntr E a11 v11, wToks E a12 v12, wHRead E a13 (rf1 (a12 0)), wQRead E a14 (rf3 (a12 0) q15 q16) v14, wArr E q15 12 v15, wArr E q16 12 v16, wModel E a17 (rf2 (a17 1) q18) v17, wNm E q18, wLon E q19 v19]) {x4 : Int32} {v0 : GWV} {v1 : HouseV} {v2 : HouseV} {v3 : HistV} {v4 : Nat → HouseV} {v5 : HouseV} {v6 : SightV} {v7 : SightV} {v8 : BestV} {v9 : HouseV} {v10 : SightV} {v11 : IntrV} {v12 : ToksV} {v14 : QReadV} {v15 : Nat → Int32} {v16 : Nat → Int32} {v17 : ModelV} {v19 : Nat → Int64} (hf : Law_1386 L xs k23 x4 v0 v1 v2 v3 v4 v5 v6 v7 v8 v9 v10 v11 v12 v14 v15 v16 v17 v19 = some ()) : WW E K c s Q 1386 [(0, .ref bS), (1, .ref (a0 0)), (2, .ref (a17 0)), (3, .ref q19), (4, .int x4)] [] [wGW E a0 (rf10 (a1 0) (a2 0) (a3 0) (a6 0) (a7 0) (a8 0) (a11 0) (a12 0) (a13 0) (a14 0)) v0, wHouse E a1 v1, wHouse E a2 v2, wHist E a3 (rf2 q4 (a5 0)) v3, wHs E q4 ah4 v4, wHouse E a5 v5, wSight E a6 v6, wSight E a7 v7, wBest E a8 (rf2 (a9 0) (a10 0)) v8, wHouse E a9 v9, wSight E a10 v10, wIntr E a11 v11, wToks E a12 v12, wHRead E a13 (rf1 (a12 0)), wQRead E a14 (rf3 (a12 0) q15 q16) v14, wArr E q15 12 v15, wArr E q16 12 v16, wModel E a17 (rf2 (a17 1) q18) v17, wNm E q18, wLon E q19 v19] := by
  rw [Law_1386] at hf
  refine ww_aload_n C dL_law_1386 rfl 1 rfl ?_
  obtain ⟨p1387, hp1387, hf⟩ := bdE hf
  refine ww_callV C (As := []) (st := []) (gr := [wHouse E a2 v2, wHist E a3 (rf2 q4 (a5 0)) v3, wHs E q4 ah4 v4, wHouse E a5 v5, wSight E a6 v6, wSight E a7 v7, wIntr E a11 v11, wToks E a12 v12, wHRead E a13 (rf1 (a12 0)), wQRead E a14 (rf3 (a12 0) q15 q16) v14, wArr E q15 12 v15, wArr E q16 12 v16, wModel E a17 (rf2 (a17 1) q18) v17, wNm E q18, wLon E q19 v19]) (c_X8_bestCrossings (E := E) (a0 := a0) (h0_1 := a2 0) (h0_2 := a3 0) (h0_3 := a6 0) (h0_4 := a7 0) (h0_6 := a11 0) (h0_7 := a12 0) (h0_8 := a13 0) (h0_9 := a14 0) (a1 := a1) (a2 := a8) (a3 := a9) (a4 := a10) hp1387) gL_law_X8_bestCrossings rfl yk_X8_bestCrossings ⟨by decide, by decide⟩ ⟨by show c + 0 ≤ 601024; omega, by show s + 0 ≤ 7293034; omega⟩ clOK8 0 0 rfl rfl [0, 1, 8, 9, 10] [2, 3, 4, 5, 6, 7, 11, 12, 13, 14, 15, 16, 17, 18, 19] 20 rfl (by decide) rfl rfl (Nat.le_of_ble_eq_true rfl) dL_law_1387 ?_
  rintro _ _ ⟨rfl, rfl⟩
  refine ww_perm (gs' := [wGW E a0 (rf10 (a1 0) (a2 0) (a3 0) (a6 0) (a7 0) (a8 0) (a11 0) (a12 0) (a13 0) (a14 0)) v0, wHouse E a1 v1, wHouse E a2 v2, wHist E a3 (rf2 q4 (a5 0)) v3, wHs E q4 ah4 v4, wHouse E a5 v5, wSight E a6 v6, wSight E a7 v7, wBest E a8 (rf2 (a9 0) (a10 0)) p1387.2.1, wHouse E a9 p1387.2.2.1, wSight E a10 p1387.2.2.2, wIntr E a11 v11, wToks E a12 v12, wHRead E a13 (rf1 (a12 0)), wQRead E a14 (rf3 (a12 0) q15 q16) v14, wArr E q15 12 v15, wArr E q16 12 v16, wModel E a17 (rf2 (a17 1) q18) v17, wNm E q18, wLon E q19 v19]) [0, 1, 5, 6, 7, 8, 9, 10, 2, 3, 4, 11, 12, 13, 14, 15, 16, 17, 18, 19] 20 rfl (by decide) rfl ?_
  refine ww_aload_n C dL_law_1390 rfl 2 rfl ?_
  obtain ⟨p1391, hp1391, hf⟩ := bdE hf
  refine ww_callV C (As := []) (st := [.int p1387.1]) (gr := [wGW E a0 (rf10 (a1 0) (a2 0) (a3 0) (a6 0) (a7 0) (a8 0) (a11 0) (a12 0) (a13 0) (a14 0)) v0, wHouse E a1 v1, wHouse E a2 v2, wHist E a3 (rf2 q4 (a5 0)) v3, wHs E q4 ah4 v4, wHouse E a5 v5, wSight E a6 v6, wSight E a7 v7, wBest E a8 (rf2 (a9 0) (a10 0)) p1387.2.1, wHouse E a9 p1387.2.2.1, wSight E a10 p1387.2.2.2, wIntr E a11 v11, wToks E a12 v12, wHRead E a13 (rf1 (a12 0)), wQRead E a14 (rf3 (a12 0) q15 q16) v14, wArr E q15 12 v15, wArr E q16 12 v16, wNm E q18, wLon E q19 v19]) (c_X9_bestCrossings (E := E) (a0 := a17) (h0_1 := q18) hp1391) gL_law_X9_bestCrossings rfl yk_X9_bestCrossings ⟨by decide, by decide⟩ ⟨by show c + 0 + 0 ≤ 601024; omega, by show s + 0 + 0 ≤ 7293034; omega⟩ clOK9 0 0 rfl rfl [17] [0, 1, 2, 3, 4, 5, 6, 7, 8, 9, 10, 11, 12, 13, 14, 15, 16, 18, 19] 20 rfl (by decide) rfl rfl (Nat.le_of_ble_eq_true rfl) dL_law_1391 ?_
  rintro _ _ ⟨rfl, rfl⟩
  refine ww_perm (gs' := [wGW E a0 (rf10 (a1 0) (a2 0) (a3 0) (a6 0) (a7 0) (a8 0) (a11 0) (a12 0) (a13 0) (a14 0)) v0, wHouse E a1 v1, wHouse E a2 v2, wHist E a3 (rf2 q4 (a5 0)) v3, wHs E q4 ah4 v4, wHouse E a5 v5, wSight E a6 v6, wSight E a7 v7, wBest E a8 (rf2 (a9 0) (a10 0)) p1387.2.1, wHouse E a9 p1387.2.2.1, wSight E a10 p1387.2.2.2, wIntr E a11 v11, wToks E a12 v12, wHRead E a13 (rf1 (a12 0)), wQRead E a14 (rf3 (a12 0) q15 q16) v14, wArr E q15 12 v15, wArr E q16 12 v16, wModel E a17 (rf2 (a17 1) q18) p1391.2, wNm E q18, wLon E q19 v19]) [1, 2, 3, 4, 5, 6, 7, 8, 9, 10, 11, 12, 13, 14, 15, 16, 17, 0, 18, 19] 20 rfl (by decide) rfl ?_
  refine ww_icmp_eq (tgt := 2229) C dL_law_1394 (by decide) (fun c_75 => ?_) (fun c_75 => ?_)
  · replace hf := ifT c_75 hf
    obtain ⟨x4_2229, e_x4_2229⟩ : ∃ y : Int32, y = x4 + 6 := ⟨_, rfl⟩
    replace hf := ltE e_x4_2229 hf
    refine ww_iinc (v := x4_2229) (lv' := [(4, .int x4_2229), (0, .ref bS), (1, .ref (a0 0)), (2, .ref (a17 0)), (3, .ref q19)]) C dL_law_2229 4 rfl (by rw [e_x4_2229]; rfl) (by decide) rfl ?_
    refine ww_goto (tgt := 23) C dL_law_2232 (by decide) ?_
    refine ww_sub C (lv' := [(0, .ref bS), (1, .ref (a0 0)), (2, .ref (a17 0)), (3, .ref q19), (4, .int x4_2229)]) [1, 2, 3, 4, 0] rfl ?_
    refine ww_widen (k := c + 3) (n := s + 18) (by show c + 0 + 0 ≤ c + 3; omega) (by show s + 0 + 0 ≤ s + 18; omega) ?_
    exact hk23 _ _ _ _ _ _ _ _ _ _ _ _ _ _ _ _ _ _ _ hf
  · replace hf := ifF c_75 hf
    refine ww_iconst (v := 0) C dL_law_1397 (by decide) ?_
    cases hf

